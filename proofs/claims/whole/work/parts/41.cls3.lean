/-! the class: draws, lives, laws, prices, sums over the lamps -/
theorem clp_eq (v : Int32) {a b : Int32} (h : a ≤ b) : (if a < (if v < b then v else b) then (if v < b then v else b) else a) = S_clp v a b := by
  unfold S_clp
  rw [Int32.le_iff_toInt_le] at h
  by_cases h1 : v < b
  · rw [if_pos h1]
    rw [Int32.lt_iff_toInt_lt] at h1
    by_cases h2 : v < a
    · rw [if_pos h2, if_neg (by rw [Int32.lt_iff_toInt_lt] at h2 ⊢; omega)]
    · rw [if_neg h2, if_neg (show ¬ b < v by rw [Int32.lt_iff_toInt_lt]; omega)]
      by_cases h3 : a < v
      · rw [if_pos h3]
      · rw [if_neg h3]
        apply Int32.toInt_inj.mp
        rw [Int32.lt_iff_toInt_lt] at h2 h3
        omega
  · rw [if_neg h1]
    rw [Int32.lt_iff_toInt_lt] at h1
    rw [if_neg (show ¬ v < a by rw [Int32.lt_iff_toInt_lt]; omega)]
    by_cases h3 : b < v
    · rw [if_pos h3]
      by_cases h4 : a < b
      · rw [if_pos h4]
      · rw [if_neg h4]
        apply Int32.toInt_inj.mp
        rw [Int32.lt_iff_toInt_lt] at h4
        omega
    · rw [if_neg h3]
      have e : v = b := by
        apply Int32.toInt_inj.mp
        rw [Int32.lt_iff_toInt_lt] at h3
        omega
      subst e
      by_cases h4 : a < v
      · rw [if_pos h4]
      · rw [if_neg h4]
        apply Int32.toInt_inj.mp
        rw [Int32.lt_iff_toInt_lt] at h4
        omega
theorem am_add0 (x : Int32) : x + nI 0 = x := Int32.add_zero x
theorem S_dim_giv (R : am_R) (ofc kd dr : Int32) : S_clp (S_giv R (S_Fk R 0 ofc kd dr) 0 (if nI 5 ≤ R 0 then nI 100 else nI 50)) (nI 0) (nI 100) = S_dim R ofc := by
  unfold S_dim S_giv
  cases S_cnt R 0 (nn (R 6)) with
  | none =>
    show S_clp (if nI 5 ≤ R 0 then nI 100 else nI 50) (nI 0) (nI 100) = if nI 5 ≤ R 0 then nI 100 else nI 50
    split <;> rfl
  | some t => rfl
theorem S_life_giv (R : am_R) (l : Nat) : S_clp (S_giv R (S_Fk R 1 (R (77 + 7 * l + 3)) (R (77 + 7 * l)) (R (77 + 7 * l + 2))) 1 (nI 4000)) (nI 1) (nI 30000) = S_life R l := by
  unfold S_life S_giv
  cases S_cnt R 1 (nn (R 6)) with
  | none => rfl
  | some t => rfl
def S_price (R : am_R) : Int32 := match S_cnt R 2 (nn (R 6)) with
  | none => nI 10
  | some t => S_clp (S_val R (S_F (R 0) (R 1) 0) t) (nI 0) (nI 999)
theorem S_price_giv (R : am_R) (kd dr : Int32) : S_clp (S_giv R (S_Fk R 2 0 kd dr) 2 (nI 10)) (nI 0) (nI 999) = S_price R := by
  unfold S_price S_giv
  cases S_cnt R 2 (nn (R 6)) with
  | none => rfl
  | some t => rfl
def S_law (R : am_R) (k : Nat) : Int32 := S_giv R (S_Fk R 3 (nI k) (nI 0) (nI 0)) 3 (nI 0)
theorem c_X9_drawsDimmed {d n : Nat} {mem : am_M} {Q : am_P} {t : Nat} {R : am_R} (ht : am_T t) (hC : CplT t R mem) (l : Nat) (hl : l < nn (R 5)) (hQ : ∀ m2 : am_M, (∀ q, q ≠ 32 → q ≠ 33 → m2 q = mem q) → Q (some (.int (R (77 + 7 * l + 2) * S_dim R (R (77 + 7 * l + 3)) / nI 100))) (am_SK n) m2) : am_ex (d + 4) 64 [.ref t, .ref (t + 22 + l)] (am_SK n) mem Q := by
  have hg := ht.ge
  have hb := wb_all (cp_w hC)
  have e0 := (cp_w hC).1.1.1
  refine ex_in (c0 := kc_X9_drawsDimmed) rfl (L := [some (.ref t), some (.ref (t + 22 + l)), none, none]) rfl ?_
  refine ev_aload rfl rfl ?_
  refine ev_getI (c := 9) (j := 7) rfl ?_ (hq := kt_0 n ht)
  rw [cp_t7 hC]
  refine ev_iconst (x := nI 4) rfl rfl ?_
  refine ev_icmp_gtN (p2 := 13) rfl rfl (fun cnd5 => ?_) (fun cnd5 => ?_)
  · skip
    refine ev_iconst (x := nI 100) rfl rfl ?_
    refine ev_istore rfl rfl (Nat.le_of_ble_eq_true rfl) ?_
    refine ev_aload rfl rfl ?_
    refine ev_getR (c := 9) (j := 0) rfl ?_ (hq := kt_0 n ht)
    refine ev_aload rfl rfl ?_
    refine ev_iconst (x := nI 0) rfl rfl ?_
    refine ev_iload rfl rfl ?_
    refine ev_aload rfl rfl ?_
    refine ev_getI (c := 4) (j := 3) rfl ?_ (hq := kt_lamp n ht (by omega))
    rw [cp_l (k := 3) (l := l) hC (by omega) (by decide)]
    refine ev_aload rfl rfl ?_
    refine ev_getI (c := 4) (j := 0) rfl ?_ (hq := kt_lamp n ht (by omega))
    rw [cp_l0 hC (l := l) (by omega)]
    refine ev_aload rfl rfl ?_
    refine ev_getI (c := 4) (j := 2) rfl ?_ (hq := kt_lamp n ht (by omega))
    rw [cp_l (k := 2) (l := l) hC (by omega) (by decide)]
    refine ev_call rfl rfl ?_
    refine c_X0_gives ht hC 0 (by decide) _ _ _ _ (fun m2 h2 => ?_)
    have hC := cp_fr2 hC ht h2
    change am_ev _ _ _ _ (_ :: _) _ _ _
    refine ev_istore rfl rfl (Nat.le_of_ble_eq_true rfl) ?_
    refine ev_aload rfl rfl ?_
    refine ev_getI (c := 4) (j := 2) rfl ?_ (hq := kt_lamp n ht (by omega))
    rw [cp_l (k := 2) (l := l) hC (by omega) (by decide)]
    refine ev_iconst (x := nI 0) rfl rfl ?_
    refine ev_iconst (x := nI 100) rfl rfl ?_
    refine ev_iload rfl rfl ?_
    refine ev_call rfl rfl ?_
    refine c_min _ _ ?_
    change am_ev _ _ _ _ (_ :: _) _ _ _
    refine ev_call rfl rfl ?_
    refine c_max _ _ ?_
    change am_ev _ _ _ _ (_ :: _) _ _ _
    rw [clp_eq _ (by decide)]
    refine ev_imul rfl ?_
    refine ev_iconst (x := nI 100) rfl rfl ?_
    refine ev_idiv rfl ?_
    refine ev_iret rfl ?_
    rw [← S_dim_giv R _ (nI (nn (R (77 + 7 * l)))) (R (77 + 7 * l + 2))] at hQ
    first
    | (rw [if_pos (show nI 5 ≤ R 0 by rw [e0, nI_leI (by decide) (by omega)]; omega)] at hQ; exact hQ _ h2)
    | (rw [if_neg (show ¬ nI 5 ≤ R 0 by rw [e0, nI_leI (by decide) (by omega)]; omega)] at hQ; exact hQ _ h2)
  · skip
    refine ev_iconst (x := nI 50) rfl rfl ?_
    refine ev_goto (p2 := 15) rfl rfl ?_
    refine ev_istore rfl rfl (Nat.le_of_ble_eq_true rfl) ?_
    refine ev_aload rfl rfl ?_
    refine ev_getR (c := 9) (j := 0) rfl ?_ (hq := kt_0 n ht)
    refine ev_aload rfl rfl ?_
    refine ev_iconst (x := nI 0) rfl rfl ?_
    refine ev_iload rfl rfl ?_
    refine ev_aload rfl rfl ?_
    refine ev_getI (c := 4) (j := 3) rfl ?_ (hq := kt_lamp n ht (by omega))
    rw [cp_l (k := 3) (l := l) hC (by omega) (by decide)]
    refine ev_aload rfl rfl ?_
    refine ev_getI (c := 4) (j := 0) rfl ?_ (hq := kt_lamp n ht (by omega))
    rw [cp_l0 hC (l := l) (by omega)]
    refine ev_aload rfl rfl ?_
    refine ev_getI (c := 4) (j := 2) rfl ?_ (hq := kt_lamp n ht (by omega))
    rw [cp_l (k := 2) (l := l) hC (by omega) (by decide)]
    refine ev_call rfl rfl ?_
    refine c_X0_gives ht hC 0 (by decide) _ _ _ _ (fun m2 h2 => ?_)
    have hC := cp_fr2 hC ht h2
    change am_ev _ _ _ _ (_ :: _) _ _ _
    refine ev_istore rfl rfl (Nat.le_of_ble_eq_true rfl) ?_
    refine ev_aload rfl rfl ?_
    refine ev_getI (c := 4) (j := 2) rfl ?_ (hq := kt_lamp n ht (by omega))
    rw [cp_l (k := 2) (l := l) hC (by omega) (by decide)]
    refine ev_iconst (x := nI 0) rfl rfl ?_
    refine ev_iconst (x := nI 100) rfl rfl ?_
    refine ev_iload rfl rfl ?_
    refine ev_call rfl rfl ?_
    refine c_min _ _ ?_
    change am_ev _ _ _ _ (_ :: _) _ _ _
    refine ev_call rfl rfl ?_
    refine c_max _ _ ?_
    change am_ev _ _ _ _ (_ :: _) _ _ _
    rw [clp_eq _ (by decide)]
    refine ev_imul rfl ?_
    refine ev_iconst (x := nI 100) rfl rfl ?_
    refine ev_idiv rfl ?_
    refine ev_iret rfl ?_
    rw [← S_dim_giv R _ (nI (nn (R (77 + 7 * l)))) (R (77 + 7 * l + 2))] at hQ
    first
    | (rw [if_pos (show nI 5 ≤ R 0 by rw [e0, nI_leI (by decide) (by omega)]; omega)] at hQ; exact hQ _ h2)
    | (rw [if_neg (show ¬ nI 5 ≤ R 0 by rw [e0, nI_leI (by decide) (by omega)]; omega)] at hQ; exact hQ _ h2)
theorem c_X9_life {d n : Nat} {mem : am_M} {Q : am_P} {t : Nat} {R : am_R} (ht : am_T t) (hC : CplT t R mem) (l : Nat) (hl : l < nn (R 5)) (hQ : ∀ m2 : am_M, (∀ q, q ≠ 32 → q ≠ 33 → m2 q = mem q) → Q (some (.int (S_life R l))) (am_SK n) m2) : am_ex (d + 4) 65 [.ref t, .ref (t + 22 + l)] (am_SK n) mem Q := by
  have hg := ht.ge
  have hb := wb_all (cp_w hC)
  refine ex_in (c0 := kc_X9_life) rfl (L := [some (.ref t), some (.ref (t + 22 + l)), none]) rfl ?_
  refine ev_aload rfl rfl ?_
  refine ev_getR (c := 9) (j := 0) rfl ?_ (hq := kt_0 n ht)
  refine ev_aload rfl rfl ?_
  refine ev_iconst (x := nI 1) rfl rfl ?_
  refine ev_iconst (x := nI 4000) rfl rfl ?_
  refine ev_aload rfl rfl ?_
  refine ev_getI (c := 4) (j := 3) rfl ?_ (hq := kt_lamp n ht (by omega))
  rw [cp_l (k := 3) (l := l) hC (by omega) (by decide)]
  refine ev_aload rfl rfl ?_
  refine ev_getI (c := 4) (j := 0) rfl ?_ (hq := kt_lamp n ht (by omega))
  rw [cp_l0 hC (l := l) (by omega)]
  refine ev_aload rfl rfl ?_
  refine ev_getI (c := 4) (j := 2) rfl ?_ (hq := kt_lamp n ht (by omega))
  rw [cp_l (k := 2) (l := l) hC (by omega) (by decide)]
  refine ev_call rfl rfl ?_
  refine c_X0_gives ht hC 1 (by decide) _ _ _ _ (fun m2 h2 => ?_)
  have hC := cp_fr2 hC ht h2
  change am_ev _ _ _ _ (_ :: _) _ _ _
  refine ev_istore rfl rfl (Nat.le_of_ble_eq_true rfl) ?_
  refine ev_iconst (x := nI 1) rfl rfl ?_
  refine ev_iconst (x := nI 30000) rfl rfl ?_
  refine ev_iload rfl rfl ?_
  refine ev_call rfl rfl ?_
  refine c_min _ _ ?_
  change am_ev _ _ _ _ (_ :: _) _ _ _
  refine ev_call rfl rfl ?_
  refine c_max _ _ ?_
  change am_ev _ _ _ _ (_ :: _) _ _ _
  rw [clp_eq _ (by decide)]
  refine ev_iret rfl ?_
  rw [← S_life_giv, (cp_w hC).2.2.2.2.1 l hl |>.1.1] at hQ
  exact hQ _ h2
theorem c_X9_law {d n : Nat} {mem : am_M} {Q : am_P} {t : Nat} {R : am_R} (ht : am_T t) (hC : CplT t R mem) (k : Nat) (hQ : ∀ m2 : am_M, (∀ q, q ≠ 32 → q ≠ 33 → m2 q = mem q) → Q (some (.int (S_law R k))) (am_SK n) m2) : am_ex (d + 4) 66 [.ref t, .int (nI k)] (am_SK n) mem Q := by
  have hg := ht.ge
  have hb := wb_all (cp_w hC)
  refine ex_in (c0 := kc_X9_law) rfl (L := [some (.ref t), some (.int (nI k))]) rfl ?_
  refine ev_aload rfl rfl ?_
  refine ev_getR (c := 9) (j := 0) rfl ?_ (hq := kt_0 n ht)
  refine ev_aload rfl rfl ?_
  refine ev_iconst (x := nI 3) rfl rfl ?_
  refine ev_iconst (x := nI 0) rfl rfl ?_
  refine ev_iload rfl rfl ?_
  refine ev_iconst (x := nI 0) rfl rfl ?_
  refine ev_iconst (x := nI 0) rfl rfl ?_
  refine ev_call rfl rfl ?_
  refine c_X0_gives ht hC 3 (by decide) _ _ _ _ (fun m2 h2 => ?_)
  have hC := cp_fr2 hC ht h2
  change am_ev _ _ _ _ (_ :: _) _ _ _
  refine ev_iret rfl ?_
  exact hQ _ h2
theorem c_X9_price {d n : Nat} {mem : am_M} {Q : am_P} {t : Nat} {R : am_R} (ht : am_T t) (hC : CplT t R mem) (hQ : ∀ m2 : am_M, (∀ q, q ≠ 32 → q ≠ 33 → m2 q = mem q) → Q (some (.int (S_price R))) (am_SK n) m2) : am_ex (d + 4) 67 [.ref t] (am_SK n) mem Q := by
  have hg := ht.ge
  have hb := wb_all (cp_w hC)
  refine ex_in (c0 := kc_X9_price) rfl (L := [some (.ref t)]) rfl ?_
  refine ev_iconst (x := nI 0) rfl rfl ?_
  refine ev_iconst (x := nI 999) rfl rfl ?_
  refine ev_aload rfl rfl ?_
  refine ev_getR (c := 9) (j := 0) rfl ?_ (hq := kt_0 n ht)
  refine ev_aload rfl rfl ?_
  refine ev_iconst (x := nI 2) rfl rfl ?_
  refine ev_iconst (x := nI 10) rfl rfl ?_
  refine ev_iconst (x := nI 0) rfl rfl ?_
  refine ev_iconst (x := nI 0) rfl rfl ?_
  refine ev_iconst (x := nI 0) rfl rfl ?_
  refine ev_call rfl rfl ?_
  refine c_X0_gives ht hC 2 (by decide) _ _ _ _ (fun m2 h2 => ?_)
  have hC := cp_fr2 hC ht h2
  change am_ev _ _ _ _ (_ :: _) _ _ _
  refine ev_call rfl rfl ?_
  refine c_min _ _ ?_
  change am_ev _ _ _ _ (_ :: _) _ _ _
  refine ev_call rfl rfl ?_
  refine c_max _ _ ?_
  change am_ev _ _ _ _ (_ :: _) _ _ _
  rw [clp_eq _ (by decide)]
  refine ev_iret rfl ?_
  rw [← S_price_giv R (nI 0) (nI 0)] at hQ
  exact hQ _ h2
theorem c_X9_draws {d n : Nat} {mem : am_M} {Q : am_P} {t : Nat} {R : am_R} (ht : am_T t) (hC : CplT t R mem) (l : Nat) (hl : l < nn (R 5)) (hQ : ∀ m2 : am_M, (∀ q, q ≠ 32 → q ≠ 33 → m2 q = mem q) → Q (some (.int (S_draw R l))) (am_SK n) m2) : am_ex (d + 5) 63 [.ref t, .ref (t + 22 + l)] (am_SK n) mem Q := by
  have hg := ht.ge
  have hb := wb_all (cp_w hC)
  have hj := cp_jl hC hl
  have hcb := cp_cab hC hj
  obtain ⟨⟨-, gk⟩, -⟩ := (cp_w hC).2.2.2.2.1 l hl
  unfold S_draw at hQ
  refine ex_in (c0 := kc_X9_draws) rfl (L := [some (.ref t), some (.ref (t + 22 + l)), none]) rfl ?_
  refine ev_aload rfl rfl ?_
  refine ev_getI (c := 4) (j := 0) rfl ?_ (hq := kt_lamp n ht (by omega))
  rw [cp_l0 hC (l := l) (by omega)]
  generalize nn (R (77 + 7 * l)) = kd at gk hQ ⊢
  rcases (show kd = 0 ∨ kd = 1 ∨ kd = 2 ∨ kd = 3 ∨ kd = 4 ∨ kd = 5 by omega) with rfl | rfl | rfl | rfl | rfl | rfl
  · refine ev_tswC (p2 := 88) rfl (by first | rfl | decide) rfl ?_
    refine ev_aload rfl rfl ?_
    refine ev_getI (c := 4) (j := 2) rfl ?_ (hq := kt_lamp n ht (by omega))
    rw [cp_l (k := 2) (l := l) hC (by omega) (by decide)]
    refine ev_iret rfl ?_
    exact hQ _ (fun _ _ _ => rfl)
  · refine ev_tswC (p2 := 40) rfl (by first | rfl | decide) rfl ?_
    refine ev_aload rfl rfl ?_
    refine ev_aload rfl rfl ?_
    refine ev_callV rfl rfl rfl rfl (Nat.le_of_ble_eq_true rfl) (Nat.le_of_ble_eq_true rfl) ?_ (hq := kt_0 n ht)
    refine c_X9_drawsDimmed ht hC l (by omega) (fun m2 h2 => ?_)
    have hC := cp_fr2 hC ht h2
    change am_ev _ _ _ _ (_ :: _) _ _ _
    refine ev_iret rfl ?_
    exact hQ _ h2
  · refine ev_tswC (p2 := 58) rfl (by first | rfl | decide) rfl ?_
    refine ev_aload rfl rfl ?_
    refine ev_getI (c := 4) (j := 2) rfl ?_ (hq := kt_lamp n ht (by omega))
    rw [cp_l (k := 2) (l := l) hC (by omega) (by decide)]
    refine ev_iconst (x := nI 2) rfl rfl ?_
    refine ev_idiv rfl ?_
    refine ev_iret rfl ?_
    exact hQ _ (fun _ _ _ => rfl)
  · refine ev_tswC (p2 := 46) rfl (by first | rfl | decide) rfl ?_
    refine ev_aload rfl rfl ?_
    refine ev_aload rfl rfl ?_
    refine ev_callV rfl rfl rfl rfl (Nat.le_of_ble_eq_true rfl) (Nat.le_of_ble_eq_true rfl) ?_ (hq := kt_0 n ht)
    refine c_X9_drawsDimmed ht hC l (by omega) (fun m2 h2 => ?_)
    have hC := cp_fr2 hC ht h2
    change am_ev _ _ _ _ (_ :: _) _ _ _
    refine ev_istore rfl rfl (Nat.le_of_ble_eq_true rfl) ?_
    refine ev_iload rfl rfl ?_
    refine ev_iload rfl rfl ?_
    refine ev_iconst (x := nI 3) rfl rfl ?_
    refine ev_idiv rfl ?_
    refine ev_isub rfl ?_
    refine ev_iret rfl ?_
    exact hQ _ h2
  · refine ev_tswC (p2 := 65) rfl (by first | rfl | decide) rfl ?_
    refine ev_iconst (x := nI 3) rfl rfl ?_
    refine ev_aload rfl rfl ?_
    refine ev_getI (c := 4) (j := 2) rfl ?_ (hq := kt_lamp n ht (by omega))
    rw [cp_l (k := 2) (l := l) hC (by omega) (by decide)]
    refine ev_iconst (x := nI 2) rfl rfl ?_
    refine ev_idiv rfl ?_
    refine ev_imul rfl ?_
    refine ev_iret rfl ?_
    exact hQ _ (fun _ _ _ => rfl)
  · refine ev_tswC (p2 := 74) rfl (by first | rfl | decide) rfl ?_
    refine ev_aload rfl rfl ?_
    refine ev_getI (c := 4) (j := 2) rfl ?_ (hq := kt_lamp n ht (by omega))
    rw [cp_l (k := 2) (l := l) hC (by omega) (by decide)]
    refine ev_aload rfl rfl ?_
    refine ev_getI (c := 4) (j := 4) rfl ?_ (hq := kt_lamp n ht (by omega))
    rw [cp_l (k := 4) (l := l) hC (by omega) (by decide)]
    refine ev_iconst (x := nI 1000) rfl rfl ?_
    refine ev_idiv rfl ?_
    refine ev_iadd rfl ?_
    refine ev_iret rfl ?_
    exact hQ _ (fun _ _ _ => rfl)
theorem S_burns_iff {R : am_R} {l : Nat} : S_burns R l = true ↔ S_should R l = true ∧ S_fed R l = true := by
  unfold S_burns
  exact Bool.and_eq_true_iff
def S_da (R : am_R) (l : Nat) : Int32 := if S_burns R l = true then S_draw R l else nI 0
def S_at (R : am_R) (j : Int32) (l : Nat) : Int32 := if R (77 + 7 * l + 1) = j then nI 1 else nI 0
def S_cbk (R : am_R) (c : Nat) : Int32 := R (23 + 6 * c + 4)
def S_jbk (R : am_R) (j : Nat) : Int32 := R (41 + 3 * j + 2)
theorem l_X9_due {d n : Nat} {Q : am_P} {t : Nat} {R : am_R} (ht : am_T t) (cab : Int32) (r : Nat) : ∀ (mem : am_M) (hC : CplT t R mem) (k : Nat) (sum : Int32) (hk : k + r = nn (R 5)) (hQ : ∀ m2 : am_M, (∀ q, q ≠ 32 → q ≠ 33 → m2 q = mem q) → Q (some (.int (S_sumF (S_dr R cab (nI 0)) r k sum))) (am_SK n) m2), am_ev kc_X9_due (d + 6) 4 [some (.ref t), some (.int cab), some (.int sum), some (.int (nI k))] [] (am_SK n) mem Q := by
  induction r with
  | zero =>
    intro mem hC k sum hk hQ
    have hg := ht.ge
    have hb := wb_all (cp_w hC)
    refine ev_iload rfl rfl ?_
    refine ev_aload rfl rfl ?_
    refine ev_getI (c := 9) (j := 6) rfl ?_ (hq := kt_0 n ht)
    rw [cp_t6 hC]
    refine ev_icmp_geN (p2 := 65) rfl rfl (fun cnd9 => ?_) (fun cnd9 => ?_)
    · skip
      refine ev_iload rfl rfl ?_
      refine ev_iret rfl ?_
      exact hQ mem (fun _ _ _ => rfl)
    · omega
  | succ r ih =>
    intro mem hC k sum hk hQ
    have hg := ht.ge
    have hb := wb_all (cp_w hC)
    have hj := cp_jl hC (show k < nn (R 5) by omega)
    have hcb := cp_cab hC hj
    refine ev_iload rfl rfl ?_
    refine ev_aload rfl rfl ?_
    refine ev_getI (c := 9) (j := 6) rfl ?_ (hq := kt_0 n ht)
    rw [cp_t6 hC]
    refine ev_icmp_geN (p2 := 65) rfl rfl (fun cnd9 => ?_) (fun cnd9 => ?_)
    · omega
    · skip
      refine ev_aload rfl rfl ?_
      refine ev_getR (c := 9) (j := 3) rfl ?_ (hq := kt_0 n ht)
      refine ev_aload rfl rfl ?_
      refine ev_getR (c := 9) (j := 5) rfl ?_ (hq := kt_0 n ht)
      refine ev_iload rfl rfl ?_
      refine ev_aldN rfl rfl ?_ (kr_lamp (by omega)) (hq := kt_3 n ht)
      refine ev_getI (c := 4) (j := 1) rfl ?_ (hq := kt_lamp n ht (by omega))
      rw [cp_l1 hC (l := k) (by omega)]
      refine ev_aldN rfl rfl ?_ (kr_joint (by omega)) (hq := kt_2 n ht)
      refine ev_getI (c := 3) (j := 2) rfl ?_ (hq := kt_joint n ht (by omega))
      rw [cp_j2 hC (j := nn (R (77 + 7 * k + 1))) (by omega)]
      refine ev_iload rfl rfl ?_
      refine ev_icmp_ne (p2 := 59) rfl rfl (fun cnd30 => ?_) (fun cnd30 => ?_)
      · skip
        refine ev_iincN rfl rfl rfl ?_
        refine ev_goto (p2 := 4) rfl rfl ?_
        first
        | (rw [show S_sumF (S_dr R cab (nI 0)) (r + 1) k sum = S_sumF (S_dr R cab (nI 0)) r (k + 1) (sum + S_draw R k) from congrArg (fun z => S_sumF (S_dr R cab (nI 0)) r (k + 1) (sum + z)) (if_pos (And.intro cnd30 (And.intro cnd43 (Or.inl rfl))))] at hQ
           exact ih _ hC (k + 1) _ (by omega) (fun m3 h3 => hQ m3 (fun q q1 q2 => (h3 q q1 q2).trans (h2 q q1 q2))))
        | (rw [show S_sumF (S_dr R cab (nI 0)) (r + 1) k sum = S_sumF (S_dr R cab (nI 0)) r (k + 1) (sum + nI 0) from congrArg (fun z => S_sumF (S_dr R cab (nI 0)) r (k + 1) (sum + z)) (if_neg (fun z => cnd30 z.1)), am_add0] at hQ
           exact ih _ hC (k + 1) _ (by omega) hQ)
        | (rw [show S_sumF (S_dr R cab (nI 0)) (r + 1) k sum = S_sumF (S_dr R cab (nI 0)) r (k + 1) (sum + nI 0) from congrArg (fun z => S_sumF (S_dr R cab (nI 0)) r (k + 1) (sum + z)) (if_neg (fun z => absurd z.2.1 (by rw [cnd43]; decide))), am_add0] at hQ
           exact ih _ hC (k + 1) _ (by omega) hQ)
      · skip
        refine ev_aload rfl rfl ?_
        refine ev_aload rfl rfl ?_
        refine ev_getR (c := 9) (j := 5) rfl ?_ (hq := kt_0 n ht)
        refine ev_iload rfl rfl ?_
        refine ev_aldN rfl rfl ?_ (kr_lamp (by omega)) (hq := kt_3 n ht)
        refine ev_callV rfl rfl rfl rfl (Nat.le_of_ble_eq_true rfl) (Nat.le_of_ble_eq_true rfl) ?_ (hq := kt_0 n ht)
        refine c_X9_should ht hC k (by omega) ?_
        change am_ev _ _ _ _ (_ :: _) _ _ _
        refine ev_if_eqO (p2 := 59) rfl rfl (fun cnd43 => ?_) (fun cnd43 => ?_)
        · skip
          refine ev_iincN rfl rfl rfl ?_
          refine ev_goto (p2 := 4) rfl rfl ?_
          first
          | (rw [show S_sumF (S_dr R cab (nI 0)) (r + 1) k sum = S_sumF (S_dr R cab (nI 0)) r (k + 1) (sum + S_draw R k) from congrArg (fun z => S_sumF (S_dr R cab (nI 0)) r (k + 1) (sum + z)) (if_pos (And.intro cnd30 (And.intro cnd43 (Or.inl rfl))))] at hQ
             exact ih _ hC (k + 1) _ (by omega) (fun m3 h3 => hQ m3 (fun q q1 q2 => (h3 q q1 q2).trans (h2 q q1 q2))))
          | (rw [show S_sumF (S_dr R cab (nI 0)) (r + 1) k sum = S_sumF (S_dr R cab (nI 0)) r (k + 1) (sum + nI 0) from congrArg (fun z => S_sumF (S_dr R cab (nI 0)) r (k + 1) (sum + z)) (if_neg (fun z => cnd30 z.1)), am_add0] at hQ
             exact ih _ hC (k + 1) _ (by omega) hQ)
          | (rw [show S_sumF (S_dr R cab (nI 0)) (r + 1) k sum = S_sumF (S_dr R cab (nI 0)) r (k + 1) (sum + nI 0) from congrArg (fun z => S_sumF (S_dr R cab (nI 0)) r (k + 1) (sum + z)) (if_neg (fun z => absurd z.2.1 (by rw [cnd43]; decide))), am_add0] at hQ
             exact ih _ hC (k + 1) _ (by omega) hQ)
        · skip
          refine ev_iload rfl rfl ?_
          refine ev_aload rfl rfl ?_
          refine ev_aload rfl rfl ?_
          refine ev_getR (c := 9) (j := 5) rfl ?_ (hq := kt_0 n ht)
          refine ev_iload rfl rfl ?_
          refine ev_aldN rfl rfl ?_ (kr_lamp (by omega)) (hq := kt_3 n ht)
          refine ev_callV rfl rfl rfl rfl (Nat.le_of_ble_eq_true rfl) (Nat.le_of_ble_eq_true rfl) ?_ (hq := kt_0 n ht)
          refine c_X9_draws ht hC k (by omega) (fun m2 h2 => ?_)
          have hC := cp_fr2 hC ht h2
          change am_ev _ _ _ _ (_ :: _) _ _ _
          refine ev_iadd rfl ?_
          refine ev_istore rfl rfl (Nat.le_of_ble_eq_true rfl) ?_
          refine ev_iincN rfl rfl rfl ?_
          refine ev_goto (p2 := 4) rfl rfl ?_
          first
          | (rw [show S_sumF (S_dr R cab (nI 0)) (r + 1) k sum = S_sumF (S_dr R cab (nI 0)) r (k + 1) (sum + S_draw R k) from congrArg (fun z => S_sumF (S_dr R cab (nI 0)) r (k + 1) (sum + z)) (if_pos (And.intro cnd30 (And.intro cnd43 (Or.inl rfl))))] at hQ
             exact ih _ hC (k + 1) _ (by omega) (fun m3 h3 => hQ m3 (fun q q1 q2 => (h3 q q1 q2).trans (h2 q q1 q2))))
          | (rw [show S_sumF (S_dr R cab (nI 0)) (r + 1) k sum = S_sumF (S_dr R cab (nI 0)) r (k + 1) (sum + nI 0) from congrArg (fun z => S_sumF (S_dr R cab (nI 0)) r (k + 1) (sum + z)) (if_neg (fun z => cnd30 z.1)), am_add0] at hQ
             exact ih _ hC (k + 1) _ (by omega) hQ)
          | (rw [show S_sumF (S_dr R cab (nI 0)) (r + 1) k sum = S_sumF (S_dr R cab (nI 0)) r (k + 1) (sum + nI 0) from congrArg (fun z => S_sumF (S_dr R cab (nI 0)) r (k + 1) (sum + z)) (if_neg (fun z => absurd z.2.1 (by rw [cnd43]; decide))), am_add0] at hQ
             exact ih _ hC (k + 1) _ (by omega) hQ)
theorem c_X9_due {d n : Nat} {mem : am_M} {Q : am_P} {t : Nat} {R : am_R} (ht : am_T t) (hC : CplT t R mem) (cab : Int32)  (hQ : ∀ m2 : am_M, (∀ q, q ≠ 32 → q ≠ 33 → m2 q = mem q) → Q (some (.int (S_sumF (S_dr R cab (nI 0)) (nn (R 5)) 0 (nI 0)))) (am_SK n) m2) : am_ex (d + 7) 68 [.ref t, .int cab] (am_SK n) mem Q := by
  refine ex_in (c0 := kc_X9_due) rfl (L := [some (.ref t), some (.int cab), none, none]) rfl ?_
  refine ev_iconst (x := nI 0) rfl rfl ?_
  refine ev_istore rfl rfl (Nat.le_of_ble_eq_true rfl) ?_
  refine ev_iconst (x := nI 0) rfl rfl ?_
  refine ev_istore rfl rfl (Nat.le_of_ble_eq_true rfl) ?_
  exact l_X9_due ht cab _ mem hC 0 (nI 0) (Nat.zero_add _) hQ
theorem l_X9_drawn {d n : Nat} {Q : am_P} {t : Nat} {R : am_R} (ht : am_T t) (cab : Int32) (r : Nat) : ∀ (mem : am_M) (hC : CplT t R mem) (k : Nat) (sum : Int32) (hk : k + r = nn (R 5)) (hQ : ∀ m2 : am_M, (∀ q, q ≠ 32 → q ≠ 33 → m2 q = mem q) → Q (some (.int (S_sumF (S_dr R cab (nI 1)) r k sum))) (am_SK n) m2), am_ev kc_X9_drawn (d + 6) 4 [some (.ref t), some (.int cab), some (.int sum), some (.int (nI k))] [] (am_SK n) mem Q := by
  induction r with
  | zero =>
    intro mem hC k sum hk hQ
    have hg := ht.ge
    have hb := wb_all (cp_w hC)
    refine ev_iload rfl rfl ?_
    refine ev_aload rfl rfl ?_
    refine ev_getI (c := 9) (j := 6) rfl ?_ (hq := kt_0 n ht)
    rw [cp_t6 hC]
    refine ev_icmp_geN (p2 := 65) rfl rfl (fun cnd9 => ?_) (fun cnd9 => ?_)
    · skip
      refine ev_iload rfl rfl ?_
      refine ev_iret rfl ?_
      exact hQ mem (fun _ _ _ => rfl)
    · omega
  | succ r ih =>
    intro mem hC k sum hk hQ
    have hg := ht.ge
    have hb := wb_all (cp_w hC)
    have hj := cp_jl hC (show k < nn (R 5) by omega)
    have hcb := cp_cab hC hj
    refine ev_iload rfl rfl ?_
    refine ev_aload rfl rfl ?_
    refine ev_getI (c := 9) (j := 6) rfl ?_ (hq := kt_0 n ht)
    rw [cp_t6 hC]
    refine ev_icmp_geN (p2 := 65) rfl rfl (fun cnd9 => ?_) (fun cnd9 => ?_)
    · omega
    · skip
      refine ev_aload rfl rfl ?_
      refine ev_getR (c := 9) (j := 3) rfl ?_ (hq := kt_0 n ht)
      refine ev_aload rfl rfl ?_
      refine ev_getR (c := 9) (j := 5) rfl ?_ (hq := kt_0 n ht)
      refine ev_iload rfl rfl ?_
      refine ev_aldN rfl rfl ?_ (kr_lamp (by omega)) (hq := kt_3 n ht)
      refine ev_getI (c := 4) (j := 1) rfl ?_ (hq := kt_lamp n ht (by omega))
      rw [cp_l1 hC (l := k) (by omega)]
      refine ev_aldN rfl rfl ?_ (kr_joint (by omega)) (hq := kt_2 n ht)
      refine ev_getI (c := 3) (j := 2) rfl ?_ (hq := kt_joint n ht (by omega))
      rw [cp_j2 hC (j := nn (R (77 + 7 * k + 1))) (by omega)]
      refine ev_iload rfl rfl ?_
      refine ev_icmp_ne (p2 := 59) rfl rfl (fun cnd30 => ?_) (fun cnd30 => ?_)
      · skip
        refine ev_iincN rfl rfl rfl ?_
        refine ev_goto (p2 := 4) rfl rfl ?_
        first
        | (rw [show S_sumF (S_dr R cab (nI 1)) (r + 1) k sum = S_sumF (S_dr R cab (nI 1)) r (k + 1) (sum + S_draw R k) from congrArg (fun z => S_sumF (S_dr R cab (nI 1)) r (k + 1) (sum + z)) (if_pos (And.intro cnd30 (And.intro (S_burns_iff.mp cnd43).1 (Or.inr (S_burns_iff.mp cnd43).2))))] at hQ
           exact ih _ hC (k + 1) _ (by omega) (fun m3 h3 => hQ m3 (fun q q1 q2 => (h3 q q1 q2).trans (h2 q q1 q2))))
        | (rw [show S_sumF (S_dr R cab (nI 1)) (r + 1) k sum = S_sumF (S_dr R cab (nI 1)) r (k + 1) (sum + nI 0) from congrArg (fun z => S_sumF (S_dr R cab (nI 1)) r (k + 1) (sum + z)) (if_neg (fun z => cnd30 z.1)), am_add0] at hQ
           exact ih _ hC (k + 1) _ (by omega) hQ)
        | (rw [show S_sumF (S_dr R cab (nI 1)) (r + 1) k sum = S_sumF (S_dr R cab (nI 1)) r (k + 1) (sum + nI 0) from congrArg (fun z => S_sumF (S_dr R cab (nI 1)) r (k + 1) (sum + z)) (if_neg (fun z => z.2.2.elim (fun y => absurd y (by decide)) (fun y => absurd (S_burns_iff.mpr (And.intro z.2.1 y)) (by rw [cnd43]; decide)))), am_add0] at hQ
           exact ih _ hC (k + 1) _ (by omega) hQ)
      · skip
        refine ev_aload rfl rfl ?_
        refine ev_aload rfl rfl ?_
        refine ev_getR (c := 9) (j := 5) rfl ?_ (hq := kt_0 n ht)
        refine ev_iload rfl rfl ?_
        refine ev_aldN rfl rfl ?_ (kr_lamp (by omega)) (hq := kt_3 n ht)
        refine ev_callV rfl rfl rfl rfl (Nat.le_of_ble_eq_true rfl) (Nat.le_of_ble_eq_true rfl) ?_ (hq := kt_0 n ht)
        refine c_X9_burns ht hC k (by omega) ?_
        change am_ev _ _ _ _ (_ :: _) _ _ _
        refine ev_if_eqO (p2 := 59) rfl rfl (fun cnd43 => ?_) (fun cnd43 => ?_)
        · skip
          refine ev_iincN rfl rfl rfl ?_
          refine ev_goto (p2 := 4) rfl rfl ?_
          first
          | (rw [show S_sumF (S_dr R cab (nI 1)) (r + 1) k sum = S_sumF (S_dr R cab (nI 1)) r (k + 1) (sum + S_draw R k) from congrArg (fun z => S_sumF (S_dr R cab (nI 1)) r (k + 1) (sum + z)) (if_pos (And.intro cnd30 (And.intro (S_burns_iff.mp cnd43).1 (Or.inr (S_burns_iff.mp cnd43).2))))] at hQ
             exact ih _ hC (k + 1) _ (by omega) (fun m3 h3 => hQ m3 (fun q q1 q2 => (h3 q q1 q2).trans (h2 q q1 q2))))
          | (rw [show S_sumF (S_dr R cab (nI 1)) (r + 1) k sum = S_sumF (S_dr R cab (nI 1)) r (k + 1) (sum + nI 0) from congrArg (fun z => S_sumF (S_dr R cab (nI 1)) r (k + 1) (sum + z)) (if_neg (fun z => cnd30 z.1)), am_add0] at hQ
             exact ih _ hC (k + 1) _ (by omega) hQ)
          | (rw [show S_sumF (S_dr R cab (nI 1)) (r + 1) k sum = S_sumF (S_dr R cab (nI 1)) r (k + 1) (sum + nI 0) from congrArg (fun z => S_sumF (S_dr R cab (nI 1)) r (k + 1) (sum + z)) (if_neg (fun z => z.2.2.elim (fun y => absurd y (by decide)) (fun y => absurd (S_burns_iff.mpr (And.intro z.2.1 y)) (by rw [cnd43]; decide)))), am_add0] at hQ
             exact ih _ hC (k + 1) _ (by omega) hQ)
        · skip
          refine ev_iload rfl rfl ?_
          refine ev_aload rfl rfl ?_
          refine ev_aload rfl rfl ?_
          refine ev_getR (c := 9) (j := 5) rfl ?_ (hq := kt_0 n ht)
          refine ev_iload rfl rfl ?_
          refine ev_aldN rfl rfl ?_ (kr_lamp (by omega)) (hq := kt_3 n ht)
          refine ev_callV rfl rfl rfl rfl (Nat.le_of_ble_eq_true rfl) (Nat.le_of_ble_eq_true rfl) ?_ (hq := kt_0 n ht)
          refine c_X9_draws ht hC k (by omega) (fun m2 h2 => ?_)
          have hC := cp_fr2 hC ht h2
          change am_ev _ _ _ _ (_ :: _) _ _ _
          refine ev_iadd rfl ?_
          refine ev_istore rfl rfl (Nat.le_of_ble_eq_true rfl) ?_
          refine ev_iincN rfl rfl rfl ?_
          refine ev_goto (p2 := 4) rfl rfl ?_
          first
          | (rw [show S_sumF (S_dr R cab (nI 1)) (r + 1) k sum = S_sumF (S_dr R cab (nI 1)) r (k + 1) (sum + S_draw R k) from congrArg (fun z => S_sumF (S_dr R cab (nI 1)) r (k + 1) (sum + z)) (if_pos (And.intro cnd30 (And.intro (S_burns_iff.mp cnd43).1 (Or.inr (S_burns_iff.mp cnd43).2))))] at hQ
             exact ih _ hC (k + 1) _ (by omega) (fun m3 h3 => hQ m3 (fun q q1 q2 => (h3 q q1 q2).trans (h2 q q1 q2))))
          | (rw [show S_sumF (S_dr R cab (nI 1)) (r + 1) k sum = S_sumF (S_dr R cab (nI 1)) r (k + 1) (sum + nI 0) from congrArg (fun z => S_sumF (S_dr R cab (nI 1)) r (k + 1) (sum + z)) (if_neg (fun z => cnd30 z.1)), am_add0] at hQ
             exact ih _ hC (k + 1) _ (by omega) hQ)
          | (rw [show S_sumF (S_dr R cab (nI 1)) (r + 1) k sum = S_sumF (S_dr R cab (nI 1)) r (k + 1) (sum + nI 0) from congrArg (fun z => S_sumF (S_dr R cab (nI 1)) r (k + 1) (sum + z)) (if_neg (fun z => z.2.2.elim (fun y => absurd y (by decide)) (fun y => absurd (S_burns_iff.mpr (And.intro z.2.1 y)) (by rw [cnd43]; decide)))), am_add0] at hQ
             exact ih _ hC (k + 1) _ (by omega) hQ)
theorem c_X9_drawn {d n : Nat} {mem : am_M} {Q : am_P} {t : Nat} {R : am_R} (ht : am_T t) (hC : CplT t R mem) (cab : Int32)  (hQ : ∀ m2 : am_M, (∀ q, q ≠ 32 → q ≠ 33 → m2 q = mem q) → Q (some (.int (S_sumF (S_dr R cab (nI 1)) (nn (R 5)) 0 (nI 0)))) (am_SK n) m2) : am_ex (d + 7) 69 [.ref t, .int cab] (am_SK n) mem Q := by
  refine ex_in (c0 := kc_X9_drawn) rfl (L := [some (.ref t), some (.int cab), none, none]) rfl ?_
  refine ev_iconst (x := nI 0) rfl rfl ?_
  refine ev_istore rfl rfl (Nat.le_of_ble_eq_true rfl) ?_
  refine ev_iconst (x := nI 0) rfl rfl ?_
  refine ev_istore rfl rfl (Nat.le_of_ble_eq_true rfl) ?_
  exact l_X9_drawn ht cab _ mem hC 0 (nI 0) (Nat.zero_add _) hQ
theorem l_X9_drawnByAll {d n : Nat} {Q : am_P} {t : Nat} {R : am_R} (ht : am_T t) (r : Nat) : ∀ (mem : am_M) (hC : CplT t R mem) (k : Nat) (sum : Int32) (hk : k + r = nn (R 5)) (hQ : ∀ m2 : am_M, (∀ q, q ≠ 32 → q ≠ 33 → m2 q = mem q) → Q (some (.int (S_sumF (S_da R) r k sum))) (am_SK n) m2), am_ev kc_X9_drawnByAll (d + 6) 4 [some (.ref t), some (.int sum), some (.int (nI k))] [] (am_SK n) mem Q := by
  induction r with
  | zero =>
    intro mem hC k sum hk hQ
    have hg := ht.ge
    have hb := wb_all (cp_w hC)
    refine ev_iload rfl rfl ?_
    refine ev_aload rfl rfl ?_
    refine ev_getI (c := 9) (j := 6) rfl ?_ (hq := kt_0 n ht)
    rw [cp_t6 hC]
    refine ev_icmp_geN (p2 := 44) rfl rfl (fun cnd9 => ?_) (fun cnd9 => ?_)
    · skip
      refine ev_iload rfl rfl ?_
      refine ev_iret rfl ?_
      exact hQ mem (fun _ _ _ => rfl)
    · omega
  | succ r ih =>
    intro mem hC k sum hk hQ
    have hg := ht.ge
    have hb := wb_all (cp_w hC)
    have hj := cp_jl hC (show k < nn (R 5) by omega)
    have hcb := cp_cab hC hj
    refine ev_iload rfl rfl ?_
    refine ev_aload rfl rfl ?_
    refine ev_getI (c := 9) (j := 6) rfl ?_ (hq := kt_0 n ht)
    rw [cp_t6 hC]
    refine ev_icmp_geN (p2 := 44) rfl rfl (fun cnd9 => ?_) (fun cnd9 => ?_)
    · omega
    · skip
      refine ev_aload rfl rfl ?_
      refine ev_aload rfl rfl ?_
      refine ev_getR (c := 9) (j := 5) rfl ?_ (hq := kt_0 n ht)
      refine ev_iload rfl rfl ?_
      refine ev_aldN rfl rfl ?_ (kr_lamp (by omega)) (hq := kt_3 n ht)
      refine ev_callV rfl rfl rfl rfl (Nat.le_of_ble_eq_true rfl) (Nat.le_of_ble_eq_true rfl) ?_ (hq := kt_0 n ht)
      refine c_X9_burns ht hC k (by omega) ?_
      change am_ev _ _ _ _ (_ :: _) _ _ _
      refine ev_if_eqO (p2 := 38) rfl rfl (fun cnd22 => ?_) (fun cnd22 => ?_)
      · skip
        refine ev_iincN rfl rfl rfl ?_
        refine ev_goto (p2 := 4) rfl rfl ?_
        first
        | (rw [show S_sumF (S_da R) (r + 1) k sum = S_sumF (S_da R) r (k + 1) (sum + S_draw R k) from congrArg (fun z => S_sumF (S_da R) r (k + 1) (sum + z)) (if_pos cnd22)] at hQ
           exact ih _ hC (k + 1) _ (by omega) (fun m3 h3 => hQ m3 (fun q q1 q2 => (h3 q q1 q2).trans (h2 q q1 q2))))
        | (rw [show S_sumF (S_da R) (r + 1) k sum = S_sumF (S_da R) r (k + 1) (sum + nI 0) from congrArg (fun z => S_sumF (S_da R) r (k + 1) (sum + z)) (if_neg (by rw [cnd22]; decide)), am_add0] at hQ
           exact ih _ hC (k + 1) _ (by omega) hQ)
      · skip
        refine ev_iload rfl rfl ?_
        refine ev_aload rfl rfl ?_
        refine ev_aload rfl rfl ?_
        refine ev_getR (c := 9) (j := 5) rfl ?_ (hq := kt_0 n ht)
        refine ev_iload rfl rfl ?_
        refine ev_aldN rfl rfl ?_ (kr_lamp (by omega)) (hq := kt_3 n ht)
        refine ev_callV rfl rfl rfl rfl (Nat.le_of_ble_eq_true rfl) (Nat.le_of_ble_eq_true rfl) ?_ (hq := kt_0 n ht)
        refine c_X9_draws ht hC k (by omega) (fun m2 h2 => ?_)
        have hC := cp_fr2 hC ht h2
        change am_ev _ _ _ _ (_ :: _) _ _ _
        refine ev_iadd rfl ?_
        refine ev_istore rfl rfl (Nat.le_of_ble_eq_true rfl) ?_
        refine ev_iincN rfl rfl rfl ?_
        refine ev_goto (p2 := 4) rfl rfl ?_
        first
        | (rw [show S_sumF (S_da R) (r + 1) k sum = S_sumF (S_da R) r (k + 1) (sum + S_draw R k) from congrArg (fun z => S_sumF (S_da R) r (k + 1) (sum + z)) (if_pos cnd22)] at hQ
           exact ih _ hC (k + 1) _ (by omega) (fun m3 h3 => hQ m3 (fun q q1 q2 => (h3 q q1 q2).trans (h2 q q1 q2))))
        | (rw [show S_sumF (S_da R) (r + 1) k sum = S_sumF (S_da R) r (k + 1) (sum + nI 0) from congrArg (fun z => S_sumF (S_da R) r (k + 1) (sum + z)) (if_neg (by rw [cnd22]; decide)), am_add0] at hQ
           exact ih _ hC (k + 1) _ (by omega) hQ)
theorem c_X9_drawnByAll {d n : Nat} {mem : am_M} {Q : am_P} {t : Nat} {R : am_R} (ht : am_T t) (hC : CplT t R mem)  (hQ : ∀ m2 : am_M, (∀ q, q ≠ 32 → q ≠ 33 → m2 q = mem q) → Q (some (.int (S_sumF (S_da R) (nn (R 5)) 0 (nI 0)))) (am_SK n) m2) : am_ex (d + 7) 70 [.ref t] (am_SK n) mem Q := by
  refine ex_in (c0 := kc_X9_drawnByAll) rfl (L := [some (.ref t), none, none]) rfl ?_
  refine ev_iconst (x := nI 0) rfl rfl ?_
  refine ev_istore rfl rfl (Nat.le_of_ble_eq_true rfl) ?_
  refine ev_iconst (x := nI 0) rfl rfl ?_
  refine ev_istore rfl rfl (Nat.le_of_ble_eq_true rfl) ?_
  exact l_X9_drawnByAll ht  _ mem hC 0 (nI 0) (Nat.zero_add _) hQ
theorem l_X9_lightOf {d n : Nat} {Q : am_P} {t : Nat} {R : am_R} (ht : am_T t) (ofc : Int32) (r : Nat) : ∀ (mem : am_M) (hC : CplT t R mem) (k : Nat) (sum : Int32) (hk : k + r = nn (R 5)) (hQ : ∀ m2 : am_M, (∀ q, q ≠ 32 → q ≠ 33 → m2 q = mem q) → Q (some (.int (S_sumF (S_lt R ofc) r k sum))) (am_SK n) m2), am_ev kc_X9_lightOf (d + 6) 4 [some (.ref t), some (.int ofc), some (.int sum), some (.int (nI k))] [] (am_SK n) mem Q := by
  induction r with
  | zero =>
    intro mem hC k sum hk hQ
    have hg := ht.ge
    have hb := wb_all (cp_w hC)
    refine ev_iload rfl rfl ?_
    refine ev_aload rfl rfl ?_
    refine ev_getI (c := 9) (j := 6) rfl ?_ (hq := kt_0 n ht)
    rw [cp_t6 hC]
    refine ev_icmp_geN (p2 := 57) rfl rfl (fun cnd9 => ?_) (fun cnd9 => ?_)
    · skip
      refine ev_iload rfl rfl ?_
      refine ev_iret rfl ?_
      exact hQ mem (fun _ _ _ => rfl)
    · omega
  | succ r ih =>
    intro mem hC k sum hk hQ
    have hg := ht.ge
    have hb := wb_all (cp_w hC)
    have hj := cp_jl hC (show k < nn (R 5) by omega)
    have hcb := cp_cab hC hj
    refine ev_iload rfl rfl ?_
    refine ev_aload rfl rfl ?_
    refine ev_getI (c := 9) (j := 6) rfl ?_ (hq := kt_0 n ht)
    rw [cp_t6 hC]
    refine ev_icmp_geN (p2 := 57) rfl rfl (fun cnd9 => ?_) (fun cnd9 => ?_)
    · omega
    · skip
      refine ev_aload rfl rfl ?_
      refine ev_getR (c := 9) (j := 5) rfl ?_ (hq := kt_0 n ht)
      refine ev_iload rfl rfl ?_
      refine ev_aldN rfl rfl ?_ (kr_lamp (by omega)) (hq := kt_3 n ht)
      refine ev_getI (c := 4) (j := 3) rfl ?_ (hq := kt_lamp n ht (by omega))
      rw [cp_l (k := 3) (l := k) hC (by omega) (by decide)]
      refine ev_iload rfl rfl ?_
      refine ev_icmp_ne (p2 := 51) rfl rfl (fun cnd22 => ?_) (fun cnd22 => ?_)
      · skip
        refine ev_iincN rfl rfl rfl ?_
        refine ev_goto (p2 := 4) rfl rfl ?_
        first
        | (rw [show S_sumF (S_lt R ofc) (r + 1) k sum = S_sumF (S_lt R ofc) r (k + 1) (sum + S_draw R k) from congrArg (fun z => S_sumF (S_lt R ofc) r (k + 1) (sum + z)) (if_pos (And.intro cnd22 cnd35))] at hQ
           exact ih _ hC (k + 1) _ (by omega) (fun m3 h3 => hQ m3 (fun q q1 q2 => (h3 q q1 q2).trans (h2 q q1 q2))))
        | (rw [show S_sumF (S_lt R ofc) (r + 1) k sum = S_sumF (S_lt R ofc) r (k + 1) (sum + nI 0) from congrArg (fun z => S_sumF (S_lt R ofc) r (k + 1) (sum + z)) (if_neg (fun z => cnd22 z.1)), am_add0] at hQ
           exact ih _ hC (k + 1) _ (by omega) hQ)
        | (rw [show S_sumF (S_lt R ofc) (r + 1) k sum = S_sumF (S_lt R ofc) r (k + 1) (sum + nI 0) from congrArg (fun z => S_sumF (S_lt R ofc) r (k + 1) (sum + z)) (if_neg (fun z => absurd z.2 (by rw [cnd35]; decide))), am_add0] at hQ
           exact ih _ hC (k + 1) _ (by omega) hQ)
      · skip
        refine ev_aload rfl rfl ?_
        refine ev_aload rfl rfl ?_
        refine ev_getR (c := 9) (j := 5) rfl ?_ (hq := kt_0 n ht)
        refine ev_iload rfl rfl ?_
        refine ev_aldN rfl rfl ?_ (kr_lamp (by omega)) (hq := kt_3 n ht)
        refine ev_callV rfl rfl rfl rfl (Nat.le_of_ble_eq_true rfl) (Nat.le_of_ble_eq_true rfl) ?_ (hq := kt_0 n ht)
        refine c_X9_burns ht hC k (by omega) ?_
        change am_ev _ _ _ _ (_ :: _) _ _ _
        refine ev_if_eqO (p2 := 51) rfl rfl (fun cnd35 => ?_) (fun cnd35 => ?_)
        · skip
          refine ev_iincN rfl rfl rfl ?_
          refine ev_goto (p2 := 4) rfl rfl ?_
          first
          | (rw [show S_sumF (S_lt R ofc) (r + 1) k sum = S_sumF (S_lt R ofc) r (k + 1) (sum + S_draw R k) from congrArg (fun z => S_sumF (S_lt R ofc) r (k + 1) (sum + z)) (if_pos (And.intro cnd22 cnd35))] at hQ
             exact ih _ hC (k + 1) _ (by omega) (fun m3 h3 => hQ m3 (fun q q1 q2 => (h3 q q1 q2).trans (h2 q q1 q2))))
          | (rw [show S_sumF (S_lt R ofc) (r + 1) k sum = S_sumF (S_lt R ofc) r (k + 1) (sum + nI 0) from congrArg (fun z => S_sumF (S_lt R ofc) r (k + 1) (sum + z)) (if_neg (fun z => cnd22 z.1)), am_add0] at hQ
             exact ih _ hC (k + 1) _ (by omega) hQ)
          | (rw [show S_sumF (S_lt R ofc) (r + 1) k sum = S_sumF (S_lt R ofc) r (k + 1) (sum + nI 0) from congrArg (fun z => S_sumF (S_lt R ofc) r (k + 1) (sum + z)) (if_neg (fun z => absurd z.2 (by rw [cnd35]; decide))), am_add0] at hQ
             exact ih _ hC (k + 1) _ (by omega) hQ)
        · skip
          refine ev_iload rfl rfl ?_
          refine ev_aload rfl rfl ?_
          refine ev_aload rfl rfl ?_
          refine ev_getR (c := 9) (j := 5) rfl ?_ (hq := kt_0 n ht)
          refine ev_iload rfl rfl ?_
          refine ev_aldN rfl rfl ?_ (kr_lamp (by omega)) (hq := kt_3 n ht)
          refine ev_callV rfl rfl rfl rfl (Nat.le_of_ble_eq_true rfl) (Nat.le_of_ble_eq_true rfl) ?_ (hq := kt_0 n ht)
          refine c_X9_draws ht hC k (by omega) (fun m2 h2 => ?_)
          have hC := cp_fr2 hC ht h2
          change am_ev _ _ _ _ (_ :: _) _ _ _
          refine ev_iadd rfl ?_
          refine ev_istore rfl rfl (Nat.le_of_ble_eq_true rfl) ?_
          refine ev_iincN rfl rfl rfl ?_
          refine ev_goto (p2 := 4) rfl rfl ?_
          first
          | (rw [show S_sumF (S_lt R ofc) (r + 1) k sum = S_sumF (S_lt R ofc) r (k + 1) (sum + S_draw R k) from congrArg (fun z => S_sumF (S_lt R ofc) r (k + 1) (sum + z)) (if_pos (And.intro cnd22 cnd35))] at hQ
             exact ih _ hC (k + 1) _ (by omega) (fun m3 h3 => hQ m3 (fun q q1 q2 => (h3 q q1 q2).trans (h2 q q1 q2))))
          | (rw [show S_sumF (S_lt R ofc) (r + 1) k sum = S_sumF (S_lt R ofc) r (k + 1) (sum + nI 0) from congrArg (fun z => S_sumF (S_lt R ofc) r (k + 1) (sum + z)) (if_neg (fun z => cnd22 z.1)), am_add0] at hQ
             exact ih _ hC (k + 1) _ (by omega) hQ)
          | (rw [show S_sumF (S_lt R ofc) (r + 1) k sum = S_sumF (S_lt R ofc) r (k + 1) (sum + nI 0) from congrArg (fun z => S_sumF (S_lt R ofc) r (k + 1) (sum + z)) (if_neg (fun z => absurd z.2 (by rw [cnd35]; decide))), am_add0] at hQ
             exact ih _ hC (k + 1) _ (by omega) hQ)
theorem c_X9_lightOf {d n : Nat} {mem : am_M} {Q : am_P} {t : Nat} {R : am_R} (ht : am_T t) (hC : CplT t R mem) (ofc : Int32)  (hQ : ∀ m2 : am_M, (∀ q, q ≠ 32 → q ≠ 33 → m2 q = mem q) → Q (some (.int (S_sumF (S_lt R ofc) (nn (R 5)) 0 (nI 0)))) (am_SK n) m2) : am_ex (d + 7) 71 [.ref t, .int ofc] (am_SK n) mem Q := by
  refine ex_in (c0 := kc_X9_lightOf) rfl (L := [some (.ref t), some (.int ofc), none, none]) rfl ?_
  refine ev_iconst (x := nI 0) rfl rfl ?_
  refine ev_istore rfl rfl (Nat.le_of_ble_eq_true rfl) ?_
  refine ev_iconst (x := nI 0) rfl rfl ?_
  refine ev_istore rfl rfl (Nat.le_of_ble_eq_true rfl) ?_
  exact l_X9_lightOf ht ofc _ mem hC 0 (nI 0) (Nat.zero_add _) hQ
theorem l_X9_lampsAt {d n : Nat} {Q : am_P} {t : Nat} {R : am_R} (ht : am_T t) (j : Int32) (r : Nat) : ∀ (mem : am_M) (hC : CplT t R mem) (k : Nat) (sum : Int32) (hk : k + r = nn (R 5)) (hQ : ∀ m2 : am_M, (∀ q, q ≠ 32 → q ≠ 33 → m2 q = mem q) → Q (some (.int (S_sumF (S_at R j) r k sum))) (am_SK n) m2), am_ev kc_X9_lampsAt (d + 1) 4 [some (.ref t), some (.int j), some (.int sum), some (.int (nI k))] [] (am_SK n) mem Q := by
  induction r with
  | zero =>
    intro mem hC k sum hk hQ
    have hg := ht.ge
    have hb := wb_all (cp_w hC)
    refine ev_iload rfl rfl ?_
    refine ev_aload rfl rfl ?_
    refine ev_getI (c := 9) (j := 6) rfl ?_ (hq := kt_0 n ht)
    rw [cp_t6 hC]
    refine ev_icmp_geN (p2 := 34) rfl rfl (fun cnd9 => ?_) (fun cnd9 => ?_)
    · skip
      refine ev_iload rfl rfl ?_
      refine ev_iret rfl ?_
      exact hQ mem (fun _ _ _ => rfl)
    · omega
  | succ r ih =>
    intro mem hC k sum hk hQ
    have hg := ht.ge
    have hb := wb_all (cp_w hC)
    have hj := cp_jl hC (show k < nn (R 5) by omega)
    have hcb := cp_cab hC hj
    refine ev_iload rfl rfl ?_
    refine ev_aload rfl rfl ?_
    refine ev_getI (c := 9) (j := 6) rfl ?_ (hq := kt_0 n ht)
    rw [cp_t6 hC]
    refine ev_icmp_geN (p2 := 34) rfl rfl (fun cnd9 => ?_) (fun cnd9 => ?_)
    · omega
    · skip
      refine ev_aload rfl rfl ?_
      refine ev_getR (c := 9) (j := 5) rfl ?_ (hq := kt_0 n ht)
      refine ev_iload rfl rfl ?_
      refine ev_aldN rfl rfl ?_ (kr_lamp (by omega)) (hq := kt_3 n ht)
      refine ev_getI (c := 4) (j := 1) rfl ?_ (hq := kt_lamp n ht (by omega))
      rw [cp_l1 hC (l := k) (by omega)]
      refine ev_iload rfl rfl ?_
      refine ev_icmp_ne (p2 := 28) rfl rfl (fun cnd22 => ?_) (fun cnd22 => ?_)
      · skip
        refine ev_iincN rfl rfl rfl ?_
        refine ev_goto (p2 := 4) rfl rfl ?_
        first
        | (rw [show S_sumF (S_at R j) (r + 1) k sum = S_sumF (S_at R j) r (k + 1) (sum + nI 1) from congrArg (fun z => S_sumF (S_at R j) r (k + 1) (sum + z)) (if_pos (by rw [((cp_w hC).2.2.2.2.1 k (by omega)).2.1.1]; exact cnd22))] at hQ
           exact ih _ hC (k + 1) _ (by omega) (fun m3 h3 => hQ m3 h3))
        | (rw [show S_sumF (S_at R j) (r + 1) k sum = S_sumF (S_at R j) r (k + 1) (sum + nI 0) from congrArg (fun z => S_sumF (S_at R j) r (k + 1) (sum + z)) (if_neg (by rw [((cp_w hC).2.2.2.2.1 k (by omega)).2.1.1]; exact cnd22)), am_add0] at hQ
           exact ih _ hC (k + 1) _ (by omega) hQ)
      · skip
        refine ev_iinc rfl rfl rfl rfl ?_
        refine ev_iincN rfl rfl rfl ?_
        refine ev_goto (p2 := 4) rfl rfl ?_
        first
        | (rw [show S_sumF (S_at R j) (r + 1) k sum = S_sumF (S_at R j) r (k + 1) (sum + nI 1) from congrArg (fun z => S_sumF (S_at R j) r (k + 1) (sum + z)) (if_pos (by rw [((cp_w hC).2.2.2.2.1 k (by omega)).2.1.1]; exact cnd22))] at hQ
           exact ih _ hC (k + 1) _ (by omega) (fun m3 h3 => hQ m3 h3))
        | (rw [show S_sumF (S_at R j) (r + 1) k sum = S_sumF (S_at R j) r (k + 1) (sum + nI 0) from congrArg (fun z => S_sumF (S_at R j) r (k + 1) (sum + z)) (if_neg (by rw [((cp_w hC).2.2.2.2.1 k (by omega)).2.1.1]; exact cnd22)), am_add0] at hQ
           exact ih _ hC (k + 1) _ (by omega) hQ)
theorem c_X9_lampsAt {d n : Nat} {mem : am_M} {Q : am_P} {t : Nat} {R : am_R} (ht : am_T t) (hC : CplT t R mem) (j : Int32)  (hQ : ∀ m2 : am_M, (∀ q, q ≠ 32 → q ≠ 33 → m2 q = mem q) → Q (some (.int (S_sumF (S_at R j) (nn (R 5)) 0 (nI 0)))) (am_SK n) m2) : am_ex (d + 2) 72 [.ref t, .int j] (am_SK n) mem Q := by
  refine ex_in (c0 := kc_X9_lampsAt) rfl (L := [some (.ref t), some (.int j), none, none]) rfl ?_
  refine ev_iconst (x := nI 0) rfl rfl ?_
  refine ev_istore rfl rfl (Nat.le_of_ble_eq_true rfl) ?_
  refine ev_iconst (x := nI 0) rfl rfl ?_
  refine ev_istore rfl rfl (Nat.le_of_ble_eq_true rfl) ?_
  exact l_X9_lampsAt ht j _ mem hC 0 (nI 0) (Nat.zero_add _) hQ
theorem l_X9_lampsOut {d n : Nat} {Q : am_P} {t : Nat} {R : am_R} (ht : am_T t) (r : Nat) : ∀ (mem : am_M) (hC : CplT t R mem) (k : Nat) (sum : Int32) (hk : k + r = nn (R 5)) (hQ : ∀ m2 : am_M, (∀ q, q ≠ 32 → q ≠ 33 → m2 q = mem q) → Q (some (.int (S_sumF (S_out R) r k sum))) (am_SK n) m2), am_ev kc_X9_lampsOut (d + 2) 4 [some (.ref t), some (.int sum), some (.int (nI k))] [] (am_SK n) mem Q := by
  induction r with
  | zero =>
    intro mem hC k sum hk hQ
    have hg := ht.ge
    have hb := wb_all (cp_w hC)
    refine ev_iload rfl rfl ?_
    refine ev_aload rfl rfl ?_
    refine ev_getI (c := 9) (j := 6) rfl ?_ (hq := kt_0 n ht)
    rw [cp_t6 hC]
    refine ev_icmp_geN (p2 := 33) rfl rfl (fun cnd9 => ?_) (fun cnd9 => ?_)
    · skip
      refine ev_iload rfl rfl ?_
      refine ev_iret rfl ?_
      exact hQ mem (fun _ _ _ => rfl)
    · omega
  | succ r ih =>
    intro mem hC k sum hk hQ
    have hg := ht.ge
    have hb := wb_all (cp_w hC)
    have hj := cp_jl hC (show k < nn (R 5) by omega)
    have hcb := cp_cab hC hj
    refine ev_iload rfl rfl ?_
    refine ev_aload rfl rfl ?_
    refine ev_getI (c := 9) (j := 6) rfl ?_ (hq := kt_0 n ht)
    rw [cp_t6 hC]
    refine ev_icmp_geN (p2 := 33) rfl rfl (fun cnd9 => ?_) (fun cnd9 => ?_)
    · omega
    · skip
      refine ev_iload rfl rfl ?_
      refine ev_aload rfl rfl ?_
      refine ev_getR (c := 9) (j := 5) rfl ?_ (hq := kt_0 n ht)
      refine ev_iload rfl rfl ?_
      refine ev_aldN rfl rfl ?_ (kr_lamp (by omega)) (hq := kt_3 n ht)
      refine ev_getI (c := 4) (j := 5) rfl ?_ (hq := kt_lamp n ht (by omega))
      rw [cp_l (k := 5) (l := k) hC (by omega) (by decide)]
      refine ev_call rfl rfl ?_
      refine c_X11_bit _ (is01 ((cp_w hC).2.2.2.2.1 k (by omega) |>.2.2.2.2.2.1)) ?_
      change am_ev _ _ _ _ (_ :: _) _ _ _
      refine ev_iadd rfl ?_
      refine ev_istore rfl rfl (Nat.le_of_ble_eq_true rfl) ?_
      refine ev_iincN rfl rfl rfl ?_
      refine ev_goto (p2 := 4) rfl rfl ?_
      exact ih _ hC (k + 1) _ (by omega) hQ
theorem c_X9_lampsOut {d n : Nat} {mem : am_M} {Q : am_P} {t : Nat} {R : am_R} (ht : am_T t) (hC : CplT t R mem)  (hQ : ∀ m2 : am_M, (∀ q, q ≠ 32 → q ≠ 33 → m2 q = mem q) → Q (some (.int (S_sumF (S_out R) (nn (R 5)) 0 (nI 0)))) (am_SK n) m2) : am_ex (d + 3) 73 [.ref t] (am_SK n) mem Q := by
  refine ex_in (c0 := kc_X9_lampsOut) rfl (L := [some (.ref t), none, none]) rfl ?_
  refine ev_iconst (x := nI 0) rfl rfl ?_
  refine ev_istore rfl rfl (Nat.le_of_ble_eq_true rfl) ?_
  refine ev_iconst (x := nI 0) rfl rfl ?_
  refine ev_istore rfl rfl (Nat.le_of_ble_eq_true rfl) ?_
  exact l_X9_lampsOut ht  _ mem hC 0 (nI 0) (Nat.zero_add _) hQ
theorem l_X9_lampsToldDark {d n : Nat} {Q : am_P} {t : Nat} {R : am_R} (ht : am_T t) (r : Nat) : ∀ (mem : am_M) (hC : CplT t R mem) (k : Nat) (sum : Int32) (hk : k + r = nn (R 5)) (hQ : ∀ m2 : am_M, (∀ q, q ≠ 32 → q ≠ 33 → m2 q = mem q) → Q (some (.int (S_sumF (S_drk R) r k sum))) (am_SK n) m2), am_ev kc_X9_lampsToldDark (d + 2) 4 [some (.ref t), some (.int sum), some (.int (nI k))] [] (am_SK n) mem Q := by
  induction r with
  | zero =>
    intro mem hC k sum hk hQ
    have hg := ht.ge
    have hb := wb_all (cp_w hC)
    refine ev_iload rfl rfl ?_
    refine ev_aload rfl rfl ?_
    refine ev_getI (c := 9) (j := 6) rfl ?_ (hq := kt_0 n ht)
    rw [cp_t6 hC]
    refine ev_icmp_geN (p2 := 33) rfl rfl (fun cnd9 => ?_) (fun cnd9 => ?_)
    · skip
      refine ev_iload rfl rfl ?_
      refine ev_iret rfl ?_
      exact hQ mem (fun _ _ _ => rfl)
    · omega
  | succ r ih =>
    intro mem hC k sum hk hQ
    have hg := ht.ge
    have hb := wb_all (cp_w hC)
    have hj := cp_jl hC (show k < nn (R 5) by omega)
    have hcb := cp_cab hC hj
    refine ev_iload rfl rfl ?_
    refine ev_aload rfl rfl ?_
    refine ev_getI (c := 9) (j := 6) rfl ?_ (hq := kt_0 n ht)
    rw [cp_t6 hC]
    refine ev_icmp_geN (p2 := 33) rfl rfl (fun cnd9 => ?_) (fun cnd9 => ?_)
    · omega
    · skip
      refine ev_iload rfl rfl ?_
      refine ev_aload rfl rfl ?_
      refine ev_getR (c := 9) (j := 5) rfl ?_ (hq := kt_0 n ht)
      refine ev_iload rfl rfl ?_
      refine ev_aldN rfl rfl ?_ (kr_lamp (by omega)) (hq := kt_3 n ht)
      refine ev_getI (c := 4) (j := 6) rfl ?_ (hq := kt_lamp n ht (by omega))
      rw [cp_l (k := 6) (l := k) hC (by omega) (by decide)]
      refine ev_call rfl rfl ?_
      refine c_X11_bit _ (is01 ((cp_w hC).2.2.2.2.1 k (by omega) |>.2.2.2.2.2.2)) ?_
      change am_ev _ _ _ _ (_ :: _) _ _ _
      refine ev_iadd rfl ?_
      refine ev_istore rfl rfl (Nat.le_of_ble_eq_true rfl) ?_
      refine ev_iincN rfl rfl rfl ?_
      refine ev_goto (p2 := 4) rfl rfl ?_
      exact ih _ hC (k + 1) _ (by omega) hQ
theorem c_X9_lampsToldDark {d n : Nat} {mem : am_M} {Q : am_P} {t : Nat} {R : am_R} (ht : am_T t) (hC : CplT t R mem)  (hQ : ∀ m2 : am_M, (∀ q, q ≠ 32 → q ≠ 33 → m2 q = mem q) → Q (some (.int (S_sumF (S_drk R) (nn (R 5)) 0 (nI 0)))) (am_SK n) m2) : am_ex (d + 3) 74 [.ref t] (am_SK n) mem Q := by
  refine ex_in (c0 := kc_X9_lampsToldDark) rfl (L := [some (.ref t), none, none]) rfl ?_
  refine ev_iconst (x := nI 0) rfl rfl ?_
  refine ev_istore rfl rfl (Nat.le_of_ble_eq_true rfl) ?_
  refine ev_iconst (x := nI 0) rfl rfl ?_
  refine ev_istore rfl rfl (Nat.le_of_ble_eq_true rfl) ?_
  exact l_X9_lampsToldDark ht  _ mem hC 0 (nI 0) (Nat.zero_add _) hQ
theorem l_X9_brokenThings2 {d n : Nat} {Q : am_P} {t : Nat} {R : am_R} (ht : am_T t) (r : Nat) : ∀ (mem : am_M) (hC : CplT t R mem) (k : Nat) (sum : Int32) (hk : k + r = nn (R 4)) (hQ : ∀ m2 : am_M, (∀ q, q ≠ 32 → q ≠ 33 → m2 q = mem q) → Q (some (.int (S_sumF (S_jbk R) r k sum))) (am_SK n) m2), am_ev kc_X9_brokenThings (d + 2) 35 [some (.ref t), some (.int sum), some (.int (nI k))] [] (am_SK n) mem Q := by
  induction r with
  | zero =>
    intro mem hC k sum hk hQ
    have hg := ht.ge
    have hb := wb_all (cp_w hC)
    refine ev_iload rfl rfl ?_
    refine ev_aload rfl rfl ?_
    refine ev_getI (c := 9) (j := 4) rfl ?_ (hq := kt_0 n ht)
    rw [cp_t4 hC]
    refine ev_icmp_geN (p2 := 64) rfl rfl (fun cnd40 => ?_) (fun cnd40 => ?_)
    · skip
      refine ev_iload rfl rfl ?_
      refine ev_iret rfl ?_
      exact hQ mem (fun _ _ _ => rfl)
    · omega
  | succ r ih =>
    intro mem hC k sum hk hQ
    have hg := ht.ge
    have hb := wb_all (cp_w hC)
    refine ev_iload rfl rfl ?_
    refine ev_aload rfl rfl ?_
    refine ev_getI (c := 9) (j := 4) rfl ?_ (hq := kt_0 n ht)
    rw [cp_t4 hC]
    refine ev_icmp_geN (p2 := 64) rfl rfl (fun cnd40 => ?_) (fun cnd40 => ?_)
    · omega
    · skip
      refine ev_iload rfl rfl ?_
      refine ev_aload rfl rfl ?_
      refine ev_getR (c := 9) (j := 3) rfl ?_ (hq := kt_0 n ht)
      refine ev_iload rfl rfl ?_
      refine ev_aldN rfl rfl ?_ (kr_joint (by omega)) (hq := kt_2 n ht)
      refine ev_getI (c := 3) (j := 3) rfl ?_ (hq := kt_joint n ht (by omega))
      rw [cp_j3 hC (j := k) (by omega)]
      refine ev_call rfl rfl ?_
      refine c_X11_bit _ (is01 ((cp_w hC).2.2.2.1 k (by omega) |>.2.2)) ?_
      change am_ev _ _ _ _ (_ :: _) _ _ _
      refine ev_iadd rfl ?_
      refine ev_istore rfl rfl (Nat.le_of_ble_eq_true rfl) ?_
      refine ev_iincN rfl rfl rfl ?_
      refine ev_goto (p2 := 35) rfl rfl ?_
      exact ih _ hC (k + 1) _ (by omega) hQ
theorem l_X9_brokenThings {d n : Nat} {Q : am_P} {t : Nat} {R : am_R} (ht : am_T t) (r : Nat) : ∀ (mem : am_M) (hC : CplT t R mem) (k : Nat) (sum : Int32) (hk : k + r = nn (R 3)) (hQ : ∀ m2 : am_M, (∀ q, q ≠ 32 → q ≠ 33 → m2 q = mem q) → Q (some (.int (S_sumF (S_jbk R) (nn (R 4)) 0 (S_sumF (S_cbk R) r k sum)))) (am_SK n) m2), am_ev kc_X9_brokenThings (d + 2) 4 [some (.ref t), some (.int sum), some (.int (nI k))] [] (am_SK n) mem Q := by
  induction r with
  | zero =>
    intro mem hC k sum hk hQ
    have hg := ht.ge
    have hb := wb_all (cp_w hC)
    refine ev_iload rfl rfl ?_
    refine ev_aload rfl rfl ?_
    refine ev_getI (c := 9) (j := 2) rfl ?_ (hq := kt_0 n ht)
    rw [cp_t2 hC]
    refine ev_icmp_geN (p2 := 33) rfl rfl (fun cnd9 => ?_) (fun cnd9 => ?_)
    · skip
      refine ev_iconst (x := nI 0) rfl rfl ?_
      refine ev_istore rfl rfl (Nat.le_of_ble_eq_true rfl) ?_
      exact l_X9_brokenThings2 ht _ mem hC 0 _ (Nat.zero_add _) hQ
    · omega
  | succ r ih =>
    intro mem hC k sum hk hQ
    have hg := ht.ge
    have hb := wb_all (cp_w hC)
    refine ev_iload rfl rfl ?_
    refine ev_aload rfl rfl ?_
    refine ev_getI (c := 9) (j := 2) rfl ?_ (hq := kt_0 n ht)
    rw [cp_t2 hC]
    refine ev_icmp_geN (p2 := 33) rfl rfl (fun cnd9 => ?_) (fun cnd9 => ?_)
    · omega
    · skip
      refine ev_iload rfl rfl ?_
      refine ev_aload rfl rfl ?_
      refine ev_getR (c := 9) (j := 1) rfl ?_ (hq := kt_0 n ht)
      refine ev_iload rfl rfl ?_
      refine ev_aldN rfl rfl ?_ (kr_cab (by omega)) (hq := kt_1 n ht)
      refine ev_getI (c := 1) (j := 4) rfl ?_ (hq := kt_cab n ht (by omega))
      rw [cp_c (k := 4) (c := k) hC (by omega) (by decide)]
      refine ev_call rfl rfl ?_
      refine c_X11_bit _ (is01 ((cp_w hC).2.2.1 k (by omega) |>.2.2.2.2.1)) ?_
      change am_ev _ _ _ _ (_ :: _) _ _ _
      refine ev_iadd rfl ?_
      refine ev_istore rfl rfl (Nat.le_of_ble_eq_true rfl) ?_
      refine ev_iincN rfl rfl rfl ?_
      refine ev_goto (p2 := 4) rfl rfl ?_
      exact ih _ hC (k + 1) _ (by omega) hQ
theorem c_X9_brokenThings {d n : Nat} {mem : am_M} {Q : am_P} {t : Nat} {R : am_R} (ht : am_T t) (hC : CplT t R mem) (hQ : ∀ m2 : am_M, (∀ q, q ≠ 32 → q ≠ 33 → m2 q = mem q) → Q (some (.int (S_sumF (S_jbk R) (nn (R 4)) 0 (S_sumF (S_cbk R) (nn (R 3)) 0 (nI 0))))) (am_SK n) m2) : am_ex (d + 3) 75 [.ref t] (am_SK n) mem Q := by
  refine ex_in (c0 := kc_X9_brokenThings) rfl (L := [some (.ref t), none, none]) rfl ?_
  refine ev_iconst (x := nI 0) rfl rfl ?_
  refine ev_istore rfl rfl (Nat.le_of_ble_eq_true rfl) ?_
  refine ev_iconst (x := nI 0) rfl rfl ?_
  refine ev_istore rfl rfl (Nat.le_of_ble_eq_true rfl) ?_
  exact l_X9_brokenThings ht _ mem hC 0 (nI 0) (Nat.zero_add _) hQ
