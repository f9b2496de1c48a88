/-! who is blamed: the class -/
theorem onI_own {R : am_R} {i j f : Nat} (h : f < i) : b1 (onI R i j f) = (if f = j then 1 else 0) := by
  by_cases e : f = j
  · subst e; rw [onI_j, if_pos rfl]; rfl
  · rw [if_neg e, onI_no e (by omega)]; rfl
theorem wA_D (R : am_R) (l : Nat) (x : Bool) : b1 (wA R l && x) = b1 (wD R l && x) + 1 * b1 (wB R l && x) := by
  unfold wA wD wB
  cases S_should R l <;> cases dk R l <;> cases x <;> rfl
theorem NJ_AD (R : am_R) (i j k : Nat) : NJ R (wA R) i j k = NJ R (wD R) i j k + NJ R (wB R) i j k := by
  have h := cnt_spl (p := fun l => wA R l && onI R i j (jt R l)) (q := fun l => wD R l && onI R i j (jt R l)) (r := fun l => wB R l && onI R i j (jt R l)) (w := 1) k (fun l _ => wA_D R l _)
  unfold NJ
  omega
theorem NC_AD (R : am_R) (i j k : Nat) : NC R (wA R) i j k = NC R (wD R) i j k + NC R (wB R) i j k := by
  have h := cnt_spl (p := fun l => wA R l && cbI R i j (jt R l)) (q := fun l => wD R l && cbI R i j (jt R l)) (r := fun l => wB R l && cbI R i j (jt R l)) (w := 1) k (fun l _ => wA_D R l _)
  unfold NC
  omega
theorem bJ_D (R : am_R) (j : Nat) : bJ R j = decide (2 ≤ NJ R (wA R) 0 j (nn (R 5)) ∧ NJ R (wD R) 0 j (nn (R 5)) = NJ R (wA R) 0 j (nn (R 5))) := by
  unfold bJ
  have h := NJ_AD R 0 j (nn (R 5))
  rw [decide_eq_decide]
  omega
theorem bC_D (R : am_R) (j : Nat) : bC R j = decide (2 ≤ NC R (wA R) 0 j (nn (R 5)) ∧ NC R (wD R) 0 j (nn (R 5)) = NC R (wA R) 0 j (nn (R 5))) := by
  unfold bC
  have h := NC_AD R 0 j (nn (R 5))
  rw [decide_eq_decide]
  omega
theorem NJ_down (R : am_R) (w : Nat → Bool) (i j k : Nat) : NJ R w i j k = NJ R w (i + 1) j k + (if fd R i = j ∧ fd R i < i then NJ R w (i + 1) i k else 0) := by
  unfold NJ
  by_cases h : fd R i = j ∧ fd R i < i
  · rw [if_pos h]
    have z := cnt_spl (p := fun l => w l && onI R i j (jt R l)) (q := fun l => w l && onI R (i + 1) j (jt R l)) (r := fun l => w l && onI R (i + 1) i (jt R l)) (w := 1) k (fun l _ => by
      have e := onI_step R i j (jt R l)
      rw [if_pos h] at e
      cases w l
      · rfl
      · rw [Bool.true_and, Bool.true_and, Bool.true_and, Nat.one_mul]; exact e)
    omega
  · rw [if_neg h]
    exact cnt_cg k (fun l _ => by
      have e := onI_step R i j (jt R l)
      rw [if_neg h, Nat.add_zero] at e
      unfold b1 at e
      cases h1 : onI R i j (jt R l) <;> cases h2 : onI R (i + 1) j (jt R l) <;> rw [h1, h2] at e <;> first | rfl | exact absurd e (by decide))
theorem NC_down (R : am_R) (w : Nat → Bool) (i c k : Nat) : NC R w i c k = NC R w (i + 1) c k + (if ¬ fd R i < i ∧ fd R i - 100 = c then NJ R w (i + 1) i k else 0) := by
  unfold NC NJ
  by_cases h : ¬ fd R i < i ∧ fd R i - 100 = c
  · rw [if_pos h]
    have z := cnt_spl (p := fun l => w l && cbI R i c (jt R l)) (q := fun l => w l && cbI R (i + 1) c (jt R l)) (r := fun l => w l && onI R (i + 1) i (jt R l)) (w := 1) k (fun l _ => by
      have e := cbI_step R i c (jt R l)
      rw [if_pos h] at e
      cases w l
      · rfl
      · rw [Bool.true_and, Bool.true_and, Bool.true_and, Nat.one_mul]; exact e)
    omega
  · rw [if_neg h]
    exact cnt_cg k (fun l _ => by
      have e := cbI_step R i c (jt R l)
      rw [if_neg h, Nat.add_zero] at e
      unfold b1 at e
      cases h1 : cbI R i c (jt R l) <;> cases h2 : cbI R (i + 1) c (jt R l) <;> rw [h1, h2] at e <;> first | rfl | exact absurd e (by decide))
theorem c_X2_areAllDark {d n : Nat} {mem : am_M} {Q : am_P} (x y : Nat) (hx : x < 1000) (hy : y < 1000) (hQ : Q (some (.int (ob (decide (2 ≤ x ∧ y = x))))) (am_SK n) mem) : am_ex (d + 1) 11 [.int (nI x), .int (nI y)] (am_SK n) mem Q := by
  refine ex_in (c0 := kc_X2_areAllDark) rfl (L := [some (.int (nI x)), some (.int (nI y))]) rfl ?_
  refine ev_iload rfl rfl ?_
  refine ev_iconst (x := nI 2) rfl rfl ?_
  refine ev_icmp_ltN (p2 := 14) rfl rfl (fun cnd2 => ?_) (fun cnd2 => ?_)
  · skip
    refine ev_iconst (x := nI 0) rfl rfl ?_
    refine ev_zret rfl ?_
    first
    | (rw [decide_eq_true (show 2 ≤ x ∧ y = x by omega)] at hQ; exact hQ)
    | (rw [decide_eq_false (show ¬ (2 ≤ x ∧ y = x) by omega)] at hQ; exact hQ)
  · skip
    refine ev_iload rfl rfl ?_
    refine ev_iload rfl rfl ?_
    refine ev_icmp_neN (p2 := 14) rfl rfl (fun cnd7 => ?_) (fun cnd7 => ?_)
    · skip
      refine ev_iconst (x := nI 0) rfl rfl ?_
      refine ev_zret rfl ?_
      first
      | (rw [decide_eq_true (show 2 ≤ x ∧ y = x by omega)] at hQ; exact hQ)
      | (rw [decide_eq_false (show ¬ (2 ≤ x ∧ y = x) by omega)] at hQ; exact hQ)
    · skip
      refine ev_iconst (x := nI 1) rfl rfl ?_
      refine ev_goto (p2 := 15) rfl rfl ?_
      refine ev_zret rfl ?_
      first
      | (rw [decide_eq_true (show 2 ≤ x ∧ y = x by omega)] at hQ; exact hQ)
      | (rw [decide_eq_false (show ¬ (2 ≤ x ∧ y = x) by omega)] at hQ; exact hQ)
theorem c_addJ {d n : Nat} {mem : am_M} {Q : am_P} (f x y a b : Nat) (hf : f < 12) (hx : x < 1000) (h1 : mem 183 f = nI a) (h2 : mem 184 f = nI b) (hQ : Q none (am_SK n) (am_up (am_up mem 183 f (nI (a + x))) 184 f (nI (b + y)))) : am_ex (d + 1) 13 [.ref 180, .int (nI f), .int (nI x), .int (nI y)] (am_SK n) mem Q := by
  refine ex_in (c0 := kc_X2_addToFeed) rfl (L := [some (.ref 180), some (.int (nI f)), some (.int (nI x)), some (.int (nI y))]) rfl ?_
  refine ev_iload rfl rfl ?_
  refine ev_iconst (x := nI 100) rfl rfl ?_
  refine ev_icmp_ltN (p2 := 35) rfl rfl (fun cnd3 => ?_) (fun cnd3 => ?_)
  · skip
    refine ev_aload rfl rfl ?_
    refine ev_getR (c := 2) (j := 2) rfl ?_ (hq := k_180 n)
    refine ev_iload rfl rfl ?_
    refine ev_dup2 rfl ?_
    refine ev_ialdN rfl rfl ?_ (hq := k_183 n)
    rw [h1]
    refine ev_iload rfl rfl ?_
    refine ev_iaddN rfl ?_
    refine ev_iastN rfl rfl ?_ (hq := k_183 n)
    refine ev_aload rfl rfl ?_
    refine ev_getR (c := 2) (j := 3) rfl ?_ (hq := k_180 n)
    refine ev_iload rfl rfl ?_
    refine ev_dup2 rfl ?_
    refine ev_ialdN rfl rfl ?_ (hq := k_184 n)
    rw [am_up_ne (show (184 : Nat) ≠ 183 by decide), h2]
    refine ev_iload rfl rfl ?_
    refine ev_iaddN rfl ?_
    refine ev_iastN rfl rfl ?_ (hq := k_184 n)
    refine ev_vret rfl ?_
    exact hQ
  · omega
theorem c_addC {d n : Nat} {mem : am_M} {Q : am_P} (f x y a b : Nat) (hf : 100 ≤ f ∧ f < 103) (hx : x < 1000) (h1 : mem 181 (f - 100) = nI a) (h2 : mem 182 (f - 100) = nI b) (hQ : Q none (am_SK n) (am_up (am_up mem 181 (f - 100) (nI (a + x))) 182 (f - 100) (nI (b + y)))) : am_ex (d + 1) 13 [.ref 180, .int (nI f), .int (nI x), .int (nI y)] (am_SK n) mem Q := by
  refine ex_in (c0 := kc_X2_addToFeed) rfl (L := [some (.ref 180), some (.int (nI f)), some (.int (nI x)), some (.int (nI y))]) rfl ?_
  refine ev_iload rfl rfl ?_
  refine ev_iconst (x := nI 100) rfl rfl ?_
  refine ev_icmp_ltN (p2 := 35) rfl rfl (fun cnd3 => ?_) (fun cnd3 => ?_)
  · omega
  · skip
    refine ev_aload rfl rfl ?_
    refine ev_getR (c := 2) (j := 0) rfl ?_ (hq := k_180 n)
    refine ev_iload rfl rfl ?_
    refine ev_iconst (x := nI 100) rfl rfl ?_
    refine ev_isubN rfl ?_
    refine ev_dup2 rfl ?_
    refine ev_ialdN rfl rfl ?_ (hq := k_181 n)
    rw [h1]
    refine ev_iload rfl rfl ?_
    refine ev_iaddN rfl ?_
    refine ev_iastN rfl rfl ?_ (hq := k_181 n)
    refine ev_aload rfl rfl ?_
    refine ev_getR (c := 2) (j := 1) rfl ?_ (hq := k_180 n)
    refine ev_iload rfl rfl ?_
    refine ev_iconst (x := nI 100) rfl rfl ?_
    refine ev_isubN rfl ?_
    refine ev_dup2 rfl ?_
    refine ev_ialdN rfl rfl ?_ (hq := k_182 n)
    rw [am_up_ne (show (182 : Nat) ≠ 181 by decide), h2]
    refine ev_iload rfl rfl ?_
    refine ev_iaddN rfl ?_
    refine ev_iastN rfl rfl ?_ (hq := k_182 n)
    refine ev_goto (p2 := 55) rfl rfl ?_
    refine ev_vret rfl ?_
    exact hQ
theorem l_cb_d {d n : Nat} {mem0 : am_M} {Q : am_P} {R : am_R} (x3 : Option Value) : ∀ (k : Nat) (mem : am_M) (x : Int32) (hx : x = nI k - nI 1) (hk : k ≤ nn (R 4)) (hC : CplT 66 R mem) (hf : FrC mem0 mem) (hA : BA mem 183 184 181 182 (fun j => NJ R (wA R) k j (nn (R 5))) (fun j => NJ R (wD R) k j (nn (R 5))) (fun j => NC R (wA R) k j (nn (R 5))) (fun j => NC R (wD R) k j (nn (R 5)))) (hQ : ∀ m2 : am_M, FrC mem0 m2 → CplT 66 R m2 → BA m2 183 184 181 182 (fun j => NJ R (wA R) 0 j (nn (R 5))) (fun j => NJ R (wD R) 0 j (nn (R 5))) (fun j => NC R (wA R) 0 j (nn (R 5))) (fun j => NC R (wD R) 0 j (nn (R 5))) → Q none (am_SK n) m2), am_ev kc_X2_countBehind (d + 1) 125 [some (.ref 180), some (.ref 66), some (.int x), x3] [] (am_SK n) mem Q := by
  intro k
  induction k with
  | zero =>
    intro mem x hx hk hC hf hA hQ
    subst hx
    refine ev_iload rfl rfl ?_
    refine ev_if_lt (p2 := 160) rfl rfl (fun cnd126 => ?_) (fun cnd126 => ?_)
    · skip
      refine ev_vret rfl ?_
      exact hQ mem hf hC hA
    · exact absurd (by decide) cnd126
  | succ k ih =>
    intro mem x hx hk hC hf hA hQ
    rw [nI_pre1] at hx
    subst hx
    have hb := wb_all (cp_w hC)
    have hAk := hA.1 k (by omega)
    dsimp only at hAk
    have z1 := NJ_le R (wA R) (k + 1) k (nn (R 5))
    have z2 := NJ_le R (wD R) (k + 1) k (nn (R 5))
    obtain ⟨⟨e1, g1⟩, -⟩ := (cp_w hC).2.2.2.1 k (by omega)
    rcases g1 with g1 | g1
    · skip
      have hAf := hA.1 (nn (R (41 + 3 * k))) (by omega)
      dsimp only at hAf
      refine ev_iload rfl rfl ?_
      refine ev_if_ltN rfl ?_
      refine ev_aload rfl rfl ?_
      refine ev_aload rfl rfl ?_
      refine ev_getR (c := 9) (j := 3) rfl ?_ (hq := kt_0 n am_T66)
      refine ev_iload rfl rfl ?_
      refine ev_aldN rfl rfl ?_ (kr_joint (by omega)) (hq := kt_2 n am_T66)
      refine ev_getI (c := 3) (j := 0) rfl ?_ (hq := kt_joint n am_T66 (by omega))
      rw [cp_j0 hC (j := k) (by omega)]
      refine ev_aload rfl rfl ?_
      refine ev_getR (c := 2) (j := 2) rfl ?_ (hq := k_180 n)
      refine ev_iload rfl rfl ?_
      refine ev_ialdN rfl rfl ?_ (hq := k_183 n)
      rw [hAk.1]
      refine ev_aload rfl rfl ?_
      refine ev_getR (c := 2) (j := 3) rfl ?_ (hq := k_180 n)
      refine ev_iload rfl rfl ?_
      refine ev_ialdN rfl rfl ?_ (hq := k_184 n)
      rw [hAk.2]
      refine ev_call rfl rfl ?_
      refine c_addJ _ _ _ _ _ (by omega) (by omega) hAf.1 hAf.2 ?_
      change am_ev _ _ _ _ [] _ _ _
      refine ev_iinc rfl rfl rfl rfl ?_
      refine ev_goto (p2 := 125) rfl rfl ?_
      have h3 : fd R k < k := g1
      refine ih _ _ (by rw [Int32.sub_eq_add_neg]; exact congrArg (nI k + ·) (by decide)) (by omega) (cp_fr hC (fun q hq => by rw [am_up_ne (by omega), am_up_ne (by omega)])) (FrC_tr hf (fun q hq => by rw [am_up_ne (by omega), am_up_ne (by omega)])) ⟨fun j hj => ?_, fun j hj => ?_⟩ hQ
      · dsimp only
        have hz := hA.1 j hj
        dsimp only at hz
        rw [NJ_down R (wA R) k j, NJ_down R (wD R) k j]
        by_cases ej : j = nn (R (41 + 3 * k))
        · have ej2 : fd R k = j ∧ fd R k < k := ⟨ej.symm, g1⟩
          rw [if_pos ej2, if_pos ej2, am_up_ne (show (183 : Nat) ≠ 184 by decide), ej, am_up_eq, am_up_eq]
          exact ⟨rfl, rfl⟩
        · have ej2 : ¬ (fd R k = j ∧ fd R k < k) := fun z => ej z.1.symm
          rw [if_neg ej2, if_neg ej2, am_up_ne (show (183 : Nat) ≠ 184 by decide), am_up_nk ej, am_up_nk ej, am_up_ne (show (184 : Nat) ≠ 183 by decide)]
          exact hz
      · dsimp only
        have hz := hA.2 j hj
        dsimp only at hz
        have ej2 : ¬ (¬ fd R k < k ∧ fd R k - 100 = j) := fun z => z.1 g1
        rw [NC_down R (wA R) k j, NC_down R (wD R) k j, if_neg ej2, if_neg ej2, am_up_ne (show (181 : Nat) ≠ 184 by decide), am_up_ne (show (181 : Nat) ≠ 183 by decide), am_up_ne (show (182 : Nat) ≠ 184 by decide), am_up_ne (show (182 : Nat) ≠ 183 by decide)]
        exact hz
    · skip
      have hAf := hA.2 (nn (R (41 + 3 * k)) - 100) (by omega)
      dsimp only at hAf
      refine ev_iload rfl rfl ?_
      refine ev_if_ltN rfl ?_
      refine ev_aload rfl rfl ?_
      refine ev_aload rfl rfl ?_
      refine ev_getR (c := 9) (j := 3) rfl ?_ (hq := kt_0 n am_T66)
      refine ev_iload rfl rfl ?_
      refine ev_aldN rfl rfl ?_ (kr_joint (by omega)) (hq := kt_2 n am_T66)
      refine ev_getI (c := 3) (j := 0) rfl ?_ (hq := kt_joint n am_T66 (by omega))
      rw [cp_j0 hC (j := k) (by omega)]
      refine ev_aload rfl rfl ?_
      refine ev_getR (c := 2) (j := 2) rfl ?_ (hq := k_180 n)
      refine ev_iload rfl rfl ?_
      refine ev_ialdN rfl rfl ?_ (hq := k_183 n)
      rw [hAk.1]
      refine ev_aload rfl rfl ?_
      refine ev_getR (c := 2) (j := 3) rfl ?_ (hq := k_180 n)
      refine ev_iload rfl rfl ?_
      refine ev_ialdN rfl rfl ?_ (hq := k_184 n)
      rw [hAk.2]
      refine ev_call rfl rfl ?_
      refine c_addC _ _ _ _ _ (by omega) (by omega) hAf.1 hAf.2 ?_
      change am_ev _ _ _ _ [] _ _ _
      refine ev_iinc rfl rfl rfl rfl ?_
      refine ev_goto (p2 := 125) rfl rfl ?_
      have h3 : ¬ fd R k < k := by unfold fd; omega
      refine ih _ _ (by rw [Int32.sub_eq_add_neg]; exact congrArg (nI k + ·) (by decide)) (by omega) (cp_fr hC (fun q hq => by rw [am_up_ne (by omega), am_up_ne (by omega)])) (FrC_tr hf (fun q hq => by rw [am_up_ne (by omega), am_up_ne (by omega)])) ⟨fun j hj => ?_, fun j hj => ?_⟩ hQ
      · dsimp only
        have hz := hA.1 j hj
        dsimp only at hz
        have ej2 : ¬ (fd R k = j ∧ fd R k < k) := fun z => h3 z.2
        rw [NJ_down R (wA R) k j, NJ_down R (wD R) k j, if_neg ej2, if_neg ej2, am_up_ne (show (183 : Nat) ≠ 182 by decide), am_up_ne (show (183 : Nat) ≠ 181 by decide), am_up_ne (show (184 : Nat) ≠ 182 by decide), am_up_ne (show (184 : Nat) ≠ 181 by decide)]
        exact hz
      · dsimp only
        have hz := hA.2 j hj
        dsimp only at hz
        rw [NC_down R (wA R) k j, NC_down R (wD R) k j]
        by_cases ej : j = nn (R (41 + 3 * k)) - 100
        · have ej2 : ¬ fd R k < k ∧ fd R k - 100 = j := ⟨h3, ej.symm⟩
          rw [if_pos ej2, if_pos ej2, am_up_ne (show (181 : Nat) ≠ 182 by decide), ej, am_up_eq, am_up_eq]
          exact ⟨rfl, rfl⟩
        · have ej2 : ¬ (¬ fd R k < k ∧ fd R k - 100 = j) := fun z => ej z.2.symm
          rw [if_neg ej2, if_neg ej2, am_up_ne (show (181 : Nat) ≠ 182 by decide), am_up_nk ej, am_up_nk ej, am_up_ne (show (182 : Nat) ≠ 181 by decide)]
          exact hz
theorem l_cb_l {d n : Nat} {mem0 : am_M} {Q : am_P} {R : am_R} (r : Nat) : ∀ (mem : am_M) (k : Nat) (hk : k + r = nn (R 5)) (hC : CplT 66 R mem) (hf : FrC mem0 mem) (hA : BA mem 183 184 181 182 (fun j => NJ R (wA R) (nn (R 4)) j k) (fun j => NJ R (wD R) (nn (R 4)) j k) (fun j => NC R (wA R) (nn (R 4)) j k) (fun j => NC R (wD R) (nn (R 4)) j k)) (x3 : Option Value) (hQ : ∀ m2 : am_M, FrC mem0 m2 → CplT 66 R m2 → BA m2 183 184 181 182 (fun j => NJ R (wA R) 0 j (nn (R 5))) (fun j => NJ R (wD R) 0 j (nn (R 5))) (fun j => NC R (wA R) 0 j (nn (R 5))) (fun j => NC R (wD R) 0 j (nn (R 5))) → Q none (am_SK n) m2), am_ev kc_X2_countBehind (d + 3) 57 [some (.ref 180), some (.ref 66), some (.int (nI k)), x3] [] (am_SK n) mem Q := by
  induction r with
  | zero =>
    intro mem k hk hC hf hA x3 hQ
    have hb := wb_all (cp_w hC)
    have hkk : k = nn (R 5) := by omega
    subst hkk
    refine ev_iload rfl rfl ?_
    refine ev_aload rfl rfl ?_
    refine ev_getI (c := 9) (j := 6) rfl ?_ (hq := kt_0 n am_T66)
    rw [cp_t6 hC]
    refine ev_icmp_geN (p2 := 118) rfl rfl (fun cnd62 => ?_) (fun cnd62 => ?_)
    · skip
      refine ev_aload rfl rfl ?_
      refine ev_getI (c := 9) (j := 4) rfl ?_ (hq := kt_0 n am_T66)
      rw [cp_t4 hC]
      refine ev_iconst (x := nI 1) rfl rfl ?_
      refine ev_isub rfl ?_
      refine ev_istore rfl rfl (Nat.le_of_ble_eq_true rfl) ?_
      exact l_cb_d _ (nn (R 4)) mem _ rfl (Nat.le_refl _) hC hf hA hQ
    · omega
  | succ r ih =>
    intro mem k hk hC hf hA x3 hQ
    have hb := wb_all (cp_w hC)
    have hj := cp_jl hC (show k < nn (R 5) by omega)
    have hAk := hA.1 (jt R k) (show jt R k < 12 by unfold jt; omega)
    dsimp only at hAk
    have hdk := ((cp_w hC).2.2.2.2.1 k (by omega)).2.2.2.2.2.2
    have z1 := NJ_le R (wA R) (nn (R 4)) (jt R k) k
    have z2 := NJ_le R (wD R) (nn (R 4)) (jt R k) k
    refine ev_iload rfl rfl ?_
    refine ev_aload rfl rfl ?_
    refine ev_getI (c := 9) (j := 6) rfl ?_ (hq := kt_0 n am_T66)
    rw [cp_t6 hC]
    refine ev_icmp_geN (p2 := 118) rfl rfl (fun cnd62 => ?_) (fun cnd62 => ?_)
    · omega
    · skip
      refine ev_aload rfl rfl ?_
      refine ev_getR (c := 9) (j := 5) rfl ?_ (hq := kt_0 n am_T66)
      refine ev_iload rfl rfl ?_
      refine ev_aldN rfl rfl ?_ (kr_lamp (by omega)) (hq := kt_3 n am_T66)
      refine ev_astore rfl rfl (Nat.le_of_ble_eq_true rfl) ?_
      refine ev_aload rfl rfl ?_
      refine ev_aload rfl rfl ?_
      refine ev_callV rfl rfl rfl rfl (Nat.le_of_ble_eq_true rfl) (Nat.le_of_ble_eq_true rfl) ?_ (hq := kt_0 n am_T66)
      refine c_X9_should am_T66 hC k (by omega) ?_
      change am_ev _ _ _ _ [_] _ _ _
      refine ev_if_eqO (p2 := 112) rfl rfl (fun cnd77 => ?_) (fun cnd77 => ?_)
      · skip
        refine ev_iincN rfl rfl rfl ?_
        refine ev_goto (p2 := 57) rfl rfl ?_
        first
        | (have hwA : wA R k = false := cnd77
           have hwD : wD R k = false := by unfold wD; rw [show S_should R k = false from cnd77]; rfl
           refine ih mem (k + 1) (by omega) hC hf ⟨fun j hj => ?_, fun j hj => ?_⟩ _ hQ
           · have hz := hA.1 j hj
             dsimp only at hz ⊢
             rw [NJ_s, NJ_s, hwA, hwD]
             exact hz
           · have hz := hA.2 j hj
             dsimp only at hz ⊢
             rw [NC_s, NC_s, hwA, hwD]
             exact hz)
        | (have hwA : wA R k = true := cnd77
           have hwD : nI (if wD R k = true then 1 else 0) = R (77 + 7 * k + 6) := by
             unfold wD dk
             rw [show S_should R k = true from cnd77, Bool.true_and]
             rcases is01 hdk with e | e
             · rw [e]; rfl
             · rw [e]; rfl
           rw [← hwD, nI_add] at hm4
           refine ih m4 (k + 1) (by omega) (cp_fr hC (fun q hq => by rw [hm4, am_up_ne (by omega), hm3, am_up_ne (by omega)])) (FrC_tr hf (fun q hq => by rw [hm4, am_up_ne (by omega), hm3, am_up_ne (by omega)])) ⟨fun j hj2 => ?_, fun j hj2 => ?_⟩ _ hQ
           · have hz := hA.1 j hj2
             dsimp only at hz ⊢
             rw [NJ_s, NJ_s, onI_own (show jt R k < nn (R 4) from hj), if_pos hwA]
             by_cases ej : jt R k = j
             · subst ej
               rw [if_pos rfl, hm4, am_up_ne (show (183 : Nat) ≠ 184 by decide), hm3]
               exact ⟨am_up_eq, am_up_eq⟩
             · have ej3 : j ≠ nn (R (77 + 7 * k + 1)) := fun z => ej z.symm
               rw [if_neg ej, ite_self, hm4, am_up_ne (show (183 : Nat) ≠ 184 by decide), am_up_nk ej3, hm3, am_up_nk ej3, am_up_ne (show (184 : Nat) ≠ 183 by decide)]
               exact hz
           · have hz := hA.2 j hj2
             dsimp only at hz ⊢
             rw [NC_s, NC_s, b1_f (cbI_lo (show ¬ nn (R 4) ≤ jt R k by unfold jt; omega)), ite_self, ite_self, hm4, am_up_ne (show (181 : Nat) ≠ 184 by decide), am_up_ne (show (182 : Nat) ≠ 184 by decide), hm3, am_up_ne (show (181 : Nat) ≠ 183 by decide), am_up_ne (show (182 : Nat) ≠ 183 by decide)]
             exact hz)
      · skip
        refine ev_aload rfl rfl ?_
        refine ev_getR (c := 2) (j := 2) rfl ?_ (hq := k_180 n)
        refine ev_aload rfl rfl ?_
        refine ev_getI (c := 4) (j := 1) rfl ?_ (hq := kt_lamp n am_T66 (by omega))
        rw [cp_l1 hC (l := k) (by omega)]
        refine ev_dup2 rfl ?_
        refine ev_ialdN rfl rfl ?_ (hq := k_183 n)
        rw [show mem 183 (nn (R (77 + 7 * k + 1))) = _ from hAk.1]
        refine ev_iconst (x := nI 1) rfl rfl ?_
        refine ev_iaddN rfl ?_
        refine ev_iastS rfl (fun m3 hm3 => ?_) (hq := k_183 n)
        refine ev_aload rfl rfl ?_
        refine ev_getR (c := 2) (j := 3) rfl ?_ (hq := k_180 n)
        refine ev_aload rfl rfl ?_
        refine ev_getI (c := 4) (j := 1) rfl ?_ (hq := kt_lamp n am_T66 (by omega))
        rw [cp_l1 (cp_fr (m2 := m3) hC (fun q hq => by rw [hm3, am_up_ne (by omega)])) (l := k) (by omega)]
        refine ev_dup2 rfl ?_
        refine ev_ialdN rfl rfl ?_ (hq := k_184 n)
        rw [show m3 184 (nn (R (77 + 7 * k + 1))) = nI (NJ R (wD R) (nn (R 4)) (jt R k) k) by rw [hm3, am_up_ne (by decide)]; exact hAk.2]
        refine ev_aload rfl rfl ?_
        refine ev_getI (c := 4) (j := 6) rfl ?_ (hq := kt_lamp n am_T66 (by omega))
        rw [cp_l (k := 6) (l := k) (cp_fr (m2 := m3) hC (fun q hq => by rw [hm3, am_up_ne (by omega)])) (by omega) (by decide)]
        refine ev_call rfl rfl ?_
        refine c_X11_bit _ (is01 hdk) ?_
        change am_ev _ _ _ _ [_, _, _, _] _ _ _
        refine ev_iadd rfl ?_
        refine ev_iastS rfl (fun m4 hm4 => ?_) (hq := k_184 n)
        refine ev_iincN rfl rfl rfl ?_
        refine ev_goto (p2 := 57) rfl rfl ?_
        first
        | (have hwA : wA R k = false := cnd77
           have hwD : wD R k = false := by unfold wD; rw [show S_should R k = false from cnd77]; rfl
           refine ih mem (k + 1) (by omega) hC hf ⟨fun j hj => ?_, fun j hj => ?_⟩ _ hQ
           · have hz := hA.1 j hj
             dsimp only at hz ⊢
             rw [NJ_s, NJ_s, hwA, hwD]
             exact hz
           · have hz := hA.2 j hj
             dsimp only at hz ⊢
             rw [NC_s, NC_s, hwA, hwD]
             exact hz)
        | (have hwA : wA R k = true := cnd77
           have hwD : nI (if wD R k = true then 1 else 0) = R (77 + 7 * k + 6) := by
             unfold wD dk
             rw [show S_should R k = true from cnd77, Bool.true_and]
             rcases is01 hdk with e | e
             · rw [e]; rfl
             · rw [e]; rfl
           rw [← hwD, nI_add] at hm4
           refine ih m4 (k + 1) (by omega) (cp_fr hC (fun q hq => by rw [hm4, am_up_ne (by omega), hm3, am_up_ne (by omega)])) (FrC_tr hf (fun q hq => by rw [hm4, am_up_ne (by omega), hm3, am_up_ne (by omega)])) ⟨fun j hj2 => ?_, fun j hj2 => ?_⟩ _ hQ
           · have hz := hA.1 j hj2
             dsimp only at hz ⊢
             rw [NJ_s, NJ_s, onI_own (show jt R k < nn (R 4) from hj), if_pos hwA]
             by_cases ej : jt R k = j
             · subst ej
               rw [if_pos rfl, hm4, am_up_ne (show (183 : Nat) ≠ 184 by decide), hm3]
               exact ⟨am_up_eq, am_up_eq⟩
             · have ej3 : j ≠ nn (R (77 + 7 * k + 1)) := fun z => ej z.symm
               rw [if_neg ej, ite_self, hm4, am_up_ne (show (183 : Nat) ≠ 184 by decide), am_up_nk ej3, hm3, am_up_nk ej3, am_up_ne (show (184 : Nat) ≠ 183 by decide)]
               exact hz
           · have hz := hA.2 j hj2
             dsimp only at hz ⊢
             rw [NC_s, NC_s, b1_f (cbI_lo (show ¬ nn (R 4) ≤ jt R k by unfold jt; omega)), ite_self, ite_self, hm4, am_up_ne (show (181 : Nat) ≠ 184 by decide), am_up_ne (show (182 : Nat) ≠ 184 by decide), hm3, am_up_ne (show (181 : Nat) ≠ 183 by decide), am_up_ne (show (182 : Nat) ≠ 183 by decide)]
             exact hz)
theorem l_cb_z2 {d n : Nat} {mem0 : am_M} {Q : am_P} {R : am_R} (r : Nat) : ∀ (mem : am_M) (k : Nat) (hk : k + r = 12) (hC : CplT 66 R mem) (hf : FrC mem0 mem) (h1 : ∀ j, j < 3 → mem 181 j = nI 0 ∧ mem 182 j = nI 0) (h2 : ∀ j, j < k → mem 183 j = nI 0 ∧ mem 184 j = nI 0) (x3 : Option Value) (hQ : ∀ m2 : am_M, FrC mem0 m2 → CplT 66 R m2 → BA m2 183 184 181 182 (fun j => NJ R (wA R) 0 j (nn (R 5))) (fun j => NJ R (wD R) 0 j (nn (R 5))) (fun j => NC R (wA R) 0 j (nn (R 5))) (fun j => NC R (wD R) 0 j (nn (R 5))) → Q none (am_SK n) m2), am_ev kc_X2_countBehind (d + 3) 29 [some (.ref 180), some (.ref 66), some (.int (nI k)), x3] [] (am_SK n) mem Q := by
  induction r with
  | zero =>
    intro mem k hk hC hf h1 h2 x3 hQ
    refine ev_iload rfl rfl ?_
    refine ev_iconst (x := nI 12) rfl rfl ?_
    refine ev_icmp_geN (p2 := 55) rfl rfl (fun cnd32 => ?_) (fun cnd32 => ?_)
    · skip
      refine ev_iconst (x := nI 0) rfl rfl ?_
      refine ev_istore rfl rfl (Nat.le_of_ble_eq_true rfl) ?_
      exact l_cb_l _ mem 0 (Nat.zero_add _) hC hf ⟨fun j hj => h2 j (by omega), fun j hj => h1 j hj⟩ _ hQ
    · omega
  | succ r ih =>
    intro mem k hk hC hf h1 h2 x3 hQ
    refine ev_iload rfl rfl ?_
    refine ev_iconst (x := nI 12) rfl rfl ?_
    refine ev_icmp_geN (p2 := 55) rfl rfl (fun cnd32 => ?_) (fun cnd32 => ?_)
    · omega
    · skip
      refine ev_aload rfl rfl ?_
      refine ev_getR (c := 2) (j := 2) rfl ?_ (hq := k_180 n)
      refine ev_iload rfl rfl ?_
      refine ev_iconst (x := nI 0) rfl rfl ?_
      refine ev_iastS rfl (fun m3 hm3 => ?_) (hq := k_183 n)
      refine ev_aload rfl rfl ?_
      refine ev_getR (c := 2) (j := 3) rfl ?_ (hq := k_180 n)
      refine ev_iload rfl rfl ?_
      refine ev_iconst (x := nI 0) rfl rfl ?_
      refine ev_iastS rfl (fun m4 hm4 => ?_) (hq := k_184 n)
      refine ev_iincN rfl rfl rfl ?_
      refine ev_goto (p2 := 29) rfl rfl ?_
      refine ih m4 (k + 1) (by omega) (cp_fr hC (fun q hq => by rw [hm4, am_up_ne (by omega), hm3, am_up_ne (by omega)])) (FrC_tr hf (fun q hq => by rw [hm4, am_up_ne (by omega), hm3, am_up_ne (by omega)])) (fun j hj => by rw [hm4, am_up_ne (by decide), am_up_ne (by decide), hm3, am_up_ne (by decide), am_up_ne (by decide)]; exact h1 j hj) (fun j hj => ?_) _ hQ
      by_cases e : j = k
      · subst e; rw [hm4, am_up_eq, am_up_ne (by decide), hm3, am_up_eq]; exact ⟨rfl, rfl⟩
      · rw [hm4, am_up_nk e, am_up_ne (show (183 : Nat) ≠ 184 by decide), hm3, am_up_nk e, am_up_ne (show (184 : Nat) ≠ 183 by decide)]; exact h2 j (by omega)
theorem l_cb_z1 {d n : Nat} {mem0 : am_M} {Q : am_P} {R : am_R} (r : Nat) : ∀ (mem : am_M) (k : Nat) (hk : k + r = 3) (hC : CplT 66 R mem) (hf : FrC mem0 mem) (h1 : ∀ j, j < k → mem 181 j = nI 0 ∧ mem 182 j = nI 0) (x3 : Option Value) (hQ : ∀ m2 : am_M, FrC mem0 m2 → CplT 66 R m2 → BA m2 183 184 181 182 (fun j => NJ R (wA R) 0 j (nn (R 5))) (fun j => NJ R (wD R) 0 j (nn (R 5))) (fun j => NC R (wA R) 0 j (nn (R 5))) (fun j => NC R (wD R) 0 j (nn (R 5))) → Q none (am_SK n) m2), am_ev kc_X2_countBehind (d + 3) 2 [some (.ref 180), some (.ref 66), some (.int (nI k)), x3] [] (am_SK n) mem Q := by
  induction r with
  | zero =>
    intro mem k hk hC hf h1 x3 hQ
    refine ev_iload rfl rfl ?_
    refine ev_iconst (x := nI 3) rfl rfl ?_
    refine ev_icmp_geN (p2 := 27) rfl rfl (fun cnd4 => ?_) (fun cnd4 => ?_)
    · skip
      refine ev_iconst (x := nI 0) rfl rfl ?_
      refine ev_istore rfl rfl (Nat.le_of_ble_eq_true rfl) ?_
      exact l_cb_z2 12 mem 0 rfl hC hf (fun j hj => h1 j (by omega)) (fun j hj => absurd hj (Nat.not_lt_zero j)) _ hQ
    · omega
  | succ r ih =>
    intro mem k hk hC hf h1 x3 hQ
    refine ev_iload rfl rfl ?_
    refine ev_iconst (x := nI 3) rfl rfl ?_
    refine ev_icmp_geN (p2 := 27) rfl rfl (fun cnd4 => ?_) (fun cnd4 => ?_)
    · omega
    · skip
      refine ev_aload rfl rfl ?_
      refine ev_getR (c := 2) (j := 0) rfl ?_ (hq := k_180 n)
      refine ev_iload rfl rfl ?_
      refine ev_iconst (x := nI 0) rfl rfl ?_
      refine ev_iastS rfl (fun m3 hm3 => ?_) (hq := k_181 n)
      refine ev_aload rfl rfl ?_
      refine ev_getR (c := 2) (j := 1) rfl ?_ (hq := k_180 n)
      refine ev_iload rfl rfl ?_
      refine ev_iconst (x := nI 0) rfl rfl ?_
      refine ev_iastS rfl (fun m4 hm4 => ?_) (hq := k_182 n)
      refine ev_iincN rfl rfl rfl ?_
      refine ev_goto (p2 := 2) rfl rfl ?_
      refine ih m4 (k + 1) (by omega) (cp_fr hC (fun q hq => by rw [hm4, am_up_ne (by omega), hm3, am_up_ne (by omega)])) (FrC_tr hf (fun q hq => by rw [hm4, am_up_ne (by omega), hm3, am_up_ne (by omega)])) (fun j hj => ?_) _ hQ
      by_cases e : j = k
      · subst e; rw [hm4, am_up_eq, am_up_ne (by decide), hm3, am_up_eq]; exact ⟨rfl, rfl⟩
      · rw [hm4, am_up_nk e, am_up_ne (show (181 : Nat) ≠ 182 by decide), hm3, am_up_nk e, am_up_ne (show (182 : Nat) ≠ 181 by decide)]; exact h1 j (by omega)
theorem c_X2_countBehind {d n : Nat} {mem : am_M} {Q : am_P} {R : am_R} (hC : CplT 66 R mem) (hQ : ∀ m2 : am_M, FrC mem m2 → CplT 66 R m2 → BA m2 183 184 181 182 (fun j => NJ R (wA R) 0 j (nn (R 5))) (fun j => NJ R (wD R) 0 j (nn (R 5))) (fun j => NC R (wA R) 0 j (nn (R 5))) (fun j => NC R (wD R) 0 j (nn (R 5))) → Q none (am_SK n) m2) : am_ex (d + 4) 12 [.ref 180, .ref 66] (am_SK n) mem Q := by
  refine ex_in (c0 := kc_X2_countBehind) rfl (L := [some (.ref 180), some (.ref 66), none, none]) rfl ?_
  refine ev_iconst (x := nI 0) rfl rfl ?_
  refine ev_istore rfl rfl (Nat.le_of_ble_eq_true rfl) ?_
  exact l_cb_z1 3 mem 0 rfl hC (FrC_refl _) (fun j hj => absurd hj (Nat.not_lt_zero j)) _ hQ
