/-! the class: breaks, mends, choices, stops -/
theorem am_nrng {w : Int32} {b : Nat} (hb : b < 2 ^ 31) (h : ¬ (nI 0 ≤ w ∧ w ≤ nI b)) : w.toInt < 0 ∨ (b : Int) < w.toInt := by
  have e0 : (nI 0).toInt = 0 := rfl
  have eb : (nI b).toInt = (b : Int) := nI_toInt hb
  rw [Int32.le_iff_toInt_le, Int32.le_iff_toInt_le, e0, eb] at h
  omega
abbrev P_th (R : am_R) (w p : Int32) : Prop := (w = nI 0 ∧ P_i p (R 3)) ∨ (w = nI 1 ∧ P_i p (R 4)) ∨ (w = nI 2 ∧ P_i p (R 5))
theorem nI_n1 {a : Nat} (h : a < 2 ^ 31) : ¬ nI a = -1 := by
  intro z
  have z2 := congrArg Int32.toInt z
  rw [nI_toInt h] at z2
  have z3 : (-1 : Int32).toInt = -1 := rfl
  omega
theorem brk0 {R : am_R} (hw : wfR R) {c : Nat} (hc : c < nn (R 3)) : S_brk R (nI 0) (nI c) = nI (23 + 6 * c + 4) := by
  have hb := wb_all hw
  unfold S_brk
  rw [if_pos (show nI 0 = 0 from rfl), if_pos (And.intro (nI_pos' (by omega)) ((am_pred (wr3 hw) (by omega)).mpr (nI_lt hc (by omega)))), pk_mul, nI_add, nI_add]
theorem brk1 {R : am_R} (hw : wfR R) {c : Nat} (hc : c < nn (R 4)) : S_brk R (nI 1) (nI c) = nI (41 + 3 * c + 2) := by
  have hb := wb_all hw
  unfold S_brk
  rw [if_neg (by decide), if_pos rfl, if_pos (And.intro (nI_pos' (by omega)) ((am_pred (wr4 hw) (by omega)).mpr (nI_lt hc (by omega)))), pk_mul, nI_add, nI_add]
theorem brk2 {R : am_R} (hw : wfR R) {c : Nat} (hc : c < nn (R 5)) : S_brk R (nI 2) (nI c) = nI (77 + 7 * c + 5) := by
  have hb := wb_all hw
  unfold S_brk
  rw [if_neg (by decide), if_neg (by decide), if_pos (And.intro rfl (And.intro (nI_pos' (by omega)) ((am_pred (wr5 hw) (by omega)).mpr (nI_lt hc (by omega))))), pk_mul, nI_add, nI_add]
theorem brkN {R : am_R} {w p : Int32} (h : ¬ P_th R w p) : S_brk R w p = -1 := by
  unfold S_brk
  split
  · rename_i e
    rw [if_neg (fun z => h (Or.inl ⟨e, z⟩))]
  · split
    · rename_i e
      rw [if_neg (fun z => h (Or.inr (Or.inl ⟨e, z⟩)))]
    · rw [if_neg (fun z => h (Or.inr (Or.inr z)))]
theorem c_X9_hasThing {d n : Nat} {mem : am_M} {Q : am_P} {t : Nat} {R : am_R} (ht : am_T t) (hC : CplT t R mem) (w p : Int32) (hQ : Q (some (.int (am_b (P_th R w p)))) (am_SK n) mem) : am_ex (d + 2) 57 [.ref t, .int w, .int p] (am_SK n) mem Q := by
  have hg := ht.ge
  have hb := wb_all (cp_w hC)
  refine ex_in (c0 := kc_X9_hasThing) rfl (L := [some (.ref t), some (.int w), some (.int p)]) rfl ?_
  refine ev_iload rfl rfl ?_
  by_cases hs0 : w = nI 0
  · subst hs0
    refine ev_tswC (p2 := 28) rfl (by first | rfl | decide) rfl ?_
    refine ev_aload rfl rfl ?_
    refine ev_iload rfl rfl ?_
    refine ev_callV rfl rfl rfl rfl (Nat.le_of_ble_eq_true rfl) (Nat.le_of_ble_eq_true rfl) ?_ (hq := kt_0 n ht)
    refine c_X9_hasCabinet ht hC _ ?_
    change am_ev _ _ _ _ (_ :: _) _ _ _
    refine ev_zret rfl ?_
    rw [am_b_eq (show P_th R (nI 0) p ↔ P_i p (R 3) from ⟨fun z => z.elim (fun y => y.2) (fun y => y.elim (fun x => absurd x.1 (by decide)) (fun x => absurd x.1 (by decide))), fun z => Or.inl ⟨rfl, z⟩⟩)] at hQ
    exact hQ
  by_cases hs1 : w = nI 1
  · subst hs1
    refine ev_tswC (p2 := 34) rfl (by first | rfl | decide) rfl ?_
    refine ev_aload rfl rfl ?_
    refine ev_iload rfl rfl ?_
    refine ev_callV rfl rfl rfl rfl (Nat.le_of_ble_eq_true rfl) (Nat.le_of_ble_eq_true rfl) ?_ (hq := kt_0 n ht)
    refine c_X9_hasJoint ht hC _ ?_
    change am_ev _ _ _ _ (_ :: _) _ _ _
    refine ev_zret rfl ?_
    rw [am_b_eq (show P_th R (nI 1) p ↔ P_i p (R 4) from ⟨fun z => z.elim (fun y => absurd y.1 (by decide)) (fun y => y.elim (fun x => x.2) (fun x => absurd x.1 (by decide))), fun z => Or.inr (Or.inl ⟨rfl, z⟩)⟩)] at hQ
    exact hQ
  by_cases hs2 : w = nI 2
  · subst hs2
    refine ev_tswC (p2 := 40) rfl (by first | rfl | decide) rfl ?_
    refine ev_aload rfl rfl ?_
    refine ev_iload rfl rfl ?_
    refine ev_callV rfl rfl rfl rfl (Nat.le_of_ble_eq_true rfl) (Nat.le_of_ble_eq_true rfl) ?_ (hq := kt_0 n ht)
    refine c_X9_hasLamp ht hC _ ?_
    change am_ev _ _ _ _ (_ :: _) _ _ _
    refine ev_zret rfl ?_
    rw [am_b_eq (show P_th R (nI 2) p ↔ P_i p (R 5) from ⟨fun z => z.elim (fun y => absurd y.1 (by decide)) (fun y => y.elim (fun x => absurd x.1 (by decide)) (fun x => x.2)), fun z => Or.inr (Or.inr ⟨rfl, z⟩)⟩)] at hQ
    exact hQ
  have hd : w.toInt < 0 ∨ 2 < w.toInt := by
    refine am_nrng (b := 2) (by decide) (fun z => ?_)
    obtain ⟨e, h9⟩ := am_rng (by decide) z
    rcases (show nn w = 0 ∨ nn w = 1 ∨ nn w = 2 by omega) with e2 | e2 | e2
    · rw [e2] at e; exact hs0 e
    · rw [e2] at e; exact hs1 e
    · rw [e2] at e; exact hs2 e
  refine ev_tswC (p2 := 46) rfl (by rw [if_pos hd]) rfl ?_
  refine ev_iconst (x := nI 0) rfl rfl ?_
  refine ev_zret rfl ?_
  rw [am_bf (fun z => z.elim (fun y => hs0 y.1) (fun y => y.elim (fun x => hs1 x.1) (fun x => hs2 x.1)))] at hQ
  exact hQ
theorem c_X9_makeBroken0 {d n : Nat} {mem : am_M} {Q : am_P} {R : am_R} (hC : CplT 66 R mem) (c : Nat) (hc : c < nn (R 3)) (b : Int32) (hb01 : b = 0 ∨ b = 1) (hQ : Q (some (.int (if R (23 + 6 * c + 4) = b then nI 0 else nI 1))) (am_SK n) (am_up mem (66 + 7 + c) 4 b)) : am_ex (d + 1) 58 [.ref 66, .int (nI 0), .int (nI c), .int b] (am_SK n) mem Q := by
  have hb := wb_all (cp_w hC)
  refine ex_in (c0 := kc_X9_makeBroken) rfl (L := [some (.ref 66), some (.int (nI 0)), some (.int (nI c)), some (.int b), none]) rfl ?_
  refine ev_iload rfl rfl ?_
  refine ev_if_neN (p2 := 28) rfl rfl (fun zz => absurd zz (by decide)) (fun _ => ?_)
  refine ev_aload rfl rfl ?_
  refine ev_getR (c := 9) (j := 1) rfl ?_ (hq := kt_0 n am_T66)
  refine ev_iload rfl rfl ?_
  refine ev_aldN rfl rfl ?_ (kr_cab (by omega)) (hq := kt_1 n am_T66)
  refine ev_getI (c := 1) (j := 4) rfl ?_ (hq := kt_cab n am_T66 (by omega))
  rw [cp_c (k := 4) (c := c) hC (by omega) (by decide)]
  refine ev_istore rfl rfl (Nat.le_of_ble_eq_true rfl) ?_
  refine ev_aload rfl rfl ?_
  refine ev_getR (c := 9) (j := 1) rfl ?_ (hq := kt_0 n am_T66)
  refine ev_iload rfl rfl ?_
  refine ev_aldN rfl rfl ?_ (kr_cab (by omega)) (hq := kt_1 n am_T66)
  refine ev_iload rfl rfl ?_
  refine ev_putB (c := 1) (j := 4) rfl ?_ (hq := kt_cab n am_T66 (by omega)) (hx := by first | assumption | exact am_b01 _ | exact ob01 _ | decide)
  refine ev_goto (p2 := 78) rfl rfl ?_
  refine ev_iload rfl rfl ?_
  refine ev_iload rfl rfl ?_
  refine ev_icmp_eq (p2 := 88) rfl rfl (fun cnd81 => ?_) (fun cnd81 => ?_)
  · skip
    refine ev_iconst (x := nI 0) rfl rfl ?_
    refine ev_zret rfl ?_
    first
    | (rw [if_pos cnd81] at hQ; exact hQ)
    | (rw [if_neg cnd81] at hQ; exact hQ)
  · skip
    refine ev_iconst (x := nI 1) rfl rfl ?_
    refine ev_goto (p2 := 89) rfl rfl ?_
    refine ev_zret rfl ?_
    first
    | (rw [if_pos cnd81] at hQ; exact hQ)
    | (rw [if_neg cnd81] at hQ; exact hQ)
theorem c_X9_makeBroken1 {d n : Nat} {mem : am_M} {Q : am_P} {R : am_R} (hC : CplT 66 R mem) (c : Nat) (hc : c < nn (R 4)) (b : Int32) (hb01 : b = 0 ∨ b = 1) (hQ : Q (some (.int (if R (41 + 3 * c + 2) = b then nI 0 else nI 1))) (am_SK n) (am_up mem (66 + 10 + c) 3 b)) : am_ex (d + 1) 58 [.ref 66, .int (nI 1), .int (nI c), .int b] (am_SK n) mem Q := by
  have hb := wb_all (cp_w hC)
  refine ex_in (c0 := kc_X9_makeBroken) rfl (L := [some (.ref 66), some (.int (nI 1)), some (.int (nI c)), some (.int b), none]) rfl ?_
  refine ev_iload rfl rfl ?_
  refine ev_if_neN (p2 := 28) rfl rfl (fun _ => ?_) (fun zz => absurd zz (by decide))
  refine ev_iload rfl rfl ?_
  refine ev_iconst (x := nI 1) rfl rfl ?_
  refine ev_icmp_neN (p2 := 57) rfl rfl (fun zz => absurd zz (by decide)) (fun _ => ?_)
  refine ev_aload rfl rfl ?_
  refine ev_getR (c := 9) (j := 3) rfl ?_ (hq := kt_0 n am_T66)
  refine ev_iload rfl rfl ?_
  refine ev_aldN rfl rfl ?_ (kr_joint (by omega)) (hq := kt_2 n am_T66)
  refine ev_getI (c := 3) (j := 3) rfl ?_ (hq := kt_joint n am_T66 (by omega))
  rw [cp_j3 hC (j := c) (by omega)]
  refine ev_istore rfl rfl (Nat.le_of_ble_eq_true rfl) ?_
  refine ev_aload rfl rfl ?_
  refine ev_getR (c := 9) (j := 3) rfl ?_ (hq := kt_0 n am_T66)
  refine ev_iload rfl rfl ?_
  refine ev_aldN rfl rfl ?_ (kr_joint (by omega)) (hq := kt_2 n am_T66)
  refine ev_iload rfl rfl ?_
  refine ev_putB (c := 3) (j := 3) rfl ?_ (hq := kt_joint n am_T66 (by omega)) (hx := by first | assumption | exact am_b01 _ | exact ob01 _ | decide)
  refine ev_goto (p2 := 78) rfl rfl ?_
  refine ev_iload rfl rfl ?_
  refine ev_iload rfl rfl ?_
  refine ev_icmp_eq (p2 := 88) rfl rfl (fun cnd81 => ?_) (fun cnd81 => ?_)
  · skip
    refine ev_iconst (x := nI 0) rfl rfl ?_
    refine ev_zret rfl ?_
    first
    | (rw [if_pos cnd81] at hQ; exact hQ)
    | (rw [if_neg cnd81] at hQ; exact hQ)
  · skip
    refine ev_iconst (x := nI 1) rfl rfl ?_
    refine ev_goto (p2 := 89) rfl rfl ?_
    refine ev_zret rfl ?_
    first
    | (rw [if_pos cnd81] at hQ; exact hQ)
    | (rw [if_neg cnd81] at hQ; exact hQ)
theorem c_X9_makeBroken2 {d n : Nat} {mem : am_M} {Q : am_P} {R : am_R} (hC : CplT 66 R mem) (c : Nat) (hc : c < nn (R 5)) (b : Int32) (hb01 : b = 0 ∨ b = 1) (hQ : Q (some (.int (if R (77 + 7 * c + 5) = b then nI 0 else nI 1))) (am_SK n) (am_up mem (66 + 22 + c) 5 b)) : am_ex (d + 1) 58 [.ref 66, .int (nI 2), .int (nI c), .int b] (am_SK n) mem Q := by
  have hb := wb_all (cp_w hC)
  refine ex_in (c0 := kc_X9_makeBroken) rfl (L := [some (.ref 66), some (.int (nI 2)), some (.int (nI c)), some (.int b), none]) rfl ?_
  refine ev_iload rfl rfl ?_
  refine ev_if_neN (p2 := 28) rfl rfl (fun _ => ?_) (fun zz => absurd zz (by decide))
  refine ev_iload rfl rfl ?_
  refine ev_iconst (x := nI 1) rfl rfl ?_
  refine ev_icmp_neN (p2 := 57) rfl rfl (fun _ => ?_) (fun zz => absurd zz (by decide))
  refine ev_aload rfl rfl ?_
  refine ev_getR (c := 9) (j := 5) rfl ?_ (hq := kt_0 n am_T66)
  refine ev_iload rfl rfl ?_
  refine ev_aldN rfl rfl ?_ (kr_lamp (by omega)) (hq := kt_3 n am_T66)
  refine ev_getI (c := 4) (j := 5) rfl ?_ (hq := kt_lamp n am_T66 (by omega))
  rw [cp_l (k := 5) (l := c) hC (by omega) (by decide)]
  refine ev_istore rfl rfl (Nat.le_of_ble_eq_true rfl) ?_
  refine ev_aload rfl rfl ?_
  refine ev_getR (c := 9) (j := 5) rfl ?_ (hq := kt_0 n am_T66)
  refine ev_iload rfl rfl ?_
  refine ev_aldN rfl rfl ?_ (kr_lamp (by omega)) (hq := kt_3 n am_T66)
  refine ev_iload rfl rfl ?_
  refine ev_putB (c := 4) (j := 5) rfl ?_ (hq := kt_lamp n am_T66 (by omega)) (hx := by first | assumption | exact am_b01 _ | exact ob01 _ | decide)
  refine ev_iload rfl rfl ?_
  refine ev_iload rfl rfl ?_
  refine ev_icmp_eq (p2 := 88) rfl rfl (fun cnd81 => ?_) (fun cnd81 => ?_)
  · skip
    refine ev_iconst (x := nI 0) rfl rfl ?_
    refine ev_zret rfl ?_
    first
    | (rw [if_pos cnd81] at hQ; exact hQ)
    | (rw [if_neg cnd81] at hQ; exact hQ)
  · skip
    refine ev_iconst (x := nI 1) rfl rfl ?_
    refine ev_goto (p2 := 89) rfl rfl ?_
    refine ev_zret rfl ?_
    first
    | (rw [if_pos cnd81] at hQ; exact hQ)
    | (rw [if_neg cnd81] at hQ; exact hQ)
theorem c_X11_breaks {d n : Nat} {mem : am_M} {Q : am_P} {R : am_R} (hC : CplT 66 R mem) (w p : Int32) (hQ : ∀ m2 : am_M, FrC mem m2 → CplT 66 (O_breaks R w p).2 m2 → Q (some (.int (O_breaks R w p).1)) (am_SK n) m2) : am_ex (d + 3) 92 [.ref 29, .int w, .int p] (am_SK n) mem Q := by
  have hb := wb_all (cp_w hC)
  unfold O_breaks at hQ
  refine ex_in (c0 := kc_X11_breaks) rfl (L := [some (.ref 29), some (.int w), some (.int p)]) rfl ?_
  refine ev_aload rfl rfl ?_
  refine ev_getR (c := 11) (j := 2) rfl ?_ (hq := k_29 n)
  refine ev_iload rfl rfl ?_
  refine ev_iload rfl rfl ?_
  refine ev_callV rfl rfl rfl rfl (Nat.le_of_ble_eq_true rfl) (Nat.le_of_ble_eq_true rfl) ?_ (hq := kt_0 n am_T66)
  refine c_X9_hasThing am_T66 hC _ _ ?_
  change am_ev _ _ _ _ (_ :: _) _ _ _
  refine ev_if_eqB (p2 := 28) rfl rfl (fun cnd9 => ?_) (fun cnd9 => ?_)
  · skip
    refine ev_iconst (x := (-1000000001)) rfl rfl ?_
    refine ev_iret rfl ?_
    rw [brkN cnd9, if_pos rfl] at hQ
    exact hQ mem (FrC_refl _) hC
  · skip
    by_cases hw0 : w = nI 0
    · subst hw0
      obtain ⟨ep, hp⟩ := am_idx (wr3 (cp_w hC)) (by omega) (cnd9.elim (fun y => y.2) (fun y => y.elim (fun x => absurd x.1 (by decide)) (fun x => absurd x.1 (by decide))))
      generalize nn p = c at ep hp
      subst ep
      rw [brk0 (cp_w hC) hp, if_neg (nI_n1 (by omega)), nn_nI (by omega)] at hQ
      refine ev_aload rfl rfl ?_
      refine ev_getR (c := 11) (j := 2) rfl ?_ (hq := k_29 n)
      refine ev_iload rfl rfl ?_
      refine ev_iload rfl rfl ?_
      refine ev_iconst (x := nI 1) rfl rfl ?_
      refine ev_callV rfl rfl rfl rfl (Nat.le_of_ble_eq_true rfl) (Nat.le_of_ble_eq_true rfl) ?_ (hq := kt_0 n am_T66)
      refine c_X9_makeBroken0 hC c hp _ (by decide) ?_
      change am_ev _ _ _ _ (_ :: _) _ _ _
      refine ev_call rfl rfl ?_
      refine c_X11_bit _ (by split <;> decide) ?_
      change am_ev _ _ _ _ (_ :: _) _ _ _
      refine ev_goto (p2 := 30) rfl rfl ?_
      refine ev_iret rfl ?_
      refine am_leaf (hQ _ (FrC_up (by omega)) (cp_cset1 (k0 := 4) am_T66 hC hp (by decide) (wfC4 ((cp_w hC).2.2.1 c hp) (by exact ⟨rfl, by decide⟩)))) ?_
      rcases is01 (((cp_w hC).2.2.1 c hp).2.2.2.2.1) with e | e <;> rw [e] <;> first | rfl | (dsimp only; decide)
    by_cases hw1 : w = nI 1
    · subst hw1
      obtain ⟨ep, hp⟩ := am_idx (wr4 (cp_w hC)) (by omega) (cnd9.elim (fun y => absurd y.1 (by decide)) (fun y => y.elim (fun x => x.2) (fun x => absurd x.1 (by decide))))
      generalize nn p = c at ep hp
      subst ep
      rw [brk1 (cp_w hC) hp, if_neg (nI_n1 (by omega)), nn_nI (by omega)] at hQ
      refine ev_aload rfl rfl ?_
      refine ev_getR (c := 11) (j := 2) rfl ?_ (hq := k_29 n)
      refine ev_iload rfl rfl ?_
      refine ev_iload rfl rfl ?_
      refine ev_iconst (x := nI 1) rfl rfl ?_
      refine ev_callV rfl rfl rfl rfl (Nat.le_of_ble_eq_true rfl) (Nat.le_of_ble_eq_true rfl) ?_ (hq := kt_0 n am_T66)
      refine c_X9_makeBroken1 hC c hp _ (by decide) ?_
      change am_ev _ _ _ _ (_ :: _) _ _ _
      refine ev_call rfl rfl ?_
      refine c_X11_bit _ (by split <;> decide) ?_
      change am_ev _ _ _ _ (_ :: _) _ _ _
      refine ev_goto (p2 := 30) rfl rfl ?_
      refine ev_iret rfl ?_
      refine am_leaf (hQ _ (FrC_up (by omega)) (cp_jset1 am_T66 hC hp (by exact ⟨rfl, by decide⟩))) ?_
      rcases is01 (((cp_w hC).2.2.2.1 c hp).2.2) with e | e <;> rw [e] <;> first | rfl | (dsimp only; decide)
    have hw2 : w = nI 2 := cnd9.elim (fun y => absurd y.1 hw0) (fun y => y.elim (fun x => absurd x.1 hw1) (fun x => x.1))
    subst hw2
    obtain ⟨ep, hp⟩ := am_idx (wr5 (cp_w hC)) (by omega) (cnd9.elim (fun y => absurd y.1 hw0) (fun y => y.elim (fun x => absurd x.1 hw1) (fun x => x.2)))
    generalize nn p = c at ep hp
    subst ep
    rw [brk2 (cp_w hC) hp, if_neg (nI_n1 (by omega)), nn_nI (by omega)] at hQ
    refine ev_aload rfl rfl ?_
    refine ev_getR (c := 11) (j := 2) rfl ?_ (hq := k_29 n)
    refine ev_iload rfl rfl ?_
    refine ev_iload rfl rfl ?_
    refine ev_iconst (x := nI 1) rfl rfl ?_
    refine ev_callV rfl rfl rfl rfl (Nat.le_of_ble_eq_true rfl) (Nat.le_of_ble_eq_true rfl) ?_ (hq := kt_0 n am_T66)
    refine c_X9_makeBroken2 hC c hp _ (by decide) ?_
    change am_ev _ _ _ _ (_ :: _) _ _ _
    refine ev_call rfl rfl ?_
    refine c_X11_bit _ (by split <;> decide) ?_
    change am_ev _ _ _ _ (_ :: _) _ _ _
    refine ev_goto (p2 := 30) rfl rfl ?_
    refine ev_iret rfl ?_
    refine am_leaf (hQ _ (FrC_up (by omega)) (cp_lset1 (k0 := 5) am_T66 hC hp (by decide) (wfL5 ((cp_w hC).2.2.2.2.1 c hp) (by exact ⟨rfl, by decide⟩)))) ?_
    rcases is01 (((cp_w hC).2.2.2.2.1 c hp).2.2.2.2.2.1) with e | e <;> rw [e] <;> first | rfl | (dsimp only; decide)
theorem c_X11_mend {d n : Nat} {mem : am_M} {Q : am_P} {R : am_R} (hC : CplT 66 R mem) (w p : Int32) (hQ : ∀ m2 : am_M, FrC mem m2 → CplT 66 (O_mend R w p).2 m2 → Q (some (.int (O_mend R w p).1)) (am_SK n) m2) : am_ex (d + 3) 93 [.ref 29, .int w, .int p] (am_SK n) mem Q := by
  have hb := wb_all (cp_w hC)
  unfold O_mend at hQ
  refine ex_in (c0 := kc_X11_mend) rfl (L := [some (.ref 29), some (.int w), some (.int p)]) rfl ?_
  refine ev_aload rfl rfl ?_
  refine ev_getR (c := 11) (j := 2) rfl ?_ (hq := k_29 n)
  refine ev_iload rfl rfl ?_
  refine ev_iload rfl rfl ?_
  refine ev_callV rfl rfl rfl rfl (Nat.le_of_ble_eq_true rfl) (Nat.le_of_ble_eq_true rfl) ?_ (hq := kt_0 n am_T66)
  refine c_X9_hasThing am_T66 hC _ _ ?_
  change am_ev _ _ _ _ (_ :: _) _ _ _
  refine ev_if_eqB (p2 := 28) rfl rfl (fun cnd9 => ?_) (fun cnd9 => ?_)
  · skip
    refine ev_iconst (x := (-1000000001)) rfl rfl ?_
    refine ev_iret rfl ?_
    rw [brkN cnd9, if_pos rfl] at hQ
    exact hQ mem (FrC_refl _) hC
  · skip
    by_cases hw0 : w = nI 0
    · subst hw0
      obtain ⟨ep, hp⟩ := am_idx (wr3 (cp_w hC)) (by omega) (cnd9.elim (fun y => y.2) (fun y => y.elim (fun x => absurd x.1 (by decide)) (fun x => absurd x.1 (by decide))))
      generalize nn p = c at ep hp
      subst ep
      rw [brk0 (cp_w hC) hp, if_neg (nI_n1 (by omega)), nn_nI (by omega)] at hQ
      refine ev_aload rfl rfl ?_
      refine ev_getR (c := 11) (j := 2) rfl ?_ (hq := k_29 n)
      refine ev_iload rfl rfl ?_
      refine ev_iload rfl rfl ?_
      refine ev_iconst (x := nI 0) rfl rfl ?_
      refine ev_callV rfl rfl rfl rfl (Nat.le_of_ble_eq_true rfl) (Nat.le_of_ble_eq_true rfl) ?_ (hq := kt_0 n am_T66)
      refine c_X9_makeBroken0 hC c hp _ (by decide) ?_
      change am_ev _ _ _ _ (_ :: _) _ _ _
      refine ev_call rfl rfl ?_
      refine c_X11_bit _ (by split <;> decide) ?_
      change am_ev _ _ _ _ (_ :: _) _ _ _
      refine ev_goto (p2 := 30) rfl rfl ?_
      refine ev_iret rfl ?_
      refine am_leaf (hQ _ (FrC_up (by omega)) (cp_cset1 (k0 := 4) am_T66 hC hp (by decide) (wfC4 ((cp_w hC).2.2.1 c hp) (by exact ⟨rfl, by decide⟩)))) ?_
      rcases is01 (((cp_w hC).2.2.1 c hp).2.2.2.2.1) with e | e <;> rw [e] <;> first | rfl | (dsimp only; decide)
    by_cases hw1 : w = nI 1
    · subst hw1
      obtain ⟨ep, hp⟩ := am_idx (wr4 (cp_w hC)) (by omega) (cnd9.elim (fun y => absurd y.1 (by decide)) (fun y => y.elim (fun x => x.2) (fun x => absurd x.1 (by decide))))
      generalize nn p = c at ep hp
      subst ep
      rw [brk1 (cp_w hC) hp, if_neg (nI_n1 (by omega)), nn_nI (by omega)] at hQ
      refine ev_aload rfl rfl ?_
      refine ev_getR (c := 11) (j := 2) rfl ?_ (hq := k_29 n)
      refine ev_iload rfl rfl ?_
      refine ev_iload rfl rfl ?_
      refine ev_iconst (x := nI 0) rfl rfl ?_
      refine ev_callV rfl rfl rfl rfl (Nat.le_of_ble_eq_true rfl) (Nat.le_of_ble_eq_true rfl) ?_ (hq := kt_0 n am_T66)
      refine c_X9_makeBroken1 hC c hp _ (by decide) ?_
      change am_ev _ _ _ _ (_ :: _) _ _ _
      refine ev_call rfl rfl ?_
      refine c_X11_bit _ (by split <;> decide) ?_
      change am_ev _ _ _ _ (_ :: _) _ _ _
      refine ev_goto (p2 := 30) rfl rfl ?_
      refine ev_iret rfl ?_
      refine am_leaf (hQ _ (FrC_up (by omega)) (cp_jset1 am_T66 hC hp (by exact ⟨rfl, by decide⟩))) ?_
      rcases is01 (((cp_w hC).2.2.2.1 c hp).2.2) with e | e <;> rw [e] <;> first | rfl | (dsimp only; decide)
    have hw2 : w = nI 2 := cnd9.elim (fun y => absurd y.1 hw0) (fun y => y.elim (fun x => absurd x.1 hw1) (fun x => x.1))
    subst hw2
    obtain ⟨ep, hp⟩ := am_idx (wr5 (cp_w hC)) (by omega) (cnd9.elim (fun y => absurd y.1 hw0) (fun y => y.elim (fun x => absurd x.1 hw1) (fun x => x.2)))
    generalize nn p = c at ep hp
    subst ep
    rw [brk2 (cp_w hC) hp, if_neg (nI_n1 (by omega)), nn_nI (by omega)] at hQ
    refine ev_aload rfl rfl ?_
    refine ev_getR (c := 11) (j := 2) rfl ?_ (hq := k_29 n)
    refine ev_iload rfl rfl ?_
    refine ev_iload rfl rfl ?_
    refine ev_iconst (x := nI 0) rfl rfl ?_
    refine ev_callV rfl rfl rfl rfl (Nat.le_of_ble_eq_true rfl) (Nat.le_of_ble_eq_true rfl) ?_ (hq := kt_0 n am_T66)
    refine c_X9_makeBroken2 hC c hp _ (by decide) ?_
    change am_ev _ _ _ _ (_ :: _) _ _ _
    refine ev_call rfl rfl ?_
    refine c_X11_bit _ (by split <;> decide) ?_
    change am_ev _ _ _ _ (_ :: _) _ _ _
    refine ev_goto (p2 := 30) rfl rfl ?_
    refine ev_iret rfl ?_
    refine am_leaf (hQ _ (FrC_up (by omega)) (cp_lset1 (k0 := 5) am_T66 hC hp (by decide) (wfL5 ((cp_w hC).2.2.2.2.1 c hp) (by exact ⟨rfl, by decide⟩)))) ?_
    rcases is01 (((cp_w hC).2.2.2.2.1 c hp).2.2.2.2.2.1) with e | e <;> rw [e] <;> first | rfl | (dsimp only; decide)
theorem l_X11_isAmong {d n : Nat} {mem : am_M} {Q : am_P} {q N : Nat} (hq : (am_SK n)[q]? = some (20, N, [])) (h28 : q ≠ 28) (hN : N < 1000) (p : Int32) (m : Nat) (hm : m ≤ N) (r : Nat) : ∀ (k : Nat) (hk : k + r = m) (hQ : Q (some (.int (ob (S_has (mem q) 0 p r k)))) (am_SK n) mem), am_ev kc_X11_isAmong (d + 1) 2 [some (.int p), some (.ref q), some (.int (nI m)), some (.int (nI k))] [] (am_SK n) mem Q := by
  induction r with
  | zero =>
    intro k hk hQ
    unfold S_has at hQ
    refine ev_iload rfl rfl ?_
    refine ev_iload rfl rfl ?_
    refine ev_icmp_geN (p2 := 28) rfl rfl (fun cnd4 => ?_) (fun cnd4 => ?_)
    · skip
      refine ev_iconst (x := nI 0) rfl rfl ?_
      refine ev_zret rfl ?_
      exact hQ
    · omega
  | succ r ih =>
    intro k hk hQ
    unfold S_has at hQ
    refine ev_iload rfl rfl ?_
    refine ev_iload rfl rfl ?_
    refine ev_icmp_geN (p2 := 28) rfl rfl (fun cnd4 => ?_) (fun cnd4 => ?_)
    · omega
    · skip
      refine ev_iload rfl rfl ?_
      refine ev_aload rfl rfl ?_
      refine ev_alen rfl ?_ (hq := hq)
      refine ev_icmp_geN (b := N) (p2 := 28) rfl rfl (fun cnd10 => ?_) (fun cnd10 => ?_)
      · omega
      · skip
        refine ev_aload rfl rfl ?_
        refine ev_iload rfl rfl ?_
        refine ev_ialdN rfl rfl ?_ (hq := hq) (hN := by omega)
        refine ev_iload rfl rfl ?_
        refine ev_icmp_ne (p2 := 22) rfl rfl (fun cnd17 => ?_) (fun cnd17 => ?_)
        · skip
          refine ev_iincN rfl rfl rfl ?_
          refine ev_goto (p2 := 2) rfl rfl ?_
          rw [Nat.zero_add, if_neg cnd17] at hQ
          exact ih (k + 1) (by omega) hQ
        · skip
          refine ev_iconst (x := nI 1) rfl rfl ?_
          refine ev_zret rfl ?_
          rw [Nat.zero_add, if_pos cnd17] at hQ
          exact hQ
theorem c_X11_isAmong {d n : Nat} {mem : am_M} {Q : am_P} {q N : Nat} (hq : (am_SK n)[q]? = some (20, N, [])) (h28 : q ≠ 28) (hN : N < 1000) (p : Int32) (m : Nat) (hm : m ≤ N) (hQ : Q (some (.int (ob (S_has (mem q) 0 p m 0)))) (am_SK n) mem) : am_ex (d + 2) 134 [.int p, .ref q, .int (nI m)] (am_SK n) mem Q := by
  refine ex_in (c0 := kc_X11_isAmong) rfl (L := [some (.int p), some (.ref q), some (.int (nI m)), none]) rfl ?_
  refine ev_iconst (x := nI 0) rfl rfl ?_
  refine ev_istore rfl rfl (Nat.le_of_ble_eq_true rfl) ?_
  exact l_X11_isAmong hq h28 hN p m hm m 0 (Nat.zero_add _) hQ
theorem S_has_cg {R g : am_R} {b m : Nat} {p : Int32} (h : ∀ k, k < m → g k = R (b + k)) : ∀ r k, k + r = m → S_has g 0 p r k = S_has R b p r k := by
  intro r
  induction r with
  | zero => intro k _; rfl
  | succ r ih =>
    intro k hk
    unfold S_has
    rw [Nat.zero_add, h k (by omega), ih (k + 1) (by omega)]
theorem c_X11_choose {d n : Nat} {mem : am_M} {Q : am_P} {R : am_R} (hC : CplT 66 R mem) (p : Int32) (hQ : ∀ m2 : am_M, FrC mem m2 → CplT 66 (O_choose R p).2 m2 → Q (some (.int (O_choose R p).1)) (am_SK n) m2) : am_ex (d + 3) 106 [.ref 29, .int p] (am_SK n) mem Q := by
  have hb := wb_all (cp_w hC)
  unfold O_choose at hQ
  refine ex_in (c0 := kc_X11_choose) rfl (L := [some (.ref 29), some (.int p)]) rfl ?_
  refine ev_aload rfl rfl ?_
  refine ev_getR (c := 11) (j := 2) rfl ?_ (hq := k_29 n)
  refine ev_iload rfl rfl ?_
  refine ev_callV rfl rfl rfl rfl (Nat.le_of_ble_eq_true rfl) (Nat.le_of_ble_eq_true rfl) ?_ (hq := kt_0 n am_T66)
  refine c_X9_hasLamp am_T66 hC _ ?_
  change am_ev _ _ _ _ (_ :: _) _ _ _
  refine ev_if_neB (p2 := 14) rfl rfl (fun cnd8 => ?_) (fun cnd8 => ?_)
  · skip
    refine ev_iload rfl rfl ?_
    refine ev_aload rfl rfl ?_
    refine ev_getR (c := 11) (j := 2) rfl ?_ (hq := k_29 n)
    refine ev_getR (c := 9) (j := 10) rfl ?_ (hq := kt_0 n am_T66)
    refine ev_aload rfl rfl ?_
    refine ev_getR (c := 11) (j := 2) rfl ?_ (hq := k_29 n)
    refine ev_getI (c := 9) (j := 11) rfl ?_ (hq := kt_0 n am_T66)
    rw [cp_t11 hC]
    refine ev_call rfl rfl ?_
    refine c_X11_isAmong (kt_4 n am_T66) (by decide) (by decide) _ _ (by omega) ?_
    rw [S_has_cg (R := R) (b := 9) (m := nn (R 7)) (fun k hk => (cp_ch hC (k := k) hk).trans ((cp_w hC).2.2.2.2.2.1 k hk).1.symm) _ 0 (Nat.zero_add _)]
    change am_ev _ _ _ _ (_ :: _) _ _ _
    refine ev_if_eqO (p2 := 39) rfl rfl (fun cnd32 => ?_) (fun cnd32 => ?_)
    · skip
      refine ev_aload rfl rfl ?_
      refine ev_getR (c := 11) (j := 2) rfl ?_ (hq := k_29 n)
      refine ev_getI (c := 9) (j := 11) rfl ?_ (hq := kt_0 n am_T66)
      rw [cp_t11 hC]
      refine ev_iconst (x := nI 8) rfl rfl ?_
      refine ev_icmp_ltN (p2 := 54) rfl rfl (fun cnd48 => ?_) (fun cnd48 => ?_)
      · skip
        refine ev_aload rfl rfl ?_
        refine ev_getR (c := 11) (j := 2) rfl ?_ (hq := k_29 n)
        refine ev_getR (c := 9) (j := 10) rfl ?_ (hq := kt_0 n am_T66)
        refine ev_aload rfl rfl ?_
        refine ev_getR (c := 11) (j := 2) rfl ?_ (hq := k_29 n)
        refine ev_getI (c := 9) (j := 11) rfl ?_ (hq := kt_0 n am_T66)
        rw [cp_t11 hC]
        refine ev_iload rfl rfl ?_
        refine ev_iastN rfl rfl ?_ (hq := kt_4 n am_T66)
        refine ev_aload rfl rfl ?_
        refine ev_getR (c := 11) (j := 2) rfl ?_ (hq := k_29 n)
        first | refine ev_dupR rfl ?_ | refine ev_dupI rfl ?_
        refine ev_getI (c := 9) (j := 11) rfl ?_ (hq := kt_0 n am_T66)
        rw [am_up_ne (show (66 : Nat) ≠ 66 + 4 by decide), cp_t11 hC]
        refine ev_iconst (x := nI 1) rfl rfl ?_
        refine ev_iaddN rfl ?_
        refine ev_put (c := 9) (j := 11) rfl ?_ (hq := kt_0 n am_T66)
        refine ev_aload rfl rfl ?_
        refine ev_getR (c := 11) (j := 2) rfl ?_ (hq := k_29 n)
        refine ev_getI (c := 9) (j := 11) rfl ?_ (hq := kt_0 n am_T66)
        rw [am_up_eq]
        refine ev_iret rfl ?_
        rw [if_pos cnd8] at hQ
        rw [if_neg (by rw [cnd32]; decide)] at hQ
        rw [if_neg (by omega)] at hQ
        dsimp only at hQ
        refine hQ _ (FrC_tr (FrC_up (by omega)) (FrC_up (by omega))) (cp_chadd am_T66 hC rfl cnd48 (fun i hi => ?_) ?_ ?_ (fun q h1 h2 => (am_up_ne h1).trans (am_up_ne h2)) (fun k hk => (am_up_nk hk).trans (congrFun (am_up_ne (by decide)) k)) ?_ ?_)
        · rw [upd_ne (by omega), upd_ne (by omega)]
        · rw [upd_eq]
        · rw [upd_ne (by omega), upd_eq]
          exact am_idx (wr5 (cp_w hC)) (by omega) cnd8
        · rw [am_up_eq, upd_eq]
        · rw [am_up_ne (by decide), upd_ne (by omega), upd_eq, am_up_eq]
          exact ⟨rfl, fun k hk => am_up_nk hk⟩
      · skip
        refine ev_iconst (x := (-1000000003)) rfl rfl ?_
        refine ev_iret rfl ?_
        rw [if_pos cnd8] at hQ
        rw [if_neg (by rw [cnd32]; decide)] at hQ
        rw [if_pos (by omega)] at hQ
        exact hQ mem (FrC_refl _) hC
    · skip
      refine ev_iconst (x := (-1000000002)) rfl rfl ?_
      refine ev_iret rfl ?_
      rw [if_pos cnd8] at hQ
      rw [if_pos cnd32] at hQ
      exact hQ mem (FrC_refl _) hC
  · skip
    refine ev_iconst (x := (-1000000001)) rfl rfl ?_
    refine ev_iret rfl ?_
    rw [if_neg cnd8] at hQ; exact hQ mem (FrC_refl _) hC
theorem c_X11_stop {d n : Nat} {mem : am_M} {Q : am_P} {R : am_R} (hC : CplT 66 R mem) (p : Int32) (hQ : ∀ m2 : am_M, FrC mem m2 → CplT 66 (O_stop R p).2 m2 → Q (some (.int (O_stop R p).1)) (am_SK n) m2) : am_ex (d + 3) 109 [.ref 29, .int p] (am_SK n) mem Q := by
  have hb := wb_all (cp_w hC)
  unfold O_stop at hQ
  refine ex_in (c0 := kc_X11_stop) rfl (L := [some (.ref 29), some (.int p)]) rfl ?_
  refine ev_aload rfl rfl ?_
  refine ev_getR (c := 11) (j := 2) rfl ?_ (hq := k_29 n)
  refine ev_iload rfl rfl ?_
  refine ev_callV rfl rfl rfl rfl (Nat.le_of_ble_eq_true rfl) (Nat.le_of_ble_eq_true rfl) ?_ (hq := kt_0 n am_T66)
  refine c_X9_hasJoint am_T66 hC _ ?_
  change am_ev _ _ _ _ (_ :: _) _ _ _
  refine ev_if_neB (p2 := 14) rfl rfl (fun cnd8 => ?_) (fun cnd8 => ?_)
  · skip
    refine ev_iload rfl rfl ?_
    refine ev_aload rfl rfl ?_
    refine ev_getR (c := 11) (j := 2) rfl ?_ (hq := k_29 n)
    refine ev_getR (c := 9) (j := 12) rfl ?_ (hq := kt_0 n am_T66)
    refine ev_aload rfl rfl ?_
    refine ev_getR (c := 11) (j := 2) rfl ?_ (hq := k_29 n)
    refine ev_getI (c := 9) (j := 13) rfl ?_ (hq := kt_0 n am_T66)
    rw [cp_t13 hC]
    refine ev_call rfl rfl ?_
    refine c_X11_isAmong (kt_5 n am_T66) (by decide) (by decide) _ _ (by omega) ?_
    rw [S_has_cg (R := R) (b := 17) (m := nn (R 8)) (fun k hk => (cp_st hC (k := k) hk).trans ((cp_w hC).2.2.2.2.2.2 k hk).1.symm) _ 0 (Nat.zero_add _)]
    change am_ev _ _ _ _ (_ :: _) _ _ _
    refine ev_if_eqO (p2 := 39) rfl rfl (fun cnd32 => ?_) (fun cnd32 => ?_)
    · skip
      refine ev_aload rfl rfl ?_
      refine ev_getR (c := 11) (j := 2) rfl ?_ (hq := k_29 n)
      refine ev_getI (c := 9) (j := 13) rfl ?_ (hq := kt_0 n am_T66)
      rw [cp_t13 hC]
      refine ev_iconst (x := nI 6) rfl rfl ?_
      refine ev_icmp_ltN (p2 := 54) rfl rfl (fun cnd48 => ?_) (fun cnd48 => ?_)
      · skip
        refine ev_aload rfl rfl ?_
        refine ev_getR (c := 11) (j := 2) rfl ?_ (hq := k_29 n)
        refine ev_getR (c := 9) (j := 12) rfl ?_ (hq := kt_0 n am_T66)
        refine ev_aload rfl rfl ?_
        refine ev_getR (c := 11) (j := 2) rfl ?_ (hq := k_29 n)
        refine ev_getI (c := 9) (j := 13) rfl ?_ (hq := kt_0 n am_T66)
        rw [cp_t13 hC]
        refine ev_iload rfl rfl ?_
        refine ev_iastN rfl rfl ?_ (hq := kt_5 n am_T66)
        refine ev_aload rfl rfl ?_
        refine ev_getR (c := 11) (j := 2) rfl ?_ (hq := k_29 n)
        first | refine ev_dupR rfl ?_ | refine ev_dupI rfl ?_
        refine ev_getI (c := 9) (j := 13) rfl ?_ (hq := kt_0 n am_T66)
        rw [am_up_ne (show (66 : Nat) ≠ 66 + 5 by decide), cp_t13 hC]
        refine ev_iconst (x := nI 1) rfl rfl ?_
        refine ev_iaddN rfl ?_
        refine ev_put (c := 9) (j := 13) rfl ?_ (hq := kt_0 n am_T66)
        refine ev_aload rfl rfl ?_
        refine ev_getR (c := 11) (j := 2) rfl ?_ (hq := k_29 n)
        refine ev_getI (c := 9) (j := 13) rfl ?_ (hq := kt_0 n am_T66)
        rw [am_up_eq]
        refine ev_iret rfl ?_
        rw [if_pos cnd8] at hQ
        rw [if_neg (by rw [cnd32]; decide)] at hQ
        rw [if_neg (by omega)] at hQ
        dsimp only at hQ
        refine hQ _ (FrC_tr (FrC_up (by omega)) (FrC_up (by omega))) (cp_stadd am_T66 hC rfl cnd48 (fun i hi => ?_) ?_ ?_ (fun q h1 h2 => (am_up_ne h1).trans (am_up_ne h2)) (fun k hk => (am_up_nk hk).trans (congrFun (am_up_ne (by decide)) k)) ?_ ?_)
        · rw [upd_ne (by omega), upd_ne (by omega)]
        · rw [upd_eq]
        · rw [upd_ne (by omega), upd_eq]
          exact am_idx (wr4 (cp_w hC)) (by omega) cnd8
        · rw [am_up_eq, upd_eq]
        · rw [am_up_ne (by decide), upd_ne (by omega), upd_eq, am_up_eq]
          exact ⟨rfl, fun k hk => am_up_nk hk⟩
      · skip
        refine ev_iconst (x := (-1000000003)) rfl rfl ?_
        refine ev_iret rfl ?_
        rw [if_pos cnd8] at hQ
        rw [if_neg (by rw [cnd32]; decide)] at hQ
        rw [if_pos (by omega)] at hQ
        exact hQ mem (FrC_refl _) hC
    · skip
      refine ev_iconst (x := (-1000000002)) rfl rfl ?_
      refine ev_iret rfl ?_
      rw [if_pos cnd8] at hQ
      rw [if_pos cnd32] at hQ
      exact hQ mem (FrC_refl _) hC
  · skip
    refine ev_iconst (x := (-1000000001)) rfl rfl ?_
    refine ev_iret rfl ?_
    rw [if_neg cnd8] at hQ; exact hQ mem (FrC_refl _) hC
