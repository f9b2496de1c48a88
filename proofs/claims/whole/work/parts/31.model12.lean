/-! the reference: bill, shift -/
theorem c_X12_bill {d n : Nat} {mem : am_M} {Q : am_P} (hw : wfR (mem 222)) (p : Int32) (hQ1 : ¬ (0 ≤ p ∧ p ≤ mem 222 3 - 1) → Q (some (.int S_BAD)) (am_SK n) mem) (hQ : ∀ c, p = nI c → c < nn (mem 222 3) → Q (some (.int (mem 222 (23 + 6 * c + 5)))) (am_SK n) (am_up mem 222 (23 + 6 * c + 5) (nI 0))) : am_ex (d + 3) 179 [.ref 221, .int p] (am_SK n) mem Q := by
  have hr3 : nn (mem 222 3) < 4 := hw.2.1.1.2
  refine ex_in (c0 := kc_X12_bill) rfl (L := [some (.ref 221), some (.int p), none]) rfl ?_
  refine ev_aload rfl rfl ?_
  refine ev_iload rfl rfl ?_
  refine ev_call rfl rfl ?_
  refine c_X12_isCab _ ?_
  change am_ev _ _ _ _ (_ :: _) _ _ _
  refine ev_if_ne (p2 := 11) rfl rfl (fun cnd5 => ?_) (fun cnd5 => ?_)
  · skip
    obtain ⟨ep, hp⟩ := am_idx hw.2.1.1.1 (by omega) (am_bn0.mp cnd5)
    replace hQ := hQ _ ep hp
    generalize nn p = c at ep hp hQ
    subst ep
    refine ev_aload rfl rfl ?_
    refine ev_iload rfl rfl ?_
    refine ev_iconst (x := nI 5) rfl rfl ?_
    refine ev_call rfl rfl ?_
    refine c_X12_cab6 (a := c) (w := 5) (by omega) ?_
    change am_ev _ _ _ _ (_ :: _) _ _ _
    refine ev_istore rfl rfl (Nat.le_of_ble_eq_true rfl) ?_
    refine ev_aload rfl rfl ?_
    refine ev_getR (c := 12) (j := 0) rfl ?_ (hq := k_221 n)
    refine ev_iconst (x := nI 23) rfl rfl ?_
    refine ev_iconst (x := nI 6) rfl rfl ?_
    refine ev_iload rfl rfl ?_
    refine ev_imul rfl ?_
    refine ev_iadd rfl ?_
    refine ev_iconst (x := nI 5) rfl rfl ?_
    refine ev_iadd rfl ?_
    refine ev_iconst (x := nI 0) rfl rfl ?_
    refine ev_iastN rfl (m := 23 + 6 * c + 5) (by simp only [nI_add, pk_mul]) ?_ (hq := k_222 n)
    refine ev_iload rfl rfl ?_
    refine ev_iret rfl ?_
    exact hQ
  · skip
    refine ev_iconst (x := (-1000000001)) rfl rfl ?_
    refine ev_iret rfl ?_
    exact hQ1 (am_b0.mp cnd5)
theorem c_X12_shift {d n : Nat} {mem : am_M} {Q : am_P} (hw : wfR (mem 222)) (p v : Int32) (hQ1 : ¬ ((0 ≤ p ∧ p ≤ mem 222 3 - 1) ∧ (-3 ≤ v ∧ v ≤ nI 3)) → Q (some (.int S_BAD)) (am_SK n) mem) (hQ : ∀ c, p = nI c → c < nn (mem 222 3) → (-3 ≤ v ∧ v ≤ nI 3) → Q (some (.int (mem 222 (23 + 6 * c + 3)))) (am_SK n) (am_up mem 222 (23 + 6 * c + 3) v)) : am_ex (d + 3) 165 [.ref 221, .int p, .int v] (am_SK n) mem Q := by
  have hr3 : nn (mem 222 3) < 4 := hw.2.1.1.2
  refine ex_in (c0 := kc_X12_shift) rfl (L := [some (.ref 221), some (.int p), some (.int v), none]) rfl ?_
  refine ev_aload rfl rfl ?_
  refine ev_iload rfl rfl ?_
  refine ev_call rfl rfl ?_
  refine c_X12_isCab _ ?_
  change am_ev _ _ _ _ (_ :: _) _ _ _
  refine ev_if_eq (p2 := 18) rfl rfl (fun cnd5 => ?_) (fun cnd5 => ?_)
  · skip
    refine ev_iconst (x := (-1000000001)) rfl rfl ?_
    refine ev_iret rfl ?_
    first
    | exact hQ1 (fun z => am_b0.mp cnd5 z.1)
    | exact hQ1 (fun z => am_b0.mp cnd15 z.2)
  · skip
    refine ev_iload rfl rfl ?_
    refine ev_iconst (x := (-3)) rfl rfl ?_
    refine ev_iconst (x := nI 3) rfl rfl ?_
    refine ev_call rfl rfl ?_
    refine c_X12_in _ _ _ ?_
    change am_ev _ _ _ _ (_ :: _) _ _ _
    refine ev_if_ne (p2 := 21) rfl rfl (fun cnd15 => ?_) (fun cnd15 => ?_)
    · skip
      obtain ⟨ep, hp⟩ := am_idx hw.2.1.1.1 (by omega) (am_bn0.mp cnd5)
      replace hQ := hQ _ ep hp (am_bn0.mp cnd15)
      generalize nn p = c at ep hp hQ
      subst ep
      refine ev_aload rfl rfl ?_
      refine ev_iload rfl rfl ?_
      refine ev_iconst (x := nI 3) rfl rfl ?_
      refine ev_call rfl rfl ?_
      refine c_X12_cab6 (a := c) (w := 3) (by omega) ?_
      change am_ev _ _ _ _ (_ :: _) _ _ _
      refine ev_istore rfl rfl (Nat.le_of_ble_eq_true rfl) ?_
      refine ev_aload rfl rfl ?_
      refine ev_getR (c := 12) (j := 0) rfl ?_ (hq := k_221 n)
      refine ev_iconst (x := nI 23) rfl rfl ?_
      refine ev_iconst (x := nI 6) rfl rfl ?_
      refine ev_iload rfl rfl ?_
      refine ev_imul rfl ?_
      refine ev_iadd rfl ?_
      refine ev_iconst (x := nI 3) rfl rfl ?_
      refine ev_iadd rfl ?_
      refine ev_iload rfl rfl ?_
      refine ev_iastN rfl (m := 23 + 6 * c + 3) (by simp only [nI_add, pk_mul]) ?_ (hq := k_222 n)
      refine ev_iload rfl rfl ?_
      refine ev_iret rfl ?_
      exact hQ
    · skip
      refine ev_iconst (x := (-1000000001)) rfl rfl ?_
      refine ev_iret rfl ?_
      first
      | exact hQ1 (fun z => am_b0.mp cnd5 z.1)
      | exact hQ1 (fun z => am_b0.mp cnd15 z.2)
