/-! the reference: as -/
def X_as (R : am_R) (p w : Int32) : Int32 := if (0 ≤ p ∧ p ≤ R 5 - 1) ∧ (nI 0 ≤ w ∧ w ≤ nI 5) then (if w = 0 ∨ R (77 + 7 * nn p) = w ∨ (w = nI 1 ∧ R (77 + 7 * nn p) = nI 3) ∨ (w = nI 2 ∧ R (77 + 7 * nn p) = nI 4) then R (77 + 7 * nn p + 4) else -1000000012) else S_BAD
theorem c_X12_as {d n : Nat} {mem : am_M} {Q : am_P} (hw : wfR (mem 222)) (p w : Int32) (hQ : Q (some (.int (X_as (mem 222) p w))) (am_SK n) mem) : am_ex (d + 3) 171 [.ref 221, .int p, .int w] (am_SK n) mem Q := by
  have hr5 : nn (mem 222 5) < 17 := hw.2.1.2.2.1.2
  unfold X_as at hQ
  refine ex_in (c0 := kc_X12_as) rfl (L := [some (.ref 221), some (.int p), some (.int w)]) rfl ?_
  refine ev_aload rfl rfl ?_
  refine ev_iload rfl rfl ?_
  refine ev_call rfl rfl ?_
  refine c_X12_isLamp _ ?_
  change am_ev _ _ _ _ (_ :: _) _ _ _
  refine ev_if_eq (p2 := 17) rfl rfl (fun cnd5 => ?_) (fun cnd5 => ?_)
  · skip
    refine ev_iconst (x := (-1000000001)) rfl rfl ?_
    refine ev_iret rfl ?_
    first
    | (rw [if_neg (fun z => am_b0.mp cnd5 z.1)] at hQ; exact hQ)
    | (rw [if_neg (fun z => am_b0.mp cnd14 z.2)] at hQ; exact hQ)
  · skip
    refine ev_iload rfl rfl ?_
    refine ev_iconst (x := nI 0) rfl rfl ?_
    refine ev_iconst (x := nI 5) rfl rfl ?_
    refine ev_call rfl rfl ?_
    refine c_X12_in _ _ _ ?_
    change am_ev _ _ _ _ (_ :: _) _ _ _
    refine ev_if_ne (p2 := 20) rfl rfl (fun cnd14 => ?_) (fun cnd14 => ?_)
    · skip
      rw [if_pos (And.intro (am_bn0.mp cnd5) (am_bn0.mp cnd14))] at hQ
      obtain ⟨ep, hp⟩ := am_idx hw.2.1.2.2.1.1 (by omega) (am_bn0.mp cnd5)
      clear cnd5
      generalize nn p = c at ep hp hQ
      subst ep
      refine ev_aload rfl rfl ?_
      refine ev_iload rfl rfl ?_
      refine ev_iconst (x := nI 0) rfl rfl ?_
      refine ev_call rfl rfl ?_
      refine c_X12_lamp7 (a := c) (w := 0) (by omega) ?_
      rw [show 77 + 7 * c + 0 = 77 + 7 * c from rfl]
      change am_ev _ _ _ _ (_ :: _) _ _ _
      refine ev_iload rfl rfl ?_
      refine ev_call rfl rfl ?_
      refine c_X12_isUnder _ _ ?_
      change am_ev _ _ _ _ (_ :: _) _ _ _
      refine ev_if_eq (p2 := 42) rfl rfl (fun cnd30 => ?_) (fun cnd30 => ?_)
      · skip
        refine ev_iconst (x := (-1000000012)) rfl rfl ?_
        refine ev_iret rfl ?_
        first
        | (rw [if_pos (am_bn0.mp cnd30)] at hQ; exact hQ)
        | (rw [if_neg (am_b0.mp cnd30)] at hQ; exact hQ)
      · skip
        refine ev_aload rfl rfl ?_
        refine ev_iload rfl rfl ?_
        refine ev_iconst (x := nI 4) rfl rfl ?_
        refine ev_call rfl rfl ?_
        refine c_X12_lamp7 (a := c) (w := 4) (by omega) ?_
        change am_ev _ _ _ _ (_ :: _) _ _ _
        refine ev_goto (p2 := 44) rfl rfl ?_
        refine ev_iret rfl ?_
        first
        | (rw [if_pos (am_bn0.mp cnd30)] at hQ; exact hQ)
        | (rw [if_neg (am_b0.mp cnd30)] at hQ; exact hQ)
    · skip
      refine ev_iconst (x := (-1000000001)) rfl rfl ?_
      refine ev_iret rfl ?_
      first
      | (rw [if_neg (fun z => am_b0.mp cnd5 z.1)] at hQ; exact hQ)
      | (rw [if_neg (fun z => am_b0.mp cnd14 z.2)] at hQ; exact hQ)
