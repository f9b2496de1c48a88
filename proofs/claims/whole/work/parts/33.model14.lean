/-! the reference: where a breakage is written -/
def S_brk (R : am_R) (w p : Int32) : Int32 := if w = 0 then (if 0 ≤ p ∧ p ≤ R 3 - 1 then nI 23 + nI 6 * p + nI 4 else (-1)) else if w = nI 1 then (if 0 ≤ p ∧ p ≤ R 4 - 1 then nI 41 + nI 3 * p + nI 2 else (-1)) else if w = nI 2 ∧ (0 ≤ p ∧ p ≤ R 5 - 1) then nI 77 + nI 7 * p + nI 5 else (-1)
theorem c_X12_brokenAt {d n : Nat} {mem : am_M} {Q : am_P} (w p : Int32) (hQ : Q (some (.int (S_brk (mem 222) w p))) (am_SK n) mem) : am_ex (d + 3) 174 [.ref 221, .int w, .int p] (am_SK n) mem Q := by
  refine ex_in (c0 := kc_X12_brokenAt) rfl (L := [some (.ref 221), some (.int w), some (.int p)]) rfl ?_
  refine ev_iload rfl rfl ?_
  refine ev_if_ne (p2 := 26) rfl rfl (fun cnd1 => ?_) (fun cnd1 => ?_)
  · skip
    refine ev_iload rfl rfl ?_
    refine ev_iconst (x := nI 1) rfl rfl ?_
    refine ev_icmp_ne (p2 := 52) rfl rfl (fun cnd28 => ?_) (fun cnd28 => ?_)
    · skip
      refine ev_iload rfl rfl ?_
      refine ev_iconst (x := nI 2) rfl rfl ?_
      refine ev_icmp_ne (p2 := 77) rfl rfl (fun cnd54 => ?_) (fun cnd54 => ?_)
      · skip
        refine ev_iconst (x := (-1)) rfl rfl ?_
        refine ev_iret rfl ?_
        refine am_leaf hQ ?_
        unfold S_brk
        rw [if_neg cnd1, if_neg cnd28]
        first | rw [if_pos (And.intro cnd54 (am_bn0.mp cnd62))] | rw [if_neg (fun z => cnd54 z.1)] | rw [if_neg (fun z => am_b0.mp cnd62 z.2)]
      · skip
        refine ev_aload rfl rfl ?_
        refine ev_iload rfl rfl ?_
        refine ev_call rfl rfl ?_
        refine c_X12_isLamp _ ?_
        change am_ev _ _ _ _ (_ :: _) _ _ _
        refine ev_if_eq (p2 := 77) rfl rfl (fun cnd62 => ?_) (fun cnd62 => ?_)
        · skip
          refine ev_iconst (x := (-1)) rfl rfl ?_
          refine ev_iret rfl ?_
          refine am_leaf hQ ?_
          unfold S_brk
          rw [if_neg cnd1, if_neg cnd28]
          first | rw [if_pos (And.intro cnd54 (am_bn0.mp cnd62))] | rw [if_neg (fun z => cnd54 z.1)] | rw [if_neg (fun z => am_b0.mp cnd62 z.2)]
        · skip
          refine ev_iconst (x := nI 77) rfl rfl ?_
          refine ev_iconst (x := nI 7) rfl rfl ?_
          refine ev_iload rfl rfl ?_
          refine ev_imul rfl ?_
          refine ev_iadd rfl ?_
          refine ev_iconst (x := nI 5) rfl rfl ?_
          refine ev_iadd rfl ?_
          refine ev_goto (p2 := 78) rfl rfl ?_
          refine ev_iret rfl ?_
          refine am_leaf hQ ?_
          unfold S_brk
          rw [if_neg cnd1, if_neg cnd28]
          first | rw [if_pos (And.intro cnd54 (am_bn0.mp cnd62))] | rw [if_neg (fun z => cnd54 z.1)] | rw [if_neg (fun z => am_b0.mp cnd62 z.2)]
    · skip
      refine ev_aload rfl rfl ?_
      refine ev_iload rfl rfl ?_
      refine ev_call rfl rfl ?_
      refine c_X12_isJoint _ ?_
      change am_ev _ _ _ _ (_ :: _) _ _ _
      refine ev_if_eq (p2 := 50) rfl rfl (fun cnd36 => ?_) (fun cnd36 => ?_)
      · skip
        refine ev_iconst (x := (-1)) rfl rfl ?_
        refine ev_iret rfl ?_
        refine am_leaf hQ ?_
        unfold S_brk
        rw [if_neg cnd1, if_pos cnd28]
        first | rw [if_pos (am_bn0.mp cnd36)] | rw [if_neg (am_b0.mp cnd36)]
      · skip
        refine ev_iconst (x := nI 41) rfl rfl ?_
        refine ev_iconst (x := nI 3) rfl rfl ?_
        refine ev_iload rfl rfl ?_
        refine ev_imul rfl ?_
        refine ev_iadd rfl ?_
        refine ev_iconst (x := nI 2) rfl rfl ?_
        refine ev_iadd rfl ?_
        refine ev_goto (p2 := 51) rfl rfl ?_
        refine ev_iret rfl ?_
        refine am_leaf hQ ?_
        unfold S_brk
        rw [if_neg cnd1, if_pos cnd28]
        first | rw [if_pos (am_bn0.mp cnd36)] | rw [if_neg (am_b0.mp cnd36)]
  · skip
    refine ev_aload rfl rfl ?_
    refine ev_iload rfl rfl ?_
    refine ev_call rfl rfl ?_
    refine c_X12_isCab _ ?_
    change am_ev _ _ _ _ (_ :: _) _ _ _
    refine ev_if_eq (p2 := 24) rfl rfl (fun cnd9 => ?_) (fun cnd9 => ?_)
    · skip
      refine ev_iconst (x := (-1)) rfl rfl ?_
      refine ev_iret rfl ?_
      refine am_leaf hQ ?_
      unfold S_brk
      rw [if_pos cnd1]
      first | rw [if_pos (am_bn0.mp cnd9)] | rw [if_neg (am_b0.mp cnd9)]
    · skip
      refine ev_iconst (x := nI 23) rfl rfl ?_
      refine ev_iconst (x := nI 6) rfl rfl ?_
      refine ev_iload rfl rfl ?_
      refine ev_imul rfl ?_
      refine ev_iadd rfl ?_
      refine ev_iconst (x := nI 4) rfl rfl ?_
      refine ev_iadd rfl ?_
      refine ev_goto (p2 := 25) rfl rfl ?_
      refine ev_iret rfl ?_
      refine am_leaf hQ ?_
      unfold S_brk
      rw [if_pos cnd1]
      first | rw [if_pos (am_bn0.mp cnd9)] | rw [if_neg (am_b0.mp cnd9)]
