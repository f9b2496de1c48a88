/-! the reference: cabinetTold -/
theorem am_rng {w : Int32} {b : Nat} (hb : b < 2 ^ 31) (h : nI 0 ≤ w ∧ w ≤ nI b) : w = nI (nn w) ∧ nn w ≤ b := by
  obtain ⟨h1, h2⟩ := h
  have e0 : (nI 0).toInt = 0 := rfl
  have eb : (nI b).toInt = (b : Int) := nI_toInt hb
  rw [Int32.le_iff_toInt_le] at h1 h2
  have hn : nn w = w.toInt.toNat := rfl
  exact ⟨am_nI_of (by omega) (by omega), by omega⟩
def S_cabT (R : am_R) (c : Nat) : Nat → Int32
  | 4 => ob (S_night R c)
  | 5 => R (23 + 6 * c + 4)
  | 6 => S_drawn R (nI c) (nI 0)
  | 7 => S_drawn R (nI c) (nI 1)
  | 8 => R (23 + 6 * c + 5)
  | w => R (23 + 6 * c + w)
def X_cabTold (R : am_R) (p w : Int32) : Int32 := if (0 ≤ p ∧ p ≤ R 3 - 1) ∧ (nI 0 ≤ w ∧ w ≤ nI 8) then S_cabT R (nn p) (nn w) else S_BAD
theorem c_X12_cabinetTold {d n : Nat} {mem : am_M} {Q : am_P} (hw : wfR (mem 222)) (hT : wfTs (mem 222)) (p w : Int32) (hQ : ∀ m2 : am_M, (∀ q, q ≠ 232 → q ≠ 233 → m2 q = mem q) → Q (some (.int (X_cabTold (mem 222) p w))) (am_SK n) m2) : am_ex (d + 8) 164 [.ref 221, .int p, .int w] (am_SK n) mem Q := by
  have hr3 : nn (mem 222 3) < 4 := hw.2.1.1.2
  unfold X_cabTold at hQ
  refine ex_in (c0 := kc_X12_cabinetTold) rfl (L := [some (.ref 221), some (.int p), some (.int w)]) rfl ?_
  refine ev_aload rfl rfl ?_
  refine ev_iload rfl rfl ?_
  refine ev_call rfl rfl ?_
  refine c_X12_isCab _ ?_
  change am_ev _ _ _ _ (_ :: _) _ _ _
  refine ev_if_eq (p2 := 18) rfl rfl (fun cnd5 => ?_) (fun cnd5 => ?_)
  · skip
    refine ev_iconst (x := (-1000000001)) rfl rfl ?_
    refine ev_iret rfl ?_
    first
    | (rw [if_neg (fun z => am_b0.mp cnd5 z.1)] at hQ; exact hQ mem (fun _ _ _ => rfl))
    | (rw [if_neg (fun z => am_b0.mp cnd15 z.2)] at hQ; exact hQ mem (fun _ _ _ => rfl))
  · skip
    refine ev_iload rfl rfl ?_
    refine ev_iconst (x := nI 0) rfl rfl ?_
    refine ev_iconst (x := nI 8) rfl rfl ?_
    refine ev_call rfl rfl ?_
    refine c_X12_in _ _ _ ?_
    change am_ev _ _ _ _ (_ :: _) _ _ _
    refine ev_if_ne (p2 := 21) rfl rfl (fun cnd15 => ?_) (fun cnd15 => ?_)
    · skip
      refine ev_iload rfl rfl ?_
      rw [if_pos (And.intro (am_bn0.mp cnd5) (am_bn0.mp cnd15))] at hQ
      obtain ⟨ep, hp⟩ := am_idx hw.2.1.1.1 (by omega) (am_bn0.mp cnd5)
      obtain ⟨ew, hw8⟩ := am_rng (by decide) (am_bn0.mp cnd15)
      clear cnd5 cnd15
      generalize nn p = c at ep hp hQ
      generalize nn w = a at ew hw8 hQ
      subst ep
      subst ew
      rcases (show a = 0 ∨ a = 1 ∨ a = 2 ∨ a = 3 ∨ a = 4 ∨ a = 5 ∨ a = 6 ∨ a = 7 ∨ a = 8 by omega) with rfl | rfl | rfl | rfl | rfl | rfl | rfl | rfl | rfl
      · refine ev_tswC (p2 := 98) rfl (by first | rfl | decide) rfl ?_
        refine ev_aload rfl rfl ?_
        refine ev_iload rfl rfl ?_
        refine ev_iload rfl rfl ?_
        refine ev_call rfl rfl ?_
        refine c_X12_cab6 (a := c) (w := 0) (by omega) ?_
        change am_ev _ _ _ _ (_ :: _) _ _ _
        refine ev_iret rfl ?_
        exact hQ mem (fun _ _ _ => rfl)
      · refine ev_tswC (p2 := 98) rfl (by first | rfl | decide) rfl ?_
        refine ev_aload rfl rfl ?_
        refine ev_iload rfl rfl ?_
        refine ev_iload rfl rfl ?_
        refine ev_call rfl rfl ?_
        refine c_X12_cab6 (a := c) (w := 1) (by omega) ?_
        change am_ev _ _ _ _ (_ :: _) _ _ _
        refine ev_iret rfl ?_
        exact hQ mem (fun _ _ _ => rfl)
      · refine ev_tswC (p2 := 98) rfl (by first | rfl | decide) rfl ?_
        refine ev_aload rfl rfl ?_
        refine ev_iload rfl rfl ?_
        refine ev_iload rfl rfl ?_
        refine ev_call rfl rfl ?_
        refine c_X12_cab6 (a := c) (w := 2) (by omega) ?_
        change am_ev _ _ _ _ (_ :: _) _ _ _
        refine ev_iret rfl ?_
        exact hQ mem (fun _ _ _ => rfl)
      · refine ev_tswC (p2 := 98) rfl (by first | rfl | decide) rfl ?_
        refine ev_aload rfl rfl ?_
        refine ev_iload rfl rfl ?_
        refine ev_iload rfl rfl ?_
        refine ev_call rfl rfl ?_
        refine c_X12_cab6 (a := c) (w := 3) (by omega) ?_
        change am_ev _ _ _ _ (_ :: _) _ _ _
        refine ev_iret rfl ?_
        exact hQ mem (fun _ _ _ => rfl)
      · refine ev_tswC (p2 := 56) rfl (by first | rfl | decide) rfl ?_
        refine ev_aload rfl rfl ?_
        refine ev_iload rfl rfl ?_
        refine ev_call rfl rfl ?_
        refine c_X12_isNight hw c hp ?_
        change am_ev _ _ _ _ (_ :: _) _ _ _
        refine ev_if_eq (p2 := 68) rfl rfl (fun cnd61 => ?_) (fun cnd61 => ?_)
        · skip
          refine ev_iconst (x := nI 0) rfl rfl ?_
          refine ev_iret rfl ?_
          have hz := hQ mem (fun _ _ _ => rfl)
          change Q (some (.int (ob (S_night (mem 222) c)))) _ _ at hz
          first
          | (rw [obn0.mp cnd61] at hz; exact hz)
          | (rw [ob0.mp cnd61] at hz; exact hz)
        · skip
          refine ev_iconst (x := nI 1) rfl rfl ?_
          refine ev_goto (p2 := 69) rfl rfl ?_
          refine ev_iret rfl ?_
          have hz := hQ mem (fun _ _ _ => rfl)
          change Q (some (.int (ob (S_night (mem 222) c)))) _ _ at hz
          first
          | (rw [obn0.mp cnd61] at hz; exact hz)
          | (rw [ob0.mp cnd61] at hz; exact hz)
      · refine ev_tswC (p2 := 70) rfl (by first | rfl | decide) rfl ?_
        refine ev_aload rfl rfl ?_
        refine ev_iload rfl rfl ?_
        refine ev_iconst (x := nI 4) rfl rfl ?_
        refine ev_call rfl rfl ?_
        refine c_X12_cab6 (a := c) (w := 4) (by omega) ?_
        change am_ev _ _ _ _ (_ :: _) _ _ _
        refine ev_iret rfl ?_
        exact hQ mem (fun _ _ _ => rfl)
      · refine ev_tswC (p2 := 77) rfl (by first | rfl | decide) rfl ?_
        refine ev_aload rfl rfl ?_
        refine ev_iload rfl rfl ?_
        refine ev_iconst (x := nI 0) rfl rfl ?_
        refine ev_call rfl rfl ?_
        refine c_X12_drawnBy hw hT _ _ (fun m2 h2 => ?_)
        change am_ev _ _ _ _ (_ :: _) _ _ _
        refine ev_iret rfl ?_
        exact hQ m2 h2
      · refine ev_tswC (p2 := 84) rfl (by first | rfl | decide) rfl ?_
        refine ev_aload rfl rfl ?_
        refine ev_iload rfl rfl ?_
        refine ev_iconst (x := nI 1) rfl rfl ?_
        refine ev_call rfl rfl ?_
        refine c_X12_drawnBy hw hT _ _ (fun m2 h2 => ?_)
        change am_ev _ _ _ _ (_ :: _) _ _ _
        refine ev_iret rfl ?_
        exact hQ m2 h2
      · refine ev_tswC (p2 := 91) rfl (by first | rfl | decide) rfl ?_
        refine ev_aload rfl rfl ?_
        refine ev_iload rfl rfl ?_
        refine ev_iconst (x := nI 5) rfl rfl ?_
        refine ev_call rfl rfl ?_
        refine c_X12_cab6 (a := c) (w := 5) (by omega) ?_
        change am_ev _ _ _ _ (_ :: _) _ _ _
        refine ev_iret rfl ?_
        exact hQ mem (fun _ _ _ => rfl)
    · skip
      refine ev_iconst (x := (-1000000001)) rfl rfl ?_
      refine ev_iret rfl ?_
      first
      | (rw [if_neg (fun z => am_b0.mp cnd5 z.1)] at hQ; exact hQ mem (fun _ _ _ => rfl))
      | (rw [if_neg (fun z => am_b0.mp cnd15 z.2)] at hQ; exact hQ mem (fun _ _ _ => rfl))
