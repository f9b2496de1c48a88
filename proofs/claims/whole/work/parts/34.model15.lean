/-! the reference: breaks, mend -/
theorem S_brk_at {R : am_R} (hw : wfR R) (w p : Int32) : S_brk R w p = -1 ∨ ∃ i, S_brk R w p = nI i ∧ i < 1561 := by
  have hr3 : nn (R 3) < 4 := hw.2.1.1.2
  have hr4 : nn (R 4) < 13 := hw.2.1.2.1.2
  have hr5 : nn (R 5) < 17 := hw.2.1.2.2.1.2
  unfold S_brk
  split
  · split
    · rename_i h
      obtain ⟨ep, hp⟩ := am_idx hw.2.1.1.1 (by omega) h
      refine Or.inr ⟨23 + 6 * nn p + 4, ?_, by omega⟩
      rw [← nI_add, ← nI_add, ← pk_mul, ← ep]
    · exact Or.inl rfl
  · split
    · split
      · rename_i h
        obtain ⟨ep, hp⟩ := am_idx hw.2.1.2.1.1 (by omega) h
        refine Or.inr ⟨41 + 3 * nn p + 2, ?_, by omega⟩
        rw [← nI_add, ← nI_add, ← pk_mul, ← ep]
      · exact Or.inl rfl
    · split
      · rename_i h
        obtain ⟨ep, hp⟩ := am_idx hw.2.1.2.2.1.1 (by omega) h.2
        refine Or.inr ⟨77 + 7 * nn p + 5, ?_, by omega⟩
        rw [← nI_add, ← nI_add, ← pk_mul, ← ep]
      · exact Or.inl rfl
theorem c_X12_breaks {d n : Nat} {mem : am_M} {Q : am_P} (hw : wfR (mem 222)) (w p : Int32) (hQ1 : S_brk (mem 222) w p = -1 → Q (some (.int S_BAD)) (am_SK n) mem) (hQ : ∀ i, S_brk (mem 222) w p = nI i → i < 1561 → Q (some (.int (nI 1 - mem 222 i))) (am_SK n) (am_up mem 222 i (nI 1))) : am_ex (d + 4) 175 [.ref 221, .int w, .int p] (am_SK n) mem Q := by
  refine ex_in (c0 := kc_X12_breaks) rfl (L := [some (.ref 221), some (.int w), some (.int p), none, none]) rfl ?_
  rcases S_brk_at hw w p with hb | ⟨i, hb, hi⟩
  · skip
    refine ev_aload rfl rfl ?_
    refine ev_iload rfl rfl ?_
    refine ev_iload rfl rfl ?_
    refine ev_call rfl rfl ?_
    refine c_X12_brokenAt _ _ ?_
    rw [hb]
    change am_ev _ _ _ _ (_ :: _) _ _ _
    refine ev_istore rfl rfl (Nat.le_of_ble_eq_true rfl) ?_
    refine ev_iload rfl rfl ?_
    refine ev_if_ge (p2 := 14) rfl rfl (fun cnd8 => ?_) (fun cnd8 => ?_)
    · exact absurd cnd8 (by decide)
    · skip
      refine ev_iconst (x := (-1000000001)) rfl rfl ?_
      refine ev_iret rfl ?_
      exact hQ1 hb
  · skip
    refine ev_aload rfl rfl ?_
    refine ev_iload rfl rfl ?_
    refine ev_iload rfl rfl ?_
    refine ev_call rfl rfl ?_
    refine c_X12_brokenAt _ _ ?_
    rw [hb]
    change am_ev _ _ _ _ (_ :: _) _ _ _
    refine ev_istore rfl rfl (Nat.le_of_ble_eq_true rfl) ?_
    refine ev_iload rfl rfl ?_
    refine ev_if_ge (p2 := 14) rfl rfl (fun cnd8 => ?_) (fun cnd8 => ?_)
    · skip
      refine ev_aload rfl rfl ?_
      refine ev_getR (c := 12) (j := 0) rfl ?_ (hq := k_221 n)
      refine ev_iload rfl rfl ?_
      refine ev_ialdN rfl (m := i) (rfl) ?_ (hq := k_222 n)
      refine ev_istore rfl rfl (Nat.le_of_ble_eq_true rfl) ?_
      refine ev_aload rfl rfl ?_
      refine ev_getR (c := 12) (j := 0) rfl ?_ (hq := k_221 n)
      refine ev_iload rfl rfl ?_
      refine ev_iconst (x := nI 1) rfl rfl ?_
      refine ev_iastN rfl (m := i) (rfl) ?_ (hq := k_222 n)
      refine ev_iconst (x := nI 1) rfl rfl ?_
      refine ev_iload rfl rfl ?_
      refine ev_isub rfl ?_
      refine ev_iret rfl ?_
      exact hQ i hb hi
    · exact absurd (nI_pos' (by omega)) cnd8
theorem c_X12_mend {d n : Nat} {mem : am_M} {Q : am_P} (hw : wfR (mem 222)) (w p : Int32) (hQ1 : S_brk (mem 222) w p = -1 → Q (some (.int S_BAD)) (am_SK n) mem) (hQ : ∀ i, S_brk (mem 222) w p = nI i → i < 1561 → Q (some (.int (mem 222 i))) (am_SK n) (am_up mem 222 i (nI 0))) : am_ex (d + 4) 176 [.ref 221, .int w, .int p] (am_SK n) mem Q := by
  refine ex_in (c0 := kc_X12_mend) rfl (L := [some (.ref 221), some (.int w), some (.int p), none, none]) rfl ?_
  rcases S_brk_at hw w p with hb | ⟨i, hb, hi⟩
  · skip
    refine ev_aload rfl rfl ?_
    refine ev_iload rfl rfl ?_
    refine ev_iload rfl rfl ?_
    refine ev_call rfl rfl ?_
    refine c_X12_brokenAt _ _ ?_
    rw [hb]
    change am_ev _ _ _ _ (_ :: _) _ _ _
    refine ev_istore rfl rfl (Nat.le_of_ble_eq_true rfl) ?_
    refine ev_iload rfl rfl ?_
    refine ev_if_ge (p2 := 14) rfl rfl (fun cnd8 => ?_) (fun cnd8 => ?_)
    · exact absurd cnd8 (by decide)
    · skip
      refine ev_iconst (x := (-1000000001)) rfl rfl ?_
      refine ev_iret rfl ?_
      exact hQ1 hb
  · skip
    refine ev_aload rfl rfl ?_
    refine ev_iload rfl rfl ?_
    refine ev_iload rfl rfl ?_
    refine ev_call rfl rfl ?_
    refine c_X12_brokenAt _ _ ?_
    rw [hb]
    change am_ev _ _ _ _ (_ :: _) _ _ _
    refine ev_istore rfl rfl (Nat.le_of_ble_eq_true rfl) ?_
    refine ev_iload rfl rfl ?_
    refine ev_if_ge (p2 := 14) rfl rfl (fun cnd8 => ?_) (fun cnd8 => ?_)
    · skip
      refine ev_aload rfl rfl ?_
      refine ev_getR (c := 12) (j := 0) rfl ?_ (hq := k_221 n)
      refine ev_iload rfl rfl ?_
      refine ev_ialdN rfl (m := i) (rfl) ?_ (hq := k_222 n)
      refine ev_istore rfl rfl (Nat.le_of_ble_eq_true rfl) ?_
      refine ev_aload rfl rfl ?_
      refine ev_getR (c := 12) (j := 0) rfl ?_ (hq := k_221 n)
      refine ev_iload rfl rfl ?_
      refine ev_iconst (x := nI 0) rfl rfl ?_
      refine ev_iastN rfl (m := i) (rfl) ?_ (hq := k_222 n)
      refine ev_iload rfl rfl ?_
      refine ev_iret rfl ?_
      exact hQ i hb hi
    · exact absurd (nI_pos' (by omega)) cnd8
