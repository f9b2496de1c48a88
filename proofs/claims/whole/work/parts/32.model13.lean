/-! the reference: feast, trim, isUnder -/
theorem c_X12_feast {d n : Nat} {mem : am_M} {Q : am_P} (v : Int32) (hQ1 : ¬ (nI 1 ≤ v ∧ v ≤ nI 99) → Q (some (.int S_BAD)) (am_SK n) mem) (hQ : (nI 1 ≤ v ∧ v ≤ nI 99) → Q (some (.int (mem 222 2))) (am_SK n) (am_up mem 222 2 v)) : am_ex (d + 2) 173 [.ref 221, .int v] (am_SK n) mem Q := by
  refine ex_in (c0 := kc_X12_feast) rfl (L := [some (.ref 221), some (.int v), none]) rfl ?_
  refine ev_iload rfl rfl ?_
  refine ev_iconst (x := nI 1) rfl rfl ?_
  refine ev_iconst (x := nI 99) rfl rfl ?_
  refine ev_call rfl rfl ?_
  refine c_X12_in _ _ _ ?_
  change am_ev _ _ _ _ (_ :: _) _ _ _
  refine ev_if_ne (p2 := 13) rfl rfl (fun cnd7 => ?_) (fun cnd7 => ?_)
  · skip
    refine ev_aload rfl rfl ?_
    refine ev_getR (c := 12) (j := 0) rfl ?_ (hq := k_221 n)
    refine ev_iconst (x := nI 2) rfl rfl ?_
    refine ev_ialdN rfl (m := 2) (rfl) ?_ (hq := k_222 n)
    refine ev_istore rfl rfl (Nat.le_of_ble_eq_true rfl) ?_
    refine ev_aload rfl rfl ?_
    refine ev_getR (c := 12) (j := 0) rfl ?_ (hq := k_221 n)
    refine ev_iconst (x := nI 2) rfl rfl ?_
    refine ev_iload rfl rfl ?_
    refine ev_iastN rfl (m := 2) (rfl) ?_ (hq := k_222 n)
    refine ev_iload rfl rfl ?_
    refine ev_iret rfl ?_
    exact hQ (am_bn0.mp cnd7)
  · skip
    refine ev_iconst (x := (-1000000001)) rfl rfl ?_
    refine ev_iret rfl ?_
    exact hQ1 (am_b0.mp cnd7)
theorem c_X12_trim {d n : Nat} {mem : am_M} {Q : am_P} (v : Int32) (hQ1 : ¬ (nI 0 ≤ v ∧ v ≤ mem 221 6) → Q (some (.int S_BAD)) (am_SK n) mem) (hQ : (nI 0 ≤ v ∧ v ≤ mem 221 6) → Q (some (.int v)) (am_SK n) (am_up mem 221 6 v)) : am_ex (d + 2) 184 [.ref 221, .int v] (am_SK n) mem Q := by
  refine ex_in (c0 := kc_X12_trim) rfl (L := [some (.ref 221), some (.int v)]) rfl ?_
  refine ev_iload rfl rfl ?_
  refine ev_iconst (x := nI 0) rfl rfl ?_
  refine ev_aload rfl rfl ?_
  refine ev_getI (c := 12) (j := 6) rfl ?_ (hq := k_221 n)
  refine ev_call rfl rfl ?_
  refine c_X12_in _ _ _ ?_
  change am_ev _ _ _ _ (_ :: _) _ _ _
  refine ev_if_ne (p2 := 15) rfl rfl (fun cnd9 => ?_) (fun cnd9 => ?_)
  · skip
    refine ev_aload rfl rfl ?_
    refine ev_iload rfl rfl ?_
    refine ev_put (c := 12) (j := 6) rfl ?_ (hq := k_221 n)
    refine ev_iload rfl rfl ?_
    refine ev_iret rfl ?_
    exact hQ (am_bn0.mp cnd9)
  · skip
    refine ev_iconst (x := (-1000000001)) rfl rfl ?_
    refine ev_iret rfl ?_
    exact hQ1 (am_b0.mp cnd9)
theorem c_X12_isUnder {d n : Nat} {mem : am_M} {Q : am_P} (a b : Int32) (hQ : Q (some (.int (am_b (b = 0 ∨ a = b ∨ (b = nI 1 ∧ a = nI 3) ∨ (b = nI 2 ∧ a = nI 4))))) (am_SK n) mem) : am_ex (d + 1) 170 [.int a, .int b] (am_SK n) mem Q := by
  refine ex_in (c0 := kc_X12_isUnder) rfl (L := [some (.int a), some (.int b)]) rfl ?_
  refine ev_iload rfl rfl ?_
  refine ev_if_eq (p2 := 29) rfl rfl (fun cnd1 => ?_) (fun cnd1 => ?_)
  · skip
    refine ev_iconst (x := nI 1) rfl rfl ?_
    refine ev_goto (p2 := 34) rfl rfl ?_
    refine ev_zret rfl ?_
    refine am_leaf hQ ?_
    first
    | (rw [am_bt (by simp_all)]; rfl)
    | (rw [am_bf (by simp_all)]; rfl)
  · skip
    refine ev_iload rfl rfl ?_
    refine ev_iload rfl rfl ?_
    refine ev_icmp_eq (p2 := 29) rfl rfl (fun cnd6 => ?_) (fun cnd6 => ?_)
    · skip
      refine ev_iconst (x := nI 1) rfl rfl ?_
      refine ev_goto (p2 := 34) rfl rfl ?_
      refine ev_zret rfl ?_
      refine am_leaf hQ ?_
      first
      | (rw [am_bt (by simp_all)]; rfl)
      | (rw [am_bf (by simp_all)]; rfl)
    · skip
      refine ev_iload rfl rfl ?_
      refine ev_iconst (x := nI 1) rfl rfl ?_
      refine ev_icmp_ne (p2 := 19) rfl rfl (fun cnd11 => ?_) (fun cnd11 => ?_)
      · skip
        refine ev_iload rfl rfl ?_
        refine ev_iconst (x := nI 2) rfl rfl ?_
        refine ev_icmp_ne (p2 := 33) rfl rfl (fun cnd21 => ?_) (fun cnd21 => ?_)
        · skip
          refine ev_iconst (x := nI 0) rfl rfl ?_
          refine ev_zret rfl ?_
          refine am_leaf hQ ?_
          first
          | (rw [am_bt (by simp_all)]; rfl)
          | (rw [am_bf (by simp_all)]; rfl)
        · skip
          refine ev_iload rfl rfl ?_
          refine ev_iconst (x := nI 4) rfl rfl ?_
          refine ev_icmp_ne (p2 := 33) rfl rfl (fun cnd26 => ?_) (fun cnd26 => ?_)
          · skip
            refine ev_iconst (x := nI 0) rfl rfl ?_
            refine ev_zret rfl ?_
            refine am_leaf hQ ?_
            first
            | (rw [am_bt (by simp_all)]; rfl)
            | (rw [am_bf (by simp_all)]; rfl)
          · skip
            refine ev_iconst (x := nI 1) rfl rfl ?_
            refine ev_goto (p2 := 34) rfl rfl ?_
            refine ev_zret rfl ?_
            refine am_leaf hQ ?_
            first
            | (rw [am_bt (by simp_all)]; rfl)
            | (rw [am_bf (by simp_all)]; rfl)
      · skip
        refine ev_iload rfl rfl ?_
        refine ev_iconst (x := nI 3) rfl rfl ?_
        refine ev_icmp_eq (p2 := 29) rfl rfl (fun cnd16 => ?_) (fun cnd16 => ?_)
        · skip
          refine ev_iconst (x := nI 1) rfl rfl ?_
          refine ev_goto (p2 := 34) rfl rfl ?_
          refine ev_zret rfl ?_
          refine am_leaf hQ ?_
          first
          | (rw [am_bt (by simp_all)]; rfl)
          | (rw [am_bf (by simp_all)]; rfl)
        · skip
          refine ev_iload rfl rfl ?_
          refine ev_iconst (x := nI 2) rfl rfl ?_
          refine ev_icmp_ne (p2 := 33) rfl rfl (fun cnd21 => ?_) (fun cnd21 => ?_)
          · skip
            refine ev_iconst (x := nI 0) rfl rfl ?_
            refine ev_zret rfl ?_
            refine am_leaf hQ ?_
            first
            | (rw [am_bt (by simp_all)]; rfl)
            | (rw [am_bf (by simp_all)]; rfl)
          · skip
            refine ev_iload rfl rfl ?_
            refine ev_iconst (x := nI 4) rfl rfl ?_
            refine ev_icmp_ne (p2 := 33) rfl rfl (fun cnd26 => ?_) (fun cnd26 => ?_)
            · skip
              refine ev_iconst (x := nI 0) rfl rfl ?_
              refine ev_zret rfl ?_
              refine am_leaf hQ ?_
              first
              | (rw [am_bt (by simp_all)]; rfl)
              | (rw [am_bf (by simp_all)]; rfl)
            · skip
              refine ev_iconst (x := nI 1) rfl rfl ?_
              refine ev_goto (p2 := 34) rfl rfl ?_
              refine ev_zret rfl ?_
              refine am_leaf hQ ?_
              first
              | (rw [am_bt (by simp_all)]; rfl)
              | (rw [am_bf (by simp_all)]; rfl)
