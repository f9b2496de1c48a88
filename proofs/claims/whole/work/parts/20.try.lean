/-! small methods, first try -/
theorem c_X12_in {d : Nat} {sk : am_K} {mem : am_M} {Q : am_P} (v a b : Int32) (hQ : Q (some (.int (am_b (a ≤ v ∧ v ≤ b)))) sk mem) : am_ex (d + 1) 143 [.int v, .int a, .int b] sk mem Q := by
  refine ex_in (c0 := kc_X12_in) rfl (L := [some (.int v), some (.int a), some (.int b)]) rfl ?_
  refine ev_iload rfl rfl ?_
  refine ev_iload rfl rfl ?_
  refine ev_icmp_lt (p2 := 14) rfl rfl (fun c1 => ?_) (fun c1 => ?_)
  · skip
    refine ev_iconst (x := 0) rfl rfl ?_
    refine ev_zret rfl ?_
    refine am_leaf hQ ?_
    simp only [am_b, Int32.lt_iff_toInt_lt, Int32.le_iff_toInt_le] at *
    split <;> first | rfl | (exfalso; omega)
  · skip
    refine ev_iload rfl rfl ?_
    refine ev_iload rfl rfl ?_
    refine ev_icmp_gt (p2 := 14) rfl rfl (fun c2 => ?_) (fun c2 => ?_)
    · skip
      refine ev_iconst (x := 0) rfl rfl ?_
      refine ev_zret rfl ?_
      refine am_leaf hQ ?_
      simp only [am_b, Int32.lt_iff_toInt_lt, Int32.le_iff_toInt_le] at *
      split <;> first | rfl | (exfalso; omega)
    · skip
      refine ev_iconst (x := 1) rfl rfl ?_
      refine ev_goto (p2 := 15) rfl rfl ?_
      refine ev_zret rfl ?_
      refine am_leaf hQ ?_
      simp only [am_b, Int32.lt_iff_toInt_lt, Int32.le_iff_toInt_le] at *
      split <;> first | rfl | (exfalso; omega)
theorem c_X12_isPlace {d : Nat} {sk : am_K} {mem : am_M} {Q : am_P} (p : Int32) (hQ : Q (some (.int (am_b (0 ≤ p ∧ p / 100 ≤ 30 ∧ p - p / 100 * 100 ≤ 30)))) sk mem) : am_ex (d + 1) 149 [.int p] sk mem Q := by
  refine ex_in (c0 := kc_X12_isPlace) rfl (L := [some (.int p)]) rfl ?_
  refine ev_iload rfl rfl ?_
  refine ev_if_lt (p2 := 26) rfl rfl (fun c1 => ?_) (fun c1 => ?_)
  · skip
    refine ev_iconst (x := 0) rfl rfl ?_
    refine ev_zret rfl ?_
    refine am_leaf hQ ?_
    simp only [am_b, Int32.lt_iff_toInt_lt, Int32.le_iff_toInt_le] at *
    split <;> first | rfl | (exfalso; omega)
  · skip
    refine ev_iload rfl rfl ?_
    refine ev_iconst (x := 100) rfl rfl ?_
    refine ev_idiv rfl ?_
    refine ev_iconst (x := 30) rfl rfl ?_
    refine ev_icmp_gt (p2 := 26) rfl rfl (fun c2 => ?_) (fun c2 => ?_)
    · skip
      refine ev_iconst (x := 0) rfl rfl ?_
      refine ev_zret rfl ?_
      refine am_leaf hQ ?_
      simp only [am_b, Int32.lt_iff_toInt_lt, Int32.le_iff_toInt_le] at *
      split <;> first | rfl | (exfalso; omega)
    · skip
      refine ev_iload rfl rfl ?_
      refine ev_iconst (x := 100) rfl rfl ?_
      refine ev_irem rfl ?_
      refine ev_iconst (x := 30) rfl rfl ?_
      refine ev_icmp_gt (p2 := 26) rfl rfl (fun c3 => ?_) (fun c3 => ?_)
      · skip
        refine ev_iconst (x := 0) rfl rfl ?_
        refine ev_zret rfl ?_
        refine am_leaf hQ ?_
        simp only [am_b, Int32.lt_iff_toInt_lt, Int32.le_iff_toInt_le] at *
        split <;> first | rfl | (exfalso; omega)
      · skip
        refine ev_iconst (x := 1) rfl rfl ?_
        refine ev_goto (p2 := 27) rfl rfl ?_
        refine ev_zret rfl ?_
        refine am_leaf hQ ?_
        simp only [am_b, Int32.lt_iff_toInt_lt, Int32.le_iff_toInt_le] at *
        split <;> first | rfl | (exfalso; omega)
theorem c_X12_isCab {d : Nat} {sk : am_K} {mem : am_M} {Q : am_P} {mo nw : Nat} {rs1 rs2 : List (Option Nat)} (p : Int32) (hmo : sk[mo]? = some (12, 44, some nw :: rs1)) (hnw : sk[nw]? = some (20, 1561, rs2)) (h29 : 29 ≤ mo) (hQ : Q (some (.int (am_b (0 ≤ p ∧ p ≤ mem nw 3 - 1)))) sk mem) : am_ex (d + 2) 146 [.ref mo, .int p] sk mem Q := by
  refine ex_in (c0 := kc_X12_isCab) rfl (L := [some (.ref mo), some (.int p)]) rfl ?_
  refine ev_iload rfl rfl ?_
  refine ev_iconst (x := 0) rfl rfl ?_
  refine ev_aload rfl rfl ?_
  refine ev_getR (c := 12) (j := 0) rfl ?_
  refine ev_iconst (x := 3) rfl rfl ?_
  refine ev_iald rfl ?_
  refine ev_iconst (x := 1) rfl rfl ?_
  refine ev_isub rfl ?_
  refine ev_call rfl rfl ?_
  refine c_X12_in _ _ _ ?_
  change am_ev _ _ _ _ (_ :: _) _ _ _
  refine ev_zret rfl ?_
  exact hQ
