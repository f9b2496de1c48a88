/-! the reference: what its row holds, and its small methods -/
abbrev am_R : Type := Nat → Int32
def nn (x : Int32) : Nat := x.toNatClampNeg
theorem nn_nI {a : Nat} (h : a < 2 ^ 31) : nn (nI a) = a := nI_clamp h
theorem c_X12_in {d n : Nat} {mem : am_M} {Q : am_P} (v a b : Int32) (hQ : Q (some (.int (am_b (a ≤ v ∧ v ≤ b)))) (am_SK n) mem) : am_ex (d + 1) 143 [.int v, .int a, .int b] (am_SK n) mem Q := by
  refine ex_in (c0 := kc_X12_in) rfl (L := [some (.int v), some (.int a), some (.int b)]) rfl ?_
  refine ev_iload rfl rfl ?_
  refine ev_iload rfl rfl ?_
  refine ev_icmp_lt (p2 := 14) rfl rfl (fun cnd2 => ?_) (fun cnd2 => ?_)
  · skip
    refine ev_iconst (x := 0) rfl rfl ?_
    refine ev_zret rfl ?_
    refine am_leaf hQ ?_
    simp only [am_b, Int32.lt_iff_toInt_lt, Int32.le_iff_toInt_le] at *
    split <;> first | rfl | (exfalso; omega)
  · skip
    refine ev_iload rfl rfl ?_
    refine ev_iload rfl rfl ?_
    refine ev_icmp_gt (p2 := 14) rfl rfl (fun cnd7 => ?_) (fun cnd7 => ?_)
    · skip
      refine ev_iconst (x := 0) rfl rfl ?_
      refine ev_zret rfl ?_
      refine am_leaf hQ ?_
      simp only [am_b, Int32.lt_iff_toInt_lt, Int32.le_iff_toInt_le] at *
      split <;> first | rfl | (exfalso; omega)
    · skip
      refine ev_iconst (x := 1) rfl rfl ?_
      refine ev_goto (p2 := 15) rfl rfl ?_
      refine ev_zret rfl ?_
      refine am_leaf hQ ?_
      simp only [am_b, Int32.lt_iff_toInt_lt, Int32.le_iff_toInt_le] at *
      split <;> first | rfl | (exfalso; omega)
theorem c_X12_within {d n : Nat} {mem : am_M} {Q : am_P} (v a b : Int32) (hQ : Q (some (.int (if v < a then a else if b < v then b else v))) (am_SK n) mem) : am_ex (d + 1) 144 [.int v, .int a, .int b] (am_SK n) mem Q := by
  refine ex_in (c0 := kc_X12_within) rfl (L := [some (.int v), some (.int a), some (.int b)]) rfl ?_
  refine ev_iload rfl rfl ?_
  refine ev_iload rfl rfl ?_
  refine ev_icmp_ge (p2 := 9) rfl rfl (fun cnd2 => ?_) (fun cnd2 => ?_)
  · skip
    refine ev_iload rfl rfl ?_
    refine ev_iload rfl rfl ?_
    refine ev_icmp_le (p2 := 18) rfl rfl (fun cnd11 => ?_) (fun cnd11 => ?_)
    · skip
      refine ev_iload rfl rfl ?_
      refine ev_iret rfl ?_
      refine am_leaf hQ ?_
      simp only [Int32.lt_iff_toInt_lt, Int32.le_iff_toInt_le] at *
      repeat' split
      all_goals first | rfl | (exfalso; omega)
    · skip
      refine ev_iload rfl rfl ?_
      refine ev_goto (p2 := 19) rfl rfl ?_
      refine ev_iret rfl ?_
      refine am_leaf hQ ?_
      simp only [Int32.lt_iff_toInt_lt, Int32.le_iff_toInt_le] at *
      repeat' split
      all_goals first | rfl | (exfalso; omega)
  · skip
    refine ev_iload rfl rfl ?_
    refine ev_goto (p2 := 19) rfl rfl ?_
    refine ev_iret rfl ?_
    refine am_leaf hQ ?_
    simp only [Int32.lt_iff_toInt_lt, Int32.le_iff_toInt_le] at *
    repeat' split
    all_goals first | rfl | (exfalso; omega)
theorem c_X12_isPlace {d n : Nat} {mem : am_M} {Q : am_P} (p : Int32) (hQ : Q (some (.int (am_b (0 ≤ p ∧ p / 100 ≤ 30 ∧ p - p / 100 * 100 ≤ 30)))) (am_SK n) mem) : am_ex (d + 1) 149 [.int p] (am_SK n) mem Q := by
  refine ex_in (c0 := kc_X12_isPlace) rfl (L := [some (.int p)]) rfl ?_
  refine ev_iload rfl rfl ?_
  refine ev_if_lt (p2 := 26) rfl rfl (fun cnd1 => ?_) (fun cnd1 => ?_)
  · skip
    refine ev_iconst (x := 0) rfl rfl ?_
    refine ev_zret rfl ?_
    refine am_leaf hQ ?_
    simp only [am_b, Int32.lt_iff_toInt_lt, Int32.le_iff_toInt_le] at *
    split <;> first | rfl | (exfalso; omega)
  · skip
    refine ev_iload rfl rfl ?_
    refine ev_iconst (x := 100) rfl rfl ?_
    refine ev_idiv rfl ?_
    refine ev_iconst (x := 30) rfl rfl ?_
    refine ev_icmp_gt (p2 := 26) rfl rfl (fun cnd10 => ?_) (fun cnd10 => ?_)
    · skip
      refine ev_iconst (x := 0) rfl rfl ?_
      refine ev_zret rfl ?_
      refine am_leaf hQ ?_
      simp only [am_b, Int32.lt_iff_toInt_lt, Int32.le_iff_toInt_le] at *
      split <;> first | rfl | (exfalso; omega)
    · skip
      refine ev_iload rfl rfl ?_
      refine ev_iconst (x := 100) rfl rfl ?_
      refine ev_irem rfl ?_
      refine ev_iconst (x := 30) rfl rfl ?_
      refine ev_icmp_gt (p2 := 26) rfl rfl (fun cnd19 => ?_) (fun cnd19 => ?_)
      · skip
        refine ev_iconst (x := 0) rfl rfl ?_
        refine ev_zret rfl ?_
        refine am_leaf hQ ?_
        simp only [am_b, Int32.lt_iff_toInt_lt, Int32.le_iff_toInt_le] at *
        split <;> first | rfl | (exfalso; omega)
      · skip
        refine ev_iconst (x := 1) rfl rfl ?_
        refine ev_goto (p2 := 27) rfl rfl ?_
        refine ev_zret rfl ?_
        refine am_leaf hQ ?_
        simp only [am_b, Int32.lt_iff_toInt_lt, Int32.le_iff_toInt_le] at *
        split <;> first | rfl | (exfalso; omega)
theorem c_X12_isCab {d n : Nat} {mem : am_M} {Q : am_P} (p : Int32) (hQ : Q (some (.int (am_b (0 ≤ p ∧ p ≤ mem 222 3 - 1)))) (am_SK n) mem) : am_ex (d + 2) 146 [.ref 221, .int p] (am_SK n) mem Q := by
  refine ex_in (c0 := kc_X12_isCab) rfl (L := [some (.ref 221), some (.int p)]) rfl ?_
  refine ev_iload rfl rfl ?_
  refine ev_iconst (x := 0) rfl rfl ?_
  refine ev_aload rfl rfl ?_
  refine ev_getR (c := 12) (j := 0) rfl ?_ (hq := k_221 n)
  refine ev_iconst (x := 3) rfl rfl ?_
  refine ev_iald rfl ?_ (hq := k_222 n)
  refine ev_iconst (x := 1) rfl rfl ?_
  refine ev_isub rfl ?_
  refine ev_call rfl rfl ?_
  refine c_X12_in _ _ _ ?_
  change am_ev _ _ _ _ (_ :: _) _ _ _
  refine ev_zret rfl ?_
  exact hQ
theorem c_X12_isJoint {d n : Nat} {mem : am_M} {Q : am_P} (p : Int32) (hQ : Q (some (.int (am_b (0 ≤ p ∧ p ≤ mem 222 4 - 1)))) (am_SK n) mem) : am_ex (d + 2) 147 [.ref 221, .int p] (am_SK n) mem Q := by
  refine ex_in (c0 := kc_X12_isJoint) rfl (L := [some (.ref 221), some (.int p)]) rfl ?_
  refine ev_iload rfl rfl ?_
  refine ev_iconst (x := 0) rfl rfl ?_
  refine ev_aload rfl rfl ?_
  refine ev_getR (c := 12) (j := 0) rfl ?_ (hq := k_221 n)
  refine ev_iconst (x := 4) rfl rfl ?_
  refine ev_iald rfl ?_ (hq := k_222 n)
  refine ev_iconst (x := 1) rfl rfl ?_
  refine ev_isub rfl ?_
  refine ev_call rfl rfl ?_
  refine c_X12_in _ _ _ ?_
  change am_ev _ _ _ _ (_ :: _) _ _ _
  refine ev_zret rfl ?_
  exact hQ
theorem c_X12_isLamp {d n : Nat} {mem : am_M} {Q : am_P} (p : Int32) (hQ : Q (some (.int (am_b (0 ≤ p ∧ p ≤ mem 222 5 - 1)))) (am_SK n) mem) : am_ex (d + 2) 148 [.ref 221, .int p] (am_SK n) mem Q := by
  refine ex_in (c0 := kc_X12_isLamp) rfl (L := [some (.ref 221), some (.int p)]) rfl ?_
  refine ev_iload rfl rfl ?_
  refine ev_iconst (x := 0) rfl rfl ?_
  refine ev_aload rfl rfl ?_
  refine ev_getR (c := 12) (j := 0) rfl ?_ (hq := k_221 n)
  refine ev_iconst (x := 5) rfl rfl ?_
  refine ev_iald rfl ?_ (hq := k_222 n)
  refine ev_iconst (x := 1) rfl rfl ?_
  refine ev_isub rfl ?_
  refine ev_call rfl rfl ?_
  refine c_X12_in _ _ _ ?_
  change am_ev _ _ _ _ (_ :: _) _ _ _
  refine ev_zret rfl ?_
  exact hQ
theorem c_X12_cab6 {d n : Nat} {mem : am_M} {Q : am_P} (a w : Nat) (h : 23 + 6 * a + w < 1561) (hQ : Q (some (.int (mem 222 (23 + 6 * a + w)))) (am_SK n) mem) : am_ex (d + 1) 150 [.ref 221, .int (nI a), .int (nI w)] (am_SK n) mem Q := by
  refine ex_in (c0 := kc_X12_cab6) rfl (L := [some (.ref 221), some (.int (nI a)), some (.int (nI w))]) rfl ?_
  refine ev_aload rfl rfl ?_
  refine ev_getR (c := 12) (j := 0) rfl ?_ (hq := k_221 n)
  refine ev_iconst (x := nI 23) rfl rfl ?_
  refine ev_iconst (x := nI 6) rfl rfl ?_
  refine ev_iload rfl rfl ?_
  refine ev_imul rfl ?_
  refine ev_iadd rfl ?_
  refine ev_iload rfl rfl ?_
  refine ev_iadd rfl ?_
  refine ev_ialdN rfl (m := 23 + 6 * a + w) (by simp only [nI_add, pk_mul]) ?_ (hq := k_222 n)
  refine ev_iret rfl ?_
  exact hQ
theorem c_X12_joint3 {d n : Nat} {mem : am_M} {Q : am_P} (a w : Nat) (h : 41 + 3 * a + w < 1561) (hQ : Q (some (.int (mem 222 (41 + 3 * a + w)))) (am_SK n) mem) : am_ex (d + 1) 151 [.ref 221, .int (nI a), .int (nI w)] (am_SK n) mem Q := by
  refine ex_in (c0 := kc_X12_joint3) rfl (L := [some (.ref 221), some (.int (nI a)), some (.int (nI w))]) rfl ?_
  refine ev_aload rfl rfl ?_
  refine ev_getR (c := 12) (j := 0) rfl ?_ (hq := k_221 n)
  refine ev_iconst (x := nI 41) rfl rfl ?_
  refine ev_iconst (x := nI 3) rfl rfl ?_
  refine ev_iload rfl rfl ?_
  refine ev_imul rfl ?_
  refine ev_iadd rfl ?_
  refine ev_iload rfl rfl ?_
  refine ev_iadd rfl ?_
  refine ev_ialdN rfl (m := 41 + 3 * a + w) (by simp only [nI_add, pk_mul]) ?_ (hq := k_222 n)
  refine ev_iret rfl ?_
  exact hQ
theorem c_X12_lamp7 {d n : Nat} {mem : am_M} {Q : am_P} (a w : Nat) (h : 77 + 7 * a + w < 1561) (hQ : Q (some (.int (mem 222 (77 + 7 * a + w)))) (am_SK n) mem) : am_ex (d + 1) 152 [.ref 221, .int (nI a), .int (nI w)] (am_SK n) mem Q := by
  refine ex_in (c0 := kc_X12_lamp7) rfl (L := [some (.ref 221), some (.int (nI a)), some (.int (nI w))]) rfl ?_
  refine ev_aload rfl rfl ?_
  refine ev_getR (c := 12) (j := 0) rfl ?_ (hq := k_221 n)
  refine ev_iconst (x := nI 77) rfl rfl ?_
  refine ev_iconst (x := nI 7) rfl rfl ?_
  refine ev_iload rfl rfl ?_
  refine ev_imul rfl ?_
  refine ev_iadd rfl ?_
  refine ev_iload rfl rfl ?_
  refine ev_iadd rfl ?_
  refine ev_ialdN rfl (m := 77 + 7 * a + w) (by simp only [nI_add, pk_mul]) ?_ (hq := k_222 n)
  refine ev_iret rfl ?_
  exact hQ
/-- a small whole number in a place -/
def isN (x : Int32) (b : Nat) : Prop := x = nI (nn x) ∧ nn x < b
def wfC (R : am_R) (c : Nat) : Prop := isN (R (23 + 6 * c)) 3031 ∧ isN (R (23 + 6 * c + 1)) 24 ∧ isN (R (23 + 6 * c + 2)) 24 ∧ (-3 ≤ (R (23 + 6 * c + 3)).toInt ∧ (R (23 + 6 * c + 3)).toInt ≤ 3) ∧ isN (R (23 + 6 * c + 4)) 2 ∧ isN (R (23 + 6 * c + 5)) 100000000
def wfJ (R : am_R) (j : Nat) : Prop := (R (41 + 3 * j) = nI (nn (R (41 + 3 * j))) ∧ (nn (R (41 + 3 * j)) < j ∨ (100 ≤ nn (R (41 + 3 * j)) ∧ nn (R (41 + 3 * j)) < 100 + nn (R 3)))) ∧ isN (R (41 + 3 * j + 1)) 3031 ∧ isN (R (41 + 3 * j + 2)) 2
def wfL (R : am_R) (l : Nat) : Prop := isN (R (77 + 7 * l)) 6 ∧ isN (R (77 + 7 * l + 1)) (nn (R 4)) ∧ (isN (R (77 + 7 * l + 2)) 100 ∧ 1 ≤ nn (R (77 + 7 * l + 2))) ∧ isN (R (77 + 7 * l + 3)) 4 ∧ isN (R (77 + 7 * l + 4)) 30001 ∧ isN (R (77 + 7 * l + 5)) 2 ∧ isN (R (77 + 7 * l + 6)) 2
def wfR (R : am_R) : Prop := (isN (R 0) 24 ∧ isN (R 1) 5000 ∧ (isN (R 2) 100 ∧ 1 ≤ nn (R 2))) ∧ (isN (R 3) 4 ∧ isN (R 4) 13 ∧ isN (R 5) 17 ∧ isN (R 6) 15 ∧ isN (R 7) 9 ∧ isN (R 8) 7) ∧ (∀ c, c < nn (R 3) → wfC R c) ∧ (∀ j, j < nn (R 4) → wfJ R j) ∧ (∀ l, l < nn (R 5) → wfL R l) ∧ (∀ k, k < nn (R 7) → isN (R (9 + k)) (nn (R 5))) ∧ ∀ k, k < nn (R 8) → isN (R (17 + k)) (nn (R 4))
/-- the cabinet that feeds a joint -/
def S_cab (R : am_R) (j : Nat) : Nat := if h : nn (R (41 + 3 * j)) < j then S_cab R (nn (R (41 + 3 * j))) else nn (R (41 + 3 * j)) - 100
termination_by j
/-- nothing from a joint up to its cabinet is broken -/
def S_way (R : am_R) (j : Nat) : Bool := if R (41 + 3 * j + 2) = 1 then false else if h : nn (R (41 + 3 * j)) < j then S_way R (nn (R (41 + 3 * j))) else decide (R (23 + 6 * (nn (R (41 + 3 * j)) - 100) + 4) = 0)
termination_by j
theorem S_cab_lt {R : am_R} (h : wfR R) : ∀ j, j < nn (R 4) → S_cab R j < nn (R 3) := by
  intro j
  induction j using Nat.strongRecOn with
  | ind j ih =>
    intro hj
    unfold S_cab
    obtain ⟨⟨-, hf⟩, -⟩ := h.2.2.2.1 j hj
    split
    · exact ih _ (by assumption) (by omega)
    · omega
theorem l_X12_cabOf {d n : Nat} {mem : am_M} {Q : am_P} (hw : wfR (mem 222)) (j : Nat) (hj : j < nn (mem 222 4)) (x : Option Value) (hQ : Q (some (.int (nI (S_cab (mem 222) j)))) (am_SK n) mem) : am_ev kc_X12_cabOf (d + 1) 2 [some (.ref 221), x, some (.int (nI j))] [] (am_SK n) mem Q := by
  induction j using Nat.strongRecOn generalizing x with
  | ind j ih =>
    obtain ⟨⟨e1, hf⟩, -⟩ := hw.2.2.2.1 j hj
    have hr4 : nn (mem 222 4) < 13 := hw.2.1.2.1.2
    have hr3 : nn (mem 222 3) < 4 := hw.2.1.1.2
    generalize hfe : nn (mem 222 (41 + 3 * j)) = f at e1 hf
    refine ev_aload rfl rfl ?_
    refine ev_iload rfl rfl ?_
    refine ev_iconst (x := nI 0) rfl rfl ?_
    refine ev_call rfl rfl ?_
    refine c_X12_joint3 (a := j) (w := 0) (by omega) ?_
    rw [show mem 222 (41 + 3 * j + 0) = nI f from e1]
    change am_ev _ _ _ _ (_ :: _) _ _ _
    refine ev_iconst (x := nI 100) rfl rfl ?_
    refine ev_icmp_ge (p2 := 23) rfl rfl (fun cnd10 => ?_) (fun cnd10 => ?_)
    · skip
      refine ev_aload rfl rfl ?_
      refine ev_iload rfl rfl ?_
      refine ev_iconst (x := nI 0) rfl rfl ?_
      refine ev_call rfl rfl ?_
      refine c_X12_joint3 (a := j) (w := 0) (by omega) ?_
      rw [show mem 222 (41 + 3 * j + 0) = nI f from e1]
      change am_ev _ _ _ _ (_ :: _) _ _ _
      refine ev_iconst (x := nI 100) rfl rfl ?_
      refine ev_isub rfl ?_
      refine ev_iret rfl ?_
      have c2 : 100 ≤ f := (nI_leI (by omega) (by omega)).mp cnd10
      rw [S_cab, dif_neg (by rw [hfe]; omega), hfe] at hQ
      rw [pk_sub c2]
      exact hQ
    · skip
      refine ev_aload rfl rfl ?_
      refine ev_iload rfl rfl ?_
      refine ev_iconst (x := nI 0) rfl rfl ?_
      refine ev_call rfl rfl ?_
      refine c_X12_joint3 (a := j) (w := 0) (by omega) ?_
      rw [show mem 222 (41 + 3 * j + 0) = nI f from e1]
      change am_ev _ _ _ _ (_ :: _) _ _ _
      refine ev_istore rfl rfl (Nat.le_of_ble_eq_true rfl) ?_
      refine ev_goto (p2 := 2) rfl rfl ?_
      have c2 : ¬ 100 ≤ f := fun z => cnd10 ((nI_leI (by omega) (by omega)).mpr z)
      have hlt : f < j := by omega
      refine ih f hlt (by omega) _ ?_
      rw [S_cab, dif_pos (by rw [hfe]; exact hlt), hfe] at hQ
      exact hQ
