/-! the class: its smallest methods -/
theorem am_pred {x p : Int32} {m : Nat} (hx : x = nI m) (hm : m < 2 ^ 31) : p ≤ x - 1 ↔ p < nI m := by
  subst hx
  have e1 : (1 : Int32).toInt = 1 := rfl
  have em : (nI m).toInt = (m : Int) := nI_toInt hm
  rw [Int32.le_iff_toInt_le, Int32.lt_iff_toInt_lt, am_sub_toInt (by omega) (by omega)]
  omega
def S_fm (x y : Int32) : Int32 := if 0 ≤ x ^^^ y then x - x / y * y else if x - x / y * y = 0 then x - x / y * y else x - x / y * y + y
theorem S_fm_ok : ∀ i, i < 30 → S_fm (nI i - nI 3) (nI 24) = nI ((i + 21) % 24) := by decide +kernel
theorem c_floorMod {d n : Nat} {mem : am_M} {Q : am_P} (x y : Int32) (hy : ¬ y = 0) (hQ : Q (some (.int (S_fm x y))) (am_SK n) mem) : am_ex (d + 1) 238 [.int x, .int y] (am_SK n) mem Q := by
  refine ex_in (c0 := kc_J9_floorMod_7cf53) rfl (L := [some (.int x), some (.int y), none]) rfl ?_
  refine ev_iload rfl rfl ?_
  refine ev_iload rfl rfl ?_
  refine ev_irem rfl ?_
  refine ev_istore rfl rfl (Nat.le_of_ble_eq_true rfl) ?_
  refine ev_iload rfl rfl ?_
  refine ev_iload rfl rfl ?_
  refine ev_ixor rfl ?_
  refine ev_if_ge (p2 := 18) rfl rfl (fun cnd7 => ?_) (fun cnd7 => ?_)
  · skip
    refine ev_iload rfl rfl ?_
    refine ev_iret rfl ?_
    refine am_leaf hQ ?_
    unfold S_fm
    first | rw [if_pos cnd7] | rw [if_neg cnd7, if_pos cnd11] | rw [if_neg cnd7, if_neg cnd11]
  · skip
    refine ev_iload rfl rfl ?_
    refine ev_if_eq (p2 := 18) rfl rfl (fun cnd11 => ?_) (fun cnd11 => ?_)
    · skip
      refine ev_iload rfl rfl ?_
      refine ev_iret rfl ?_
      refine am_leaf hQ ?_
      unfold S_fm
      first | rw [if_pos cnd7] | rw [if_neg cnd7, if_pos cnd11] | rw [if_neg cnd7, if_neg cnd11]
    · skip
      refine ev_iload rfl rfl ?_
      refine ev_iload rfl rfl ?_
      refine ev_iadd rfl ?_
      refine ev_iret rfl ?_
      refine am_leaf hQ ?_
      unfold S_fm
      first | rw [if_pos cnd7] | rw [if_neg cnd7, if_pos cnd11] | rw [if_neg cnd7, if_neg cnd11]
theorem c_max {d n : Nat} {mem : am_M} {Q : am_P} (x y : Int32) (hQ : Q (some (.int (if x < y then y else x))) (am_SK n) mem) : am_ex (d + 1) 240 [.int x, .int y] (am_SK n) mem Q := by
  refine ex_in (c0 := kc_J9_max_7cf53) rfl (L := [some (.int x), some (.int y)]) rfl ?_
  refine ev_iload rfl rfl ?_
  refine ev_iload rfl rfl ?_
  refine ev_icmp_lt (p2 := 9) rfl rfl (fun cnd2 => ?_) (fun cnd2 => ?_)
  · skip
    refine ev_iload rfl rfl ?_
    refine ev_iret rfl ?_
    first | (rw [if_pos cnd2] at hQ; exact hQ) | (rw [if_neg cnd2] at hQ; exact hQ)
  · skip
    refine ev_iload rfl rfl ?_
    refine ev_goto (p2 := 10) rfl rfl ?_
    refine ev_iret rfl ?_
    first | (rw [if_pos cnd2] at hQ; exact hQ) | (rw [if_neg cnd2] at hQ; exact hQ)
theorem c_min {d n : Nat} {mem : am_M} {Q : am_P} (x y : Int32) (hQ : Q (some (.int (if y < x then y else x))) (am_SK n) mem) : am_ex (d + 1) 241 [.int x, .int y] (am_SK n) mem Q := by
  refine ex_in (c0 := kc_J9_min_7cf53) rfl (L := [some (.int x), some (.int y)]) rfl ?_
  refine ev_iload rfl rfl ?_
  refine ev_iload rfl rfl ?_
  refine ev_icmp_gt (p2 := 9) rfl rfl (fun cnd2 => ?_) (fun cnd2 => ?_)
  · skip
    refine ev_iload rfl rfl ?_
    refine ev_iret rfl ?_
    first | (rw [if_pos cnd2] at hQ; exact hQ) | (rw [if_neg cnd2] at hQ; exact hQ)
  · skip
    refine ev_iload rfl rfl ?_
    refine ev_goto (p2 := 10) rfl rfl ?_
    refine ev_iret rfl ?_
    first | (rw [if_pos cnd2] at hQ; exact hQ) | (rw [if_neg cnd2] at hQ; exact hQ)
theorem c_abs {d n : Nat} {mem : am_M} {Q : am_P} (x : Int32) (hQ : Q (some (.int (if 0 ≤ x then x else -x))) (am_SK n) mem) : am_ex (d + 1) 239 [.int x] (am_SK n) mem Q := by
  refine ex_in (c0 := kc_J9_abs_0f7a4) rfl (L := [some (.int x)]) rfl ?_
  refine ev_iload rfl rfl ?_
  refine ev_if_ge (p2 := 9) rfl rfl (fun cnd1 => ?_) (fun cnd1 => ?_)
  · skip
    refine ev_iload rfl rfl ?_
    refine ev_iret rfl ?_
    first | (rw [if_pos cnd1] at hQ; exact hQ) | (rw [if_neg cnd1] at hQ; exact hQ)
  · skip
    refine ev_iload rfl rfl ?_
    refine ev_ineg rfl ?_
    refine ev_goto (p2 := 10) rfl rfl ?_
    refine ev_iret rfl ?_
    first | (rw [if_pos cnd1] at hQ; exact hQ) | (rw [if_neg cnd1] at hQ; exact hQ)
theorem c_X11_bit {d n : Nat} {mem : am_M} {Q : am_P} (x : Int32) (hx : x = 0 ∨ x = 1) (hQ : Q (some (.int (x))) (am_SK n) mem) : am_ex (d + 1) 126 [.int x] (am_SK n) mem Q := by
  refine ex_in (c0 := kc_X11_bit) rfl (L := [some (.int x)]) rfl ?_
  refine ev_iload rfl rfl ?_
  refine ev_if_eq (p2 := 8) rfl rfl (fun cnd1 => ?_) (fun cnd1 => ?_)
  · skip
    refine ev_iconst (x := nI 0) rfl rfl ?_
    refine ev_iret rfl ?_
    refine am_leaf hQ ?_
    rcases hx with rfl | rfl
    all_goals first | rfl | exact absurd cnd1 (by decide)
  · skip
    refine ev_iconst (x := nI 1) rfl rfl ?_
    refine ev_goto (p2 := 9) rfl rfl ?_
    refine ev_iret rfl ?_
    refine am_leaf hQ ?_
    rcases hx with rfl | rfl
    all_goals first | rfl | exact absurd cnd1 (by decide)
theorem c_X11_isPlace {d n : Nat} {mem : am_M} {Q : am_P} (p : Int32) (hQ : Q (some (.int (am_b (0 ≤ p ∧ p / nI 100 ≤ nI 30 ∧ p - p / nI 100 * nI 100 ≤ nI 30)))) (am_SK n) mem) : am_ex (d + 1) 127 [.int p] (am_SK n) mem Q := by
  refine ex_in (c0 := kc_X11_isPlace) rfl (L := [some (.int p)]) rfl ?_
  refine ev_iload rfl rfl ?_
  refine ev_if_lt (p2 := 26) rfl rfl (fun cnd1 => ?_) (fun cnd1 => ?_)
  · skip
    refine ev_iconst (x := nI 0) rfl rfl ?_
    refine ev_zret rfl ?_
    refine am_leaf hQ ?_
    simp only [am_b, Int32.lt_iff_toInt_lt, Int32.le_iff_toInt_le] at *
    split <;> first | rfl | (exfalso; omega)
  · skip
    refine ev_iload rfl rfl ?_
    refine ev_iconst (x := nI 100) rfl rfl ?_
    refine ev_idiv rfl ?_
    refine ev_iconst (x := nI 30) rfl rfl ?_
    refine ev_icmp_gt (p2 := 26) rfl rfl (fun cnd10 => ?_) (fun cnd10 => ?_)
    · skip
      refine ev_iconst (x := nI 0) rfl rfl ?_
      refine ev_zret rfl ?_
      refine am_leaf hQ ?_
      simp only [am_b, Int32.lt_iff_toInt_lt, Int32.le_iff_toInt_le] at *
      split <;> first | rfl | (exfalso; omega)
    · skip
      refine ev_iload rfl rfl ?_
      refine ev_iconst (x := nI 100) rfl rfl ?_
      refine ev_irem rfl ?_
      refine ev_iconst (x := nI 30) rfl rfl ?_
      refine ev_icmp_gt (p2 := 26) rfl rfl (fun cnd19 => ?_) (fun cnd19 => ?_)
      · skip
        refine ev_iconst (x := nI 0) rfl rfl ?_
        refine ev_zret rfl ?_
        refine am_leaf hQ ?_
        simp only [am_b, Int32.lt_iff_toInt_lt, Int32.le_iff_toInt_le] at *
        split <;> first | rfl | (exfalso; omega)
      · skip
        refine ev_iconst (x := nI 1) rfl rfl ?_
        refine ev_goto (p2 := 27) rfl rfl ?_
        refine ev_zret rfl ?_
        refine am_leaf hQ ?_
        simp only [am_b, Int32.lt_iff_toInt_lt, Int32.le_iff_toInt_le] at *
        split <;> first | rfl | (exfalso; omega)
theorem c_X11_isClock {d n : Nat} {mem : am_M} {Q : am_P} (p : Int32) (hQ : Q (some (.int (am_b (0 ≤ p ∧ p / nI 100 < nI 24 ∧ p - p / nI 100 * nI 100 < nI 24)))) (am_SK n) mem) : am_ex (d + 1) 128 [.int p] (am_SK n) mem Q := by
  refine ex_in (c0 := kc_X11_isClock) rfl (L := [some (.int p)]) rfl ?_
  refine ev_iload rfl rfl ?_
  refine ev_if_lt (p2 := 26) rfl rfl (fun cnd1 => ?_) (fun cnd1 => ?_)
  · skip
    refine ev_iconst (x := nI 0) rfl rfl ?_
    refine ev_zret rfl ?_
    refine am_leaf hQ ?_
    simp only [am_b, Int32.lt_iff_toInt_lt, Int32.le_iff_toInt_le] at *
    split <;> first | rfl | (exfalso; omega)
  · skip
    refine ev_iload rfl rfl ?_
    refine ev_iconst (x := nI 100) rfl rfl ?_
    refine ev_idiv rfl ?_
    refine ev_iconst (x := nI 24) rfl rfl ?_
    refine ev_icmp_ge (p2 := 26) rfl rfl (fun cnd10 => ?_) (fun cnd10 => ?_)
    · skip
      refine ev_iconst (x := nI 0) rfl rfl ?_
      refine ev_zret rfl ?_
      refine am_leaf hQ ?_
      simp only [am_b, Int32.lt_iff_toInt_lt, Int32.le_iff_toInt_le] at *
      split <;> first | rfl | (exfalso; omega)
    · skip
      refine ev_iload rfl rfl ?_
      refine ev_iconst (x := nI 100) rfl rfl ?_
      refine ev_irem rfl ?_
      refine ev_iconst (x := nI 24) rfl rfl ?_
      refine ev_icmp_ge (p2 := 26) rfl rfl (fun cnd19 => ?_) (fun cnd19 => ?_)
      · skip
        refine ev_iconst (x := nI 0) rfl rfl ?_
        refine ev_zret rfl ?_
        refine am_leaf hQ ?_
        simp only [am_b, Int32.lt_iff_toInt_lt, Int32.le_iff_toInt_le] at *
        split <;> first | rfl | (exfalso; omega)
      · skip
        refine ev_iconst (x := nI 1) rfl rfl ?_
        refine ev_goto (p2 := 27) rfl rfl ?_
        refine ev_zret rfl ?_
        refine am_leaf hQ ?_
        simp only [am_b, Int32.lt_iff_toInt_lt, Int32.le_iff_toInt_le] at *
        split <;> first | rfl | (exfalso; omega)
theorem c_X11_isDrawAndClass {d n : Nat} {mem : am_M} {Q : am_P} (p : Int32) (hQ : Q (some (.int (am_b (nI 10 ≤ p ∧ p / nI 10 ≤ nI 99 ∧ p - p / nI 10 * nI 10 < nI 4)))) (am_SK n) mem) : am_ex (d + 1) 129 [.int p] (am_SK n) mem Q := by
  refine ex_in (c0 := kc_X11_isDrawAndClass) rfl (L := [some (.int p)]) rfl ?_
  refine ev_iload rfl rfl ?_
  refine ev_iconst (x := nI 10) rfl rfl ?_
  refine ev_icmp_lt (p2 := 27) rfl rfl (fun cnd3 => ?_) (fun cnd3 => ?_)
  · skip
    refine ev_iconst (x := nI 0) rfl rfl ?_
    refine ev_zret rfl ?_
    refine am_leaf hQ ?_
    simp only [am_b, Int32.lt_iff_toInt_lt, Int32.le_iff_toInt_le] at *
    split <;> first | rfl | (exfalso; omega)
  · skip
    refine ev_iload rfl rfl ?_
    refine ev_iconst (x := nI 10) rfl rfl ?_
    refine ev_idiv rfl ?_
    refine ev_iconst (x := nI 99) rfl rfl ?_
    refine ev_icmp_gt (p2 := 27) rfl rfl (fun cnd12 => ?_) (fun cnd12 => ?_)
    · skip
      refine ev_iconst (x := nI 0) rfl rfl ?_
      refine ev_zret rfl ?_
      refine am_leaf hQ ?_
      simp only [am_b, Int32.lt_iff_toInt_lt, Int32.le_iff_toInt_le] at *
      split <;> first | rfl | (exfalso; omega)
    · skip
      refine ev_iload rfl rfl ?_
      refine ev_iconst (x := nI 10) rfl rfl ?_
      refine ev_irem rfl ?_
      refine ev_iconst (x := nI 4) rfl rfl ?_
      refine ev_icmp_ge (p2 := 27) rfl rfl (fun cnd20 => ?_) (fun cnd20 => ?_)
      · skip
        refine ev_iconst (x := nI 0) rfl rfl ?_
        refine ev_zret rfl ?_
        refine am_leaf hQ ?_
        simp only [am_b, Int32.lt_iff_toInt_lt, Int32.le_iff_toInt_le] at *
        split <;> first | rfl | (exfalso; omega)
      · skip
        refine ev_iconst (x := nI 1) rfl rfl ?_
        refine ev_goto (p2 := 28) rfl rfl ?_
        refine ev_zret rfl ?_
        refine am_leaf hQ ?_
        simp only [am_b, Int32.lt_iff_toInt_lt, Int32.le_iff_toInt_le] at *
        split <;> first | rfl | (exfalso; omega)
theorem c_X11_isKind {d n : Nat} {mem : am_M} {Q : am_P} (p : Int32) (hQ : Q (some (.int (am_b (nI 0 ≤ p ∧ p ≤ nI 5)))) (am_SK n) mem) : am_ex (d + 1) 130 [.int p] (am_SK n) mem Q := by
  refine ex_in (c0 := kc_X11_isKind) rfl (L := [some (.int p)]) rfl ?_
  refine ev_iload rfl rfl ?_
  refine ev_if_lt (p2 := 14) rfl rfl (fun cnd1 => ?_) (fun cnd1 => ?_)
  · skip
    refine ev_iconst (x := nI 0) rfl rfl ?_
    refine ev_zret rfl ?_
    refine am_leaf hQ ?_
    have hb : (nI 6).toInt = 6 := rfl
    have hb2 : (nI 5).toInt = 5 := rfl
    have hb0 : (nI 0).toInt = 0 := rfl
    have hb1 : (0 : Int32).toInt = 0 := rfl
    simp only [am_b, Int32.lt_iff_toInt_lt, Int32.le_iff_toInt_le] at *
    split <;> first | rfl | (exfalso; omega)
  · skip
    refine ev_iload rfl rfl ?_
    refine ev_iconst (x := nI 6) rfl rfl ?_
    refine ev_icmp_ge (p2 := 14) rfl rfl (fun cnd7 => ?_) (fun cnd7 => ?_)
    · skip
      refine ev_iconst (x := nI 0) rfl rfl ?_
      refine ev_zret rfl ?_
      refine am_leaf hQ ?_
      have hb : (nI 6).toInt = 6 := rfl
      have hb2 : (nI 5).toInt = 5 := rfl
      have hb0 : (nI 0).toInt = 0 := rfl
      have hb1 : (0 : Int32).toInt = 0 := rfl
      simp only [am_b, Int32.lt_iff_toInt_lt, Int32.le_iff_toInt_le] at *
      split <;> first | rfl | (exfalso; omega)
    · skip
      refine ev_iconst (x := nI 1) rfl rfl ?_
      refine ev_goto (p2 := 15) rfl rfl ?_
      refine ev_zret rfl ?_
      refine am_leaf hQ ?_
      have hb : (nI 6).toInt = 6 := rfl
      have hb2 : (nI 5).toInt = 5 := rfl
      have hb0 : (nI 0).toInt = 0 := rfl
      have hb1 : (0 : Int32).toInt = 0 := rfl
      simp only [am_b, Int32.lt_iff_toInt_lt, Int32.le_iff_toInt_le] at *
      split <;> first | rfl | (exfalso; omega)
theorem c_X11_isSheet {d n : Nat} {mem : am_M} {Q : am_P} (p : Int32) (hQ : Q (some (.int (am_b (nI 0 ≤ p ∧ p ≤ nI 3)))) (am_SK n) mem) : am_ex (d + 1) 131 [.int p] (am_SK n) mem Q := by
  refine ex_in (c0 := kc_X11_isSheet) rfl (L := [some (.int p)]) rfl ?_
  refine ev_iload rfl rfl ?_
  refine ev_if_lt (p2 := 13) rfl rfl (fun cnd1 => ?_) (fun cnd1 => ?_)
  · skip
    refine ev_iconst (x := nI 0) rfl rfl ?_
    refine ev_zret rfl ?_
    refine am_leaf hQ ?_
    have hb : (nI 4).toInt = 4 := rfl
    have hb2 : (nI 3).toInt = 3 := rfl
    have hb0 : (nI 0).toInt = 0 := rfl
    have hb1 : (0 : Int32).toInt = 0 := rfl
    simp only [am_b, Int32.lt_iff_toInt_lt, Int32.le_iff_toInt_le] at *
    split <;> first | rfl | (exfalso; omega)
  · skip
    refine ev_iload rfl rfl ?_
    refine ev_iconst (x := nI 4) rfl rfl ?_
    refine ev_icmp_ge (p2 := 13) rfl rfl (fun cnd6 => ?_) (fun cnd6 => ?_)
    · skip
      refine ev_iconst (x := nI 0) rfl rfl ?_
      refine ev_zret rfl ?_
      refine am_leaf hQ ?_
      have hb : (nI 4).toInt = 4 := rfl
      have hb2 : (nI 3).toInt = 3 := rfl
      have hb0 : (nI 0).toInt = 0 := rfl
      have hb1 : (0 : Int32).toInt = 0 := rfl
      simp only [am_b, Int32.lt_iff_toInt_lt, Int32.le_iff_toInt_le] at *
      split <;> first | rfl | (exfalso; omega)
    · skip
      refine ev_iconst (x := nI 1) rfl rfl ?_
      refine ev_goto (p2 := 14) rfl rfl ?_
      refine ev_zret rfl ?_
      refine am_leaf hQ ?_
      have hb : (nI 4).toInt = 4 := rfl
      have hb2 : (nI 3).toInt = 3 := rfl
      have hb0 : (nI 0).toInt = 0 := rfl
      have hb1 : (0 : Int32).toInt = 0 := rfl
      simp only [am_b, Int32.lt_iff_toInt_lt, Int32.le_iff_toInt_le] at *
      split <;> first | rfl | (exfalso; omega)
theorem c_X11_isSlot {d n : Nat} {mem : am_M} {Q : am_P} (p : Int32) (hQ : Q (some (.int (am_b (nI 0 ≤ p ∧ p ≤ nI 4)))) (am_SK n) mem) : am_ex (d + 1) 132 [.int p] (am_SK n) mem Q := by
  refine ex_in (c0 := kc_X11_isSlot) rfl (L := [some (.int p)]) rfl ?_
  refine ev_iload rfl rfl ?_
  refine ev_if_lt (p2 := 13) rfl rfl (fun cnd1 => ?_) (fun cnd1 => ?_)
  · skip
    refine ev_iconst (x := nI 0) rfl rfl ?_
    refine ev_zret rfl ?_
    refine am_leaf hQ ?_
    have hb : (nI 5).toInt = 5 := rfl
    have hb2 : (nI 4).toInt = 4 := rfl
    have hb0 : (nI 0).toInt = 0 := rfl
    have hb1 : (0 : Int32).toInt = 0 := rfl
    simp only [am_b, Int32.lt_iff_toInt_lt, Int32.le_iff_toInt_le] at *
    split <;> first | rfl | (exfalso; omega)
  · skip
    refine ev_iload rfl rfl ?_
    refine ev_iconst (x := nI 5) rfl rfl ?_
    refine ev_icmp_ge (p2 := 13) rfl rfl (fun cnd6 => ?_) (fun cnd6 => ?_)
    · skip
      refine ev_iconst (x := nI 0) rfl rfl ?_
      refine ev_zret rfl ?_
      refine am_leaf hQ ?_
      have hb : (nI 5).toInt = 5 := rfl
      have hb2 : (nI 4).toInt = 4 := rfl
      have hb0 : (nI 0).toInt = 0 := rfl
      have hb1 : (0 : Int32).toInt = 0 := rfl
      simp only [am_b, Int32.lt_iff_toInt_lt, Int32.le_iff_toInt_le] at *
      split <;> first | rfl | (exfalso; omega)
    · skip
      refine ev_iconst (x := nI 1) rfl rfl ?_
      refine ev_goto (p2 := 14) rfl rfl ?_
      refine ev_zret rfl ?_
      refine am_leaf hQ ?_
      have hb : (nI 5).toInt = 5 := rfl
      have hb2 : (nI 4).toInt = 4 := rfl
      have hb0 : (nI 0).toInt = 0 := rfl
      have hb1 : (0 : Int32).toInt = 0 := rfl
      simp only [am_b, Int32.lt_iff_toInt_lt, Int32.le_iff_toInt_le] at *
      split <;> first | rfl | (exfalso; omega)
theorem c_X9_hasCabinet {d n : Nat} {mem : am_M} {Q : am_P} {t : Nat} {R : am_R} (ht : am_T t) (hC : CplT t R mem) (p : Int32) (hQ : Q (some (.int (am_b (0 ≤ p ∧ p ≤ R 3 - 1)))) (am_SK n) mem) : am_ex (d + 1) 54 [.ref t, .int p] (am_SK n) mem Q := by
  have hg := ht.ge
  have hb := wb_all (cp_w hC)
  refine ex_in (c0 := kc_X9_hasCabinet) rfl (L := [some (.ref t), some (.int p)]) rfl ?_
  refine ev_iload rfl rfl ?_
  refine ev_if_lt (p2 := 16) rfl rfl (fun cnd1 => ?_) (fun cnd1 => ?_)
  · skip
    refine ev_iconst (x := nI 0) rfl rfl ?_
    refine ev_zret rfl ?_
    refine am_leaf hQ ?_
    rw [am_b_eq (and_congr Iff.rfl (am_pred (x := R 3) (p := p) (m := nn (R 3)) ((cp_w hC).2.1.1.1) (by omega)))]
    simp only [am_b, Int32.lt_iff_toInt_lt, Int32.le_iff_toInt_le] at *
    split <;> first | rfl | (exfalso; omega)
  · skip
    refine ev_iload rfl rfl ?_
    refine ev_aload rfl rfl ?_
    refine ev_getI (c := 9) (j := 2) rfl ?_ (hq := kt_0 n ht)
    rw [cp_t2 hC]
    refine ev_icmp_ge (p2 := 16) rfl rfl (fun cnd9 => ?_) (fun cnd9 => ?_)
    · skip
      refine ev_iconst (x := nI 0) rfl rfl ?_
      refine ev_zret rfl ?_
      refine am_leaf hQ ?_
      rw [am_b_eq (and_congr Iff.rfl (am_pred (x := R 3) (p := p) (m := nn (R 3)) ((cp_w hC).2.1.1.1) (by omega)))]
      simp only [am_b, Int32.lt_iff_toInt_lt, Int32.le_iff_toInt_le] at *
      split <;> first | rfl | (exfalso; omega)
    · skip
      refine ev_iconst (x := nI 1) rfl rfl ?_
      refine ev_goto (p2 := 17) rfl rfl ?_
      refine ev_zret rfl ?_
      refine am_leaf hQ ?_
      rw [am_b_eq (and_congr Iff.rfl (am_pred (x := R 3) (p := p) (m := nn (R 3)) ((cp_w hC).2.1.1.1) (by omega)))]
      simp only [am_b, Int32.lt_iff_toInt_lt, Int32.le_iff_toInt_le] at *
      split <;> first | rfl | (exfalso; omega)
theorem c_X9_hasJoint {d n : Nat} {mem : am_M} {Q : am_P} {t : Nat} {R : am_R} (ht : am_T t) (hC : CplT t R mem) (p : Int32) (hQ : Q (some (.int (am_b (0 ≤ p ∧ p ≤ R 4 - 1)))) (am_SK n) mem) : am_ex (d + 1) 55 [.ref t, .int p] (am_SK n) mem Q := by
  have hg := ht.ge
  have hb := wb_all (cp_w hC)
  refine ex_in (c0 := kc_X9_hasJoint) rfl (L := [some (.ref t), some (.int p)]) rfl ?_
  refine ev_iload rfl rfl ?_
  refine ev_if_lt (p2 := 16) rfl rfl (fun cnd1 => ?_) (fun cnd1 => ?_)
  · skip
    refine ev_iconst (x := nI 0) rfl rfl ?_
    refine ev_zret rfl ?_
    refine am_leaf hQ ?_
    rw [am_b_eq (and_congr Iff.rfl (am_pred (x := R 4) (p := p) (m := nn (R 4)) ((cp_w hC).2.1.2.1.1) (by omega)))]
    simp only [am_b, Int32.lt_iff_toInt_lt, Int32.le_iff_toInt_le] at *
    split <;> first | rfl | (exfalso; omega)
  · skip
    refine ev_iload rfl rfl ?_
    refine ev_aload rfl rfl ?_
    refine ev_getI (c := 9) (j := 4) rfl ?_ (hq := kt_0 n ht)
    rw [cp_t4 hC]
    refine ev_icmp_ge (p2 := 16) rfl rfl (fun cnd9 => ?_) (fun cnd9 => ?_)
    · skip
      refine ev_iconst (x := nI 0) rfl rfl ?_
      refine ev_zret rfl ?_
      refine am_leaf hQ ?_
      rw [am_b_eq (and_congr Iff.rfl (am_pred (x := R 4) (p := p) (m := nn (R 4)) ((cp_w hC).2.1.2.1.1) (by omega)))]
      simp only [am_b, Int32.lt_iff_toInt_lt, Int32.le_iff_toInt_le] at *
      split <;> first | rfl | (exfalso; omega)
    · skip
      refine ev_iconst (x := nI 1) rfl rfl ?_
      refine ev_goto (p2 := 17) rfl rfl ?_
      refine ev_zret rfl ?_
      refine am_leaf hQ ?_
      rw [am_b_eq (and_congr Iff.rfl (am_pred (x := R 4) (p := p) (m := nn (R 4)) ((cp_w hC).2.1.2.1.1) (by omega)))]
      simp only [am_b, Int32.lt_iff_toInt_lt, Int32.le_iff_toInt_le] at *
      split <;> first | rfl | (exfalso; omega)
theorem c_X9_hasLamp {d n : Nat} {mem : am_M} {Q : am_P} {t : Nat} {R : am_R} (ht : am_T t) (hC : CplT t R mem) (p : Int32) (hQ : Q (some (.int (am_b (0 ≤ p ∧ p ≤ R 5 - 1)))) (am_SK n) mem) : am_ex (d + 1) 56 [.ref t, .int p] (am_SK n) mem Q := by
  have hg := ht.ge
  have hb := wb_all (cp_w hC)
  refine ex_in (c0 := kc_X9_hasLamp) rfl (L := [some (.ref t), some (.int p)]) rfl ?_
  refine ev_iload rfl rfl ?_
  refine ev_if_lt (p2 := 16) rfl rfl (fun cnd1 => ?_) (fun cnd1 => ?_)
  · skip
    refine ev_iconst (x := nI 0) rfl rfl ?_
    refine ev_zret rfl ?_
    refine am_leaf hQ ?_
    rw [am_b_eq (and_congr Iff.rfl (am_pred (x := R 5) (p := p) (m := nn (R 5)) ((cp_w hC).2.1.2.2.1.1) (by omega)))]
    simp only [am_b, Int32.lt_iff_toInt_lt, Int32.le_iff_toInt_le] at *
    split <;> first | rfl | (exfalso; omega)
  · skip
    refine ev_iload rfl rfl ?_
    refine ev_aload rfl rfl ?_
    refine ev_getI (c := 9) (j := 6) rfl ?_ (hq := kt_0 n ht)
    rw [cp_t6 hC]
    refine ev_icmp_ge (p2 := 16) rfl rfl (fun cnd9 => ?_) (fun cnd9 => ?_)
    · skip
      refine ev_iconst (x := nI 0) rfl rfl ?_
      refine ev_zret rfl ?_
      refine am_leaf hQ ?_
      rw [am_b_eq (and_congr Iff.rfl (am_pred (x := R 5) (p := p) (m := nn (R 5)) ((cp_w hC).2.1.2.2.1.1) (by omega)))]
      simp only [am_b, Int32.lt_iff_toInt_lt, Int32.le_iff_toInt_le] at *
      split <;> first | rfl | (exfalso; omega)
    · skip
      refine ev_iconst (x := nI 1) rfl rfl ?_
      refine ev_goto (p2 := 17) rfl rfl ?_
      refine ev_zret rfl ?_
      refine am_leaf hQ ?_
      rw [am_b_eq (and_congr Iff.rfl (am_pred (x := R 5) (p := p) (m := nn (R 5)) ((cp_w hC).2.1.2.2.1.1) (by omega)))]
      simp only [am_b, Int32.lt_iff_toInt_lt, Int32.le_iff_toInt_le] at *
      split <;> first | rfl | (exfalso; omega)
theorem c_X9_cabinetOf {d n : Nat} {mem : am_M} {Q : am_P} {t : Nat} {R : am_R} (ht : am_T t) (hC : CplT t R mem) (l : Nat) (hl : l < nn (R 5)) (hQ : Q (some (.ref (t + 7 + S_cab R (nn (R (77 + 7 * l + 1)))))) (am_SK n) mem) : am_ex (d + 1) 60 [.ref t, .ref (t + 22 + l)] (am_SK n) mem Q := by
  have hg := ht.ge
  have hb := wb_all (cp_w hC)
  have hj := cp_jl hC hl
  have hcb := cp_cab hC hj
  refine ex_in (c0 := kc_X9_cabinetOf) rfl (L := [some (.ref t), some (.ref (t + 22 + l))]) rfl ?_
  refine ev_aload rfl rfl ?_
  refine ev_getR (c := 9) (j := 1) rfl ?_ (hq := kt_0 n ht)
  refine ev_aload rfl rfl ?_
  refine ev_getR (c := 9) (j := 3) rfl ?_ (hq := kt_0 n ht)
  refine ev_aload rfl rfl ?_
  refine ev_getI (c := 4) (j := 1) rfl ?_ (hq := kt_lamp n ht (by omega))
  rw [cp_l1 hC (l := l) (by omega)]
  refine ev_aldN rfl rfl ?_ (kr_joint (by omega)) (hq := kt_2 n ht)
  refine ev_getI (c := 3) (j := 2) rfl ?_ (hq := kt_joint n ht (by omega))
  rw [cp_j2 hC (j := nn (R (77 + 7 * l + 1))) (by omega)]
  refine ev_aldN rfl rfl ?_ (kr_cab (by omega)) (hq := kt_1 n ht)
  refine ev_aret rfl ?_
  exact hQ
theorem c_X1_isNight {d n : Nat} {mem : am_M} {Q : am_P} {t : Nat} {R : am_R} (ht : am_T t) (hC : CplT t R mem) (c : Nat) (hc : c < nn (R 3)) (hQ : Q (some (.int (ob (S_night R c)))) (am_SK n) mem) : am_ex (d + 2) 7 [.ref (t + 7 + c), .int (nI (nn (R 0)))] (am_SK n) mem Q := by
  have hg := ht.ge
  have hb := wb_all (cp_w hC)
  obtain ⟨-, ⟨e1, g1⟩, ⟨e2, g2⟩, ⟨g3, g4⟩, -⟩ := (cp_w hC).2.2.1 c hc
  have hfm : S_fm (nI (nn (R 0)) - R (23 + 6 * c + 3)) (nI 24) = nI (S_tm (nn (R 0)) (R (23 + 6 * c + 3)).toInt) := by
    have e0 : (nI (nn (R 0))).toInt = (nn (R 0) : Int) := nI_toInt (by omega)
    have e9 : (nI 3).toInt = 3 := rfl
    have ei : nI (nn (R 0)) - R (23 + 6 * c + 3) = nI ((nn (R 0) : Int) - (R (23 + 6 * c + 3)).toInt + 3).toNat - nI 3 := by
      apply Int32.toInt_inj.mp
      have e8 : (nI ((nn (R 0) : Int) - (R (23 + 6 * c + 3)).toInt + 3).toNat).toInt = (((nn (R 0) : Int) - (R (23 + 6 * c + 3)).toInt + 3).toNat : Int) := nI_toInt (by omega)
      rw [am_sub_toInt (by omega) (by omega), am_sub_toInt (by omega) (by omega), e8]
      omega
    rw [ei, S_fm_ok _ (by omega)]
    congr 1
    unfold S_tm
    omega
  have htm := S_tm_lt (nn (R 0)) (R (23 + 6 * c + 3)).toInt
  unfold S_night at hQ
  generalize S_tm (nn (R 0)) (R (23 + 6 * c + 3)).toInt = tm at hfm htm hQ
  refine ex_in (c0 := kc_X1_isNight) rfl (L := [some (.ref (t + 7 + c)), some (.int (nI (nn (R 0)))), none]) rfl ?_
  refine ev_iload rfl rfl ?_
  refine ev_aload rfl rfl ?_
  refine ev_getI (c := 1) (j := 3) rfl ?_ (hq := kt_cab n ht (by omega))
  rw [cp_c (k := 3) (c := c) hC (by omega) (by decide)]
  refine ev_isub rfl ?_
  refine ev_iconst (x := nI 24) rfl rfl ?_
  refine ev_call rfl rfl ?_
  refine c_floorMod _ _ (by decide) ?_
  rw [hfm]
  change am_ev _ _ _ _ (_ :: _) _ _ _
  refine ev_istore rfl rfl (Nat.le_of_ble_eq_true rfl) ?_
  refine ev_aload rfl rfl ?_
  refine ev_getI (c := 1) (j := 1) rfl ?_ (hq := kt_cab n ht (by omega))
  rw [cp_c1 hC (c := c) (by omega)]
  refine ev_aload rfl rfl ?_
  refine ev_getI (c := 1) (j := 2) rfl ?_ (hq := kt_cab n ht (by omega))
  rw [cp_c2 hC (c := c) (by omega)]
  refine ev_icmp_geN (p2 := 45) rfl rfl (fun cnd20 => ?_) (fun cnd20 => ?_)
  · skip
    refine ev_aload rfl rfl ?_
    refine ev_getI (c := 1) (j := 1) rfl ?_ (hq := kt_cab n ht (by omega))
    rw [cp_c1 hC (c := c) (by omega)]
    refine ev_aload rfl rfl ?_
    refine ev_getI (c := 1) (j := 2) rfl ?_ (hq := kt_cab n ht (by omega))
    rw [cp_c2 hC (c := c) (by omega)]
    refine ev_icmp_leN (p2 := 76) rfl rfl (fun cnd53 => ?_) (fun cnd53 => ?_)
    · skip
      refine ev_iconst (x := nI 0) rfl rfl ?_
      refine ev_zret rfl ?_
      refine am_leaf hQ ?_
      first | (rw [show S_nt _ _ tm = true from decide_eq_true (by omega)]; rfl) | (rw [show S_nt _ _ tm = false from decide_eq_false (by omega)]; rfl)
    · skip
      refine ev_iload rfl rfl ?_
      refine ev_aload rfl rfl ?_
      refine ev_getI (c := 1) (j := 1) rfl ?_ (hq := kt_cab n ht (by omega))
      rw [cp_c1 hC (c := c) (by omega)]
      refine ev_icmp_geN (p2 := 72) rfl rfl (fun cnd61 => ?_) (fun cnd61 => ?_)
      · skip
        refine ev_iconst (x := nI 1) rfl rfl ?_
        refine ev_goto (p2 := 77) rfl rfl ?_
        refine ev_zret rfl ?_
        refine am_leaf hQ ?_
        first | (rw [show S_nt _ _ tm = true from decide_eq_true (by omega)]; rfl) | (rw [show S_nt _ _ tm = false from decide_eq_false (by omega)]; rfl)
      · skip
        refine ev_iload rfl rfl ?_
        refine ev_aload rfl rfl ?_
        refine ev_getI (c := 1) (j := 2) rfl ?_ (hq := kt_cab n ht (by omega))
        rw [cp_c2 hC (c := c) (by omega)]
        refine ev_icmp_geN (p2 := 76) rfl rfl (fun cnd69 => ?_) (fun cnd69 => ?_)
        · skip
          refine ev_iconst (x := nI 0) rfl rfl ?_
          refine ev_zret rfl ?_
          refine am_leaf hQ ?_
          first | (rw [show S_nt _ _ tm = true from decide_eq_true (by omega)]; rfl) | (rw [show S_nt _ _ tm = false from decide_eq_false (by omega)]; rfl)
        · skip
          refine ev_iconst (x := nI 1) rfl rfl ?_
          refine ev_goto (p2 := 77) rfl rfl ?_
          refine ev_zret rfl ?_
          refine am_leaf hQ ?_
          first | (rw [show S_nt _ _ tm = true from decide_eq_true (by omega)]; rfl) | (rw [show S_nt _ _ tm = false from decide_eq_false (by omega)]; rfl)
  · skip
    refine ev_iload rfl rfl ?_
    refine ev_aload rfl rfl ?_
    refine ev_getI (c := 1) (j := 1) rfl ?_ (hq := kt_cab n ht (by omega))
    rw [cp_c1 hC (c := c) (by omega)]
    refine ev_icmp_ltN (p2 := 43) rfl rfl (fun cnd28 => ?_) (fun cnd28 => ?_)
    · skip
      refine ev_iconst (x := nI 0) rfl rfl ?_
      refine ev_zret rfl ?_
      refine am_leaf hQ ?_
      first | (rw [show S_nt _ _ tm = true from decide_eq_true (by omega)]; rfl) | (rw [show S_nt _ _ tm = false from decide_eq_false (by omega)]; rfl)
    · skip
      refine ev_iload rfl rfl ?_
      refine ev_aload rfl rfl ?_
      refine ev_getI (c := 1) (j := 2) rfl ?_ (hq := kt_cab n ht (by omega))
      rw [cp_c2 hC (c := c) (by omega)]
      refine ev_icmp_geN (p2 := 43) rfl rfl (fun cnd36 => ?_) (fun cnd36 => ?_)
      · skip
        refine ev_iconst (x := nI 0) rfl rfl ?_
        refine ev_zret rfl ?_
        refine am_leaf hQ ?_
        first | (rw [show S_nt _ _ tm = true from decide_eq_true (by omega)]; rfl) | (rw [show S_nt _ _ tm = false from decide_eq_false (by omega)]; rfl)
      · skip
        refine ev_iconst (x := nI 1) rfl rfl ?_
        refine ev_goto (p2 := 44) rfl rfl ?_
        refine ev_zret rfl ?_
        refine am_leaf hQ ?_
        first | (rw [show S_nt _ _ tm = true from decide_eq_true (by omega)]; rfl) | (rw [show S_nt _ _ tm = false from decide_eq_false (by omega)]; rfl)
theorem c_X9_should {d n : Nat} {mem : am_M} {Q : am_P} {t : Nat} {R : am_R} (ht : am_T t) (hC : CplT t R mem) (l : Nat) (hl : l < nn (R 5)) (hQ : Q (some (.int (ob (S_should R l)))) (am_SK n) mem) : am_ex (d + 3) 61 [.ref t, .ref (t + 22 + l)] (am_SK n) mem Q := by
  have hg := ht.ge
  have hb := wb_all (cp_w hC)
  have hj := cp_jl hC hl
  have hcb := cp_cab hC hj
  obtain ⟨⟨-, gk⟩, -⟩ := (cp_w hC).2.2.2.2.1 l hl
  have hmod : nn (R 1) % nn (R 2) < nn (R 2) := Nat.mod_lt _ (by omega)
  unfold S_should at hQ
  refine ex_in (c0 := kc_X9_should) rfl (L := [some (.ref t), some (.ref (t + 22 + l))]) rfl ?_
  refine ev_aload rfl rfl ?_
  refine ev_getI (c := 4) (j := 0) rfl ?_ (hq := kt_lamp n ht (by omega))
  rw [cp_l0 hC (l := l) (by omega)]
  generalize nn (R (77 + 7 * l)) = kd at gk hQ ⊢
  rcases (show kd = 0 ∨ kd = 1 ∨ kd = 2 ∨ kd = 3 ∨ kd = 4 ∨ kd = 5 by omega) with rfl | rfl | rfl | rfl | rfl | rfl
  · refine ev_lswC (p2 := 59) rfl (by first | rfl | decide) rfl ?_
    refine ev_aload rfl rfl ?_
    refine ev_aload rfl rfl ?_
    refine ev_callV rfl rfl rfl rfl (Nat.le_of_ble_eq_true rfl) (Nat.le_of_ble_eq_true rfl) ?_ (hq := kt_0 n ht)
    refine c_X9_cabinetOf ht hC l hl ?_
    change am_ev _ _ _ _ (_ :: _) _ _ _
    refine ev_aload rfl rfl ?_
    refine ev_getI (c := 9) (j := 7) rfl ?_ (hq := kt_0 n ht)
    rw [cp_t7 hC]
    refine ev_callV rfl rfl rfl rfl (Nat.le_of_ble_eq_true rfl) (Nat.le_of_ble_eq_true rfl) ?_ (hq := kt_cab n ht (by omega))
    refine c_X1_isNight ht hC _ hcb ?_
    change am_ev _ _ _ _ (_ :: _) _ _ _
    refine ev_zret rfl ?_ (hx := ob01 _)
    exact hQ
  · refine ev_lswC (p2 := 59) rfl (by first | rfl | decide) rfl ?_
    refine ev_aload rfl rfl ?_
    refine ev_aload rfl rfl ?_
    refine ev_callV rfl rfl rfl rfl (Nat.le_of_ble_eq_true rfl) (Nat.le_of_ble_eq_true rfl) ?_ (hq := kt_0 n ht)
    refine c_X9_cabinetOf ht hC l hl ?_
    change am_ev _ _ _ _ (_ :: _) _ _ _
    refine ev_aload rfl rfl ?_
    refine ev_getI (c := 9) (j := 7) rfl ?_ (hq := kt_0 n ht)
    rw [cp_t7 hC]
    refine ev_callV rfl rfl rfl rfl (Nat.le_of_ble_eq_true rfl) (Nat.le_of_ble_eq_true rfl) ?_ (hq := kt_cab n ht (by omega))
    refine c_X1_isNight ht hC _ hcb ?_
    change am_ev _ _ _ _ (_ :: _) _ _ _
    refine ev_zret rfl ?_ (hx := ob01 _)
    exact hQ
  · refine ev_lswC (p2 := 32) rfl (by first | rfl | decide) rfl ?_
    refine ev_iconst (x := nI 1) rfl rfl ?_
    refine ev_zret rfl ?_
    exact hQ
  · refine ev_lswC (p2 := 59) rfl (by first | rfl | decide) rfl ?_
    refine ev_aload rfl rfl ?_
    refine ev_aload rfl rfl ?_
    refine ev_callV rfl rfl rfl rfl (Nat.le_of_ble_eq_true rfl) (Nat.le_of_ble_eq_true rfl) ?_ (hq := kt_0 n ht)
    refine c_X9_cabinetOf ht hC l hl ?_
    change am_ev _ _ _ _ (_ :: _) _ _ _
    refine ev_aload rfl rfl ?_
    refine ev_getI (c := 9) (j := 7) rfl ?_ (hq := kt_0 n ht)
    rw [cp_t7 hC]
    refine ev_callV rfl rfl rfl rfl (Nat.le_of_ble_eq_true rfl) (Nat.le_of_ble_eq_true rfl) ?_ (hq := kt_cab n ht (by omega))
    refine c_X1_isNight ht hC _ hcb ?_
    change am_ev _ _ _ _ (_ :: _) _ _ _
    refine ev_zret rfl ?_ (hx := ob01 _)
    exact hQ
  · refine ev_lswC (p2 := 34) rfl (by first | rfl | decide) rfl ?_
    refine ev_aload rfl rfl ?_
    refine ev_getI (c := 9) (j := 9) rfl ?_ (hq := kt_0 n ht)
    rw [cp_t9 hC]
    refine ev_if_leN (p2 := 57) rfl rfl (fun cnd38 => ?_) (fun cnd38 => ?_)
    · omega
    · skip
      refine ev_aload rfl rfl ?_
      refine ev_getI (c := 9) (j := 8) rfl ?_ (hq := kt_0 n ht)
      rw [cp_t8 hC]
      refine ev_aload rfl rfl ?_
      refine ev_getI (c := 9) (j := 9) rfl ?_ (hq := kt_0 n ht)
      rw [cp_t9 hC]
      refine ev_iremN rfl ?_
      refine ev_if_neN (p2 := 57) rfl rfl (fun cnd50 => ?_) (fun cnd50 => ?_)
      · skip
        refine ev_iconst (x := nI 0) rfl rfl ?_
        refine ev_zret rfl ?_
        refine am_leaf hQ ?_
        first | (rw [show (if 4 = 2 then true else if 4 = 4 then decide (nn (R 1) % nn (R 2) = 0) else S_night R (S_cab R (nn (R (77 + 7 * l + 1))))) = decide (nn (R 1) % nn (R 2) = 0) from rfl, decide_eq_true (by omega)]; rfl) | (rw [show (if 4 = 2 then true else if 4 = 4 then decide (nn (R 1) % nn (R 2) = 0) else S_night R (S_cab R (nn (R (77 + 7 * l + 1))))) = decide (nn (R 1) % nn (R 2) = 0) from rfl, decide_eq_false (by omega)]; rfl)
      · skip
        refine ev_iconst (x := nI 1) rfl rfl ?_
        refine ev_goto (p2 := 58) rfl rfl ?_
        refine ev_zret rfl ?_
        refine am_leaf hQ ?_
        first | (rw [show (if 4 = 2 then true else if 4 = 4 then decide (nn (R 1) % nn (R 2) = 0) else S_night R (S_cab R (nn (R (77 + 7 * l + 1))))) = decide (nn (R 1) % nn (R 2) = 0) from rfl, decide_eq_true (by omega)]; rfl) | (rw [show (if 4 = 2 then true else if 4 = 4 then decide (nn (R 1) % nn (R 2) = 0) else S_night R (S_cab R (nn (R (77 + 7 * l + 1))))) = decide (nn (R 1) % nn (R 2) = 0) from rfl, decide_eq_false (by omega)]; rfl)
  · refine ev_lswC (p2 := 59) rfl (by first | rfl | decide) rfl ?_
    refine ev_aload rfl rfl ?_
    refine ev_aload rfl rfl ?_
    refine ev_callV rfl rfl rfl rfl (Nat.le_of_ble_eq_true rfl) (Nat.le_of_ble_eq_true rfl) ?_ (hq := kt_0 n ht)
    refine c_X9_cabinetOf ht hC l hl ?_
    change am_ev _ _ _ _ (_ :: _) _ _ _
    refine ev_aload rfl rfl ?_
    refine ev_getI (c := 9) (j := 7) rfl ?_ (hq := kt_0 n ht)
    rw [cp_t7 hC]
    refine ev_callV rfl rfl rfl rfl (Nat.le_of_ble_eq_true rfl) (Nat.le_of_ble_eq_true rfl) ?_ (hq := kt_cab n ht (by omega))
    refine c_X1_isNight ht hC _ hcb ?_
    change am_ev _ _ _ _ (_ :: _) _ _ _
    refine ev_zret rfl ?_ (hx := ob01 _)
    exact hQ
theorem S_way_eq {R : am_R} {j : Nat} (h : ¬ R (41 + 3 * j + 2) = 1) (hf : nn (R (41 + 3 * j)) < j) : S_way R j = S_way R (nn (R (41 + 3 * j))) := by
  rw [S_way, if_neg h, dif_pos hf]
theorem S_way_top {R : am_R} {j : Nat} (h : ¬ R (41 + 3 * j + 2) = 1) (hf : ¬ nn (R (41 + 3 * j)) < j) : S_way R j = decide (R (23 + 6 * (nn (R (41 + 3 * j)) - 100) + 4) = 0) := by
  rw [S_way, if_neg h, dif_neg hf]
theorem S_way_brk {R : am_R} {j : Nat} (h : R (41 + 3 * j + 2) = 1) : S_way R j = false := by
  rw [S_way, if_pos h]
theorem S_cab_eq {R : am_R} {j : Nat} (hf : nn (R (41 + 3 * j)) < j) : S_cab R j = S_cab R (nn (R (41 + 3 * j))) := by
  rw [S_cab, dif_pos hf]
theorem S_cab_top {R : am_R} {j : Nat} (hf : ¬ nn (R (41 + 3 * j)) < j) : S_cab R j = nn (R (41 + 3 * j)) - 100 := by
  rw [S_cab, dif_neg hf]
theorem l_X9_isFed_out {d n : Nat} {mem : am_M} {Q : am_P} {t : Nat} {R : am_R} (ht : am_T t) (hC : CplT t R mem) (l : Nat) (hl : l < nn (R 5)) (x y : Option Value) (hQ : Q (some (.int (ob (decide (R (23 + 6 * S_cab R (nn (R (77 + 7 * l + 1))) + 4) = 0))))) (am_SK n) mem) : am_ev kc_X9_isFed (d + 1) 60 [some (.ref t), some (.ref (t + 22 + l)), x, y] [] (am_SK n) mem Q := by
  have hg := ht.ge
  have hb := wb_all (cp_w hC)
  have hj := cp_jl hC hl
  have hcb := cp_cab hC hj
  obtain ⟨⟨ek, gk⟩, -⟩ := (cp_w hC).2.2.2.2.1 l hl
  refine ev_aload rfl rfl ?_
  refine ev_aload rfl rfl ?_
  refine ev_callV rfl rfl rfl rfl (Nat.le_of_ble_eq_true rfl) (Nat.le_of_ble_eq_true rfl) ?_ (hq := kt_0 n ht)
  refine c_X9_cabinetOf ht hC l hl ?_
  change am_ev _ _ _ _ (_ :: _) _ _ _
  refine ev_getI (c := 1) (j := 4) rfl ?_ (hq := kt_cab n ht (by omega))
  rw [cp_c (k := 4) (c := S_cab R (nn (R (77 + 7 * l + 1)))) hC (by omega) (by decide)]
  refine ev_if_ne (p2 := 75) rfl rfl (fun cnd68 => ?_) (fun cnd68 => ?_)
  · skip
    refine ev_iconst (x := nI 0) rfl rfl ?_
    refine ev_zret rfl ?_
    refine am_leaf hQ ?_
    first
    | (rw [decide_eq_false (fun z => cnd68 z)]; rfl)
    | (rw [decide_eq_true cnd68]; rfl)
  · skip
    refine ev_iconst (x := nI 1) rfl rfl ?_
    refine ev_goto (p2 := 76) rfl rfl ?_
    refine ev_zret rfl ?_
    refine am_leaf hQ ?_
    first
    | (rw [decide_eq_false (fun z => cnd68 z)]; rfl)
    | (rw [decide_eq_true cnd68]; rfl)
theorem l_X9_isFed_top {d n : Nat} {mem : am_M} {Q : am_P} {t : Nat} {R : am_R} (ht : am_T t) (hC : CplT t R mem) (l : Nat) (hl : l < nn (R 5)) (f up : Nat) (hf : 100 ≤ f ∧ f < 200) (hup : up < 100) (hQ : Q (some (.int (ob (decide (R (23 + 6 * S_cab R (nn (R (77 + 7 * l + 1))) + 4) = 0))))) (am_SK n) mem) : am_ev kc_X9_isFed (d + 1) 16 [some (.ref t), some (.ref (t + 22 + l)), some (.int (nI f)), some (.int (nI up))] [] (am_SK n) mem Q := by
  have hg := ht.ge
  have hb := wb_all (cp_w hC)
  have hj := cp_jl hC hl
  have hcb := cp_cab hC hj
  obtain ⟨⟨ek, gk⟩, -⟩ := (cp_w hC).2.2.2.2.1 l hl
  refine ev_iload rfl rfl ?_
  refine ev_iconst (x := nI 12) rfl rfl ?_
  refine ev_icmp_geN (p2 := 60) rfl rfl (fun cnd19 => ?_) (fun cnd19 => ?_)
  · skip
    exact l_X9_isFed_out ht hC l hl _ _ hQ
  · skip
    refine ev_aload rfl rfl ?_
    refine ev_iload rfl rfl ?_
    refine ev_callV rfl rfl rfl rfl (Nat.le_of_ble_eq_true rfl) (Nat.le_of_ble_eq_true rfl) ?_ (hq := kt_0 n ht)
    refine c_X9_hasJoint ht hC _ ?_
    change am_ev _ _ _ _ (_ :: _) _ _ _
    refine ev_if_eqB (p2 := 60) rfl rfl (fun cnd27 => ?_) (fun cnd27 => ?_)
    · skip
      exact l_X9_isFed_out ht hC l hl _ _ hQ
    · skip
      exfalso
      obtain ⟨z1, z2⟩ := am_idx (cp_w hC).2.1.2.1.1 (by omega) cnd27
      rw [nn_nI (by omega)] at z2
      omega
theorem l_X9_isFed {d n : Nat} {mem : am_M} {Q : am_P} {t : Nat} {R : am_R} (ht : am_T t) (hC : CplT t R mem) (l : Nat) (hl : l < nn (R 5)) (f up : Nat) (hf : f < nn (R 4)) (hup : f + up < 12) (hcab : S_cab R f = S_cab R (nn (R (77 + 7 * l + 1)))) (hQ : Q (some (.int (ob (S_way R f)))) (am_SK n) mem) : am_ev kc_X9_isFed (d + 1) 16 [some (.ref t), some (.ref (t + 22 + l)), some (.int (nI f)), some (.int (nI up))] [] (am_SK n) mem Q := by
  induction f using Nat.strongRecOn generalizing up with
  | ind f ih =>
    have hg := ht.ge
    have hb := wb_all (cp_w hC)
    obtain ⟨⟨e1, g1⟩, -, b1⟩ := (cp_w hC).2.2.2.1 f hf
    refine ev_iload rfl rfl ?_
    refine ev_iconst (x := nI 12) rfl rfl ?_
    refine ev_icmp_geN (p2 := 60) rfl rfl (fun cnd19 => ?_) (fun cnd19 => ?_)
    · omega
    · skip
      refine ev_aload rfl rfl ?_
      refine ev_iload rfl rfl ?_
      refine ev_callV rfl rfl rfl rfl (Nat.le_of_ble_eq_true rfl) (Nat.le_of_ble_eq_true rfl) ?_ (hq := kt_0 n ht)
      refine c_X9_hasJoint ht hC _ ?_
      change am_ev _ _ _ _ (_ :: _) _ _ _
      refine ev_if_eqB (p2 := 60) rfl rfl (fun cnd27 => ?_) (fun cnd27 => ?_)
      · exact absurd (And.intro (nI_pos' (by omega)) ((am_pred (cp_w hC).2.1.2.1.1 (by omega)).mpr (nI_lt hf (by omega)))) cnd27
      · skip
        refine ev_aload rfl rfl ?_
        refine ev_getR (c := 9) (j := 3) rfl ?_ (hq := kt_0 n ht)
        refine ev_iload rfl rfl ?_
        refine ev_aldN rfl rfl ?_ (kr_joint (by omega)) (hq := kt_2 n ht)
        refine ev_getI (c := 3) (j := 3) rfl ?_ (hq := kt_joint n ht (by omega))
        rw [cp_j3 hC (j := f) (by omega)]
        refine ev_if_eq (p2 := 44) rfl rfl (fun cnd39 => ?_) (fun cnd39 => ?_)
        · skip
          refine ev_aload rfl rfl ?_
          refine ev_getR (c := 9) (j := 3) rfl ?_ (hq := kt_0 n ht)
          refine ev_iload rfl rfl ?_
          refine ev_aldN rfl rfl ?_ (kr_joint (by omega)) (hq := kt_2 n ht)
          refine ev_getI (c := 3) (j := 0) rfl ?_ (hq := kt_joint n ht (by omega))
          rw [cp_j0 hC (j := f) (by omega)]
          refine ev_istore rfl rfl (Nat.le_of_ble_eq_true rfl) ?_
          refine ev_iincN rfl rfl rfl ?_
          refine ev_goto (p2 := 16) rfl rfl ?_
          have hnb : ¬ R (41 + 3 * f + 2) = 1 := fun z => (is01n b1).mpr z cnd39
          rcases g1 with g1 | g1
          · rw [S_way_eq hnb g1] at hQ
            exact ih _ g1 _ (by omega) (by omega) (by rw [← S_cab_eq g1]; exact hcab) hQ
          · rw [S_way_top hnb (by omega)] at hQ
            rw [S_cab_top (by omega)] at hcab
            rw [hcab] at hQ
            exact l_X9_isFed_top ht hC l hl _ _ (by omega) (by omega) hQ
        · skip
          refine ev_iconst (x := nI 0) rfl rfl ?_
          refine ev_zret rfl ?_
          rw [S_way_brk ((is01n b1).mp cnd39)] at hQ
          exact hQ
theorem c_X9_isFed {d n : Nat} {mem : am_M} {Q : am_P} {t : Nat} {R : am_R} (ht : am_T t) (hC : CplT t R mem) (l : Nat) (hl : l < nn (R 5)) (hQ : Q (some (.int (ob (S_fed R l)))) (am_SK n) mem) : am_ex (d + 2) 59 [.ref t, .ref (t + 22 + l)] (am_SK n) mem Q := by
  have hg := ht.ge
  have hb := wb_all (cp_w hC)
  have hj := cp_jl hC hl
  have hcb := cp_cab hC hj
  obtain ⟨-, -, -, -, -, b5, -⟩ := (cp_w hC).2.2.2.2.1 l hl
  unfold S_fed at hQ
  refine ex_in (c0 := kc_X9_isFed) rfl (L := [some (.ref t), some (.ref (t + 22 + l)), none, none]) rfl ?_
  refine ev_aload rfl rfl ?_
  refine ev_getI (c := 4) (j := 5) rfl ?_ (hq := kt_lamp n ht (by omega))
  rw [cp_l (k := 5) (l := l) hC (by omega) (by decide)]
  refine ev_if_eq (p2 := 9) rfl rfl (fun cnd4 => ?_) (fun cnd4 => ?_)
  · skip
    refine ev_aload rfl rfl ?_
    refine ev_getI (c := 4) (j := 1) rfl ?_ (hq := kt_lamp n ht (by omega))
    rw [cp_l1 hC (l := l) (by omega)]
    refine ev_istore rfl rfl (Nat.le_of_ble_eq_true rfl) ?_
    refine ev_iconst (x := nI 0) rfl rfl ?_
    refine ev_istore rfl rfl (Nat.le_of_ble_eq_true rfl) ?_
    rw [if_neg (fun z => (is01n b5).mpr z cnd4)] at hQ
    exact l_X9_isFed ht hC l hl _ 0 hj (by omega) rfl hQ
  · skip
    refine ev_iconst (x := nI 0) rfl rfl ?_
    refine ev_zret rfl ?_
    rw [if_pos ((is01n b5).mp cnd4)] at hQ
    exact hQ
theorem c_X9_burns {d n : Nat} {mem : am_M} {Q : am_P} {t : Nat} {R : am_R} (ht : am_T t) (hC : CplT t R mem) (l : Nat) (hl : l < nn (R 5)) (hQ : Q (some (.int (ob (S_burns R l)))) (am_SK n) mem) : am_ex (d + 4) 62 [.ref t, .ref (t + 22 + l)] (am_SK n) mem Q := by
  have hg := ht.ge
  have hb := wb_all (cp_w hC)
  refine ex_in (c0 := kc_X9_burns) rfl (L := [some (.ref t), some (.ref (t + 22 + l))]) rfl ?_
  refine ev_aload rfl rfl ?_
  refine ev_aload rfl rfl ?_
  refine ev_callV rfl rfl rfl rfl (Nat.le_of_ble_eq_true rfl) (Nat.le_of_ble_eq_true rfl) ?_ (hq := kt_0 n ht)
  refine c_X9_should ht hC l hl ?_
  change am_ev _ _ _ _ (_ :: _) _ _ _
  refine ev_if_eqO (p2 := 20) rfl rfl (fun cnd5 => ?_) (fun cnd5 => ?_)
  · skip
    refine ev_iconst (x := nI 0) rfl rfl ?_
    refine ev_zret rfl ?_
    refine am_leaf hQ ?_
    unfold S_burns
    first | (rw [cnd5, cnd13]; rfl) | (rw [cnd5]; rfl)
  · skip
    refine ev_aload rfl rfl ?_
    refine ev_aload rfl rfl ?_
    refine ev_callV rfl rfl rfl rfl (Nat.le_of_ble_eq_true rfl) (Nat.le_of_ble_eq_true rfl) ?_ (hq := kt_0 n ht)
    refine c_X9_isFed ht hC l hl ?_
    change am_ev _ _ _ _ (_ :: _) _ _ _
    refine ev_if_eqO (p2 := 20) rfl rfl (fun cnd13 => ?_) (fun cnd13 => ?_)
    · skip
      refine ev_iconst (x := nI 0) rfl rfl ?_
      refine ev_zret rfl ?_
      refine am_leaf hQ ?_
      unfold S_burns
      first | (rw [cnd5, cnd13]; rfl) | (rw [cnd5]; rfl)
    · skip
      refine ev_iconst (x := nI 1) rfl rfl ?_
      refine ev_goto (p2 := 21) rfl rfl ?_
      refine ev_zret rfl ?_
      refine am_leaf hQ ?_
      unfold S_burns
      first | (rw [cnd5, cnd13]; rfl) | (rw [cnd5]; rfl)
