/-! the reference: night, cabinets, who should burn, who is fed -/
def ob (b : Bool) : Int32 := if b = true then 1 else 0
theorem ob01 (b : Bool) : ob b = 0 ∨ ob b = 1 := by cases b <;> decide
theorem ob0 {b : Bool} : ob b = 0 ↔ b = false := by cases b <;> decide
theorem obn0 {b : Bool} : ¬ ob b = 0 ↔ b = true := by cases b <;> decide
theorem nI_z {a : Nat} (h : a < 2 ^ 31) : nI a = 0 ↔ a = 0 := nI_eq h (by decide)
theorem am_add_toInt {x y : Int32} (h1 : -2147483648 ≤ x.toInt + y.toInt) (h2 : x.toInt + y.toInt < 2147483648) : (x + y).toInt = x.toInt + y.toInt := by
  rw [Int32.toInt_add]; exact Int.bmod_eq_of_le (by omega) (by omega)
theorem am_sub_toInt {x y : Int32} (h1 : -2147483648 ≤ x.toInt - y.toInt) (h2 : x.toInt - y.toInt < 2147483648) : (x - y).toInt = x.toInt - y.toInt := by
  rw [Int32.toInt_sub]; exact Int.bmod_eq_of_le (by omega) (by omega)
theorem am_nI_of {x : Int32} {m : Nat} (hm : m < 2 ^ 31) (h : x.toInt = (m : Int)) : x = nI m := by
  apply Int32.toInt_inj.mp
  rw [h, nI_toInt hm]
/-- the hour of a cabinet's own clock -/
def S_tm (h : Nat) (sh : Int) : Nat := (((h : Int) - sh + 24) % 24).toNat
theorem S_tm_lt (h : Nat) (sh : Int) : S_tm h sh < 24 := by unfold S_tm; omega
theorem S_tm_eq {h : Nat} {y : Int32} (hh : h < 24) (h1 : -3 ≤ y.toInt) (h2 : y.toInt ≤ 3) : (nI h - y + nI 24) - (nI h - y + nI 24) / nI 24 * nI 24 = nI (S_tm h y.toInt) := by
  have e0 : (nI h).toInt = (h : Int) := nI_toInt (by omega)
  have e1 : (nI h - y).toInt = (h : Int) - y.toInt := by rw [am_sub_toInt (by omega) (by omega), e0]
  have e24 : (nI 24).toInt = 24 := rfl
  have e2 : (nI h - y + nI 24).toInt = (h : Int) - y.toInt + 24 := by rw [am_add_toInt (by omega) (by omega), e1, e24]
  have e3 : nI h - y + nI 24 = nI ((h : Int) - y.toInt + 24).toNat := am_nI_of (by omega) (by rw [e2]; omega)
  rw [e3, pk_rem (by omega) (by decide) (by decide)]
  congr 1
  unfold S_tm
  omega
def S_nt (on off t : Nat) : Bool := decide ((on < off ∧ on ≤ t ∧ t < off) ∨ (off < on ∧ (on ≤ t ∨ t < off)))
def S_night (R : am_R) (c : Nat) : Bool := S_nt (nn (R (23 + 6 * c + 1))) (nn (R (23 + 6 * c + 2))) (S_tm (nn (R 0)) (R (23 + 6 * c + 3)).toInt)
def S_should (R : am_R) (l : Nat) : Bool := if nn (R (77 + 7 * l)) = 2 then true else if nn (R (77 + 7 * l)) = 4 then decide (nn (R 1) % nn (R 2) = 0) else S_night R (S_cab R (nn (R (77 + 7 * l + 1))))
def S_fed (R : am_R) (l : Nat) : Bool := if R (77 + 7 * l + 5) = 1 then false else S_way R (nn (R (77 + 7 * l + 1)))
def S_burns (R : am_R) (l : Nat) : Bool := S_should R l && S_fed R l
theorem c_X12_isNight {d n : Nat} {mem : am_M} {Q : am_P} (hw : wfR (mem 222)) (c : Nat) (hc : c < nn (mem 222 3)) (hQ : Q (some (.int (ob (S_night (mem 222) c)))) (am_SK n) mem) : am_ex (d + 2) 154 [.ref 221, .int (nI c)] (am_SK n) mem Q := by
  have hr3 : nn (mem 222 3) < 4 := hw.2.1.1.2
  obtain ⟨-, ⟨e1, g1⟩, ⟨e2, g2⟩, ⟨g3, g4⟩, -⟩ := hw.2.2.1 c hc
  have hh := hw.1.1
  unfold S_night at hQ
  have htm := S_tm_eq (y := mem 222 (23 + 6 * c + 3)) hh.2 g3 g4
  generalize hte : S_tm (nn (mem 222 0)) (mem 222 (23 + 6 * c + 3)).toInt = t at htm hQ
  have ht : t < 24 := by rw [← hte]; exact S_tm_lt _ _
  rw [← hh.1] at htm
  generalize nn (mem 222 (23 + 6 * c + 1)) = on at e1 g1 hQ
  generalize nn (mem 222 (23 + 6 * c + 2)) = off at e2 g2 hQ
  refine ex_in (c0 := kc_X12_isNight) rfl (L := [some (.ref 221), some (.int (nI c)), none, none, none]) rfl ?_
  refine ev_aload rfl rfl ?_
  refine ev_getR (c := 12) (j := 0) rfl ?_ (hq := k_221 n)
  refine ev_iconst (x := nI 0) rfl rfl ?_
  refine ev_ialdN rfl (m := 0) (rfl) ?_ (hq := k_222 n)
  refine ev_aload rfl rfl ?_
  refine ev_iload rfl rfl ?_
  refine ev_iconst (x := nI 3) rfl rfl ?_
  refine ev_call rfl rfl ?_
  refine c_X12_cab6 (a := c) (w := 3) (by omega) ?_
  change am_ev _ _ _ _ (_ :: _) _ _ _
  refine ev_isub rfl ?_
  refine ev_iconst (x := nI 24) rfl rfl ?_
  refine ev_iadd rfl ?_
  refine ev_iconst (x := nI 24) rfl rfl ?_
  refine ev_irem rfl ?_
  rw [htm]
  refine ev_istore rfl rfl (Nat.le_of_ble_eq_true rfl) ?_
  refine ev_aload rfl rfl ?_
  refine ev_iload rfl rfl ?_
  refine ev_iconst (x := nI 1) rfl rfl ?_
  refine ev_call rfl rfl ?_
  refine c_X12_cab6 (a := c) (w := 1) (by omega) ?_
  rw [e1]
  change am_ev _ _ _ _ (_ :: _) _ _ _
  refine ev_istore rfl rfl (Nat.le_of_ble_eq_true rfl) ?_
  refine ev_aload rfl rfl ?_
  refine ev_iload rfl rfl ?_
  refine ev_iconst (x := nI 2) rfl rfl ?_
  refine ev_call rfl rfl ?_
  refine c_X12_cab6 (a := c) (w := 2) (by omega) ?_
  rw [e2]
  change am_ev _ _ _ _ (_ :: _) _ _ _
  refine ev_istore rfl rfl (Nat.le_of_ble_eq_true rfl) ?_
  refine ev_iload rfl rfl ?_
  refine ev_iload rfl rfl ?_
  refine ev_icmp_ge (p2 := 60) rfl rfl (fun cnd38 => ?_) (fun cnd38 => ?_)
  · skip
    refine ev_iload rfl rfl ?_
    refine ev_iload rfl rfl ?_
    refine ev_icmp_le (p2 := 81) rfl rfl (fun cnd63 => ?_) (fun cnd63 => ?_)
    · skip
      refine ev_iconst (x := nI 0) rfl rfl ?_
      refine ev_zret rfl ?_
      refine am_leaf hQ ?_
      simp only [Int32.lt_iff_toInt_lt, Int32.le_iff_toInt_le, nI_toInt (show on < 2 ^ 31 by omega), nI_toInt (show off < 2 ^ 31 by omega), nI_toInt (show t < 2 ^ 31 by omega)] at *
      first | (rw [show S_nt on off t = true from decide_eq_true (by omega)]; rfl) | (rw [show S_nt on off t = false from decide_eq_false (by omega)]; rfl)
    · skip
      refine ev_iload rfl rfl ?_
      refine ev_iload rfl rfl ?_
      refine ev_icmp_ge (p2 := 77) rfl rfl (fun cnd68 => ?_) (fun cnd68 => ?_)
      · skip
        refine ev_iconst (x := nI 1) rfl rfl ?_
        refine ev_goto (p2 := 82) rfl rfl ?_
        refine ev_zret rfl ?_
        refine am_leaf hQ ?_
        simp only [Int32.lt_iff_toInt_lt, Int32.le_iff_toInt_le, nI_toInt (show on < 2 ^ 31 by omega), nI_toInt (show off < 2 ^ 31 by omega), nI_toInt (show t < 2 ^ 31 by omega)] at *
        first | (rw [show S_nt on off t = true from decide_eq_true (by omega)]; rfl) | (rw [show S_nt on off t = false from decide_eq_false (by omega)]; rfl)
      · skip
        refine ev_iload rfl rfl ?_
        refine ev_iload rfl rfl ?_
        refine ev_icmp_ge (p2 := 81) rfl rfl (fun cnd74 => ?_) (fun cnd74 => ?_)
        · skip
          refine ev_iconst (x := nI 0) rfl rfl ?_
          refine ev_zret rfl ?_
          refine am_leaf hQ ?_
          simp only [Int32.lt_iff_toInt_lt, Int32.le_iff_toInt_le, nI_toInt (show on < 2 ^ 31 by omega), nI_toInt (show off < 2 ^ 31 by omega), nI_toInt (show t < 2 ^ 31 by omega)] at *
          first | (rw [show S_nt on off t = true from decide_eq_true (by omega)]; rfl) | (rw [show S_nt on off t = false from decide_eq_false (by omega)]; rfl)
        · skip
          refine ev_iconst (x := nI 1) rfl rfl ?_
          refine ev_goto (p2 := 82) rfl rfl ?_
          refine ev_zret rfl ?_
          refine am_leaf hQ ?_
          simp only [Int32.lt_iff_toInt_lt, Int32.le_iff_toInt_le, nI_toInt (show on < 2 ^ 31 by omega), nI_toInt (show off < 2 ^ 31 by omega), nI_toInt (show t < 2 ^ 31 by omega)] at *
          first | (rw [show S_nt on off t = true from decide_eq_true (by omega)]; rfl) | (rw [show S_nt on off t = false from decide_eq_false (by omega)]; rfl)
  · skip
    refine ev_iload rfl rfl ?_
    refine ev_iload rfl rfl ?_
    refine ev_icmp_lt (p2 := 56) rfl rfl (fun cnd43 => ?_) (fun cnd43 => ?_)
    · skip
      refine ev_iconst (x := nI 0) rfl rfl ?_
      refine ev_goto (p2 := 82) rfl rfl ?_
      refine ev_zret rfl ?_
      refine am_leaf hQ ?_
      simp only [Int32.lt_iff_toInt_lt, Int32.le_iff_toInt_le, nI_toInt (show on < 2 ^ 31 by omega), nI_toInt (show off < 2 ^ 31 by omega), nI_toInt (show t < 2 ^ 31 by omega)] at *
      first | (rw [show S_nt on off t = true from decide_eq_true (by omega)]; rfl) | (rw [show S_nt on off t = false from decide_eq_false (by omega)]; rfl)
    · skip
      refine ev_iload rfl rfl ?_
      refine ev_iload rfl rfl ?_
      refine ev_icmp_ge (p2 := 56) rfl rfl (fun cnd49 => ?_) (fun cnd49 => ?_)
      · skip
        refine ev_iconst (x := nI 0) rfl rfl ?_
        refine ev_goto (p2 := 82) rfl rfl ?_
        refine ev_zret rfl ?_
        refine am_leaf hQ ?_
        simp only [Int32.lt_iff_toInt_lt, Int32.le_iff_toInt_le, nI_toInt (show on < 2 ^ 31 by omega), nI_toInt (show off < 2 ^ 31 by omega), nI_toInt (show t < 2 ^ 31 by omega)] at *
        first | (rw [show S_nt on off t = true from decide_eq_true (by omega)]; rfl) | (rw [show S_nt on off t = false from decide_eq_false (by omega)]; rfl)
      · skip
        refine ev_iconst (x := nI 1) rfl rfl ?_
        refine ev_goto (p2 := 82) rfl rfl ?_
        refine ev_zret rfl ?_
        refine am_leaf hQ ?_
        simp only [Int32.lt_iff_toInt_lt, Int32.le_iff_toInt_le, nI_toInt (show on < 2 ^ 31 by omega), nI_toInt (show off < 2 ^ 31 by omega), nI_toInt (show t < 2 ^ 31 by omega)] at *
        first | (rw [show S_nt on off t = true from decide_eq_true (by omega)]; rfl) | (rw [show S_nt on off t = false from decide_eq_false (by omega)]; rfl)
theorem c_X12_cabOf {d n : Nat} {mem : am_M} {Q : am_P} (hw : wfR (mem 222)) (j : Nat) (hj : j < nn (mem 222 4)) (hQ : Q (some (.int (nI (S_cab (mem 222) j)))) (am_SK n) mem) : am_ex (d + 2) 155 [.ref 221, .int (nI j)] (am_SK n) mem Q := by
  refine ex_in (c0 := kc_X12_cabOf) rfl (L := [some (.ref 221), some (.int (nI j)), none]) rfl ?_
  refine ev_iload rfl rfl ?_
  refine ev_istore rfl rfl (Nat.le_of_ble_eq_true rfl) ?_
  exact l_X12_cabOf hw j hj _ hQ
theorem c_X12_shouldBurn {d n : Nat} {mem : am_M} {Q : am_P} (hw : wfR (mem 222)) (l : Nat) (hl : l < nn (mem 222 5)) (hQ : Q (some (.int (ob (S_should (mem 222) l)))) (am_SK n) mem) : am_ex (d + 3) 156 [.ref 221, .int (nI l)] (am_SK n) mem Q := by
  have hr5 : nn (mem 222 5) < 17 := hw.2.1.2.2.1.2
  obtain ⟨⟨e1, g1⟩, ⟨e2, g2⟩, -⟩ := hw.2.2.2.2.1 l hl
  obtain ⟨⟨e3, g3⟩, ⟨e4, g4⟩, g5⟩ := hw.1.2
  have hcab := S_cab_lt hw _ g2
  have hy0 : ¬ nI (nn (mem 222 2)) = 0 := by rw [nI_z (by omega)]; omega
  unfold S_should at hQ
  generalize nn (mem 222 (77 + 7 * l)) = kd at e1 g1 hQ
  refine ex_in (c0 := kc_X12_shouldBurn) rfl (L := [some (.ref 221), some (.int (nI l)), none]) rfl ?_
  refine ev_aload rfl rfl ?_
  refine ev_iload rfl rfl ?_
  refine ev_iconst (x := nI 0) rfl rfl ?_
  refine ev_call rfl rfl ?_
  refine c_X12_lamp7 (a := l) (w := 0) (by omega) ?_
  rw [show mem 222 (77 + 7 * l + 0) = nI kd from e1]
  change am_ev _ _ _ _ (_ :: _) _ _ _
  refine ev_istore rfl rfl (Nat.le_of_ble_eq_true rfl) ?_
  refine ev_iload rfl rfl ?_
  refine ev_iconst (x := nI 2) rfl rfl ?_
  refine ev_icmp_ne (p2 := 14) rfl rfl (fun cnd9 => ?_) (fun cnd9 => ?_)
  · skip
    refine ev_iload rfl rfl ?_
    refine ev_iconst (x := nI 4) rfl rfl ?_
    refine ev_icmp_ne (p2 := 43) rfl rfl (fun cnd16 => ?_) (fun cnd16 => ?_)
    · skip
      refine ev_aload rfl rfl ?_
      refine ev_aload rfl rfl ?_
      refine ev_aload rfl rfl ?_
      refine ev_iload rfl rfl ?_
      refine ev_iconst (x := nI 1) rfl rfl ?_
      refine ev_call rfl rfl ?_
      refine c_X12_lamp7 (a := l) (w := 1) (by omega) ?_
      rw [e2]
      change am_ev _ _ _ _ (_ :: _) _ _ _
      refine ev_call rfl rfl ?_
      refine c_X12_cabOf hw _ g2 ?_
      change am_ev _ _ _ _ (_ :: _) _ _ _
      refine ev_call rfl rfl ?_
      refine c_X12_isNight hw _ hcab ?_
      change am_ev _ _ _ _ (_ :: _) _ _ _
      refine ev_zret rfl ?_
      refine am_leaf hQ ?_
      rw [nI_eq (by omega) (by decide)] at cnd9
      first | (rw [if_pos cnd9]; rfl) | skip
      all_goals rw [nI_eq (by omega) (by decide)] at cnd16
      all_goals rw [if_neg cnd9]
      all_goals first | (rw [if_neg cnd16]; done) | rw [if_pos cnd16]
      all_goals rw [nI_z (Nat.lt_trans (Nat.mod_lt _ g5) (by omega))] at cnd32
      all_goals first | (rw [decide_eq_true cnd32]; rfl) | (rw [decide_eq_false cnd32]; rfl)
    · skip
      refine ev_aload rfl rfl ?_
      refine ev_getR (c := 12) (j := 0) rfl ?_ (hq := k_221 n)
      refine ev_iconst (x := nI 1) rfl rfl ?_
      refine ev_ialdN rfl (m := 1) (rfl) ?_ (hq := k_222 n)
      refine ev_aload rfl rfl ?_
      refine ev_getR (c := 12) (j := 0) rfl ?_ (hq := k_221 n)
      refine ev_iconst (x := nI 2) rfl rfl ?_
      refine ev_ialdN rfl (m := 2) (rfl) ?_ (hq := k_222 n)
      rw [e3, e4]
      refine ev_irem rfl ?_
      rw [pk_rem (by omega) (by omega) (by omega)]
      refine ev_if_ne (p2 := 39) rfl rfl (fun cnd32 => ?_) (fun cnd32 => ?_)
      · skip
        refine ev_iconst (x := nI 0) rfl rfl ?_
        refine ev_goto (p2 := 57) rfl rfl ?_
        refine ev_zret rfl ?_
        refine am_leaf hQ ?_
        rw [nI_eq (by omega) (by decide)] at cnd9
        first | (rw [if_pos cnd9]; rfl) | skip
        all_goals rw [nI_eq (by omega) (by decide)] at cnd16
        all_goals rw [if_neg cnd9]
        all_goals first | (rw [if_neg cnd16]; done) | rw [if_pos cnd16]
        all_goals rw [nI_z (Nat.lt_trans (Nat.mod_lt _ g5) (by omega))] at cnd32
        all_goals first | (rw [decide_eq_true cnd32]; rfl) | (rw [decide_eq_false cnd32]; rfl)
      · skip
        refine ev_iconst (x := nI 1) rfl rfl ?_
        refine ev_goto (p2 := 57) rfl rfl ?_
        refine ev_zret rfl ?_
        refine am_leaf hQ ?_
        rw [nI_eq (by omega) (by decide)] at cnd9
        first | (rw [if_pos cnd9]; rfl) | skip
        all_goals rw [nI_eq (by omega) (by decide)] at cnd16
        all_goals rw [if_neg cnd9]
        all_goals first | (rw [if_neg cnd16]; done) | rw [if_pos cnd16]
        all_goals rw [nI_z (Nat.lt_trans (Nat.mod_lt _ g5) (by omega))] at cnd32
        all_goals first | (rw [decide_eq_true cnd32]; rfl) | (rw [decide_eq_false cnd32]; rfl)
  · skip
    refine ev_iconst (x := nI 1) rfl rfl ?_
    refine ev_zret rfl ?_
    refine am_leaf hQ ?_
    rw [nI_eq (by omega) (by decide)] at cnd9
    first | (rw [if_pos cnd9]; rfl) | skip
    all_goals rw [nI_eq (by omega) (by decide)] at cnd16
    all_goals rw [if_neg cnd9]
    all_goals first | (rw [if_neg cnd16]; done) | rw [if_pos cnd16]
    all_goals rw [nI_z (Nat.lt_trans (Nat.mod_lt _ g5) (by omega))] at cnd32
    all_goals first | (rw [decide_eq_true cnd32]; rfl) | (rw [decide_eq_false cnd32]; rfl)
/-- from a joint or a cabinet (by its number and 100) up -/
def S_wayF (R : am_R) (f : Nat) : Bool := if f < 100 then S_way R f else decide (R (23 + 6 * (f - 100) + 4) = 0)
theorem l_X12_isFed_top {d n : Nat} {mem : am_M} {Q : am_P} (hw : wfR (mem 222)) (f : Nat) (hf : 100 ≤ f ∧ f < 100 + nn (mem 222 3)) (x : Option Value) (hQ : Q (some (.int (ob (decide (mem 222 (23 + 6 * (f - 100) + 4) = 0))))) (am_SK n) mem) : am_ev kc_X12_isFed (d + 1) 19 [some (.ref 221), x, some (.int (nI f))] [] (am_SK n) mem Q := by
  have hr3 : nn (mem 222 3) < 4 := hw.2.1.1.2
  have hf31 : f < 2 ^ 31 := by omega
  refine ev_iload rfl rfl ?_
  refine ev_iconst (x := nI 100) rfl rfl ?_
  refine ev_icmp_ge (p2 := 47) rfl rfl (fun cnd22 => ?_) (fun cnd22 => ?_)
  · skip
    refine ev_aload rfl rfl ?_
    refine ev_iload rfl rfl ?_
    refine ev_iconst (x := nI 100) rfl rfl ?_
    refine ev_isub rfl ?_
    rw [pk_sub hf.1]
    refine ev_iconst (x := nI 4) rfl rfl ?_
    refine ev_call rfl rfl ?_
    refine c_X12_cab6 (a := f - 100) (w := 4) (by omega) ?_
    change am_ev _ _ _ _ (_ :: _) _ _ _
    refine ev_if_ne (p2 := 63) rfl rfl (fun cnd56 => ?_) (fun cnd56 => ?_)
    · skip
      refine ev_iconst (x := nI 0) rfl rfl ?_
      refine ev_zret rfl ?_
      refine am_leaf hQ ?_
      first | (rw [decide_eq_true cnd56]; rfl) | (rw [decide_eq_false cnd56]; rfl)
    · skip
      refine ev_iconst (x := nI 1) rfl rfl ?_
      refine ev_goto (p2 := 64) rfl rfl ?_
      refine ev_zret rfl ?_
      refine am_leaf hQ ?_
      first | (rw [decide_eq_true cnd56]; rfl) | (rw [decide_eq_false cnd56]; rfl)
  · exact absurd ((nI_leI (by decide) hf31).mpr hf.1) cnd22
theorem l_X12_isFed {d n : Nat} {mem : am_M} {Q : am_P} (hw : wfR (mem 222)) (f : Nat) (hf : f < nn (mem 222 4)) (x : Option Value) (hQ : Q (some (.int (ob (S_way (mem 222) f)))) (am_SK n) mem) : am_ev kc_X12_isFed (d + 1) 19 [some (.ref 221), x, some (.int (nI f))] [] (am_SK n) mem Q := by
  induction f using Nat.strongRecOn generalizing x with
  | ind f ih =>
    have hr4 : nn (mem 222 4) < 13 := hw.2.1.2.1.2
    have hr3 : nn (mem 222 3) < 4 := hw.2.1.1.2
    have hf31 : f < 2 ^ 31 := by omega
    refine ev_iload rfl rfl ?_
    refine ev_iconst (x := nI 100) rfl rfl ?_
    refine ev_icmp_ge (p2 := 47) rfl rfl (fun cnd22 => ?_) (fun cnd22 => ?_)
    · exact absurd ((nI_leI (by decide) hf31).mp cnd22) (by omega)
    · skip
      refine ev_aload rfl rfl ?_
      refine ev_iload rfl rfl ?_
      refine ev_iconst (x := nI 2) rfl rfl ?_
      refine ev_call rfl rfl ?_
      refine c_X12_joint3 (a := f) (w := 2) (by omega) ?_
      change am_ev _ _ _ _ (_ :: _) _ _ _
      refine ev_iconst (x := nI 1) rfl rfl ?_
      refine ev_icmp_ne (p2 := 37) rfl rfl (fun cnd32 => ?_) (fun cnd32 => ?_)
      · skip
        refine ev_aload rfl rfl ?_
        refine ev_iload rfl rfl ?_
        refine ev_iconst (x := nI 0) rfl rfl ?_
        refine ev_call rfl rfl ?_
        refine c_X12_joint3 (a := f) (w := 0) (by omega) ?_
        change am_ev _ _ _ _ (_ :: _) _ _ _
        refine ev_istore rfl rfl (Nat.le_of_ble_eq_true rfl) ?_
        refine ev_goto (p2 := 19) rfl rfl ?_
        obtain ⟨⟨e1, g1⟩, -, -⟩ := hw.2.2.2.1 f hf
        rw [show mem 222 (41 + 3 * f + 0) = nI (nn (mem 222 (41 + 3 * f))) from e1]
        rw [S_way, if_neg (show ¬ mem 222 (41 + 3 * f + 2) = 1 from cnd32)] at hQ
        rcases g1 with g1 | g1
        · rw [dif_pos g1] at hQ
          exact ih _ g1 (by omega) _ hQ
        · rw [dif_neg (by omega)] at hQ
          exact l_X12_isFed_top hw _ g1 _ hQ
      · skip
        refine ev_iconst (x := nI 0) rfl rfl ?_
        refine ev_zret rfl ?_
        rw [S_way, if_pos (show mem 222 (41 + 3 * f + 2) = 1 from cnd32)] at hQ
        exact hQ
theorem c_X12_isFed {d n : Nat} {mem : am_M} {Q : am_P} (hw : wfR (mem 222)) (l : Nat) (hl : l < nn (mem 222 5)) (hQ : Q (some (.int (ob (S_fed (mem 222) l)))) (am_SK n) mem) : am_ex (d + 2) 157 [.ref 221, .int (nI l)] (am_SK n) mem Q := by
  have hr5 : nn (mem 222 5) < 17 := hw.2.1.2.2.1.2
  obtain ⟨-, ⟨e2, g2⟩, -⟩ := hw.2.2.2.2.1 l hl
  unfold S_fed at hQ
  refine ex_in (c0 := kc_X12_isFed) rfl (L := [some (.ref 221), some (.int (nI l)), none]) rfl ?_
  refine ev_aload rfl rfl ?_
  refine ev_iload rfl rfl ?_
  refine ev_iconst (x := nI 5) rfl rfl ?_
  refine ev_call rfl rfl ?_
  refine c_X12_lamp7 (a := l) (w := 5) (by omega) ?_
  change am_ev _ _ _ _ (_ :: _) _ _ _
  refine ev_iconst (x := nI 1) rfl rfl ?_
  refine ev_icmp_ne (p2 := 12) rfl rfl (fun cnd7 => ?_) (fun cnd7 => ?_)
  · skip
    refine ev_aload rfl rfl ?_
    refine ev_iload rfl rfl ?_
    refine ev_iconst (x := nI 1) rfl rfl ?_
    refine ev_call rfl rfl ?_
    refine c_X12_lamp7 (a := l) (w := 1) (by omega) ?_
    rw [e2]
    change am_ev _ _ _ _ (_ :: _) _ _ _
    refine ev_istore rfl rfl (Nat.le_of_ble_eq_true rfl) ?_
    rw [if_neg (show ¬ mem 222 (77 + 7 * l + 5) = 1 from cnd7)] at hQ
    exact l_X12_isFed hw _ g2 _ hQ
  · skip
    refine ev_iconst (x := nI 0) rfl rfl ?_
    refine ev_zret rfl ?_
    rw [if_pos (show mem 222 (77 + 7 * l + 5) = 1 from cnd7)] at hQ
    exact hQ
theorem c_X12_burns {d n : Nat} {mem : am_M} {Q : am_P} (hw : wfR (mem 222)) (l : Nat) (hl : l < nn (mem 222 5)) (hQ : Q (some (.int (ob (S_burns (mem 222) l)))) (am_SK n) mem) : am_ex (d + 4) 158 [.ref 221, .int (nI l)] (am_SK n) mem Q := by
  refine ex_in (c0 := kc_X12_burns) rfl (L := [some (.ref 221), some (.int (nI l))]) rfl ?_
  refine ev_aload rfl rfl ?_
  refine ev_iload rfl rfl ?_
  refine ev_call rfl rfl ?_
  refine c_X12_shouldBurn hw l hl ?_
  change am_ev _ _ _ _ (_ :: _) _ _ _
  refine ev_if_eq (p2 := 20) rfl rfl (fun cnd5 => ?_) (fun cnd5 => ?_)
  · skip
    refine ev_iconst (x := nI 0) rfl rfl ?_
    refine ev_zret rfl ?_
    refine am_leaf hQ ?_
    unfold S_burns
    generalize S_should (mem 222) l = pA at *
    generalize S_fed (mem 222) l = pB at *
    cases pA <;> cases pB <;> first | rfl | exact absurd rfl (by assumption) | exact absurd (by assumption) (by decide) | (revert cnd5; decide) | (revert cnd13; decide)
  · skip
    refine ev_aload rfl rfl ?_
    refine ev_iload rfl rfl ?_
    refine ev_call rfl rfl ?_
    refine c_X12_isFed hw l hl ?_
    change am_ev _ _ _ _ (_ :: _) _ _ _
    refine ev_if_eq (p2 := 20) rfl rfl (fun cnd13 => ?_) (fun cnd13 => ?_)
    · skip
      refine ev_iconst (x := nI 0) rfl rfl ?_
      refine ev_zret rfl ?_
      refine am_leaf hQ ?_
      unfold S_burns
      generalize S_should (mem 222) l = pA at *
      generalize S_fed (mem 222) l = pB at *
      cases pA <;> cases pB <;> first | rfl | exact absurd rfl (by assumption) | exact absurd (by assumption) (by decide) | (revert cnd5; decide) | (revert cnd13; decide)
    · skip
      refine ev_iconst (x := nI 1) rfl rfl ?_
      refine ev_goto (p2 := 21) rfl rfl ?_
      refine ev_zret rfl ?_
      refine am_leaf hQ ?_
      unfold S_burns
      generalize S_should (mem 222) l = pA at *
      generalize S_fed (mem 222) l = pB at *
      cases pA <;> cases pB <;> first | rfl | exact absurd rfl (by assumption) | exact absurd (by assumption) (by decide) | (revert cnd5; decide) | (revert cnd13; decide)
