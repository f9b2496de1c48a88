/-! the reference: calls about the town -/
theorem c_X12_cabinet {d n : Nat} {mem : am_M} {Q : am_P} {R : am_R} (hR : mem 222 = R) (hw : wfR R) (p k : Int32) (hQ : ∀ m2 : am_M, FrR mem m2 → m2 222 = (O_cabinet R p k).2 → Q (some (.int (O_cabinet R p k).1)) (am_SK n) m2) : am_ex (d + 3) 153 [.ref 221, .int p, .int k] (am_SK n) mem Q := by
  have hb := wb_all hw
  have hfr := Hfr0 mem
  unfold O_cabinet at hQ
  refine ex_in (c0 := kc_X12_cabinet) rfl (L := [some (.ref 221), some (.int p), some (.int k), none]) rfl ?_
  refine ev_iload rfl rfl ?_
  refine ev_call rfl rfl ?_
  refine c_X12_isPlace _ ?_
  change am_ev _ _ _ _ (_ :: _) _ _ _
  refine ev_if_eqB (p2 := 29) rfl rfl (fun cnd4 => ?_) (fun cnd4 => ?_)
  · skip
    refine ev_iconst (x := (-1000000001)) rfl rfl ?_
    refine ev_iret rfl ?_
    have t23 : (nI 23).toInt = 23 := rfl
    have t24 : (nI 24).toInt = 24 := rfl
    have tz : (0 : Int32).toInt = 0 := rfl
    rw [if_neg (by
      rintro ⟨z1, z2, z3, z4⟩
      first
      | exact cnd4 z1
      | (clear hQ; simp only [Int32.lt_iff_toInt_lt, Int32.le_iff_toInt_le] at *; omega))] at hQ
    exact hQ mem (FrR_refl _) hR
  · skip
    refine ev_iload rfl rfl ?_
    refine ev_if_lt (p2 := 29) rfl rfl (fun cnd8 => ?_) (fun cnd8 => ?_)
    · skip
      refine ev_iconst (x := (-1000000001)) rfl rfl ?_
      refine ev_iret rfl ?_
      have t23 : (nI 23).toInt = 23 := rfl
      have t24 : (nI 24).toInt = 24 := rfl
      have tz : (0 : Int32).toInt = 0 := rfl
      rw [if_neg (by
        rintro ⟨z1, z2, z3, z4⟩
        first
        | exact cnd4 z1
        | (clear hQ; simp only [Int32.lt_iff_toInt_lt, Int32.le_iff_toInt_le] at *; omega))] at hQ
      exact hQ mem (FrR_refl _) hR
    · skip
      refine ev_iload rfl rfl ?_
      refine ev_iconst (x := nI 100) rfl rfl ?_
      refine ev_idiv rfl ?_
      refine ev_iconst (x := nI 23) rfl rfl ?_
      refine ev_icmp_gt (p2 := 29) rfl rfl (fun cnd17 => ?_) (fun cnd17 => ?_)
      · skip
        refine ev_iconst (x := (-1000000001)) rfl rfl ?_
        refine ev_iret rfl ?_
        have t23 : (nI 23).toInt = 23 := rfl
        have t24 : (nI 24).toInt = 24 := rfl
        have tz : (0 : Int32).toInt = 0 := rfl
        rw [if_neg (by
          rintro ⟨z1, z2, z3, z4⟩
          first
          | exact cnd4 z1
          | (clear hQ; simp only [Int32.lt_iff_toInt_lt, Int32.le_iff_toInt_le] at *; omega))] at hQ
        exact hQ mem (FrR_refl _) hR
      · skip
        refine ev_iload rfl rfl ?_
        refine ev_iconst (x := nI 100) rfl rfl ?_
        refine ev_irem rfl ?_
        refine ev_iconst (x := nI 23) rfl rfl ?_
        refine ev_icmp_le (p2 := 32) rfl rfl (fun cnd26 => ?_) (fun cnd26 => ?_)
        · skip
          refine ev_aload rfl rfl ?_
          refine ev_getR (c := 12) (j := 0) rfl ?_ (hq := k_221 n)
          refine ev_iconst (x := nI 3) rfl rfl ?_
          refine ev_ialdN rfl rfl ?_ (hq := k_222 n)
          rw [show mem 222 (3) = nI (nn (R 3)) by rw [hR]; (repeat rw [upd_ne (by omega)]); exact wr3 hw]
          refine ev_iconst (x := nI 3) rfl rfl ?_
          refine ev_icmp_neN (p2 := 45) rfl rfl (fun cnd39 => ?_) (fun cnd39 => ?_)
          · skip
            refine ev_iconst (x := nI 23) rfl rfl ?_
            refine ev_iconst (x := nI 6) rfl rfl ?_
            refine ev_aload rfl rfl ?_
            refine ev_getR (c := 12) (j := 0) rfl ?_ (hq := k_221 n)
            refine ev_iconst (x := nI 3) rfl rfl ?_
            refine ev_ialdN rfl rfl ?_ (hq := k_222 n)
            rw [show mem 222 (3) = nI (nn (R 3)) by rw [hR]; (repeat rw [upd_ne (by omega)]); exact wr3 hw]
            refine ev_imulN rfl ?_
            refine ev_iaddN rfl ?_
            refine ev_istore rfl rfl (Nat.le_of_ble_eq_true rfl) ?_
            refine ev_aload rfl rfl ?_
            refine ev_getR (c := 12) (j := 0) rfl ?_ (hq := k_221 n)
            refine ev_iload rfl rfl ?_
            refine ev_iload rfl rfl ?_
            refine ev_iastR rfl hR hfr (fun mem hfr hR => ?_) (hq := k_222 n)
            refine ev_aload rfl rfl ?_
            refine ev_getR (c := 12) (j := 0) rfl ?_ (hq := k_221 n)
            refine ev_iload rfl rfl ?_
            refine ev_iconst (x := nI 1) rfl rfl ?_
            refine ev_iaddN rfl ?_
            refine ev_iload rfl rfl ?_
            refine ev_iconst (x := nI 100) rfl rfl ?_
            refine ev_idiv rfl ?_
            refine ev_iastR rfl hR hfr (fun mem hfr hR => ?_) (hq := k_222 n)
            refine ev_aload rfl rfl ?_
            refine ev_getR (c := 12) (j := 0) rfl ?_ (hq := k_221 n)
            refine ev_iload rfl rfl ?_
            refine ev_iconst (x := nI 2) rfl rfl ?_
            refine ev_iaddN rfl ?_
            refine ev_iload rfl rfl ?_
            refine ev_iconst (x := nI 100) rfl rfl ?_
            refine ev_irem rfl ?_
            refine ev_iastR rfl hR hfr (fun mem hfr hR => ?_) (hq := k_222 n)
            refine ev_aload rfl rfl ?_
            refine ev_getR (c := 12) (j := 0) rfl ?_ (hq := k_221 n)
            refine ev_iload rfl rfl ?_
            refine ev_iconst (x := nI 3) rfl rfl ?_
            refine ev_iaddN rfl ?_
            refine ev_iconst (x := nI 0) rfl rfl ?_
            refine ev_iastR rfl hR hfr (fun mem hfr hR => ?_) (hq := k_222 n)
            refine ev_aload rfl rfl ?_
            refine ev_getR (c := 12) (j := 0) rfl ?_ (hq := k_221 n)
            refine ev_iload rfl rfl ?_
            refine ev_iconst (x := nI 4) rfl rfl ?_
            refine ev_iaddN rfl ?_
            refine ev_iconst (x := nI 0) rfl rfl ?_
            refine ev_iastR rfl hR hfr (fun mem hfr hR => ?_) (hq := k_222 n)
            refine ev_aload rfl rfl ?_
            refine ev_getR (c := 12) (j := 0) rfl ?_ (hq := k_221 n)
            refine ev_iload rfl rfl ?_
            refine ev_iconst (x := nI 5) rfl rfl ?_
            refine ev_iaddN rfl ?_
            refine ev_iconst (x := nI 0) rfl rfl ?_
            refine ev_iastR rfl hR hfr (fun mem hfr hR => ?_) (hq := k_222 n)
            refine ev_aload rfl rfl ?_
            refine ev_getR (c := 12) (j := 0) rfl ?_ (hq := k_221 n)
            refine ev_iconst (x := nI 3) rfl rfl ?_
            refine ev_dup2 rfl ?_
            refine ev_ialdN rfl rfl ?_ (hq := k_222 n)
            rw [show mem 222 (3) = nI (nn (R 3)) by rw [hR]; (repeat rw [upd_ne (by omega)]); exact wr3 hw]
            refine ev_iconst (x := nI 1) rfl rfl ?_
            refine ev_iaddN rfl ?_
            refine ev_iastR rfl hR hfr (fun mem hfr hR => ?_) (hq := k_222 n)
            refine ev_aload rfl rfl ?_
            refine ev_getR (c := 12) (j := 0) rfl ?_ (hq := k_221 n)
            refine ev_iconst (x := nI 3) rfl rfl ?_
            refine ev_ialdN rfl rfl ?_ (hq := k_222 n)
            rw [show mem 222 3 = nI (nn (R 3) + 1) by rw [hR, upd_eq]]
            refine ev_iconst (x := nI 1) rfl rfl ?_
            refine ev_isubN rfl ?_
            refine ev_iret rfl ?_
            have t23 : (nI 23).toInt = 23 := rfl
            have t24 : (nI 24).toInt = 24 := rfl
            have tz : (0 : Int32).toInt = 0 := rfl
            have hP : P_place p ∧ P_clk k := by
              refine ⟨cnd4, le_nlt cnd8, ?_, ?_⟩
              · clear hQ; simp only [Int32.lt_iff_toInt_lt, Int32.le_iff_toInt_le] at *; omega
              · clear hQ; simp only [Int32.lt_iff_toInt_lt, Int32.le_iff_toInt_le] at *; omega
            rw [if_pos hP] at hQ
            rw [if_neg cnd39] at hQ
            rw [Nat.add_sub_cancel]
            exact hQ _ (FrR_222 hfr) hR
          · skip
            refine ev_iconst (x := (-1000000003)) rfl rfl ?_
            refine ev_iret rfl ?_
            have t23 : (nI 23).toInt = 23 := rfl
            have t24 : (nI 24).toInt = 24 := rfl
            have tz : (0 : Int32).toInt = 0 := rfl
            have hP : P_place p ∧ P_clk k := by
              refine ⟨cnd4, le_nlt cnd8, ?_, ?_⟩
              · clear hQ; simp only [Int32.lt_iff_toInt_lt, Int32.le_iff_toInt_le] at *; omega
              · clear hQ; simp only [Int32.lt_iff_toInt_lt, Int32.le_iff_toInt_le] at *; omega
            rw [if_pos hP] at hQ
            rw [if_pos cnd39] at hQ
            exact hQ mem (FrR_refl _) hR
        · skip
          refine ev_iconst (x := (-1000000001)) rfl rfl ?_
          refine ev_iret rfl ?_
          have t23 : (nI 23).toInt = 23 := rfl
          have t24 : (nI 24).toInt = 24 := rfl
          have tz : (0 : Int32).toInt = 0 := rfl
          rw [if_neg (by
            rintro ⟨z1, z2, z3, z4⟩
            first
            | exact cnd4 z1
            | (clear hQ; simp only [Int32.lt_iff_toInt_lt, Int32.le_iff_toInt_le] at *; omega))] at hQ
          exact hQ mem (FrR_refl _) hR
theorem c_X12_joint {d n : Nat} {mem : am_M} {Q : am_P} {R : am_R} (hR : mem 222 = R) (hw : wfR R) (f p : Int32) (hQ : ∀ m2 : am_M, FrR mem m2 → m2 222 = (O_joint R f p).2 → Q (some (.int (O_joint R f p).1)) (am_SK n) m2) : am_ex (d + 3) 166 [.ref 221, .int f, .int p] (am_SK n) mem Q := by
  have hb := wb_all hw
  have hfr := Hfr0 mem
  unfold O_joint at hQ
  refine ex_in (c0 := kc_X12_joint) rfl (L := [some (.ref 221), some (.int f), some (.int p), none]) rfl ?_
  refine ev_iload rfl rfl ?_
  refine ev_if_lt (p2 := 30) rfl rfl (fun cnd1 => ?_) (fun cnd1 => ?_)
  · skip
    refine ev_iconst (x := (-1000000001)) rfl rfl ?_
    refine ev_iret rfl ?_
    rw [if_neg (by
      rintro ⟨⟨z1, z2⟩, z3⟩
      first
      | exact cnd27 z3
      | exact nlt_le z1 cnd1
      | (rcases z2 with z2 | z2; exact cnd9 z2; exact cnd20 z2))] at hQ
    exact hQ mem (FrR_refl _) hR
  · skip
    refine ev_aload rfl rfl ?_
    refine ev_iload rfl rfl ?_
    refine ev_call rfl rfl ?_
    refine r_isJoint hR _ ?_
    change am_ev _ _ _ _ (_ :: _) _ _ _
    refine ev_if_neB (p2 := 23) rfl rfl (fun cnd9 => ?_) (fun cnd9 => ?_)
    · skip
      refine ev_iload rfl rfl ?_
      refine ev_call rfl rfl ?_
      refine c_X12_isPlace _ ?_
      change am_ev _ _ _ _ (_ :: _) _ _ _
      refine ev_if_neB (p2 := 33) rfl rfl (fun cnd27 => ?_) (fun cnd27 => ?_)
      · skip
        refine ev_aload rfl rfl ?_
        refine ev_getR (c := 12) (j := 0) rfl ?_ (hq := k_221 n)
        refine ev_iconst (x := nI 4) rfl rfl ?_
        refine ev_ialdN rfl rfl ?_ (hq := k_222 n)
        rw [show mem 222 (4) = nI (nn (R 4)) by rw [hR]; (repeat rw [upd_ne (by omega)]); exact wr4 hw]
        refine ev_iconst (x := nI 12) rfl rfl ?_
        refine ev_icmp_neN (p2 := 47) rfl rfl (fun cnd41 => ?_) (fun cnd41 => ?_)
        · skip
          refine ev_iconst (x := nI 41) rfl rfl ?_
          refine ev_iconst (x := nI 3) rfl rfl ?_
          refine ev_aload rfl rfl ?_
          refine ev_getR (c := 12) (j := 0) rfl ?_ (hq := k_221 n)
          refine ev_iconst (x := nI 4) rfl rfl ?_
          refine ev_ialdN rfl rfl ?_ (hq := k_222 n)
          rw [show mem 222 (4) = nI (nn (R 4)) by rw [hR]; (repeat rw [upd_ne (by omega)]); exact wr4 hw]
          refine ev_imulN rfl ?_
          refine ev_iaddN rfl ?_
          refine ev_istore rfl rfl (Nat.le_of_ble_eq_true rfl) ?_
          refine ev_aload rfl rfl ?_
          refine ev_getR (c := 12) (j := 0) rfl ?_ (hq := k_221 n)
          refine ev_iload rfl rfl ?_
          refine ev_iload rfl rfl ?_
          refine ev_iastR rfl hR hfr (fun mem hfr hR => ?_) (hq := k_222 n)
          refine ev_aload rfl rfl ?_
          refine ev_getR (c := 12) (j := 0) rfl ?_ (hq := k_221 n)
          refine ev_iload rfl rfl ?_
          refine ev_iconst (x := nI 1) rfl rfl ?_
          refine ev_iaddN rfl ?_
          refine ev_iload rfl rfl ?_
          refine ev_iastR rfl hR hfr (fun mem hfr hR => ?_) (hq := k_222 n)
          refine ev_aload rfl rfl ?_
          refine ev_getR (c := 12) (j := 0) rfl ?_ (hq := k_221 n)
          refine ev_iload rfl rfl ?_
          refine ev_iconst (x := nI 2) rfl rfl ?_
          refine ev_iaddN rfl ?_
          refine ev_iconst (x := nI 0) rfl rfl ?_
          refine ev_iastR rfl hR hfr (fun mem hfr hR => ?_) (hq := k_222 n)
          refine ev_aload rfl rfl ?_
          refine ev_getR (c := 12) (j := 0) rfl ?_ (hq := k_221 n)
          refine ev_iconst (x := nI 4) rfl rfl ?_
          refine ev_dup2 rfl ?_
          refine ev_ialdN rfl rfl ?_ (hq := k_222 n)
          rw [show mem 222 (4) = nI (nn (R 4)) by rw [hR]; (repeat rw [upd_ne (by omega)]); exact wr4 hw]
          refine ev_iconst (x := nI 1) rfl rfl ?_
          refine ev_iaddN rfl ?_
          refine ev_iastR rfl hR hfr (fun mem hfr hR => ?_) (hq := k_222 n)
          refine ev_aload rfl rfl ?_
          refine ev_getR (c := 12) (j := 0) rfl ?_ (hq := k_221 n)
          refine ev_iconst (x := nI 4) rfl rfl ?_
          refine ev_ialdN rfl rfl ?_ (hq := k_222 n)
          rw [show mem 222 4 = nI (nn (R 4) + 1) by rw [hR, upd_eq]]
          refine ev_iconst (x := nI 1) rfl rfl ?_
          refine ev_isubN rfl ?_
          refine ev_iret rfl ?_
          rw [if_pos (show P_feed R f ∧ P_place p from And.intro (And.intro (le_nlt cnd1) (by first | exact Or.inl cnd9 | exact Or.inr cnd20)) cnd27)] at hQ
          rw [if_neg cnd41] at hQ
          rw [Nat.add_sub_cancel]
          exact hQ _ (FrR_222 hfr) hR
        · skip
          refine ev_iconst (x := (-1000000003)) rfl rfl ?_
          refine ev_iret rfl ?_
          rw [if_pos (show P_feed R f ∧ P_place p from And.intro (And.intro (le_nlt cnd1) (by first | exact Or.inl cnd9 | exact Or.inr cnd20)) cnd27)] at hQ
          rw [if_pos cnd41] at hQ
          exact hQ mem (FrR_refl _) hR
      · skip
        refine ev_iconst (x := (-1000000001)) rfl rfl ?_
        refine ev_iret rfl ?_
        rw [if_neg (by
          rintro ⟨⟨z1, z2⟩, z3⟩
          first
          | exact cnd27 z3
          | exact nlt_le z1 cnd1
          | (rcases z2 with z2 | z2; exact cnd9 z2; exact cnd20 z2))] at hQ
        exact hQ mem (FrR_refl _) hR
    · skip
      refine ev_aload rfl rfl ?_
      refine ev_iload rfl rfl ?_
      refine ev_iconst (x := nI 100) rfl rfl ?_
      refine ev_isub rfl ?_
      refine ev_call rfl rfl ?_
      refine r_isCab hR _ ?_
      change am_ev _ _ _ _ (_ :: _) _ _ _
      refine ev_if_eqB (p2 := 30) rfl rfl (fun cnd20 => ?_) (fun cnd20 => ?_)
      · skip
        refine ev_iconst (x := (-1000000001)) rfl rfl ?_
        refine ev_iret rfl ?_
        rw [if_neg (by
          rintro ⟨⟨z1, z2⟩, z3⟩
          first
          | exact cnd27 z3
          | exact nlt_le z1 cnd1
          | (rcases z2 with z2 | z2; exact cnd9 z2; exact cnd20 z2))] at hQ
        exact hQ mem (FrR_refl _) hR
      · skip
        refine ev_iload rfl rfl ?_
        refine ev_call rfl rfl ?_
        refine c_X12_isPlace _ ?_
        change am_ev _ _ _ _ (_ :: _) _ _ _
        refine ev_if_neB (p2 := 33) rfl rfl (fun cnd27 => ?_) (fun cnd27 => ?_)
        · skip
          refine ev_aload rfl rfl ?_
          refine ev_getR (c := 12) (j := 0) rfl ?_ (hq := k_221 n)
          refine ev_iconst (x := nI 4) rfl rfl ?_
          refine ev_ialdN rfl rfl ?_ (hq := k_222 n)
          rw [show mem 222 (4) = nI (nn (R 4)) by rw [hR]; (repeat rw [upd_ne (by omega)]); exact wr4 hw]
          refine ev_iconst (x := nI 12) rfl rfl ?_
          refine ev_icmp_neN (p2 := 47) rfl rfl (fun cnd41 => ?_) (fun cnd41 => ?_)
          · skip
            refine ev_iconst (x := nI 41) rfl rfl ?_
            refine ev_iconst (x := nI 3) rfl rfl ?_
            refine ev_aload rfl rfl ?_
            refine ev_getR (c := 12) (j := 0) rfl ?_ (hq := k_221 n)
            refine ev_iconst (x := nI 4) rfl rfl ?_
            refine ev_ialdN rfl rfl ?_ (hq := k_222 n)
            rw [show mem 222 (4) = nI (nn (R 4)) by rw [hR]; (repeat rw [upd_ne (by omega)]); exact wr4 hw]
            refine ev_imulN rfl ?_
            refine ev_iaddN rfl ?_
            refine ev_istore rfl rfl (Nat.le_of_ble_eq_true rfl) ?_
            refine ev_aload rfl rfl ?_
            refine ev_getR (c := 12) (j := 0) rfl ?_ (hq := k_221 n)
            refine ev_iload rfl rfl ?_
            refine ev_iload rfl rfl ?_
            refine ev_iastR rfl hR hfr (fun mem hfr hR => ?_) (hq := k_222 n)
            refine ev_aload rfl rfl ?_
            refine ev_getR (c := 12) (j := 0) rfl ?_ (hq := k_221 n)
            refine ev_iload rfl rfl ?_
            refine ev_iconst (x := nI 1) rfl rfl ?_
            refine ev_iaddN rfl ?_
            refine ev_iload rfl rfl ?_
            refine ev_iastR rfl hR hfr (fun mem hfr hR => ?_) (hq := k_222 n)
            refine ev_aload rfl rfl ?_
            refine ev_getR (c := 12) (j := 0) rfl ?_ (hq := k_221 n)
            refine ev_iload rfl rfl ?_
            refine ev_iconst (x := nI 2) rfl rfl ?_
            refine ev_iaddN rfl ?_
            refine ev_iconst (x := nI 0) rfl rfl ?_
            refine ev_iastR rfl hR hfr (fun mem hfr hR => ?_) (hq := k_222 n)
            refine ev_aload rfl rfl ?_
            refine ev_getR (c := 12) (j := 0) rfl ?_ (hq := k_221 n)
            refine ev_iconst (x := nI 4) rfl rfl ?_
            refine ev_dup2 rfl ?_
            refine ev_ialdN rfl rfl ?_ (hq := k_222 n)
            rw [show mem 222 (4) = nI (nn (R 4)) by rw [hR]; (repeat rw [upd_ne (by omega)]); exact wr4 hw]
            refine ev_iconst (x := nI 1) rfl rfl ?_
            refine ev_iaddN rfl ?_
            refine ev_iastR rfl hR hfr (fun mem hfr hR => ?_) (hq := k_222 n)
            refine ev_aload rfl rfl ?_
            refine ev_getR (c := 12) (j := 0) rfl ?_ (hq := k_221 n)
            refine ev_iconst (x := nI 4) rfl rfl ?_
            refine ev_ialdN rfl rfl ?_ (hq := k_222 n)
            rw [show mem 222 4 = nI (nn (R 4) + 1) by rw [hR, upd_eq]]
            refine ev_iconst (x := nI 1) rfl rfl ?_
            refine ev_isubN rfl ?_
            refine ev_iret rfl ?_
            rw [if_pos (show P_feed R f ∧ P_place p from And.intro (And.intro (le_nlt cnd1) (by first | exact Or.inl cnd9 | exact Or.inr cnd20)) cnd27)] at hQ
            rw [if_neg cnd41] at hQ
            rw [Nat.add_sub_cancel]
            exact hQ _ (FrR_222 hfr) hR
          · skip
            refine ev_iconst (x := (-1000000003)) rfl rfl ?_
            refine ev_iret rfl ?_
            rw [if_pos (show P_feed R f ∧ P_place p from And.intro (And.intro (le_nlt cnd1) (by first | exact Or.inl cnd9 | exact Or.inr cnd20)) cnd27)] at hQ
            rw [if_pos cnd41] at hQ
            exact hQ mem (FrR_refl _) hR
        · skip
          refine ev_iconst (x := (-1000000001)) rfl rfl ?_
          refine ev_iret rfl ?_
          rw [if_neg (by
            rintro ⟨⟨z1, z2⟩, z3⟩
            first
            | exact cnd27 z3
            | exact nlt_le z1 cnd1
            | (rcases z2 with z2 | z2; exact cnd9 z2; exact cnd20 z2))] at hQ
          exact hQ mem (FrR_refl _) hR
theorem c_X12_lamp {d n : Nat} {mem : am_M} {Q : am_P} {R : am_R} (hR : mem 222 = R) (hw : wfR R) (k j o : Int32) (hQ : ∀ m2 : am_M, FrR mem m2 → m2 222 = (O_lamp R k j o).2 → Q (some (.int (O_lamp R k j o).1)) (am_SK n) m2) : am_ex (d + 3) 168 [.ref 221, .int k, .int j, .int o] (am_SK n) mem Q := by
  have hb := wb_all hw
  have hfr := Hfr0 mem
  unfold O_lamp at hQ
  refine ex_in (c0 := kc_X12_lamp) rfl (L := [some (.ref 221), some (.int k), some (.int j), some (.int o), none]) rfl ?_
  refine ev_iload rfl rfl ?_
  refine ev_iconst (x := nI 0) rfl rfl ?_
  refine ev_iconst (x := nI 5) rfl rfl ?_
  refine ev_call rfl rfl ?_
  refine c_X12_in _ _ _ ?_
  change am_ev _ _ _ _ (_ :: _) _ _ _
  refine ev_if_eqB (p2 := 37) rfl rfl (fun cnd6 => ?_) (fun cnd6 => ?_)
  · skip
    refine ev_iconst (x := (-1000000001)) rfl rfl ?_
    refine ev_iret rfl ?_
    rw [if_neg (by
      rintro ⟨z1, z2, z3⟩
      first
      | exact cnd6 z1
      | exact cnd14 z2
      | exact cnd26 ((dc_iff o).mp z3).1
      | exact cnd34 ((dc_iff o).mp z3).2)] at hQ
    exact hQ mem (FrR_refl _) hR
  · skip
    refine ev_aload rfl rfl ?_
    refine ev_iload rfl rfl ?_
    refine ev_call rfl rfl ?_
    refine r_isJoint hR _ ?_
    change am_ev _ _ _ _ (_ :: _) _ _ _
    refine ev_if_eqB (p2 := 37) rfl rfl (fun cnd14 => ?_) (fun cnd14 => ?_)
    · skip
      refine ev_iconst (x := (-1000000001)) rfl rfl ?_
      refine ev_iret rfl ?_
      rw [if_neg (by
        rintro ⟨z1, z2, z3⟩
        first
        | exact cnd6 z1
        | exact cnd14 z2
        | exact cnd26 ((dc_iff o).mp z3).1
        | exact cnd34 ((dc_iff o).mp z3).2)] at hQ
      exact hQ mem (FrR_refl _) hR
    · skip
      refine ev_iload rfl rfl ?_
      refine ev_iconst (x := nI 10) rfl rfl ?_
      refine ev_iconst (x := nI 993) rfl rfl ?_
      refine ev_call rfl rfl ?_
      refine c_X12_in _ _ _ ?_
      change am_ev _ _ _ _ (_ :: _) _ _ _
      refine ev_if_eqB (p2 := 37) rfl rfl (fun cnd26 => ?_) (fun cnd26 => ?_)
      · skip
        refine ev_iconst (x := (-1000000001)) rfl rfl ?_
        refine ev_iret rfl ?_
        rw [if_neg (by
          rintro ⟨z1, z2, z3⟩
          first
          | exact cnd6 z1
          | exact cnd14 z2
          | exact cnd26 ((dc_iff o).mp z3).1
          | exact cnd34 ((dc_iff o).mp z3).2)] at hQ
        exact hQ mem (FrR_refl _) hR
      · skip
        refine ev_iload rfl rfl ?_
        refine ev_iconst (x := nI 10) rfl rfl ?_
        refine ev_irem rfl ?_
        refine ev_iconst (x := nI 3) rfl rfl ?_
        refine ev_icmp_le (p2 := 40) rfl rfl (fun cnd34 => ?_) (fun cnd34 => ?_)
        · skip
          refine ev_aload rfl rfl ?_
          refine ev_getR (c := 12) (j := 0) rfl ?_ (hq := k_221 n)
          refine ev_iconst (x := nI 5) rfl rfl ?_
          refine ev_ialdN rfl rfl ?_ (hq := k_222 n)
          rw [show mem 222 (5) = nI (nn (R 5)) by rw [hR]; (repeat rw [upd_ne (by omega)]); exact wr5 hw]
          refine ev_iconst (x := nI 16) rfl rfl ?_
          refine ev_icmp_neN (p2 := 54) rfl rfl (fun cnd48 => ?_) (fun cnd48 => ?_)
          · skip
            refine ev_iconst (x := nI 77) rfl rfl ?_
            refine ev_iconst (x := nI 7) rfl rfl ?_
            refine ev_aload rfl rfl ?_
            refine ev_getR (c := 12) (j := 0) rfl ?_ (hq := k_221 n)
            refine ev_iconst (x := nI 5) rfl rfl ?_
            refine ev_ialdN rfl rfl ?_ (hq := k_222 n)
            rw [show mem 222 (5) = nI (nn (R 5)) by rw [hR]; (repeat rw [upd_ne (by omega)]); exact wr5 hw]
            refine ev_imulN rfl ?_
            refine ev_iaddN rfl ?_
            refine ev_istore rfl rfl (Nat.le_of_ble_eq_true rfl) ?_
            refine ev_aload rfl rfl ?_
            refine ev_getR (c := 12) (j := 0) rfl ?_ (hq := k_221 n)
            refine ev_iload rfl rfl ?_
            refine ev_iload rfl rfl ?_
            refine ev_iastR rfl hR hfr (fun mem hfr hR => ?_) (hq := k_222 n)
            refine ev_aload rfl rfl ?_
            refine ev_getR (c := 12) (j := 0) rfl ?_ (hq := k_221 n)
            refine ev_iload rfl rfl ?_
            refine ev_iconst (x := nI 1) rfl rfl ?_
            refine ev_iaddN rfl ?_
            refine ev_iload rfl rfl ?_
            refine ev_iastR rfl hR hfr (fun mem hfr hR => ?_) (hq := k_222 n)
            refine ev_aload rfl rfl ?_
            refine ev_getR (c := 12) (j := 0) rfl ?_ (hq := k_221 n)
            refine ev_iload rfl rfl ?_
            refine ev_iconst (x := nI 2) rfl rfl ?_
            refine ev_iaddN rfl ?_
            refine ev_iload rfl rfl ?_
            refine ev_iconst (x := nI 10) rfl rfl ?_
            refine ev_idiv rfl ?_
            refine ev_iastR rfl hR hfr (fun mem hfr hR => ?_) (hq := k_222 n)
            refine ev_aload rfl rfl ?_
            refine ev_getR (c := 12) (j := 0) rfl ?_ (hq := k_221 n)
            refine ev_iload rfl rfl ?_
            refine ev_iconst (x := nI 3) rfl rfl ?_
            refine ev_iaddN rfl ?_
            refine ev_iload rfl rfl ?_
            refine ev_iconst (x := nI 10) rfl rfl ?_
            refine ev_irem rfl ?_
            refine ev_iastR rfl hR hfr (fun mem hfr hR => ?_) (hq := k_222 n)
            refine ev_aload rfl rfl ?_
            refine ev_getR (c := 12) (j := 0) rfl ?_ (hq := k_221 n)
            refine ev_iload rfl rfl ?_
            refine ev_iconst (x := nI 4) rfl rfl ?_
            refine ev_iaddN rfl ?_
            refine ev_iconst (x := nI 0) rfl rfl ?_
            refine ev_iastR rfl hR hfr (fun mem hfr hR => ?_) (hq := k_222 n)
            refine ev_aload rfl rfl ?_
            refine ev_getR (c := 12) (j := 0) rfl ?_ (hq := k_221 n)
            refine ev_iload rfl rfl ?_
            refine ev_iconst (x := nI 5) rfl rfl ?_
            refine ev_iaddN rfl ?_
            refine ev_iconst (x := nI 0) rfl rfl ?_
            refine ev_iastR rfl hR hfr (fun mem hfr hR => ?_) (hq := k_222 n)
            refine ev_aload rfl rfl ?_
            refine ev_getR (c := 12) (j := 0) rfl ?_ (hq := k_221 n)
            refine ev_iload rfl rfl ?_
            refine ev_iconst (x := nI 6) rfl rfl ?_
            refine ev_iaddN rfl ?_
            refine ev_iconst (x := nI 0) rfl rfl ?_
            refine ev_iastR rfl hR hfr (fun mem hfr hR => ?_) (hq := k_222 n)
            refine ev_aload rfl rfl ?_
            refine ev_getR (c := 12) (j := 0) rfl ?_ (hq := k_221 n)
            refine ev_iconst (x := nI 5) rfl rfl ?_
            refine ev_dup2 rfl ?_
            refine ev_ialdN rfl rfl ?_ (hq := k_222 n)
            rw [show mem 222 (5) = nI (nn (R 5)) by rw [hR]; (repeat rw [upd_ne (by omega)]); exact wr5 hw]
            refine ev_iconst (x := nI 1) rfl rfl ?_
            refine ev_iaddN rfl ?_
            refine ev_iastR rfl hR hfr (fun mem hfr hR => ?_) (hq := k_222 n)
            refine ev_aload rfl rfl ?_
            refine ev_getR (c := 12) (j := 0) rfl ?_ (hq := k_221 n)
            refine ev_iconst (x := nI 5) rfl rfl ?_
            refine ev_ialdN rfl rfl ?_ (hq := k_222 n)
            rw [show mem 222 5 = nI (nn (R 5) + 1) by rw [hR, upd_eq]]
            refine ev_iconst (x := nI 1) rfl rfl ?_
            refine ev_isubN rfl ?_
            refine ev_iret rfl ?_
            rw [if_pos (show P_kd k ∧ P_i j (R 4) ∧ P_dc o from And.intro cnd6 (And.intro cnd14 ((dc_iff o).mpr (And.intro cnd26 cnd34))))] at hQ
            rw [if_neg cnd48] at hQ
            rw [Nat.add_sub_cancel]
            exact hQ _ (FrR_222 hfr) hR
          · skip
            refine ev_iconst (x := (-1000000003)) rfl rfl ?_
            refine ev_iret rfl ?_
            rw [if_pos (show P_kd k ∧ P_i j (R 4) ∧ P_dc o from And.intro cnd6 (And.intro cnd14 ((dc_iff o).mpr (And.intro cnd26 cnd34))))] at hQ
            rw [if_pos cnd48] at hQ
            exact hQ mem (FrR_refl _) hR
        · skip
          refine ev_iconst (x := (-1000000001)) rfl rfl ?_
          refine ev_iret rfl ?_
          rw [if_neg (by
            rintro ⟨z1, z2, z3⟩
            first
            | exact cnd6 z1
            | exact cnd14 z2
            | exact cnd26 ((dc_iff o).mp z3).1
            | exact cnd34 ((dc_iff o).mp z3).2)] at hQ
          exact hQ mem (FrR_refl _) hR
theorem c_X12_change {d n : Nat} {mem : am_M} {Q : am_P} {R : am_R} (hR : mem 222 = R) (hw : wfR R) (p w : Int32) (hQ : ∀ m2 : am_M, FrR mem m2 → m2 222 = (O_change R p w).2 → Q (some (.int (O_change R p w).1)) (am_SK n) m2) : am_ex (d + 3) 172 [.ref 221, .int p, .int w] (am_SK n) mem Q := by
  have hb := wb_all hw
  have hfr := Hfr0 mem
  unfold O_change at hQ
  refine ex_in (c0 := kc_X12_change) rfl (L := [some (.ref 221), some (.int p), some (.int w), none, none]) rfl ?_
  refine ev_aload rfl rfl ?_
  refine ev_iload rfl rfl ?_
  refine ev_call rfl rfl ?_
  refine r_isLamp hR _ ?_
  change am_ev _ _ _ _ (_ :: _) _ _ _
  refine ev_if_eqB (p2 := 17) rfl rfl (fun cnd5 => ?_) (fun cnd5 => ?_)
  · skip
    refine ev_iconst (x := (-1000000001)) rfl rfl ?_
    refine ev_iret rfl ?_
    first
    | (rw [if_neg (fun z => cnd5 z.1)] at hQ; exact hQ mem (FrR_refl _) hR)
    | (rw [if_neg (fun z => cnd14 z.2)] at hQ; exact hQ mem (FrR_refl _) hR)
  · skip
    refine ev_iload rfl rfl ?_
    refine ev_iconst (x := nI 0) rfl rfl ?_
    refine ev_iconst (x := nI 5) rfl rfl ?_
    refine ev_call rfl rfl ?_
    refine c_X12_in _ _ _ ?_
    change am_ev _ _ _ _ (_ :: _) _ _ _
    refine ev_if_neB (p2 := 20) rfl rfl (fun cnd14 => ?_) (fun cnd14 => ?_)
    · skip
      rw [if_pos (And.intro cnd5 cnd14)] at hQ
      obtain ⟨ep, hp⟩ := am_idx (wr5 hw) (by omega) cnd5
      generalize nn p = c at ep hp hQ
      subst ep
      refine ev_iconst (x := nI 77) rfl rfl ?_
      refine ev_iconst (x := nI 7) rfl rfl ?_
      refine ev_iload rfl rfl ?_
      refine ev_imulN rfl ?_
      refine ev_iaddN rfl ?_
      refine ev_istore rfl rfl (Nat.le_of_ble_eq_true rfl) ?_
      refine ev_aload rfl rfl ?_
      refine ev_getR (c := 12) (j := 0) rfl ?_ (hq := k_221 n)
      refine ev_iload rfl rfl ?_
      refine ev_ialdN rfl rfl ?_ (hq := k_222 n)
      rw [show mem 222 (77 + (7 * c)) = R (77 + (7 * c)) by first | exact congrFun hR _ | (rw [hR]; repeat rw [upd_ne (by omega)])]
      refine ev_istore rfl rfl (Nat.le_of_ble_eq_true rfl) ?_
      refine ev_aload rfl rfl ?_
      refine ev_getR (c := 12) (j := 0) rfl ?_ (hq := k_221 n)
      refine ev_iload rfl rfl ?_
      refine ev_iload rfl rfl ?_
      refine ev_iastR rfl hR hfr (fun mem hfr hR => ?_) (hq := k_222 n)
      refine ev_aload rfl rfl ?_
      refine ev_getR (c := 12) (j := 0) rfl ?_ (hq := k_221 n)
      refine ev_iload rfl rfl ?_
      refine ev_iconst (x := nI 4) rfl rfl ?_
      refine ev_iaddN rfl ?_
      refine ev_iconst (x := nI 0) rfl rfl ?_
      refine ev_iastR rfl hR hfr (fun mem hfr hR => ?_) (hq := k_222 n)
      refine ev_aload rfl rfl ?_
      refine ev_getR (c := 12) (j := 0) rfl ?_ (hq := k_221 n)
      refine ev_iload rfl rfl ?_
      refine ev_iconst (x := nI 5) rfl rfl ?_
      refine ev_iaddN rfl ?_
      refine ev_iconst (x := nI 0) rfl rfl ?_
      refine ev_iastR rfl hR hfr (fun mem hfr hR => ?_) (hq := k_222 n)
      refine ev_iload rfl rfl ?_
      refine ev_iret rfl ?_
      exact hQ _ (FrR_222 hfr) hR
    · skip
      refine ev_iconst (x := (-1000000001)) rfl rfl ?_
      refine ev_iret rfl ?_
      first
      | (rw [if_neg (fun z => cnd5 z.1)] at hQ; exact hQ mem (FrR_refl _) hR)
      | (rw [if_neg (fun z => cnd14 z.2)] at hQ; exact hQ mem (FrR_refl _) hR)
theorem c_X12_dark {d n : Nat} {mem : am_M} {Q : am_P} {R : am_R} (hR : mem 222 = R) (hw : wfR R) (p b : Int32) (hb01 : b = 0 ∨ b = 1) (hQ : ∀ m2 : am_M, FrR mem m2 → m2 222 = (O_dark R p b).2 → Q (some (.int (O_dark R p b).1)) (am_SK n) m2) : am_ex (d + 3) 202 [.ref 221, .int p, .int b] (am_SK n) mem Q := by
  have hb := wb_all hw
  have hfr := Hfr0 mem
  unfold O_dark at hQ
  refine ex_in (c0 := kc_X12_dark) rfl (L := [some (.ref 221), some (.int p), some (.int b), none, none]) rfl ?_
  refine ev_aload rfl rfl ?_
  refine ev_iload rfl rfl ?_
  refine ev_call rfl rfl ?_
  refine r_isLamp hR _ ?_
  change am_ev _ _ _ _ (_ :: _) _ _ _
  refine ev_if_neB (p2 := 11) rfl rfl (fun cnd5 => ?_) (fun cnd5 => ?_)
  · skip
    rw [if_pos (cnd5)] at hQ
    obtain ⟨ep, hp⟩ := am_idx (wr5 hw) (by omega) cnd5
    generalize nn p = c at ep hp hQ
    subst ep
    refine ev_iconst (x := nI 77) rfl rfl ?_
    refine ev_iconst (x := nI 7) rfl rfl ?_
    refine ev_iload rfl rfl ?_
    refine ev_imulN rfl ?_
    refine ev_iaddN rfl ?_
    refine ev_iconst (x := nI 6) rfl rfl ?_
    refine ev_iaddN rfl ?_
    refine ev_istore rfl rfl (Nat.le_of_ble_eq_true rfl) ?_
    refine ev_aload rfl rfl ?_
    refine ev_getR (c := 12) (j := 0) rfl ?_ (hq := k_221 n)
    refine ev_iload rfl rfl ?_
    refine ev_ialdN rfl rfl ?_ (hq := k_222 n)
    rw [show mem 222 (77 + (7 * c) + 6) = R (77 + (7 * c) + 6) by first | exact congrFun hR _ | (rw [hR]; repeat rw [upd_ne (by omega)])]
    refine ev_istore rfl rfl (Nat.le_of_ble_eq_true rfl) ?_
    refine ev_aload rfl rfl ?_
    refine ev_getR (c := 12) (j := 0) rfl ?_ (hq := k_221 n)
    refine ev_iload rfl rfl ?_
    refine ev_iload rfl rfl ?_
    refine ev_if_eq (p2 := 43) rfl rfl (fun cnd36 => ?_) (fun cnd36 => ?_)
    · skip
      refine ev_iconst (x := nI 0) rfl rfl ?_
      refine ev_iastR rfl hR hfr (fun mem hfr hR => ?_) (hq := k_222 n)
      refine ev_iload rfl rfl ?_
      refine ev_aload rfl rfl ?_
      refine ev_getR (c := 12) (j := 0) rfl ?_ (hq := k_221 n)
      refine ev_iload rfl rfl ?_
      refine ev_ialdN rfl rfl ?_ (hq := k_222 n)
      rw [show mem 222 (77 + 7 * c + 6) = b by rw [hR, upd_eq]; rcases hb01 with rfl | rfl <;> first | rfl | exact absurd cnd36 (by decide)]
      refine ev_icmp_ne (p2 := 60) rfl rfl (fun cnd53 => ?_) (fun cnd53 => ?_)
      · skip
        refine ev_iconst (x := nI 1) rfl rfl ?_
        refine ev_iret rfl ?_
        first
        | (rw [if_pos cnd53] at hQ; exact hQ _ (FrR_222 hfr) (by rw [hR]; rcases hb01 with rfl | rfl <;> first | rfl | exact absurd cnd36 (by decide)))
        | (rw [if_neg cnd53] at hQ; exact hQ _ (FrR_222 hfr) (by rw [hR]; rcases hb01 with rfl | rfl <;> first | rfl | exact absurd cnd36 (by decide)))
      · skip
        refine ev_iconst (x := nI 0) rfl rfl ?_
        refine ev_goto (p2 := 61) rfl rfl ?_
        refine ev_iret rfl ?_
        first
        | (rw [if_pos cnd53] at hQ; exact hQ _ (FrR_222 hfr) (by rw [hR]; rcases hb01 with rfl | rfl <;> first | rfl | exact absurd cnd36 (by decide)))
        | (rw [if_neg cnd53] at hQ; exact hQ _ (FrR_222 hfr) (by rw [hR]; rcases hb01 with rfl | rfl <;> first | rfl | exact absurd cnd36 (by decide)))
    · skip
      refine ev_iconst (x := nI 1) rfl rfl ?_
      refine ev_goto (p2 := 44) rfl rfl ?_
      refine ev_iastR rfl hR hfr (fun mem hfr hR => ?_) (hq := k_222 n)
      refine ev_iload rfl rfl ?_
      refine ev_aload rfl rfl ?_
      refine ev_getR (c := 12) (j := 0) rfl ?_ (hq := k_221 n)
      refine ev_iload rfl rfl ?_
      refine ev_ialdN rfl rfl ?_ (hq := k_222 n)
      rw [show mem 222 (77 + 7 * c + 6) = b by rw [hR, upd_eq]; rcases hb01 with rfl | rfl <;> first | rfl | exact absurd cnd36 (by decide)]
      refine ev_icmp_ne (p2 := 60) rfl rfl (fun cnd53 => ?_) (fun cnd53 => ?_)
      · skip
        refine ev_iconst (x := nI 1) rfl rfl ?_
        refine ev_iret rfl ?_
        first
        | (rw [if_pos cnd53] at hQ; exact hQ _ (FrR_222 hfr) (by rw [hR]; rcases hb01 with rfl | rfl <;> first | rfl | exact absurd cnd36 (by decide)))
        | (rw [if_neg cnd53] at hQ; exact hQ _ (FrR_222 hfr) (by rw [hR]; rcases hb01 with rfl | rfl <;> first | rfl | exact absurd cnd36 (by decide)))
      · skip
        refine ev_iconst (x := nI 0) rfl rfl ?_
        refine ev_goto (p2 := 61) rfl rfl ?_
        refine ev_iret rfl ?_
        first
        | (rw [if_pos cnd53] at hQ; exact hQ _ (FrR_222 hfr) (by rw [hR]; rcases hb01 with rfl | rfl <;> first | rfl | exact absurd cnd36 (by decide)))
        | (rw [if_neg cnd53] at hQ; exact hQ _ (FrR_222 hfr) (by rw [hR]; rcases hb01 with rfl | rfl <;> first | rfl | exact absurd cnd36 (by decide)))
  · skip
    refine ev_iconst (x := (-1000000001)) rfl rfl ?_
    refine ev_iret rfl ?_
    rw [if_neg cnd5] at hQ; exact hQ mem (FrR_refl _) hR
theorem l_X12_choose {d n : Nat} {mem : am_M} {Q : am_P} {R : am_R} (hR : mem 222 = R) (hw : wfR R) (p : Int32) (r : Nat) : ∀ (k : Nat) (hk : k + r = nn (R 7)) (hQ : (S_has R 9 p r k = true → Q (some (.int S_NO)) (am_SK n) mem) ∧ (¬ S_has R 9 p r k = true → ∀ m2 : am_M, FrR mem m2 → m2 222 = (if nn (R 7) = 8 then (S_FULL, R) else (nI (nn (R 7) + 1), upd (upd R (9 + nn (R 7)) p) 7 (nI (nn (R 7) + 1)))).2 → Q (some (.int (if nn (R 7) = 8 then (S_FULL, R) else (nI (nn (R 7) + 1), upd (upd R (9 + nn (R 7)) p) 7 (nI (nn (R 7) + 1)))).1)) (am_SK n) m2)), am_ev kc_X12_choose (d + 1) 13 [some (.ref 221), some (.int p), some (.int (nI k))] [] (am_SK n) mem Q := by
  induction r with
  | zero =>
    intro k hk hQ
    have hb := wb_all hw
    have hfr := Hfr0 mem
    unfold S_has at hQ
    refine ev_iload rfl rfl ?_
    refine ev_aload rfl rfl ?_
    refine ev_getR (c := 12) (j := 0) rfl ?_ (hq := k_221 n)
    refine ev_iconst (x := nI 7) rfl rfl ?_
    refine ev_ialdN rfl rfl ?_ (hq := k_222 n)
    rw [show mem 222 (7) = nI (nn (R 7)) by rw [hR]; (repeat rw [upd_ne (by omega)]); exact wr7 hw]
    refine ev_icmp_geN (p2 := 47) rfl rfl (fun cnd21 => ?_) (fun cnd21 => ?_)
    · skip
      refine ev_aload rfl rfl ?_
      refine ev_getR (c := 12) (j := 0) rfl ?_ (hq := k_221 n)
      refine ev_iconst (x := nI 7) rfl rfl ?_
      refine ev_ialdN rfl rfl ?_ (hq := k_222 n)
      rw [show mem 222 (7) = nI (nn (R 7)) by rw [hR]; (repeat rw [upd_ne (by omega)]); exact wr7 hw]
      refine ev_iconst (x := nI 8) rfl rfl ?_
      refine ev_icmp_neN (p2 := 62) rfl rfl (fun cnd56 => ?_) (fun cnd56 => ?_)
      · skip
        refine ev_aload rfl rfl ?_
        refine ev_getR (c := 12) (j := 0) rfl ?_ (hq := k_221 n)
        refine ev_iconst (x := nI 9) rfl rfl ?_
        refine ev_aload rfl rfl ?_
        refine ev_getR (c := 12) (j := 0) rfl ?_ (hq := k_221 n)
        refine ev_iconst (x := nI 7) rfl rfl ?_
        refine ev_ialdN rfl rfl ?_ (hq := k_222 n)
        rw [show mem 222 (7) = nI (nn (R 7)) by rw [hR]; (repeat rw [upd_ne (by omega)]); exact wr7 hw]
        refine ev_iaddN rfl ?_
        refine ev_iload rfl rfl ?_
        refine ev_iastR rfl hR hfr (fun mem hfr hR => ?_) (hq := k_222 n)
        refine ev_aload rfl rfl ?_
        refine ev_getR (c := 12) (j := 0) rfl ?_ (hq := k_221 n)
        refine ev_iconst (x := nI 7) rfl rfl ?_
        refine ev_dup2 rfl ?_
        refine ev_ialdN rfl rfl ?_ (hq := k_222 n)
        rw [show mem 222 (7) = nI (nn (R 7)) by rw [hR]; (repeat rw [upd_ne (by omega)]); exact wr7 hw]
        refine ev_iconst (x := nI 1) rfl rfl ?_
        refine ev_iaddN rfl ?_
        refine ev_iastR rfl hR hfr (fun mem hfr hR => ?_) (hq := k_222 n)
        refine ev_aload rfl rfl ?_
        refine ev_getR (c := 12) (j := 0) rfl ?_ (hq := k_221 n)
        refine ev_iconst (x := nI 7) rfl rfl ?_
        refine ev_ialdN rfl rfl ?_ (hq := k_222 n)
        rw [show mem 222 7 = nI (nn (R 7) + 1) by rw [hR, upd_eq]]
        refine ev_iret rfl ?_
        replace hQ := hQ.2 (by decide)
        rw [if_neg cnd56] at hQ
        exact hQ _ (FrR_222 hfr) hR
      · skip
        refine ev_iconst (x := (-1000000003)) rfl rfl ?_
        refine ev_iret rfl ?_
        replace hQ := hQ.2 (by decide)
        rw [if_pos cnd56] at hQ
        exact hQ mem (FrR_refl _) hR
    · omega
  | succ r ih =>
    intro k hk hQ
    have hb := wb_all hw
    have hfr := Hfr0 mem
    unfold S_has at hQ
    refine ev_iload rfl rfl ?_
    refine ev_aload rfl rfl ?_
    refine ev_getR (c := 12) (j := 0) rfl ?_ (hq := k_221 n)
    refine ev_iconst (x := nI 7) rfl rfl ?_
    refine ev_ialdN rfl rfl ?_ (hq := k_222 n)
    rw [show mem 222 (7) = nI (nn (R 7)) by rw [hR]; (repeat rw [upd_ne (by omega)]); exact wr7 hw]
    refine ev_icmp_geN (p2 := 47) rfl rfl (fun cnd21 => ?_) (fun cnd21 => ?_)
    · omega
    · skip
      refine ev_aload rfl rfl ?_
      refine ev_getR (c := 12) (j := 0) rfl ?_ (hq := k_221 n)
      refine ev_iconst (x := nI 9) rfl rfl ?_
      refine ev_iload rfl rfl ?_
      refine ev_iaddN rfl ?_
      refine ev_ialdN rfl rfl ?_ (hq := k_222 n)
      rw [show mem 222 (9 + k) = R (9 + k) by first | exact congrFun hR _ | (rw [hR]; repeat rw [upd_ne (by omega)])]
      refine ev_iload rfl rfl ?_
      refine ev_icmp_ne (p2 := 41) rfl rfl (fun cnd34 => ?_) (fun cnd34 => ?_)
      · skip
        refine ev_iincN rfl rfl rfl ?_
        refine ev_goto (p2 := 13) rfl rfl ?_
        rw [if_neg cnd34] at hQ
        exact ih (k + 1) (by omega) hQ
      · skip
        refine ev_iconst (x := (-1000000002)) rfl rfl ?_
        refine ev_iret rfl ?_
        rw [if_pos cnd34] at hQ
        exact hQ.1 rfl
theorem c_X12_choose {d n : Nat} {mem : am_M} {Q : am_P} {R : am_R} (hR : mem 222 = R) (hw : wfR R) (p : Int32) (hQ : ∀ m2 : am_M, FrR mem m2 → m2 222 = (O_choose R p).2 → Q (some (.int (O_choose R p).1)) (am_SK n) m2) : am_ex (d + 3) 207 [.ref 221, .int p] (am_SK n) mem Q := by
  have hb := wb_all hw
  have hfr := Hfr0 mem
  unfold O_choose at hQ
  refine ex_in (c0 := kc_X12_choose) rfl (L := [some (.ref 221), some (.int p), none]) rfl ?_
  refine ev_aload rfl rfl ?_
  refine ev_iload rfl rfl ?_
  refine ev_call rfl rfl ?_
  refine r_isLamp hR _ ?_
  change am_ev _ _ _ _ (_ :: _) _ _ _
  refine ev_if_neB (p2 := 11) rfl rfl (fun cnd5 => ?_) (fun cnd5 => ?_)
  · skip
    refine ev_iconst (x := nI 0) rfl rfl ?_
    refine ev_istore rfl rfl (Nat.le_of_ble_eq_true rfl) ?_
    rw [if_pos cnd5] at hQ
    refine l_X12_choose hR hw p _ 0 (Nat.zero_add _) ⟨fun h => ?_, fun h => ?_⟩
    · rw [if_pos h] at hQ; exact hQ mem (FrR_refl _) hR
    · rw [if_neg h] at hQ; exact hQ
  · skip
    refine ev_iconst (x := (-1000000001)) rfl rfl ?_
    refine ev_iret rfl ?_
    rw [if_neg cnd5] at hQ; exact hQ mem (FrR_refl _) hR
theorem l_X12_stop {d n : Nat} {mem : am_M} {Q : am_P} {R : am_R} (hR : mem 222 = R) (hw : wfR R) (p : Int32) (r : Nat) : ∀ (k : Nat) (hk : k + r = nn (R 8)) (hQ : (S_has R 17 p r k = true → Q (some (.int S_NO)) (am_SK n) mem) ∧ (¬ S_has R 17 p r k = true → ∀ m2 : am_M, FrR mem m2 → m2 222 = (if nn (R 8) = 6 then (S_FULL, R) else (nI (nn (R 8) + 1), upd (upd R (17 + nn (R 8)) p) 8 (nI (nn (R 8) + 1)))).2 → Q (some (.int (if nn (R 8) = 6 then (S_FULL, R) else (nI (nn (R 8) + 1), upd (upd R (17 + nn (R 8)) p) 8 (nI (nn (R 8) + 1)))).1)) (am_SK n) m2)), am_ev kc_X12_stop (d + 1) 13 [some (.ref 221), some (.int p), some (.int (nI k))] [] (am_SK n) mem Q := by
  induction r with
  | zero =>
    intro k hk hQ
    have hb := wb_all hw
    have hfr := Hfr0 mem
    unfold S_has at hQ
    refine ev_iload rfl rfl ?_
    refine ev_aload rfl rfl ?_
    refine ev_getR (c := 12) (j := 0) rfl ?_ (hq := k_221 n)
    refine ev_iconst (x := nI 8) rfl rfl ?_
    refine ev_ialdN rfl rfl ?_ (hq := k_222 n)
    rw [show mem 222 (8) = nI (nn (R 8)) by rw [hR]; (repeat rw [upd_ne (by omega)]); exact wr8 hw]
    refine ev_icmp_geN (p2 := 47) rfl rfl (fun cnd21 => ?_) (fun cnd21 => ?_)
    · skip
      refine ev_aload rfl rfl ?_
      refine ev_getR (c := 12) (j := 0) rfl ?_ (hq := k_221 n)
      refine ev_iconst (x := nI 8) rfl rfl ?_
      refine ev_ialdN rfl rfl ?_ (hq := k_222 n)
      rw [show mem 222 (8) = nI (nn (R 8)) by rw [hR]; (repeat rw [upd_ne (by omega)]); exact wr8 hw]
      refine ev_iconst (x := nI 6) rfl rfl ?_
      refine ev_icmp_neN (p2 := 62) rfl rfl (fun cnd56 => ?_) (fun cnd56 => ?_)
      · skip
        refine ev_aload rfl rfl ?_
        refine ev_getR (c := 12) (j := 0) rfl ?_ (hq := k_221 n)
        refine ev_iconst (x := nI 17) rfl rfl ?_
        refine ev_aload rfl rfl ?_
        refine ev_getR (c := 12) (j := 0) rfl ?_ (hq := k_221 n)
        refine ev_iconst (x := nI 8) rfl rfl ?_
        refine ev_ialdN rfl rfl ?_ (hq := k_222 n)
        rw [show mem 222 (8) = nI (nn (R 8)) by rw [hR]; (repeat rw [upd_ne (by omega)]); exact wr8 hw]
        refine ev_iaddN rfl ?_
        refine ev_iload rfl rfl ?_
        refine ev_iastR rfl hR hfr (fun mem hfr hR => ?_) (hq := k_222 n)
        refine ev_aload rfl rfl ?_
        refine ev_getR (c := 12) (j := 0) rfl ?_ (hq := k_221 n)
        refine ev_iconst (x := nI 8) rfl rfl ?_
        refine ev_dup2 rfl ?_
        refine ev_ialdN rfl rfl ?_ (hq := k_222 n)
        rw [show mem 222 (8) = nI (nn (R 8)) by rw [hR]; (repeat rw [upd_ne (by omega)]); exact wr8 hw]
        refine ev_iconst (x := nI 1) rfl rfl ?_
        refine ev_iaddN rfl ?_
        refine ev_iastR rfl hR hfr (fun mem hfr hR => ?_) (hq := k_222 n)
        refine ev_aload rfl rfl ?_
        refine ev_getR (c := 12) (j := 0) rfl ?_ (hq := k_221 n)
        refine ev_iconst (x := nI 8) rfl rfl ?_
        refine ev_ialdN rfl rfl ?_ (hq := k_222 n)
        rw [show mem 222 8 = nI (nn (R 8) + 1) by rw [hR, upd_eq]]
        refine ev_iret rfl ?_
        replace hQ := hQ.2 (by decide)
        rw [if_neg cnd56] at hQ
        exact hQ _ (FrR_222 hfr) hR
      · skip
        refine ev_iconst (x := (-1000000003)) rfl rfl ?_
        refine ev_iret rfl ?_
        replace hQ := hQ.2 (by decide)
        rw [if_pos cnd56] at hQ
        exact hQ mem (FrR_refl _) hR
    · omega
  | succ r ih =>
    intro k hk hQ
    have hb := wb_all hw
    have hfr := Hfr0 mem
    unfold S_has at hQ
    refine ev_iload rfl rfl ?_
    refine ev_aload rfl rfl ?_
    refine ev_getR (c := 12) (j := 0) rfl ?_ (hq := k_221 n)
    refine ev_iconst (x := nI 8) rfl rfl ?_
    refine ev_ialdN rfl rfl ?_ (hq := k_222 n)
    rw [show mem 222 (8) = nI (nn (R 8)) by rw [hR]; (repeat rw [upd_ne (by omega)]); exact wr8 hw]
    refine ev_icmp_geN (p2 := 47) rfl rfl (fun cnd21 => ?_) (fun cnd21 => ?_)
    · omega
    · skip
      refine ev_aload rfl rfl ?_
      refine ev_getR (c := 12) (j := 0) rfl ?_ (hq := k_221 n)
      refine ev_iconst (x := nI 17) rfl rfl ?_
      refine ev_iload rfl rfl ?_
      refine ev_iaddN rfl ?_
      refine ev_ialdN rfl rfl ?_ (hq := k_222 n)
      rw [show mem 222 (17 + k) = R (17 + k) by first | exact congrFun hR _ | (rw [hR]; repeat rw [upd_ne (by omega)])]
      refine ev_iload rfl rfl ?_
      refine ev_icmp_ne (p2 := 41) rfl rfl (fun cnd34 => ?_) (fun cnd34 => ?_)
      · skip
        refine ev_iincN rfl rfl rfl ?_
        refine ev_goto (p2 := 13) rfl rfl ?_
        rw [if_neg cnd34] at hQ
        exact ih (k + 1) (by omega) hQ
      · skip
        refine ev_iconst (x := (-1000000002)) rfl rfl ?_
        refine ev_iret rfl ?_
        rw [if_pos cnd34] at hQ
        exact hQ.1 rfl
theorem c_X12_stop {d n : Nat} {mem : am_M} {Q : am_P} {R : am_R} (hR : mem 222 = R) (hw : wfR R) (p : Int32) (hQ : ∀ m2 : am_M, FrR mem m2 → m2 222 = (O_stop R p).2 → Q (some (.int (O_stop R p).1)) (am_SK n) m2) : am_ex (d + 3) 212 [.ref 221, .int p] (am_SK n) mem Q := by
  have hb := wb_all hw
  have hfr := Hfr0 mem
  unfold O_stop at hQ
  refine ex_in (c0 := kc_X12_stop) rfl (L := [some (.ref 221), some (.int p), none]) rfl ?_
  refine ev_aload rfl rfl ?_
  refine ev_iload rfl rfl ?_
  refine ev_call rfl rfl ?_
  refine r_isJoint hR _ ?_
  change am_ev _ _ _ _ (_ :: _) _ _ _
  refine ev_if_neB (p2 := 11) rfl rfl (fun cnd5 => ?_) (fun cnd5 => ?_)
  · skip
    refine ev_iconst (x := nI 0) rfl rfl ?_
    refine ev_istore rfl rfl (Nat.le_of_ble_eq_true rfl) ?_
    rw [if_pos cnd5] at hQ
    refine l_X12_stop hR hw p _ 0 (Nat.zero_add _) ⟨fun h => ?_, fun h => ?_⟩
    · rw [if_pos h] at hQ; exact hQ mem (FrR_refl _) hR
    · rw [if_neg h] at hQ; exact hQ
  · skip
    refine ev_iconst (x := (-1000000001)) rfl rfl ?_
    refine ev_iret rfl ?_
    rw [if_neg cnd5] at hQ; exact hQ mem (FrR_refl _) hR
theorem o_X12_shift {d n : Nat} {mem : am_M} {Q : am_P} {R : am_R} (hR : mem 222 = R) (hw : wfR R) (p v : Int32) (hQ : ∀ m2 : am_M, FrR mem m2 → m2 222 = (O_shift R p v).2 → Q (some (.int (O_shift R p v).1)) (am_SK n) m2) : am_ex (d + 3) 165 [.ref 221, .int p, .int v] (am_SK n) mem Q := by
  subst hR
  have hb := wb_all hw
  unfold O_shift at hQ
  refine c_X12_shift hw p v (fun h => ?_) (fun c hp hc hv => ?_)
  · rw [if_neg h] at hQ; exact hQ mem (FrR_refl _) rfl
  · subst hp
    rw [if_pos (And.intro (And.intro (nI_pos' (by omega)) ((am_pred (wr3 hw) (by omega)).mpr (nI_lt hc (by omega)))) hv), nn_nI (by omega)] at hQ
    exact hQ _ (FrR_up (by omega)) am_up_row
theorem o_X12_bill {d n : Nat} {mem : am_M} {Q : am_P} {R : am_R} (hR : mem 222 = R) (hw : wfR R) (p : Int32) (hQ : ∀ m2 : am_M, FrR mem m2 → m2 222 = (O_bill R p).2 → Q (some (.int (O_bill R p).1)) (am_SK n) m2) : am_ex (d + 3) 179 [.ref 221, .int p] (am_SK n) mem Q := by
  subst hR
  have hb := wb_all hw
  unfold O_bill at hQ
  refine c_X12_bill hw p (fun h => ?_) (fun c hp hc => ?_)
  · rw [if_neg h] at hQ; exact hQ mem (FrR_refl _) rfl
  · subst hp
    rw [if_pos (And.intro (nI_pos' (by omega)) ((am_pred (wr3 hw) (by omega)).mpr (nI_lt hc (by omega)))), nn_nI (by omega)] at hQ
    exact hQ _ (FrR_up (by omega)) am_up_row
theorem o_X12_feast {d n : Nat} {mem : am_M} {Q : am_P} {R : am_R} (hR : mem 222 = R) (hw : wfR R) (v : Int32) (hQ : ∀ m2 : am_M, FrR mem m2 → m2 222 = (O_feast R v).2 → Q (some (.int (O_feast R v).1)) (am_SK n) m2) : am_ex (d + 2) 173 [.ref 221, .int v] (am_SK n) mem Q := by
  subst hR
  unfold O_feast at hQ
  refine c_X12_feast v (fun h => ?_) (fun h => ?_)
  · rw [if_neg h] at hQ; exact hQ mem (FrR_refl _) rfl
  · rw [if_pos h] at hQ; exact hQ _ (FrR_up (by omega)) am_up_row
theorem o_X12_breaks {d n : Nat} {mem : am_M} {Q : am_P} {R : am_R} (hR : mem 222 = R) (hw : wfR R) (w p : Int32) (hQ : ∀ m2 : am_M, FrR mem m2 → m2 222 = (O_breaks R w p).2 → Q (some (.int (O_breaks R w p).1)) (am_SK n) m2) : am_ex (d + 4) 175 [.ref 221, .int w, .int p] (am_SK n) mem Q := by
  subst hR
  unfold O_breaks at hQ
  refine c_X12_breaks hw w p (fun h => ?_) (fun i h hi => ?_)
  · rw [if_pos h] at hQ; exact hQ mem (FrR_refl _) rfl
  · rw [if_neg (by rw [h]; intro z; have z2 := congrArg Int32.toInt z; rw [nI_toInt (by omega)] at z2; have z3 : (-1 : Int32).toInt = -1 := rfl; omega), h, nn_nI (by omega)] at hQ
    exact hQ _ (FrR_up hi) am_up_row
theorem o_X12_mend {d n : Nat} {mem : am_M} {Q : am_P} {R : am_R} (hR : mem 222 = R) (hw : wfR R) (w p : Int32) (hQ : ∀ m2 : am_M, FrR mem m2 → m2 222 = (O_mend R w p).2 → Q (some (.int (O_mend R w p).1)) (am_SK n) m2) : am_ex (d + 4) 176 [.ref 221, .int w, .int p] (am_SK n) mem Q := by
  subst hR
  unfold O_mend at hQ
  refine c_X12_mend hw w p (fun h => ?_) (fun i h hi => ?_)
  · rw [if_pos h] at hQ; exact hQ mem (FrR_refl _) rfl
  · rw [if_neg (by rw [h]; intro z; have z2 := congrArg Int32.toInt z; rw [nI_toInt (by omega)] at z2; have z3 : (-1 : Int32).toInt = -1 := rfl; omega), h, nn_nI (by omega)] at hQ
    exact hQ _ (FrR_up hi) am_up_row
theorem o_X12_clear {d n : Nat} {mem : am_M} {Q : am_P} {R : am_R} (hR : mem 222 = R) (hw : wfR R) (hQ : ∀ m2 : am_M, FrR mem m2 → m2 222 = (O_clear R).2 → Q (some (.int (O_clear R).1)) (am_SK n) m2) : am_ex (d + 1) 208 [.ref 221] (am_SK n) mem Q := by
  subst hR
  exact c_X12_clear (hQ _ (FrR_up (by omega)) am_up_row)
theorem o_X12_home {d n : Nat} {mem : am_M} {Q : am_P} {R : am_R} (hR : mem 222 = R) (hw : wfR R) (hQ : ∀ m2 : am_M, FrR mem m2 → m2 222 = (O_home R).2 → Q (some (.int (O_home R).1)) (am_SK n) m2) : am_ex (d + 1) 213 [.ref 221] (am_SK n) mem Q := by
  subst hR
  exact c_X12_home (hQ _ (FrR_up (by omega)) am_up_row)
