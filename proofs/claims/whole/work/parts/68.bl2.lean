/-! who is blamed: the reference -/
set_option maxRecDepth 4000 in
theorem l_fb_l {d n : Nat} {mem0 : am_M} {Q : am_P} {R : am_R} (hw : wfR R) (r : Nat) : ∀ (mem : am_M) (k : Nat) (hk : k + r = nn (R 5)) (hR : mem 222 = R) (hf : FrR mem0 mem) (hA : BA mem 234 235 236 237 (fun j => NJ R (wA R) 0 j k) (fun j => NJ R (wB R) 0 j k) (fun j => NC R (wA R) 0 j k) (fun j => NC R (wB R) 0 j k)) (x2 x3 : Option Value) (hQ : ∀ m2 : am_M, FrR mem0 m2 → m2 222 = R → BA m2 234 235 236 237 (fun j => NJ R (wA R) 0 j (nn (R 5))) (fun j => NJ R (wB R) 0 j (nn (R 5))) (fun j => NC R (wA R) 0 j (nn (R 5))) (fun j => NC R (wB R) 0 j (nn (R 5))) → Q none (am_SK n) m2), am_ev kc_X12_findBehind (d + 3) 57 [some (.ref 221), some (.int (nI k)), x2, x3] [] (am_SK n) mem Q := by
  induction r with
  | zero =>
    intro mem k hk hR hf hA x2 x3 hQ
    have hb := wb_all hw
    have hkk : k = nn (R 5) := by omega
    subst hkk
    refine ev_iload rfl rfl ?_
    refine ev_aload rfl rfl ?_
    refine ev_getR (c := 12) (j := 0) rfl ?_ (hq := k_221 n)
    refine ev_iconst (x := nI 5) rfl rfl ?_
    refine ev_ialdN rfl rfl ?_ (hq := k_222 n)
    rw [show mem 222 (5) = nI (nn (R 5)) by rw [hR]; (repeat rw [upd_ne (by omega)]); exact wr5 hw]
    refine ev_icmp_geN (p2 := 167) rfl rfl (fun cnd64 => ?_) (fun cnd64 => ?_)
    · skip
      refine ev_vret rfl ?_
      exact hQ mem hf hR hA
    · omega
  | succ r ih =>
    intro mem k hk hR hf hA x2 x3 hQ
    have hb := wb_all hw
    have hj := (hw.2.2.2.2.1 k (by omega)).2.1.2
    refine ev_iload rfl rfl ?_
    refine ev_aload rfl rfl ?_
    refine ev_getR (c := 12) (j := 0) rfl ?_ (hq := k_221 n)
    refine ev_iconst (x := nI 5) rfl rfl ?_
    refine ev_ialdN rfl rfl ?_ (hq := k_222 n)
    rw [show mem 222 (5) = nI (nn (R 5)) by rw [hR]; (repeat rw [upd_ne (by omega)]); exact wr5 hw]
    refine ev_icmp_geN (p2 := 167) rfl rfl (fun cnd64 => ?_) (fun cnd64 => ?_)
    · omega
    · skip
      refine ev_aload rfl rfl ?_
      refine ev_iload rfl rfl ?_
      refine ev_call rfl rfl ?_
      refine r_shouldBurn hR hw k (by omega) ?_
      change am_ev _ _ _ _ [_] _ _ _
      refine ev_if_eqO (p2 := 161) rfl rfl (fun cnd72 => ?_) (fun cnd72 => ?_)
      · skip
        refine ev_iincN rfl rfl rfl ?_
        refine ev_goto (p2 := 57) rfl rfl ?_
        have hwA : wA R k = false := cnd72
        have hwB : wB R k = false := by unfold wB; rw [show S_should R k = false from cnd72]; rfl
        refine ih mem (k + 1) (by omega) hR hf ⟨fun j hj => ?_, fun j hj => ?_⟩ _ _ hQ
        · have hz := hA.1 j hj
          dsimp only at hz ⊢
          rw [NJ_s, NJ_s, hwA, hwB]
          exact hz
        · have hz := hA.2 j hj
          dsimp only at hz ⊢
          rw [NC_s, NC_s, hwA, hwB]
          exact hz
      · skip
        refine ev_aload rfl rfl ?_
        refine ev_iload rfl rfl ?_
        refine ev_iconst (x := nI 6) rfl rfl ?_
        refine ev_call rfl rfl ?_
        refine r_lamp7 hR k 6 (by omega) rfl ?_
        change am_ev _ _ _ _ [_] _ _ _
        refine ev_iconst (x := nI 1) rfl rfl ?_
        refine ev_icmp_ne (p2 := 90) rfl rfl (fun cnd83 => ?_) (fun cnd83 => ?_)
        · skip
          refine ev_iconst (x := nI 1) rfl rfl ?_
          refine ev_istore rfl rfl (Nat.le_of_ble_eq_true rfl) ?_
          refine ev_aload rfl rfl ?_
          refine ev_iload rfl rfl ?_
          refine ev_iconst (x := nI 1) rfl rfl ?_
          refine ev_call rfl rfl ?_
          refine r_lamp7 hR k 1 (by omega) ((hw.2.2.2.2.1 k (by omega)).2.1.1) ?_
          change am_ev _ _ _ _ [_] _ _ _
          refine ev_istore rfl rfl (Nat.le_of_ble_eq_true rfl) ?_
          refine l_fb_up hw k 1 (by omega) (by decide) (jt R k) mem _ _ _ _ (fun j => ?_) hR hf hA hj (fun m2 q1 q2 q3 x3 => ?_)
          · have z1 := NJ_le R (wA R) 0 j k
            have z2 := NJ_le R (wB R) 0 j k
            have z3 := NC_le R (wA R) 0 j k
            have z4 := NC_le R (wB R) 0 j k
            have hjj : jt R k < nn (R 4) := hj
            omega
          have hwB : wB R k = true := by
            unfold wB dk
            rw [show S_should R k = true from cnd72, decide_eq_false cnd83]
            rfl
          have hwA : wA R k = true := cnd72
          refine ev_iincN rfl rfl rfl ?_
          refine ev_goto (p2 := 57) rfl rfl ?_
          refine ih m2 (k + 1) (by omega) q2 q1 ⟨fun j hj => ?_, fun j hj => ?_⟩ _ _ hQ
          · have hz := q3.1 j hj
            dsimp only at hz ⊢
            rw [NJ_s, NJ_s, hwA, hwB]
            simp only [if_true, Nat.one_mul, Nat.zero_mul, Bool.false_eq_true, if_false] at hz ⊢
            exact hz
          · have hz := q3.2 j hj
            dsimp only at hz ⊢
            rw [NC_s, NC_s, hwA, hwB]
            simp only [if_true, Nat.one_mul, Nat.zero_mul, Bool.false_eq_true, if_false] at hz ⊢
            exact hz
        · skip
          refine ev_iconst (x := nI 0) rfl rfl ?_
          refine ev_goto (p2 := 91) rfl rfl ?_
          refine ev_istore rfl rfl (Nat.le_of_ble_eq_true rfl) ?_
          refine ev_aload rfl rfl ?_
          refine ev_iload rfl rfl ?_
          refine ev_iconst (x := nI 1) rfl rfl ?_
          refine ev_call rfl rfl ?_
          refine r_lamp7 hR k 1 (by omega) ((hw.2.2.2.2.1 k (by omega)).2.1.1) ?_
          change am_ev _ _ _ _ [_] _ _ _
          refine ev_istore rfl rfl (Nat.le_of_ble_eq_true rfl) ?_
          refine l_fb_up hw k 0 (by omega) (by decide) (jt R k) mem _ _ _ _ (fun j => ?_) hR hf hA hj (fun m2 q1 q2 q3 x3 => ?_)
          · have z1 := NJ_le R (wA R) 0 j k
            have z2 := NJ_le R (wB R) 0 j k
            have z3 := NC_le R (wA R) 0 j k
            have z4 := NC_le R (wB R) 0 j k
            have hjj : jt R k < nn (R 4) := hj
            omega
          have hwB : wB R k = false := by
            unfold wB dk
            rw [show S_should R k = true from cnd72, decide_eq_true cnd83]
            rfl
          have hwA : wA R k = true := cnd72
          refine ev_iincN rfl rfl rfl ?_
          refine ev_goto (p2 := 57) rfl rfl ?_
          refine ih m2 (k + 1) (by omega) q2 q1 ⟨fun j hj => ?_, fun j hj => ?_⟩ _ _ hQ
          · have hz := q3.1 j hj
            dsimp only at hz ⊢
            rw [NJ_s, NJ_s, hwA, hwB]
            simp only [if_true, Nat.one_mul, Nat.zero_mul, Bool.false_eq_true, if_false] at hz ⊢
            exact hz
          · have hz := q3.2 j hj
            dsimp only at hz ⊢
            rw [NC_s, NC_s, hwA, hwB]
            simp only [if_true, Nat.one_mul, Nat.zero_mul, Bool.false_eq_true, if_false] at hz ⊢
            exact hz
theorem l_fb_z2 {d n : Nat} {mem0 : am_M} {Q : am_P} {R : am_R} (hw : wfR R) (r : Nat) : ∀ (mem : am_M) (k : Nat) (hk : k + r = 3) (hR : mem 222 = R) (hf : FrR mem0 mem) (h1 : ∀ j, j < 12 → mem 234 j = nI 0 ∧ mem 235 j = nI 0) (h2 : ∀ j, j < k → mem 236 j = nI 0 ∧ mem 237 j = nI 0) (x2 x3 : Option Value) (hQ : ∀ m2 : am_M, FrR mem0 m2 → m2 222 = R → BA m2 234 235 236 237 (fun j => NJ R (wA R) 0 j (nn (R 5))) (fun j => NJ R (wB R) 0 j (nn (R 5))) (fun j => NC R (wA R) 0 j (nn (R 5))) (fun j => NC R (wB R) 0 j (nn (R 5))) → Q none (am_SK n) m2), am_ev kc_X12_findBehind (d + 3) 30 [some (.ref 221), some (.int (nI k)), x2, x3] [] (am_SK n) mem Q := by
  induction r with
  | zero =>
    intro mem k hk hR hf h1 h2 x2 x3 hQ
    refine ev_iload rfl rfl ?_
    refine ev_iconst (x := nI 3) rfl rfl ?_
    refine ev_icmp_geN (p2 := 55) rfl rfl (fun cnd32 => ?_) (fun cnd32 => ?_)
    · skip
      refine ev_iconst (x := nI 0) rfl rfl ?_
      refine ev_istore rfl rfl (Nat.le_of_ble_eq_true rfl) ?_
      exact l_fb_l hw _ mem 0 (Nat.zero_add _) hR hf ⟨fun j hj => h1 j hj, fun j hj => h2 j (by omega)⟩ _ _ hQ
    · omega
  | succ r ih =>
    intro mem k hk hR hf h1 h2 x2 x3 hQ
    refine ev_iload rfl rfl ?_
    refine ev_iconst (x := nI 3) rfl rfl ?_
    refine ev_icmp_geN (p2 := 55) rfl rfl (fun cnd32 => ?_) (fun cnd32 => ?_)
    · omega
    · skip
      refine ev_aload rfl rfl ?_
      refine ev_getR (c := 12) (j := 25) rfl ?_ (hq := k_221 n)
      refine ev_iload rfl rfl ?_
      refine ev_iconst (x := nI 0) rfl rfl ?_
      refine ev_iastS rfl (fun m3 hm3 => ?_) (hq := k_236 n)
      refine ev_aload rfl rfl ?_
      refine ev_getR (c := 12) (j := 26) rfl ?_ (hq := k_221 n)
      refine ev_iload rfl rfl ?_
      refine ev_iconst (x := nI 0) rfl rfl ?_
      refine ev_iastS rfl (fun m4 hm4 => ?_) (hq := k_237 n)
      refine ev_iincN rfl rfl rfl ?_
      refine ev_goto (p2 := 30) rfl rfl ?_
      refine ih m4 (k + 1) (by omega) (by rw [hm4, am_up_ne (by decide), hm3, am_up_ne (by decide)]; exact hR) (FrR_tr (FrR_tr hf (FrR_one (by decide) hm3)) (FrR_one (by decide) hm4)) (fun j hj => by rw [hm4, am_up_ne (by decide), am_up_ne (by decide), hm3, am_up_ne (by decide), am_up_ne (by decide)]; exact h1 j hj) (fun j hj => ?_) _ _ hQ
      by_cases e : j = k
      · subst e; rw [hm4, am_up_eq, am_up_ne (by decide), hm3, am_up_eq]; exact ⟨rfl, rfl⟩
      · rw [hm4, am_up_nk e, am_up_ne (show (236 : Nat) ≠ 237 by decide), hm3, am_up_nk e, am_up_ne (show (237 : Nat) ≠ 236 by decide)]; exact h2 j (by omega)
theorem l_fb_z1 {d n : Nat} {mem0 : am_M} {Q : am_P} {R : am_R} (hw : wfR R) (r : Nat) : ∀ (mem : am_M) (k : Nat) (hk : k + r = 12) (hR : mem 222 = R) (hf : FrR mem0 mem) (h1 : ∀ j, j < k → mem 234 j = nI 0 ∧ mem 235 j = nI 0) (x2 x3 : Option Value) (hQ : ∀ m2 : am_M, FrR mem0 m2 → m2 222 = R → BA m2 234 235 236 237 (fun j => NJ R (wA R) 0 j (nn (R 5))) (fun j => NJ R (wB R) 0 j (nn (R 5))) (fun j => NC R (wA R) 0 j (nn (R 5))) (fun j => NC R (wB R) 0 j (nn (R 5))) → Q none (am_SK n) m2), am_ev kc_X12_findBehind (d + 3) 2 [some (.ref 221), some (.int (nI k)), x2, x3] [] (am_SK n) mem Q := by
  induction r with
  | zero =>
    intro mem k hk hR hf h1 x2 x3 hQ
    refine ev_iload rfl rfl ?_
    refine ev_iconst (x := nI 12) rfl rfl ?_
    refine ev_icmp_geN (p2 := 28) rfl rfl (fun cnd5 => ?_) (fun cnd5 => ?_)
    · skip
      refine ev_iconst (x := nI 0) rfl rfl ?_
      refine ev_istore rfl rfl (Nat.le_of_ble_eq_true rfl) ?_
      exact l_fb_z2 hw 3 mem 0 rfl hR hf (fun j hj => h1 j (by omega)) (fun j hj => absurd hj (Nat.not_lt_zero j)) _ _ hQ
    · omega
  | succ r ih =>
    intro mem k hk hR hf h1 x2 x3 hQ
    refine ev_iload rfl rfl ?_
    refine ev_iconst (x := nI 12) rfl rfl ?_
    refine ev_icmp_geN (p2 := 28) rfl rfl (fun cnd5 => ?_) (fun cnd5 => ?_)
    · omega
    · skip
      refine ev_aload rfl rfl ?_
      refine ev_getR (c := 12) (j := 23) rfl ?_ (hq := k_221 n)
      refine ev_iload rfl rfl ?_
      refine ev_iconst (x := nI 0) rfl rfl ?_
      refine ev_iastS rfl (fun m3 hm3 => ?_) (hq := k_234 n)
      refine ev_aload rfl rfl ?_
      refine ev_getR (c := 12) (j := 24) rfl ?_ (hq := k_221 n)
      refine ev_iload rfl rfl ?_
      refine ev_iconst (x := nI 0) rfl rfl ?_
      refine ev_iastS rfl (fun m4 hm4 => ?_) (hq := k_235 n)
      refine ev_iincN rfl rfl rfl ?_
      refine ev_goto (p2 := 2) rfl rfl ?_
      refine ih m4 (k + 1) (by omega) (by rw [hm4, am_up_ne (by decide), hm3, am_up_ne (by decide)]; exact hR) (FrR_tr (FrR_tr hf (FrR_one (by decide) hm3)) (FrR_one (by decide) hm4)) (fun j hj => ?_) _ _ hQ
      by_cases e : j = k
      · subst e; rw [hm4, am_up_eq, am_up_ne (by decide), hm3, am_up_eq]; exact ⟨rfl, rfl⟩
      · rw [hm4, am_up_nk e, am_up_ne (show (234 : Nat) ≠ 235 by decide), hm3, am_up_nk e, am_up_ne (show (235 : Nat) ≠ 234 by decide)]; exact h1 j (by omega)
theorem c_X12_findBehind {d n : Nat} {mem : am_M} {Q : am_P} {R : am_R} (hR : mem 222 = R) (hw : wfR R) (hQ : ∀ m2 : am_M, FrR mem m2 → m2 222 = R → BA m2 234 235 236 237 (fun j => NJ R (wA R) 0 j (nn (R 5))) (fun j => NJ R (wB R) 0 j (nn (R 5))) (fun j => NC R (wA R) 0 j (nn (R 5))) (fun j => NC R (wB R) 0 j (nn (R 5))) → Q none (am_SK n) m2) : am_ex (d + 4) 203 [.ref 221] (am_SK n) mem Q := by
  refine ex_in (c0 := kc_X12_findBehind) rfl (L := [some (.ref 221), none, none, none]) rfl ?_
  refine ev_iconst (x := nI 0) rfl rfl ?_
  refine ev_istore rfl rfl (Nat.le_of_ble_eq_true rfl) ?_
  exact l_fb_z1 hw 12 mem 0 rfl hR (FrR_refl _) (fun j hj => absurd hj (Nat.not_lt_zero j)) _ _ hQ
set_option maxRecDepth 4000 in
theorem l_fB_l {d n : Nat} {mem0 : am_M} {Q : am_P} {R : am_R} (hw : wfR R) (r : Nat) : ∀ (mem : am_M) (k : Nat) (hk : k + r = nn (R 5)) (hR : mem 222 = R) (hf : FrR mem0 mem) (hC : (∀ c, c < nn (R 3) → mem 238 c = ob (bC R c))) (hJ : (∀ j, j < nn (R 4) → mem 239 j = ob (B_j R j) ∧ mem 241 j = ob (B_cv R j))) (hL : (∀ l, l < k → mem 240 l = ob (B_l R l))) (x2 x3 : Option Value) (hQ : ∀ m2 : am_M, FrR mem0 m2 → m2 222 = R → (∀ c, c < nn (R 3) → m2 238 c = ob (bC R c)) → (∀ j, j < nn (R 4) → m2 239 j = ob (B_j R j)) → (∀ l, l < nn (R 5) → m2 240 l = ob (B_l R l)) → Q none (am_SK n) m2), am_ev kc_X12_findBlamed (d + 3) 162 [some (.ref 221), some (.int (nI k)), x2, x3] [] (am_SK n) mem Q := by
  induction r with
  | zero =>
    intro mem k hk hR hf hC hJ hL x2 x3 hQ
    have hb := wb_all hw
    refine ev_iload rfl rfl ?_
    refine ev_aload rfl rfl ?_
    refine ev_getR (c := 12) (j := 0) rfl ?_ (hq := k_221 n)
    refine ev_iconst (x := nI 5) rfl rfl ?_
    refine ev_ialdN rfl rfl ?_ (hq := k_222 n)
    rw [show mem 222 (5) = nI (nn (R 5)) by rw [hR]; (repeat rw [upd_ne (by omega)]); exact wr5 hw]
    refine ev_icmp_geN (p2 := 222) rfl rfl (fun cnd169 => ?_) (fun cnd169 => ?_)
    · skip
      refine ev_vret rfl ?_
      exact hQ mem hf hR hC (fun j hj => (hJ j hj).1) (fun l hl => hL l (by omega))
    · omega
  | succ r ih =>
    intro mem k hk hR hf hC hJ hL x2 x3 hQ
    have hb := wb_all hw
    have hj := (hw.2.2.2.2.1 k (by omega)).2.1.2
    have hjk := hJ _ hj
    refine ev_iload rfl rfl ?_
    refine ev_aload rfl rfl ?_
    refine ev_getR (c := 12) (j := 0) rfl ?_ (hq := k_221 n)
    refine ev_iconst (x := nI 5) rfl rfl ?_
    refine ev_ialdN rfl rfl ?_ (hq := k_222 n)
    rw [show mem 222 (5) = nI (nn (R 5)) by rw [hR]; (repeat rw [upd_ne (by omega)]); exact wr5 hw]
    refine ev_icmp_geN (p2 := 222) rfl rfl (fun cnd169 => ?_) (fun cnd169 => ?_)
    · omega
    · skip
      refine ev_aload rfl rfl ?_
      refine ev_getR (c := 12) (j := 29) rfl ?_ (hq := k_221 n)
      refine ev_iload rfl rfl ?_
      refine ev_aload rfl rfl ?_
      refine ev_getR (c := 12) (j := 30) rfl ?_ (hq := k_221 n)
      refine ev_aload rfl rfl ?_
      refine ev_iload rfl rfl ?_
      refine ev_iconst (x := nI 1) rfl rfl ?_
      refine ev_call rfl rfl ?_
      refine r_lamp7 hR k 1 (by omega) ((hw.2.2.2.2.1 k (by omega)).2.1.1) ?_
      change am_ev _ _ _ _ [_, _, _, _] _ _ _
      refine ev_zaldN rfl rfl ?_ (hq := k_241 n)
      rw [hjk.2]
      refine ev_if_neO (p2 := 214) rfl rfl (fun cnd188 => ?_) (fun cnd188 => ?_)
      · skip
        refine ev_iconst (x := nI 0) rfl rfl ?_
        refine ev_zastS rfl (fun m3 hm3 => ?_) (by decide) (hq := k_240 n)
        refine ev_iincN rfl rfl rfl ?_
        refine ev_goto (p2 := 162) rfl rfl ?_
        first
        | (have hbl : B_l R k = true := by
             unfold B_l dk
             rw [show B_cv R (jt R k) = false from cnd188, show S_should R k = true from cnd196, decide_eq_true cnd207]; rfl
           refine ih m3 (k + 1) (by omega) (by rw [hm3, am_up_ne (by decide)]; exact hR) (FrR_tr hf (FrR_one (by decide) hm3)) (fun c hc => by rw [hm3, am_up_ne (by decide)]; exact hC c hc) (fun j hj => by rw [hm3, am_up_ne (by decide), am_up_ne (by decide)]; exact hJ j hj) (fun l hl => ?_) _ _ hQ
           rw [hm3]
           by_cases e : l = k
           · rw [e, am_up_eq, hbl]; rfl
           · rw [am_up_nk e]; exact hL l (by omega))
        | (have hbl : B_l R k = false := by
             unfold B_l dk
             rw [show B_cv R (jt R k) = true from cnd188]; rfl
           refine ih m3 (k + 1) (by omega) (by rw [hm3, am_up_ne (by decide)]; exact hR) (FrR_tr hf (FrR_one (by decide) hm3)) (fun c hc => by rw [hm3, am_up_ne (by decide)]; exact hC c hc) (fun j hj => by rw [hm3, am_up_ne (by decide), am_up_ne (by decide)]; exact hJ j hj) (fun l hl => ?_) _ _ hQ
           rw [hm3]
           by_cases e : l = k
           · rw [e, am_up_eq, hbl]; rfl
           · rw [am_up_nk e]; exact hL l (by omega))
        | (have hbl : B_l R k = false := by
             unfold B_l dk
             rw [show S_should R k = false from cnd196, Bool.false_and, Bool.and_false]
           refine ih m3 (k + 1) (by omega) (by rw [hm3, am_up_ne (by decide)]; exact hR) (FrR_tr hf (FrR_one (by decide) hm3)) (fun c hc => by rw [hm3, am_up_ne (by decide)]; exact hC c hc) (fun j hj => by rw [hm3, am_up_ne (by decide), am_up_ne (by decide)]; exact hJ j hj) (fun l hl => ?_) _ _ hQ
           rw [hm3]
           by_cases e : l = k
           · rw [e, am_up_eq, hbl]; rfl
           · rw [am_up_nk e]; exact hL l (by omega))
        | (have hbl : B_l R k = false := by
             unfold B_l dk
             rw [decide_eq_false cnd207, Bool.and_false, Bool.and_false]
           refine ih m3 (k + 1) (by omega) (by rw [hm3, am_up_ne (by decide)]; exact hR) (FrR_tr hf (FrR_one (by decide) hm3)) (fun c hc => by rw [hm3, am_up_ne (by decide)]; exact hC c hc) (fun j hj => by rw [hm3, am_up_ne (by decide), am_up_ne (by decide)]; exact hJ j hj) (fun l hl => ?_) _ _ hQ
           rw [hm3]
           by_cases e : l = k
           · rw [e, am_up_eq, hbl]; rfl
           · rw [am_up_nk e]; exact hL l (by omega))
      · skip
        refine ev_aload rfl rfl ?_
        refine ev_iload rfl rfl ?_
        refine ev_call rfl rfl ?_
        refine r_shouldBurn hR hw k (by omega) ?_
        change am_ev _ _ _ _ [_, _, _] _ _ _
        refine ev_if_eqO (p2 := 214) rfl rfl (fun cnd196 => ?_) (fun cnd196 => ?_)
        · skip
          refine ev_iconst (x := nI 0) rfl rfl ?_
          refine ev_zastS rfl (fun m3 hm3 => ?_) (by decide) (hq := k_240 n)
          refine ev_iincN rfl rfl rfl ?_
          refine ev_goto (p2 := 162) rfl rfl ?_
          first
          | (have hbl : B_l R k = true := by
               unfold B_l dk
               rw [show B_cv R (jt R k) = false from cnd188, show S_should R k = true from cnd196, decide_eq_true cnd207]; rfl
             refine ih m3 (k + 1) (by omega) (by rw [hm3, am_up_ne (by decide)]; exact hR) (FrR_tr hf (FrR_one (by decide) hm3)) (fun c hc => by rw [hm3, am_up_ne (by decide)]; exact hC c hc) (fun j hj => by rw [hm3, am_up_ne (by decide), am_up_ne (by decide)]; exact hJ j hj) (fun l hl => ?_) _ _ hQ
             rw [hm3]
             by_cases e : l = k
             · rw [e, am_up_eq, hbl]; rfl
             · rw [am_up_nk e]; exact hL l (by omega))
          | (have hbl : B_l R k = false := by
               unfold B_l dk
               rw [show B_cv R (jt R k) = true from cnd188]; rfl
             refine ih m3 (k + 1) (by omega) (by rw [hm3, am_up_ne (by decide)]; exact hR) (FrR_tr hf (FrR_one (by decide) hm3)) (fun c hc => by rw [hm3, am_up_ne (by decide)]; exact hC c hc) (fun j hj => by rw [hm3, am_up_ne (by decide), am_up_ne (by decide)]; exact hJ j hj) (fun l hl => ?_) _ _ hQ
             rw [hm3]
             by_cases e : l = k
             · rw [e, am_up_eq, hbl]; rfl
             · rw [am_up_nk e]; exact hL l (by omega))
          | (have hbl : B_l R k = false := by
               unfold B_l dk
               rw [show S_should R k = false from cnd196, Bool.false_and, Bool.and_false]
             refine ih m3 (k + 1) (by omega) (by rw [hm3, am_up_ne (by decide)]; exact hR) (FrR_tr hf (FrR_one (by decide) hm3)) (fun c hc => by rw [hm3, am_up_ne (by decide)]; exact hC c hc) (fun j hj => by rw [hm3, am_up_ne (by decide), am_up_ne (by decide)]; exact hJ j hj) (fun l hl => ?_) _ _ hQ
             rw [hm3]
             by_cases e : l = k
             · rw [e, am_up_eq, hbl]; rfl
             · rw [am_up_nk e]; exact hL l (by omega))
          | (have hbl : B_l R k = false := by
               unfold B_l dk
               rw [decide_eq_false cnd207, Bool.and_false, Bool.and_false]
             refine ih m3 (k + 1) (by omega) (by rw [hm3, am_up_ne (by decide)]; exact hR) (FrR_tr hf (FrR_one (by decide) hm3)) (fun c hc => by rw [hm3, am_up_ne (by decide)]; exact hC c hc) (fun j hj => by rw [hm3, am_up_ne (by decide), am_up_ne (by decide)]; exact hJ j hj) (fun l hl => ?_) _ _ hQ
             rw [hm3]
             by_cases e : l = k
             · rw [e, am_up_eq, hbl]; rfl
             · rw [am_up_nk e]; exact hL l (by omega))
        · skip
          refine ev_aload rfl rfl ?_
          refine ev_iload rfl rfl ?_
          refine ev_iconst (x := nI 6) rfl rfl ?_
          refine ev_call rfl rfl ?_
          refine r_lamp7 hR k 6 (by omega) rfl ?_
          change am_ev _ _ _ _ [_, _, _] _ _ _
          refine ev_iconst (x := nI 1) rfl rfl ?_
          refine ev_icmp_ne (p2 := 214) rfl rfl (fun cnd207 => ?_) (fun cnd207 => ?_)
          · skip
            refine ev_iconst (x := nI 0) rfl rfl ?_
            refine ev_zastS rfl (fun m3 hm3 => ?_) (by decide) (hq := k_240 n)
            refine ev_iincN rfl rfl rfl ?_
            refine ev_goto (p2 := 162) rfl rfl ?_
            first
            | (have hbl : B_l R k = true := by
                 unfold B_l dk
                 rw [show B_cv R (jt R k) = false from cnd188, show S_should R k = true from cnd196, decide_eq_true cnd207]; rfl
               refine ih m3 (k + 1) (by omega) (by rw [hm3, am_up_ne (by decide)]; exact hR) (FrR_tr hf (FrR_one (by decide) hm3)) (fun c hc => by rw [hm3, am_up_ne (by decide)]; exact hC c hc) (fun j hj => by rw [hm3, am_up_ne (by decide), am_up_ne (by decide)]; exact hJ j hj) (fun l hl => ?_) _ _ hQ
               rw [hm3]
               by_cases e : l = k
               · rw [e, am_up_eq, hbl]; rfl
               · rw [am_up_nk e]; exact hL l (by omega))
            | (have hbl : B_l R k = false := by
                 unfold B_l dk
                 rw [show B_cv R (jt R k) = true from cnd188]; rfl
               refine ih m3 (k + 1) (by omega) (by rw [hm3, am_up_ne (by decide)]; exact hR) (FrR_tr hf (FrR_one (by decide) hm3)) (fun c hc => by rw [hm3, am_up_ne (by decide)]; exact hC c hc) (fun j hj => by rw [hm3, am_up_ne (by decide), am_up_ne (by decide)]; exact hJ j hj) (fun l hl => ?_) _ _ hQ
               rw [hm3]
               by_cases e : l = k
               · rw [e, am_up_eq, hbl]; rfl
               · rw [am_up_nk e]; exact hL l (by omega))
            | (have hbl : B_l R k = false := by
                 unfold B_l dk
                 rw [show S_should R k = false from cnd196, Bool.false_and, Bool.and_false]
               refine ih m3 (k + 1) (by omega) (by rw [hm3, am_up_ne (by decide)]; exact hR) (FrR_tr hf (FrR_one (by decide) hm3)) (fun c hc => by rw [hm3, am_up_ne (by decide)]; exact hC c hc) (fun j hj => by rw [hm3, am_up_ne (by decide), am_up_ne (by decide)]; exact hJ j hj) (fun l hl => ?_) _ _ hQ
               rw [hm3]
               by_cases e : l = k
               · rw [e, am_up_eq, hbl]; rfl
               · rw [am_up_nk e]; exact hL l (by omega))
            | (have hbl : B_l R k = false := by
                 unfold B_l dk
                 rw [decide_eq_false cnd207, Bool.and_false, Bool.and_false]
               refine ih m3 (k + 1) (by omega) (by rw [hm3, am_up_ne (by decide)]; exact hR) (FrR_tr hf (FrR_one (by decide) hm3)) (fun c hc => by rw [hm3, am_up_ne (by decide)]; exact hC c hc) (fun j hj => by rw [hm3, am_up_ne (by decide), am_up_ne (by decide)]; exact hJ j hj) (fun l hl => ?_) _ _ hQ
               rw [hm3]
               by_cases e : l = k
               · rw [e, am_up_eq, hbl]; rfl
               · rw [am_up_nk e]; exact hL l (by omega))
          · skip
            refine ev_iconst (x := nI 1) rfl rfl ?_
            refine ev_goto (p2 := 215) rfl rfl ?_
            refine ev_zastS rfl (fun m3 hm3 => ?_) (by decide) (hq := k_240 n)
            refine ev_iincN rfl rfl rfl ?_
            refine ev_goto (p2 := 162) rfl rfl ?_
            first
            | (have hbl : B_l R k = true := by
                 unfold B_l dk
                 rw [show B_cv R (jt R k) = false from cnd188, show S_should R k = true from cnd196, decide_eq_true cnd207]; rfl
               refine ih m3 (k + 1) (by omega) (by rw [hm3, am_up_ne (by decide)]; exact hR) (FrR_tr hf (FrR_one (by decide) hm3)) (fun c hc => by rw [hm3, am_up_ne (by decide)]; exact hC c hc) (fun j hj => by rw [hm3, am_up_ne (by decide), am_up_ne (by decide)]; exact hJ j hj) (fun l hl => ?_) _ _ hQ
               rw [hm3]
               by_cases e : l = k
               · rw [e, am_up_eq, hbl]; rfl
               · rw [am_up_nk e]; exact hL l (by omega))
            | (have hbl : B_l R k = false := by
                 unfold B_l dk
                 rw [show B_cv R (jt R k) = true from cnd188]; rfl
               refine ih m3 (k + 1) (by omega) (by rw [hm3, am_up_ne (by decide)]; exact hR) (FrR_tr hf (FrR_one (by decide) hm3)) (fun c hc => by rw [hm3, am_up_ne (by decide)]; exact hC c hc) (fun j hj => by rw [hm3, am_up_ne (by decide), am_up_ne (by decide)]; exact hJ j hj) (fun l hl => ?_) _ _ hQ
               rw [hm3]
               by_cases e : l = k
               · rw [e, am_up_eq, hbl]; rfl
               · rw [am_up_nk e]; exact hL l (by omega))
            | (have hbl : B_l R k = false := by
                 unfold B_l dk
                 rw [show S_should R k = false from cnd196, Bool.false_and, Bool.and_false]
               refine ih m3 (k + 1) (by omega) (by rw [hm3, am_up_ne (by decide)]; exact hR) (FrR_tr hf (FrR_one (by decide) hm3)) (fun c hc => by rw [hm3, am_up_ne (by decide)]; exact hC c hc) (fun j hj => by rw [hm3, am_up_ne (by decide), am_up_ne (by decide)]; exact hJ j hj) (fun l hl => ?_) _ _ hQ
               rw [hm3]
               by_cases e : l = k
               · rw [e, am_up_eq, hbl]; rfl
               · rw [am_up_nk e]; exact hL l (by omega))
            | (have hbl : B_l R k = false := by
                 unfold B_l dk
                 rw [decide_eq_false cnd207, Bool.and_false, Bool.and_false]
               refine ih m3 (k + 1) (by omega) (by rw [hm3, am_up_ne (by decide)]; exact hR) (FrR_tr hf (FrR_one (by decide) hm3)) (fun c hc => by rw [hm3, am_up_ne (by decide)]; exact hC c hc) (fun j hj => by rw [hm3, am_up_ne (by decide), am_up_ne (by decide)]; exact hJ j hj) (fun l hl => ?_) _ _ hQ
               rw [hm3]
               by_cases e : l = k
               · rw [e, am_up_eq, hbl]; rfl
               · rw [am_up_nk e]; exact hL l (by omega))
theorem l_fB_j {d n : Nat} {mem0 : am_M} {Q : am_P} {R : am_R} (hw : wfR R) (r : Nat) : ∀ (mem : am_M) (k : Nat) (hk : k + r = nn (R 4)) (hR : mem 222 = R) (hf : FrR mem0 mem) (hA : BA mem 234 235 236 237 (fun j => NJ R (wA R) 0 j (nn (R 5))) (fun j => NJ R (wB R) 0 j (nn (R 5))) (fun j => NC R (wA R) 0 j (nn (R 5))) (fun j => NC R (wB R) 0 j (nn (R 5)))) (hC : (∀ c, c < nn (R 3) → mem 238 c = ob (bC R c))) (hJ : (∀ j, j < k → mem 239 j = ob (B_j R j) ∧ mem 241 j = ob (B_cv R j))) (x2 x3 : Option Value) (hQ : ∀ m2 : am_M, FrR mem0 m2 → m2 222 = R → (∀ c, c < nn (R 3) → m2 238 c = ob (bC R c)) → (∀ j, j < nn (R 4) → m2 239 j = ob (B_j R j)) → (∀ l, l < nn (R 5) → m2 240 l = ob (B_l R l)) → Q none (am_SK n) m2), am_ev kc_X12_findBlamed (d + 3) 54 [some (.ref 221), some (.int (nI k)), x2, x3] [] (am_SK n) mem Q := by
  induction r with
  | zero =>
    intro mem k hk hR hf hA hC hJ x2 x3 hQ
    have hb := wb_all hw
    have hkk : k = nn (R 4) := by omega
    subst hkk
    refine ev_iload rfl rfl ?_
    refine ev_aload rfl rfl ?_
    refine ev_getR (c := 12) (j := 0) rfl ?_ (hq := k_221 n)
    refine ev_iconst (x := nI 4) rfl rfl ?_
    refine ev_ialdN rfl rfl ?_ (hq := k_222 n)
    rw [show mem 222 (4) = nI (nn (R 4)) by rw [hR]; (repeat rw [upd_ne (by omega)]); exact wr4 hw]
    refine ev_icmp_geN (p2 := 160) rfl rfl (fun cnd61 => ?_) (fun cnd61 => ?_)
    · skip
      refine ev_iconst (x := nI 0) rfl rfl ?_
      refine ev_istore rfl rfl (Nat.le_of_ble_eq_true rfl) ?_
      exact l_fB_l hw _ mem 0 (Nat.zero_add _) hR hf hC hJ (fun l hl => absurd hl (Nat.not_lt_zero l)) _ _ hQ
    · omega
  | succ r ih =>
    intro mem k hk hR hf hA hC hJ x2 x3 hQ
    have hb := wb_all hw
    have hAk := hA.1 k (by omega)
    dsimp only at hAk
    have z1 := NJ_le R (wA R) 0 k (nn (R 5))
    have z2 := NJ_le R (wB R) 0 k (nn (R 5))
    obtain ⟨⟨e1, g1⟩, -⟩ := hw.2.2.2.1 k (by omega)
    refine ev_iload rfl rfl ?_
    refine ev_aload rfl rfl ?_
    refine ev_getR (c := 12) (j := 0) rfl ?_ (hq := k_221 n)
    refine ev_iconst (x := nI 4) rfl rfl ?_
    refine ev_ialdN rfl rfl ?_ (hq := k_222 n)
    rw [show mem 222 (4) = nI (nn (R 4)) by rw [hR]; (repeat rw [upd_ne (by omega)]); exact wr4 hw]
    refine ev_icmp_geN (p2 := 160) rfl rfl (fun cnd61 => ?_) (fun cnd61 => ?_)
    · omega
    · skip
      refine ev_aload rfl rfl ?_
      refine ev_iload rfl rfl ?_
      refine ev_iconst (x := nI 0) rfl rfl ?_
      refine ev_call rfl rfl ?_
      refine r_joint3 hR k 0 (by omega) ((hw.2.2.2.1 k (by omega)).1.1) ?_
      change am_ev _ _ _ _ [_] _ _ _
      refine ev_istore rfl rfl (Nat.le_of_ble_eq_true rfl) ?_
      refine ev_iload rfl rfl ?_
      refine ev_iconst (x := nI 100) rfl rfl ?_
      refine ev_icmp_ltN (p2 := 89) rfl rfl (fun cnd74 => ?_) (fun cnd74 => ?_)
      · skip
        refine ev_aload rfl rfl ?_
        refine ev_getR (c := 12) (j := 30) rfl ?_ (hq := k_221 n)
        refine ev_iload rfl rfl ?_
        refine ev_zaldN rfl rfl ?_ (hq := k_241 n)
        rw [show mem 241 (nn (R (41 + 3 * k))) = ob (B_ab R k) by rw [B_ab_lo (show fd R k < k by unfold fd; omega)]; exact (hJ _ (by omega)).2]
        refine ev_istore rfl rfl (Nat.le_of_ble_eq_true rfl) ?_
        refine ev_aload rfl rfl ?_
        refine ev_getR (c := 12) (j := 28) rfl ?_ (hq := k_221 n)
        refine ev_iload rfl rfl ?_
        refine ev_iload rfl rfl ?_
        refine ev_if_neO (p2 := 128) rfl rfl (fun cnd102 => ?_) (fun cnd102 => ?_)
        · skip
          refine ev_iconst (x := nI 0) rfl rfl ?_
          refine ev_zastS rfl (fun m3 hm3 => ?_) (by decide) (hq := k_239 n)
          refine ev_aload rfl rfl ?_
          refine ev_getR (c := 12) (j := 30) rfl ?_ (hq := k_221 n)
          refine ev_iload rfl rfl ?_
          refine ev_iload rfl rfl ?_
          refine ev_if_neO (p2 := 148) rfl rfl (fun cnd136 => ?_) (fun cnd136 => ?_)
          · skip
            refine ev_iconst (x := nI 1) rfl rfl ?_
            refine ev_goto (p2 := 153) rfl rfl ?_
            refine ev_zastS rfl (fun m4 hm4 => ?_) (by decide) (hq := k_241 n)
            refine ev_iincN rfl rfl rfl ?_
            refine ev_goto (p2 := 54) rfl rfl ?_
            have hab := cnd102
            first
            | (exact absurd (cnd102.symm.trans cnd136) (by decide))
            | (refine ih m4 (k + 1) (by omega) (by rw [hm4, am_up_ne (by decide), hm3, am_up_ne (by decide)]; exact hR) (FrR_tr (FrR_tr hf (FrR_one (by decide) hm3)) (FrR_one (by decide) hm4)) ⟨fun j hj => by rw [hm4, am_up_ne (by decide), am_up_ne (by decide), hm3, am_up_ne (by decide), am_up_ne (by decide)]; exact hA.1 j hj, fun j hj => by rw [hm4, am_up_ne (by decide), am_up_ne (by decide), hm3, am_up_ne (by decide), am_up_ne (by decide)]; exact hA.2 j hj⟩ (fun c hc => by rw [hm4, am_up_ne (by decide), hm3, am_up_ne (by decide)]; exact hC c hc) (fun j hj => ?_) _ _ hQ
               by_cases e : j = k
               · subst e
                 rw [hm4, am_up_ne (show (239 : Nat) ≠ 241 by decide), am_up_eq, hm3, am_up_eq]
                 unfold B_j B_cv bJ
                 rw [show B_ab R j = true from hab]
                 exact ⟨rfl, rfl⟩
               · rw [hm4, am_up_ne (show (239 : Nat) ≠ 241 by decide), am_up_nk e, hm3, am_up_nk e, am_up_ne (show (241 : Nat) ≠ 239 by decide)]; exact hJ j (by omega))
            | (refine ih m4 (k + 1) (by omega) (by rw [hm4, am_up_ne (by decide), hm3, am_up_ne (by decide)]; exact hR) (FrR_tr (FrR_tr hf (FrR_one (by decide) hm3)) (FrR_one (by decide) hm4)) ⟨fun j hj => by rw [hm4, am_up_ne (by decide), am_up_ne (by decide), hm3, am_up_ne (by decide), am_up_ne (by decide)]; exact hA.1 j hj, fun j hj => by rw [hm4, am_up_ne (by decide), am_up_ne (by decide), hm3, am_up_ne (by decide), am_up_ne (by decide)]; exact hA.2 j hj⟩ (fun c hc => by rw [hm4, am_up_ne (by decide), hm3, am_up_ne (by decide)]; exact hC c hc) (fun j hj => ?_) _ _ hQ
               by_cases e : j = k
               · subst e
                 rw [hm4, am_up_ne (show (239 : Nat) ≠ 241 by decide), am_up_eq, hm3, am_up_eq]
                 unfold B_j B_cv bJ
                 rw [show B_ab R j = false from hab, decide_eq_true (show 2 ≤ NJ R (wA R) 0 j (nn (R 5)) ∧ NJ R (wB R) 0 j (nn (R 5)) = 0 from ⟨cnd112, cnd121⟩)]
                 exact ⟨rfl, rfl⟩
               · rw [hm4, am_up_ne (show (239 : Nat) ≠ 241 by decide), am_up_nk e, hm3, am_up_nk e, am_up_ne (show (241 : Nat) ≠ 239 by decide)]; exact hJ j (by omega))
            | (refine ih m4 (k + 1) (by omega) (by rw [hm4, am_up_ne (by decide), hm3, am_up_ne (by decide)]; exact hR) (FrR_tr (FrR_tr hf (FrR_one (by decide) hm3)) (FrR_one (by decide) hm4)) ⟨fun j hj => by rw [hm4, am_up_ne (by decide), am_up_ne (by decide), hm3, am_up_ne (by decide), am_up_ne (by decide)]; exact hA.1 j hj, fun j hj => by rw [hm4, am_up_ne (by decide), am_up_ne (by decide), hm3, am_up_ne (by decide), am_up_ne (by decide)]; exact hA.2 j hj⟩ (fun c hc => by rw [hm4, am_up_ne (by decide), hm3, am_up_ne (by decide)]; exact hC c hc) (fun j hj => ?_) _ _ hQ
               by_cases e : j = k
               · subst e
                 rw [hm4, am_up_ne (show (239 : Nat) ≠ 241 by decide), am_up_eq, hm3, am_up_eq]
                 unfold B_j B_cv bJ
                 rw [show B_ab R j = false from hab, decide_eq_false (show ¬ (2 ≤ NJ R (wA R) 0 j (nn (R 5)) ∧ NJ R (wB R) 0 j (nn (R 5)) = 0) by omega)]
                 exact ⟨rfl, rfl⟩
               · rw [hm4, am_up_ne (show (239 : Nat) ≠ 241 by decide), am_up_nk e, hm3, am_up_nk e, am_up_ne (show (241 : Nat) ≠ 239 by decide)]; exact hJ j (by omega))
          · skip
            refine ev_aload rfl rfl ?_
            refine ev_getR (c := 12) (j := 28) rfl ?_ (hq := k_221 n)
            refine ev_iload rfl rfl ?_
            refine ev_zaldN rfl rfl ?_ (hq := k_239 n)
            rw [show m3 239 k = nI 0 by rw [hm3, am_up_eq]]
            refine ev_if_eqN (p2 := 152) rfl rfl (fun _ => ?_) (fun zz => absurd zz (by decide))
            refine ev_iconst (x := nI 0) rfl rfl ?_
            refine ev_zastS rfl (fun m4 hm4 => ?_) (by decide) (hq := k_241 n)
            refine ev_iincN rfl rfl rfl ?_
            refine ev_goto (p2 := 54) rfl rfl ?_
            have hab := cnd102
            first
            | (exact absurd (cnd102.symm.trans cnd136) (by decide))
            | (refine ih m4 (k + 1) (by omega) (by rw [hm4, am_up_ne (by decide), hm3, am_up_ne (by decide)]; exact hR) (FrR_tr (FrR_tr hf (FrR_one (by decide) hm3)) (FrR_one (by decide) hm4)) ⟨fun j hj => by rw [hm4, am_up_ne (by decide), am_up_ne (by decide), hm3, am_up_ne (by decide), am_up_ne (by decide)]; exact hA.1 j hj, fun j hj => by rw [hm4, am_up_ne (by decide), am_up_ne (by decide), hm3, am_up_ne (by decide), am_up_ne (by decide)]; exact hA.2 j hj⟩ (fun c hc => by rw [hm4, am_up_ne (by decide), hm3, am_up_ne (by decide)]; exact hC c hc) (fun j hj => ?_) _ _ hQ
               by_cases e : j = k
               · subst e
                 rw [hm4, am_up_ne (show (239 : Nat) ≠ 241 by decide), am_up_eq, hm3, am_up_eq]
                 unfold B_j B_cv bJ
                 rw [show B_ab R j = true from hab]
                 exact ⟨rfl, rfl⟩
               · rw [hm4, am_up_ne (show (239 : Nat) ≠ 241 by decide), am_up_nk e, hm3, am_up_nk e, am_up_ne (show (241 : Nat) ≠ 239 by decide)]; exact hJ j (by omega))
            | (refine ih m4 (k + 1) (by omega) (by rw [hm4, am_up_ne (by decide), hm3, am_up_ne (by decide)]; exact hR) (FrR_tr (FrR_tr hf (FrR_one (by decide) hm3)) (FrR_one (by decide) hm4)) ⟨fun j hj => by rw [hm4, am_up_ne (by decide), am_up_ne (by decide), hm3, am_up_ne (by decide), am_up_ne (by decide)]; exact hA.1 j hj, fun j hj => by rw [hm4, am_up_ne (by decide), am_up_ne (by decide), hm3, am_up_ne (by decide), am_up_ne (by decide)]; exact hA.2 j hj⟩ (fun c hc => by rw [hm4, am_up_ne (by decide), hm3, am_up_ne (by decide)]; exact hC c hc) (fun j hj => ?_) _ _ hQ
               by_cases e : j = k
               · subst e
                 rw [hm4, am_up_ne (show (239 : Nat) ≠ 241 by decide), am_up_eq, hm3, am_up_eq]
                 unfold B_j B_cv bJ
                 rw [show B_ab R j = false from hab, decide_eq_true (show 2 ≤ NJ R (wA R) 0 j (nn (R 5)) ∧ NJ R (wB R) 0 j (nn (R 5)) = 0 from ⟨cnd112, cnd121⟩)]
                 exact ⟨rfl, rfl⟩
               · rw [hm4, am_up_ne (show (239 : Nat) ≠ 241 by decide), am_up_nk e, hm3, am_up_nk e, am_up_ne (show (241 : Nat) ≠ 239 by decide)]; exact hJ j (by omega))
            | (refine ih m4 (k + 1) (by omega) (by rw [hm4, am_up_ne (by decide), hm3, am_up_ne (by decide)]; exact hR) (FrR_tr (FrR_tr hf (FrR_one (by decide) hm3)) (FrR_one (by decide) hm4)) ⟨fun j hj => by rw [hm4, am_up_ne (by decide), am_up_ne (by decide), hm3, am_up_ne (by decide), am_up_ne (by decide)]; exact hA.1 j hj, fun j hj => by rw [hm4, am_up_ne (by decide), am_up_ne (by decide), hm3, am_up_ne (by decide), am_up_ne (by decide)]; exact hA.2 j hj⟩ (fun c hc => by rw [hm4, am_up_ne (by decide), hm3, am_up_ne (by decide)]; exact hC c hc) (fun j hj => ?_) _ _ hQ
               by_cases e : j = k
               · subst e
                 rw [hm4, am_up_ne (show (239 : Nat) ≠ 241 by decide), am_up_eq, hm3, am_up_eq]
                 unfold B_j B_cv bJ
                 rw [show B_ab R j = false from hab, decide_eq_false (show ¬ (2 ≤ NJ R (wA R) 0 j (nn (R 5)) ∧ NJ R (wB R) 0 j (nn (R 5)) = 0) by omega)]
                 exact ⟨rfl, rfl⟩
               · rw [hm4, am_up_ne (show (239 : Nat) ≠ 241 by decide), am_up_nk e, hm3, am_up_nk e, am_up_ne (show (241 : Nat) ≠ 239 by decide)]; exact hJ j (by omega))
        · skip
          refine ev_aload rfl rfl ?_
          refine ev_getR (c := 12) (j := 23) rfl ?_ (hq := k_221 n)
          refine ev_iload rfl rfl ?_
          refine ev_ialdN rfl rfl ?_ (hq := k_234 n)
          rw [hAk.1]
          refine ev_iconst (x := nI 2) rfl rfl ?_
          refine ev_icmp_ltN (p2 := 128) rfl rfl (fun cnd112 => ?_) (fun cnd112 => ?_)
          · skip
            refine ev_iconst (x := nI 0) rfl rfl ?_
            refine ev_zastS rfl (fun m3 hm3 => ?_) (by decide) (hq := k_239 n)
            refine ev_aload rfl rfl ?_
            refine ev_getR (c := 12) (j := 30) rfl ?_ (hq := k_221 n)
            refine ev_iload rfl rfl ?_
            refine ev_iload rfl rfl ?_
            refine ev_if_neO (p2 := 148) rfl rfl (fun cnd136 => ?_) (fun cnd136 => ?_)
            · skip
              refine ev_iconst (x := nI 1) rfl rfl ?_
              refine ev_goto (p2 := 153) rfl rfl ?_
              refine ev_zastS rfl (fun m4 hm4 => ?_) (by decide) (hq := k_241 n)
              refine ev_iincN rfl rfl rfl ?_
              refine ev_goto (p2 := 54) rfl rfl ?_
              have hab := cnd102
              first
              | (exact absurd (cnd102.symm.trans cnd136) (by decide))
              | (refine ih m4 (k + 1) (by omega) (by rw [hm4, am_up_ne (by decide), hm3, am_up_ne (by decide)]; exact hR) (FrR_tr (FrR_tr hf (FrR_one (by decide) hm3)) (FrR_one (by decide) hm4)) ⟨fun j hj => by rw [hm4, am_up_ne (by decide), am_up_ne (by decide), hm3, am_up_ne (by decide), am_up_ne (by decide)]; exact hA.1 j hj, fun j hj => by rw [hm4, am_up_ne (by decide), am_up_ne (by decide), hm3, am_up_ne (by decide), am_up_ne (by decide)]; exact hA.2 j hj⟩ (fun c hc => by rw [hm4, am_up_ne (by decide), hm3, am_up_ne (by decide)]; exact hC c hc) (fun j hj => ?_) _ _ hQ
                 by_cases e : j = k
                 · subst e
                   rw [hm4, am_up_ne (show (239 : Nat) ≠ 241 by decide), am_up_eq, hm3, am_up_eq]
                   unfold B_j B_cv bJ
                   rw [show B_ab R j = true from hab]
                   exact ⟨rfl, rfl⟩
                 · rw [hm4, am_up_ne (show (239 : Nat) ≠ 241 by decide), am_up_nk e, hm3, am_up_nk e, am_up_ne (show (241 : Nat) ≠ 239 by decide)]; exact hJ j (by omega))
              | (refine ih m4 (k + 1) (by omega) (by rw [hm4, am_up_ne (by decide), hm3, am_up_ne (by decide)]; exact hR) (FrR_tr (FrR_tr hf (FrR_one (by decide) hm3)) (FrR_one (by decide) hm4)) ⟨fun j hj => by rw [hm4, am_up_ne (by decide), am_up_ne (by decide), hm3, am_up_ne (by decide), am_up_ne (by decide)]; exact hA.1 j hj, fun j hj => by rw [hm4, am_up_ne (by decide), am_up_ne (by decide), hm3, am_up_ne (by decide), am_up_ne (by decide)]; exact hA.2 j hj⟩ (fun c hc => by rw [hm4, am_up_ne (by decide), hm3, am_up_ne (by decide)]; exact hC c hc) (fun j hj => ?_) _ _ hQ
                 by_cases e : j = k
                 · subst e
                   rw [hm4, am_up_ne (show (239 : Nat) ≠ 241 by decide), am_up_eq, hm3, am_up_eq]
                   unfold B_j B_cv bJ
                   rw [show B_ab R j = false from hab, decide_eq_true (show 2 ≤ NJ R (wA R) 0 j (nn (R 5)) ∧ NJ R (wB R) 0 j (nn (R 5)) = 0 from ⟨cnd112, cnd121⟩)]
                   exact ⟨rfl, rfl⟩
                 · rw [hm4, am_up_ne (show (239 : Nat) ≠ 241 by decide), am_up_nk e, hm3, am_up_nk e, am_up_ne (show (241 : Nat) ≠ 239 by decide)]; exact hJ j (by omega))
              | (refine ih m4 (k + 1) (by omega) (by rw [hm4, am_up_ne (by decide), hm3, am_up_ne (by decide)]; exact hR) (FrR_tr (FrR_tr hf (FrR_one (by decide) hm3)) (FrR_one (by decide) hm4)) ⟨fun j hj => by rw [hm4, am_up_ne (by decide), am_up_ne (by decide), hm3, am_up_ne (by decide), am_up_ne (by decide)]; exact hA.1 j hj, fun j hj => by rw [hm4, am_up_ne (by decide), am_up_ne (by decide), hm3, am_up_ne (by decide), am_up_ne (by decide)]; exact hA.2 j hj⟩ (fun c hc => by rw [hm4, am_up_ne (by decide), hm3, am_up_ne (by decide)]; exact hC c hc) (fun j hj => ?_) _ _ hQ
                 by_cases e : j = k
                 · subst e
                   rw [hm4, am_up_ne (show (239 : Nat) ≠ 241 by decide), am_up_eq, hm3, am_up_eq]
                   unfold B_j B_cv bJ
                   rw [show B_ab R j = false from hab, decide_eq_false (show ¬ (2 ≤ NJ R (wA R) 0 j (nn (R 5)) ∧ NJ R (wB R) 0 j (nn (R 5)) = 0) by omega)]
                   exact ⟨rfl, rfl⟩
                 · rw [hm4, am_up_ne (show (239 : Nat) ≠ 241 by decide), am_up_nk e, hm3, am_up_nk e, am_up_ne (show (241 : Nat) ≠ 239 by decide)]; exact hJ j (by omega))
            · skip
              refine ev_aload rfl rfl ?_
              refine ev_getR (c := 12) (j := 28) rfl ?_ (hq := k_221 n)
              refine ev_iload rfl rfl ?_
              refine ev_zaldN rfl rfl ?_ (hq := k_239 n)
              rw [show m3 239 k = nI 0 by rw [hm3, am_up_eq]]
              refine ev_if_eqN (p2 := 152) rfl rfl (fun _ => ?_) (fun zz => absurd zz (by decide))
              refine ev_iconst (x := nI 0) rfl rfl ?_
              refine ev_zastS rfl (fun m4 hm4 => ?_) (by decide) (hq := k_241 n)
              refine ev_iincN rfl rfl rfl ?_
              refine ev_goto (p2 := 54) rfl rfl ?_
              have hab := cnd102
              first
              | (exact absurd (cnd102.symm.trans cnd136) (by decide))
              | (refine ih m4 (k + 1) (by omega) (by rw [hm4, am_up_ne (by decide), hm3, am_up_ne (by decide)]; exact hR) (FrR_tr (FrR_tr hf (FrR_one (by decide) hm3)) (FrR_one (by decide) hm4)) ⟨fun j hj => by rw [hm4, am_up_ne (by decide), am_up_ne (by decide), hm3, am_up_ne (by decide), am_up_ne (by decide)]; exact hA.1 j hj, fun j hj => by rw [hm4, am_up_ne (by decide), am_up_ne (by decide), hm3, am_up_ne (by decide), am_up_ne (by decide)]; exact hA.2 j hj⟩ (fun c hc => by rw [hm4, am_up_ne (by decide), hm3, am_up_ne (by decide)]; exact hC c hc) (fun j hj => ?_) _ _ hQ
                 by_cases e : j = k
                 · subst e
                   rw [hm4, am_up_ne (show (239 : Nat) ≠ 241 by decide), am_up_eq, hm3, am_up_eq]
                   unfold B_j B_cv bJ
                   rw [show B_ab R j = true from hab]
                   exact ⟨rfl, rfl⟩
                 · rw [hm4, am_up_ne (show (239 : Nat) ≠ 241 by decide), am_up_nk e, hm3, am_up_nk e, am_up_ne (show (241 : Nat) ≠ 239 by decide)]; exact hJ j (by omega))
              | (refine ih m4 (k + 1) (by omega) (by rw [hm4, am_up_ne (by decide), hm3, am_up_ne (by decide)]; exact hR) (FrR_tr (FrR_tr hf (FrR_one (by decide) hm3)) (FrR_one (by decide) hm4)) ⟨fun j hj => by rw [hm4, am_up_ne (by decide), am_up_ne (by decide), hm3, am_up_ne (by decide), am_up_ne (by decide)]; exact hA.1 j hj, fun j hj => by rw [hm4, am_up_ne (by decide), am_up_ne (by decide), hm3, am_up_ne (by decide), am_up_ne (by decide)]; exact hA.2 j hj⟩ (fun c hc => by rw [hm4, am_up_ne (by decide), hm3, am_up_ne (by decide)]; exact hC c hc) (fun j hj => ?_) _ _ hQ
                 by_cases e : j = k
                 · subst e
                   rw [hm4, am_up_ne (show (239 : Nat) ≠ 241 by decide), am_up_eq, hm3, am_up_eq]
                   unfold B_j B_cv bJ
                   rw [show B_ab R j = false from hab, decide_eq_true (show 2 ≤ NJ R (wA R) 0 j (nn (R 5)) ∧ NJ R (wB R) 0 j (nn (R 5)) = 0 from ⟨cnd112, cnd121⟩)]
                   exact ⟨rfl, rfl⟩
                 · rw [hm4, am_up_ne (show (239 : Nat) ≠ 241 by decide), am_up_nk e, hm3, am_up_nk e, am_up_ne (show (241 : Nat) ≠ 239 by decide)]; exact hJ j (by omega))
              | (refine ih m4 (k + 1) (by omega) (by rw [hm4, am_up_ne (by decide), hm3, am_up_ne (by decide)]; exact hR) (FrR_tr (FrR_tr hf (FrR_one (by decide) hm3)) (FrR_one (by decide) hm4)) ⟨fun j hj => by rw [hm4, am_up_ne (by decide), am_up_ne (by decide), hm3, am_up_ne (by decide), am_up_ne (by decide)]; exact hA.1 j hj, fun j hj => by rw [hm4, am_up_ne (by decide), am_up_ne (by decide), hm3, am_up_ne (by decide), am_up_ne (by decide)]; exact hA.2 j hj⟩ (fun c hc => by rw [hm4, am_up_ne (by decide), hm3, am_up_ne (by decide)]; exact hC c hc) (fun j hj => ?_) _ _ hQ
                 by_cases e : j = k
                 · subst e
                   rw [hm4, am_up_ne (show (239 : Nat) ≠ 241 by decide), am_up_eq, hm3, am_up_eq]
                   unfold B_j B_cv bJ
                   rw [show B_ab R j = false from hab, decide_eq_false (show ¬ (2 ≤ NJ R (wA R) 0 j (nn (R 5)) ∧ NJ R (wB R) 0 j (nn (R 5)) = 0) by omega)]
                   exact ⟨rfl, rfl⟩
                 · rw [hm4, am_up_ne (show (239 : Nat) ≠ 241 by decide), am_up_nk e, hm3, am_up_nk e, am_up_ne (show (241 : Nat) ≠ 239 by decide)]; exact hJ j (by omega))
          · skip
            refine ev_aload rfl rfl ?_
            refine ev_getR (c := 12) (j := 24) rfl ?_ (hq := k_221 n)
            refine ev_iload rfl rfl ?_
            refine ev_ialdN rfl rfl ?_ (hq := k_235 n)
            rw [hAk.2]
            refine ev_if_neN (p2 := 128) rfl rfl (fun cnd121 => ?_) (fun cnd121 => ?_)
            · skip
              refine ev_iconst (x := nI 0) rfl rfl ?_
              refine ev_zastS rfl (fun m3 hm3 => ?_) (by decide) (hq := k_239 n)
              refine ev_aload rfl rfl ?_
              refine ev_getR (c := 12) (j := 30) rfl ?_ (hq := k_221 n)
              refine ev_iload rfl rfl ?_
              refine ev_iload rfl rfl ?_
              refine ev_if_neO (p2 := 148) rfl rfl (fun cnd136 => ?_) (fun cnd136 => ?_)
              · skip
                refine ev_iconst (x := nI 1) rfl rfl ?_
                refine ev_goto (p2 := 153) rfl rfl ?_
                refine ev_zastS rfl (fun m4 hm4 => ?_) (by decide) (hq := k_241 n)
                refine ev_iincN rfl rfl rfl ?_
                refine ev_goto (p2 := 54) rfl rfl ?_
                have hab := cnd102
                first
                | (exact absurd (cnd102.symm.trans cnd136) (by decide))
                | (refine ih m4 (k + 1) (by omega) (by rw [hm4, am_up_ne (by decide), hm3, am_up_ne (by decide)]; exact hR) (FrR_tr (FrR_tr hf (FrR_one (by decide) hm3)) (FrR_one (by decide) hm4)) ⟨fun j hj => by rw [hm4, am_up_ne (by decide), am_up_ne (by decide), hm3, am_up_ne (by decide), am_up_ne (by decide)]; exact hA.1 j hj, fun j hj => by rw [hm4, am_up_ne (by decide), am_up_ne (by decide), hm3, am_up_ne (by decide), am_up_ne (by decide)]; exact hA.2 j hj⟩ (fun c hc => by rw [hm4, am_up_ne (by decide), hm3, am_up_ne (by decide)]; exact hC c hc) (fun j hj => ?_) _ _ hQ
                   by_cases e : j = k
                   · subst e
                     rw [hm4, am_up_ne (show (239 : Nat) ≠ 241 by decide), am_up_eq, hm3, am_up_eq]
                     unfold B_j B_cv bJ
                     rw [show B_ab R j = true from hab]
                     exact ⟨rfl, rfl⟩
                   · rw [hm4, am_up_ne (show (239 : Nat) ≠ 241 by decide), am_up_nk e, hm3, am_up_nk e, am_up_ne (show (241 : Nat) ≠ 239 by decide)]; exact hJ j (by omega))
                | (refine ih m4 (k + 1) (by omega) (by rw [hm4, am_up_ne (by decide), hm3, am_up_ne (by decide)]; exact hR) (FrR_tr (FrR_tr hf (FrR_one (by decide) hm3)) (FrR_one (by decide) hm4)) ⟨fun j hj => by rw [hm4, am_up_ne (by decide), am_up_ne (by decide), hm3, am_up_ne (by decide), am_up_ne (by decide)]; exact hA.1 j hj, fun j hj => by rw [hm4, am_up_ne (by decide), am_up_ne (by decide), hm3, am_up_ne (by decide), am_up_ne (by decide)]; exact hA.2 j hj⟩ (fun c hc => by rw [hm4, am_up_ne (by decide), hm3, am_up_ne (by decide)]; exact hC c hc) (fun j hj => ?_) _ _ hQ
                   by_cases e : j = k
                   · subst e
                     rw [hm4, am_up_ne (show (239 : Nat) ≠ 241 by decide), am_up_eq, hm3, am_up_eq]
                     unfold B_j B_cv bJ
                     rw [show B_ab R j = false from hab, decide_eq_true (show 2 ≤ NJ R (wA R) 0 j (nn (R 5)) ∧ NJ R (wB R) 0 j (nn (R 5)) = 0 from ⟨cnd112, cnd121⟩)]
                     exact ⟨rfl, rfl⟩
                   · rw [hm4, am_up_ne (show (239 : Nat) ≠ 241 by decide), am_up_nk e, hm3, am_up_nk e, am_up_ne (show (241 : Nat) ≠ 239 by decide)]; exact hJ j (by omega))
                | (refine ih m4 (k + 1) (by omega) (by rw [hm4, am_up_ne (by decide), hm3, am_up_ne (by decide)]; exact hR) (FrR_tr (FrR_tr hf (FrR_one (by decide) hm3)) (FrR_one (by decide) hm4)) ⟨fun j hj => by rw [hm4, am_up_ne (by decide), am_up_ne (by decide), hm3, am_up_ne (by decide), am_up_ne (by decide)]; exact hA.1 j hj, fun j hj => by rw [hm4, am_up_ne (by decide), am_up_ne (by decide), hm3, am_up_ne (by decide), am_up_ne (by decide)]; exact hA.2 j hj⟩ (fun c hc => by rw [hm4, am_up_ne (by decide), hm3, am_up_ne (by decide)]; exact hC c hc) (fun j hj => ?_) _ _ hQ
                   by_cases e : j = k
                   · subst e
                     rw [hm4, am_up_ne (show (239 : Nat) ≠ 241 by decide), am_up_eq, hm3, am_up_eq]
                     unfold B_j B_cv bJ
                     rw [show B_ab R j = false from hab, decide_eq_false (show ¬ (2 ≤ NJ R (wA R) 0 j (nn (R 5)) ∧ NJ R (wB R) 0 j (nn (R 5)) = 0) by omega)]
                     exact ⟨rfl, rfl⟩
                   · rw [hm4, am_up_ne (show (239 : Nat) ≠ 241 by decide), am_up_nk e, hm3, am_up_nk e, am_up_ne (show (241 : Nat) ≠ 239 by decide)]; exact hJ j (by omega))
              · skip
                refine ev_aload rfl rfl ?_
                refine ev_getR (c := 12) (j := 28) rfl ?_ (hq := k_221 n)
                refine ev_iload rfl rfl ?_
                refine ev_zaldN rfl rfl ?_ (hq := k_239 n)
                rw [show m3 239 k = nI 0 by rw [hm3, am_up_eq]]
                refine ev_if_eqN (p2 := 152) rfl rfl (fun _ => ?_) (fun zz => absurd zz (by decide))
                refine ev_iconst (x := nI 0) rfl rfl ?_
                refine ev_zastS rfl (fun m4 hm4 => ?_) (by decide) (hq := k_241 n)
                refine ev_iincN rfl rfl rfl ?_
                refine ev_goto (p2 := 54) rfl rfl ?_
                have hab := cnd102
                first
                | (exact absurd (cnd102.symm.trans cnd136) (by decide))
                | (refine ih m4 (k + 1) (by omega) (by rw [hm4, am_up_ne (by decide), hm3, am_up_ne (by decide)]; exact hR) (FrR_tr (FrR_tr hf (FrR_one (by decide) hm3)) (FrR_one (by decide) hm4)) ⟨fun j hj => by rw [hm4, am_up_ne (by decide), am_up_ne (by decide), hm3, am_up_ne (by decide), am_up_ne (by decide)]; exact hA.1 j hj, fun j hj => by rw [hm4, am_up_ne (by decide), am_up_ne (by decide), hm3, am_up_ne (by decide), am_up_ne (by decide)]; exact hA.2 j hj⟩ (fun c hc => by rw [hm4, am_up_ne (by decide), hm3, am_up_ne (by decide)]; exact hC c hc) (fun j hj => ?_) _ _ hQ
                   by_cases e : j = k
                   · subst e
                     rw [hm4, am_up_ne (show (239 : Nat) ≠ 241 by decide), am_up_eq, hm3, am_up_eq]
                     unfold B_j B_cv bJ
                     rw [show B_ab R j = true from hab]
                     exact ⟨rfl, rfl⟩
                   · rw [hm4, am_up_ne (show (239 : Nat) ≠ 241 by decide), am_up_nk e, hm3, am_up_nk e, am_up_ne (show (241 : Nat) ≠ 239 by decide)]; exact hJ j (by omega))
                | (refine ih m4 (k + 1) (by omega) (by rw [hm4, am_up_ne (by decide), hm3, am_up_ne (by decide)]; exact hR) (FrR_tr (FrR_tr hf (FrR_one (by decide) hm3)) (FrR_one (by decide) hm4)) ⟨fun j hj => by rw [hm4, am_up_ne (by decide), am_up_ne (by decide), hm3, am_up_ne (by decide), am_up_ne (by decide)]; exact hA.1 j hj, fun j hj => by rw [hm4, am_up_ne (by decide), am_up_ne (by decide), hm3, am_up_ne (by decide), am_up_ne (by decide)]; exact hA.2 j hj⟩ (fun c hc => by rw [hm4, am_up_ne (by decide), hm3, am_up_ne (by decide)]; exact hC c hc) (fun j hj => ?_) _ _ hQ
                   by_cases e : j = k
                   · subst e
                     rw [hm4, am_up_ne (show (239 : Nat) ≠ 241 by decide), am_up_eq, hm3, am_up_eq]
                     unfold B_j B_cv bJ
                     rw [show B_ab R j = false from hab, decide_eq_true (show 2 ≤ NJ R (wA R) 0 j (nn (R 5)) ∧ NJ R (wB R) 0 j (nn (R 5)) = 0 from ⟨cnd112, cnd121⟩)]
                     exact ⟨rfl, rfl⟩
                   · rw [hm4, am_up_ne (show (239 : Nat) ≠ 241 by decide), am_up_nk e, hm3, am_up_nk e, am_up_ne (show (241 : Nat) ≠ 239 by decide)]; exact hJ j (by omega))
                | (refine ih m4 (k + 1) (by omega) (by rw [hm4, am_up_ne (by decide), hm3, am_up_ne (by decide)]; exact hR) (FrR_tr (FrR_tr hf (FrR_one (by decide) hm3)) (FrR_one (by decide) hm4)) ⟨fun j hj => by rw [hm4, am_up_ne (by decide), am_up_ne (by decide), hm3, am_up_ne (by decide), am_up_ne (by decide)]; exact hA.1 j hj, fun j hj => by rw [hm4, am_up_ne (by decide), am_up_ne (by decide), hm3, am_up_ne (by decide), am_up_ne (by decide)]; exact hA.2 j hj⟩ (fun c hc => by rw [hm4, am_up_ne (by decide), hm3, am_up_ne (by decide)]; exact hC c hc) (fun j hj => ?_) _ _ hQ
                   by_cases e : j = k
                   · subst e
                     rw [hm4, am_up_ne (show (239 : Nat) ≠ 241 by decide), am_up_eq, hm3, am_up_eq]
                     unfold B_j B_cv bJ
                     rw [show B_ab R j = false from hab, decide_eq_false (show ¬ (2 ≤ NJ R (wA R) 0 j (nn (R 5)) ∧ NJ R (wB R) 0 j (nn (R 5)) = 0) by omega)]
                     exact ⟨rfl, rfl⟩
                   · rw [hm4, am_up_ne (show (239 : Nat) ≠ 241 by decide), am_up_nk e, hm3, am_up_nk e, am_up_ne (show (241 : Nat) ≠ 239 by decide)]; exact hJ j (by omega))
            · skip
              refine ev_iconst (x := nI 1) rfl rfl ?_
              refine ev_goto (p2 := 129) rfl rfl ?_
              refine ev_zastS rfl (fun m3 hm3 => ?_) (by decide) (hq := k_239 n)
              refine ev_aload rfl rfl ?_
              refine ev_getR (c := 12) (j := 30) rfl ?_ (hq := k_221 n)
              refine ev_iload rfl rfl ?_
              refine ev_iload rfl rfl ?_
              refine ev_if_neO (p2 := 148) rfl rfl (fun cnd136 => ?_) (fun cnd136 => ?_)
              · skip
                refine ev_iconst (x := nI 1) rfl rfl ?_
                refine ev_goto (p2 := 153) rfl rfl ?_
                refine ev_zastS rfl (fun m4 hm4 => ?_) (by decide) (hq := k_241 n)
                refine ev_iincN rfl rfl rfl ?_
                refine ev_goto (p2 := 54) rfl rfl ?_
                have hab := cnd102
                first
                | (exact absurd (cnd102.symm.trans cnd136) (by decide))
                | (refine ih m4 (k + 1) (by omega) (by rw [hm4, am_up_ne (by decide), hm3, am_up_ne (by decide)]; exact hR) (FrR_tr (FrR_tr hf (FrR_one (by decide) hm3)) (FrR_one (by decide) hm4)) ⟨fun j hj => by rw [hm4, am_up_ne (by decide), am_up_ne (by decide), hm3, am_up_ne (by decide), am_up_ne (by decide)]; exact hA.1 j hj, fun j hj => by rw [hm4, am_up_ne (by decide), am_up_ne (by decide), hm3, am_up_ne (by decide), am_up_ne (by decide)]; exact hA.2 j hj⟩ (fun c hc => by rw [hm4, am_up_ne (by decide), hm3, am_up_ne (by decide)]; exact hC c hc) (fun j hj => ?_) _ _ hQ
                   by_cases e : j = k
                   · subst e
                     rw [hm4, am_up_ne (show (239 : Nat) ≠ 241 by decide), am_up_eq, hm3, am_up_eq]
                     unfold B_j B_cv bJ
                     rw [show B_ab R j = true from hab]
                     exact ⟨rfl, rfl⟩
                   · rw [hm4, am_up_ne (show (239 : Nat) ≠ 241 by decide), am_up_nk e, hm3, am_up_nk e, am_up_ne (show (241 : Nat) ≠ 239 by decide)]; exact hJ j (by omega))
                | (refine ih m4 (k + 1) (by omega) (by rw [hm4, am_up_ne (by decide), hm3, am_up_ne (by decide)]; exact hR) (FrR_tr (FrR_tr hf (FrR_one (by decide) hm3)) (FrR_one (by decide) hm4)) ⟨fun j hj => by rw [hm4, am_up_ne (by decide), am_up_ne (by decide), hm3, am_up_ne (by decide), am_up_ne (by decide)]; exact hA.1 j hj, fun j hj => by rw [hm4, am_up_ne (by decide), am_up_ne (by decide), hm3, am_up_ne (by decide), am_up_ne (by decide)]; exact hA.2 j hj⟩ (fun c hc => by rw [hm4, am_up_ne (by decide), hm3, am_up_ne (by decide)]; exact hC c hc) (fun j hj => ?_) _ _ hQ
                   by_cases e : j = k
                   · subst e
                     rw [hm4, am_up_ne (show (239 : Nat) ≠ 241 by decide), am_up_eq, hm3, am_up_eq]
                     unfold B_j B_cv bJ
                     rw [show B_ab R j = false from hab, decide_eq_true (show 2 ≤ NJ R (wA R) 0 j (nn (R 5)) ∧ NJ R (wB R) 0 j (nn (R 5)) = 0 from ⟨cnd112, cnd121⟩)]
                     exact ⟨rfl, rfl⟩
                   · rw [hm4, am_up_ne (show (239 : Nat) ≠ 241 by decide), am_up_nk e, hm3, am_up_nk e, am_up_ne (show (241 : Nat) ≠ 239 by decide)]; exact hJ j (by omega))
                | (refine ih m4 (k + 1) (by omega) (by rw [hm4, am_up_ne (by decide), hm3, am_up_ne (by decide)]; exact hR) (FrR_tr (FrR_tr hf (FrR_one (by decide) hm3)) (FrR_one (by decide) hm4)) ⟨fun j hj => by rw [hm4, am_up_ne (by decide), am_up_ne (by decide), hm3, am_up_ne (by decide), am_up_ne (by decide)]; exact hA.1 j hj, fun j hj => by rw [hm4, am_up_ne (by decide), am_up_ne (by decide), hm3, am_up_ne (by decide), am_up_ne (by decide)]; exact hA.2 j hj⟩ (fun c hc => by rw [hm4, am_up_ne (by decide), hm3, am_up_ne (by decide)]; exact hC c hc) (fun j hj => ?_) _ _ hQ
                   by_cases e : j = k
                   · subst e
                     rw [hm4, am_up_ne (show (239 : Nat) ≠ 241 by decide), am_up_eq, hm3, am_up_eq]
                     unfold B_j B_cv bJ
                     rw [show B_ab R j = false from hab, decide_eq_false (show ¬ (2 ≤ NJ R (wA R) 0 j (nn (R 5)) ∧ NJ R (wB R) 0 j (nn (R 5)) = 0) by omega)]
                     exact ⟨rfl, rfl⟩
                   · rw [hm4, am_up_ne (show (239 : Nat) ≠ 241 by decide), am_up_nk e, hm3, am_up_nk e, am_up_ne (show (241 : Nat) ≠ 239 by decide)]; exact hJ j (by omega))
              · skip
                refine ev_aload rfl rfl ?_
                refine ev_getR (c := 12) (j := 28) rfl ?_ (hq := k_221 n)
                refine ev_iload rfl rfl ?_
                refine ev_zaldN rfl rfl ?_ (hq := k_239 n)
                rw [show m3 239 k = nI 1 by rw [hm3, am_up_eq]]
                refine ev_if_eqN (p2 := 152) rfl rfl (fun zz => absurd zz (by decide)) (fun _ => ?_)
                refine ev_iconst (x := nI 1) rfl rfl ?_
                refine ev_goto (p2 := 153) rfl rfl ?_
                refine ev_zastS rfl (fun m4 hm4 => ?_) (by decide) (hq := k_241 n)
                refine ev_iincN rfl rfl rfl ?_
                refine ev_goto (p2 := 54) rfl rfl ?_
                have hab := cnd102
                first
                | (exact absurd (cnd102.symm.trans cnd136) (by decide))
                | (refine ih m4 (k + 1) (by omega) (by rw [hm4, am_up_ne (by decide), hm3, am_up_ne (by decide)]; exact hR) (FrR_tr (FrR_tr hf (FrR_one (by decide) hm3)) (FrR_one (by decide) hm4)) ⟨fun j hj => by rw [hm4, am_up_ne (by decide), am_up_ne (by decide), hm3, am_up_ne (by decide), am_up_ne (by decide)]; exact hA.1 j hj, fun j hj => by rw [hm4, am_up_ne (by decide), am_up_ne (by decide), hm3, am_up_ne (by decide), am_up_ne (by decide)]; exact hA.2 j hj⟩ (fun c hc => by rw [hm4, am_up_ne (by decide), hm3, am_up_ne (by decide)]; exact hC c hc) (fun j hj => ?_) _ _ hQ
                   by_cases e : j = k
                   · subst e
                     rw [hm4, am_up_ne (show (239 : Nat) ≠ 241 by decide), am_up_eq, hm3, am_up_eq]
                     unfold B_j B_cv bJ
                     rw [show B_ab R j = true from hab]
                     exact ⟨rfl, rfl⟩
                   · rw [hm4, am_up_ne (show (239 : Nat) ≠ 241 by decide), am_up_nk e, hm3, am_up_nk e, am_up_ne (show (241 : Nat) ≠ 239 by decide)]; exact hJ j (by omega))
                | (refine ih m4 (k + 1) (by omega) (by rw [hm4, am_up_ne (by decide), hm3, am_up_ne (by decide)]; exact hR) (FrR_tr (FrR_tr hf (FrR_one (by decide) hm3)) (FrR_one (by decide) hm4)) ⟨fun j hj => by rw [hm4, am_up_ne (by decide), am_up_ne (by decide), hm3, am_up_ne (by decide), am_up_ne (by decide)]; exact hA.1 j hj, fun j hj => by rw [hm4, am_up_ne (by decide), am_up_ne (by decide), hm3, am_up_ne (by decide), am_up_ne (by decide)]; exact hA.2 j hj⟩ (fun c hc => by rw [hm4, am_up_ne (by decide), hm3, am_up_ne (by decide)]; exact hC c hc) (fun j hj => ?_) _ _ hQ
                   by_cases e : j = k
                   · subst e
                     rw [hm4, am_up_ne (show (239 : Nat) ≠ 241 by decide), am_up_eq, hm3, am_up_eq]
                     unfold B_j B_cv bJ
                     rw [show B_ab R j = false from hab, decide_eq_true (show 2 ≤ NJ R (wA R) 0 j (nn (R 5)) ∧ NJ R (wB R) 0 j (nn (R 5)) = 0 from ⟨cnd112, cnd121⟩)]
                     exact ⟨rfl, rfl⟩
                   · rw [hm4, am_up_ne (show (239 : Nat) ≠ 241 by decide), am_up_nk e, hm3, am_up_nk e, am_up_ne (show (241 : Nat) ≠ 239 by decide)]; exact hJ j (by omega))
                | (refine ih m4 (k + 1) (by omega) (by rw [hm4, am_up_ne (by decide), hm3, am_up_ne (by decide)]; exact hR) (FrR_tr (FrR_tr hf (FrR_one (by decide) hm3)) (FrR_one (by decide) hm4)) ⟨fun j hj => by rw [hm4, am_up_ne (by decide), am_up_ne (by decide), hm3, am_up_ne (by decide), am_up_ne (by decide)]; exact hA.1 j hj, fun j hj => by rw [hm4, am_up_ne (by decide), am_up_ne (by decide), hm3, am_up_ne (by decide), am_up_ne (by decide)]; exact hA.2 j hj⟩ (fun c hc => by rw [hm4, am_up_ne (by decide), hm3, am_up_ne (by decide)]; exact hC c hc) (fun j hj => ?_) _ _ hQ
                   by_cases e : j = k
                   · subst e
                     rw [hm4, am_up_ne (show (239 : Nat) ≠ 241 by decide), am_up_eq, hm3, am_up_eq]
                     unfold B_j B_cv bJ
                     rw [show B_ab R j = false from hab, decide_eq_false (show ¬ (2 ≤ NJ R (wA R) 0 j (nn (R 5)) ∧ NJ R (wB R) 0 j (nn (R 5)) = 0) by omega)]
                     exact ⟨rfl, rfl⟩
                   · rw [hm4, am_up_ne (show (239 : Nat) ≠ 241 by decide), am_up_nk e, hm3, am_up_nk e, am_up_ne (show (241 : Nat) ≠ 239 by decide)]; exact hJ j (by omega))
      · skip
        refine ev_aload rfl rfl ?_
        refine ev_getR (c := 12) (j := 27) rfl ?_ (hq := k_221 n)
        refine ev_iload rfl rfl ?_
        refine ev_iconst (x := nI 100) rfl rfl ?_
        refine ev_isubN rfl ?_
        refine ev_zaldN rfl rfl ?_ (hq := k_238 n)
        rw [show mem 238 (nn (R (41 + 3 * k)) - 100) = ob (B_ab R k) by rw [B_ab_top (show ¬ fd R k < k by unfold fd; omega)]; exact hC _ (by omega)]
        refine ev_goto (p2 := 95) rfl rfl ?_
        refine ev_istore rfl rfl (Nat.le_of_ble_eq_true rfl) ?_
        refine ev_aload rfl rfl ?_
        refine ev_getR (c := 12) (j := 28) rfl ?_ (hq := k_221 n)
        refine ev_iload rfl rfl ?_
        refine ev_iload rfl rfl ?_
        refine ev_if_neO (p2 := 128) rfl rfl (fun cnd102 => ?_) (fun cnd102 => ?_)
        · skip
          refine ev_iconst (x := nI 0) rfl rfl ?_
          refine ev_zastS rfl (fun m3 hm3 => ?_) (by decide) (hq := k_239 n)
          refine ev_aload rfl rfl ?_
          refine ev_getR (c := 12) (j := 30) rfl ?_ (hq := k_221 n)
          refine ev_iload rfl rfl ?_
          refine ev_iload rfl rfl ?_
          refine ev_if_neO (p2 := 148) rfl rfl (fun cnd136 => ?_) (fun cnd136 => ?_)
          · skip
            refine ev_iconst (x := nI 1) rfl rfl ?_
            refine ev_goto (p2 := 153) rfl rfl ?_
            refine ev_zastS rfl (fun m4 hm4 => ?_) (by decide) (hq := k_241 n)
            refine ev_iincN rfl rfl rfl ?_
            refine ev_goto (p2 := 54) rfl rfl ?_
            have hab := cnd102
            first
            | (exact absurd (cnd102.symm.trans cnd136) (by decide))
            | (refine ih m4 (k + 1) (by omega) (by rw [hm4, am_up_ne (by decide), hm3, am_up_ne (by decide)]; exact hR) (FrR_tr (FrR_tr hf (FrR_one (by decide) hm3)) (FrR_one (by decide) hm4)) ⟨fun j hj => by rw [hm4, am_up_ne (by decide), am_up_ne (by decide), hm3, am_up_ne (by decide), am_up_ne (by decide)]; exact hA.1 j hj, fun j hj => by rw [hm4, am_up_ne (by decide), am_up_ne (by decide), hm3, am_up_ne (by decide), am_up_ne (by decide)]; exact hA.2 j hj⟩ (fun c hc => by rw [hm4, am_up_ne (by decide), hm3, am_up_ne (by decide)]; exact hC c hc) (fun j hj => ?_) _ _ hQ
               by_cases e : j = k
               · subst e
                 rw [hm4, am_up_ne (show (239 : Nat) ≠ 241 by decide), am_up_eq, hm3, am_up_eq]
                 unfold B_j B_cv bJ
                 rw [show B_ab R j = true from hab]
                 exact ⟨rfl, rfl⟩
               · rw [hm4, am_up_ne (show (239 : Nat) ≠ 241 by decide), am_up_nk e, hm3, am_up_nk e, am_up_ne (show (241 : Nat) ≠ 239 by decide)]; exact hJ j (by omega))
            | (refine ih m4 (k + 1) (by omega) (by rw [hm4, am_up_ne (by decide), hm3, am_up_ne (by decide)]; exact hR) (FrR_tr (FrR_tr hf (FrR_one (by decide) hm3)) (FrR_one (by decide) hm4)) ⟨fun j hj => by rw [hm4, am_up_ne (by decide), am_up_ne (by decide), hm3, am_up_ne (by decide), am_up_ne (by decide)]; exact hA.1 j hj, fun j hj => by rw [hm4, am_up_ne (by decide), am_up_ne (by decide), hm3, am_up_ne (by decide), am_up_ne (by decide)]; exact hA.2 j hj⟩ (fun c hc => by rw [hm4, am_up_ne (by decide), hm3, am_up_ne (by decide)]; exact hC c hc) (fun j hj => ?_) _ _ hQ
               by_cases e : j = k
               · subst e
                 rw [hm4, am_up_ne (show (239 : Nat) ≠ 241 by decide), am_up_eq, hm3, am_up_eq]
                 unfold B_j B_cv bJ
                 rw [show B_ab R j = false from hab, decide_eq_true (show 2 ≤ NJ R (wA R) 0 j (nn (R 5)) ∧ NJ R (wB R) 0 j (nn (R 5)) = 0 from ⟨cnd112, cnd121⟩)]
                 exact ⟨rfl, rfl⟩
               · rw [hm4, am_up_ne (show (239 : Nat) ≠ 241 by decide), am_up_nk e, hm3, am_up_nk e, am_up_ne (show (241 : Nat) ≠ 239 by decide)]; exact hJ j (by omega))
            | (refine ih m4 (k + 1) (by omega) (by rw [hm4, am_up_ne (by decide), hm3, am_up_ne (by decide)]; exact hR) (FrR_tr (FrR_tr hf (FrR_one (by decide) hm3)) (FrR_one (by decide) hm4)) ⟨fun j hj => by rw [hm4, am_up_ne (by decide), am_up_ne (by decide), hm3, am_up_ne (by decide), am_up_ne (by decide)]; exact hA.1 j hj, fun j hj => by rw [hm4, am_up_ne (by decide), am_up_ne (by decide), hm3, am_up_ne (by decide), am_up_ne (by decide)]; exact hA.2 j hj⟩ (fun c hc => by rw [hm4, am_up_ne (by decide), hm3, am_up_ne (by decide)]; exact hC c hc) (fun j hj => ?_) _ _ hQ
               by_cases e : j = k
               · subst e
                 rw [hm4, am_up_ne (show (239 : Nat) ≠ 241 by decide), am_up_eq, hm3, am_up_eq]
                 unfold B_j B_cv bJ
                 rw [show B_ab R j = false from hab, decide_eq_false (show ¬ (2 ≤ NJ R (wA R) 0 j (nn (R 5)) ∧ NJ R (wB R) 0 j (nn (R 5)) = 0) by omega)]
                 exact ⟨rfl, rfl⟩
               · rw [hm4, am_up_ne (show (239 : Nat) ≠ 241 by decide), am_up_nk e, hm3, am_up_nk e, am_up_ne (show (241 : Nat) ≠ 239 by decide)]; exact hJ j (by omega))
          · skip
            refine ev_aload rfl rfl ?_
            refine ev_getR (c := 12) (j := 28) rfl ?_ (hq := k_221 n)
            refine ev_iload rfl rfl ?_
            refine ev_zaldN rfl rfl ?_ (hq := k_239 n)
            rw [show m3 239 k = nI 0 by rw [hm3, am_up_eq]]
            refine ev_if_eqN (p2 := 152) rfl rfl (fun _ => ?_) (fun zz => absurd zz (by decide))
            refine ev_iconst (x := nI 0) rfl rfl ?_
            refine ev_zastS rfl (fun m4 hm4 => ?_) (by decide) (hq := k_241 n)
            refine ev_iincN rfl rfl rfl ?_
            refine ev_goto (p2 := 54) rfl rfl ?_
            have hab := cnd102
            first
            | (exact absurd (cnd102.symm.trans cnd136) (by decide))
            | (refine ih m4 (k + 1) (by omega) (by rw [hm4, am_up_ne (by decide), hm3, am_up_ne (by decide)]; exact hR) (FrR_tr (FrR_tr hf (FrR_one (by decide) hm3)) (FrR_one (by decide) hm4)) ⟨fun j hj => by rw [hm4, am_up_ne (by decide), am_up_ne (by decide), hm3, am_up_ne (by decide), am_up_ne (by decide)]; exact hA.1 j hj, fun j hj => by rw [hm4, am_up_ne (by decide), am_up_ne (by decide), hm3, am_up_ne (by decide), am_up_ne (by decide)]; exact hA.2 j hj⟩ (fun c hc => by rw [hm4, am_up_ne (by decide), hm3, am_up_ne (by decide)]; exact hC c hc) (fun j hj => ?_) _ _ hQ
               by_cases e : j = k
               · subst e
                 rw [hm4, am_up_ne (show (239 : Nat) ≠ 241 by decide), am_up_eq, hm3, am_up_eq]
                 unfold B_j B_cv bJ
                 rw [show B_ab R j = true from hab]
                 exact ⟨rfl, rfl⟩
               · rw [hm4, am_up_ne (show (239 : Nat) ≠ 241 by decide), am_up_nk e, hm3, am_up_nk e, am_up_ne (show (241 : Nat) ≠ 239 by decide)]; exact hJ j (by omega))
            | (refine ih m4 (k + 1) (by omega) (by rw [hm4, am_up_ne (by decide), hm3, am_up_ne (by decide)]; exact hR) (FrR_tr (FrR_tr hf (FrR_one (by decide) hm3)) (FrR_one (by decide) hm4)) ⟨fun j hj => by rw [hm4, am_up_ne (by decide), am_up_ne (by decide), hm3, am_up_ne (by decide), am_up_ne (by decide)]; exact hA.1 j hj, fun j hj => by rw [hm4, am_up_ne (by decide), am_up_ne (by decide), hm3, am_up_ne (by decide), am_up_ne (by decide)]; exact hA.2 j hj⟩ (fun c hc => by rw [hm4, am_up_ne (by decide), hm3, am_up_ne (by decide)]; exact hC c hc) (fun j hj => ?_) _ _ hQ
               by_cases e : j = k
               · subst e
                 rw [hm4, am_up_ne (show (239 : Nat) ≠ 241 by decide), am_up_eq, hm3, am_up_eq]
                 unfold B_j B_cv bJ
                 rw [show B_ab R j = false from hab, decide_eq_true (show 2 ≤ NJ R (wA R) 0 j (nn (R 5)) ∧ NJ R (wB R) 0 j (nn (R 5)) = 0 from ⟨cnd112, cnd121⟩)]
                 exact ⟨rfl, rfl⟩
               · rw [hm4, am_up_ne (show (239 : Nat) ≠ 241 by decide), am_up_nk e, hm3, am_up_nk e, am_up_ne (show (241 : Nat) ≠ 239 by decide)]; exact hJ j (by omega))
            | (refine ih m4 (k + 1) (by omega) (by rw [hm4, am_up_ne (by decide), hm3, am_up_ne (by decide)]; exact hR) (FrR_tr (FrR_tr hf (FrR_one (by decide) hm3)) (FrR_one (by decide) hm4)) ⟨fun j hj => by rw [hm4, am_up_ne (by decide), am_up_ne (by decide), hm3, am_up_ne (by decide), am_up_ne (by decide)]; exact hA.1 j hj, fun j hj => by rw [hm4, am_up_ne (by decide), am_up_ne (by decide), hm3, am_up_ne (by decide), am_up_ne (by decide)]; exact hA.2 j hj⟩ (fun c hc => by rw [hm4, am_up_ne (by decide), hm3, am_up_ne (by decide)]; exact hC c hc) (fun j hj => ?_) _ _ hQ
               by_cases e : j = k
               · subst e
                 rw [hm4, am_up_ne (show (239 : Nat) ≠ 241 by decide), am_up_eq, hm3, am_up_eq]
                 unfold B_j B_cv bJ
                 rw [show B_ab R j = false from hab, decide_eq_false (show ¬ (2 ≤ NJ R (wA R) 0 j (nn (R 5)) ∧ NJ R (wB R) 0 j (nn (R 5)) = 0) by omega)]
                 exact ⟨rfl, rfl⟩
               · rw [hm4, am_up_ne (show (239 : Nat) ≠ 241 by decide), am_up_nk e, hm3, am_up_nk e, am_up_ne (show (241 : Nat) ≠ 239 by decide)]; exact hJ j (by omega))
        · skip
          refine ev_aload rfl rfl ?_
          refine ev_getR (c := 12) (j := 23) rfl ?_ (hq := k_221 n)
          refine ev_iload rfl rfl ?_
          refine ev_ialdN rfl rfl ?_ (hq := k_234 n)
          rw [hAk.1]
          refine ev_iconst (x := nI 2) rfl rfl ?_
          refine ev_icmp_ltN (p2 := 128) rfl rfl (fun cnd112 => ?_) (fun cnd112 => ?_)
          · skip
            refine ev_iconst (x := nI 0) rfl rfl ?_
            refine ev_zastS rfl (fun m3 hm3 => ?_) (by decide) (hq := k_239 n)
            refine ev_aload rfl rfl ?_
            refine ev_getR (c := 12) (j := 30) rfl ?_ (hq := k_221 n)
            refine ev_iload rfl rfl ?_
            refine ev_iload rfl rfl ?_
            refine ev_if_neO (p2 := 148) rfl rfl (fun cnd136 => ?_) (fun cnd136 => ?_)
            · skip
              refine ev_iconst (x := nI 1) rfl rfl ?_
              refine ev_goto (p2 := 153) rfl rfl ?_
              refine ev_zastS rfl (fun m4 hm4 => ?_) (by decide) (hq := k_241 n)
              refine ev_iincN rfl rfl rfl ?_
              refine ev_goto (p2 := 54) rfl rfl ?_
              have hab := cnd102
              first
              | (exact absurd (cnd102.symm.trans cnd136) (by decide))
              | (refine ih m4 (k + 1) (by omega) (by rw [hm4, am_up_ne (by decide), hm3, am_up_ne (by decide)]; exact hR) (FrR_tr (FrR_tr hf (FrR_one (by decide) hm3)) (FrR_one (by decide) hm4)) ⟨fun j hj => by rw [hm4, am_up_ne (by decide), am_up_ne (by decide), hm3, am_up_ne (by decide), am_up_ne (by decide)]; exact hA.1 j hj, fun j hj => by rw [hm4, am_up_ne (by decide), am_up_ne (by decide), hm3, am_up_ne (by decide), am_up_ne (by decide)]; exact hA.2 j hj⟩ (fun c hc => by rw [hm4, am_up_ne (by decide), hm3, am_up_ne (by decide)]; exact hC c hc) (fun j hj => ?_) _ _ hQ
                 by_cases e : j = k
                 · subst e
                   rw [hm4, am_up_ne (show (239 : Nat) ≠ 241 by decide), am_up_eq, hm3, am_up_eq]
                   unfold B_j B_cv bJ
                   rw [show B_ab R j = true from hab]
                   exact ⟨rfl, rfl⟩
                 · rw [hm4, am_up_ne (show (239 : Nat) ≠ 241 by decide), am_up_nk e, hm3, am_up_nk e, am_up_ne (show (241 : Nat) ≠ 239 by decide)]; exact hJ j (by omega))
              | (refine ih m4 (k + 1) (by omega) (by rw [hm4, am_up_ne (by decide), hm3, am_up_ne (by decide)]; exact hR) (FrR_tr (FrR_tr hf (FrR_one (by decide) hm3)) (FrR_one (by decide) hm4)) ⟨fun j hj => by rw [hm4, am_up_ne (by decide), am_up_ne (by decide), hm3, am_up_ne (by decide), am_up_ne (by decide)]; exact hA.1 j hj, fun j hj => by rw [hm4, am_up_ne (by decide), am_up_ne (by decide), hm3, am_up_ne (by decide), am_up_ne (by decide)]; exact hA.2 j hj⟩ (fun c hc => by rw [hm4, am_up_ne (by decide), hm3, am_up_ne (by decide)]; exact hC c hc) (fun j hj => ?_) _ _ hQ
                 by_cases e : j = k
                 · subst e
                   rw [hm4, am_up_ne (show (239 : Nat) ≠ 241 by decide), am_up_eq, hm3, am_up_eq]
                   unfold B_j B_cv bJ
                   rw [show B_ab R j = false from hab, decide_eq_true (show 2 ≤ NJ R (wA R) 0 j (nn (R 5)) ∧ NJ R (wB R) 0 j (nn (R 5)) = 0 from ⟨cnd112, cnd121⟩)]
                   exact ⟨rfl, rfl⟩
                 · rw [hm4, am_up_ne (show (239 : Nat) ≠ 241 by decide), am_up_nk e, hm3, am_up_nk e, am_up_ne (show (241 : Nat) ≠ 239 by decide)]; exact hJ j (by omega))
              | (refine ih m4 (k + 1) (by omega) (by rw [hm4, am_up_ne (by decide), hm3, am_up_ne (by decide)]; exact hR) (FrR_tr (FrR_tr hf (FrR_one (by decide) hm3)) (FrR_one (by decide) hm4)) ⟨fun j hj => by rw [hm4, am_up_ne (by decide), am_up_ne (by decide), hm3, am_up_ne (by decide), am_up_ne (by decide)]; exact hA.1 j hj, fun j hj => by rw [hm4, am_up_ne (by decide), am_up_ne (by decide), hm3, am_up_ne (by decide), am_up_ne (by decide)]; exact hA.2 j hj⟩ (fun c hc => by rw [hm4, am_up_ne (by decide), hm3, am_up_ne (by decide)]; exact hC c hc) (fun j hj => ?_) _ _ hQ
                 by_cases e : j = k
                 · subst e
                   rw [hm4, am_up_ne (show (239 : Nat) ≠ 241 by decide), am_up_eq, hm3, am_up_eq]
                   unfold B_j B_cv bJ
                   rw [show B_ab R j = false from hab, decide_eq_false (show ¬ (2 ≤ NJ R (wA R) 0 j (nn (R 5)) ∧ NJ R (wB R) 0 j (nn (R 5)) = 0) by omega)]
                   exact ⟨rfl, rfl⟩
                 · rw [hm4, am_up_ne (show (239 : Nat) ≠ 241 by decide), am_up_nk e, hm3, am_up_nk e, am_up_ne (show (241 : Nat) ≠ 239 by decide)]; exact hJ j (by omega))
            · skip
              refine ev_aload rfl rfl ?_
              refine ev_getR (c := 12) (j := 28) rfl ?_ (hq := k_221 n)
              refine ev_iload rfl rfl ?_
              refine ev_zaldN rfl rfl ?_ (hq := k_239 n)
              rw [show m3 239 k = nI 0 by rw [hm3, am_up_eq]]
              refine ev_if_eqN (p2 := 152) rfl rfl (fun _ => ?_) (fun zz => absurd zz (by decide))
              refine ev_iconst (x := nI 0) rfl rfl ?_
              refine ev_zastS rfl (fun m4 hm4 => ?_) (by decide) (hq := k_241 n)
              refine ev_iincN rfl rfl rfl ?_
              refine ev_goto (p2 := 54) rfl rfl ?_
              have hab := cnd102
              first
              | (exact absurd (cnd102.symm.trans cnd136) (by decide))
              | (refine ih m4 (k + 1) (by omega) (by rw [hm4, am_up_ne (by decide), hm3, am_up_ne (by decide)]; exact hR) (FrR_tr (FrR_tr hf (FrR_one (by decide) hm3)) (FrR_one (by decide) hm4)) ⟨fun j hj => by rw [hm4, am_up_ne (by decide), am_up_ne (by decide), hm3, am_up_ne (by decide), am_up_ne (by decide)]; exact hA.1 j hj, fun j hj => by rw [hm4, am_up_ne (by decide), am_up_ne (by decide), hm3, am_up_ne (by decide), am_up_ne (by decide)]; exact hA.2 j hj⟩ (fun c hc => by rw [hm4, am_up_ne (by decide), hm3, am_up_ne (by decide)]; exact hC c hc) (fun j hj => ?_) _ _ hQ
                 by_cases e : j = k
                 · subst e
                   rw [hm4, am_up_ne (show (239 : Nat) ≠ 241 by decide), am_up_eq, hm3, am_up_eq]
                   unfold B_j B_cv bJ
                   rw [show B_ab R j = true from hab]
                   exact ⟨rfl, rfl⟩
                 · rw [hm4, am_up_ne (show (239 : Nat) ≠ 241 by decide), am_up_nk e, hm3, am_up_nk e, am_up_ne (show (241 : Nat) ≠ 239 by decide)]; exact hJ j (by omega))
              | (refine ih m4 (k + 1) (by omega) (by rw [hm4, am_up_ne (by decide), hm3, am_up_ne (by decide)]; exact hR) (FrR_tr (FrR_tr hf (FrR_one (by decide) hm3)) (FrR_one (by decide) hm4)) ⟨fun j hj => by rw [hm4, am_up_ne (by decide), am_up_ne (by decide), hm3, am_up_ne (by decide), am_up_ne (by decide)]; exact hA.1 j hj, fun j hj => by rw [hm4, am_up_ne (by decide), am_up_ne (by decide), hm3, am_up_ne (by decide), am_up_ne (by decide)]; exact hA.2 j hj⟩ (fun c hc => by rw [hm4, am_up_ne (by decide), hm3, am_up_ne (by decide)]; exact hC c hc) (fun j hj => ?_) _ _ hQ
                 by_cases e : j = k
                 · subst e
                   rw [hm4, am_up_ne (show (239 : Nat) ≠ 241 by decide), am_up_eq, hm3, am_up_eq]
                   unfold B_j B_cv bJ
                   rw [show B_ab R j = false from hab, decide_eq_true (show 2 ≤ NJ R (wA R) 0 j (nn (R 5)) ∧ NJ R (wB R) 0 j (nn (R 5)) = 0 from ⟨cnd112, cnd121⟩)]
                   exact ⟨rfl, rfl⟩
                 · rw [hm4, am_up_ne (show (239 : Nat) ≠ 241 by decide), am_up_nk e, hm3, am_up_nk e, am_up_ne (show (241 : Nat) ≠ 239 by decide)]; exact hJ j (by omega))
              | (refine ih m4 (k + 1) (by omega) (by rw [hm4, am_up_ne (by decide), hm3, am_up_ne (by decide)]; exact hR) (FrR_tr (FrR_tr hf (FrR_one (by decide) hm3)) (FrR_one (by decide) hm4)) ⟨fun j hj => by rw [hm4, am_up_ne (by decide), am_up_ne (by decide), hm3, am_up_ne (by decide), am_up_ne (by decide)]; exact hA.1 j hj, fun j hj => by rw [hm4, am_up_ne (by decide), am_up_ne (by decide), hm3, am_up_ne (by decide), am_up_ne (by decide)]; exact hA.2 j hj⟩ (fun c hc => by rw [hm4, am_up_ne (by decide), hm3, am_up_ne (by decide)]; exact hC c hc) (fun j hj => ?_) _ _ hQ
                 by_cases e : j = k
                 · subst e
                   rw [hm4, am_up_ne (show (239 : Nat) ≠ 241 by decide), am_up_eq, hm3, am_up_eq]
                   unfold B_j B_cv bJ
                   rw [show B_ab R j = false from hab, decide_eq_false (show ¬ (2 ≤ NJ R (wA R) 0 j (nn (R 5)) ∧ NJ R (wB R) 0 j (nn (R 5)) = 0) by omega)]
                   exact ⟨rfl, rfl⟩
                 · rw [hm4, am_up_ne (show (239 : Nat) ≠ 241 by decide), am_up_nk e, hm3, am_up_nk e, am_up_ne (show (241 : Nat) ≠ 239 by decide)]; exact hJ j (by omega))
          · skip
            refine ev_aload rfl rfl ?_
            refine ev_getR (c := 12) (j := 24) rfl ?_ (hq := k_221 n)
            refine ev_iload rfl rfl ?_
            refine ev_ialdN rfl rfl ?_ (hq := k_235 n)
            rw [hAk.2]
            refine ev_if_neN (p2 := 128) rfl rfl (fun cnd121 => ?_) (fun cnd121 => ?_)
            · skip
              refine ev_iconst (x := nI 0) rfl rfl ?_
              refine ev_zastS rfl (fun m3 hm3 => ?_) (by decide) (hq := k_239 n)
              refine ev_aload rfl rfl ?_
              refine ev_getR (c := 12) (j := 30) rfl ?_ (hq := k_221 n)
              refine ev_iload rfl rfl ?_
              refine ev_iload rfl rfl ?_
              refine ev_if_neO (p2 := 148) rfl rfl (fun cnd136 => ?_) (fun cnd136 => ?_)
              · skip
                refine ev_iconst (x := nI 1) rfl rfl ?_
                refine ev_goto (p2 := 153) rfl rfl ?_
                refine ev_zastS rfl (fun m4 hm4 => ?_) (by decide) (hq := k_241 n)
                refine ev_iincN rfl rfl rfl ?_
                refine ev_goto (p2 := 54) rfl rfl ?_
                have hab := cnd102
                first
                | (exact absurd (cnd102.symm.trans cnd136) (by decide))
                | (refine ih m4 (k + 1) (by omega) (by rw [hm4, am_up_ne (by decide), hm3, am_up_ne (by decide)]; exact hR) (FrR_tr (FrR_tr hf (FrR_one (by decide) hm3)) (FrR_one (by decide) hm4)) ⟨fun j hj => by rw [hm4, am_up_ne (by decide), am_up_ne (by decide), hm3, am_up_ne (by decide), am_up_ne (by decide)]; exact hA.1 j hj, fun j hj => by rw [hm4, am_up_ne (by decide), am_up_ne (by decide), hm3, am_up_ne (by decide), am_up_ne (by decide)]; exact hA.2 j hj⟩ (fun c hc => by rw [hm4, am_up_ne (by decide), hm3, am_up_ne (by decide)]; exact hC c hc) (fun j hj => ?_) _ _ hQ
                   by_cases e : j = k
                   · subst e
                     rw [hm4, am_up_ne (show (239 : Nat) ≠ 241 by decide), am_up_eq, hm3, am_up_eq]
                     unfold B_j B_cv bJ
                     rw [show B_ab R j = true from hab]
                     exact ⟨rfl, rfl⟩
                   · rw [hm4, am_up_ne (show (239 : Nat) ≠ 241 by decide), am_up_nk e, hm3, am_up_nk e, am_up_ne (show (241 : Nat) ≠ 239 by decide)]; exact hJ j (by omega))
                | (refine ih m4 (k + 1) (by omega) (by rw [hm4, am_up_ne (by decide), hm3, am_up_ne (by decide)]; exact hR) (FrR_tr (FrR_tr hf (FrR_one (by decide) hm3)) (FrR_one (by decide) hm4)) ⟨fun j hj => by rw [hm4, am_up_ne (by decide), am_up_ne (by decide), hm3, am_up_ne (by decide), am_up_ne (by decide)]; exact hA.1 j hj, fun j hj => by rw [hm4, am_up_ne (by decide), am_up_ne (by decide), hm3, am_up_ne (by decide), am_up_ne (by decide)]; exact hA.2 j hj⟩ (fun c hc => by rw [hm4, am_up_ne (by decide), hm3, am_up_ne (by decide)]; exact hC c hc) (fun j hj => ?_) _ _ hQ
                   by_cases e : j = k
                   · subst e
                     rw [hm4, am_up_ne (show (239 : Nat) ≠ 241 by decide), am_up_eq, hm3, am_up_eq]
                     unfold B_j B_cv bJ
                     rw [show B_ab R j = false from hab, decide_eq_true (show 2 ≤ NJ R (wA R) 0 j (nn (R 5)) ∧ NJ R (wB R) 0 j (nn (R 5)) = 0 from ⟨cnd112, cnd121⟩)]
                     exact ⟨rfl, rfl⟩
                   · rw [hm4, am_up_ne (show (239 : Nat) ≠ 241 by decide), am_up_nk e, hm3, am_up_nk e, am_up_ne (show (241 : Nat) ≠ 239 by decide)]; exact hJ j (by omega))
                | (refine ih m4 (k + 1) (by omega) (by rw [hm4, am_up_ne (by decide), hm3, am_up_ne (by decide)]; exact hR) (FrR_tr (FrR_tr hf (FrR_one (by decide) hm3)) (FrR_one (by decide) hm4)) ⟨fun j hj => by rw [hm4, am_up_ne (by decide), am_up_ne (by decide), hm3, am_up_ne (by decide), am_up_ne (by decide)]; exact hA.1 j hj, fun j hj => by rw [hm4, am_up_ne (by decide), am_up_ne (by decide), hm3, am_up_ne (by decide), am_up_ne (by decide)]; exact hA.2 j hj⟩ (fun c hc => by rw [hm4, am_up_ne (by decide), hm3, am_up_ne (by decide)]; exact hC c hc) (fun j hj => ?_) _ _ hQ
                   by_cases e : j = k
                   · subst e
                     rw [hm4, am_up_ne (show (239 : Nat) ≠ 241 by decide), am_up_eq, hm3, am_up_eq]
                     unfold B_j B_cv bJ
                     rw [show B_ab R j = false from hab, decide_eq_false (show ¬ (2 ≤ NJ R (wA R) 0 j (nn (R 5)) ∧ NJ R (wB R) 0 j (nn (R 5)) = 0) by omega)]
                     exact ⟨rfl, rfl⟩
                   · rw [hm4, am_up_ne (show (239 : Nat) ≠ 241 by decide), am_up_nk e, hm3, am_up_nk e, am_up_ne (show (241 : Nat) ≠ 239 by decide)]; exact hJ j (by omega))
              · skip
                refine ev_aload rfl rfl ?_
                refine ev_getR (c := 12) (j := 28) rfl ?_ (hq := k_221 n)
                refine ev_iload rfl rfl ?_
                refine ev_zaldN rfl rfl ?_ (hq := k_239 n)
                rw [show m3 239 k = nI 0 by rw [hm3, am_up_eq]]
                refine ev_if_eqN (p2 := 152) rfl rfl (fun _ => ?_) (fun zz => absurd zz (by decide))
                refine ev_iconst (x := nI 0) rfl rfl ?_
                refine ev_zastS rfl (fun m4 hm4 => ?_) (by decide) (hq := k_241 n)
                refine ev_iincN rfl rfl rfl ?_
                refine ev_goto (p2 := 54) rfl rfl ?_
                have hab := cnd102
                first
                | (exact absurd (cnd102.symm.trans cnd136) (by decide))
                | (refine ih m4 (k + 1) (by omega) (by rw [hm4, am_up_ne (by decide), hm3, am_up_ne (by decide)]; exact hR) (FrR_tr (FrR_tr hf (FrR_one (by decide) hm3)) (FrR_one (by decide) hm4)) ⟨fun j hj => by rw [hm4, am_up_ne (by decide), am_up_ne (by decide), hm3, am_up_ne (by decide), am_up_ne (by decide)]; exact hA.1 j hj, fun j hj => by rw [hm4, am_up_ne (by decide), am_up_ne (by decide), hm3, am_up_ne (by decide), am_up_ne (by decide)]; exact hA.2 j hj⟩ (fun c hc => by rw [hm4, am_up_ne (by decide), hm3, am_up_ne (by decide)]; exact hC c hc) (fun j hj => ?_) _ _ hQ
                   by_cases e : j = k
                   · subst e
                     rw [hm4, am_up_ne (show (239 : Nat) ≠ 241 by decide), am_up_eq, hm3, am_up_eq]
                     unfold B_j B_cv bJ
                     rw [show B_ab R j = true from hab]
                     exact ⟨rfl, rfl⟩
                   · rw [hm4, am_up_ne (show (239 : Nat) ≠ 241 by decide), am_up_nk e, hm3, am_up_nk e, am_up_ne (show (241 : Nat) ≠ 239 by decide)]; exact hJ j (by omega))
                | (refine ih m4 (k + 1) (by omega) (by rw [hm4, am_up_ne (by decide), hm3, am_up_ne (by decide)]; exact hR) (FrR_tr (FrR_tr hf (FrR_one (by decide) hm3)) (FrR_one (by decide) hm4)) ⟨fun j hj => by rw [hm4, am_up_ne (by decide), am_up_ne (by decide), hm3, am_up_ne (by decide), am_up_ne (by decide)]; exact hA.1 j hj, fun j hj => by rw [hm4, am_up_ne (by decide), am_up_ne (by decide), hm3, am_up_ne (by decide), am_up_ne (by decide)]; exact hA.2 j hj⟩ (fun c hc => by rw [hm4, am_up_ne (by decide), hm3, am_up_ne (by decide)]; exact hC c hc) (fun j hj => ?_) _ _ hQ
                   by_cases e : j = k
                   · subst e
                     rw [hm4, am_up_ne (show (239 : Nat) ≠ 241 by decide), am_up_eq, hm3, am_up_eq]
                     unfold B_j B_cv bJ
                     rw [show B_ab R j = false from hab, decide_eq_true (show 2 ≤ NJ R (wA R) 0 j (nn (R 5)) ∧ NJ R (wB R) 0 j (nn (R 5)) = 0 from ⟨cnd112, cnd121⟩)]
                     exact ⟨rfl, rfl⟩
                   · rw [hm4, am_up_ne (show (239 : Nat) ≠ 241 by decide), am_up_nk e, hm3, am_up_nk e, am_up_ne (show (241 : Nat) ≠ 239 by decide)]; exact hJ j (by omega))
                | (refine ih m4 (k + 1) (by omega) (by rw [hm4, am_up_ne (by decide), hm3, am_up_ne (by decide)]; exact hR) (FrR_tr (FrR_tr hf (FrR_one (by decide) hm3)) (FrR_one (by decide) hm4)) ⟨fun j hj => by rw [hm4, am_up_ne (by decide), am_up_ne (by decide), hm3, am_up_ne (by decide), am_up_ne (by decide)]; exact hA.1 j hj, fun j hj => by rw [hm4, am_up_ne (by decide), am_up_ne (by decide), hm3, am_up_ne (by decide), am_up_ne (by decide)]; exact hA.2 j hj⟩ (fun c hc => by rw [hm4, am_up_ne (by decide), hm3, am_up_ne (by decide)]; exact hC c hc) (fun j hj => ?_) _ _ hQ
                   by_cases e : j = k
                   · subst e
                     rw [hm4, am_up_ne (show (239 : Nat) ≠ 241 by decide), am_up_eq, hm3, am_up_eq]
                     unfold B_j B_cv bJ
                     rw [show B_ab R j = false from hab, decide_eq_false (show ¬ (2 ≤ NJ R (wA R) 0 j (nn (R 5)) ∧ NJ R (wB R) 0 j (nn (R 5)) = 0) by omega)]
                     exact ⟨rfl, rfl⟩
                   · rw [hm4, am_up_ne (show (239 : Nat) ≠ 241 by decide), am_up_nk e, hm3, am_up_nk e, am_up_ne (show (241 : Nat) ≠ 239 by decide)]; exact hJ j (by omega))
            · skip
              refine ev_iconst (x := nI 1) rfl rfl ?_
              refine ev_goto (p2 := 129) rfl rfl ?_
              refine ev_zastS rfl (fun m3 hm3 => ?_) (by decide) (hq := k_239 n)
              refine ev_aload rfl rfl ?_
              refine ev_getR (c := 12) (j := 30) rfl ?_ (hq := k_221 n)
              refine ev_iload rfl rfl ?_
              refine ev_iload rfl rfl ?_
              refine ev_if_neO (p2 := 148) rfl rfl (fun cnd136 => ?_) (fun cnd136 => ?_)
              · skip
                refine ev_iconst (x := nI 1) rfl rfl ?_
                refine ev_goto (p2 := 153) rfl rfl ?_
                refine ev_zastS rfl (fun m4 hm4 => ?_) (by decide) (hq := k_241 n)
                refine ev_iincN rfl rfl rfl ?_
                refine ev_goto (p2 := 54) rfl rfl ?_
                have hab := cnd102
                first
                | (exact absurd (cnd102.symm.trans cnd136) (by decide))
                | (refine ih m4 (k + 1) (by omega) (by rw [hm4, am_up_ne (by decide), hm3, am_up_ne (by decide)]; exact hR) (FrR_tr (FrR_tr hf (FrR_one (by decide) hm3)) (FrR_one (by decide) hm4)) ⟨fun j hj => by rw [hm4, am_up_ne (by decide), am_up_ne (by decide), hm3, am_up_ne (by decide), am_up_ne (by decide)]; exact hA.1 j hj, fun j hj => by rw [hm4, am_up_ne (by decide), am_up_ne (by decide), hm3, am_up_ne (by decide), am_up_ne (by decide)]; exact hA.2 j hj⟩ (fun c hc => by rw [hm4, am_up_ne (by decide), hm3, am_up_ne (by decide)]; exact hC c hc) (fun j hj => ?_) _ _ hQ
                   by_cases e : j = k
                   · subst e
                     rw [hm4, am_up_ne (show (239 : Nat) ≠ 241 by decide), am_up_eq, hm3, am_up_eq]
                     unfold B_j B_cv bJ
                     rw [show B_ab R j = true from hab]
                     exact ⟨rfl, rfl⟩
                   · rw [hm4, am_up_ne (show (239 : Nat) ≠ 241 by decide), am_up_nk e, hm3, am_up_nk e, am_up_ne (show (241 : Nat) ≠ 239 by decide)]; exact hJ j (by omega))
                | (refine ih m4 (k + 1) (by omega) (by rw [hm4, am_up_ne (by decide), hm3, am_up_ne (by decide)]; exact hR) (FrR_tr (FrR_tr hf (FrR_one (by decide) hm3)) (FrR_one (by decide) hm4)) ⟨fun j hj => by rw [hm4, am_up_ne (by decide), am_up_ne (by decide), hm3, am_up_ne (by decide), am_up_ne (by decide)]; exact hA.1 j hj, fun j hj => by rw [hm4, am_up_ne (by decide), am_up_ne (by decide), hm3, am_up_ne (by decide), am_up_ne (by decide)]; exact hA.2 j hj⟩ (fun c hc => by rw [hm4, am_up_ne (by decide), hm3, am_up_ne (by decide)]; exact hC c hc) (fun j hj => ?_) _ _ hQ
                   by_cases e : j = k
                   · subst e
                     rw [hm4, am_up_ne (show (239 : Nat) ≠ 241 by decide), am_up_eq, hm3, am_up_eq]
                     unfold B_j B_cv bJ
                     rw [show B_ab R j = false from hab, decide_eq_true (show 2 ≤ NJ R (wA R) 0 j (nn (R 5)) ∧ NJ R (wB R) 0 j (nn (R 5)) = 0 from ⟨cnd112, cnd121⟩)]
                     exact ⟨rfl, rfl⟩
                   · rw [hm4, am_up_ne (show (239 : Nat) ≠ 241 by decide), am_up_nk e, hm3, am_up_nk e, am_up_ne (show (241 : Nat) ≠ 239 by decide)]; exact hJ j (by omega))
                | (refine ih m4 (k + 1) (by omega) (by rw [hm4, am_up_ne (by decide), hm3, am_up_ne (by decide)]; exact hR) (FrR_tr (FrR_tr hf (FrR_one (by decide) hm3)) (FrR_one (by decide) hm4)) ⟨fun j hj => by rw [hm4, am_up_ne (by decide), am_up_ne (by decide), hm3, am_up_ne (by decide), am_up_ne (by decide)]; exact hA.1 j hj, fun j hj => by rw [hm4, am_up_ne (by decide), am_up_ne (by decide), hm3, am_up_ne (by decide), am_up_ne (by decide)]; exact hA.2 j hj⟩ (fun c hc => by rw [hm4, am_up_ne (by decide), hm3, am_up_ne (by decide)]; exact hC c hc) (fun j hj => ?_) _ _ hQ
                   by_cases e : j = k
                   · subst e
                     rw [hm4, am_up_ne (show (239 : Nat) ≠ 241 by decide), am_up_eq, hm3, am_up_eq]
                     unfold B_j B_cv bJ
                     rw [show B_ab R j = false from hab, decide_eq_false (show ¬ (2 ≤ NJ R (wA R) 0 j (nn (R 5)) ∧ NJ R (wB R) 0 j (nn (R 5)) = 0) by omega)]
                     exact ⟨rfl, rfl⟩
                   · rw [hm4, am_up_ne (show (239 : Nat) ≠ 241 by decide), am_up_nk e, hm3, am_up_nk e, am_up_ne (show (241 : Nat) ≠ 239 by decide)]; exact hJ j (by omega))
              · skip
                refine ev_aload rfl rfl ?_
                refine ev_getR (c := 12) (j := 28) rfl ?_ (hq := k_221 n)
                refine ev_iload rfl rfl ?_
                refine ev_zaldN rfl rfl ?_ (hq := k_239 n)
                rw [show m3 239 k = nI 1 by rw [hm3, am_up_eq]]
                refine ev_if_eqN (p2 := 152) rfl rfl (fun zz => absurd zz (by decide)) (fun _ => ?_)
                refine ev_iconst (x := nI 1) rfl rfl ?_
                refine ev_goto (p2 := 153) rfl rfl ?_
                refine ev_zastS rfl (fun m4 hm4 => ?_) (by decide) (hq := k_241 n)
                refine ev_iincN rfl rfl rfl ?_
                refine ev_goto (p2 := 54) rfl rfl ?_
                have hab := cnd102
                first
                | (exact absurd (cnd102.symm.trans cnd136) (by decide))
                | (refine ih m4 (k + 1) (by omega) (by rw [hm4, am_up_ne (by decide), hm3, am_up_ne (by decide)]; exact hR) (FrR_tr (FrR_tr hf (FrR_one (by decide) hm3)) (FrR_one (by decide) hm4)) ⟨fun j hj => by rw [hm4, am_up_ne (by decide), am_up_ne (by decide), hm3, am_up_ne (by decide), am_up_ne (by decide)]; exact hA.1 j hj, fun j hj => by rw [hm4, am_up_ne (by decide), am_up_ne (by decide), hm3, am_up_ne (by decide), am_up_ne (by decide)]; exact hA.2 j hj⟩ (fun c hc => by rw [hm4, am_up_ne (by decide), hm3, am_up_ne (by decide)]; exact hC c hc) (fun j hj => ?_) _ _ hQ
                   by_cases e : j = k
                   · subst e
                     rw [hm4, am_up_ne (show (239 : Nat) ≠ 241 by decide), am_up_eq, hm3, am_up_eq]
                     unfold B_j B_cv bJ
                     rw [show B_ab R j = true from hab]
                     exact ⟨rfl, rfl⟩
                   · rw [hm4, am_up_ne (show (239 : Nat) ≠ 241 by decide), am_up_nk e, hm3, am_up_nk e, am_up_ne (show (241 : Nat) ≠ 239 by decide)]; exact hJ j (by omega))
                | (refine ih m4 (k + 1) (by omega) (by rw [hm4, am_up_ne (by decide), hm3, am_up_ne (by decide)]; exact hR) (FrR_tr (FrR_tr hf (FrR_one (by decide) hm3)) (FrR_one (by decide) hm4)) ⟨fun j hj => by rw [hm4, am_up_ne (by decide), am_up_ne (by decide), hm3, am_up_ne (by decide), am_up_ne (by decide)]; exact hA.1 j hj, fun j hj => by rw [hm4, am_up_ne (by decide), am_up_ne (by decide), hm3, am_up_ne (by decide), am_up_ne (by decide)]; exact hA.2 j hj⟩ (fun c hc => by rw [hm4, am_up_ne (by decide), hm3, am_up_ne (by decide)]; exact hC c hc) (fun j hj => ?_) _ _ hQ
                   by_cases e : j = k
                   · subst e
                     rw [hm4, am_up_ne (show (239 : Nat) ≠ 241 by decide), am_up_eq, hm3, am_up_eq]
                     unfold B_j B_cv bJ
                     rw [show B_ab R j = false from hab, decide_eq_true (show 2 ≤ NJ R (wA R) 0 j (nn (R 5)) ∧ NJ R (wB R) 0 j (nn (R 5)) = 0 from ⟨cnd112, cnd121⟩)]
                     exact ⟨rfl, rfl⟩
                   · rw [hm4, am_up_ne (show (239 : Nat) ≠ 241 by decide), am_up_nk e, hm3, am_up_nk e, am_up_ne (show (241 : Nat) ≠ 239 by decide)]; exact hJ j (by omega))
                | (refine ih m4 (k + 1) (by omega) (by rw [hm4, am_up_ne (by decide), hm3, am_up_ne (by decide)]; exact hR) (FrR_tr (FrR_tr hf (FrR_one (by decide) hm3)) (FrR_one (by decide) hm4)) ⟨fun j hj => by rw [hm4, am_up_ne (by decide), am_up_ne (by decide), hm3, am_up_ne (by decide), am_up_ne (by decide)]; exact hA.1 j hj, fun j hj => by rw [hm4, am_up_ne (by decide), am_up_ne (by decide), hm3, am_up_ne (by decide), am_up_ne (by decide)]; exact hA.2 j hj⟩ (fun c hc => by rw [hm4, am_up_ne (by decide), hm3, am_up_ne (by decide)]; exact hC c hc) (fun j hj => ?_) _ _ hQ
                   by_cases e : j = k
                   · subst e
                     rw [hm4, am_up_ne (show (239 : Nat) ≠ 241 by decide), am_up_eq, hm3, am_up_eq]
                     unfold B_j B_cv bJ
                     rw [show B_ab R j = false from hab, decide_eq_false (show ¬ (2 ≤ NJ R (wA R) 0 j (nn (R 5)) ∧ NJ R (wB R) 0 j (nn (R 5)) = 0) by omega)]
                     exact ⟨rfl, rfl⟩
                   · rw [hm4, am_up_ne (show (239 : Nat) ≠ 241 by decide), am_up_nk e, hm3, am_up_nk e, am_up_ne (show (241 : Nat) ≠ 239 by decide)]; exact hJ j (by omega))
