/-! who is blamed: the reference's answers -/
theorem l_fB_c {d n : Nat} {mem0 : am_M} {Q : am_P} {R : am_R} (hw : wfR R) (r : Nat) : ∀ (mem : am_M) (k : Nat) (hk : k + r = nn (R 3)) (hR : mem 222 = R) (hf : FrR mem0 mem) (hA : BA mem 234 235 236 237 (fun j => NJ R (wA R) 0 j (nn (R 5))) (fun j => NJ R (wB R) 0 j (nn (R 5))) (fun j => NC R (wA R) 0 j (nn (R 5))) (fun j => NC R (wB R) 0 j (nn (R 5)))) (hC : (∀ c, c < k → mem 238 c = ob (bC R c))) (x2 x3 : Option Value) (hQ : ∀ m2 : am_M, FrR mem0 m2 → m2 222 = R → (∀ c, c < nn (R 3) → m2 238 c = ob (bC R c)) → (∀ j, j < nn (R 4) → m2 239 j = ob (B_j R j)) → (∀ l, l < nn (R 5) → m2 240 l = ob (B_l R l)) → Q none (am_SK n) m2), am_ev kc_X12_findBlamed (d + 3) 6 [some (.ref 221), some (.int (nI k)), x2, x3] [] (am_SK n) mem Q := by
  induction r with
  | zero =>
    intro mem k hk hR hf hA hC x2 x3 hQ
    have hb := wb_all hw
    have hkk : k = nn (R 3) := by omega
    subst hkk
    refine ev_iload rfl rfl ?_
    refine ev_aload rfl rfl ?_
    refine ev_getR (c := 12) (j := 0) rfl ?_ (hq := k_221 n)
    refine ev_iconst (x := nI 3) rfl rfl ?_
    refine ev_ialdN rfl rfl ?_ (hq := k_222 n)
    rw [show mem 222 (3) = nI (nn (R 3)) by rw [hR]; (repeat rw [upd_ne (by omega)]); exact wr3 hw]
    refine ev_icmp_geN (p2 := 52) rfl rfl (fun cnd13 => ?_) (fun cnd13 => ?_)
    · skip
      refine ev_iconst (x := nI 0) rfl rfl ?_
      refine ev_istore rfl rfl (Nat.le_of_ble_eq_true rfl) ?_
      exact l_fB_j hw _ mem 0 (Nat.zero_add _) hR hf hA hC (fun j hj => absurd hj (Nat.not_lt_zero j)) _ _ hQ
    · omega
  | succ r ih =>
    intro mem k hk hR hf hA hC x2 x3 hQ
    have hb := wb_all hw
    have hAk := hA.2 k (by omega)
    dsimp only at hAk
    have z1 := NC_le R (wA R) 0 k (nn (R 5))
    have z2 := NC_le R (wB R) 0 k (nn (R 5))
    refine ev_iload rfl rfl ?_
    refine ev_aload rfl rfl ?_
    refine ev_getR (c := 12) (j := 0) rfl ?_ (hq := k_221 n)
    refine ev_iconst (x := nI 3) rfl rfl ?_
    refine ev_ialdN rfl rfl ?_ (hq := k_222 n)
    rw [show mem 222 (3) = nI (nn (R 3)) by rw [hR]; (repeat rw [upd_ne (by omega)]); exact wr3 hw]
    refine ev_icmp_geN (p2 := 52) rfl rfl (fun cnd13 => ?_) (fun cnd13 => ?_)
    · omega
    · skip
      refine ev_aload rfl rfl ?_
      refine ev_getR (c := 12) (j := 27) rfl ?_ (hq := k_221 n)
      refine ev_iload rfl rfl ?_
      refine ev_aload rfl rfl ?_
      refine ev_getR (c := 12) (j := 25) rfl ?_ (hq := k_221 n)
      refine ev_iload rfl rfl ?_
      refine ev_ialdN rfl rfl ?_ (hq := k_236 n)
      rw [hAk.1]
      refine ev_iconst (x := nI 2) rfl rfl ?_
      refine ev_icmp_ltN (p2 := 44) rfl rfl (fun cnd28 => ?_) (fun cnd28 => ?_)
      · skip
        refine ev_iconst (x := nI 0) rfl rfl ?_
        refine ev_zastS rfl (fun m3 hm3 => ?_) (by decide) (hq := k_238 n)
        refine ev_iincN rfl rfl rfl ?_
        refine ev_goto (p2 := 6) rfl rfl ?_
        first
        | (refine ih m3 (k + 1) (by omega) (by rw [hm3, am_up_ne (by decide)]; exact hR) (FrR_tr hf (FrR_one (by decide) hm3)) ⟨fun j hj => by rw [hm3, am_up_ne (by decide), am_up_ne (by decide)]; exact hA.1 j hj, fun j hj => by rw [hm3, am_up_ne (by decide), am_up_ne (by decide)]; exact hA.2 j hj⟩ (fun c hc => ?_) _ _ hQ
           rw [hm3]
           by_cases e : c = k
           · subst e
             rw [am_up_eq]
             unfold bC
             rw [decide_eq_true (show 2 ≤ NC R (wA R) 0 c (nn (R 5)) ∧ NC R (wB R) 0 c (nn (R 5)) = 0 from ⟨cnd28, cnd37⟩)]
             rfl
           · rw [am_up_nk e]; exact hC c (by omega))
        | (refine ih m3 (k + 1) (by omega) (by rw [hm3, am_up_ne (by decide)]; exact hR) (FrR_tr hf (FrR_one (by decide) hm3)) ⟨fun j hj => by rw [hm3, am_up_ne (by decide), am_up_ne (by decide)]; exact hA.1 j hj, fun j hj => by rw [hm3, am_up_ne (by decide), am_up_ne (by decide)]; exact hA.2 j hj⟩ (fun c hc => ?_) _ _ hQ
           rw [hm3]
           by_cases e : c = k
           · subst e
             rw [am_up_eq]
             unfold bC
             rw [decide_eq_false (show ¬ (2 ≤ NC R (wA R) 0 c (nn (R 5)) ∧ NC R (wB R) 0 c (nn (R 5)) = 0) by omega)]
             rfl
           · rw [am_up_nk e]; exact hC c (by omega))
      · skip
        refine ev_aload rfl rfl ?_
        refine ev_getR (c := 12) (j := 26) rfl ?_ (hq := k_221 n)
        refine ev_iload rfl rfl ?_
        refine ev_ialdN rfl rfl ?_ (hq := k_237 n)
        rw [hAk.2]
        refine ev_if_neN (p2 := 44) rfl rfl (fun cnd37 => ?_) (fun cnd37 => ?_)
        · skip
          refine ev_iconst (x := nI 0) rfl rfl ?_
          refine ev_zastS rfl (fun m3 hm3 => ?_) (by decide) (hq := k_238 n)
          refine ev_iincN rfl rfl rfl ?_
          refine ev_goto (p2 := 6) rfl rfl ?_
          first
          | (refine ih m3 (k + 1) (by omega) (by rw [hm3, am_up_ne (by decide)]; exact hR) (FrR_tr hf (FrR_one (by decide) hm3)) ⟨fun j hj => by rw [hm3, am_up_ne (by decide), am_up_ne (by decide)]; exact hA.1 j hj, fun j hj => by rw [hm3, am_up_ne (by decide), am_up_ne (by decide)]; exact hA.2 j hj⟩ (fun c hc => ?_) _ _ hQ
             rw [hm3]
             by_cases e : c = k
             · subst e
               rw [am_up_eq]
               unfold bC
               rw [decide_eq_true (show 2 ≤ NC R (wA R) 0 c (nn (R 5)) ∧ NC R (wB R) 0 c (nn (R 5)) = 0 from ⟨cnd28, cnd37⟩)]
               rfl
             · rw [am_up_nk e]; exact hC c (by omega))
          | (refine ih m3 (k + 1) (by omega) (by rw [hm3, am_up_ne (by decide)]; exact hR) (FrR_tr hf (FrR_one (by decide) hm3)) ⟨fun j hj => by rw [hm3, am_up_ne (by decide), am_up_ne (by decide)]; exact hA.1 j hj, fun j hj => by rw [hm3, am_up_ne (by decide), am_up_ne (by decide)]; exact hA.2 j hj⟩ (fun c hc => ?_) _ _ hQ
             rw [hm3]
             by_cases e : c = k
             · subst e
               rw [am_up_eq]
               unfold bC
               rw [decide_eq_false (show ¬ (2 ≤ NC R (wA R) 0 c (nn (R 5)) ∧ NC R (wB R) 0 c (nn (R 5)) = 0) by omega)]
               rfl
             · rw [am_up_nk e]; exact hC c (by omega))
        · skip
          refine ev_iconst (x := nI 1) rfl rfl ?_
          refine ev_goto (p2 := 45) rfl rfl ?_
          refine ev_zastS rfl (fun m3 hm3 => ?_) (by decide) (hq := k_238 n)
          refine ev_iincN rfl rfl rfl ?_
          refine ev_goto (p2 := 6) rfl rfl ?_
          first
          | (refine ih m3 (k + 1) (by omega) (by rw [hm3, am_up_ne (by decide)]; exact hR) (FrR_tr hf (FrR_one (by decide) hm3)) ⟨fun j hj => by rw [hm3, am_up_ne (by decide), am_up_ne (by decide)]; exact hA.1 j hj, fun j hj => by rw [hm3, am_up_ne (by decide), am_up_ne (by decide)]; exact hA.2 j hj⟩ (fun c hc => ?_) _ _ hQ
             rw [hm3]
             by_cases e : c = k
             · subst e
               rw [am_up_eq]
               unfold bC
               rw [decide_eq_true (show 2 ≤ NC R (wA R) 0 c (nn (R 5)) ∧ NC R (wB R) 0 c (nn (R 5)) = 0 from ⟨cnd28, cnd37⟩)]
               rfl
             · rw [am_up_nk e]; exact hC c (by omega))
          | (refine ih m3 (k + 1) (by omega) (by rw [hm3, am_up_ne (by decide)]; exact hR) (FrR_tr hf (FrR_one (by decide) hm3)) ⟨fun j hj => by rw [hm3, am_up_ne (by decide), am_up_ne (by decide)]; exact hA.1 j hj, fun j hj => by rw [hm3, am_up_ne (by decide), am_up_ne (by decide)]; exact hA.2 j hj⟩ (fun c hc => ?_) _ _ hQ
             rw [hm3]
             by_cases e : c = k
             · subst e
               rw [am_up_eq]
               unfold bC
               rw [decide_eq_false (show ¬ (2 ≤ NC R (wA R) 0 c (nn (R 5)) ∧ NC R (wB R) 0 c (nn (R 5)) = 0) by omega)]
               rfl
             · rw [am_up_nk e]; exact hC c (by omega))
theorem c_X12_findBlamed {d n : Nat} {mem : am_M} {Q : am_P} {R : am_R} (hR : mem 222 = R) (hw : wfR R) (hQ : ∀ m2 : am_M, FrR mem m2 → m2 222 = R → (∀ c, c < nn (R 3) → m2 238 c = ob (bC R c)) → (∀ j, j < nn (R 4) → m2 239 j = ob (B_j R j)) → (∀ l, l < nn (R 5) → m2 240 l = ob (B_l R l)) → Q none (am_SK n) m2) : am_ex (d + 5) 204 [.ref 221] (am_SK n) mem Q := by
  refine ex_in (c0 := kc_X12_findBlamed) rfl (L := [some (.ref 221), none, none, none]) rfl ?_
  refine ev_aload rfl rfl ?_
  refine ev_call rfl rfl ?_
  refine c_X12_findBehind hR hw (fun mem hf hR hA => ?_)
  change am_ev _ _ _ _ [] _ _ _
  refine ev_iconst (x := nI 0) rfl rfl ?_
  refine ev_istore rfl rfl (Nat.le_of_ble_eq_true rfl) ?_
  exact l_fB_c hw _ mem 0 (Nat.zero_add _) hR hf hA (fun c hc => absurd hc (Nat.not_lt_zero c)) _ _ hQ
def X_blame (R : am_R) (w p : Int32) : Int32 := if P_th R w p then ob (if w = nI 0 then bC R (nn p) else if w = nI 1 then B_j R (nn p) else B_l R (nn p)) else S_BAD
def X_blames (R : am_R) : Int32 := nI (cnt (bC R) (nn (R 3)) + cnt (B_j R) (nn (R 4)) + cnt (B_l R) (nn (R 5)))
theorem th_cases {R : am_R} (hw : wfR R) {w p : Int32} (h : P_th R w p) : ∃ a c, w = nI a ∧ p = nI c ∧ c < 16 ∧ ((a = 0 ∧ c < nn (R 3)) ∨ (a = 1 ∧ c < nn (R 4)) ∨ (a = 2 ∧ c < nn (R 5))) := by
  have hb := wb_all hw
  rcases h with ⟨e, hp⟩ | ⟨e, hp⟩ | ⟨e, hp⟩
  · obtain ⟨e2, h2⟩ := am_idx (wr3 hw) (by omega) hp
    exact ⟨0, nn p, e, e2, by omega, Or.inl ⟨rfl, h2⟩⟩
  · obtain ⟨e2, h2⟩ := am_idx (wr4 hw) (by omega) hp
    exact ⟨1, nn p, e, e2, by omega, Or.inr (Or.inl ⟨rfl, h2⟩)⟩
  · obtain ⟨e2, h2⟩ := am_idx (wr5 hw) (by omega) hp
    exact ⟨2, nn p, e, e2, by omega, Or.inr (Or.inr ⟨rfl, h2⟩)⟩
theorem c_X12_blame {d n : Nat} {mem : am_M} {Q : am_P} {R : am_R} (hR : mem 222 = R) (hw : wfR R) (w p : Int32) (hQ : ∀ m2 : am_M, FrR mem m2 → m2 222 = R → Q (some (.int (X_blame R w p))) (am_SK n) m2) : am_ex (d + 6) 205 [.ref 221, .int w, .int p] (am_SK n) mem Q := by
  have hb := wb_all hw
  unfold X_blame at hQ
  by_cases hP : P_th R w p
  · rw [if_pos hP] at hQ
    obtain ⟨a, c, rfl, rfl, h16, hc⟩ := th_cases hw hP
    rw [nn_nI (by omega)] at hQ
    rcases hc with ⟨rfl, hc⟩ | ⟨rfl, hc⟩ | ⟨rfl, hc⟩
    · refine ex_in (c0 := kc_X12_blame) rfl (L := [some (.ref 221), some (.int (nI 0)), some (.int (nI c)), none]) rfl ?_
      refine ev_aload rfl rfl ?_
      refine ev_iload rfl rfl ?_
      refine ev_iload rfl rfl ?_
      refine ev_call rfl rfl ?_
      refine r_brokenAt hR _ _ ?_
      rw [brk0 hw hc]
      change am_ev _ _ _ _ [_] _ _ _
      refine ev_if_geN (p2 := 12) rfl rfl ?_ (by omega)
      refine ev_aload rfl rfl ?_
      refine ev_call rfl rfl ?_
      refine c_X12_findBlamed hR hw (fun m2 hf hR2 hC hJ hL => ?_)
      change am_ev _ _ _ _ [] _ _ _
      refine ev_iload rfl rfl ?_
      refine ev_if_neN (p2 := 29) rfl rfl (fun zz => absurd zz (by decide)) (fun _ => ?_)
      refine ev_aload rfl rfl ?_
      refine ev_getR (c := 12) (j := 27) rfl ?_ (hq := k_221 n)
      refine ev_iload rfl rfl ?_
      refine ev_zaldN rfl rfl ?_ (hq := k_238 n)
      rw [hC c hc]
      refine ev_goto (p2 := 49) rfl rfl ?_
      refine ev_istore rfl rfl (Nat.le_of_ble_eq_true rfl) ?_
      refine ev_iload rfl rfl ?_
      refine ev_if_eqO (p2 := 58) rfl rfl (fun cnd51 => ?_) (fun cnd51 => ?_)
      · skip
        refine ev_iconst (x := nI 0) rfl rfl ?_
        refine ev_iret rfl ?_
        have hz := hQ m2 hf hR2
        first
        | (rw [show bC R c = true from cnd51] at hz; exact hz)
        | (rw [show bC R c = false from cnd51] at hz; exact hz)
      · skip
        refine ev_iconst (x := nI 1) rfl rfl ?_
        refine ev_goto (p2 := 59) rfl rfl ?_
        refine ev_iret rfl ?_
        have hz := hQ m2 hf hR2
        first
        | (rw [show bC R c = true from cnd51] at hz; exact hz)
        | (rw [show bC R c = false from cnd51] at hz; exact hz)
    · refine ex_in (c0 := kc_X12_blame) rfl (L := [some (.ref 221), some (.int (nI 1)), some (.int (nI c)), none]) rfl ?_
      refine ev_aload rfl rfl ?_
      refine ev_iload rfl rfl ?_
      refine ev_iload rfl rfl ?_
      refine ev_call rfl rfl ?_
      refine r_brokenAt hR _ _ ?_
      rw [brk1 hw hc]
      change am_ev _ _ _ _ [_] _ _ _
      refine ev_if_geN (p2 := 12) rfl rfl ?_ (by omega)
      refine ev_aload rfl rfl ?_
      refine ev_call rfl rfl ?_
      refine c_X12_findBlamed hR hw (fun m2 hf hR2 hC hJ hL => ?_)
      change am_ev _ _ _ _ [] _ _ _
      refine ev_iload rfl rfl ?_
      refine ev_if_neN (p2 := 29) rfl rfl (fun _ => ?_) (fun zz => absurd zz (by decide))
      refine ev_iload rfl rfl ?_
      refine ev_iconst (x := nI 1) rfl rfl ?_
      refine ev_icmp_neN (p2 := 43) rfl rfl (fun zz => absurd zz (by decide)) (fun _ => ?_)
      refine ev_aload rfl rfl ?_
      refine ev_getR (c := 12) (j := 28) rfl ?_ (hq := k_221 n)
      refine ev_iload rfl rfl ?_
      refine ev_zaldN rfl rfl ?_ (hq := k_239 n)
      rw [hJ c hc]
      refine ev_goto (p2 := 49) rfl rfl ?_
      refine ev_istore rfl rfl (Nat.le_of_ble_eq_true rfl) ?_
      refine ev_iload rfl rfl ?_
      refine ev_if_eqO (p2 := 58) rfl rfl (fun cnd51 => ?_) (fun cnd51 => ?_)
      · skip
        refine ev_iconst (x := nI 0) rfl rfl ?_
        refine ev_iret rfl ?_
        have hz := hQ m2 hf hR2
        first
        | (rw [show B_j R c = true from cnd51] at hz; exact hz)
        | (rw [show B_j R c = false from cnd51] at hz; exact hz)
      · skip
        refine ev_iconst (x := nI 1) rfl rfl ?_
        refine ev_goto (p2 := 59) rfl rfl ?_
        refine ev_iret rfl ?_
        have hz := hQ m2 hf hR2
        first
        | (rw [show B_j R c = true from cnd51] at hz; exact hz)
        | (rw [show B_j R c = false from cnd51] at hz; exact hz)
    · refine ex_in (c0 := kc_X12_blame) rfl (L := [some (.ref 221), some (.int (nI 2)), some (.int (nI c)), none]) rfl ?_
      refine ev_aload rfl rfl ?_
      refine ev_iload rfl rfl ?_
      refine ev_iload rfl rfl ?_
      refine ev_call rfl rfl ?_
      refine r_brokenAt hR _ _ ?_
      rw [brk2 hw hc]
      change am_ev _ _ _ _ [_] _ _ _
      refine ev_if_geN (p2 := 12) rfl rfl ?_ (by omega)
      refine ev_aload rfl rfl ?_
      refine ev_call rfl rfl ?_
      refine c_X12_findBlamed hR hw (fun m2 hf hR2 hC hJ hL => ?_)
      change am_ev _ _ _ _ [] _ _ _
      refine ev_iload rfl rfl ?_
      refine ev_if_neN (p2 := 29) rfl rfl (fun _ => ?_) (fun zz => absurd zz (by decide))
      refine ev_iload rfl rfl ?_
      refine ev_iconst (x := nI 1) rfl rfl ?_
      refine ev_icmp_neN (p2 := 43) rfl rfl (fun _ => ?_) (fun zz => absurd zz (by decide))
      refine ev_aload rfl rfl ?_
      refine ev_getR (c := 12) (j := 29) rfl ?_ (hq := k_221 n)
      refine ev_iload rfl rfl ?_
      refine ev_zaldN rfl rfl ?_ (hq := k_240 n)
      rw [hL c hc]
      refine ev_istore rfl rfl (Nat.le_of_ble_eq_true rfl) ?_
      refine ev_iload rfl rfl ?_
      refine ev_if_eqO (p2 := 58) rfl rfl (fun cnd51 => ?_) (fun cnd51 => ?_)
      · skip
        refine ev_iconst (x := nI 0) rfl rfl ?_
        refine ev_iret rfl ?_
        have hz := hQ m2 hf hR2
        first
        | (rw [show B_l R c = true from cnd51] at hz; exact hz)
        | (rw [show B_l R c = false from cnd51] at hz; exact hz)
      · skip
        refine ev_iconst (x := nI 1) rfl rfl ?_
        refine ev_goto (p2 := 59) rfl rfl ?_
        refine ev_iret rfl ?_
        have hz := hQ m2 hf hR2
        first
        | (rw [show B_l R c = true from cnd51] at hz; exact hz)
        | (rw [show B_l R c = false from cnd51] at hz; exact hz)
  · rw [if_neg hP] at hQ
    refine ex_in (c0 := kc_X12_blame) rfl (L := [some (.ref 221), some (.int w), some (.int p), none]) rfl ?_
    refine ev_aload rfl rfl ?_
    refine ev_iload rfl rfl ?_
    refine ev_iload rfl rfl ?_
    refine ev_call rfl rfl ?_
    refine r_brokenAt hR _ _ ?_
    rw [brkN hP]
    change am_ev _ _ _ _ [_] _ _ _
    refine ev_if_ge (p2 := 12) rfl rfl (fun cnd6 => ?_) (fun cnd6 => ?_)
    · exact absurd cnd6 (by decide)
    · skip
      refine ev_iconst (x := (-1000000001)) rfl rfl ?_
      refine ev_iret rfl ?_
      exact hQ mem (FrR_refl _) hR
theorem l_bs_l {d n : Nat} {Q : am_P} {R : am_R} {mem : am_M} (hR : mem 222 = R) (hw : wfR R) (hC : ∀ c, c < nn (R 3) → mem 238 c = ob (bC R c)) (hJ : ∀ j, j < nn (R 4) → mem 239 j = ob (B_j R j)) (hL : ∀ l, l < nn (R 5) → mem 240 l = ob (B_l R l)) (r : Nat) : ∀ (k : Nat) (hk : k + r = nn (R 5)) (hQ : Q (some (.int (X_blames R))) (am_SK n) mem), am_ev kc_X12_blames d 78 [some (.ref 221), some (.int (nI (cnt (bC R) (nn (R 3)) + cnt (B_j R) (nn (R 4)) + cnt (B_l R) (k)))), some (.int (nI k))] [] (am_SK n) mem Q := by
  induction r with
  | zero =>
    intro k hk hQ
    have hb := wb_all hw
    have q1 := cnt_le (bC R) (nn (R 3))
    have q2 := cnt_le (B_j R) (nn (R 4))
    have q3 := cnt_le (B_l R) k
    have hkk : k = nn (R 5) := by omega
    subst hkk
    refine ev_iload rfl rfl ?_
    refine ev_aload rfl rfl ?_
    refine ev_getR (c := 12) (j := 0) rfl ?_ (hq := k_221 n)
    refine ev_iconst (x := nI 5) rfl rfl ?_
    refine ev_ialdN rfl rfl ?_ (hq := k_222 n)
    rw [show mem 222 (5) = nI (nn (R 5)) by rw [hR]; (repeat rw [upd_ne (by omega)]); exact wr5 hw]
    refine ev_icmp_geN (p2 := 111) rfl rfl (fun cnd85 => ?_) (fun cnd85 => ?_)
    · skip
      refine ev_iload rfl rfl ?_
      refine ev_iret rfl ?_
      exact hQ
    · omega
  | succ r ih =>
    intro k hk hQ
    have hb := wb_all hw
    have q1 := cnt_le (bC R) (nn (R 3))
    have q2 := cnt_le (B_j R) (nn (R 4))
    have q3 := cnt_le (B_l R) k
    refine ev_iload rfl rfl ?_
    refine ev_aload rfl rfl ?_
    refine ev_getR (c := 12) (j := 0) rfl ?_ (hq := k_221 n)
    refine ev_iconst (x := nI 5) rfl rfl ?_
    refine ev_ialdN rfl rfl ?_ (hq := k_222 n)
    rw [show mem 222 (5) = nI (nn (R 5)) by rw [hR]; (repeat rw [upd_ne (by omega)]); exact wr5 hw]
    refine ev_icmp_geN (p2 := 111) rfl rfl (fun cnd85 => ?_) (fun cnd85 => ?_)
    · omega
    · skip
      refine ev_iload rfl rfl ?_
      refine ev_aload rfl rfl ?_
      refine ev_getR (c := 12) (j := 29) rfl ?_ (hq := k_221 n)
      refine ev_iload rfl rfl ?_
      refine ev_zaldN rfl rfl ?_ (hq := k_240 n)
      rw [hL k (by omega)]
      refine ev_if_eqO (p2 := 102) rfl rfl (fun cnd95 => ?_) (fun cnd95 => ?_)
      · skip
        refine ev_iconst (x := nI 0) rfl rfl ?_
        refine ev_iaddN rfl ?_
        refine ev_istore rfl rfl (Nat.le_of_ble_eq_true rfl) ?_
        refine ev_iincN rfl rfl rfl ?_
        refine ev_goto (p2 := 78) rfl rfl ?_
        first
        | (rw [show cnt (bC R) (nn (R 3)) + cnt (B_j R) (nn (R 4)) + cnt (B_l R) (k) + 1 = cnt (bC R) (nn (R 3)) + cnt (B_j R) (nn (R 4)) + cnt (B_l R) (k + 1) from by have z := cnt_t (show B_l R k = true from cnd95); omega]
           exact ih (k + 1) (by omega) hQ)
        | (rw [show cnt (bC R) (nn (R 3)) + cnt (B_j R) (nn (R 4)) + cnt (B_l R) (k) + 0 = cnt (bC R) (nn (R 3)) + cnt (B_j R) (nn (R 4)) + cnt (B_l R) (k + 1) from by have z := cnt_f (show B_l R k = false from cnd95); omega]
           exact ih (k + 1) (by omega) hQ)
      · skip
        refine ev_iconst (x := nI 1) rfl rfl ?_
        refine ev_goto (p2 := 103) rfl rfl ?_
        refine ev_iaddN rfl ?_
        refine ev_istore rfl rfl (Nat.le_of_ble_eq_true rfl) ?_
        refine ev_iincN rfl rfl rfl ?_
        refine ev_goto (p2 := 78) rfl rfl ?_
        first
        | (rw [show cnt (bC R) (nn (R 3)) + cnt (B_j R) (nn (R 4)) + cnt (B_l R) (k) + 1 = cnt (bC R) (nn (R 3)) + cnt (B_j R) (nn (R 4)) + cnt (B_l R) (k + 1) from by have z := cnt_t (show B_l R k = true from cnd95); omega]
           exact ih (k + 1) (by omega) hQ)
        | (rw [show cnt (bC R) (nn (R 3)) + cnt (B_j R) (nn (R 4)) + cnt (B_l R) (k) + 0 = cnt (bC R) (nn (R 3)) + cnt (B_j R) (nn (R 4)) + cnt (B_l R) (k + 1) from by have z := cnt_f (show B_l R k = false from cnd95); omega]
           exact ih (k + 1) (by omega) hQ)
theorem l_bs_j {d n : Nat} {Q : am_P} {R : am_R} {mem : am_M} (hR : mem 222 = R) (hw : wfR R) (hC : ∀ c, c < nn (R 3) → mem 238 c = ob (bC R c)) (hJ : ∀ j, j < nn (R 4) → mem 239 j = ob (B_j R j)) (hL : ∀ l, l < nn (R 5) → mem 240 l = ob (B_l R l)) (r : Nat) : ∀ (k : Nat) (hk : k + r = nn (R 4)) (hQ : Q (some (.int (X_blames R))) (am_SK n) mem), am_ev kc_X12_blames d 43 [some (.ref 221), some (.int (nI (cnt (bC R) (nn (R 3)) + cnt (B_j R) (k)))), some (.int (nI k))] [] (am_SK n) mem Q := by
  induction r with
  | zero =>
    intro k hk hQ
    have hb := wb_all hw
    have q1 := cnt_le (bC R) (nn (R 3))
    have q2 := cnt_le (B_j R) (nn (R 4))
    have q3 := cnt_le (B_j R) k
    have hkk : k = nn (R 4) := by omega
    subst hkk
    refine ev_iload rfl rfl ?_
    refine ev_aload rfl rfl ?_
    refine ev_getR (c := 12) (j := 0) rfl ?_ (hq := k_221 n)
    refine ev_iconst (x := nI 4) rfl rfl ?_
    refine ev_ialdN rfl rfl ?_ (hq := k_222 n)
    rw [show mem 222 (4) = nI (nn (R 4)) by rw [hR]; (repeat rw [upd_ne (by omega)]); exact wr4 hw]
    refine ev_icmp_geN (p2 := 76) rfl rfl (fun cnd50 => ?_) (fun cnd50 => ?_)
    · skip
      refine ev_iconst (x := nI 0) rfl rfl ?_
      refine ev_istore rfl rfl (Nat.le_of_ble_eq_true rfl) ?_
      exact l_bs_l hR hw hC hJ hL _ 0 (Nat.zero_add _) hQ
    · omega
  | succ r ih =>
    intro k hk hQ
    have hb := wb_all hw
    have q1 := cnt_le (bC R) (nn (R 3))
    have q2 := cnt_le (B_j R) (nn (R 4))
    have q3 := cnt_le (B_j R) k
    refine ev_iload rfl rfl ?_
    refine ev_aload rfl rfl ?_
    refine ev_getR (c := 12) (j := 0) rfl ?_ (hq := k_221 n)
    refine ev_iconst (x := nI 4) rfl rfl ?_
    refine ev_ialdN rfl rfl ?_ (hq := k_222 n)
    rw [show mem 222 (4) = nI (nn (R 4)) by rw [hR]; (repeat rw [upd_ne (by omega)]); exact wr4 hw]
    refine ev_icmp_geN (p2 := 76) rfl rfl (fun cnd50 => ?_) (fun cnd50 => ?_)
    · omega
    · skip
      refine ev_iload rfl rfl ?_
      refine ev_aload rfl rfl ?_
      refine ev_getR (c := 12) (j := 28) rfl ?_ (hq := k_221 n)
      refine ev_iload rfl rfl ?_
      refine ev_zaldN rfl rfl ?_ (hq := k_239 n)
      rw [hJ k (by omega)]
      refine ev_if_eqO (p2 := 67) rfl rfl (fun cnd60 => ?_) (fun cnd60 => ?_)
      · skip
        refine ev_iconst (x := nI 0) rfl rfl ?_
        refine ev_iaddN rfl ?_
        refine ev_istore rfl rfl (Nat.le_of_ble_eq_true rfl) ?_
        refine ev_iincN rfl rfl rfl ?_
        refine ev_goto (p2 := 43) rfl rfl ?_
        first
        | (rw [show cnt (bC R) (nn (R 3)) + cnt (B_j R) (k) + 1 = cnt (bC R) (nn (R 3)) + cnt (B_j R) (k + 1) from by have z := cnt_t (show B_j R k = true from cnd60); omega]
           exact ih (k + 1) (by omega) hQ)
        | (rw [show cnt (bC R) (nn (R 3)) + cnt (B_j R) (k) + 0 = cnt (bC R) (nn (R 3)) + cnt (B_j R) (k + 1) from by have z := cnt_f (show B_j R k = false from cnd60); omega]
           exact ih (k + 1) (by omega) hQ)
      · skip
        refine ev_iconst (x := nI 1) rfl rfl ?_
        refine ev_goto (p2 := 68) rfl rfl ?_
        refine ev_iaddN rfl ?_
        refine ev_istore rfl rfl (Nat.le_of_ble_eq_true rfl) ?_
        refine ev_iincN rfl rfl rfl ?_
        refine ev_goto (p2 := 43) rfl rfl ?_
        first
        | (rw [show cnt (bC R) (nn (R 3)) + cnt (B_j R) (k) + 1 = cnt (bC R) (nn (R 3)) + cnt (B_j R) (k + 1) from by have z := cnt_t (show B_j R k = true from cnd60); omega]
           exact ih (k + 1) (by omega) hQ)
        | (rw [show cnt (bC R) (nn (R 3)) + cnt (B_j R) (k) + 0 = cnt (bC R) (nn (R 3)) + cnt (B_j R) (k + 1) from by have z := cnt_f (show B_j R k = false from cnd60); omega]
           exact ih (k + 1) (by omega) hQ)
theorem l_bs_c {d n : Nat} {Q : am_P} {R : am_R} {mem : am_M} (hR : mem 222 = R) (hw : wfR R) (hC : ∀ c, c < nn (R 3) → mem 238 c = ob (bC R c)) (hJ : ∀ j, j < nn (R 4) → mem 239 j = ob (B_j R j)) (hL : ∀ l, l < nn (R 5) → mem 240 l = ob (B_l R l)) (r : Nat) : ∀ (k : Nat) (hk : k + r = nn (R 3)) (hQ : Q (some (.int (X_blames R))) (am_SK n) mem), am_ev kc_X12_blames d 8 [some (.ref 221), some (.int (nI (cnt (bC R) (k)))), some (.int (nI k))] [] (am_SK n) mem Q := by
  induction r with
  | zero =>
    intro k hk hQ
    have hb := wb_all hw
    have q1 := cnt_le (bC R) (nn (R 3))
    have q2 := cnt_le (B_j R) (nn (R 4))
    have q3 := cnt_le (bC R) k
    have hkk : k = nn (R 3) := by omega
    subst hkk
    refine ev_iload rfl rfl ?_
    refine ev_aload rfl rfl ?_
    refine ev_getR (c := 12) (j := 0) rfl ?_ (hq := k_221 n)
    refine ev_iconst (x := nI 3) rfl rfl ?_
    refine ev_ialdN rfl rfl ?_ (hq := k_222 n)
    rw [show mem 222 (3) = nI (nn (R 3)) by rw [hR]; (repeat rw [upd_ne (by omega)]); exact wr3 hw]
    refine ev_icmp_geN (p2 := 41) rfl rfl (fun cnd15 => ?_) (fun cnd15 => ?_)
    · skip
      refine ev_iconst (x := nI 0) rfl rfl ?_
      refine ev_istore rfl rfl (Nat.le_of_ble_eq_true rfl) ?_
      exact l_bs_j hR hw hC hJ hL _ 0 (Nat.zero_add _) hQ
    · omega
  | succ r ih =>
    intro k hk hQ
    have hb := wb_all hw
    have q1 := cnt_le (bC R) (nn (R 3))
    have q2 := cnt_le (B_j R) (nn (R 4))
    have q3 := cnt_le (bC R) k
    refine ev_iload rfl rfl ?_
    refine ev_aload rfl rfl ?_
    refine ev_getR (c := 12) (j := 0) rfl ?_ (hq := k_221 n)
    refine ev_iconst (x := nI 3) rfl rfl ?_
    refine ev_ialdN rfl rfl ?_ (hq := k_222 n)
    rw [show mem 222 (3) = nI (nn (R 3)) by rw [hR]; (repeat rw [upd_ne (by omega)]); exact wr3 hw]
    refine ev_icmp_geN (p2 := 41) rfl rfl (fun cnd15 => ?_) (fun cnd15 => ?_)
    · omega
    · skip
      refine ev_iload rfl rfl ?_
      refine ev_aload rfl rfl ?_
      refine ev_getR (c := 12) (j := 27) rfl ?_ (hq := k_221 n)
      refine ev_iload rfl rfl ?_
      refine ev_zaldN rfl rfl ?_ (hq := k_238 n)
      rw [hC k (by omega)]
      refine ev_if_eqO (p2 := 32) rfl rfl (fun cnd25 => ?_) (fun cnd25 => ?_)
      · skip
        refine ev_iconst (x := nI 0) rfl rfl ?_
        refine ev_iaddN rfl ?_
        refine ev_istore rfl rfl (Nat.le_of_ble_eq_true rfl) ?_
        refine ev_iincN rfl rfl rfl ?_
        refine ev_goto (p2 := 8) rfl rfl ?_
        first
        | (rw [show cnt (bC R) (k) + 1 = cnt (bC R) (k + 1) from by have z := cnt_t (show bC R k = true from cnd25); omega]
           exact ih (k + 1) (by omega) hQ)
        | (rw [show cnt (bC R) (k) + 0 = cnt (bC R) (k + 1) from by have z := cnt_f (show bC R k = false from cnd25); omega]
           exact ih (k + 1) (by omega) hQ)
      · skip
        refine ev_iconst (x := nI 1) rfl rfl ?_
        refine ev_goto (p2 := 33) rfl rfl ?_
        refine ev_iaddN rfl ?_
        refine ev_istore rfl rfl (Nat.le_of_ble_eq_true rfl) ?_
        refine ev_iincN rfl rfl rfl ?_
        refine ev_goto (p2 := 8) rfl rfl ?_
        first
        | (rw [show cnt (bC R) (k) + 1 = cnt (bC R) (k + 1) from by have z := cnt_t (show bC R k = true from cnd25); omega]
           exact ih (k + 1) (by omega) hQ)
        | (rw [show cnt (bC R) (k) + 0 = cnt (bC R) (k + 1) from by have z := cnt_f (show bC R k = false from cnd25); omega]
           exact ih (k + 1) (by omega) hQ)
theorem c_X12_blames {d n : Nat} {mem : am_M} {Q : am_P} {R : am_R} (hR : mem 222 = R) (hw : wfR R) (hQ : ∀ m2 : am_M, FrR mem m2 → m2 222 = R → Q (some (.int (X_blames R))) (am_SK n) m2) : am_ex (d + 6) 206 [.ref 221] (am_SK n) mem Q := by
  refine ex_in (c0 := kc_X12_blames) rfl (L := [some (.ref 221), none, none]) rfl ?_
  refine ev_aload rfl rfl ?_
  refine ev_call rfl rfl ?_
  refine c_X12_findBlamed hR hw (fun m2 hf hR2 hC hJ hL => ?_)
  change am_ev _ _ _ _ [] _ _ _
  refine ev_iconst (x := nI 0) rfl rfl ?_
  refine ev_istore rfl rfl (Nat.le_of_ble_eq_true rfl) ?_
  refine ev_iconst (x := nI 0) rfl rfl ?_
  refine ev_istore rfl rfl (Nat.le_of_ble_eq_true rfl) ?_
  exact l_bs_c hR2 hw hC hJ hL _ 0 (Nat.zero_add _) (hQ m2 hf hR2)
