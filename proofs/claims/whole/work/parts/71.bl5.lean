/-! who is blamed: the class's answers -/
theorem l_bl_l {d n : Nat} {mem0 : am_M} {Q : am_P} {R : am_R} (r : Nat) : ∀ (mem : am_M) (k : Nat) (hk : k + r = nn (R 5)) (hC : CplT 66 R mem) (hf : FrC mem0 mem) (hc : (∀ c, c < nn (R 3) → mem 185 c = ob (bC R c))) (hj : (∀ j, j < nn (R 4) → mem 186 j = ob (B_j R j) ∧ mem 187 j = ob (B_cv R j))) (hl : (∀ l, l < k → mem 188 l = ob (B_l R l))) (h8 : mem 180 8 = nI (cnt (bC R) (nn (R 3)) + cnt (B_j R) (nn (R 4)) + cnt (B_l R) k)) (x3 : Option Value) (hQ : ∀ m2 : am_M, FrC mem0 m2 → CplT 66 R m2 → (∀ c, c < nn (R 3) → m2 185 c = ob (bC R c)) → (∀ j, j < nn (R 4) → m2 186 j = ob (B_j R j)) → (∀ l, l < nn (R 5) → m2 188 l = ob (B_l R l)) → m2 180 8 = nI (cnt (bC R) (nn (R 3)) + cnt (B_j R) (nn (R 4)) + cnt (B_l R) (nn (R 5))) → Q none (am_SK n) m2), am_ev kc_X2_blameLamps (d + 3) 2 [some (.ref 180), some (.ref 66), some (.int (nI k)), x3] [] (am_SK n) mem Q := by
  induction r with
  | zero =>
    intro mem k hk hC hf hc hj hl h8 x3 hQ
    have hb := wb_all (cp_w hC)
    have q1 := cnt_le (bC R) (nn (R 3))
    have q2 := cnt_le (B_j R) (nn (R 4))
    have q3 := cnt_le (B_l R) k
    have hkk : k = nn (R 5) := by omega
    subst hkk
    refine ev_iload rfl rfl ?_
    refine ev_aload rfl rfl ?_
    refine ev_getI (c := 9) (j := 6) rfl ?_ (hq := kt_0 n am_T66)
    rw [cp_t6 hC]
    refine ev_icmp_geN (p2 := 79) rfl rfl (fun cnd7 => ?_) (fun cnd7 => ?_)
    · skip
      refine ev_vret rfl ?_
      exact hQ mem hf hC hc (fun j h => (hj j h).1) hl h8
    · omega
  | succ r ih =>
    intro mem k hk hC hf hc hj hl h8 x3 hQ
    have hb := wb_all (cp_w hC)
    have q1 := cnt_le (bC R) (nn (R 3))
    have q2 := cnt_le (B_j R) (nn (R 4))
    have q3 := cnt_le (B_l R) k
    have hjl := cp_jl hC (show k < nn (R 5) by omega)
    have hjk := hj _ hjl
    have hdk := ((cp_w hC).2.2.2.2.1 k (by omega)).2.2.2.2.2.2
    refine ev_iload rfl rfl ?_
    refine ev_aload rfl rfl ?_
    refine ev_getI (c := 9) (j := 6) rfl ?_ (hq := kt_0 n am_T66)
    rw [cp_t6 hC]
    refine ev_icmp_geN (p2 := 79) rfl rfl (fun cnd7 => ?_) (fun cnd7 => ?_)
    · omega
    · skip
      refine ev_aload rfl rfl ?_
      refine ev_getR (c := 9) (j := 5) rfl ?_ (hq := kt_0 n am_T66)
      refine ev_iload rfl rfl ?_
      refine ev_aldN rfl rfl ?_ (kr_lamp (by omega)) (hq := kt_3 n am_T66)
      refine ev_astore rfl rfl (Nat.le_of_ble_eq_true rfl) ?_
      refine ev_aload rfl rfl ?_
      refine ev_getR (c := 2) (j := 7) rfl ?_ (hq := k_180 n)
      refine ev_iload rfl rfl ?_
      refine ev_aload rfl rfl ?_
      refine ev_getI (c := 4) (j := 6) rfl ?_ (hq := kt_lamp n am_T66 (by omega))
      rw [cp_l (k := 6) (l := k) hC (by omega) (by decide)]
      refine ev_if_eq (p2 := 53) rfl rfl (fun cnd26 => ?_) (fun cnd26 => ?_)
      · skip
        refine ev_iconst (x := nI 0) rfl rfl ?_
        refine ev_zastS rfl (fun m3 hm3 => ?_) (by decide) (hq := k_188 n)
        refine ev_aload rfl rfl ?_
        first | refine ev_dupR rfl ?_ | refine ev_dupI rfl ?_
        refine ev_getI (c := 2) (j := 8) rfl ?_ (hq := k_180 n)
        rw [show m3 180 8 = nI (cnt (bC R) (nn (R 3)) + cnt (B_j R) (nn (R 4)) + cnt (B_l R) k) by rw [hm3, am_up_ne (by decide)]; exact h8]
        refine ev_aload rfl rfl ?_
        refine ev_getR (c := 2) (j := 7) rfl ?_ (hq := k_180 n)
        refine ev_iload rfl rfl ?_
        refine ev_zaldN rfl rfl ?_ (hq := k_188 n)
        rw [show m3 188 k = nI 0 by rw [hm3, am_up_eq]]
        refine ev_call rfl rfl ?_
        refine c_X11_bit _ (by decide) ?_
        change am_ev _ _ _ _ [_, _, _] _ _ _
        refine ev_iaddN rfl ?_
        refine ev_putS (c := 2) (j := 8) rfl (fun m4 hm4 => ?_) (hq := k_180 n)
        refine ev_iincN rfl rfl rfl ?_
        refine ev_goto (p2 := 2) rfl rfl ?_
        first
        | (have hbl : B_l R k = true := by
             unfold B_l dk
             rw [show B_cv R (jt R k) = false from cnd38, show S_should R k = true from cnd46, decide_eq_true (show R (77 + 7 * k + 6) = nI 1 from ((is01n hdk).mp cnd26))]; rfl
           have hm9 : m4 = am_up (am_up mem 188 k (nI 1)) 180 8 (nI (cnt (bC R) (nn (R 3)) + cnt (B_j R) (nn (R 4)) + cnt (B_l R) k + 1)) := by rw [hm4, hm3]
           refine ih m4 (k + 1) (by omega) (cp_fr hC (fun q hq => by rw [hm9, am_up_ne (by omega), am_up_ne (by omega)])) (FrC_tr hf (fun q hq => by rw [hm9, am_up_ne (by omega), am_up_ne (by omega)])) (fun c h => by rw [hm9, am_up_ne (by decide), am_up_ne (by decide)]; exact hc c h) (fun j h => by rw [hm9, am_up_ne (by decide), am_up_ne (by decide), am_up_ne (by decide), am_up_ne (by decide)]; exact hj j h) (fun l h => ?_) ?_ _ hQ
           · rw [hm9, am_up_ne (by decide)]
             by_cases e : l = k
             · rw [e, am_up_eq, hbl]; rfl
             · rw [am_up_nk e]; exact hl l (by omega)
           · have z := cnt_t hbl
             rw [hm9, am_up_eq]
             congr 1
             omega)
        | (have hbl : B_l R k = false := by
             unfold B_l dk
             rw [show B_cv R (jt R k) = true from cnd38]; rfl
           have hm9 : m4 = am_up (am_up mem 188 k (nI 0)) 180 8 (nI (cnt (bC R) (nn (R 3)) + cnt (B_j R) (nn (R 4)) + cnt (B_l R) k + 0)) := by rw [hm4, hm3]
           refine ih m4 (k + 1) (by omega) (cp_fr hC (fun q hq => by rw [hm9, am_up_ne (by omega), am_up_ne (by omega)])) (FrC_tr hf (fun q hq => by rw [hm9, am_up_ne (by omega), am_up_ne (by omega)])) (fun c h => by rw [hm9, am_up_ne (by decide), am_up_ne (by decide)]; exact hc c h) (fun j h => by rw [hm9, am_up_ne (by decide), am_up_ne (by decide), am_up_ne (by decide), am_up_ne (by decide)]; exact hj j h) (fun l h => ?_) ?_ _ hQ
           · rw [hm9, am_up_ne (by decide)]
             by_cases e : l = k
             · rw [e, am_up_eq, hbl]; rfl
             · rw [am_up_nk e]; exact hl l (by omega)
           · have z := cnt_f hbl
             rw [hm9, am_up_eq]
             congr 1
             omega)
        | (have hbl : B_l R k = false := by
             unfold B_l dk
             rw [show S_should R k = false from cnd46, Bool.false_and, Bool.and_false]
           have hm9 : m4 = am_up (am_up mem 188 k (nI 0)) 180 8 (nI (cnt (bC R) (nn (R 3)) + cnt (B_j R) (nn (R 4)) + cnt (B_l R) k + 0)) := by rw [hm4, hm3]
           refine ih m4 (k + 1) (by omega) (cp_fr hC (fun q hq => by rw [hm9, am_up_ne (by omega), am_up_ne (by omega)])) (FrC_tr hf (fun q hq => by rw [hm9, am_up_ne (by omega), am_up_ne (by omega)])) (fun c h => by rw [hm9, am_up_ne (by decide), am_up_ne (by decide)]; exact hc c h) (fun j h => by rw [hm9, am_up_ne (by decide), am_up_ne (by decide), am_up_ne (by decide), am_up_ne (by decide)]; exact hj j h) (fun l h => ?_) ?_ _ hQ
           · rw [hm9, am_up_ne (by decide)]
             by_cases e : l = k
             · rw [e, am_up_eq, hbl]; rfl
             · rw [am_up_nk e]; exact hl l (by omega)
           · have z := cnt_f hbl
             rw [hm9, am_up_eq]
             congr 1
             omega)
        | (have hbl : B_l R k = false := by
             unfold B_l dk
             rw [decide_eq_false (show ¬ R (77 + 7 * k + 6) = nI 1 from fun z => absurd cnd26 ((is01n hdk).mpr z)), Bool.and_false, Bool.and_false]
           have hm9 : m4 = am_up (am_up mem 188 k (nI 0)) 180 8 (nI (cnt (bC R) (nn (R 3)) + cnt (B_j R) (nn (R 4)) + cnt (B_l R) k + 0)) := by rw [hm4, hm3]
           refine ih m4 (k + 1) (by omega) (cp_fr hC (fun q hq => by rw [hm9, am_up_ne (by omega), am_up_ne (by omega)])) (FrC_tr hf (fun q hq => by rw [hm9, am_up_ne (by omega), am_up_ne (by omega)])) (fun c h => by rw [hm9, am_up_ne (by decide), am_up_ne (by decide)]; exact hc c h) (fun j h => by rw [hm9, am_up_ne (by decide), am_up_ne (by decide), am_up_ne (by decide), am_up_ne (by decide)]; exact hj j h) (fun l h => ?_) ?_ _ hQ
           · rw [hm9, am_up_ne (by decide)]
             by_cases e : l = k
             · rw [e, am_up_eq, hbl]; rfl
             · rw [am_up_nk e]; exact hl l (by omega)
           · have z := cnt_f hbl
             rw [hm9, am_up_eq]
             congr 1
             omega)
      · skip
        refine ev_aload rfl rfl ?_
        refine ev_getR (c := 2) (j := 6) rfl ?_ (hq := k_180 n)
        refine ev_aload rfl rfl ?_
        refine ev_getI (c := 4) (j := 1) rfl ?_ (hq := kt_lamp n am_T66 (by omega))
        rw [cp_l1 hC (l := k) (by omega)]
        refine ev_zaldN rfl rfl ?_ (hq := k_187 n)
        rw [hjk.2]
        refine ev_if_neO (p2 := 53) rfl rfl (fun cnd38 => ?_) (fun cnd38 => ?_)
        · skip
          refine ev_iconst (x := nI 0) rfl rfl ?_
          refine ev_zastS rfl (fun m3 hm3 => ?_) (by decide) (hq := k_188 n)
          refine ev_aload rfl rfl ?_
          first | refine ev_dupR rfl ?_ | refine ev_dupI rfl ?_
          refine ev_getI (c := 2) (j := 8) rfl ?_ (hq := k_180 n)
          rw [show m3 180 8 = nI (cnt (bC R) (nn (R 3)) + cnt (B_j R) (nn (R 4)) + cnt (B_l R) k) by rw [hm3, am_up_ne (by decide)]; exact h8]
          refine ev_aload rfl rfl ?_
          refine ev_getR (c := 2) (j := 7) rfl ?_ (hq := k_180 n)
          refine ev_iload rfl rfl ?_
          refine ev_zaldN rfl rfl ?_ (hq := k_188 n)
          rw [show m3 188 k = nI 0 by rw [hm3, am_up_eq]]
          refine ev_call rfl rfl ?_
          refine c_X11_bit _ (by decide) ?_
          change am_ev _ _ _ _ [_, _, _] _ _ _
          refine ev_iaddN rfl ?_
          refine ev_putS (c := 2) (j := 8) rfl (fun m4 hm4 => ?_) (hq := k_180 n)
          refine ev_iincN rfl rfl rfl ?_
          refine ev_goto (p2 := 2) rfl rfl ?_
          first
          | (have hbl : B_l R k = true := by
               unfold B_l dk
               rw [show B_cv R (jt R k) = false from cnd38, show S_should R k = true from cnd46, decide_eq_true (show R (77 + 7 * k + 6) = nI 1 from ((is01n hdk).mp cnd26))]; rfl
             have hm9 : m4 = am_up (am_up mem 188 k (nI 1)) 180 8 (nI (cnt (bC R) (nn (R 3)) + cnt (B_j R) (nn (R 4)) + cnt (B_l R) k + 1)) := by rw [hm4, hm3]
             refine ih m4 (k + 1) (by omega) (cp_fr hC (fun q hq => by rw [hm9, am_up_ne (by omega), am_up_ne (by omega)])) (FrC_tr hf (fun q hq => by rw [hm9, am_up_ne (by omega), am_up_ne (by omega)])) (fun c h => by rw [hm9, am_up_ne (by decide), am_up_ne (by decide)]; exact hc c h) (fun j h => by rw [hm9, am_up_ne (by decide), am_up_ne (by decide), am_up_ne (by decide), am_up_ne (by decide)]; exact hj j h) (fun l h => ?_) ?_ _ hQ
             · rw [hm9, am_up_ne (by decide)]
               by_cases e : l = k
               · rw [e, am_up_eq, hbl]; rfl
               · rw [am_up_nk e]; exact hl l (by omega)
             · have z := cnt_t hbl
               rw [hm9, am_up_eq]
               congr 1
               omega)
          | (have hbl : B_l R k = false := by
               unfold B_l dk
               rw [show B_cv R (jt R k) = true from cnd38]; rfl
             have hm9 : m4 = am_up (am_up mem 188 k (nI 0)) 180 8 (nI (cnt (bC R) (nn (R 3)) + cnt (B_j R) (nn (R 4)) + cnt (B_l R) k + 0)) := by rw [hm4, hm3]
             refine ih m4 (k + 1) (by omega) (cp_fr hC (fun q hq => by rw [hm9, am_up_ne (by omega), am_up_ne (by omega)])) (FrC_tr hf (fun q hq => by rw [hm9, am_up_ne (by omega), am_up_ne (by omega)])) (fun c h => by rw [hm9, am_up_ne (by decide), am_up_ne (by decide)]; exact hc c h) (fun j h => by rw [hm9, am_up_ne (by decide), am_up_ne (by decide), am_up_ne (by decide), am_up_ne (by decide)]; exact hj j h) (fun l h => ?_) ?_ _ hQ
             · rw [hm9, am_up_ne (by decide)]
               by_cases e : l = k
               · rw [e, am_up_eq, hbl]; rfl
               · rw [am_up_nk e]; exact hl l (by omega)
             · have z := cnt_f hbl
               rw [hm9, am_up_eq]
               congr 1
               omega)
          | (have hbl : B_l R k = false := by
               unfold B_l dk
               rw [show S_should R k = false from cnd46, Bool.false_and, Bool.and_false]
             have hm9 : m4 = am_up (am_up mem 188 k (nI 0)) 180 8 (nI (cnt (bC R) (nn (R 3)) + cnt (B_j R) (nn (R 4)) + cnt (B_l R) k + 0)) := by rw [hm4, hm3]
             refine ih m4 (k + 1) (by omega) (cp_fr hC (fun q hq => by rw [hm9, am_up_ne (by omega), am_up_ne (by omega)])) (FrC_tr hf (fun q hq => by rw [hm9, am_up_ne (by omega), am_up_ne (by omega)])) (fun c h => by rw [hm9, am_up_ne (by decide), am_up_ne (by decide)]; exact hc c h) (fun j h => by rw [hm9, am_up_ne (by decide), am_up_ne (by decide), am_up_ne (by decide), am_up_ne (by decide)]; exact hj j h) (fun l h => ?_) ?_ _ hQ
             · rw [hm9, am_up_ne (by decide)]
               by_cases e : l = k
               · rw [e, am_up_eq, hbl]; rfl
               · rw [am_up_nk e]; exact hl l (by omega)
             · have z := cnt_f hbl
               rw [hm9, am_up_eq]
               congr 1
               omega)
          | (have hbl : B_l R k = false := by
               unfold B_l dk
               rw [decide_eq_false (show ¬ R (77 + 7 * k + 6) = nI 1 from fun z => absurd cnd26 ((is01n hdk).mpr z)), Bool.and_false, Bool.and_false]
             have hm9 : m4 = am_up (am_up mem 188 k (nI 0)) 180 8 (nI (cnt (bC R) (nn (R 3)) + cnt (B_j R) (nn (R 4)) + cnt (B_l R) k + 0)) := by rw [hm4, hm3]
             refine ih m4 (k + 1) (by omega) (cp_fr hC (fun q hq => by rw [hm9, am_up_ne (by omega), am_up_ne (by omega)])) (FrC_tr hf (fun q hq => by rw [hm9, am_up_ne (by omega), am_up_ne (by omega)])) (fun c h => by rw [hm9, am_up_ne (by decide), am_up_ne (by decide)]; exact hc c h) (fun j h => by rw [hm9, am_up_ne (by decide), am_up_ne (by decide), am_up_ne (by decide), am_up_ne (by decide)]; exact hj j h) (fun l h => ?_) ?_ _ hQ
             · rw [hm9, am_up_ne (by decide)]
               by_cases e : l = k
               · rw [e, am_up_eq, hbl]; rfl
               · rw [am_up_nk e]; exact hl l (by omega)
             · have z := cnt_f hbl
               rw [hm9, am_up_eq]
               congr 1
               omega)
        · skip
          refine ev_aload rfl rfl ?_
          refine ev_aload rfl rfl ?_
          refine ev_callV rfl rfl rfl rfl (Nat.le_of_ble_eq_true rfl) (Nat.le_of_ble_eq_true rfl) ?_ (hq := kt_0 n am_T66)
          refine c_X9_should am_T66 hC k (by omega) ?_
          change am_ev _ _ _ _ [_, _, _] _ _ _
          refine ev_if_eqO (p2 := 53) rfl rfl (fun cnd46 => ?_) (fun cnd46 => ?_)
          · skip
            refine ev_iconst (x := nI 0) rfl rfl ?_
            refine ev_zastS rfl (fun m3 hm3 => ?_) (by decide) (hq := k_188 n)
            refine ev_aload rfl rfl ?_
            first | refine ev_dupR rfl ?_ | refine ev_dupI rfl ?_
            refine ev_getI (c := 2) (j := 8) rfl ?_ (hq := k_180 n)
            rw [show m3 180 8 = nI (cnt (bC R) (nn (R 3)) + cnt (B_j R) (nn (R 4)) + cnt (B_l R) k) by rw [hm3, am_up_ne (by decide)]; exact h8]
            refine ev_aload rfl rfl ?_
            refine ev_getR (c := 2) (j := 7) rfl ?_ (hq := k_180 n)
            refine ev_iload rfl rfl ?_
            refine ev_zaldN rfl rfl ?_ (hq := k_188 n)
            rw [show m3 188 k = nI 0 by rw [hm3, am_up_eq]]
            refine ev_call rfl rfl ?_
            refine c_X11_bit _ (by decide) ?_
            change am_ev _ _ _ _ [_, _, _] _ _ _
            refine ev_iaddN rfl ?_
            refine ev_putS (c := 2) (j := 8) rfl (fun m4 hm4 => ?_) (hq := k_180 n)
            refine ev_iincN rfl rfl rfl ?_
            refine ev_goto (p2 := 2) rfl rfl ?_
            first
            | (have hbl : B_l R k = true := by
                 unfold B_l dk
                 rw [show B_cv R (jt R k) = false from cnd38, show S_should R k = true from cnd46, decide_eq_true (show R (77 + 7 * k + 6) = nI 1 from ((is01n hdk).mp cnd26))]; rfl
               have hm9 : m4 = am_up (am_up mem 188 k (nI 1)) 180 8 (nI (cnt (bC R) (nn (R 3)) + cnt (B_j R) (nn (R 4)) + cnt (B_l R) k + 1)) := by rw [hm4, hm3]
               refine ih m4 (k + 1) (by omega) (cp_fr hC (fun q hq => by rw [hm9, am_up_ne (by omega), am_up_ne (by omega)])) (FrC_tr hf (fun q hq => by rw [hm9, am_up_ne (by omega), am_up_ne (by omega)])) (fun c h => by rw [hm9, am_up_ne (by decide), am_up_ne (by decide)]; exact hc c h) (fun j h => by rw [hm9, am_up_ne (by decide), am_up_ne (by decide), am_up_ne (by decide), am_up_ne (by decide)]; exact hj j h) (fun l h => ?_) ?_ _ hQ
               · rw [hm9, am_up_ne (by decide)]
                 by_cases e : l = k
                 · rw [e, am_up_eq, hbl]; rfl
                 · rw [am_up_nk e]; exact hl l (by omega)
               · have z := cnt_t hbl
                 rw [hm9, am_up_eq]
                 congr 1
                 omega)
            | (have hbl : B_l R k = false := by
                 unfold B_l dk
                 rw [show B_cv R (jt R k) = true from cnd38]; rfl
               have hm9 : m4 = am_up (am_up mem 188 k (nI 0)) 180 8 (nI (cnt (bC R) (nn (R 3)) + cnt (B_j R) (nn (R 4)) + cnt (B_l R) k + 0)) := by rw [hm4, hm3]
               refine ih m4 (k + 1) (by omega) (cp_fr hC (fun q hq => by rw [hm9, am_up_ne (by omega), am_up_ne (by omega)])) (FrC_tr hf (fun q hq => by rw [hm9, am_up_ne (by omega), am_up_ne (by omega)])) (fun c h => by rw [hm9, am_up_ne (by decide), am_up_ne (by decide)]; exact hc c h) (fun j h => by rw [hm9, am_up_ne (by decide), am_up_ne (by decide), am_up_ne (by decide), am_up_ne (by decide)]; exact hj j h) (fun l h => ?_) ?_ _ hQ
               · rw [hm9, am_up_ne (by decide)]
                 by_cases e : l = k
                 · rw [e, am_up_eq, hbl]; rfl
                 · rw [am_up_nk e]; exact hl l (by omega)
               · have z := cnt_f hbl
                 rw [hm9, am_up_eq]
                 congr 1
                 omega)
            | (have hbl : B_l R k = false := by
                 unfold B_l dk
                 rw [show S_should R k = false from cnd46, Bool.false_and, Bool.and_false]
               have hm9 : m4 = am_up (am_up mem 188 k (nI 0)) 180 8 (nI (cnt (bC R) (nn (R 3)) + cnt (B_j R) (nn (R 4)) + cnt (B_l R) k + 0)) := by rw [hm4, hm3]
               refine ih m4 (k + 1) (by omega) (cp_fr hC (fun q hq => by rw [hm9, am_up_ne (by omega), am_up_ne (by omega)])) (FrC_tr hf (fun q hq => by rw [hm9, am_up_ne (by omega), am_up_ne (by omega)])) (fun c h => by rw [hm9, am_up_ne (by decide), am_up_ne (by decide)]; exact hc c h) (fun j h => by rw [hm9, am_up_ne (by decide), am_up_ne (by decide), am_up_ne (by decide), am_up_ne (by decide)]; exact hj j h) (fun l h => ?_) ?_ _ hQ
               · rw [hm9, am_up_ne (by decide)]
                 by_cases e : l = k
                 · rw [e, am_up_eq, hbl]; rfl
                 · rw [am_up_nk e]; exact hl l (by omega)
               · have z := cnt_f hbl
                 rw [hm9, am_up_eq]
                 congr 1
                 omega)
            | (have hbl : B_l R k = false := by
                 unfold B_l dk
                 rw [decide_eq_false (show ¬ R (77 + 7 * k + 6) = nI 1 from fun z => absurd cnd26 ((is01n hdk).mpr z)), Bool.and_false, Bool.and_false]
               have hm9 : m4 = am_up (am_up mem 188 k (nI 0)) 180 8 (nI (cnt (bC R) (nn (R 3)) + cnt (B_j R) (nn (R 4)) + cnt (B_l R) k + 0)) := by rw [hm4, hm3]
               refine ih m4 (k + 1) (by omega) (cp_fr hC (fun q hq => by rw [hm9, am_up_ne (by omega), am_up_ne (by omega)])) (FrC_tr hf (fun q hq => by rw [hm9, am_up_ne (by omega), am_up_ne (by omega)])) (fun c h => by rw [hm9, am_up_ne (by decide), am_up_ne (by decide)]; exact hc c h) (fun j h => by rw [hm9, am_up_ne (by decide), am_up_ne (by decide), am_up_ne (by decide), am_up_ne (by decide)]; exact hj j h) (fun l h => ?_) ?_ _ hQ
               · rw [hm9, am_up_ne (by decide)]
                 by_cases e : l = k
                 · rw [e, am_up_eq, hbl]; rfl
                 · rw [am_up_nk e]; exact hl l (by omega)
               · have z := cnt_f hbl
                 rw [hm9, am_up_eq]
                 congr 1
                 omega)
          · skip
            refine ev_iconst (x := nI 1) rfl rfl ?_
            refine ev_goto (p2 := 54) rfl rfl ?_
            refine ev_zastS rfl (fun m3 hm3 => ?_) (by decide) (hq := k_188 n)
            refine ev_aload rfl rfl ?_
            first | refine ev_dupR rfl ?_ | refine ev_dupI rfl ?_
            refine ev_getI (c := 2) (j := 8) rfl ?_ (hq := k_180 n)
            rw [show m3 180 8 = nI (cnt (bC R) (nn (R 3)) + cnt (B_j R) (nn (R 4)) + cnt (B_l R) k) by rw [hm3, am_up_ne (by decide)]; exact h8]
            refine ev_aload rfl rfl ?_
            refine ev_getR (c := 2) (j := 7) rfl ?_ (hq := k_180 n)
            refine ev_iload rfl rfl ?_
            refine ev_zaldN rfl rfl ?_ (hq := k_188 n)
            rw [show m3 188 k = nI 1 by rw [hm3, am_up_eq]]
            refine ev_call rfl rfl ?_
            refine c_X11_bit _ (by decide) ?_
            change am_ev _ _ _ _ [_, _, _] _ _ _
            refine ev_iaddN rfl ?_
            refine ev_putS (c := 2) (j := 8) rfl (fun m4 hm4 => ?_) (hq := k_180 n)
            refine ev_iincN rfl rfl rfl ?_
            refine ev_goto (p2 := 2) rfl rfl ?_
            first
            | (have hbl : B_l R k = true := by
                 unfold B_l dk
                 rw [show B_cv R (jt R k) = false from cnd38, show S_should R k = true from cnd46, decide_eq_true (show R (77 + 7 * k + 6) = nI 1 from ((is01n hdk).mp cnd26))]; rfl
               have hm9 : m4 = am_up (am_up mem 188 k (nI 1)) 180 8 (nI (cnt (bC R) (nn (R 3)) + cnt (B_j R) (nn (R 4)) + cnt (B_l R) k + 1)) := by rw [hm4, hm3]
               refine ih m4 (k + 1) (by omega) (cp_fr hC (fun q hq => by rw [hm9, am_up_ne (by omega), am_up_ne (by omega)])) (FrC_tr hf (fun q hq => by rw [hm9, am_up_ne (by omega), am_up_ne (by omega)])) (fun c h => by rw [hm9, am_up_ne (by decide), am_up_ne (by decide)]; exact hc c h) (fun j h => by rw [hm9, am_up_ne (by decide), am_up_ne (by decide), am_up_ne (by decide), am_up_ne (by decide)]; exact hj j h) (fun l h => ?_) ?_ _ hQ
               · rw [hm9, am_up_ne (by decide)]
                 by_cases e : l = k
                 · rw [e, am_up_eq, hbl]; rfl
                 · rw [am_up_nk e]; exact hl l (by omega)
               · have z := cnt_t hbl
                 rw [hm9, am_up_eq]
                 congr 1
                 omega)
            | (have hbl : B_l R k = false := by
                 unfold B_l dk
                 rw [show B_cv R (jt R k) = true from cnd38]; rfl
               have hm9 : m4 = am_up (am_up mem 188 k (nI 0)) 180 8 (nI (cnt (bC R) (nn (R 3)) + cnt (B_j R) (nn (R 4)) + cnt (B_l R) k + 0)) := by rw [hm4, hm3]
               refine ih m4 (k + 1) (by omega) (cp_fr hC (fun q hq => by rw [hm9, am_up_ne (by omega), am_up_ne (by omega)])) (FrC_tr hf (fun q hq => by rw [hm9, am_up_ne (by omega), am_up_ne (by omega)])) (fun c h => by rw [hm9, am_up_ne (by decide), am_up_ne (by decide)]; exact hc c h) (fun j h => by rw [hm9, am_up_ne (by decide), am_up_ne (by decide), am_up_ne (by decide), am_up_ne (by decide)]; exact hj j h) (fun l h => ?_) ?_ _ hQ
               · rw [hm9, am_up_ne (by decide)]
                 by_cases e : l = k
                 · rw [e, am_up_eq, hbl]; rfl
                 · rw [am_up_nk e]; exact hl l (by omega)
               · have z := cnt_f hbl
                 rw [hm9, am_up_eq]
                 congr 1
                 omega)
            | (have hbl : B_l R k = false := by
                 unfold B_l dk
                 rw [show S_should R k = false from cnd46, Bool.false_and, Bool.and_false]
               have hm9 : m4 = am_up (am_up mem 188 k (nI 0)) 180 8 (nI (cnt (bC R) (nn (R 3)) + cnt (B_j R) (nn (R 4)) + cnt (B_l R) k + 0)) := by rw [hm4, hm3]
               refine ih m4 (k + 1) (by omega) (cp_fr hC (fun q hq => by rw [hm9, am_up_ne (by omega), am_up_ne (by omega)])) (FrC_tr hf (fun q hq => by rw [hm9, am_up_ne (by omega), am_up_ne (by omega)])) (fun c h => by rw [hm9, am_up_ne (by decide), am_up_ne (by decide)]; exact hc c h) (fun j h => by rw [hm9, am_up_ne (by decide), am_up_ne (by decide), am_up_ne (by decide), am_up_ne (by decide)]; exact hj j h) (fun l h => ?_) ?_ _ hQ
               · rw [hm9, am_up_ne (by decide)]
                 by_cases e : l = k
                 · rw [e, am_up_eq, hbl]; rfl
                 · rw [am_up_nk e]; exact hl l (by omega)
               · have z := cnt_f hbl
                 rw [hm9, am_up_eq]
                 congr 1
                 omega)
            | (have hbl : B_l R k = false := by
                 unfold B_l dk
                 rw [decide_eq_false (show ¬ R (77 + 7 * k + 6) = nI 1 from fun z => absurd cnd26 ((is01n hdk).mpr z)), Bool.and_false, Bool.and_false]
               have hm9 : m4 = am_up (am_up mem 188 k (nI 0)) 180 8 (nI (cnt (bC R) (nn (R 3)) + cnt (B_j R) (nn (R 4)) + cnt (B_l R) k + 0)) := by rw [hm4, hm3]
               refine ih m4 (k + 1) (by omega) (cp_fr hC (fun q hq => by rw [hm9, am_up_ne (by omega), am_up_ne (by omega)])) (FrC_tr hf (fun q hq => by rw [hm9, am_up_ne (by omega), am_up_ne (by omega)])) (fun c h => by rw [hm9, am_up_ne (by decide), am_up_ne (by decide)]; exact hc c h) (fun j h => by rw [hm9, am_up_ne (by decide), am_up_ne (by decide), am_up_ne (by decide), am_up_ne (by decide)]; exact hj j h) (fun l h => ?_) ?_ _ hQ
               · rw [hm9, am_up_ne (by decide)]
                 by_cases e : l = k
                 · rw [e, am_up_eq, hbl]; rfl
                 · rw [am_up_nk e]; exact hl l (by omega)
               · have z := cnt_f hbl
                 rw [hm9, am_up_eq]
                 congr 1
                 omega)
theorem c_X2_blameLamps {d n : Nat} {mem : am_M} {Q : am_P} {R : am_R} (hC : CplT 66 R mem) (hc : (∀ c, c < nn (R 3) → mem 185 c = ob (bC R c))) (hj : (∀ j, j < nn (R 4) → mem 186 j = ob (B_j R j) ∧ mem 187 j = ob (B_cv R j))) (h8 : mem 180 8 = nI (cnt (bC R) (nn (R 3)) + cnt (B_j R) (nn (R 4)))) (hQ :  ∀ m2 : am_M, FrC mem m2 → CplT 66 R m2 → (∀ c, c < nn (R 3) → m2 185 c = ob (bC R c)) → (∀ j, j < nn (R 4) → m2 186 j = ob (B_j R j)) → (∀ l, l < nn (R 5) → m2 188 l = ob (B_l R l)) → m2 180 8 = nI (cnt (bC R) (nn (R 3)) + cnt (B_j R) (nn (R 4)) + cnt (B_l R) (nn (R 5))) → Q none (am_SK n) m2) : am_ex (d + 4) 15 [.ref 180, .ref 66] (am_SK n) mem Q := by
  refine ex_in (c0 := kc_X2_blameLamps) rfl (L := [some (.ref 180), some (.ref 66), none, none]) rfl ?_
  refine ev_iconst (x := nI 0) rfl rfl ?_
  refine ev_istore rfl rfl (Nat.le_of_ble_eq_true rfl) ?_
  exact l_bl_l _ mem 0 (Nat.zero_add _) hC (FrC_refl _) hc hj (fun l h => absurd h (Nat.not_lt_zero l)) h8 _ hQ
theorem l_bl_j {d n : Nat} {mem0 : am_M} {Q : am_P} {R : am_R} (r : Nat) : ∀ (mem : am_M) (k : Nat) (hk : k + r = nn (R 4)) (hC : CplT 66 R mem) (hf : FrC mem0 mem) (hA : BA mem 183 184 181 182 (fun j => NJ R (wA R) 0 j (nn (R 5))) (fun j => NJ R (wD R) 0 j (nn (R 5))) (fun j => NC R (wA R) 0 j (nn (R 5))) (fun j => NC R (wD R) 0 j (nn (R 5)))) (hc : (∀ c, c < nn (R 3) → mem 185 c = ob (bC R c))) (hj : (∀ j, j < k → mem 186 j = ob (B_j R j) ∧ mem 187 j = ob (B_cv R j))) (h8 : mem 180 8 = nI (cnt (bC R) (nn (R 3)) + cnt (B_j R) k)) (x3 x4 : Option Value) (hQ : ∀ m2 : am_M, FrC mem0 m2 → CplT 66 R m2 → (∀ c, c < nn (R 3) → m2 185 c = ob (bC R c)) → (∀ j, j < nn (R 4) → m2 186 j = ob (B_j R j) ∧ m2 187 j = ob (B_cv R j)) → m2 180 8 = nI (cnt (bC R) (nn (R 3)) + cnt (B_j R) (nn (R 4))) → Q none (am_SK n) m2), am_ev kc_X2_blameJoints (d + 3) 2 [some (.ref 180), some (.ref 66), some (.int (nI k)), x3, x4] [] (am_SK n) mem Q := by
  induction r with
  | zero =>
    intro mem k hk hC hf hA hc hj h8 x3 x4 hQ
    have hb := wb_all (cp_w hC)
    have q1 := cnt_le (bC R) (nn (R 3))
    have q2 := cnt_le (B_j R) k
    have hkk : k = nn (R 4) := by omega
    subst hkk
    refine ev_iload rfl rfl ?_
    refine ev_aload rfl rfl ?_
    refine ev_getI (c := 9) (j := 4) rfl ?_ (hq := kt_0 n am_T66)
    rw [cp_t4 hC]
    refine ev_icmp_geN (p2 := 129) rfl rfl (fun cnd7 => ?_) (fun cnd7 => ?_)
    · skip
      refine ev_vret rfl ?_
      exact hQ mem hf hC hc hj h8
    · omega
  | succ r ih =>
    intro mem k hk hC hf hA hc hj h8 x3 x4 hQ
    have hb := wb_all (cp_w hC)
    have q1 := cnt_le (bC R) (nn (R 3))
    have q2 := cnt_le (B_j R) k
    have hAk := hA.1 k (by omega)
    dsimp only at hAk
    have z1 := NJ_le R (wA R) 0 k (nn (R 5))
    have z2 := NJ_le R (wD R) 0 k (nn (R 5))
    obtain ⟨⟨e1, g1⟩, -⟩ := (cp_w hC).2.2.2.1 k (by omega)
    refine ev_iload rfl rfl ?_
    refine ev_aload rfl rfl ?_
    refine ev_getI (c := 9) (j := 4) rfl ?_ (hq := kt_0 n am_T66)
    rw [cp_t4 hC]
    refine ev_icmp_geN (p2 := 129) rfl rfl (fun cnd7 => ?_) (fun cnd7 => ?_)
    · omega
    · skip
      refine ev_aload rfl rfl ?_
      refine ev_getR (c := 9) (j := 3) rfl ?_ (hq := kt_0 n am_T66)
      refine ev_iload rfl rfl ?_
      refine ev_aldN rfl rfl ?_ (kr_joint (by omega)) (hq := kt_2 n am_T66)
      refine ev_getI (c := 3) (j := 0) rfl ?_ (hq := kt_joint n am_T66 (by omega))
      rw [cp_j0 hC (j := k) (by omega)]
      refine ev_istore rfl rfl (Nat.le_of_ble_eq_true rfl) ?_
      refine ev_iload rfl rfl ?_
      refine ev_iconst (x := nI 100) rfl rfl ?_
      refine ev_icmp_ltN (p2 := 38) rfl rfl (fun cnd23 => ?_) (fun cnd23 => ?_)
      · skip
        refine ev_aload rfl rfl ?_
        refine ev_getR (c := 2) (j := 6) rfl ?_ (hq := k_180 n)
        refine ev_iload rfl rfl ?_
        refine ev_zaldN rfl rfl ?_ (hq := k_187 n)
        rw [show mem 187 (nn (R (41 + 3 * k))) = ob (B_ab R k) by rw [B_ab_lo (show fd R k < k by unfold fd; omega)]; exact (hj _ (by omega)).2]
        refine ev_istore rfl rfl (Nat.le_of_ble_eq_true rfl) ?_
        refine ev_aload rfl rfl ?_
        refine ev_getR (c := 2) (j := 5) rfl ?_ (hq := k_180 n)
        refine ev_iload rfl rfl ?_
        refine ev_iload rfl rfl ?_
        refine ev_if_neO (p2 := 78) rfl rfl (fun cnd53 => ?_) (fun cnd53 => ?_)
        · skip
          refine ev_iconst (x := nI 0) rfl rfl ?_
          refine ev_zastS rfl (fun m3 hm3 => ?_) (by decide) (hq := k_186 n)
          refine ev_aload rfl rfl ?_
          refine ev_getR (c := 2) (j := 6) rfl ?_ (hq := k_180 n)
          refine ev_iload rfl rfl ?_
          refine ev_iload rfl rfl ?_
          refine ev_if_neO (p2 := 99) rfl rfl (fun cnd87 => ?_) (fun cnd87 => ?_)
          · skip
            refine ev_iconst (x := nI 1) rfl rfl ?_
            refine ev_goto (p2 := 104) rfl rfl ?_
            refine ev_zastS rfl (fun m4 hm4 => ?_) (by decide) (hq := k_187 n)
            refine ev_aload rfl rfl ?_
            first | refine ev_dupR rfl ?_ | refine ev_dupI rfl ?_
            refine ev_getI (c := 2) (j := 8) rfl ?_ (hq := k_180 n)
            rw [show m4 180 8 = nI (cnt (bC R) (nn (R 3)) + cnt (B_j R) k) by rw [hm4, am_up_ne (by decide), hm3, am_up_ne (by decide)]; exact h8]
            refine ev_aload rfl rfl ?_
            refine ev_getR (c := 2) (j := 5) rfl ?_ (hq := k_180 n)
            refine ev_iload rfl rfl ?_
            refine ev_zaldN rfl rfl ?_ (hq := k_186 n)
            rw [show m4 186 k = nI 0 by rw [hm4, am_up_ne (by decide), hm3, am_up_eq]]
            refine ev_call rfl rfl ?_
            refine c_X11_bit _ (by decide) ?_
            change am_ev _ _ _ _ [_, _, _] _ _ _
            refine ev_iaddN rfl ?_
            refine ev_putS (c := 2) (j := 8) rfl (fun m5 hm5 => ?_) (hq := k_180 n)
            refine ev_iincN rfl rfl rfl ?_
            refine ev_goto (p2 := 2) rfl rfl ?_
            first
            | (exact absurd (cnd53.symm.trans cnd87) (by decide))
            | (have hbj : B_j R k = false := by
                 unfold B_j
                 rw [cnd53]; rfl
               have hcv : B_cv R k = true := by
                 unfold B_cv
                 rw [cnd53]; rfl
               have hm9 : m5 = am_up (am_up (am_up mem 186 k (nI 0)) 187 k (nI 1)) 180 8 (nI (cnt (bC R) (nn (R 3)) + cnt (B_j R) k + 0)) := by rw [hm5, hm4, hm3]
               refine ih m5 (k + 1) (by omega) (cp_fr hC (fun q hq => by rw [hm9, am_up_ne (by omega), am_up_ne (by omega), am_up_ne (by omega)])) (FrC_tr hf (fun q hq => by rw [hm9, am_up_ne (by omega), am_up_ne (by omega), am_up_ne (by omega)])) ⟨fun j h => by rw [hm9, am_up_ne (by decide), am_up_ne (by decide), am_up_ne (by decide), am_up_ne (by decide), am_up_ne (by decide), am_up_ne (by decide)]; exact hA.1 j h, fun j h => by rw [hm9, am_up_ne (by decide), am_up_ne (by decide), am_up_ne (by decide), am_up_ne (by decide), am_up_ne (by decide), am_up_ne (by decide)]; exact hA.2 j h⟩ (fun c h => by rw [hm9, am_up_ne (by decide), am_up_ne (by decide), am_up_ne (by decide)]; exact hc c h) (fun j h => ?_) ?_ _ _ hQ
               · rw [hm9, am_up_ne (show (186 : Nat) ≠ 180 by decide), am_up_ne (show (187 : Nat) ≠ 180 by decide), am_up_ne (show (186 : Nat) ≠ 187 by decide)]
                 by_cases e : j = k
                 · rw [e, am_up_eq, am_up_eq, hbj, hcv]; exact ⟨rfl, rfl⟩
                 · rw [am_up_nk e, am_up_nk e, am_up_ne (show (187 : Nat) ≠ 186 by decide)]; exact hj j (by omega)
               · have z := cnt_f hbj
                 rw [hm9, am_up_eq]
                 congr 1
                 omega)
            | (have hbj : B_j R k = true := by
                 unfold B_j
                 rw [cnd53, cnd71]; rfl
               have hcv : B_cv R k = true := by
                 unfold B_cv
                 rw [cnd53, cnd71]; rfl
               have hm9 : m5 = am_up (am_up (am_up mem 186 k (nI 1)) 187 k (nI 1)) 180 8 (nI (cnt (bC R) (nn (R 3)) + cnt (B_j R) k + 1)) := by rw [hm5, hm4, hm3]
               refine ih m5 (k + 1) (by omega) (cp_fr hC (fun q hq => by rw [hm9, am_up_ne (by omega), am_up_ne (by omega), am_up_ne (by omega)])) (FrC_tr hf (fun q hq => by rw [hm9, am_up_ne (by omega), am_up_ne (by omega), am_up_ne (by omega)])) ⟨fun j h => by rw [hm9, am_up_ne (by decide), am_up_ne (by decide), am_up_ne (by decide), am_up_ne (by decide), am_up_ne (by decide), am_up_ne (by decide)]; exact hA.1 j h, fun j h => by rw [hm9, am_up_ne (by decide), am_up_ne (by decide), am_up_ne (by decide), am_up_ne (by decide), am_up_ne (by decide), am_up_ne (by decide)]; exact hA.2 j h⟩ (fun c h => by rw [hm9, am_up_ne (by decide), am_up_ne (by decide), am_up_ne (by decide)]; exact hc c h) (fun j h => ?_) ?_ _ _ hQ
               · rw [hm9, am_up_ne (show (186 : Nat) ≠ 180 by decide), am_up_ne (show (187 : Nat) ≠ 180 by decide), am_up_ne (show (186 : Nat) ≠ 187 by decide)]
                 by_cases e : j = k
                 · rw [e, am_up_eq, am_up_eq, hbj, hcv]; exact ⟨rfl, rfl⟩
                 · rw [am_up_nk e, am_up_nk e, am_up_ne (show (187 : Nat) ≠ 186 by decide)]; exact hj j (by omega)
               · have z := cnt_t hbj
                 rw [hm9, am_up_eq]
                 congr 1
                 omega)
            | (have hbj : B_j R k = false := by
                 unfold B_j
                 rw [cnd53, cnd71]; rfl
               have hcv : B_cv R k = false := by
                 unfold B_cv
                 rw [cnd53, cnd71]; rfl
               have hm9 : m5 = am_up (am_up (am_up mem 186 k (nI 0)) 187 k (nI 0)) 180 8 (nI (cnt (bC R) (nn (R 3)) + cnt (B_j R) k + 0)) := by rw [hm5, hm4, hm3]
               refine ih m5 (k + 1) (by omega) (cp_fr hC (fun q hq => by rw [hm9, am_up_ne (by omega), am_up_ne (by omega), am_up_ne (by omega)])) (FrC_tr hf (fun q hq => by rw [hm9, am_up_ne (by omega), am_up_ne (by omega), am_up_ne (by omega)])) ⟨fun j h => by rw [hm9, am_up_ne (by decide), am_up_ne (by decide), am_up_ne (by decide), am_up_ne (by decide), am_up_ne (by decide), am_up_ne (by decide)]; exact hA.1 j h, fun j h => by rw [hm9, am_up_ne (by decide), am_up_ne (by decide), am_up_ne (by decide), am_up_ne (by decide), am_up_ne (by decide), am_up_ne (by decide)]; exact hA.2 j h⟩ (fun c h => by rw [hm9, am_up_ne (by decide), am_up_ne (by decide), am_up_ne (by decide)]; exact hc c h) (fun j h => ?_) ?_ _ _ hQ
               · rw [hm9, am_up_ne (show (186 : Nat) ≠ 180 by decide), am_up_ne (show (187 : Nat) ≠ 180 by decide), am_up_ne (show (186 : Nat) ≠ 187 by decide)]
                 by_cases e : j = k
                 · rw [e, am_up_eq, am_up_eq, hbj, hcv]; exact ⟨rfl, rfl⟩
                 · rw [am_up_nk e, am_up_nk e, am_up_ne (show (187 : Nat) ≠ 186 by decide)]; exact hj j (by omega)
               · have z := cnt_f hbj
                 rw [hm9, am_up_eq]
                 congr 1
                 omega)
          · skip
            refine ev_aload rfl rfl ?_
            refine ev_getR (c := 2) (j := 5) rfl ?_ (hq := k_180 n)
            refine ev_iload rfl rfl ?_
            refine ev_zaldN rfl rfl ?_ (hq := k_186 n)
            rw [show m3 186 k = nI 0 by rw [hm3, am_up_eq]]
            refine ev_if_eqN (p2 := 103) rfl rfl (fun _ => ?_) (fun zz => absurd zz (by decide))
            refine ev_iconst (x := nI 0) rfl rfl ?_
            refine ev_zastS rfl (fun m4 hm4 => ?_) (by decide) (hq := k_187 n)
            refine ev_aload rfl rfl ?_
            first | refine ev_dupR rfl ?_ | refine ev_dupI rfl ?_
            refine ev_getI (c := 2) (j := 8) rfl ?_ (hq := k_180 n)
            rw [show m4 180 8 = nI (cnt (bC R) (nn (R 3)) + cnt (B_j R) k) by rw [hm4, am_up_ne (by decide), hm3, am_up_ne (by decide)]; exact h8]
            refine ev_aload rfl rfl ?_
            refine ev_getR (c := 2) (j := 5) rfl ?_ (hq := k_180 n)
            refine ev_iload rfl rfl ?_
            refine ev_zaldN rfl rfl ?_ (hq := k_186 n)
            rw [show m4 186 k = nI 0 by rw [hm4, am_up_ne (by decide), hm3, am_up_eq]]
            refine ev_call rfl rfl ?_
            refine c_X11_bit _ (by decide) ?_
            change am_ev _ _ _ _ [_, _, _] _ _ _
            refine ev_iaddN rfl ?_
            refine ev_putS (c := 2) (j := 8) rfl (fun m5 hm5 => ?_) (hq := k_180 n)
            refine ev_iincN rfl rfl rfl ?_
            refine ev_goto (p2 := 2) rfl rfl ?_
            first
            | (exact absurd (cnd53.symm.trans cnd87) (by decide))
            | (have hbj : B_j R k = false := by
                 unfold B_j
                 rw [cnd53]; rfl
               have hcv : B_cv R k = true := by
                 unfold B_cv
                 rw [cnd53]; rfl
               have hm9 : m5 = am_up (am_up (am_up mem 186 k (nI 0)) 187 k (nI 1)) 180 8 (nI (cnt (bC R) (nn (R 3)) + cnt (B_j R) k + 0)) := by rw [hm5, hm4, hm3]
               refine ih m5 (k + 1) (by omega) (cp_fr hC (fun q hq => by rw [hm9, am_up_ne (by omega), am_up_ne (by omega), am_up_ne (by omega)])) (FrC_tr hf (fun q hq => by rw [hm9, am_up_ne (by omega), am_up_ne (by omega), am_up_ne (by omega)])) ⟨fun j h => by rw [hm9, am_up_ne (by decide), am_up_ne (by decide), am_up_ne (by decide), am_up_ne (by decide), am_up_ne (by decide), am_up_ne (by decide)]; exact hA.1 j h, fun j h => by rw [hm9, am_up_ne (by decide), am_up_ne (by decide), am_up_ne (by decide), am_up_ne (by decide), am_up_ne (by decide), am_up_ne (by decide)]; exact hA.2 j h⟩ (fun c h => by rw [hm9, am_up_ne (by decide), am_up_ne (by decide), am_up_ne (by decide)]; exact hc c h) (fun j h => ?_) ?_ _ _ hQ
               · rw [hm9, am_up_ne (show (186 : Nat) ≠ 180 by decide), am_up_ne (show (187 : Nat) ≠ 180 by decide), am_up_ne (show (186 : Nat) ≠ 187 by decide)]
                 by_cases e : j = k
                 · rw [e, am_up_eq, am_up_eq, hbj, hcv]; exact ⟨rfl, rfl⟩
                 · rw [am_up_nk e, am_up_nk e, am_up_ne (show (187 : Nat) ≠ 186 by decide)]; exact hj j (by omega)
               · have z := cnt_f hbj
                 rw [hm9, am_up_eq]
                 congr 1
                 omega)
            | (have hbj : B_j R k = true := by
                 unfold B_j
                 rw [cnd53, cnd71]; rfl
               have hcv : B_cv R k = true := by
                 unfold B_cv
                 rw [cnd53, cnd71]; rfl
               have hm9 : m5 = am_up (am_up (am_up mem 186 k (nI 1)) 187 k (nI 1)) 180 8 (nI (cnt (bC R) (nn (R 3)) + cnt (B_j R) k + 1)) := by rw [hm5, hm4, hm3]
               refine ih m5 (k + 1) (by omega) (cp_fr hC (fun q hq => by rw [hm9, am_up_ne (by omega), am_up_ne (by omega), am_up_ne (by omega)])) (FrC_tr hf (fun q hq => by rw [hm9, am_up_ne (by omega), am_up_ne (by omega), am_up_ne (by omega)])) ⟨fun j h => by rw [hm9, am_up_ne (by decide), am_up_ne (by decide), am_up_ne (by decide), am_up_ne (by decide), am_up_ne (by decide), am_up_ne (by decide)]; exact hA.1 j h, fun j h => by rw [hm9, am_up_ne (by decide), am_up_ne (by decide), am_up_ne (by decide), am_up_ne (by decide), am_up_ne (by decide), am_up_ne (by decide)]; exact hA.2 j h⟩ (fun c h => by rw [hm9, am_up_ne (by decide), am_up_ne (by decide), am_up_ne (by decide)]; exact hc c h) (fun j h => ?_) ?_ _ _ hQ
               · rw [hm9, am_up_ne (show (186 : Nat) ≠ 180 by decide), am_up_ne (show (187 : Nat) ≠ 180 by decide), am_up_ne (show (186 : Nat) ≠ 187 by decide)]
                 by_cases e : j = k
                 · rw [e, am_up_eq, am_up_eq, hbj, hcv]; exact ⟨rfl, rfl⟩
                 · rw [am_up_nk e, am_up_nk e, am_up_ne (show (187 : Nat) ≠ 186 by decide)]; exact hj j (by omega)
               · have z := cnt_t hbj
                 rw [hm9, am_up_eq]
                 congr 1
                 omega)
            | (have hbj : B_j R k = false := by
                 unfold B_j
                 rw [cnd53, cnd71]; rfl
               have hcv : B_cv R k = false := by
                 unfold B_cv
                 rw [cnd53, cnd71]; rfl
               have hm9 : m5 = am_up (am_up (am_up mem 186 k (nI 0)) 187 k (nI 0)) 180 8 (nI (cnt (bC R) (nn (R 3)) + cnt (B_j R) k + 0)) := by rw [hm5, hm4, hm3]
               refine ih m5 (k + 1) (by omega) (cp_fr hC (fun q hq => by rw [hm9, am_up_ne (by omega), am_up_ne (by omega), am_up_ne (by omega)])) (FrC_tr hf (fun q hq => by rw [hm9, am_up_ne (by omega), am_up_ne (by omega), am_up_ne (by omega)])) ⟨fun j h => by rw [hm9, am_up_ne (by decide), am_up_ne (by decide), am_up_ne (by decide), am_up_ne (by decide), am_up_ne (by decide), am_up_ne (by decide)]; exact hA.1 j h, fun j h => by rw [hm9, am_up_ne (by decide), am_up_ne (by decide), am_up_ne (by decide), am_up_ne (by decide), am_up_ne (by decide), am_up_ne (by decide)]; exact hA.2 j h⟩ (fun c h => by rw [hm9, am_up_ne (by decide), am_up_ne (by decide), am_up_ne (by decide)]; exact hc c h) (fun j h => ?_) ?_ _ _ hQ
               · rw [hm9, am_up_ne (show (186 : Nat) ≠ 180 by decide), am_up_ne (show (187 : Nat) ≠ 180 by decide), am_up_ne (show (186 : Nat) ≠ 187 by decide)]
                 by_cases e : j = k
                 · rw [e, am_up_eq, am_up_eq, hbj, hcv]; exact ⟨rfl, rfl⟩
                 · rw [am_up_nk e, am_up_nk e, am_up_ne (show (187 : Nat) ≠ 186 by decide)]; exact hj j (by omega)
               · have z := cnt_f hbj
                 rw [hm9, am_up_eq]
                 congr 1
                 omega)
        · skip
          refine ev_aload rfl rfl ?_
          refine ev_getR (c := 2) (j := 2) rfl ?_ (hq := k_180 n)
          refine ev_iload rfl rfl ?_
          refine ev_ialdN rfl rfl ?_ (hq := k_183 n)
          rw [hAk.1]
          refine ev_aload rfl rfl ?_
          refine ev_getR (c := 2) (j := 3) rfl ?_ (hq := k_180 n)
          refine ev_iload rfl rfl ?_
          refine ev_ialdN rfl rfl ?_ (hq := k_184 n)
          rw [hAk.2]
          refine ev_call rfl rfl ?_
          refine c_X2_areAllDark _ _ (by omega) (by omega) ?_
          rw [← bJ_D]
          change am_ev _ _ _ _ [_, _, _] _ _ _
          refine ev_if_eqO (p2 := 78) rfl rfl (fun cnd71 => ?_) (fun cnd71 => ?_)
          · skip
            refine ev_iconst (x := nI 0) rfl rfl ?_
            refine ev_zastS rfl (fun m3 hm3 => ?_) (by decide) (hq := k_186 n)
            refine ev_aload rfl rfl ?_
            refine ev_getR (c := 2) (j := 6) rfl ?_ (hq := k_180 n)
            refine ev_iload rfl rfl ?_
            refine ev_iload rfl rfl ?_
            refine ev_if_neO (p2 := 99) rfl rfl (fun cnd87 => ?_) (fun cnd87 => ?_)
            · skip
              refine ev_iconst (x := nI 1) rfl rfl ?_
              refine ev_goto (p2 := 104) rfl rfl ?_
              refine ev_zastS rfl (fun m4 hm4 => ?_) (by decide) (hq := k_187 n)
              refine ev_aload rfl rfl ?_
              first | refine ev_dupR rfl ?_ | refine ev_dupI rfl ?_
              refine ev_getI (c := 2) (j := 8) rfl ?_ (hq := k_180 n)
              rw [show m4 180 8 = nI (cnt (bC R) (nn (R 3)) + cnt (B_j R) k) by rw [hm4, am_up_ne (by decide), hm3, am_up_ne (by decide)]; exact h8]
              refine ev_aload rfl rfl ?_
              refine ev_getR (c := 2) (j := 5) rfl ?_ (hq := k_180 n)
              refine ev_iload rfl rfl ?_
              refine ev_zaldN rfl rfl ?_ (hq := k_186 n)
              rw [show m4 186 k = nI 0 by rw [hm4, am_up_ne (by decide), hm3, am_up_eq]]
              refine ev_call rfl rfl ?_
              refine c_X11_bit _ (by decide) ?_
              change am_ev _ _ _ _ [_, _, _] _ _ _
              refine ev_iaddN rfl ?_
              refine ev_putS (c := 2) (j := 8) rfl (fun m5 hm5 => ?_) (hq := k_180 n)
              refine ev_iincN rfl rfl rfl ?_
              refine ev_goto (p2 := 2) rfl rfl ?_
              first
              | (exact absurd (cnd53.symm.trans cnd87) (by decide))
              | (have hbj : B_j R k = false := by
                   unfold B_j
                   rw [cnd53]; rfl
                 have hcv : B_cv R k = true := by
                   unfold B_cv
                   rw [cnd53]; rfl
                 have hm9 : m5 = am_up (am_up (am_up mem 186 k (nI 0)) 187 k (nI 1)) 180 8 (nI (cnt (bC R) (nn (R 3)) + cnt (B_j R) k + 0)) := by rw [hm5, hm4, hm3]
                 refine ih m5 (k + 1) (by omega) (cp_fr hC (fun q hq => by rw [hm9, am_up_ne (by omega), am_up_ne (by omega), am_up_ne (by omega)])) (FrC_tr hf (fun q hq => by rw [hm9, am_up_ne (by omega), am_up_ne (by omega), am_up_ne (by omega)])) ⟨fun j h => by rw [hm9, am_up_ne (by decide), am_up_ne (by decide), am_up_ne (by decide), am_up_ne (by decide), am_up_ne (by decide), am_up_ne (by decide)]; exact hA.1 j h, fun j h => by rw [hm9, am_up_ne (by decide), am_up_ne (by decide), am_up_ne (by decide), am_up_ne (by decide), am_up_ne (by decide), am_up_ne (by decide)]; exact hA.2 j h⟩ (fun c h => by rw [hm9, am_up_ne (by decide), am_up_ne (by decide), am_up_ne (by decide)]; exact hc c h) (fun j h => ?_) ?_ _ _ hQ
                 · rw [hm9, am_up_ne (show (186 : Nat) ≠ 180 by decide), am_up_ne (show (187 : Nat) ≠ 180 by decide), am_up_ne (show (186 : Nat) ≠ 187 by decide)]
                   by_cases e : j = k
                   · rw [e, am_up_eq, am_up_eq, hbj, hcv]; exact ⟨rfl, rfl⟩
                   · rw [am_up_nk e, am_up_nk e, am_up_ne (show (187 : Nat) ≠ 186 by decide)]; exact hj j (by omega)
                 · have z := cnt_f hbj
                   rw [hm9, am_up_eq]
                   congr 1
                   omega)
              | (have hbj : B_j R k = true := by
                   unfold B_j
                   rw [cnd53, cnd71]; rfl
                 have hcv : B_cv R k = true := by
                   unfold B_cv
                   rw [cnd53, cnd71]; rfl
                 have hm9 : m5 = am_up (am_up (am_up mem 186 k (nI 1)) 187 k (nI 1)) 180 8 (nI (cnt (bC R) (nn (R 3)) + cnt (B_j R) k + 1)) := by rw [hm5, hm4, hm3]
                 refine ih m5 (k + 1) (by omega) (cp_fr hC (fun q hq => by rw [hm9, am_up_ne (by omega), am_up_ne (by omega), am_up_ne (by omega)])) (FrC_tr hf (fun q hq => by rw [hm9, am_up_ne (by omega), am_up_ne (by omega), am_up_ne (by omega)])) ⟨fun j h => by rw [hm9, am_up_ne (by decide), am_up_ne (by decide), am_up_ne (by decide), am_up_ne (by decide), am_up_ne (by decide), am_up_ne (by decide)]; exact hA.1 j h, fun j h => by rw [hm9, am_up_ne (by decide), am_up_ne (by decide), am_up_ne (by decide), am_up_ne (by decide), am_up_ne (by decide), am_up_ne (by decide)]; exact hA.2 j h⟩ (fun c h => by rw [hm9, am_up_ne (by decide), am_up_ne (by decide), am_up_ne (by decide)]; exact hc c h) (fun j h => ?_) ?_ _ _ hQ
                 · rw [hm9, am_up_ne (show (186 : Nat) ≠ 180 by decide), am_up_ne (show (187 : Nat) ≠ 180 by decide), am_up_ne (show (186 : Nat) ≠ 187 by decide)]
                   by_cases e : j = k
                   · rw [e, am_up_eq, am_up_eq, hbj, hcv]; exact ⟨rfl, rfl⟩
                   · rw [am_up_nk e, am_up_nk e, am_up_ne (show (187 : Nat) ≠ 186 by decide)]; exact hj j (by omega)
                 · have z := cnt_t hbj
                   rw [hm9, am_up_eq]
                   congr 1
                   omega)
              | (have hbj : B_j R k = false := by
                   unfold B_j
                   rw [cnd53, cnd71]; rfl
                 have hcv : B_cv R k = false := by
                   unfold B_cv
                   rw [cnd53, cnd71]; rfl
                 have hm9 : m5 = am_up (am_up (am_up mem 186 k (nI 0)) 187 k (nI 0)) 180 8 (nI (cnt (bC R) (nn (R 3)) + cnt (B_j R) k + 0)) := by rw [hm5, hm4, hm3]
                 refine ih m5 (k + 1) (by omega) (cp_fr hC (fun q hq => by rw [hm9, am_up_ne (by omega), am_up_ne (by omega), am_up_ne (by omega)])) (FrC_tr hf (fun q hq => by rw [hm9, am_up_ne (by omega), am_up_ne (by omega), am_up_ne (by omega)])) ⟨fun j h => by rw [hm9, am_up_ne (by decide), am_up_ne (by decide), am_up_ne (by decide), am_up_ne (by decide), am_up_ne (by decide), am_up_ne (by decide)]; exact hA.1 j h, fun j h => by rw [hm9, am_up_ne (by decide), am_up_ne (by decide), am_up_ne (by decide), am_up_ne (by decide), am_up_ne (by decide), am_up_ne (by decide)]; exact hA.2 j h⟩ (fun c h => by rw [hm9, am_up_ne (by decide), am_up_ne (by decide), am_up_ne (by decide)]; exact hc c h) (fun j h => ?_) ?_ _ _ hQ
                 · rw [hm9, am_up_ne (show (186 : Nat) ≠ 180 by decide), am_up_ne (show (187 : Nat) ≠ 180 by decide), am_up_ne (show (186 : Nat) ≠ 187 by decide)]
                   by_cases e : j = k
                   · rw [e, am_up_eq, am_up_eq, hbj, hcv]; exact ⟨rfl, rfl⟩
                   · rw [am_up_nk e, am_up_nk e, am_up_ne (show (187 : Nat) ≠ 186 by decide)]; exact hj j (by omega)
                 · have z := cnt_f hbj
                   rw [hm9, am_up_eq]
                   congr 1
                   omega)
            · skip
              refine ev_aload rfl rfl ?_
              refine ev_getR (c := 2) (j := 5) rfl ?_ (hq := k_180 n)
              refine ev_iload rfl rfl ?_
              refine ev_zaldN rfl rfl ?_ (hq := k_186 n)
              rw [show m3 186 k = nI 0 by rw [hm3, am_up_eq]]
              refine ev_if_eqN (p2 := 103) rfl rfl (fun _ => ?_) (fun zz => absurd zz (by decide))
              refine ev_iconst (x := nI 0) rfl rfl ?_
              refine ev_zastS rfl (fun m4 hm4 => ?_) (by decide) (hq := k_187 n)
              refine ev_aload rfl rfl ?_
              first | refine ev_dupR rfl ?_ | refine ev_dupI rfl ?_
              refine ev_getI (c := 2) (j := 8) rfl ?_ (hq := k_180 n)
              rw [show m4 180 8 = nI (cnt (bC R) (nn (R 3)) + cnt (B_j R) k) by rw [hm4, am_up_ne (by decide), hm3, am_up_ne (by decide)]; exact h8]
              refine ev_aload rfl rfl ?_
              refine ev_getR (c := 2) (j := 5) rfl ?_ (hq := k_180 n)
              refine ev_iload rfl rfl ?_
              refine ev_zaldN rfl rfl ?_ (hq := k_186 n)
              rw [show m4 186 k = nI 0 by rw [hm4, am_up_ne (by decide), hm3, am_up_eq]]
              refine ev_call rfl rfl ?_
              refine c_X11_bit _ (by decide) ?_
              change am_ev _ _ _ _ [_, _, _] _ _ _
              refine ev_iaddN rfl ?_
              refine ev_putS (c := 2) (j := 8) rfl (fun m5 hm5 => ?_) (hq := k_180 n)
              refine ev_iincN rfl rfl rfl ?_
              refine ev_goto (p2 := 2) rfl rfl ?_
              first
              | (exact absurd (cnd53.symm.trans cnd87) (by decide))
              | (have hbj : B_j R k = false := by
                   unfold B_j
                   rw [cnd53]; rfl
                 have hcv : B_cv R k = true := by
                   unfold B_cv
                   rw [cnd53]; rfl
                 have hm9 : m5 = am_up (am_up (am_up mem 186 k (nI 0)) 187 k (nI 1)) 180 8 (nI (cnt (bC R) (nn (R 3)) + cnt (B_j R) k + 0)) := by rw [hm5, hm4, hm3]
                 refine ih m5 (k + 1) (by omega) (cp_fr hC (fun q hq => by rw [hm9, am_up_ne (by omega), am_up_ne (by omega), am_up_ne (by omega)])) (FrC_tr hf (fun q hq => by rw [hm9, am_up_ne (by omega), am_up_ne (by omega), am_up_ne (by omega)])) ⟨fun j h => by rw [hm9, am_up_ne (by decide), am_up_ne (by decide), am_up_ne (by decide), am_up_ne (by decide), am_up_ne (by decide), am_up_ne (by decide)]; exact hA.1 j h, fun j h => by rw [hm9, am_up_ne (by decide), am_up_ne (by decide), am_up_ne (by decide), am_up_ne (by decide), am_up_ne (by decide), am_up_ne (by decide)]; exact hA.2 j h⟩ (fun c h => by rw [hm9, am_up_ne (by decide), am_up_ne (by decide), am_up_ne (by decide)]; exact hc c h) (fun j h => ?_) ?_ _ _ hQ
                 · rw [hm9, am_up_ne (show (186 : Nat) ≠ 180 by decide), am_up_ne (show (187 : Nat) ≠ 180 by decide), am_up_ne (show (186 : Nat) ≠ 187 by decide)]
                   by_cases e : j = k
                   · rw [e, am_up_eq, am_up_eq, hbj, hcv]; exact ⟨rfl, rfl⟩
                   · rw [am_up_nk e, am_up_nk e, am_up_ne (show (187 : Nat) ≠ 186 by decide)]; exact hj j (by omega)
                 · have z := cnt_f hbj
                   rw [hm9, am_up_eq]
                   congr 1
                   omega)
              | (have hbj : B_j R k = true := by
                   unfold B_j
                   rw [cnd53, cnd71]; rfl
                 have hcv : B_cv R k = true := by
                   unfold B_cv
                   rw [cnd53, cnd71]; rfl
                 have hm9 : m5 = am_up (am_up (am_up mem 186 k (nI 1)) 187 k (nI 1)) 180 8 (nI (cnt (bC R) (nn (R 3)) + cnt (B_j R) k + 1)) := by rw [hm5, hm4, hm3]
                 refine ih m5 (k + 1) (by omega) (cp_fr hC (fun q hq => by rw [hm9, am_up_ne (by omega), am_up_ne (by omega), am_up_ne (by omega)])) (FrC_tr hf (fun q hq => by rw [hm9, am_up_ne (by omega), am_up_ne (by omega), am_up_ne (by omega)])) ⟨fun j h => by rw [hm9, am_up_ne (by decide), am_up_ne (by decide), am_up_ne (by decide), am_up_ne (by decide), am_up_ne (by decide), am_up_ne (by decide)]; exact hA.1 j h, fun j h => by rw [hm9, am_up_ne (by decide), am_up_ne (by decide), am_up_ne (by decide), am_up_ne (by decide), am_up_ne (by decide), am_up_ne (by decide)]; exact hA.2 j h⟩ (fun c h => by rw [hm9, am_up_ne (by decide), am_up_ne (by decide), am_up_ne (by decide)]; exact hc c h) (fun j h => ?_) ?_ _ _ hQ
                 · rw [hm9, am_up_ne (show (186 : Nat) ≠ 180 by decide), am_up_ne (show (187 : Nat) ≠ 180 by decide), am_up_ne (show (186 : Nat) ≠ 187 by decide)]
                   by_cases e : j = k
                   · rw [e, am_up_eq, am_up_eq, hbj, hcv]; exact ⟨rfl, rfl⟩
                   · rw [am_up_nk e, am_up_nk e, am_up_ne (show (187 : Nat) ≠ 186 by decide)]; exact hj j (by omega)
                 · have z := cnt_t hbj
                   rw [hm9, am_up_eq]
                   congr 1
                   omega)
              | (have hbj : B_j R k = false := by
                   unfold B_j
                   rw [cnd53, cnd71]; rfl
                 have hcv : B_cv R k = false := by
                   unfold B_cv
                   rw [cnd53, cnd71]; rfl
                 have hm9 : m5 = am_up (am_up (am_up mem 186 k (nI 0)) 187 k (nI 0)) 180 8 (nI (cnt (bC R) (nn (R 3)) + cnt (B_j R) k + 0)) := by rw [hm5, hm4, hm3]
                 refine ih m5 (k + 1) (by omega) (cp_fr hC (fun q hq => by rw [hm9, am_up_ne (by omega), am_up_ne (by omega), am_up_ne (by omega)])) (FrC_tr hf (fun q hq => by rw [hm9, am_up_ne (by omega), am_up_ne (by omega), am_up_ne (by omega)])) ⟨fun j h => by rw [hm9, am_up_ne (by decide), am_up_ne (by decide), am_up_ne (by decide), am_up_ne (by decide), am_up_ne (by decide), am_up_ne (by decide)]; exact hA.1 j h, fun j h => by rw [hm9, am_up_ne (by decide), am_up_ne (by decide), am_up_ne (by decide), am_up_ne (by decide), am_up_ne (by decide), am_up_ne (by decide)]; exact hA.2 j h⟩ (fun c h => by rw [hm9, am_up_ne (by decide), am_up_ne (by decide), am_up_ne (by decide)]; exact hc c h) (fun j h => ?_) ?_ _ _ hQ
                 · rw [hm9, am_up_ne (show (186 : Nat) ≠ 180 by decide), am_up_ne (show (187 : Nat) ≠ 180 by decide), am_up_ne (show (186 : Nat) ≠ 187 by decide)]
                   by_cases e : j = k
                   · rw [e, am_up_eq, am_up_eq, hbj, hcv]; exact ⟨rfl, rfl⟩
                   · rw [am_up_nk e, am_up_nk e, am_up_ne (show (187 : Nat) ≠ 186 by decide)]; exact hj j (by omega)
                 · have z := cnt_f hbj
                   rw [hm9, am_up_eq]
                   congr 1
                   omega)
          · skip
            refine ev_iconst (x := nI 1) rfl rfl ?_
            refine ev_goto (p2 := 79) rfl rfl ?_
            refine ev_zastS rfl (fun m3 hm3 => ?_) (by decide) (hq := k_186 n)
            refine ev_aload rfl rfl ?_
            refine ev_getR (c := 2) (j := 6) rfl ?_ (hq := k_180 n)
            refine ev_iload rfl rfl ?_
            refine ev_iload rfl rfl ?_
            refine ev_if_neO (p2 := 99) rfl rfl (fun cnd87 => ?_) (fun cnd87 => ?_)
            · skip
              refine ev_iconst (x := nI 1) rfl rfl ?_
              refine ev_goto (p2 := 104) rfl rfl ?_
              refine ev_zastS rfl (fun m4 hm4 => ?_) (by decide) (hq := k_187 n)
              refine ev_aload rfl rfl ?_
              first | refine ev_dupR rfl ?_ | refine ev_dupI rfl ?_
              refine ev_getI (c := 2) (j := 8) rfl ?_ (hq := k_180 n)
              rw [show m4 180 8 = nI (cnt (bC R) (nn (R 3)) + cnt (B_j R) k) by rw [hm4, am_up_ne (by decide), hm3, am_up_ne (by decide)]; exact h8]
              refine ev_aload rfl rfl ?_
              refine ev_getR (c := 2) (j := 5) rfl ?_ (hq := k_180 n)
              refine ev_iload rfl rfl ?_
              refine ev_zaldN rfl rfl ?_ (hq := k_186 n)
              rw [show m4 186 k = nI 1 by rw [hm4, am_up_ne (by decide), hm3, am_up_eq]]
              refine ev_call rfl rfl ?_
              refine c_X11_bit _ (by decide) ?_
              change am_ev _ _ _ _ [_, _, _] _ _ _
              refine ev_iaddN rfl ?_
              refine ev_putS (c := 2) (j := 8) rfl (fun m5 hm5 => ?_) (hq := k_180 n)
              refine ev_iincN rfl rfl rfl ?_
              refine ev_goto (p2 := 2) rfl rfl ?_
              first
              | (exact absurd (cnd53.symm.trans cnd87) (by decide))
              | (have hbj : B_j R k = false := by
                   unfold B_j
                   rw [cnd53]; rfl
                 have hcv : B_cv R k = true := by
                   unfold B_cv
                   rw [cnd53]; rfl
                 have hm9 : m5 = am_up (am_up (am_up mem 186 k (nI 0)) 187 k (nI 1)) 180 8 (nI (cnt (bC R) (nn (R 3)) + cnt (B_j R) k + 0)) := by rw [hm5, hm4, hm3]
                 refine ih m5 (k + 1) (by omega) (cp_fr hC (fun q hq => by rw [hm9, am_up_ne (by omega), am_up_ne (by omega), am_up_ne (by omega)])) (FrC_tr hf (fun q hq => by rw [hm9, am_up_ne (by omega), am_up_ne (by omega), am_up_ne (by omega)])) ⟨fun j h => by rw [hm9, am_up_ne (by decide), am_up_ne (by decide), am_up_ne (by decide), am_up_ne (by decide), am_up_ne (by decide), am_up_ne (by decide)]; exact hA.1 j h, fun j h => by rw [hm9, am_up_ne (by decide), am_up_ne (by decide), am_up_ne (by decide), am_up_ne (by decide), am_up_ne (by decide), am_up_ne (by decide)]; exact hA.2 j h⟩ (fun c h => by rw [hm9, am_up_ne (by decide), am_up_ne (by decide), am_up_ne (by decide)]; exact hc c h) (fun j h => ?_) ?_ _ _ hQ
                 · rw [hm9, am_up_ne (show (186 : Nat) ≠ 180 by decide), am_up_ne (show (187 : Nat) ≠ 180 by decide), am_up_ne (show (186 : Nat) ≠ 187 by decide)]
                   by_cases e : j = k
                   · rw [e, am_up_eq, am_up_eq, hbj, hcv]; exact ⟨rfl, rfl⟩
                   · rw [am_up_nk e, am_up_nk e, am_up_ne (show (187 : Nat) ≠ 186 by decide)]; exact hj j (by omega)
                 · have z := cnt_f hbj
                   rw [hm9, am_up_eq]
                   congr 1
                   omega)
              | (have hbj : B_j R k = true := by
                   unfold B_j
                   rw [cnd53, cnd71]; rfl
                 have hcv : B_cv R k = true := by
                   unfold B_cv
                   rw [cnd53, cnd71]; rfl
                 have hm9 : m5 = am_up (am_up (am_up mem 186 k (nI 1)) 187 k (nI 1)) 180 8 (nI (cnt (bC R) (nn (R 3)) + cnt (B_j R) k + 1)) := by rw [hm5, hm4, hm3]
                 refine ih m5 (k + 1) (by omega) (cp_fr hC (fun q hq => by rw [hm9, am_up_ne (by omega), am_up_ne (by omega), am_up_ne (by omega)])) (FrC_tr hf (fun q hq => by rw [hm9, am_up_ne (by omega), am_up_ne (by omega), am_up_ne (by omega)])) ⟨fun j h => by rw [hm9, am_up_ne (by decide), am_up_ne (by decide), am_up_ne (by decide), am_up_ne (by decide), am_up_ne (by decide), am_up_ne (by decide)]; exact hA.1 j h, fun j h => by rw [hm9, am_up_ne (by decide), am_up_ne (by decide), am_up_ne (by decide), am_up_ne (by decide), am_up_ne (by decide), am_up_ne (by decide)]; exact hA.2 j h⟩ (fun c h => by rw [hm9, am_up_ne (by decide), am_up_ne (by decide), am_up_ne (by decide)]; exact hc c h) (fun j h => ?_) ?_ _ _ hQ
                 · rw [hm9, am_up_ne (show (186 : Nat) ≠ 180 by decide), am_up_ne (show (187 : Nat) ≠ 180 by decide), am_up_ne (show (186 : Nat) ≠ 187 by decide)]
                   by_cases e : j = k
                   · rw [e, am_up_eq, am_up_eq, hbj, hcv]; exact ⟨rfl, rfl⟩
                   · rw [am_up_nk e, am_up_nk e, am_up_ne (show (187 : Nat) ≠ 186 by decide)]; exact hj j (by omega)
                 · have z := cnt_t hbj
                   rw [hm9, am_up_eq]
                   congr 1
                   omega)
              | (have hbj : B_j R k = false := by
                   unfold B_j
                   rw [cnd53, cnd71]; rfl
                 have hcv : B_cv R k = false := by
                   unfold B_cv
                   rw [cnd53, cnd71]; rfl
                 have hm9 : m5 = am_up (am_up (am_up mem 186 k (nI 0)) 187 k (nI 0)) 180 8 (nI (cnt (bC R) (nn (R 3)) + cnt (B_j R) k + 0)) := by rw [hm5, hm4, hm3]
                 refine ih m5 (k + 1) (by omega) (cp_fr hC (fun q hq => by rw [hm9, am_up_ne (by omega), am_up_ne (by omega), am_up_ne (by omega)])) (FrC_tr hf (fun q hq => by rw [hm9, am_up_ne (by omega), am_up_ne (by omega), am_up_ne (by omega)])) ⟨fun j h => by rw [hm9, am_up_ne (by decide), am_up_ne (by decide), am_up_ne (by decide), am_up_ne (by decide), am_up_ne (by decide), am_up_ne (by decide)]; exact hA.1 j h, fun j h => by rw [hm9, am_up_ne (by decide), am_up_ne (by decide), am_up_ne (by decide), am_up_ne (by decide), am_up_ne (by decide), am_up_ne (by decide)]; exact hA.2 j h⟩ (fun c h => by rw [hm9, am_up_ne (by decide), am_up_ne (by decide), am_up_ne (by decide)]; exact hc c h) (fun j h => ?_) ?_ _ _ hQ
                 · rw [hm9, am_up_ne (show (186 : Nat) ≠ 180 by decide), am_up_ne (show (187 : Nat) ≠ 180 by decide), am_up_ne (show (186 : Nat) ≠ 187 by decide)]
                   by_cases e : j = k
                   · rw [e, am_up_eq, am_up_eq, hbj, hcv]; exact ⟨rfl, rfl⟩
                   · rw [am_up_nk e, am_up_nk e, am_up_ne (show (187 : Nat) ≠ 186 by decide)]; exact hj j (by omega)
                 · have z := cnt_f hbj
                   rw [hm9, am_up_eq]
                   congr 1
                   omega)
            · skip
              refine ev_aload rfl rfl ?_
              refine ev_getR (c := 2) (j := 5) rfl ?_ (hq := k_180 n)
              refine ev_iload rfl rfl ?_
              refine ev_zaldN rfl rfl ?_ (hq := k_186 n)
              rw [show m3 186 k = nI 1 by rw [hm3, am_up_eq]]
              refine ev_if_eqN (p2 := 103) rfl rfl (fun zz => absurd zz (by decide)) (fun _ => ?_)
              refine ev_iconst (x := nI 1) rfl rfl ?_
              refine ev_goto (p2 := 104) rfl rfl ?_
              refine ev_zastS rfl (fun m4 hm4 => ?_) (by decide) (hq := k_187 n)
              refine ev_aload rfl rfl ?_
              first | refine ev_dupR rfl ?_ | refine ev_dupI rfl ?_
              refine ev_getI (c := 2) (j := 8) rfl ?_ (hq := k_180 n)
              rw [show m4 180 8 = nI (cnt (bC R) (nn (R 3)) + cnt (B_j R) k) by rw [hm4, am_up_ne (by decide), hm3, am_up_ne (by decide)]; exact h8]
              refine ev_aload rfl rfl ?_
              refine ev_getR (c := 2) (j := 5) rfl ?_ (hq := k_180 n)
              refine ev_iload rfl rfl ?_
              refine ev_zaldN rfl rfl ?_ (hq := k_186 n)
              rw [show m4 186 k = nI 1 by rw [hm4, am_up_ne (by decide), hm3, am_up_eq]]
              refine ev_call rfl rfl ?_
              refine c_X11_bit _ (by decide) ?_
              change am_ev _ _ _ _ [_, _, _] _ _ _
              refine ev_iaddN rfl ?_
              refine ev_putS (c := 2) (j := 8) rfl (fun m5 hm5 => ?_) (hq := k_180 n)
              refine ev_iincN rfl rfl rfl ?_
              refine ev_goto (p2 := 2) rfl rfl ?_
              first
              | (exact absurd (cnd53.symm.trans cnd87) (by decide))
              | (have hbj : B_j R k = false := by
                   unfold B_j
                   rw [cnd53]; rfl
                 have hcv : B_cv R k = true := by
                   unfold B_cv
                   rw [cnd53]; rfl
                 have hm9 : m5 = am_up (am_up (am_up mem 186 k (nI 0)) 187 k (nI 1)) 180 8 (nI (cnt (bC R) (nn (R 3)) + cnt (B_j R) k + 0)) := by rw [hm5, hm4, hm3]
                 refine ih m5 (k + 1) (by omega) (cp_fr hC (fun q hq => by rw [hm9, am_up_ne (by omega), am_up_ne (by omega), am_up_ne (by omega)])) (FrC_tr hf (fun q hq => by rw [hm9, am_up_ne (by omega), am_up_ne (by omega), am_up_ne (by omega)])) ⟨fun j h => by rw [hm9, am_up_ne (by decide), am_up_ne (by decide), am_up_ne (by decide), am_up_ne (by decide), am_up_ne (by decide), am_up_ne (by decide)]; exact hA.1 j h, fun j h => by rw [hm9, am_up_ne (by decide), am_up_ne (by decide), am_up_ne (by decide), am_up_ne (by decide), am_up_ne (by decide), am_up_ne (by decide)]; exact hA.2 j h⟩ (fun c h => by rw [hm9, am_up_ne (by decide), am_up_ne (by decide), am_up_ne (by decide)]; exact hc c h) (fun j h => ?_) ?_ _ _ hQ
                 · rw [hm9, am_up_ne (show (186 : Nat) ≠ 180 by decide), am_up_ne (show (187 : Nat) ≠ 180 by decide), am_up_ne (show (186 : Nat) ≠ 187 by decide)]
                   by_cases e : j = k
                   · rw [e, am_up_eq, am_up_eq, hbj, hcv]; exact ⟨rfl, rfl⟩
                   · rw [am_up_nk e, am_up_nk e, am_up_ne (show (187 : Nat) ≠ 186 by decide)]; exact hj j (by omega)
                 · have z := cnt_f hbj
                   rw [hm9, am_up_eq]
                   congr 1
                   omega)
              | (have hbj : B_j R k = true := by
                   unfold B_j
                   rw [cnd53, cnd71]; rfl
                 have hcv : B_cv R k = true := by
                   unfold B_cv
                   rw [cnd53, cnd71]; rfl
                 have hm9 : m5 = am_up (am_up (am_up mem 186 k (nI 1)) 187 k (nI 1)) 180 8 (nI (cnt (bC R) (nn (R 3)) + cnt (B_j R) k + 1)) := by rw [hm5, hm4, hm3]
                 refine ih m5 (k + 1) (by omega) (cp_fr hC (fun q hq => by rw [hm9, am_up_ne (by omega), am_up_ne (by omega), am_up_ne (by omega)])) (FrC_tr hf (fun q hq => by rw [hm9, am_up_ne (by omega), am_up_ne (by omega), am_up_ne (by omega)])) ⟨fun j h => by rw [hm9, am_up_ne (by decide), am_up_ne (by decide), am_up_ne (by decide), am_up_ne (by decide), am_up_ne (by decide), am_up_ne (by decide)]; exact hA.1 j h, fun j h => by rw [hm9, am_up_ne (by decide), am_up_ne (by decide), am_up_ne (by decide), am_up_ne (by decide), am_up_ne (by decide), am_up_ne (by decide)]; exact hA.2 j h⟩ (fun c h => by rw [hm9, am_up_ne (by decide), am_up_ne (by decide), am_up_ne (by decide)]; exact hc c h) (fun j h => ?_) ?_ _ _ hQ
                 · rw [hm9, am_up_ne (show (186 : Nat) ≠ 180 by decide), am_up_ne (show (187 : Nat) ≠ 180 by decide), am_up_ne (show (186 : Nat) ≠ 187 by decide)]
                   by_cases e : j = k
                   · rw [e, am_up_eq, am_up_eq, hbj, hcv]; exact ⟨rfl, rfl⟩
                   · rw [am_up_nk e, am_up_nk e, am_up_ne (show (187 : Nat) ≠ 186 by decide)]; exact hj j (by omega)
                 · have z := cnt_t hbj
                   rw [hm9, am_up_eq]
                   congr 1
                   omega)
              | (have hbj : B_j R k = false := by
                   unfold B_j
                   rw [cnd53, cnd71]; rfl
                 have hcv : B_cv R k = false := by
                   unfold B_cv
                   rw [cnd53, cnd71]; rfl
                 have hm9 : m5 = am_up (am_up (am_up mem 186 k (nI 0)) 187 k (nI 0)) 180 8 (nI (cnt (bC R) (nn (R 3)) + cnt (B_j R) k + 0)) := by rw [hm5, hm4, hm3]
                 refine ih m5 (k + 1) (by omega) (cp_fr hC (fun q hq => by rw [hm9, am_up_ne (by omega), am_up_ne (by omega), am_up_ne (by omega)])) (FrC_tr hf (fun q hq => by rw [hm9, am_up_ne (by omega), am_up_ne (by omega), am_up_ne (by omega)])) ⟨fun j h => by rw [hm9, am_up_ne (by decide), am_up_ne (by decide), am_up_ne (by decide), am_up_ne (by decide), am_up_ne (by decide), am_up_ne (by decide)]; exact hA.1 j h, fun j h => by rw [hm9, am_up_ne (by decide), am_up_ne (by decide), am_up_ne (by decide), am_up_ne (by decide), am_up_ne (by decide), am_up_ne (by decide)]; exact hA.2 j h⟩ (fun c h => by rw [hm9, am_up_ne (by decide), am_up_ne (by decide), am_up_ne (by decide)]; exact hc c h) (fun j h => ?_) ?_ _ _ hQ
                 · rw [hm9, am_up_ne (show (186 : Nat) ≠ 180 by decide), am_up_ne (show (187 : Nat) ≠ 180 by decide), am_up_ne (show (186 : Nat) ≠ 187 by decide)]
                   by_cases e : j = k
                   · rw [e, am_up_eq, am_up_eq, hbj, hcv]; exact ⟨rfl, rfl⟩
                   · rw [am_up_nk e, am_up_nk e, am_up_ne (show (187 : Nat) ≠ 186 by decide)]; exact hj j (by omega)
                 · have z := cnt_f hbj
                   rw [hm9, am_up_eq]
                   congr 1
                   omega)
      · skip
        refine ev_aload rfl rfl ?_
        refine ev_getR (c := 2) (j := 4) rfl ?_ (hq := k_180 n)
        refine ev_iload rfl rfl ?_
        refine ev_iconst (x := nI 100) rfl rfl ?_
        refine ev_isubN rfl ?_
        refine ev_zaldN rfl rfl ?_ (hq := k_185 n)
        rw [show mem 185 (nn (R (41 + 3 * k)) - 100) = ob (B_ab R k) by rw [B_ab_top (show ¬ fd R k < k by unfold fd; omega)]; exact hc _ (by omega)]
        refine ev_goto (p2 := 44) rfl rfl ?_
        refine ev_istore rfl rfl (Nat.le_of_ble_eq_true rfl) ?_
        refine ev_aload rfl rfl ?_
        refine ev_getR (c := 2) (j := 5) rfl ?_ (hq := k_180 n)
        refine ev_iload rfl rfl ?_
        refine ev_iload rfl rfl ?_
        refine ev_if_neO (p2 := 78) rfl rfl (fun cnd53 => ?_) (fun cnd53 => ?_)
        · skip
          refine ev_iconst (x := nI 0) rfl rfl ?_
          refine ev_zastS rfl (fun m3 hm3 => ?_) (by decide) (hq := k_186 n)
          refine ev_aload rfl rfl ?_
          refine ev_getR (c := 2) (j := 6) rfl ?_ (hq := k_180 n)
          refine ev_iload rfl rfl ?_
          refine ev_iload rfl rfl ?_
          refine ev_if_neO (p2 := 99) rfl rfl (fun cnd87 => ?_) (fun cnd87 => ?_)
          · skip
            refine ev_iconst (x := nI 1) rfl rfl ?_
            refine ev_goto (p2 := 104) rfl rfl ?_
            refine ev_zastS rfl (fun m4 hm4 => ?_) (by decide) (hq := k_187 n)
            refine ev_aload rfl rfl ?_
            first | refine ev_dupR rfl ?_ | refine ev_dupI rfl ?_
            refine ev_getI (c := 2) (j := 8) rfl ?_ (hq := k_180 n)
            rw [show m4 180 8 = nI (cnt (bC R) (nn (R 3)) + cnt (B_j R) k) by rw [hm4, am_up_ne (by decide), hm3, am_up_ne (by decide)]; exact h8]
            refine ev_aload rfl rfl ?_
            refine ev_getR (c := 2) (j := 5) rfl ?_ (hq := k_180 n)
            refine ev_iload rfl rfl ?_
            refine ev_zaldN rfl rfl ?_ (hq := k_186 n)
            rw [show m4 186 k = nI 0 by rw [hm4, am_up_ne (by decide), hm3, am_up_eq]]
            refine ev_call rfl rfl ?_
            refine c_X11_bit _ (by decide) ?_
            change am_ev _ _ _ _ [_, _, _] _ _ _
            refine ev_iaddN rfl ?_
            refine ev_putS (c := 2) (j := 8) rfl (fun m5 hm5 => ?_) (hq := k_180 n)
            refine ev_iincN rfl rfl rfl ?_
            refine ev_goto (p2 := 2) rfl rfl ?_
            first
            | (exact absurd (cnd53.symm.trans cnd87) (by decide))
            | (have hbj : B_j R k = false := by
                 unfold B_j
                 rw [cnd53]; rfl
               have hcv : B_cv R k = true := by
                 unfold B_cv
                 rw [cnd53]; rfl
               have hm9 : m5 = am_up (am_up (am_up mem 186 k (nI 0)) 187 k (nI 1)) 180 8 (nI (cnt (bC R) (nn (R 3)) + cnt (B_j R) k + 0)) := by rw [hm5, hm4, hm3]
               refine ih m5 (k + 1) (by omega) (cp_fr hC (fun q hq => by rw [hm9, am_up_ne (by omega), am_up_ne (by omega), am_up_ne (by omega)])) (FrC_tr hf (fun q hq => by rw [hm9, am_up_ne (by omega), am_up_ne (by omega), am_up_ne (by omega)])) ⟨fun j h => by rw [hm9, am_up_ne (by decide), am_up_ne (by decide), am_up_ne (by decide), am_up_ne (by decide), am_up_ne (by decide), am_up_ne (by decide)]; exact hA.1 j h, fun j h => by rw [hm9, am_up_ne (by decide), am_up_ne (by decide), am_up_ne (by decide), am_up_ne (by decide), am_up_ne (by decide), am_up_ne (by decide)]; exact hA.2 j h⟩ (fun c h => by rw [hm9, am_up_ne (by decide), am_up_ne (by decide), am_up_ne (by decide)]; exact hc c h) (fun j h => ?_) ?_ _ _ hQ
               · rw [hm9, am_up_ne (show (186 : Nat) ≠ 180 by decide), am_up_ne (show (187 : Nat) ≠ 180 by decide), am_up_ne (show (186 : Nat) ≠ 187 by decide)]
                 by_cases e : j = k
                 · rw [e, am_up_eq, am_up_eq, hbj, hcv]; exact ⟨rfl, rfl⟩
                 · rw [am_up_nk e, am_up_nk e, am_up_ne (show (187 : Nat) ≠ 186 by decide)]; exact hj j (by omega)
               · have z := cnt_f hbj
                 rw [hm9, am_up_eq]
                 congr 1
                 omega)
            | (have hbj : B_j R k = true := by
                 unfold B_j
                 rw [cnd53, cnd71]; rfl
               have hcv : B_cv R k = true := by
                 unfold B_cv
                 rw [cnd53, cnd71]; rfl
               have hm9 : m5 = am_up (am_up (am_up mem 186 k (nI 1)) 187 k (nI 1)) 180 8 (nI (cnt (bC R) (nn (R 3)) + cnt (B_j R) k + 1)) := by rw [hm5, hm4, hm3]
               refine ih m5 (k + 1) (by omega) (cp_fr hC (fun q hq => by rw [hm9, am_up_ne (by omega), am_up_ne (by omega), am_up_ne (by omega)])) (FrC_tr hf (fun q hq => by rw [hm9, am_up_ne (by omega), am_up_ne (by omega), am_up_ne (by omega)])) ⟨fun j h => by rw [hm9, am_up_ne (by decide), am_up_ne (by decide), am_up_ne (by decide), am_up_ne (by decide), am_up_ne (by decide), am_up_ne (by decide)]; exact hA.1 j h, fun j h => by rw [hm9, am_up_ne (by decide), am_up_ne (by decide), am_up_ne (by decide), am_up_ne (by decide), am_up_ne (by decide), am_up_ne (by decide)]; exact hA.2 j h⟩ (fun c h => by rw [hm9, am_up_ne (by decide), am_up_ne (by decide), am_up_ne (by decide)]; exact hc c h) (fun j h => ?_) ?_ _ _ hQ
               · rw [hm9, am_up_ne (show (186 : Nat) ≠ 180 by decide), am_up_ne (show (187 : Nat) ≠ 180 by decide), am_up_ne (show (186 : Nat) ≠ 187 by decide)]
                 by_cases e : j = k
                 · rw [e, am_up_eq, am_up_eq, hbj, hcv]; exact ⟨rfl, rfl⟩
                 · rw [am_up_nk e, am_up_nk e, am_up_ne (show (187 : Nat) ≠ 186 by decide)]; exact hj j (by omega)
               · have z := cnt_t hbj
                 rw [hm9, am_up_eq]
                 congr 1
                 omega)
            | (have hbj : B_j R k = false := by
                 unfold B_j
                 rw [cnd53, cnd71]; rfl
               have hcv : B_cv R k = false := by
                 unfold B_cv
                 rw [cnd53, cnd71]; rfl
               have hm9 : m5 = am_up (am_up (am_up mem 186 k (nI 0)) 187 k (nI 0)) 180 8 (nI (cnt (bC R) (nn (R 3)) + cnt (B_j R) k + 0)) := by rw [hm5, hm4, hm3]
               refine ih m5 (k + 1) (by omega) (cp_fr hC (fun q hq => by rw [hm9, am_up_ne (by omega), am_up_ne (by omega), am_up_ne (by omega)])) (FrC_tr hf (fun q hq => by rw [hm9, am_up_ne (by omega), am_up_ne (by omega), am_up_ne (by omega)])) ⟨fun j h => by rw [hm9, am_up_ne (by decide), am_up_ne (by decide), am_up_ne (by decide), am_up_ne (by decide), am_up_ne (by decide), am_up_ne (by decide)]; exact hA.1 j h, fun j h => by rw [hm9, am_up_ne (by decide), am_up_ne (by decide), am_up_ne (by decide), am_up_ne (by decide), am_up_ne (by decide), am_up_ne (by decide)]; exact hA.2 j h⟩ (fun c h => by rw [hm9, am_up_ne (by decide), am_up_ne (by decide), am_up_ne (by decide)]; exact hc c h) (fun j h => ?_) ?_ _ _ hQ
               · rw [hm9, am_up_ne (show (186 : Nat) ≠ 180 by decide), am_up_ne (show (187 : Nat) ≠ 180 by decide), am_up_ne (show (186 : Nat) ≠ 187 by decide)]
                 by_cases e : j = k
                 · rw [e, am_up_eq, am_up_eq, hbj, hcv]; exact ⟨rfl, rfl⟩
                 · rw [am_up_nk e, am_up_nk e, am_up_ne (show (187 : Nat) ≠ 186 by decide)]; exact hj j (by omega)
               · have z := cnt_f hbj
                 rw [hm9, am_up_eq]
                 congr 1
                 omega)
          · skip
            refine ev_aload rfl rfl ?_
            refine ev_getR (c := 2) (j := 5) rfl ?_ (hq := k_180 n)
            refine ev_iload rfl rfl ?_
            refine ev_zaldN rfl rfl ?_ (hq := k_186 n)
            rw [show m3 186 k = nI 0 by rw [hm3, am_up_eq]]
            refine ev_if_eqN (p2 := 103) rfl rfl (fun _ => ?_) (fun zz => absurd zz (by decide))
            refine ev_iconst (x := nI 0) rfl rfl ?_
            refine ev_zastS rfl (fun m4 hm4 => ?_) (by decide) (hq := k_187 n)
            refine ev_aload rfl rfl ?_
            first | refine ev_dupR rfl ?_ | refine ev_dupI rfl ?_
            refine ev_getI (c := 2) (j := 8) rfl ?_ (hq := k_180 n)
            rw [show m4 180 8 = nI (cnt (bC R) (nn (R 3)) + cnt (B_j R) k) by rw [hm4, am_up_ne (by decide), hm3, am_up_ne (by decide)]; exact h8]
            refine ev_aload rfl rfl ?_
            refine ev_getR (c := 2) (j := 5) rfl ?_ (hq := k_180 n)
            refine ev_iload rfl rfl ?_
            refine ev_zaldN rfl rfl ?_ (hq := k_186 n)
            rw [show m4 186 k = nI 0 by rw [hm4, am_up_ne (by decide), hm3, am_up_eq]]
            refine ev_call rfl rfl ?_
            refine c_X11_bit _ (by decide) ?_
            change am_ev _ _ _ _ [_, _, _] _ _ _
            refine ev_iaddN rfl ?_
            refine ev_putS (c := 2) (j := 8) rfl (fun m5 hm5 => ?_) (hq := k_180 n)
            refine ev_iincN rfl rfl rfl ?_
            refine ev_goto (p2 := 2) rfl rfl ?_
            first
            | (exact absurd (cnd53.symm.trans cnd87) (by decide))
            | (have hbj : B_j R k = false := by
                 unfold B_j
                 rw [cnd53]; rfl
               have hcv : B_cv R k = true := by
                 unfold B_cv
                 rw [cnd53]; rfl
               have hm9 : m5 = am_up (am_up (am_up mem 186 k (nI 0)) 187 k (nI 1)) 180 8 (nI (cnt (bC R) (nn (R 3)) + cnt (B_j R) k + 0)) := by rw [hm5, hm4, hm3]
               refine ih m5 (k + 1) (by omega) (cp_fr hC (fun q hq => by rw [hm9, am_up_ne (by omega), am_up_ne (by omega), am_up_ne (by omega)])) (FrC_tr hf (fun q hq => by rw [hm9, am_up_ne (by omega), am_up_ne (by omega), am_up_ne (by omega)])) ⟨fun j h => by rw [hm9, am_up_ne (by decide), am_up_ne (by decide), am_up_ne (by decide), am_up_ne (by decide), am_up_ne (by decide), am_up_ne (by decide)]; exact hA.1 j h, fun j h => by rw [hm9, am_up_ne (by decide), am_up_ne (by decide), am_up_ne (by decide), am_up_ne (by decide), am_up_ne (by decide), am_up_ne (by decide)]; exact hA.2 j h⟩ (fun c h => by rw [hm9, am_up_ne (by decide), am_up_ne (by decide), am_up_ne (by decide)]; exact hc c h) (fun j h => ?_) ?_ _ _ hQ
               · rw [hm9, am_up_ne (show (186 : Nat) ≠ 180 by decide), am_up_ne (show (187 : Nat) ≠ 180 by decide), am_up_ne (show (186 : Nat) ≠ 187 by decide)]
                 by_cases e : j = k
                 · rw [e, am_up_eq, am_up_eq, hbj, hcv]; exact ⟨rfl, rfl⟩
                 · rw [am_up_nk e, am_up_nk e, am_up_ne (show (187 : Nat) ≠ 186 by decide)]; exact hj j (by omega)
               · have z := cnt_f hbj
                 rw [hm9, am_up_eq]
                 congr 1
                 omega)
            | (have hbj : B_j R k = true := by
                 unfold B_j
                 rw [cnd53, cnd71]; rfl
               have hcv : B_cv R k = true := by
                 unfold B_cv
                 rw [cnd53, cnd71]; rfl
               have hm9 : m5 = am_up (am_up (am_up mem 186 k (nI 1)) 187 k (nI 1)) 180 8 (nI (cnt (bC R) (nn (R 3)) + cnt (B_j R) k + 1)) := by rw [hm5, hm4, hm3]
               refine ih m5 (k + 1) (by omega) (cp_fr hC (fun q hq => by rw [hm9, am_up_ne (by omega), am_up_ne (by omega), am_up_ne (by omega)])) (FrC_tr hf (fun q hq => by rw [hm9, am_up_ne (by omega), am_up_ne (by omega), am_up_ne (by omega)])) ⟨fun j h => by rw [hm9, am_up_ne (by decide), am_up_ne (by decide), am_up_ne (by decide), am_up_ne (by decide), am_up_ne (by decide), am_up_ne (by decide)]; exact hA.1 j h, fun j h => by rw [hm9, am_up_ne (by decide), am_up_ne (by decide), am_up_ne (by decide), am_up_ne (by decide), am_up_ne (by decide), am_up_ne (by decide)]; exact hA.2 j h⟩ (fun c h => by rw [hm9, am_up_ne (by decide), am_up_ne (by decide), am_up_ne (by decide)]; exact hc c h) (fun j h => ?_) ?_ _ _ hQ
               · rw [hm9, am_up_ne (show (186 : Nat) ≠ 180 by decide), am_up_ne (show (187 : Nat) ≠ 180 by decide), am_up_ne (show (186 : Nat) ≠ 187 by decide)]
                 by_cases e : j = k
                 · rw [e, am_up_eq, am_up_eq, hbj, hcv]; exact ⟨rfl, rfl⟩
                 · rw [am_up_nk e, am_up_nk e, am_up_ne (show (187 : Nat) ≠ 186 by decide)]; exact hj j (by omega)
               · have z := cnt_t hbj
                 rw [hm9, am_up_eq]
                 congr 1
                 omega)
            | (have hbj : B_j R k = false := by
                 unfold B_j
                 rw [cnd53, cnd71]; rfl
               have hcv : B_cv R k = false := by
                 unfold B_cv
                 rw [cnd53, cnd71]; rfl
               have hm9 : m5 = am_up (am_up (am_up mem 186 k (nI 0)) 187 k (nI 0)) 180 8 (nI (cnt (bC R) (nn (R 3)) + cnt (B_j R) k + 0)) := by rw [hm5, hm4, hm3]
               refine ih m5 (k + 1) (by omega) (cp_fr hC (fun q hq => by rw [hm9, am_up_ne (by omega), am_up_ne (by omega), am_up_ne (by omega)])) (FrC_tr hf (fun q hq => by rw [hm9, am_up_ne (by omega), am_up_ne (by omega), am_up_ne (by omega)])) ⟨fun j h => by rw [hm9, am_up_ne (by decide), am_up_ne (by decide), am_up_ne (by decide), am_up_ne (by decide), am_up_ne (by decide), am_up_ne (by decide)]; exact hA.1 j h, fun j h => by rw [hm9, am_up_ne (by decide), am_up_ne (by decide), am_up_ne (by decide), am_up_ne (by decide), am_up_ne (by decide), am_up_ne (by decide)]; exact hA.2 j h⟩ (fun c h => by rw [hm9, am_up_ne (by decide), am_up_ne (by decide), am_up_ne (by decide)]; exact hc c h) (fun j h => ?_) ?_ _ _ hQ
               · rw [hm9, am_up_ne (show (186 : Nat) ≠ 180 by decide), am_up_ne (show (187 : Nat) ≠ 180 by decide), am_up_ne (show (186 : Nat) ≠ 187 by decide)]
                 by_cases e : j = k
                 · rw [e, am_up_eq, am_up_eq, hbj, hcv]; exact ⟨rfl, rfl⟩
                 · rw [am_up_nk e, am_up_nk e, am_up_ne (show (187 : Nat) ≠ 186 by decide)]; exact hj j (by omega)
               · have z := cnt_f hbj
                 rw [hm9, am_up_eq]
                 congr 1
                 omega)
        · skip
          refine ev_aload rfl rfl ?_
          refine ev_getR (c := 2) (j := 2) rfl ?_ (hq := k_180 n)
          refine ev_iload rfl rfl ?_
          refine ev_ialdN rfl rfl ?_ (hq := k_183 n)
          rw [hAk.1]
          refine ev_aload rfl rfl ?_
          refine ev_getR (c := 2) (j := 3) rfl ?_ (hq := k_180 n)
          refine ev_iload rfl rfl ?_
          refine ev_ialdN rfl rfl ?_ (hq := k_184 n)
          rw [hAk.2]
          refine ev_call rfl rfl ?_
          refine c_X2_areAllDark _ _ (by omega) (by omega) ?_
          rw [← bJ_D]
          change am_ev _ _ _ _ [_, _, _] _ _ _
          refine ev_if_eqO (p2 := 78) rfl rfl (fun cnd71 => ?_) (fun cnd71 => ?_)
          · skip
            refine ev_iconst (x := nI 0) rfl rfl ?_
            refine ev_zastS rfl (fun m3 hm3 => ?_) (by decide) (hq := k_186 n)
            refine ev_aload rfl rfl ?_
            refine ev_getR (c := 2) (j := 6) rfl ?_ (hq := k_180 n)
            refine ev_iload rfl rfl ?_
            refine ev_iload rfl rfl ?_
            refine ev_if_neO (p2 := 99) rfl rfl (fun cnd87 => ?_) (fun cnd87 => ?_)
            · skip
              refine ev_iconst (x := nI 1) rfl rfl ?_
              refine ev_goto (p2 := 104) rfl rfl ?_
              refine ev_zastS rfl (fun m4 hm4 => ?_) (by decide) (hq := k_187 n)
              refine ev_aload rfl rfl ?_
              first | refine ev_dupR rfl ?_ | refine ev_dupI rfl ?_
              refine ev_getI (c := 2) (j := 8) rfl ?_ (hq := k_180 n)
              rw [show m4 180 8 = nI (cnt (bC R) (nn (R 3)) + cnt (B_j R) k) by rw [hm4, am_up_ne (by decide), hm3, am_up_ne (by decide)]; exact h8]
              refine ev_aload rfl rfl ?_
              refine ev_getR (c := 2) (j := 5) rfl ?_ (hq := k_180 n)
              refine ev_iload rfl rfl ?_
              refine ev_zaldN rfl rfl ?_ (hq := k_186 n)
              rw [show m4 186 k = nI 0 by rw [hm4, am_up_ne (by decide), hm3, am_up_eq]]
              refine ev_call rfl rfl ?_
              refine c_X11_bit _ (by decide) ?_
              change am_ev _ _ _ _ [_, _, _] _ _ _
              refine ev_iaddN rfl ?_
              refine ev_putS (c := 2) (j := 8) rfl (fun m5 hm5 => ?_) (hq := k_180 n)
              refine ev_iincN rfl rfl rfl ?_
              refine ev_goto (p2 := 2) rfl rfl ?_
              first
              | (exact absurd (cnd53.symm.trans cnd87) (by decide))
              | (have hbj : B_j R k = false := by
                   unfold B_j
                   rw [cnd53]; rfl
                 have hcv : B_cv R k = true := by
                   unfold B_cv
                   rw [cnd53]; rfl
                 have hm9 : m5 = am_up (am_up (am_up mem 186 k (nI 0)) 187 k (nI 1)) 180 8 (nI (cnt (bC R) (nn (R 3)) + cnt (B_j R) k + 0)) := by rw [hm5, hm4, hm3]
                 refine ih m5 (k + 1) (by omega) (cp_fr hC (fun q hq => by rw [hm9, am_up_ne (by omega), am_up_ne (by omega), am_up_ne (by omega)])) (FrC_tr hf (fun q hq => by rw [hm9, am_up_ne (by omega), am_up_ne (by omega), am_up_ne (by omega)])) ⟨fun j h => by rw [hm9, am_up_ne (by decide), am_up_ne (by decide), am_up_ne (by decide), am_up_ne (by decide), am_up_ne (by decide), am_up_ne (by decide)]; exact hA.1 j h, fun j h => by rw [hm9, am_up_ne (by decide), am_up_ne (by decide), am_up_ne (by decide), am_up_ne (by decide), am_up_ne (by decide), am_up_ne (by decide)]; exact hA.2 j h⟩ (fun c h => by rw [hm9, am_up_ne (by decide), am_up_ne (by decide), am_up_ne (by decide)]; exact hc c h) (fun j h => ?_) ?_ _ _ hQ
                 · rw [hm9, am_up_ne (show (186 : Nat) ≠ 180 by decide), am_up_ne (show (187 : Nat) ≠ 180 by decide), am_up_ne (show (186 : Nat) ≠ 187 by decide)]
                   by_cases e : j = k
                   · rw [e, am_up_eq, am_up_eq, hbj, hcv]; exact ⟨rfl, rfl⟩
                   · rw [am_up_nk e, am_up_nk e, am_up_ne (show (187 : Nat) ≠ 186 by decide)]; exact hj j (by omega)
                 · have z := cnt_f hbj
                   rw [hm9, am_up_eq]
                   congr 1
                   omega)
              | (have hbj : B_j R k = true := by
                   unfold B_j
                   rw [cnd53, cnd71]; rfl
                 have hcv : B_cv R k = true := by
                   unfold B_cv
                   rw [cnd53, cnd71]; rfl
                 have hm9 : m5 = am_up (am_up (am_up mem 186 k (nI 1)) 187 k (nI 1)) 180 8 (nI (cnt (bC R) (nn (R 3)) + cnt (B_j R) k + 1)) := by rw [hm5, hm4, hm3]
                 refine ih m5 (k + 1) (by omega) (cp_fr hC (fun q hq => by rw [hm9, am_up_ne (by omega), am_up_ne (by omega), am_up_ne (by omega)])) (FrC_tr hf (fun q hq => by rw [hm9, am_up_ne (by omega), am_up_ne (by omega), am_up_ne (by omega)])) ⟨fun j h => by rw [hm9, am_up_ne (by decide), am_up_ne (by decide), am_up_ne (by decide), am_up_ne (by decide), am_up_ne (by decide), am_up_ne (by decide)]; exact hA.1 j h, fun j h => by rw [hm9, am_up_ne (by decide), am_up_ne (by decide), am_up_ne (by decide), am_up_ne (by decide), am_up_ne (by decide), am_up_ne (by decide)]; exact hA.2 j h⟩ (fun c h => by rw [hm9, am_up_ne (by decide), am_up_ne (by decide), am_up_ne (by decide)]; exact hc c h) (fun j h => ?_) ?_ _ _ hQ
                 · rw [hm9, am_up_ne (show (186 : Nat) ≠ 180 by decide), am_up_ne (show (187 : Nat) ≠ 180 by decide), am_up_ne (show (186 : Nat) ≠ 187 by decide)]
                   by_cases e : j = k
                   · rw [e, am_up_eq, am_up_eq, hbj, hcv]; exact ⟨rfl, rfl⟩
                   · rw [am_up_nk e, am_up_nk e, am_up_ne (show (187 : Nat) ≠ 186 by decide)]; exact hj j (by omega)
                 · have z := cnt_t hbj
                   rw [hm9, am_up_eq]
                   congr 1
                   omega)
              | (have hbj : B_j R k = false := by
                   unfold B_j
                   rw [cnd53, cnd71]; rfl
                 have hcv : B_cv R k = false := by
                   unfold B_cv
                   rw [cnd53, cnd71]; rfl
                 have hm9 : m5 = am_up (am_up (am_up mem 186 k (nI 0)) 187 k (nI 0)) 180 8 (nI (cnt (bC R) (nn (R 3)) + cnt (B_j R) k + 0)) := by rw [hm5, hm4, hm3]
                 refine ih m5 (k + 1) (by omega) (cp_fr hC (fun q hq => by rw [hm9, am_up_ne (by omega), am_up_ne (by omega), am_up_ne (by omega)])) (FrC_tr hf (fun q hq => by rw [hm9, am_up_ne (by omega), am_up_ne (by omega), am_up_ne (by omega)])) ⟨fun j h => by rw [hm9, am_up_ne (by decide), am_up_ne (by decide), am_up_ne (by decide), am_up_ne (by decide), am_up_ne (by decide), am_up_ne (by decide)]; exact hA.1 j h, fun j h => by rw [hm9, am_up_ne (by decide), am_up_ne (by decide), am_up_ne (by decide), am_up_ne (by decide), am_up_ne (by decide), am_up_ne (by decide)]; exact hA.2 j h⟩ (fun c h => by rw [hm9, am_up_ne (by decide), am_up_ne (by decide), am_up_ne (by decide)]; exact hc c h) (fun j h => ?_) ?_ _ _ hQ
                 · rw [hm9, am_up_ne (show (186 : Nat) ≠ 180 by decide), am_up_ne (show (187 : Nat) ≠ 180 by decide), am_up_ne (show (186 : Nat) ≠ 187 by decide)]
                   by_cases e : j = k
                   · rw [e, am_up_eq, am_up_eq, hbj, hcv]; exact ⟨rfl, rfl⟩
                   · rw [am_up_nk e, am_up_nk e, am_up_ne (show (187 : Nat) ≠ 186 by decide)]; exact hj j (by omega)
                 · have z := cnt_f hbj
                   rw [hm9, am_up_eq]
                   congr 1
                   omega)
            · skip
              refine ev_aload rfl rfl ?_
              refine ev_getR (c := 2) (j := 5) rfl ?_ (hq := k_180 n)
              refine ev_iload rfl rfl ?_
              refine ev_zaldN rfl rfl ?_ (hq := k_186 n)
              rw [show m3 186 k = nI 0 by rw [hm3, am_up_eq]]
              refine ev_if_eqN (p2 := 103) rfl rfl (fun _ => ?_) (fun zz => absurd zz (by decide))
              refine ev_iconst (x := nI 0) rfl rfl ?_
              refine ev_zastS rfl (fun m4 hm4 => ?_) (by decide) (hq := k_187 n)
              refine ev_aload rfl rfl ?_
              first | refine ev_dupR rfl ?_ | refine ev_dupI rfl ?_
              refine ev_getI (c := 2) (j := 8) rfl ?_ (hq := k_180 n)
              rw [show m4 180 8 = nI (cnt (bC R) (nn (R 3)) + cnt (B_j R) k) by rw [hm4, am_up_ne (by decide), hm3, am_up_ne (by decide)]; exact h8]
              refine ev_aload rfl rfl ?_
              refine ev_getR (c := 2) (j := 5) rfl ?_ (hq := k_180 n)
              refine ev_iload rfl rfl ?_
              refine ev_zaldN rfl rfl ?_ (hq := k_186 n)
              rw [show m4 186 k = nI 0 by rw [hm4, am_up_ne (by decide), hm3, am_up_eq]]
              refine ev_call rfl rfl ?_
              refine c_X11_bit _ (by decide) ?_
              change am_ev _ _ _ _ [_, _, _] _ _ _
              refine ev_iaddN rfl ?_
              refine ev_putS (c := 2) (j := 8) rfl (fun m5 hm5 => ?_) (hq := k_180 n)
              refine ev_iincN rfl rfl rfl ?_
              refine ev_goto (p2 := 2) rfl rfl ?_
              first
              | (exact absurd (cnd53.symm.trans cnd87) (by decide))
              | (have hbj : B_j R k = false := by
                   unfold B_j
                   rw [cnd53]; rfl
                 have hcv : B_cv R k = true := by
                   unfold B_cv
                   rw [cnd53]; rfl
                 have hm9 : m5 = am_up (am_up (am_up mem 186 k (nI 0)) 187 k (nI 1)) 180 8 (nI (cnt (bC R) (nn (R 3)) + cnt (B_j R) k + 0)) := by rw [hm5, hm4, hm3]
                 refine ih m5 (k + 1) (by omega) (cp_fr hC (fun q hq => by rw [hm9, am_up_ne (by omega), am_up_ne (by omega), am_up_ne (by omega)])) (FrC_tr hf (fun q hq => by rw [hm9, am_up_ne (by omega), am_up_ne (by omega), am_up_ne (by omega)])) ⟨fun j h => by rw [hm9, am_up_ne (by decide), am_up_ne (by decide), am_up_ne (by decide), am_up_ne (by decide), am_up_ne (by decide), am_up_ne (by decide)]; exact hA.1 j h, fun j h => by rw [hm9, am_up_ne (by decide), am_up_ne (by decide), am_up_ne (by decide), am_up_ne (by decide), am_up_ne (by decide), am_up_ne (by decide)]; exact hA.2 j h⟩ (fun c h => by rw [hm9, am_up_ne (by decide), am_up_ne (by decide), am_up_ne (by decide)]; exact hc c h) (fun j h => ?_) ?_ _ _ hQ
                 · rw [hm9, am_up_ne (show (186 : Nat) ≠ 180 by decide), am_up_ne (show (187 : Nat) ≠ 180 by decide), am_up_ne (show (186 : Nat) ≠ 187 by decide)]
                   by_cases e : j = k
                   · rw [e, am_up_eq, am_up_eq, hbj, hcv]; exact ⟨rfl, rfl⟩
                   · rw [am_up_nk e, am_up_nk e, am_up_ne (show (187 : Nat) ≠ 186 by decide)]; exact hj j (by omega)
                 · have z := cnt_f hbj
                   rw [hm9, am_up_eq]
                   congr 1
                   omega)
              | (have hbj : B_j R k = true := by
                   unfold B_j
                   rw [cnd53, cnd71]; rfl
                 have hcv : B_cv R k = true := by
                   unfold B_cv
                   rw [cnd53, cnd71]; rfl
                 have hm9 : m5 = am_up (am_up (am_up mem 186 k (nI 1)) 187 k (nI 1)) 180 8 (nI (cnt (bC R) (nn (R 3)) + cnt (B_j R) k + 1)) := by rw [hm5, hm4, hm3]
                 refine ih m5 (k + 1) (by omega) (cp_fr hC (fun q hq => by rw [hm9, am_up_ne (by omega), am_up_ne (by omega), am_up_ne (by omega)])) (FrC_tr hf (fun q hq => by rw [hm9, am_up_ne (by omega), am_up_ne (by omega), am_up_ne (by omega)])) ⟨fun j h => by rw [hm9, am_up_ne (by decide), am_up_ne (by decide), am_up_ne (by decide), am_up_ne (by decide), am_up_ne (by decide), am_up_ne (by decide)]; exact hA.1 j h, fun j h => by rw [hm9, am_up_ne (by decide), am_up_ne (by decide), am_up_ne (by decide), am_up_ne (by decide), am_up_ne (by decide), am_up_ne (by decide)]; exact hA.2 j h⟩ (fun c h => by rw [hm9, am_up_ne (by decide), am_up_ne (by decide), am_up_ne (by decide)]; exact hc c h) (fun j h => ?_) ?_ _ _ hQ
                 · rw [hm9, am_up_ne (show (186 : Nat) ≠ 180 by decide), am_up_ne (show (187 : Nat) ≠ 180 by decide), am_up_ne (show (186 : Nat) ≠ 187 by decide)]
                   by_cases e : j = k
                   · rw [e, am_up_eq, am_up_eq, hbj, hcv]; exact ⟨rfl, rfl⟩
                   · rw [am_up_nk e, am_up_nk e, am_up_ne (show (187 : Nat) ≠ 186 by decide)]; exact hj j (by omega)
                 · have z := cnt_t hbj
                   rw [hm9, am_up_eq]
                   congr 1
                   omega)
              | (have hbj : B_j R k = false := by
                   unfold B_j
                   rw [cnd53, cnd71]; rfl
                 have hcv : B_cv R k = false := by
                   unfold B_cv
                   rw [cnd53, cnd71]; rfl
                 have hm9 : m5 = am_up (am_up (am_up mem 186 k (nI 0)) 187 k (nI 0)) 180 8 (nI (cnt (bC R) (nn (R 3)) + cnt (B_j R) k + 0)) := by rw [hm5, hm4, hm3]
                 refine ih m5 (k + 1) (by omega) (cp_fr hC (fun q hq => by rw [hm9, am_up_ne (by omega), am_up_ne (by omega), am_up_ne (by omega)])) (FrC_tr hf (fun q hq => by rw [hm9, am_up_ne (by omega), am_up_ne (by omega), am_up_ne (by omega)])) ⟨fun j h => by rw [hm9, am_up_ne (by decide), am_up_ne (by decide), am_up_ne (by decide), am_up_ne (by decide), am_up_ne (by decide), am_up_ne (by decide)]; exact hA.1 j h, fun j h => by rw [hm9, am_up_ne (by decide), am_up_ne (by decide), am_up_ne (by decide), am_up_ne (by decide), am_up_ne (by decide), am_up_ne (by decide)]; exact hA.2 j h⟩ (fun c h => by rw [hm9, am_up_ne (by decide), am_up_ne (by decide), am_up_ne (by decide)]; exact hc c h) (fun j h => ?_) ?_ _ _ hQ
                 · rw [hm9, am_up_ne (show (186 : Nat) ≠ 180 by decide), am_up_ne (show (187 : Nat) ≠ 180 by decide), am_up_ne (show (186 : Nat) ≠ 187 by decide)]
                   by_cases e : j = k
                   · rw [e, am_up_eq, am_up_eq, hbj, hcv]; exact ⟨rfl, rfl⟩
                   · rw [am_up_nk e, am_up_nk e, am_up_ne (show (187 : Nat) ≠ 186 by decide)]; exact hj j (by omega)
                 · have z := cnt_f hbj
                   rw [hm9, am_up_eq]
                   congr 1
                   omega)
          · skip
            refine ev_iconst (x := nI 1) rfl rfl ?_
            refine ev_goto (p2 := 79) rfl rfl ?_
            refine ev_zastS rfl (fun m3 hm3 => ?_) (by decide) (hq := k_186 n)
            refine ev_aload rfl rfl ?_
            refine ev_getR (c := 2) (j := 6) rfl ?_ (hq := k_180 n)
            refine ev_iload rfl rfl ?_
            refine ev_iload rfl rfl ?_
            refine ev_if_neO (p2 := 99) rfl rfl (fun cnd87 => ?_) (fun cnd87 => ?_)
            · skip
              refine ev_iconst (x := nI 1) rfl rfl ?_
              refine ev_goto (p2 := 104) rfl rfl ?_
              refine ev_zastS rfl (fun m4 hm4 => ?_) (by decide) (hq := k_187 n)
              refine ev_aload rfl rfl ?_
              first | refine ev_dupR rfl ?_ | refine ev_dupI rfl ?_
              refine ev_getI (c := 2) (j := 8) rfl ?_ (hq := k_180 n)
              rw [show m4 180 8 = nI (cnt (bC R) (nn (R 3)) + cnt (B_j R) k) by rw [hm4, am_up_ne (by decide), hm3, am_up_ne (by decide)]; exact h8]
              refine ev_aload rfl rfl ?_
              refine ev_getR (c := 2) (j := 5) rfl ?_ (hq := k_180 n)
              refine ev_iload rfl rfl ?_
              refine ev_zaldN rfl rfl ?_ (hq := k_186 n)
              rw [show m4 186 k = nI 1 by rw [hm4, am_up_ne (by decide), hm3, am_up_eq]]
              refine ev_call rfl rfl ?_
              refine c_X11_bit _ (by decide) ?_
              change am_ev _ _ _ _ [_, _, _] _ _ _
              refine ev_iaddN rfl ?_
              refine ev_putS (c := 2) (j := 8) rfl (fun m5 hm5 => ?_) (hq := k_180 n)
              refine ev_iincN rfl rfl rfl ?_
              refine ev_goto (p2 := 2) rfl rfl ?_
              first
              | (exact absurd (cnd53.symm.trans cnd87) (by decide))
              | (have hbj : B_j R k = false := by
                   unfold B_j
                   rw [cnd53]; rfl
                 have hcv : B_cv R k = true := by
                   unfold B_cv
                   rw [cnd53]; rfl
                 have hm9 : m5 = am_up (am_up (am_up mem 186 k (nI 0)) 187 k (nI 1)) 180 8 (nI (cnt (bC R) (nn (R 3)) + cnt (B_j R) k + 0)) := by rw [hm5, hm4, hm3]
                 refine ih m5 (k + 1) (by omega) (cp_fr hC (fun q hq => by rw [hm9, am_up_ne (by omega), am_up_ne (by omega), am_up_ne (by omega)])) (FrC_tr hf (fun q hq => by rw [hm9, am_up_ne (by omega), am_up_ne (by omega), am_up_ne (by omega)])) ⟨fun j h => by rw [hm9, am_up_ne (by decide), am_up_ne (by decide), am_up_ne (by decide), am_up_ne (by decide), am_up_ne (by decide), am_up_ne (by decide)]; exact hA.1 j h, fun j h => by rw [hm9, am_up_ne (by decide), am_up_ne (by decide), am_up_ne (by decide), am_up_ne (by decide), am_up_ne (by decide), am_up_ne (by decide)]; exact hA.2 j h⟩ (fun c h => by rw [hm9, am_up_ne (by decide), am_up_ne (by decide), am_up_ne (by decide)]; exact hc c h) (fun j h => ?_) ?_ _ _ hQ
                 · rw [hm9, am_up_ne (show (186 : Nat) ≠ 180 by decide), am_up_ne (show (187 : Nat) ≠ 180 by decide), am_up_ne (show (186 : Nat) ≠ 187 by decide)]
                   by_cases e : j = k
                   · rw [e, am_up_eq, am_up_eq, hbj, hcv]; exact ⟨rfl, rfl⟩
                   · rw [am_up_nk e, am_up_nk e, am_up_ne (show (187 : Nat) ≠ 186 by decide)]; exact hj j (by omega)
                 · have z := cnt_f hbj
                   rw [hm9, am_up_eq]
                   congr 1
                   omega)
              | (have hbj : B_j R k = true := by
                   unfold B_j
                   rw [cnd53, cnd71]; rfl
                 have hcv : B_cv R k = true := by
                   unfold B_cv
                   rw [cnd53, cnd71]; rfl
                 have hm9 : m5 = am_up (am_up (am_up mem 186 k (nI 1)) 187 k (nI 1)) 180 8 (nI (cnt (bC R) (nn (R 3)) + cnt (B_j R) k + 1)) := by rw [hm5, hm4, hm3]
                 refine ih m5 (k + 1) (by omega) (cp_fr hC (fun q hq => by rw [hm9, am_up_ne (by omega), am_up_ne (by omega), am_up_ne (by omega)])) (FrC_tr hf (fun q hq => by rw [hm9, am_up_ne (by omega), am_up_ne (by omega), am_up_ne (by omega)])) ⟨fun j h => by rw [hm9, am_up_ne (by decide), am_up_ne (by decide), am_up_ne (by decide), am_up_ne (by decide), am_up_ne (by decide), am_up_ne (by decide)]; exact hA.1 j h, fun j h => by rw [hm9, am_up_ne (by decide), am_up_ne (by decide), am_up_ne (by decide), am_up_ne (by decide), am_up_ne (by decide), am_up_ne (by decide)]; exact hA.2 j h⟩ (fun c h => by rw [hm9, am_up_ne (by decide), am_up_ne (by decide), am_up_ne (by decide)]; exact hc c h) (fun j h => ?_) ?_ _ _ hQ
                 · rw [hm9, am_up_ne (show (186 : Nat) ≠ 180 by decide), am_up_ne (show (187 : Nat) ≠ 180 by decide), am_up_ne (show (186 : Nat) ≠ 187 by decide)]
                   by_cases e : j = k
                   · rw [e, am_up_eq, am_up_eq, hbj, hcv]; exact ⟨rfl, rfl⟩
                   · rw [am_up_nk e, am_up_nk e, am_up_ne (show (187 : Nat) ≠ 186 by decide)]; exact hj j (by omega)
                 · have z := cnt_t hbj
                   rw [hm9, am_up_eq]
                   congr 1
                   omega)
              | (have hbj : B_j R k = false := by
                   unfold B_j
                   rw [cnd53, cnd71]; rfl
                 have hcv : B_cv R k = false := by
                   unfold B_cv
                   rw [cnd53, cnd71]; rfl
                 have hm9 : m5 = am_up (am_up (am_up mem 186 k (nI 0)) 187 k (nI 0)) 180 8 (nI (cnt (bC R) (nn (R 3)) + cnt (B_j R) k + 0)) := by rw [hm5, hm4, hm3]
                 refine ih m5 (k + 1) (by omega) (cp_fr hC (fun q hq => by rw [hm9, am_up_ne (by omega), am_up_ne (by omega), am_up_ne (by omega)])) (FrC_tr hf (fun q hq => by rw [hm9, am_up_ne (by omega), am_up_ne (by omega), am_up_ne (by omega)])) ⟨fun j h => by rw [hm9, am_up_ne (by decide), am_up_ne (by decide), am_up_ne (by decide), am_up_ne (by decide), am_up_ne (by decide), am_up_ne (by decide)]; exact hA.1 j h, fun j h => by rw [hm9, am_up_ne (by decide), am_up_ne (by decide), am_up_ne (by decide), am_up_ne (by decide), am_up_ne (by decide), am_up_ne (by decide)]; exact hA.2 j h⟩ (fun c h => by rw [hm9, am_up_ne (by decide), am_up_ne (by decide), am_up_ne (by decide)]; exact hc c h) (fun j h => ?_) ?_ _ _ hQ
                 · rw [hm9, am_up_ne (show (186 : Nat) ≠ 180 by decide), am_up_ne (show (187 : Nat) ≠ 180 by decide), am_up_ne (show (186 : Nat) ≠ 187 by decide)]
                   by_cases e : j = k
                   · rw [e, am_up_eq, am_up_eq, hbj, hcv]; exact ⟨rfl, rfl⟩
                   · rw [am_up_nk e, am_up_nk e, am_up_ne (show (187 : Nat) ≠ 186 by decide)]; exact hj j (by omega)
                 · have z := cnt_f hbj
                   rw [hm9, am_up_eq]
                   congr 1
                   omega)
            · skip
              refine ev_aload rfl rfl ?_
              refine ev_getR (c := 2) (j := 5) rfl ?_ (hq := k_180 n)
              refine ev_iload rfl rfl ?_
              refine ev_zaldN rfl rfl ?_ (hq := k_186 n)
              rw [show m3 186 k = nI 1 by rw [hm3, am_up_eq]]
              refine ev_if_eqN (p2 := 103) rfl rfl (fun zz => absurd zz (by decide)) (fun _ => ?_)
              refine ev_iconst (x := nI 1) rfl rfl ?_
              refine ev_goto (p2 := 104) rfl rfl ?_
              refine ev_zastS rfl (fun m4 hm4 => ?_) (by decide) (hq := k_187 n)
              refine ev_aload rfl rfl ?_
              first | refine ev_dupR rfl ?_ | refine ev_dupI rfl ?_
              refine ev_getI (c := 2) (j := 8) rfl ?_ (hq := k_180 n)
              rw [show m4 180 8 = nI (cnt (bC R) (nn (R 3)) + cnt (B_j R) k) by rw [hm4, am_up_ne (by decide), hm3, am_up_ne (by decide)]; exact h8]
              refine ev_aload rfl rfl ?_
              refine ev_getR (c := 2) (j := 5) rfl ?_ (hq := k_180 n)
              refine ev_iload rfl rfl ?_
              refine ev_zaldN rfl rfl ?_ (hq := k_186 n)
              rw [show m4 186 k = nI 1 by rw [hm4, am_up_ne (by decide), hm3, am_up_eq]]
              refine ev_call rfl rfl ?_
              refine c_X11_bit _ (by decide) ?_
              change am_ev _ _ _ _ [_, _, _] _ _ _
              refine ev_iaddN rfl ?_
              refine ev_putS (c := 2) (j := 8) rfl (fun m5 hm5 => ?_) (hq := k_180 n)
              refine ev_iincN rfl rfl rfl ?_
              refine ev_goto (p2 := 2) rfl rfl ?_
              first
              | (exact absurd (cnd53.symm.trans cnd87) (by decide))
              | (have hbj : B_j R k = false := by
                   unfold B_j
                   rw [cnd53]; rfl
                 have hcv : B_cv R k = true := by
                   unfold B_cv
                   rw [cnd53]; rfl
                 have hm9 : m5 = am_up (am_up (am_up mem 186 k (nI 0)) 187 k (nI 1)) 180 8 (nI (cnt (bC R) (nn (R 3)) + cnt (B_j R) k + 0)) := by rw [hm5, hm4, hm3]
                 refine ih m5 (k + 1) (by omega) (cp_fr hC (fun q hq => by rw [hm9, am_up_ne (by omega), am_up_ne (by omega), am_up_ne (by omega)])) (FrC_tr hf (fun q hq => by rw [hm9, am_up_ne (by omega), am_up_ne (by omega), am_up_ne (by omega)])) ⟨fun j h => by rw [hm9, am_up_ne (by decide), am_up_ne (by decide), am_up_ne (by decide), am_up_ne (by decide), am_up_ne (by decide), am_up_ne (by decide)]; exact hA.1 j h, fun j h => by rw [hm9, am_up_ne (by decide), am_up_ne (by decide), am_up_ne (by decide), am_up_ne (by decide), am_up_ne (by decide), am_up_ne (by decide)]; exact hA.2 j h⟩ (fun c h => by rw [hm9, am_up_ne (by decide), am_up_ne (by decide), am_up_ne (by decide)]; exact hc c h) (fun j h => ?_) ?_ _ _ hQ
                 · rw [hm9, am_up_ne (show (186 : Nat) ≠ 180 by decide), am_up_ne (show (187 : Nat) ≠ 180 by decide), am_up_ne (show (186 : Nat) ≠ 187 by decide)]
                   by_cases e : j = k
                   · rw [e, am_up_eq, am_up_eq, hbj, hcv]; exact ⟨rfl, rfl⟩
                   · rw [am_up_nk e, am_up_nk e, am_up_ne (show (187 : Nat) ≠ 186 by decide)]; exact hj j (by omega)
                 · have z := cnt_f hbj
                   rw [hm9, am_up_eq]
                   congr 1
                   omega)
              | (have hbj : B_j R k = true := by
                   unfold B_j
                   rw [cnd53, cnd71]; rfl
                 have hcv : B_cv R k = true := by
                   unfold B_cv
                   rw [cnd53, cnd71]; rfl
                 have hm9 : m5 = am_up (am_up (am_up mem 186 k (nI 1)) 187 k (nI 1)) 180 8 (nI (cnt (bC R) (nn (R 3)) + cnt (B_j R) k + 1)) := by rw [hm5, hm4, hm3]
                 refine ih m5 (k + 1) (by omega) (cp_fr hC (fun q hq => by rw [hm9, am_up_ne (by omega), am_up_ne (by omega), am_up_ne (by omega)])) (FrC_tr hf (fun q hq => by rw [hm9, am_up_ne (by omega), am_up_ne (by omega), am_up_ne (by omega)])) ⟨fun j h => by rw [hm9, am_up_ne (by decide), am_up_ne (by decide), am_up_ne (by decide), am_up_ne (by decide), am_up_ne (by decide), am_up_ne (by decide)]; exact hA.1 j h, fun j h => by rw [hm9, am_up_ne (by decide), am_up_ne (by decide), am_up_ne (by decide), am_up_ne (by decide), am_up_ne (by decide), am_up_ne (by decide)]; exact hA.2 j h⟩ (fun c h => by rw [hm9, am_up_ne (by decide), am_up_ne (by decide), am_up_ne (by decide)]; exact hc c h) (fun j h => ?_) ?_ _ _ hQ
                 · rw [hm9, am_up_ne (show (186 : Nat) ≠ 180 by decide), am_up_ne (show (187 : Nat) ≠ 180 by decide), am_up_ne (show (186 : Nat) ≠ 187 by decide)]
                   by_cases e : j = k
                   · rw [e, am_up_eq, am_up_eq, hbj, hcv]; exact ⟨rfl, rfl⟩
                   · rw [am_up_nk e, am_up_nk e, am_up_ne (show (187 : Nat) ≠ 186 by decide)]; exact hj j (by omega)
                 · have z := cnt_t hbj
                   rw [hm9, am_up_eq]
                   congr 1
                   omega)
              | (have hbj : B_j R k = false := by
                   unfold B_j
                   rw [cnd53, cnd71]; rfl
                 have hcv : B_cv R k = false := by
                   unfold B_cv
                   rw [cnd53, cnd71]; rfl
                 have hm9 : m5 = am_up (am_up (am_up mem 186 k (nI 0)) 187 k (nI 0)) 180 8 (nI (cnt (bC R) (nn (R 3)) + cnt (B_j R) k + 0)) := by rw [hm5, hm4, hm3]
                 refine ih m5 (k + 1) (by omega) (cp_fr hC (fun q hq => by rw [hm9, am_up_ne (by omega), am_up_ne (by omega), am_up_ne (by omega)])) (FrC_tr hf (fun q hq => by rw [hm9, am_up_ne (by omega), am_up_ne (by omega), am_up_ne (by omega)])) ⟨fun j h => by rw [hm9, am_up_ne (by decide), am_up_ne (by decide), am_up_ne (by decide), am_up_ne (by decide), am_up_ne (by decide), am_up_ne (by decide)]; exact hA.1 j h, fun j h => by rw [hm9, am_up_ne (by decide), am_up_ne (by decide), am_up_ne (by decide), am_up_ne (by decide), am_up_ne (by decide), am_up_ne (by decide)]; exact hA.2 j h⟩ (fun c h => by rw [hm9, am_up_ne (by decide), am_up_ne (by decide), am_up_ne (by decide)]; exact hc c h) (fun j h => ?_) ?_ _ _ hQ
                 · rw [hm9, am_up_ne (show (186 : Nat) ≠ 180 by decide), am_up_ne (show (187 : Nat) ≠ 180 by decide), am_up_ne (show (186 : Nat) ≠ 187 by decide)]
                   by_cases e : j = k
                   · rw [e, am_up_eq, am_up_eq, hbj, hcv]; exact ⟨rfl, rfl⟩
                   · rw [am_up_nk e, am_up_nk e, am_up_ne (show (187 : Nat) ≠ 186 by decide)]; exact hj j (by omega)
                 · have z := cnt_f hbj
                   rw [hm9, am_up_eq]
                   congr 1
                   omega)
theorem c_X2_blameJoints {d n : Nat} {mem : am_M} {Q : am_P} {R : am_R} (hC : CplT 66 R mem) (hA : BA mem 183 184 181 182 (fun j => NJ R (wA R) 0 j (nn (R 5))) (fun j => NJ R (wD R) 0 j (nn (R 5))) (fun j => NC R (wA R) 0 j (nn (R 5))) (fun j => NC R (wD R) 0 j (nn (R 5)))) (hc : (∀ c, c < nn (R 3) → mem 185 c = ob (bC R c))) (h8 : mem 180 8 = nI (cnt (bC R) (nn (R 3)))) (hQ :  ∀ m2 : am_M, FrC mem m2 → CplT 66 R m2 → (∀ c, c < nn (R 3) → m2 185 c = ob (bC R c)) → (∀ j, j < nn (R 4) → m2 186 j = ob (B_j R j) ∧ m2 187 j = ob (B_cv R j)) → m2 180 8 = nI (cnt (bC R) (nn (R 3)) + cnt (B_j R) (nn (R 4))) → Q none (am_SK n) m2) : am_ex (d + 4) 14 [.ref 180, .ref 66] (am_SK n) mem Q := by
  refine ex_in (c0 := kc_X2_blameJoints) rfl (L := [some (.ref 180), some (.ref 66), none, none, none]) rfl ?_
  refine ev_iconst (x := nI 0) rfl rfl ?_
  refine ev_istore rfl rfl (Nat.le_of_ble_eq_true rfl) ?_
  exact l_bl_j _ mem 0 (Nat.zero_add _) hC (FrC_refl _) hA hc (fun l h => absurd h (Nat.not_lt_zero l)) h8 _ _ hQ
theorem l_find {d n : Nat} {mem0 : am_M} {Q : am_P} {R : am_R} (r : Nat) : ∀ (mem : am_M) (k : Nat) (hk : k + r = nn (R 3)) (hC : CplT 66 R mem) (hf : FrC mem0 mem) (hA : BA mem 183 184 181 182 (fun j => NJ R (wA R) 0 j (nn (R 5))) (fun j => NJ R (wD R) 0 j (nn (R 5))) (fun j => NC R (wA R) 0 j (nn (R 5))) (fun j => NC R (wD R) 0 j (nn (R 5)))) (hc : ∀ c, c < k → mem 185 c = ob (bC R c)) (h8 : mem 180 8 = nI (cnt (bC R) k)) (hQ : ∀ m2 : am_M, FrC mem0 m2 → CplT 66 R m2 → (∀ c, c < nn (R 3) → m2 185 c = ob (bC R c)) → (∀ j, j < nn (R 4) → m2 186 j = ob (B_j R j)) → (∀ l, l < nn (R 5) → m2 188 l = ob (B_l R l)) → m2 180 8 = nI (cnt (bC R) (nn (R 3)) + cnt (B_j R) (nn (R 4)) + cnt (B_l R) (nn (R 5))) → Q none (am_SK n) m2), am_ev kc_X2_find (d + 4) 12 [some (.ref 180), some (.ref 66), some (.int (nI k))] [] (am_SK n) mem Q := by
  induction r with
  | zero =>
    intro mem k hk hC hf hA hc h8 hQ
    have hb := wb_all (cp_w hC)
    have q1 := cnt_le (bC R) k
    have hkk : k = nn (R 3) := by omega
    subst hkk
    refine ev_iload rfl rfl ?_
    refine ev_aload rfl rfl ?_
    refine ev_getI (c := 9) (j := 2) rfl ?_ (hq := kt_0 n am_T66)
    rw [cp_t2 hC]
    refine ev_icmp_geN (p2 := 65) rfl rfl (fun cnd17 => ?_) (fun cnd17 => ?_)
    · skip
      refine ev_aload rfl rfl ?_
      refine ev_aload rfl rfl ?_
      refine ev_call rfl rfl ?_
      refine c_X2_blameJoints hC hA hc h8 (fun m2 a1 a2 a3 a4 a5 => ?_)
      change am_ev _ _ _ _ [] _ _ _
      refine ev_aload rfl rfl ?_
      refine ev_aload rfl rfl ?_
      refine ev_call rfl rfl ?_
      refine c_X2_blameLamps a2 a3 a4 a5 (fun m3 b1 b2 b3 b4 b5 b6 => ?_)
      change am_ev _ _ _ _ [] _ _ _
      refine ev_vret rfl ?_
      exact hQ m3 (FrC_tr (FrC_tr hf a1) b1) b2 b3 b4 b5 b6
    · omega
  | succ r ih =>
    intro mem k hk hC hf hA hc h8 hQ
    have hb := wb_all (cp_w hC)
    have q1 := cnt_le (bC R) k
    have hAk := hA.2 k (by omega)
    dsimp only at hAk
    have z1 := NC_le R (wA R) 0 k (nn (R 5))
    have z2 := NC_le R (wD R) 0 k (nn (R 5))
    refine ev_iload rfl rfl ?_
    refine ev_aload rfl rfl ?_
    refine ev_getI (c := 9) (j := 2) rfl ?_ (hq := kt_0 n am_T66)
    rw [cp_t2 hC]
    refine ev_icmp_geN (p2 := 65) rfl rfl (fun cnd17 => ?_) (fun cnd17 => ?_)
    · omega
    · skip
      refine ev_aload rfl rfl ?_
      refine ev_getR (c := 2) (j := 4) rfl ?_ (hq := k_180 n)
      refine ev_iload rfl rfl ?_
      refine ev_aload rfl rfl ?_
      refine ev_getR (c := 2) (j := 0) rfl ?_ (hq := k_180 n)
      refine ev_iload rfl rfl ?_
      refine ev_ialdN rfl rfl ?_ (hq := k_181 n)
      rw [hAk.1]
      refine ev_aload rfl rfl ?_
      refine ev_getR (c := 2) (j := 1) rfl ?_ (hq := k_180 n)
      refine ev_iload rfl rfl ?_
      refine ev_ialdN rfl rfl ?_ (hq := k_182 n)
      rw [hAk.2]
      refine ev_call rfl rfl ?_
      refine c_X2_areAllDark _ _ (by omega) (by omega) ?_
      rw [← bC_D]
      change am_ev _ _ _ _ [_, _, _] _ _ _
      refine ev_zastS rfl (fun m3 hm3 => ?_) (ob01 _) (hq := k_185 n)
      refine ev_aload rfl rfl ?_
      first | refine ev_dupR rfl ?_ | refine ev_dupI rfl ?_
      refine ev_getI (c := 2) (j := 8) rfl ?_ (hq := k_180 n)
      rw [show m3 180 8 = nI (cnt (bC R) k) by rw [hm3, am_up_ne (by decide)]; exact h8]
      refine ev_aload rfl rfl ?_
      refine ev_getR (c := 2) (j := 4) rfl ?_ (hq := k_180 n)
      refine ev_iload rfl rfl ?_
      refine ev_zaldN rfl rfl ?_ (hq := k_185 n)
      rw [show m3 185 k = ob (bC R k) by rw [hm3, am_up_eq]]
      refine ev_call rfl rfl ?_
      refine c_X11_bit _ (ob01 _) ?_
      change am_ev _ _ _ _ [_, _, _] _ _ _
      refine ev_iadd rfl ?_
      refine ev_putS (c := 2) (j := 8) rfl (fun m4 hm4 => ?_) (hq := k_180 n)
      refine ev_iincN rfl rfl rfl ?_
      refine ev_goto (p2 := 12) rfl rfl ?_
      have hm9 : m4 = am_up (am_up mem 185 k (ob (bC R k))) 180 8 (nI (cnt (bC R) k) + ob (bC R k)) := by rw [hm4, hm3]
      refine ih m4 (k + 1) (by omega) (cp_fr hC (fun q hq => by rw [hm9, am_up_ne (by omega), am_up_ne (by omega)])) (FrC_tr hf (fun q hq => by rw [hm9, am_up_ne (by omega), am_up_ne (by omega)])) ⟨fun j h => by rw [hm9, am_up_ne (by decide), am_up_ne (by decide), am_up_ne (by decide), am_up_ne (by decide)]; exact hA.1 j h, fun j h => by rw [hm9, am_up_ne (by decide), am_up_ne (by decide), am_up_ne (by decide), am_up_ne (by decide)]; exact hA.2 j h⟩ (fun c h => ?_) ?_ hQ
      · rw [hm9, am_up_ne (by decide)]
        by_cases e : c = k
        · rw [e, am_up_eq]
        · rw [am_up_nk e]; exact hc c (by omega)
      · rw [hm9, am_up_eq]
        cases hz : bC R k with
        | true => rw [← cnt_t hz]; exact nI_add _ 1
        | false => rw [← cnt_f hz]; exact nI_add _ 0
theorem c_X2_find {d n : Nat} {mem : am_M} {Q : am_P} {R : am_R} (hC : CplT 66 R mem) (hQ :  ∀ m2 : am_M, FrC mem m2 → CplT 66 R m2 → (∀ c, c < nn (R 3) → m2 185 c = ob (bC R c)) → (∀ j, j < nn (R 4) → m2 186 j = ob (B_j R j)) → (∀ l, l < nn (R 5) → m2 188 l = ob (B_l R l)) → m2 180 8 = nI (cnt (bC R) (nn (R 3)) + cnt (B_j R) (nn (R 4)) + cnt (B_l R) (nn (R 5))) → Q none (am_SK n) m2) : am_ex (d + 5) 10 [.ref 180, .ref 66] (am_SK n) mem Q := by
  refine ex_in (c0 := kc_X2_find) rfl (L := [some (.ref 180), some (.ref 66), none]) rfl ?_
  refine ev_aload rfl rfl ?_
  refine ev_aload rfl rfl ?_
  refine ev_call rfl rfl ?_
  refine c_X2_countBehind hC (fun m2 f1 hC2 hA => ?_)
  change am_ev _ _ _ _ [] _ _ _
  refine ev_aload rfl rfl ?_
  refine ev_iconst (x := nI 0) rfl rfl ?_
  refine ev_putS (c := 2) (j := 8) rfl (fun m3 hm3 => ?_) (hq := k_180 n)
  refine ev_iconst (x := nI 0) rfl rfl ?_
  refine ev_istore rfl rfl (Nat.le_of_ble_eq_true rfl) ?_
  exact l_find _ m3 0 (Nat.zero_add _) (cp_fr hC2 (fun q hq => by rw [hm3, am_up_ne (by omega)])) (FrC_tr f1 (fun q hq => by rw [hm3, am_up_ne (by omega)])) ⟨fun j h => by rw [hm3, am_up_ne (by decide), am_up_ne (by decide)]; exact hA.1 j h, fun j h => by rw [hm3, am_up_ne (by decide), am_up_ne (by decide)]; exact hA.2 j h⟩ (fun c h => absurd h (Nat.not_lt_zero c)) (by rw [hm3, am_up_eq]; rfl) hQ
theorem c_isBl0 {d n : Nat} {mem : am_M} {Q : am_P} (c : Nat) (hc : c < 3) {b : Bool} (h : mem 185 c = ob b) (hQ : Q (some (.int (ob b))) (am_SK n) mem) : am_ex (d + 1) 9 [.ref 180, .int (nI 0), .int (nI c)] (am_SK n) mem Q := by
  refine ex_in (c0 := kc_X2_isBlamed) rfl (L := [some (.ref 180), some (.int (nI 0)), some (.int (nI c))]) rfl ?_
  refine ev_iload rfl rfl ?_
  refine ev_lswC (p2 := 28) rfl (by first | rfl | decide) rfl ?_
  refine ev_aload rfl rfl ?_
  refine ev_getR (c := 2) (j := 4) rfl ?_ (hq := k_180 n)
  refine ev_iload rfl rfl ?_
  refine ev_zaldN rfl rfl ?_ (hq := k_185 n)
  rw [h]
  refine ev_zret rfl ?_ (hx := ob01 _)
  exact hQ
theorem c_isBl1 {d n : Nat} {mem : am_M} {Q : am_P} (c : Nat) (hc : c < 12) {b : Bool} (h : mem 186 c = ob b) (hQ : Q (some (.int (ob b))) (am_SK n) mem) : am_ex (d + 1) 9 [.ref 180, .int (nI 1), .int (nI c)] (am_SK n) mem Q := by
  refine ex_in (c0 := kc_X2_isBlamed) rfl (L := [some (.ref 180), some (.int (nI 1)), some (.int (nI c))]) rfl ?_
  refine ev_iload rfl rfl ?_
  refine ev_lswC (p2 := 35) rfl (by first | rfl | decide) rfl ?_
  refine ev_aload rfl rfl ?_
  refine ev_getR (c := 2) (j := 5) rfl ?_ (hq := k_180 n)
  refine ev_iload rfl rfl ?_
  refine ev_zaldN rfl rfl ?_ (hq := k_186 n)
  rw [h]
  refine ev_zret rfl ?_ (hx := ob01 _)
  exact hQ
theorem c_isBl2 {d n : Nat} {mem : am_M} {Q : am_P} (c : Nat) (hc : c < 16) {b : Bool} (h : mem 188 c = ob b) (hQ : Q (some (.int (ob b))) (am_SK n) mem) : am_ex (d + 1) 9 [.ref 180, .int (nI 2), .int (nI c)] (am_SK n) mem Q := by
  refine ex_in (c0 := kc_X2_isBlamed) rfl (L := [some (.ref 180), some (.int (nI 2)), some (.int (nI c))]) rfl ?_
  refine ev_iload rfl rfl ?_
  refine ev_lswC (p2 := 42) rfl (by first | rfl | decide) rfl ?_
  refine ev_aload rfl rfl ?_
  refine ev_getR (c := 2) (j := 7) rfl ?_ (hq := k_180 n)
  refine ev_iload rfl rfl ?_
  refine ev_zaldN rfl rfl ?_ (hq := k_188 n)
  rw [h]
  refine ev_zret rfl ?_ (hx := ob01 _)
  exact hQ
theorem c_X11_blame {d n : Nat} {mem : am_M} {Q : am_P} {R : am_R} (hC : CplT 66 R mem) (w p : Int32) (hQ : ∀ m2 : am_M, FrC mem m2 → CplT 66 R m2 → Q (some (.int (X_blame R w p))) (am_SK n) m2) : am_ex (d + 7) 104 [.ref 29, .int w, .int p] (am_SK n) mem Q := by
  have hw := cp_w hC
  have hb := wb_all hw
  unfold X_blame at hQ
  by_cases hP : P_th R w p
  · rw [if_pos hP] at hQ
    obtain ⟨a, c, rfl, rfl, h16, hcc⟩ := th_cases hw hP
    rw [nn_nI (by omega)] at hQ
    rcases hcc with ⟨rfl, hcc⟩ | ⟨rfl, hcc⟩ | ⟨rfl, hcc⟩
    · refine ex_in (c0 := kc_X11_blame) rfl (L := [some (.ref 29), some (.int (nI 0)), some (.int (nI c))]) rfl ?_
      refine ev_aload rfl rfl ?_
      refine ev_getR (c := 11) (j := 2) rfl ?_ (hq := k_29 n)
      refine ev_iload rfl rfl ?_
      refine ev_iload rfl rfl ?_
      refine ev_callV rfl rfl rfl rfl (Nat.le_of_ble_eq_true rfl) (Nat.le_of_ble_eq_true rfl) ?_ (hq := kt_0 n am_T66)
      refine c_X9_hasThing am_T66 hC _ _ ?_
      change am_ev _ _ _ _ [_] _ _ _
      refine ev_if_neB (p2 := 15) rfl rfl (fun cnd9 => ?_) (fun cnd9 => ?_)
      · skip
        refine ev_aload rfl rfl ?_
        refine ev_getR (c := 11) (j := 6) rfl ?_ (hq := k_29 n)
        refine ev_aload rfl rfl ?_
        refine ev_getR (c := 11) (j := 2) rfl ?_ (hq := k_29 n)
        refine ev_call rfl rfl ?_
        refine c_X2_find hC (fun m2 f1 hC2 hc hj hl h8 => ?_)
        change am_ev _ _ _ _ [] _ _ _
        refine ev_aload rfl rfl ?_
        refine ev_getR (c := 11) (j := 6) rfl ?_ (hq := k_29 n)
        refine ev_iload rfl rfl ?_
        refine ev_iload rfl rfl ?_
        refine ev_call rfl rfl ?_
        refine c_isBl0 c (by omega) (hc c hcc) ?_
        change am_ev _ _ _ _ [_] _ _ _
        refine ev_call rfl rfl ?_
        refine c_X11_bit _ (ob01 _) ?_
        change am_ev _ _ _ _ [_] _ _ _
        refine ev_iret rfl ?_
        exact hQ m2 f1 hC2
      · exact absurd hP cnd9
    · refine ex_in (c0 := kc_X11_blame) rfl (L := [some (.ref 29), some (.int (nI 1)), some (.int (nI c))]) rfl ?_
      refine ev_aload rfl rfl ?_
      refine ev_getR (c := 11) (j := 2) rfl ?_ (hq := k_29 n)
      refine ev_iload rfl rfl ?_
      refine ev_iload rfl rfl ?_
      refine ev_callV rfl rfl rfl rfl (Nat.le_of_ble_eq_true rfl) (Nat.le_of_ble_eq_true rfl) ?_ (hq := kt_0 n am_T66)
      refine c_X9_hasThing am_T66 hC _ _ ?_
      change am_ev _ _ _ _ [_] _ _ _
      refine ev_if_neB (p2 := 15) rfl rfl (fun cnd9 => ?_) (fun cnd9 => ?_)
      · skip
        refine ev_aload rfl rfl ?_
        refine ev_getR (c := 11) (j := 6) rfl ?_ (hq := k_29 n)
        refine ev_aload rfl rfl ?_
        refine ev_getR (c := 11) (j := 2) rfl ?_ (hq := k_29 n)
        refine ev_call rfl rfl ?_
        refine c_X2_find hC (fun m2 f1 hC2 hc hj hl h8 => ?_)
        change am_ev _ _ _ _ [] _ _ _
        refine ev_aload rfl rfl ?_
        refine ev_getR (c := 11) (j := 6) rfl ?_ (hq := k_29 n)
        refine ev_iload rfl rfl ?_
        refine ev_iload rfl rfl ?_
        refine ev_call rfl rfl ?_
        refine c_isBl1 c (by omega) (hj c hcc) ?_
        change am_ev _ _ _ _ [_] _ _ _
        refine ev_call rfl rfl ?_
        refine c_X11_bit _ (ob01 _) ?_
        change am_ev _ _ _ _ [_] _ _ _
        refine ev_iret rfl ?_
        exact hQ m2 f1 hC2
      · exact absurd hP cnd9
    · refine ex_in (c0 := kc_X11_blame) rfl (L := [some (.ref 29), some (.int (nI 2)), some (.int (nI c))]) rfl ?_
      refine ev_aload rfl rfl ?_
      refine ev_getR (c := 11) (j := 2) rfl ?_ (hq := k_29 n)
      refine ev_iload rfl rfl ?_
      refine ev_iload rfl rfl ?_
      refine ev_callV rfl rfl rfl rfl (Nat.le_of_ble_eq_true rfl) (Nat.le_of_ble_eq_true rfl) ?_ (hq := kt_0 n am_T66)
      refine c_X9_hasThing am_T66 hC _ _ ?_
      change am_ev _ _ _ _ [_] _ _ _
      refine ev_if_neB (p2 := 15) rfl rfl (fun cnd9 => ?_) (fun cnd9 => ?_)
      · skip
        refine ev_aload rfl rfl ?_
        refine ev_getR (c := 11) (j := 6) rfl ?_ (hq := k_29 n)
        refine ev_aload rfl rfl ?_
        refine ev_getR (c := 11) (j := 2) rfl ?_ (hq := k_29 n)
        refine ev_call rfl rfl ?_
        refine c_X2_find hC (fun m2 f1 hC2 hc hj hl h8 => ?_)
        change am_ev _ _ _ _ [] _ _ _
        refine ev_aload rfl rfl ?_
        refine ev_getR (c := 11) (j := 6) rfl ?_ (hq := k_29 n)
        refine ev_iload rfl rfl ?_
        refine ev_iload rfl rfl ?_
        refine ev_call rfl rfl ?_
        refine c_isBl2 c (by omega) (hl c hcc) ?_
        change am_ev _ _ _ _ [_] _ _ _
        refine ev_call rfl rfl ?_
        refine c_X11_bit _ (ob01 _) ?_
        change am_ev _ _ _ _ [_] _ _ _
        refine ev_iret rfl ?_
        exact hQ m2 f1 hC2
      · exact absurd hP cnd9
  · rw [if_neg hP] at hQ
    refine ex_in (c0 := kc_X11_blame) rfl (L := [some (.ref 29), some (.int w), some (.int p)]) rfl ?_
    refine ev_aload rfl rfl ?_
    refine ev_getR (c := 11) (j := 2) rfl ?_ (hq := k_29 n)
    refine ev_iload rfl rfl ?_
    refine ev_iload rfl rfl ?_
    refine ev_callV rfl rfl rfl rfl (Nat.le_of_ble_eq_true rfl) (Nat.le_of_ble_eq_true rfl) ?_ (hq := kt_0 n am_T66)
    refine c_X9_hasThing am_T66 hC _ _ ?_
    change am_ev _ _ _ _ [_] _ _ _
    refine ev_if_neB (p2 := 15) rfl rfl (fun cnd9 => ?_) (fun cnd9 => ?_)
    · exact absurd cnd9 hP
    · skip
      refine ev_iconst (x := (-1000000001)) rfl rfl ?_
      refine ev_iret rfl ?_
      exact hQ mem (FrC_refl _) hC
theorem c_X11_blames {d n : Nat} {mem : am_M} {Q : am_P} {R : am_R} (hC : CplT 66 R mem) (hQ : ∀ m2 : am_M, FrC mem m2 → CplT 66 R m2 → Q (some (.int (X_blames R))) (am_SK n) m2) : am_ex (d + 6) 105 [.ref 29] (am_SK n) mem Q := by
  refine ex_in (c0 := kc_X11_blames) rfl (L := [some (.ref 29)]) rfl ?_
  refine ev_aload rfl rfl ?_
  refine ev_getR (c := 11) (j := 6) rfl ?_ (hq := k_29 n)
  refine ev_aload rfl rfl ?_
  refine ev_getR (c := 11) (j := 2) rfl ?_ (hq := k_29 n)
  refine ev_call rfl rfl ?_
  refine c_X2_find hC (fun m2 f1 hC2 hc hj hl h8 => ?_)
  change am_ev _ _ _ _ [] _ _ _
  refine ev_aload rfl rfl ?_
  refine ev_getR (c := 11) (j := 6) rfl ?_ (hq := k_29 n)
  refine ev_getI (c := 2) (j := 8) rfl ?_ (hq := k_180 n)
  rw [h8]
  refine ev_iret rfl ?_
  exact hQ m2 f1 hC2
theorem pub_blame {xs : am_R} {d n : Nat} {mem : am_M} {Q : am_P} (hI : Inv xs mem) (w : Int32) (p : Int32) (hQ : ∀ (rv : Int32) (m1 : am_M), RefA xs (d + 200) n 205 [.ref 221, .int w, .int p] rv m1 → Q (some (.int rv)) (am_SK n) m1) : am_ex (d + 200) 104 [.ref 29, .int w, .int p] (am_SK n) mem Q := by
  have hC := hI.2.1.1
  have hw := cp_w hC
  have hT := cp_ts hC
  exact pub_town (R' := mem 222) (v := X_blame (mem 222) w p) hI hI.2.1.2 (Nat.le_refl _) (fun Q1 h => c_X11_blame hC w p h) (fun m1 f1 Q1 h => c_X12_blame (f1 222 (by decide)) hw w p h) (fun m1 h => hQ _ m1 h)
theorem pub_blames {xs : am_R} {d n : Nat} {mem : am_M} {Q : am_P} (hI : Inv xs mem) (hQ : ∀ (rv : Int32) (m1 : am_M), RefA xs (d + 200) n 206 [.ref 221] rv m1 → Q (some (.int rv)) (am_SK n) m1) : am_ex (d + 200) 105 [.ref 29] (am_SK n) mem Q := by
  have hC := hI.2.1.1
  have hw := cp_w hC
  have hT := cp_ts hC
  exact pub_town (R' := mem 222) (v := X_blames (mem 222)) hI hI.2.1.2 (Nat.le_refl _) (fun Q1 h => c_X11_blames hC h) (fun m1 f1 Q1 h => c_X12_blames (f1 222 (by decide)) hw h) (fun m1 h => hQ _ m1 h)
