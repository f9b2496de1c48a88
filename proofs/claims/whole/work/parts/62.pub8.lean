/-! both sides: check, trim, feed -/
theorem c_X12_check {d n : Nat} {mem : am_M} {Q : am_P} {R RI g : am_R} (hR : mem 222 = R) (hRI : mem 223 = RI) (hg : mem 252 = g) (w : Nat) (hw60 : w ≤ 60) (h43 : mem 221 43 = nI w) (hz : ∀ i, 1561 ≤ i → mem 222 i = 0 ∧ mem 223 i = 0 ∧ mem 224 i = 0) (hI : ¬ mem 221 3 = 0 → wfR RI ∧ wfTs RI ∧ nn (RI 1) ≤ 999) (v : Int32) (hQ1 : ¬ P_ck v → Q (some (.int S_BAD)) (am_SK n) (am_up mem 221 43 (nI 0))) (hQ2 : P_ck v → mem 221 3 = 0 → Q (some (.int S_NO)) (am_SK n) (am_up mem 221 43 (nI 0))) (hQ : P_ck v → ¬ mem 221 3 = 0 → ∀ m2 : am_M, FrR4 (am_up mem 221 43 (nI 0)) m2 → m2 222 = R → Q (some (.int (X_chk w (nn v) (S_chk w g (nn v) 0 RI)))) (am_SK n) m2) : am_ex (d + 9) 231 [.ref 221, .int v] (am_SK n) mem Q := by
  refine ex_in (c0 := kc_X12_check) rfl (L := [some (.ref 221), some (.int v), none, none, none, none]) rfl ?_
  refine ev_aload rfl rfl ?_
  refine ev_getI (c := 12) (j := 43) rfl ?_ (hq := k_221 n)
  rw [h43]
  refine ev_istore rfl rfl (Nat.le_of_ble_eq_true rfl) ?_
  refine ev_aload rfl rfl ?_
  refine ev_iconst (x := nI 0) rfl rfl ?_
  refine ev_put (c := 12) (j := 43) rfl ?_ (hq := k_221 n)
  refine ev_iload rfl rfl ?_
  refine ev_iconst (x := nI 1) rfl rfl ?_
  refine ev_iconst (x := nI 30) rfl rfl ?_
  refine ev_call rfl rfl ?_
  refine c_X12_in _ _ _ ?_
  change am_ev _ _ _ _ [_] _ _ _
  refine ev_if_neB (p2 := 23) rfl rfl (fun cnd17 => ?_) (fun cnd17 => ?_)
  · skip
    refine ev_aload rfl rfl ?_
    refine ev_getI (c := 12) (j := 3) rfl ?_ (hq := k_221 n)
    refine ev_if_ne (p2 := 34) rfl rfl (fun cnd27 => ?_) (fun cnd27 => ?_)
    · skip
      have h3n : ¬ mem 221 3 = 0 := by rw [am_up_nk (by decide)] at cnd27; exact cnd27
      replace hQ := hQ cnd17 h3n
      obtain ⟨hw, hT, hd⟩ := hI h3n
      obtain ⟨ev, hv⟩ := P_ck_n cnd17
      clear cnd17
      generalize nn v = m at ev hv hQ
      subst ev
      refine ev_aload rfl rfl ?_
      refine ev_getR (c := 12) (j := 0) rfl ?_ (hq := k_221 n)
      refine ev_aload rfl rfl ?_
      refine ev_getR (c := 12) (j := 2) rfl ?_ (hq := k_221 n)
      refine ev_call rfl rfl ?_
      refine c_X12_copyAll (k_222 n) (k_224 n) (by decide) (fun i hi => by rw [am_up_ne (by decide), am_up_ne (by decide), (hz i hi).1, (hz i hi).2.2]) (fun m3 f1 f2 => ?_)
      change am_ev _ _ _ _ [] _ _ _
      refine ev_aload rfl rfl ?_
      refine ev_getR (c := 12) (j := 1) rfl ?_ (hq := k_221 n)
      refine ev_aload rfl rfl ?_
      refine ev_getR (c := 12) (j := 0) rfl ?_ (hq := k_221 n)
      refine ev_call rfl rfl ?_
      refine c_X12_copyAll (k_223 n) (k_222 n) (by decide) (fun i hi => by rw [f1 223 (by decide), f1 222 (by decide), am_up_ne (by decide), am_up_ne (by decide), (hz i hi).1, (hz i hi).2.1]) (fun m4 f3 f4 => ?_)
      change am_ev _ _ _ _ [] _ _ _
      refine ev_iconst (x := nI 0) rfl rfl ?_
      refine ev_istore rfl rfl (Nat.le_of_ble_eq_true rfl) ?_
      refine ev_iconst (x := nI 0) rfl rfl ?_
      refine ev_istore rfl rfl (Nat.le_of_ble_eq_true rfl) ?_
      have e223 : m4 222 = RI := by rw [f4, f1 223 (by decide), am_up_ne (by decide)]; exact hRI
      have e224 : m4 224 = R := by rw [f3 224 (by decide), f2, am_up_ne (by decide)]; exact hR
      refine l_X12_check (mem0 := m4) w m hw60 hv g (by rw [f3 252 (by decide), f1 252 (by decide), am_up_ne (by decide)]; exact hg) (fun i hi => ?_) m m4 RI 0 (Nat.zero_add _) e223 hw hT (by omega) (FrR_refl _) _ (fun m5 h4 h5 => hQ m5 ⟨fun y hy => ?_, fun i hi => ?_⟩ (h5.trans e224))
      · rw [e223, e224, ← hRI, ← hR]; exact ⟨(hz i hi).2.1, (hz i hi).1⟩
      · rw [h4.1 y (by omega), f3 y (by omega), f1 y (by omega)]
      · rw [h5, e224, h4.1 224 (by decide), e224, am_up_ne (by decide), am_up_ne (by decide), ← hR, (hz i hi).1, (hz i hi).2.2]; exact ⟨rfl, rfl⟩
    · skip
      refine ev_iconst (x := (-1000000002)) rfl rfl ?_
      refine ev_iret rfl ?_
      exact hQ2 cnd17 (by rw [am_up_nk (by decide)] at cnd27; exact cnd27)
  · skip
    refine ev_iconst (x := (-1000000001)) rfl rfl ?_
    refine ev_iret rfl ?_
    exact hQ1 cnd17
theorem l_X11_toldRight {d n : Nat} {mem0 : am_M} {Q : am_P} (w m : Nat) (hw9 : w ≤ 60) (hm9 : m ≤ 30) (g : am_R) (r : Nat) : ∀ (mem : am_M) (R : am_R) (k q : Nat) (hk : k + r = m) (hq : q ≤ 2 * k) (hC : CplT 142 R mem) (hd : nn (R 1) + r ≤ 1100) (hf : FrP 142 mem0 mem) (hg : ∀ j, j < w → mem0 195 j = g j) (hQ : ∀ m2 : am_M, FrP 142 mem0 m2 → Q (some (.int (nI (S_chk w g r q R)))) (am_SK n) m2), am_ev kc_X11_toldRight (d + 7) 16 [some (.ref 29), some (.int (nI w)), some (.int (nI m)), some (.int (nI q)), some (.int (nI k))] [] (am_SK n) mem Q := by
  induction r with
  | zero =>
    intro mem R k q hk hq hC hd hf hg hQ
    have hb := wb_all (cp_w hC)
    refine ev_iload rfl rfl ?_
    refine ev_iload rfl rfl ?_
    refine ev_icmp_geN (p2 := 87) rfl rfl (fun cnd19 => ?_) (fun cnd19 => ?_)
    · skip
      refine ev_iload rfl rfl ?_
      refine ev_iret rfl ?_
      exact hQ mem hf
    · omega
  | succ r ih =>
    intro mem R k q hk hq hC hd hf hg hQ
    have hb := wb_all (cp_w hC)
    unfold S_chk at hQ
    refine ev_iload rfl rfl ?_
    refine ev_iload rfl rfl ?_
    refine ev_icmp_geN (p2 := 87) rfl rfl (fun cnd19 => ?_) (fun cnd19 => ?_)
    · omega
    · skip
      refine ev_iload rfl rfl ?_
      refine ev_iload rfl rfl ?_
      refine ev_icmp_geN (p2 := 43) rfl rfl (fun cnd24 => ?_) (fun cnd24 => ?_)
      · skip
        refine ev_iload rfl rfl ?_
        refine ev_iret rfl ?_
        rw [if_neg (show ¬ (q < w ∧ g q = S_sumF (S_da R) (nn (R 5)) 0 (nI 0)) by
          rintro ⟨y1, y2⟩
          first | omega | exact cnd40 y2)] at hQ
        exact hQ mem hf
      · skip
        refine ev_aload rfl rfl ?_
        refine ev_getR (c := 11) (j := 10) rfl ?_ (hq := k_29 n)
        refine ev_iload rfl rfl ?_
        refine ev_ialdN rfl rfl ?_ (hq := k_195 n)
        rw [show mem 195 q = g q by rw [hf 195 (by decide)]; exact hg q (by omega)]
        refine ev_aload rfl rfl ?_
        refine ev_getR (c := 11) (j := 4) rfl ?_ (hq := k_29 n)
        refine ev_callV rfl rfl rfl rfl (Nat.le_of_ble_eq_true rfl) (Nat.le_of_ble_eq_true rfl) ?_ (hq := kt_0 n am_T142)
        refine c_X9_drawnByAll am_T142 hC (fun mem h2 => ?_)
        have hC := cp_fr2 hC am_T142 h2
        have hf := FrP_tr hf (FrP_sc h2)
        change am_ev _ _ _ _ [_, _] _ _ _
        refine ev_icmp_eq (p2 := 45) rfl rfl (fun cnd40 => ?_) (fun cnd40 => ?_)
        · skip
          refine ev_iincN rfl rfl rfl ?_
          refine ev_aload rfl rfl ?_
          refine ev_getR (c := 11) (j := 4) rfl ?_ (hq := k_29 n)
          refine ev_callV rfl rfl rfl rfl (Nat.le_of_ble_eq_true rfl) (Nat.le_of_ble_eq_true rfl) ?_ (hq := kt_0 n am_T142)
          refine c_X9_passHour am_T142 hC (by omega) (fun mem h3 hC2 => ?_)
          have hf := FrP_tr hf h3
          change am_ev _ _ _ _ [] _ _ _
          refine ev_iload rfl rfl ?_
          refine ev_iload rfl rfl ?_
          refine ev_icmp_geN (p2 := 76) rfl rfl (fun cnd57 => ?_) (fun cnd57 => ?_)
          · skip
            refine ev_iload rfl rfl ?_
            refine ev_iret rfl ?_
            rw [if_pos (show q < w ∧ g q = S_sumF (S_da R) (nn (R 5)) 0 (nI 0) from And.intro cnd24 cnd40), if_neg (show ¬ (q + 1 < w ∧ g (q + 1) = S_sumF (S_out (S_hour R)) (nn (S_hour R 5)) 0 (nI 0)) by
              rintro ⟨y1, y2⟩
              first | omega | exact cnd73 y2)] at hQ
            exact hQ mem hf
          · skip
            refine ev_aload rfl rfl ?_
            refine ev_getR (c := 11) (j := 10) rfl ?_ (hq := k_29 n)
            refine ev_iload rfl rfl ?_
            refine ev_ialdN rfl rfl ?_ (hq := k_195 n)
            rw [show mem 195 (q + 1) = g (q + 1) by rw [hf 195 (by decide)]; exact hg (q + 1) (by omega)]
            refine ev_aload rfl rfl ?_
            refine ev_getR (c := 11) (j := 4) rfl ?_ (hq := k_29 n)
            refine ev_callV rfl rfl rfl rfl (Nat.le_of_ble_eq_true rfl) (Nat.le_of_ble_eq_true rfl) ?_ (hq := kt_0 n am_T142)
            refine c_X9_lampsOut am_T142 hC2 (fun mem h2 => ?_)
            have hC2 := cp_fr2 hC2 am_T142 h2
            have hf := FrP_tr hf (FrP_sc h2)
            change am_ev _ _ _ _ [_, _] _ _ _
            refine ev_icmp_eq (p2 := 78) rfl rfl (fun cnd73 => ?_) (fun cnd73 => ?_)
            · skip
              refine ev_iincN rfl rfl rfl ?_
              refine ev_iincN rfl rfl rfl ?_
              refine ev_goto (p2 := 16) rfl rfl ?_
              rw [if_pos (show q < w ∧ g q = S_sumF (S_da R) (nn (R 5)) 0 (nI 0) from And.intro cnd24 cnd40), if_pos (show q + 1 < w ∧ g (q + 1) = S_sumF (S_out (S_hour R)) (nn (S_hour R 5)) 0 (nI 0) from And.intro cnd57 cnd73)] at hQ
              exact ih mem _ (k + 1) (q + 1 + 1) (by omega) (by omega) hC2 (hd1 (cp_w hC) (cp_ts hC) (by decide) hd) hf hg hQ
            · skip
              refine ev_iload rfl rfl ?_
              refine ev_iret rfl ?_
              rw [if_pos (show q < w ∧ g q = S_sumF (S_da R) (nn (R 5)) 0 (nI 0) from And.intro cnd24 cnd40), if_neg (show ¬ (q + 1 < w ∧ g (q + 1) = S_sumF (S_out (S_hour R)) (nn (S_hour R 5)) 0 (nI 0)) by
                rintro ⟨y1, y2⟩
                first | omega | exact cnd73 y2)] at hQ
              exact hQ mem hf
        · skip
          refine ev_iload rfl rfl ?_
          refine ev_iret rfl ?_
          rw [if_neg (show ¬ (q < w ∧ g q = S_sumF (S_da R) (nn (R 5)) 0 (nI 0)) by
            rintro ⟨y1, y2⟩
            first | omega | exact cnd40 y2)] at hQ
          exact hQ mem hf
theorem c_X11_toldRight {d n : Nat} {mem : am_M} {Q : am_P} {R g : am_R} (hC : CplT 104 R mem) (hd : nn (R 1) ≤ 999) (w m : Nat) (hw9 : w ≤ 60) (hm9 : m ≤ 30) (hg : ∀ j, j < w → mem 195 j = g j) (hQ : ∀ m2 : am_M, FrP 142 mem m2 → Q (some (.int (nI (S_chk w g m 0 R)))) (am_SK n) m2) : am_ex (d + 8) 141 [.ref 29, .int (nI w), .int (nI m)] (am_SK n) mem Q := by
  refine ex_in (c0 := kc_X11_toldRight) rfl (L := [some (.ref 29), some (.int (nI w)), some (.int (nI m)), none, none]) rfl ?_
  refine ev_aload rfl rfl ?_
  refine ev_getR (c := 11) (j := 4) rfl ?_ (hq := k_29 n)
  refine ev_aload rfl rfl ?_
  refine ev_getR (c := 11) (j := 3) rfl ?_ (hq := k_29 n)
  refine ev_callV rfl rfl rfl rfl (Nat.le_of_ble_eq_true rfl) (Nat.le_of_ble_eq_true rfl) ?_ (hq := kt_0 n am_T142)
  refine c_X9_become am_T142 am_T104 (by decide) hC (fun m2 f1 hC2 => ?_)
  change am_ev _ _ _ _ [] _ _ _
  refine ev_iconst (x := nI 0) rfl rfl ?_
  refine ev_istore rfl rfl (Nat.le_of_ble_eq_true rfl) ?_
  refine ev_iconst (x := nI 0) rfl rfl ?_
  refine ev_istore rfl rfl (Nat.le_of_ble_eq_true rfl) ?_
  exact l_X11_toldRight w m hw9 hm9 g m m2 R 0 0 (Nat.zero_add _) (by omega) hC2 (by omega) (fun y hy => f1 y (by omega)) hg hQ
theorem S_chk_le (w : Nat) (g : am_R) : ∀ r q R, S_chk w g r q R ≤ q + 2 * r := by
  intro r
  induction r with
  | zero => intro q R; exact Nat.le_refl _
  | succ r ih =>
    intro q R
    unfold S_chk
    split
    · split
      · have := ih (q + 2) (S_hour R); omega
      · omega
    · omega
theorem c_X11_check {d n : Nat} {mem : am_M} {Q : am_P} {RI g : am_R} (hC : ¬ mem 29 5 = 0 → CplT 104 RI mem ∧ nn (RI 1) ≤ 999) (w : Nat) (hw60 : w ≤ 60) (h11 : mem 29 11 = nI w) (hg : ∀ j, j < w → mem 195 j = g j) (v : Int32) (hQ1 : ¬ P_ck v → Q (some (.int S_BAD)) (am_SK n) (am_up mem 29 11 (nI 0))) (hQ2 : P_ck v → mem 29 5 = 0 → Q (some (.int S_NO)) (am_SK n) (am_up mem 29 11 (nI 0))) (hQ : P_ck v → ¬ mem 29 5 = 0 → ∀ m2 : am_M, FrP 142 (am_up mem 29 11 (nI 0)) m2 → Q (some (.int (X_chk w (nn v) (S_chk w g (nn v) 0 RI)))) (am_SK n) m2) : am_ex (d + 9) 122 [.ref 29, .int v] (am_SK n) mem Q := by
  refine ex_in (c0 := kc_X11_check) rfl (L := [some (.ref 29), some (.int v), none, none]) rfl ?_
  refine ev_aload rfl rfl ?_
  refine ev_getI (c := 11) (j := 11) rfl ?_ (hq := k_29 n)
  rw [h11]
  refine ev_istore rfl rfl (Nat.le_of_ble_eq_true rfl) ?_
  refine ev_aload rfl rfl ?_
  refine ev_iconst (x := nI 0) rfl rfl ?_
  refine ev_put (c := 11) (j := 11) rfl ?_ (hq := k_29 n)
  refine ev_iload rfl rfl ?_
  refine ev_iconst (x := nI 1) rfl rfl ?_
  refine ev_icmp_lt (p2 := 21) rfl rfl (fun cnd12 => ?_) (fun cnd12 => ?_)
  · skip
    refine ev_iconst (x := (-1000000001)) rfl rfl ?_
    refine ev_iret rfl ?_
    first
    | exact hQ1 (fun z => nlt_le z.1 cnd12)
    | exact hQ1 (fun z => cnd18 z.2)
  · skip
    refine ev_iload rfl rfl ?_
    refine ev_iconst (x := nI 30) rfl rfl ?_
    refine ev_icmp_le (p2 := 24) rfl rfl (fun cnd18 => ?_) (fun cnd18 => ?_)
    · skip
      have hP : P_ck v := And.intro (le_nlt cnd12) cnd18
      refine ev_aload rfl rfl ?_
      refine ev_getI (c := 11) (j := 5) rfl ?_ (hq := k_29 n)
      refine ev_if_ne (p2 := 35) rfl rfl (fun cnd28 => ?_) (fun cnd28 => ?_)
      · skip
        have h3n : ¬ mem 29 5 = 0 := by rw [am_up_nk (by decide)] at cnd28; exact cnd28
        replace hQ := hQ hP h3n
        obtain ⟨hC4, hd⟩ := hC h3n
        obtain ⟨ev, hv⟩ := P_ck_n hP
        clear cnd12 cnd18 hP
        generalize nn v = m at ev hv hQ
        subst ev
        have hle := S_chk_le w g m 0 RI
        refine ev_aload rfl rfl ?_
        refine ev_iload rfl rfl ?_
        refine ev_iload rfl rfl ?_
        refine ev_call rfl rfl ?_
        refine c_X11_toldRight (g := g) (cp_fr hC4 (fun y hy => am_up_ne (by omega))) hd w m hw60 hv (fun j hj => by rw [am_up_ne (by decide)]; exact hg j hj) (fun m2 h2 => ?_)
        generalize S_chk w g m 0 RI = q at hQ hle ⊢
        change am_ev _ _ _ _ [_] _ _ _
        refine ev_istore rfl rfl (Nat.le_of_ble_eq_true rfl) ?_
        refine ev_iload rfl rfl ?_
        refine ev_iload rfl rfl ?_
        refine ev_icmp_neN (p2 := 58) rfl rfl (fun cnd44 => ?_) (fun cnd44 => ?_)
        · skip
          refine ev_iconst (x := nI 1) rfl rfl ?_
          refine ev_iload rfl rfl ?_
          refine ev_iaddN rfl ?_
          refine ev_iret rfl ?_
          unfold X_chk at hQ
          first
          | (rw [if_pos (And.intro cnd44 cnd51)] at hQ; exact hQ m2 h2)
          | (rw [if_neg (show ¬ (q = w ∧ q = 2 * m) by omega)] at hQ; exact hQ m2 h2)
        · skip
          refine ev_iload rfl rfl ?_
          refine ev_iconst (x := nI 2) rfl rfl ?_
          refine ev_iload rfl rfl ?_
          refine ev_imulN rfl ?_
          refine ev_icmp_neN (p2 := 58) rfl rfl (fun cnd51 => ?_) (fun cnd51 => ?_)
          · skip
            refine ev_iconst (x := nI 1) rfl rfl ?_
            refine ev_iload rfl rfl ?_
            refine ev_iaddN rfl ?_
            refine ev_iret rfl ?_
            unfold X_chk at hQ
            first
            | (rw [if_pos (And.intro cnd44 cnd51)] at hQ; exact hQ m2 h2)
            | (rw [if_neg (show ¬ (q = w ∧ q = 2 * m) by omega)] at hQ; exact hQ m2 h2)
          · skip
            refine ev_iconst (x := nI 0) rfl rfl ?_
            refine ev_goto (p2 := 61) rfl rfl ?_
            refine ev_iret rfl ?_
            unfold X_chk at hQ
            first
            | (rw [if_pos (And.intro cnd44 cnd51)] at hQ; exact hQ m2 h2)
            | (rw [if_neg (show ¬ (q = w ∧ q = 2 * m) by omega)] at hQ; exact hQ m2 h2)
      · skip
        refine ev_iconst (x := (-1000000002)) rfl rfl ?_
        refine ev_iret rfl ?_
        exact hQ2 hP (by rw [am_up_nk (by decide)] at cnd28; exact cnd28)
    · skip
      refine ev_iconst (x := (-1000000001)) rfl rfl ?_
      refine ev_iret rfl ?_
      first
      | exact hQ1 (fun z => nlt_le z.1 cnd12)
      | exact hQ1 (fun z => cnd18 z.2)
theorem Inv_w0 {xs : am_R} {mem : am_M} (hI : Inv xs mem) : Inv xs (am_up (am_up mem 29 11 (nI 0)) 221 43 (nI 0)) := by
  have e : ∀ q, q ≠ 29 → q ≠ 221 → am_up (am_up mem 29 11 (nI 0)) 221 43 (nI 0) q = mem q := fun q h1 h2 => by rw [am_up_ne h2, am_up_ne h1]
  have e29 : ∀ k, k ≠ 11 → am_up (am_up mem 29 11 (nI 0)) 221 43 (nI 0) 29 k = mem 29 k := fun k hk => by rw [am_up_ne (by decide), am_up_nk hk]
  have e221 : ∀ k, k ≠ 43 → am_up (am_up mem 29 11 (nI 0)) 221 43 (nI 0) 221 k = mem 221 k := fun k hk => by rw [am_up_nk hk, am_up_ne (by decide)]
  obtain ⟨i1, ⟨i2, i2b⟩, i3, i4, i5, i6, i7, i8, i9⟩ := hI
  refine ⟨fun q hq => (e q (by omega) (by omega)).trans (i1 q hq), ⟨?_, by rw [e 222 (by decide) (by decide)]; exact i2b⟩, ?_, ?_, ?_, ?_, ?_, ?_, ?_⟩
  · rw [e 222 (by decide) (by decide)]; exact cp_fr i2 (fun q hq => e q (by omega) (by omega))
  · exact I_im_fr i3 (e29 5 (by decide)) (e221 3 (by decide)) (e 223 (by decide) (by decide)) (by rw [e 222 (by decide) (by decide)]; exact Nat.le_refl _) (fun q hq => e q (by omega) (by omega))
  · exact I_tp_fr i4 (by rw [e 62 (by decide) (by decide)]) (e221 6 (by decide)) (e 63 (by decide) (by decide)) (e 226 (by decide) (by decide))
  · exact I_sh_fr i5 (fun q hq => e q (by omega) (by omega))
  · exact I_sl_fr i6 (fun q hq => e q (by omega) (by omega))
  · exact ⟨0, by omega, by rw [am_up_ne (by decide), am_up_eq], by rw [am_up_eq], fun k hk => absurd hk (Nat.not_lt_zero k)⟩
  · rw [e 227 (by decide) (by decide), e 228 (by decide) (by decide)]; exact i8
  · intro i hi; rw [e 222 (by decide) (by decide), e 223 (by decide) (by decide), e 224 (by decide) (by decide)]; exact i9 i hi
theorem pub_check {xs : am_R} {d n : Nat} {mem : am_M} {Q : am_P} (hI : Inv xs mem) (v : Int32) (hQ : ∀ (rv : Int32) (m1 : am_M), RefA xs (d + 200) n 231 [.ref 221, .int v] rv m1 → Q (some (.int rv)) (am_SK n) m1) : am_ex (d + 200) 122 [.ref 29, .int v] (am_SK n) mem Q := by
  obtain ⟨i1, ⟨i2, i2b⟩, i3, i4, i5, i6, i7, i8, i9⟩ := id hI
  obtain ⟨w, hw60, h11, h43, hg⟩ := i7
  have h31 : ¬ mem 221 3 = 0 → mem 221 3 = 1 := fun z => i3.1.2.resolve_left z
  have hIm : ¬ mem 221 3 = 0 → wfR (mem 223) ∧ wfTs (mem 223) ∧ nn (mem 223 1) ≤ 999 := fun z => ⟨cp_w (i3.2 (h31 z)).1, cp_ts (i3.2 (h31 z)).1, (i3.2 (h31 z)).2.1⟩
  have hIw := Inv_w0 hI
  have hcm : am_up (am_up mem 29 11 (nI 0)) 221 43 (nI 0) = am_up (am_up mem 29 11 (nI 0)) 221 43 (nI 0) := rfl
  have hz : ∀ i, 1561 ≤ i → am_up mem 29 11 (nI 0) 222 i = 0 ∧ am_up mem 29 11 (nI 0) 223 i = 0 ∧ am_up mem 29 11 (nI 0) 224 i = 0 := fun i hi => by
    rw [am_up_ne (by decide), am_up_ne (by decide), am_up_ne (by decide)]; exact i9 i hi
  have e221 : am_up mem 29 11 (nI 0) 221 = mem 221 := am_up_ne (by decide)
  refine c_X11_check (RI := mem 223) (g := mem 252) (fun z => ⟨(i3.2 (h31 (by rw [← i3.1.1]; exact z))).1, (i3.2 (h31 (by rw [← i3.1.1]; exact z))).2.1⟩) w hw60 h11 hg v (fun h0 => hQ _ _ (fun Q2 h2 => ?_)) (fun h0 h1 => hQ _ _ (fun Q2 h2 => ?_)) (fun h0 h1 m1 f1 => hQ _ _ (fun Q2 h2 => ?_))
  · exact c_X12_check (R := mem 222) (RI := mem 223) (g := mem 252) (am_up_ne (by decide)) (am_up_ne (by decide)) (am_up_ne (by decide)) w hw60 (by rw [e221]; exact h43) hz (fun z => hIm (by rw [e221] at z; exact z)) v (fun _ => h2 _ hIw) (fun z => absurd z h0) (fun z => absurd z h0)
  · exact c_X12_check (R := mem 222) (RI := mem 223) (g := mem 252) (am_up_ne (by decide)) (am_up_ne (by decide)) (am_up_ne (by decide)) w hw60 (by rw [e221]; exact h43) hz (fun z => hIm (by rw [e221] at z; exact z)) v (fun z => absurd h0 z) (fun _ _ => h2 _ hIw) (fun _ z => absurd (by rw [e221, ← i3.1.1]; exact h1) z)
  · have f0 : ∀ q, ¬ (q = 32 ∨ q = 33 ∨ (142 ≤ q ∧ q ≤ 179)) → q ≠ 29 → m1 q = mem q := fun q hq h => (f1 q (by omega)).trans (am_up_ne h)
    have e3 : m1 221 = mem 221 := f0 221 (by decide) (by decide)
    have h3n : ¬ mem 221 3 = 0 := by rw [← i3.1.1]; exact h1
    refine c_X12_check (R := mem 222) (RI := mem 223) (g := mem 252) (f0 222 (by decide) (by decide)) (f0 223 (by decide) (by decide)) (f0 252 (by decide) (by decide)) w hw60 (by rw [e3]; exact h43) (fun i hi => ?_) (fun _ => hIm h3n) v (fun z => absurd h0 z) (fun _ z => absurd (by rw [← e3]; exact z) h3n) (fun _ _ m2 g1 g2 => h2 _ ?_)
    · rw [f0 222 (by decide) (by decide), f0 223 (by decide) (by decide), f0 224 (by decide) (by decide)]; exact i9 i hi
    · have hFC : FrC (am_up (am_up mem 29 11 (nI 0)) 221 43 (nI 0)) (am_up m1 221 43 (nI 0)) := by
        intro q hq
        by_cases e : q = 221
        · subst e; rw [am_up_row, am_up_row, e3, e221]
        · rw [am_up_ne e, am_up_ne e]; exact f1 q (by omega)
      refine Inv_town (R' := mem 222) hIw hFC ?_ g1 g2 i2b (Or.inl ?_)
      · exact cp_fr i2 (fun q hq => by rw [am_up_ne (by omega)]; exact f0 q (by omega) (by omega))
      · rw [am_up_ne (by decide), am_up_ne (by decide)]; exact Nat.le_refl _
