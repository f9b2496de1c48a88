/-! both sides: fits, check -/
theorem nI_nN {j : Nat} (h : j < 2 ^ 31) : ¬ nI j = -1000000005 := by
  intro z
  have z2 := congrArg Int32.toInt z
  rw [nI_toInt h] at z2
  have z3 : (-1000000005 : Int32).toInt = -1000000005 := rfl
  omega
theorem l_X12_fitsE {d n : Nat} {mem0 mem : am_M} {Q : am_P} {x : Int32} (hz0 : ∀ i, 1561 ≤ i → mem0 222 i = 0 ∧ mem0 224 i = 0) (hf : FrR mem0 mem) (x1 x2 x4 x5 : Option Value) (hQ : ∀ m2 : am_M, FrR mem0 m2 → m2 222 = mem0 224 → Q (some (.int x)) (am_SK n) m2) : am_ev kc_X12_fits (d + 1) 119 [some (.ref 221), x1, x2, some (.int x), x4, x5] [] (am_SK n) mem Q := by
  refine ev_aload rfl rfl ?_
  refine ev_getR (c := 12) (j := 2) rfl ?_ (hq := k_221 n)
  refine ev_aload rfl rfl ?_
  refine ev_getR (c := 12) (j := 0) rfl ?_ (hq := k_221 n)
  refine ev_call rfl rfl ?_
  refine c_X12_copyAll (k_224 n) (k_222 n) (by decide) (fun i hi => by rw [hf.1 224 (by decide), hf.2 i hi, (hz0 i hi).1, (hz0 i hi).2]) (fun m2 f1 f2 => ?_)
  change am_ev _ _ _ _ [] _ _ _
  refine ev_iload rfl rfl ?_
  refine ev_iret rfl ?_
  refine hQ m2 ⟨fun q hq => (f1 q (by omega)).trans (hf.1 q (by omega)), fun i hi => ?_⟩ (f2.trans (hf.1 224 (by decide)))
  rw [f2, hf.1 224 (by decide), (hz0 i hi).1, (hz0 i hi).2]
theorem l_X12_fitsF {d n : Nat} {mem0 mem : am_M} {Q : am_P} {j s k z : Nat} (hj : j < 100) (hs : s < 4) (hk : k < 100) (hz25 : z < 25) (hz1 : mem0 246 s = nI z) (hz0 : ∀ i, 1561 ≤ i → mem0 222 i = 0 ∧ mem0 224 i = 0) (hf : FrR mem0 mem) (x2 x5 : Option Value) (hQ : ∀ m2 : am_M, FrR mem0 m2 → m2 222 = mem0 224 → Q (some (.int (nI j))) (am_SK n) m2) : am_ev kc_X12_fits (d + 1) 49 [some (.ref 221), some (.int (nI s)), x2, some (.int (nI j)), some (.int (nI k)), x5] [] (am_SK n) mem Q := by
  refine ev_iload rfl rfl ?_
  refine ev_aload rfl rfl ?_
  refine ev_getR (c := 12) (j := 36) rfl ?_ (hq := k_221 n)
  refine ev_iload rfl rfl ?_
  refine ev_ialdN rfl rfl ?_ (hq := k_246 n)
  rw [show mem 246 s = nI z by rw [hf.1 246 (by decide)]; exact hz1]
  refine ev_icmp_geN (p2 := 119) rfl rfl (fun cnd57 => ?_) (fun cnd57 => ?_)
  · skip
    exact l_X12_fitsE hz0 hf _ _ _ _ hQ
  · skip
    refine ev_iload rfl rfl ?_
    refine ev_iconst (x := (-1000000005)) rfl rfl ?_
    refine ev_icmp_ne (p2 := 119) rfl rfl (fun cnd64 => ?_) (fun cnd64 => ?_)
    · skip
      exact l_X12_fitsE hz0 hf _ _ _ _ hQ
    · exact absurd cnd64 (nI_nN (by omega))
theorem l_X12_fits {d n : Nat} {mem0 : am_M} {Q : am_P} (s c z : Nat) (hs : s < 4) (hz25 : z < 25) (V : am_R) (hz1 : mem0 246 s = nI z) (hV : ∀ j, j < 24 → mem0 247 (24 * s + j) = V j) (hz0 : ∀ i, 1561 ≤ i → mem0 222 i = 0 ∧ mem0 224 i = 0) (r : Nat) : ∀ (mem : am_M) (R : am_R) (k : Nat) (hk : k + r = z) (hR : mem 222 = R) (hw : wfR R) (hT : wfTs R) (hd : nn (R 1) + r ≤ 1100) (hf : FrR mem0 mem) (x5 : Option Value) (hQ : ∀ m2 : am_M, FrR mem0 m2 → m2 222 = mem0 224 → Q (some (.int (S_fit c V r k R))) (am_SK n) m2), am_ev kc_X12_fits (d + 7) 49 [some (.ref 221), some (.int (nI s)), some (.int (nI c)), some (.int (-1000000005)), some (.int (nI k)), x5] [] (am_SK n) mem Q := by
  induction r with
  | zero =>
    intro mem R k hk hR hw hT hd hf x5 hQ
    have hb := wb_all hw
    refine ev_iload rfl rfl ?_
    refine ev_aload rfl rfl ?_
    refine ev_getR (c := 12) (j := 36) rfl ?_ (hq := k_221 n)
    refine ev_iload rfl rfl ?_
    refine ev_ialdN rfl rfl ?_ (hq := k_246 n)
    rw [show mem 246 s = nI z by rw [hf.1 246 (by decide)]; exact hz1]
    refine ev_icmp_geN (p2 := 119) rfl rfl (fun cnd57 => ?_) (fun cnd57 => ?_)
    · skip
      exact l_X12_fitsE hz0 hf _ _ _ _ hQ
    · omega
  | succ r ih =>
    intro mem R k hk hR hw hT hd hf x5 hQ
    have hb := wb_all hw
    unfold S_fit at hQ
    refine ev_iload rfl rfl ?_
    refine ev_aload rfl rfl ?_
    refine ev_getR (c := 12) (j := 36) rfl ?_ (hq := k_221 n)
    refine ev_iload rfl rfl ?_
    refine ev_ialdN rfl rfl ?_ (hq := k_246 n)
    rw [show mem 246 s = nI z by rw [hf.1 246 (by decide)]; exact hz1]
    refine ev_icmp_geN (p2 := 119) rfl rfl (fun cnd57 => ?_) (fun cnd57 => ?_)
    · omega
    · skip
      refine ev_iload rfl rfl ?_
      refine ev_iconst (x := (-1000000005)) rfl rfl ?_
      refine ev_icmp_ne (p2 := 119) rfl rfl (fun cnd64 => ?_) (fun cnd64 => ?_)
      · exact absurd rfl cnd64
      · skip
        refine ev_aload rfl rfl ?_
        refine ev_getR (c := 12) (j := 37) rfl ?_ (hq := k_221 n)
        refine ev_iconst (x := nI 24) rfl rfl ?_
        refine ev_iload rfl rfl ?_
        refine ev_imulN rfl ?_
        refine ev_iload rfl rfl ?_
        refine ev_iaddN rfl ?_
        refine ev_ialdN rfl rfl ?_ (hq := k_247 n)
        rw [show mem 247 (24 * s + k) = V k by rw [hf.1 247 (by decide)]; exact hV k (by omega)]
        refine ev_istore rfl rfl (Nat.le_of_ble_eq_true rfl) ?_
        refine ev_iload rfl rfl ?_
        refine ev_iconst (x := (-1000000005)) rfl rfl ?_
        refine ev_icmp_eq (p2 := 105) rfl rfl (fun cnd86 => ?_) (fun cnd86 => ?_)
        · skip
          refine ev_iconst (x := (-1000000005)) rfl rfl ?_
          refine ev_istore rfl rfl (Nat.le_of_ble_eq_true rfl) ?_
          refine ev_aload rfl rfl ?_
          refine ev_call rfl rfl ?_
          refine c_X12_anHour hR hw hT (fun mem h3 hR2 => ?_)
          have hf := FrR_tr hf h3
          have hwf := wf_hour hw hT (by omega)
          change am_ev _ _ _ _ [] _ _ _
          refine ev_iincN rfl rfl rfl ?_
          refine ev_goto (p2 := 49) rfl rfl ?_
          first
          | (rw [if_pos (show ¬ V k = S_NONE ∧ ¬ V k = S_drawn R (nI c) (nI 1) from And.intro cnd86 cnd97)] at hQ
             exact l_X12_fitsF (by omega) hs (by omega) hz25 hz1 hz0 hf _ _ hQ)
          | (rw [if_neg (show ¬ (¬ V k = S_NONE ∧ ¬ V k = S_drawn R (nI c) (nI 1)) from fun y => y.1 cnd86)] at hQ
             exact ih mem _ (k + 1) (by omega) hR2 hwf.1 hwf.2 (hd1 hw hT (by decide) hd) hf _ hQ)
          | (rw [if_neg (show ¬ (¬ V k = S_NONE ∧ ¬ V k = S_drawn R (nI c) (nI 1)) from fun y => y.2 cnd97)] at hQ
             exact ih mem _ (k + 1) (by omega) hR2 hwf.1 hwf.2 (hd1 hw hT (by decide) hd) hf _ hQ)
        · skip
          refine ev_iload rfl rfl ?_
          refine ev_aload rfl rfl ?_
          refine ev_iload rfl rfl ?_
          refine ev_iconst (x := nI 1) rfl rfl ?_
          refine ev_call rfl rfl ?_
          refine r_drawnBy hR hw hT _ _ (fun mem h2 => ?_)
          have hR := (h2 222 (by decide) (by decide)).trans hR
          have hf := FrR_tr hf (FrR_sc h2)
          change am_ev _ _ _ _ [_, _] _ _ _
          refine ev_icmp_eq (p2 := 105) rfl rfl (fun cnd97 => ?_) (fun cnd97 => ?_)
          · skip
            refine ev_iconst (x := (-1000000005)) rfl rfl ?_
            refine ev_istore rfl rfl (Nat.le_of_ble_eq_true rfl) ?_
            refine ev_aload rfl rfl ?_
            refine ev_call rfl rfl ?_
            refine c_X12_anHour hR hw hT (fun mem h3 hR2 => ?_)
            have hf := FrR_tr hf h3
            have hwf := wf_hour hw hT (by omega)
            change am_ev _ _ _ _ [] _ _ _
            refine ev_iincN rfl rfl rfl ?_
            refine ev_goto (p2 := 49) rfl rfl ?_
            first
            | (rw [if_pos (show ¬ V k = S_NONE ∧ ¬ V k = S_drawn R (nI c) (nI 1) from And.intro cnd86 cnd97)] at hQ
               exact l_X12_fitsF (by omega) hs (by omega) hz25 hz1 hz0 hf _ _ hQ)
            | (rw [if_neg (show ¬ (¬ V k = S_NONE ∧ ¬ V k = S_drawn R (nI c) (nI 1)) from fun y => y.1 cnd86)] at hQ
               exact ih mem _ (k + 1) (by omega) hR2 hwf.1 hwf.2 (hd1 hw hT (by decide) hd) hf _ hQ)
            | (rw [if_neg (show ¬ (¬ V k = S_NONE ∧ ¬ V k = S_drawn R (nI c) (nI 1)) from fun y => y.2 cnd97)] at hQ
               exact ih mem _ (k + 1) (by omega) hR2 hwf.1 hwf.2 (hd1 hw hT (by decide) hd) hf _ hQ)
          · skip
            refine ev_iload rfl rfl ?_
            refine ev_goto (p2 := 108) rfl rfl ?_
            refine ev_istore rfl rfl (Nat.le_of_ble_eq_true rfl) ?_
            refine ev_aload rfl rfl ?_
            refine ev_call rfl rfl ?_
            refine c_X12_anHour hR hw hT (fun mem h3 hR2 => ?_)
            have hf := FrR_tr hf h3
            have hwf := wf_hour hw hT (by omega)
            change am_ev _ _ _ _ [] _ _ _
            refine ev_iincN rfl rfl rfl ?_
            refine ev_goto (p2 := 49) rfl rfl ?_
            first
            | (rw [if_pos (show ¬ V k = S_NONE ∧ ¬ V k = S_drawn R (nI c) (nI 1) from And.intro cnd86 cnd97)] at hQ
               exact l_X12_fitsF (by omega) hs (by omega) hz25 hz1 hz0 hf _ _ hQ)
            | (rw [if_neg (show ¬ (¬ V k = S_NONE ∧ ¬ V k = S_drawn R (nI c) (nI 1)) from fun y => y.1 cnd86)] at hQ
               exact ih mem _ (k + 1) (by omega) hR2 hwf.1 hwf.2 (hd1 hw hT (by decide) hd) hf _ hQ)
            | (rw [if_neg (show ¬ (¬ V k = S_NONE ∧ ¬ V k = S_drawn R (nI c) (nI 1)) from fun y => y.2 cnd97)] at hQ
               exact ih mem _ (k + 1) (by omega) hR2 hwf.1 hwf.2 (hd1 hw hT (by decide) hd) hf _ hQ)
theorem c_X12_fits {d n : Nat} {mem : am_M} {Q : am_P} {R S Z C : am_R} (hR : mem 222 = R) (hw : wfR R) (hT : wfTs R) (hd : nn (R 1) ≤ 999) (hS : mem 245 = S) (hZ : mem 246 = Z) (hCl : mem 247 = C) (h3 : ∀ c, c < 4 → (S c = -1 ∨ S c = 0 ∨ S c = 1)) (hZ2 : ∀ c, c < 4 → isN (Z c) 25) (hz : ∀ i, 1561 ≤ i → mem 222 i = 0 ∧ mem 224 i = 0) (s p : Int32) (hQ : ∀ m2 : am_M, FrR4 mem m2 → m2 222 = R → Q (some (.int (X_fits R S Z C s p))) (am_SK n) m2) : am_ex (d + 8) 223 [.ref 221, .int s, .int p] (am_SK n) mem Q := by
  have hb := wb_all hw
  unfold X_fits at hQ
  refine ex_in (c0 := kc_X12_fits) rfl (L := [some (.ref 221), some (.int s), some (.int p), none, none, none]) rfl ?_
  refine ev_iload rfl rfl ?_
  refine ev_call rfl rfl ?_
  refine c_X12_isSheet _ ?_
  change am_ev _ _ _ _ [_] _ _ _
  refine ev_if_eqB (p2 := 15) rfl rfl (fun cnd4 => ?_) (fun cnd4 => ?_)
  · skip
    refine ev_iconst (x := (-1000000001)) rfl rfl ?_
    refine ev_iret rfl ?_
    first
    | (rw [if_neg (fun z => cnd4 z.1)] at hQ; exact hQ mem (FrR_4 (FrR_refl _)) hR)
    | (rw [if_neg (fun z => cnd12 z.2)] at hQ; exact hQ mem (FrR_4 (FrR_refl _)) hR)
  · skip
    refine ev_aload rfl rfl ?_
    refine ev_iload rfl rfl ?_
    refine ev_call rfl rfl ?_
    refine r_isCab hR _ ?_
    change am_ev _ _ _ _ [_] _ _ _
    refine ev_if_neB (p2 := 18) rfl rfl (fun cnd12 => ?_) (fun cnd12 => ?_)
    · skip
      rw [if_pos (show P_sh s ∧ P_i p (R 3) from And.intro cnd4 cnd12)] at hQ
      obtain ⟨es, hs⟩ := am_rng (by decide) cnd4
      obtain ⟨ep, hp⟩ := am_idx (wr3 hw) (by omega) cnd12
      clear cnd4 cnd12
      generalize nn s = c at es hs hQ
      generalize nn p = q at ep hp hQ
      subst es
      subst ep
      refine ev_aload rfl rfl ?_
      refine ev_getR (c := 12) (j := 35) rfl ?_ (hq := k_221 n)
      refine ev_iload rfl rfl ?_
      refine ev_ialdN rfl rfl ?_ (hq := k_245 n)
      rw [congrFun hS c]
      refine ev_if_ge (p2 := 31) rfl rfl (fun cnd24 => ?_) (fun cnd24 => ?_)
      · skip
        refine ev_aload rfl rfl ?_
        refine ev_getR (c := 12) (j := 0) rfl ?_ (hq := k_221 n)
        refine ev_aload rfl rfl ?_
        refine ev_getR (c := 12) (j := 2) rfl ?_ (hq := k_221 n)
        refine ev_call rfl rfl ?_
        refine c_X12_copyAll (k_222 n) (k_224 n) (by decide) (fun i hi => by rw [(hz i hi).1, (hz i hi).2]) (fun m2 f1 f2 => ?_)
        change am_ev _ _ _ _ [] _ _ _
        refine ev_iconst (x := (-1000000005)) rfl rfl ?_
        refine ev_istore rfl rfl (Nat.le_of_ble_eq_true rfl) ?_
        refine ev_iconst (x := nI 0) rfl rfl ?_
        refine ev_istore rfl rfl (Nat.le_of_ble_eq_true rfl) ?_
        rw [if_neg ((s3_ge (h3 c (by omega))).mp cnd24)] at hQ
        have hz9 := hZ2 c (by omega)
        refine l_X12_fits (mem0 := m2) c q (nn (Z c)) (by omega) hz9.2 (fun k => C (24 * c + k)) (by rw [f1 246 (by decide), hZ]; exact hz9.1) (fun j hj => by rw [f1 247 (by decide), hCl]) (fun i hi => by rw [f2, f1 222 (by decide)]; exact ⟨(hz i hi).1, (hz i hi).1⟩) (nn (Z c)) m2 R 0 (Nat.zero_add _) (by rw [f1 222 (by decide)]; exact hR) hw hT (by have := hz9.2; omega) (FrR_refl _) _ (fun m3 h4 h5 => hQ m3 ⟨fun y hy => (h4.1 y (by omega)).trans (f1 y (by omega)), fun i hi => ?_⟩ (by rw [h5, f2]; exact hR))
        rw [h4.2 i hi, f1 222 (by decide), h4.1 224 (by decide), f2, (hz i hi).1, (hz i hi).2]
        exact ⟨rfl, rfl⟩
      · skip
        refine ev_iconst (x := (-1000000011)) rfl rfl ?_
        refine ev_iret rfl ?_
        rw [if_pos (Decidable.not_not.mp (fun z => cnd24 ((s3_ge (h3 c (by omega))).mpr z)))] at hQ
        exact hQ mem (FrR_4 (FrR_refl _)) hR
    · skip
      refine ev_iconst (x := (-1000000001)) rfl rfl ?_
      refine ev_iret rfl ?_
      first
      | (rw [if_neg (fun z => cnd4 z.1)] at hQ; exact hQ mem (FrR_4 (FrR_refl _)) hR)
      | (rw [if_neg (fun z => cnd12 z.2)] at hQ; exact hQ mem (FrR_4 (FrR_refl _)) hR)
theorem pub_fits {xs : am_R} {d n : Nat} {mem : am_M} {Q : am_P} (hI : Inv xs mem) (s : Int32) (p : Int32) (hQ : ∀ (rv : Int32) (m1 : am_M), RefA xs (d + 200) n 223 [.ref 221, .int s, .int p] rv m1 → Q (some (.int rv)) (am_SK n) m1) : am_ex (d + 200) 115 [.ref 29, .int s, .int p] (am_SK n) mem Q := by
  have hC := hI.2.1.1
  have hw := cp_w hC
  have hT := cp_ts hC
  have hsh := hI.2.2.2.2.1
  have hz := hI.2.2.2.2.2.2.2.2
  refine c_X11_fits hC hsh hI.2.1.2 s p (fun m1 f1 hC1 => hQ _ _ (fun Q2 h2 => ?_))
  refine c_X12_fits (f1 222 (by decide)) hw hT hI.2.1.2 (f1 245 (by decide)) (f1 246 (by decide)) (f1 247 (by decide)) (fun c hc => (hsh c hc).1.2) (fun c hc => (hsh c hc).2.1.2) (fun i hi => ?_) s p (fun m2 g1 g2 => h2 _ ?_)
  · rw [f1 222 (by decide), f1 224 (by decide)]; exact ⟨(hz i hi).1, (hz i hi).2.2⟩
  · exact Inv_town hI f1 hC1 g1 g2 hI.2.1.2 (Or.inl (Nat.le_refl _))
def S_chk (w : Nat) (g : am_R) : Nat → Nat → am_R → Nat
  | 0, q, _ => q
  | r + 1, q, R => if q < w ∧ g q = S_sumF (S_da R) (nn (R 5)) 0 (nI 0) then (if q + 1 < w ∧ g (q + 1) = S_sumF (S_out (S_hour R)) (nn (S_hour R 5)) 0 (nI 0) then S_chk w g r (q + 2) (S_hour R) else q + 1) else q
def X_chk (w m q : Nat) : Int32 := if q = w ∧ q = 2 * m then nI 0 else nI (1 + q)
abbrev P_ck (v : Int32) : Prop := nI 1 ≤ v ∧ v ≤ nI 30
theorem P_ck_n {v : Int32} (h : P_ck v) : v = nI (nn v) ∧ nn v ≤ 30 := by
  have t1 : (nI 1).toInt = 1 := rfl
  have t0 : (nI 0).toInt = 0 := rfl
  obtain ⟨h1, h2⟩ := h
  have h0 : nI 0 ≤ v := by rw [Int32.le_iff_toInt_le] at h1 ⊢; omega
  exact am_rng (by decide) (And.intro h0 h2)
theorem S_sum3 (f0 f1 f2 fa : Nat → Int32) : ∀ r k a b c, (∀ l, k ≤ l → l < k + r → f0 l + f1 l + f2 l = fa l) → S_sumF f0 r k a + S_sumF f1 r k b + S_sumF f2 r k c = S_sumF fa r k (a + b + c) := by
  intro r
  induction r with
  | zero => intro k a b c _; rfl
  | succ r ih =>
    intro k a b c h
    unfold S_sumF
    rw [ih _ _ _ _ (fun l h1 h2 => h l (by omega) (by omega)), ← h k (Nat.le_refl _) (by omega)]
    congr 1
    ac_rfl
theorem S_drawn3 {R : am_R} (hw : wfR R) : S_drawn R (nI 0) (nI 1) + S_drawn R (nI 1) (nI 1) + S_drawn R (nI 2) (nI 1) = S_sumF (S_da R) (nn (R 5)) 0 (nI 0) := by
  have hb := wb_all hw
  unfold S_drawn
  rw [S_sum3 _ _ _ (S_da R) (nn (R 5)) 0 (nI 0) (nI 0) (nI 0)]
  · rfl
  intro l _ hl
  have hj := (hw.2.2.2.2.1 l (by omega)).2.1.2
  have hc := S_cab_lt hw _ hj
  unfold S_dr S_da
  generalize S_cab R (nn (R (77 + 7 * l + 1))) = c at hc
  by_cases hbn : S_burns R l = true
  · have h2 := S_burns_iff.mp hbn
    rw [if_pos hbn]
    rcases (show c = 0 ∨ c = 1 ∨ c = 2 by omega) with rfl | rfl | rfl
    · rw [if_pos ⟨rfl, h2.1, Or.inr h2.2⟩, if_neg (fun z => absurd z.1 (by decide)), if_neg (fun z => absurd z.1 (by decide)), am_add0, am_add0]
    · rw [if_neg (fun z => absurd z.1 (by decide)), if_pos ⟨rfl, h2.1, Or.inr h2.2⟩, if_neg (fun z => absurd z.1 (by decide)), am_add0, Int32.add_comm, am_add0]
    · rw [if_neg (fun z => absurd z.1 (by decide)), if_neg (fun z => absurd z.1 (by decide)), if_pos ⟨rfl, h2.1, Or.inr h2.2⟩, am_add0, Int32.add_comm, am_add0]
  · have hn : ∀ x : Int32, ¬ (nI c = x ∧ S_should R l = true ∧ (nI 1 = 0 ∨ S_fed R l = true)) := by
      rintro x ⟨-, z2, z3⟩
      rcases z3 with z3 | z3
      · exact absurd z3 (by decide)
      · exact hbn (S_burns_iff.mpr ⟨z2, z3⟩)
    rw [if_neg hbn, if_neg (hn _), if_neg (hn _), if_neg (hn _)]
    rfl
set_option maxRecDepth 4000 in
theorem l_X12_checkE {d n : Nat} {mem0 mem : am_M} {Q : am_P} {w m q : Nat} (hw9 : w < 1000) (hm9 : m < 1000) (hq9 : q < 1000) (hz0 : ∀ i, 1561 ≤ i → mem0 222 i = 0 ∧ mem0 224 i = 0) (hf : FrR mem0 mem) (x4 x5 : Option Value) (hQ : ∀ m2 : am_M, FrR mem0 m2 → m2 222 = mem0 224 → Q (some (.int (X_chk w m q))) (am_SK n) m2) : am_ev kc_X12_check (d + 1) 167 [some (.ref 221), some (.int (nI m)), some (.int (nI w)), some (.int (nI q)), x4, x5] [] (am_SK n) mem Q := by
  unfold X_chk at hQ
  refine ev_aload rfl rfl ?_
  refine ev_getR (c := 12) (j := 2) rfl ?_ (hq := k_221 n)
  refine ev_aload rfl rfl ?_
  refine ev_getR (c := 12) (j := 0) rfl ?_ (hq := k_221 n)
  refine ev_call rfl rfl ?_
  refine c_X12_copyAll (k_224 n) (k_222 n) (by decide) (fun i hi => by rw [hf.1 224 (by decide), hf.2 i hi, (hz0 i hi).1, (hz0 i hi).2]) (fun m2 f1 f2 => ?_)
  change am_ev _ _ _ _ [] _ _ _
  refine ev_iload rfl rfl ?_
  refine ev_iload rfl rfl ?_
  refine ev_icmp_neN (p2 := 194) rfl rfl (fun cnd180 => ?_) (fun cnd180 => ?_)
  · skip
    refine ev_iconst (x := nI 1) rfl rfl ?_
    refine ev_iload rfl rfl ?_
    refine ev_iaddN rfl ?_
    refine ev_iret rfl ?_
    first
    | (rw [if_pos (And.intro cnd180 cnd187)] at hQ; refine hQ m2 ⟨fun q hq => (f1 q (by omega)).trans (hf.1 q (by omega)), fun i hi => ?_⟩ (f2.trans (hf.1 224 (by decide))); rw [f2, hf.1 224 (by decide), (hz0 i hi).1, (hz0 i hi).2])
    | (rw [if_neg (show ¬ (q = w ∧ q = 2 * m) by omega)] at hQ; refine hQ m2 ⟨fun q hq => (f1 q (by omega)).trans (hf.1 q (by omega)), fun i hi => ?_⟩ (f2.trans (hf.1 224 (by decide))); rw [f2, hf.1 224 (by decide), (hz0 i hi).1, (hz0 i hi).2])
  · skip
    refine ev_iload rfl rfl ?_
    refine ev_iconst (x := nI 2) rfl rfl ?_
    refine ev_iload rfl rfl ?_
    refine ev_imulN rfl ?_
    refine ev_icmp_neN (p2 := 194) rfl rfl (fun cnd187 => ?_) (fun cnd187 => ?_)
    · skip
      refine ev_iconst (x := nI 1) rfl rfl ?_
      refine ev_iload rfl rfl ?_
      refine ev_iaddN rfl ?_
      refine ev_iret rfl ?_
      first
      | (rw [if_pos (And.intro cnd180 cnd187)] at hQ; refine hQ m2 ⟨fun q hq => (f1 q (by omega)).trans (hf.1 q (by omega)), fun i hi => ?_⟩ (f2.trans (hf.1 224 (by decide))); rw [f2, hf.1 224 (by decide), (hz0 i hi).1, (hz0 i hi).2])
      | (rw [if_neg (show ¬ (q = w ∧ q = 2 * m) by omega)] at hQ; refine hQ m2 ⟨fun q hq => (f1 q (by omega)).trans (hf.1 q (by omega)), fun i hi => ?_⟩ (f2.trans (hf.1 224 (by decide))); rw [f2, hf.1 224 (by decide), (hz0 i hi).1, (hz0 i hi).2])
    · skip
      refine ev_iconst (x := nI 0) rfl rfl ?_
      refine ev_goto (p2 := 197) rfl rfl ?_
      refine ev_iret rfl ?_
      first
      | (rw [if_pos (And.intro cnd180 cnd187)] at hQ; refine hQ m2 ⟨fun q hq => (f1 q (by omega)).trans (hf.1 q (by omega)), fun i hi => ?_⟩ (f2.trans (hf.1 224 (by decide))); rw [f2, hf.1 224 (by decide), (hz0 i hi).1, (hz0 i hi).2])
      | (rw [if_neg (show ¬ (q = w ∧ q = 2 * m) by omega)] at hQ; refine hQ m2 ⟨fun q hq => (f1 q (by omega)).trans (hf.1 q (by omega)), fun i hi => ?_⟩ (f2.trans (hf.1 224 (by decide))); rw [f2, hf.1 224 (by decide), (hz0 i hi).1, (hz0 i hi).2])
theorem l_X12_checkX {d n : Nat} {mem0 mem : am_M} {Q : am_P} {w m q k : Nat} (hw9 : w < 1000) (hm9 : m < 1000) (hq9 : q < 1000) (hk9 : k < 400) (hne : ¬ q = 2 * k) (hz0 : ∀ i, 1561 ≤ i → mem0 222 i = 0 ∧ mem0 224 i = 0) (hf : FrR mem0 mem) (x5 : Option Value) (hQ : ∀ m2 : am_M, FrR mem0 m2 → m2 222 = mem0 224 → Q (some (.int (X_chk w m q))) (am_SK n) m2) : am_ev kc_X12_check (d + 1) 61 [some (.ref 221), some (.int (nI m)), some (.int (nI w)), some (.int (nI q)), some (.int (nI k)), x5] [] (am_SK n) mem Q := by
  refine ev_iload rfl rfl ?_
  refine ev_iload rfl rfl ?_
  refine ev_icmp_geN (p2 := 167) rfl rfl (fun cnd64 => ?_) (fun cnd64 => ?_)
  · skip
    exact l_X12_checkE hw9 hm9 hq9 hz0 hf _ _ hQ
  · skip
    refine ev_iload rfl rfl ?_
    refine ev_iconst (x := nI 2) rfl rfl ?_
    refine ev_iload rfl rfl ?_
    refine ev_imulN rfl ?_
    refine ev_icmp_neN (p2 := 167) rfl rfl (fun cnd72 => ?_) (fun cnd72 => ?_)
    · skip
      exact l_X12_checkE hw9 hm9 hq9 hz0 hf _ _ hQ
    · omega
theorem l_X12_check {d n : Nat} {mem0 : am_M} {Q : am_P} (w m : Nat) (hw9 : w ≤ 60) (hm9 : m ≤ 30) (g : am_R) (hg : mem0 252 = g) (hz0 : ∀ i, 1561 ≤ i → mem0 222 i = 0 ∧ mem0 224 i = 0) (r : Nat) : ∀ (mem : am_M) (R : am_R) (k : Nat) (hk : k + r = m) (hR : mem 222 = R) (hw : wfR R) (hT : wfTs R) (hd : nn (R 1) + r ≤ 1100) (hf : FrR mem0 mem) (x5 : Option Value) (hQ : ∀ m2 : am_M, FrR mem0 m2 → m2 222 = mem0 224 → Q (some (.int (X_chk w m (S_chk w g r (2 * k) R)))) (am_SK n) m2), am_ev kc_X12_check (d + 8) 61 [some (.ref 221), some (.int (nI m)), some (.int (nI w)), some (.int (nI (2 * k))), some (.int (nI k)), x5] [] (am_SK n) mem Q := by
  induction r with
  | zero =>
    intro mem R k hk hR hw hT hd hf x5 hQ
    have hb := wb_all hw
    refine ev_iload rfl rfl ?_
    refine ev_iload rfl rfl ?_
    refine ev_icmp_geN (p2 := 167) rfl rfl (fun cnd64 => ?_) (fun cnd64 => ?_)
    · skip
      exact l_X12_checkE (by omega) (by omega) (by omega) hz0 hf _ _ hQ
    · omega
  | succ r ih =>
    intro mem R k hk hR hw hT hd hf x5 hQ
    have hb := wb_all hw
    unfold S_chk at hQ
    refine ev_iload rfl rfl ?_
    refine ev_iload rfl rfl ?_
    refine ev_icmp_geN (p2 := 167) rfl rfl (fun cnd64 => ?_) (fun cnd64 => ?_)
    · omega
    · skip
      refine ev_iload rfl rfl ?_
      refine ev_iconst (x := nI 2) rfl rfl ?_
      refine ev_iload rfl rfl ?_
      refine ev_imulN rfl ?_
      refine ev_icmp_neN (p2 := 167) rfl rfl (fun cnd72 => ?_) (fun cnd72 => ?_)
      · omega
      · skip
        refine ev_aload rfl rfl ?_
        refine ev_iconst (x := nI 0) rfl rfl ?_
        refine ev_iconst (x := nI 1) rfl rfl ?_
        refine ev_call rfl rfl ?_
        refine r_drawnBy hR hw hT _ _ (fun mem h2 => ?_)
        have hR := (h2 222 (by decide) (by decide)).trans hR
        have hf := FrR_tr hf (FrR_sc h2)
        change am_ev _ _ _ _ [_] _ _ _
        refine ev_aload rfl rfl ?_
        refine ev_iconst (x := nI 1) rfl rfl ?_
        refine ev_iconst (x := nI 1) rfl rfl ?_
        refine ev_call rfl rfl ?_
        refine r_drawnBy hR hw hT _ _ (fun mem h2 => ?_)
        have hR := (h2 222 (by decide) (by decide)).trans hR
        have hf := FrR_tr hf (FrR_sc h2)
        change am_ev _ _ _ _ [_, _] _ _ _
        refine ev_iadd rfl ?_
        refine ev_aload rfl rfl ?_
        refine ev_iconst (x := nI 2) rfl rfl ?_
        refine ev_iconst (x := nI 1) rfl rfl ?_
        refine ev_call rfl rfl ?_
        refine r_drawnBy hR hw hT _ _ (fun mem h2 => ?_)
        have hR := (h2 222 (by decide) (by decide)).trans hR
        have hf := FrR_tr hf (FrR_sc h2)
        change am_ev _ _ _ _ [_, _] _ _ _
        refine ev_iadd rfl ?_
        refine ev_istore rfl rfl (Nat.le_of_ble_eq_true rfl) ?_
        refine ev_aload rfl rfl ?_
        refine ev_call rfl rfl ?_
        refine c_X12_anHour hR hw hT (fun mem h3 hR => ?_)
        have hf := FrR_tr hf h3
        have hwf := wf_hour hw hT (by omega)
        rw [S_drawn3 hw]
        change am_ev _ _ _ _ [] _ _ _
        refine ev_iload rfl rfl ?_
        refine ev_iload rfl rfl ?_
        refine ev_iload rfl rfl ?_
        refine ev_icmp_geN (p2 := 122) rfl rfl (fun cnd104 => ?_) (fun cnd104 => ?_)
        · skip
          refine ev_iconst (x := nI 0) rfl rfl ?_
          refine ev_iaddN rfl ?_
          refine ev_istore rfl rfl (Nat.le_of_ble_eq_true rfl) ?_
          refine ev_iload rfl rfl ?_
          refine ev_iload rfl rfl ?_
          refine ev_iconst (x := nI 2) rfl rfl ?_
          refine ev_iload rfl rfl ?_
          refine ev_imulN rfl ?_
          refine ev_iconst (x := nI 1) rfl rfl ?_
          refine ev_iaddN rfl ?_
          refine ev_icmp_neN (p2 := 158) rfl rfl (fun cnd133 => ?_) (fun cnd133 => ?_)
          · skip
            refine ev_iconst (x := nI 0) rfl rfl ?_
            refine ev_iaddN rfl ?_
            refine ev_istore rfl rfl (Nat.le_of_ble_eq_true rfl) ?_
            refine ev_iincN rfl rfl rfl ?_
            refine ev_goto (p2 := 61) rfl rfl ?_
            first
            | (exfalso; omega)
            | (rw [if_pos (show 2 * k < w ∧ g (2 * k) = _ from And.intro cnd104 cnd115), if_pos (show 2 * k + 1 < w ∧ g (2 * k + 1) = _ from And.intro cnd138 cnd151)] at hQ
               exact ih mem _ (k + 1) (by omega) hR hwf.1 hwf.2 (hd1 hw hT (by decide) hd) hf _ hQ)
            | (rw [if_pos (show 2 * k < w ∧ g (2 * k) = _ from And.intro cnd104 cnd115), if_neg (show ¬ (2 * k + 1 < w ∧ g (2 * k + 1) = _) from fun y => cnd151 y.2)] at hQ
               exact l_X12_checkX (by omega) (by omega) (by omega) (by omega) (by omega) hz0 hf _ hQ)
            | (rw [if_pos (show 2 * k < w ∧ g (2 * k) = _ from And.intro cnd104 cnd115), if_neg (show ¬ (2 * k + 1 < w ∧ g (2 * k + 1) = S_sumF (S_out (S_hour R)) (nn (S_hour R 5)) 0 (nI 0)) from fun y => absurd y.1 (Nat.not_lt.mpr cnd138))] at hQ
               exact l_X12_checkX (by omega) (by omega) (by omega) (by omega) (by omega) hz0 hf _ hQ)
            | (rw [if_neg (show ¬ (2 * k < w ∧ g (2 * k) = S_sumF (S_da R) (nn (R 5)) 0 (nI 0)) from fun y => cnd115 y.2)] at hQ
               exact l_X12_checkX (by omega) (by omega) (by omega) (by omega) (by omega) hz0 hf _ hQ)
            | (rw [if_neg (show ¬ (2 * k < w ∧ g (2 * k) = S_sumF (S_da R) (nn (R 5)) 0 (nI 0)) from fun y => absurd y.1 (Nat.not_lt.mpr cnd104))] at hQ
               exact l_X12_checkX (by omega) (by omega) (by omega) (by omega) (by omega) hz0 hf _ hQ)
          · skip
            refine ev_iload rfl rfl ?_
            refine ev_iload rfl rfl ?_
            refine ev_icmp_geN (p2 := 158) rfl rfl (fun cnd138 => ?_) (fun cnd138 => ?_)
            · skip
              refine ev_iconst (x := nI 0) rfl rfl ?_
              refine ev_iaddN rfl ?_
              refine ev_istore rfl rfl (Nat.le_of_ble_eq_true rfl) ?_
              refine ev_iincN rfl rfl rfl ?_
              refine ev_goto (p2 := 61) rfl rfl ?_
              first
              | (exfalso; omega)
              | (rw [if_pos (show 2 * k < w ∧ g (2 * k) = _ from And.intro cnd104 cnd115), if_pos (show 2 * k + 1 < w ∧ g (2 * k + 1) = _ from And.intro cnd138 cnd151)] at hQ
                 exact ih mem _ (k + 1) (by omega) hR hwf.1 hwf.2 (hd1 hw hT (by decide) hd) hf _ hQ)
              | (rw [if_pos (show 2 * k < w ∧ g (2 * k) = _ from And.intro cnd104 cnd115), if_neg (show ¬ (2 * k + 1 < w ∧ g (2 * k + 1) = _) from fun y => cnd151 y.2)] at hQ
                 exact l_X12_checkX (by omega) (by omega) (by omega) (by omega) (by omega) hz0 hf _ hQ)
              | (rw [if_pos (show 2 * k < w ∧ g (2 * k) = _ from And.intro cnd104 cnd115), if_neg (show ¬ (2 * k + 1 < w ∧ g (2 * k + 1) = S_sumF (S_out (S_hour R)) (nn (S_hour R 5)) 0 (nI 0)) from fun y => absurd y.1 (Nat.not_lt.mpr cnd138))] at hQ
                 exact l_X12_checkX (by omega) (by omega) (by omega) (by omega) (by omega) hz0 hf _ hQ)
              | (rw [if_neg (show ¬ (2 * k < w ∧ g (2 * k) = S_sumF (S_da R) (nn (R 5)) 0 (nI 0)) from fun y => cnd115 y.2)] at hQ
                 exact l_X12_checkX (by omega) (by omega) (by omega) (by omega) (by omega) hz0 hf _ hQ)
              | (rw [if_neg (show ¬ (2 * k < w ∧ g (2 * k) = S_sumF (S_da R) (nn (R 5)) 0 (nI 0)) from fun y => absurd y.1 (Nat.not_lt.mpr cnd104))] at hQ
                 exact l_X12_checkX (by omega) (by omega) (by omega) (by omega) (by omega) hz0 hf _ hQ)
            · skip
              refine ev_aload rfl rfl ?_
              refine ev_getR (c := 12) (j := 42) rfl ?_ (hq := k_221 n)
              refine ev_iload rfl rfl ?_
              refine ev_ialdN rfl rfl ?_ (hq := k_252 n)
              rw [show mem 252 (2 * k + 0) = g (2 * k + 0) by rw [hf.1 252 (by decide), hg]]
              refine ev_aload rfl rfl ?_
              refine ev_call rfl rfl ?_
              refine r_outMany hR hwf.1 hwf.2 (fun mem h2 => ?_)
              have hR := (h2 222 (by decide) (by decide)).trans hR
              have hf := FrR_tr hf (FrR_sc h2)
              change am_ev _ _ _ _ [_, _, _] _ _ _
              refine ev_icmp_ne (p2 := 158) rfl rfl (fun cnd151 => ?_) (fun cnd151 => ?_)
              · skip
                refine ev_iconst (x := nI 0) rfl rfl ?_
                refine ev_iaddN rfl ?_
                refine ev_istore rfl rfl (Nat.le_of_ble_eq_true rfl) ?_
                refine ev_iincN rfl rfl rfl ?_
                refine ev_goto (p2 := 61) rfl rfl ?_
                first
                | (exfalso; omega)
                | (rw [if_pos (show 2 * k < w ∧ g (2 * k) = _ from And.intro cnd104 cnd115), if_pos (show 2 * k + 1 < w ∧ g (2 * k + 1) = _ from And.intro cnd138 cnd151)] at hQ
                   exact ih mem _ (k + 1) (by omega) hR hwf.1 hwf.2 (hd1 hw hT (by decide) hd) hf _ hQ)
                | (rw [if_pos (show 2 * k < w ∧ g (2 * k) = _ from And.intro cnd104 cnd115), if_neg (show ¬ (2 * k + 1 < w ∧ g (2 * k + 1) = _) from fun y => cnd151 y.2)] at hQ
                   exact l_X12_checkX (by omega) (by omega) (by omega) (by omega) (by omega) hz0 hf _ hQ)
                | (rw [if_pos (show 2 * k < w ∧ g (2 * k) = _ from And.intro cnd104 cnd115), if_neg (show ¬ (2 * k + 1 < w ∧ g (2 * k + 1) = S_sumF (S_out (S_hour R)) (nn (S_hour R 5)) 0 (nI 0)) from fun y => absurd y.1 (Nat.not_lt.mpr cnd138))] at hQ
                   exact l_X12_checkX (by omega) (by omega) (by omega) (by omega) (by omega) hz0 hf _ hQ)
                | (rw [if_neg (show ¬ (2 * k < w ∧ g (2 * k) = S_sumF (S_da R) (nn (R 5)) 0 (nI 0)) from fun y => cnd115 y.2)] at hQ
                   exact l_X12_checkX (by omega) (by omega) (by omega) (by omega) (by omega) hz0 hf _ hQ)
                | (rw [if_neg (show ¬ (2 * k < w ∧ g (2 * k) = S_sumF (S_da R) (nn (R 5)) 0 (nI 0)) from fun y => absurd y.1 (Nat.not_lt.mpr cnd104))] at hQ
                   exact l_X12_checkX (by omega) (by omega) (by omega) (by omega) (by omega) hz0 hf _ hQ)
              · skip
                refine ev_iconst (x := nI 1) rfl rfl ?_
                refine ev_goto (p2 := 159) rfl rfl ?_
                refine ev_iaddN rfl ?_
                refine ev_istore rfl rfl (Nat.le_of_ble_eq_true rfl) ?_
                refine ev_iincN rfl rfl rfl ?_
                refine ev_goto (p2 := 61) rfl rfl ?_
                first
                | (exfalso; omega)
                | (rw [if_pos (show 2 * k < w ∧ g (2 * k) = _ from And.intro cnd104 cnd115), if_pos (show 2 * k + 1 < w ∧ g (2 * k + 1) = _ from And.intro cnd138 cnd151)] at hQ
                   exact ih mem _ (k + 1) (by omega) hR hwf.1 hwf.2 (hd1 hw hT (by decide) hd) hf _ hQ)
                | (rw [if_pos (show 2 * k < w ∧ g (2 * k) = _ from And.intro cnd104 cnd115), if_neg (show ¬ (2 * k + 1 < w ∧ g (2 * k + 1) = _) from fun y => cnd151 y.2)] at hQ
                   exact l_X12_checkX (by omega) (by omega) (by omega) (by omega) (by omega) hz0 hf _ hQ)
                | (rw [if_pos (show 2 * k < w ∧ g (2 * k) = _ from And.intro cnd104 cnd115), if_neg (show ¬ (2 * k + 1 < w ∧ g (2 * k + 1) = S_sumF (S_out (S_hour R)) (nn (S_hour R 5)) 0 (nI 0)) from fun y => absurd y.1 (Nat.not_lt.mpr cnd138))] at hQ
                   exact l_X12_checkX (by omega) (by omega) (by omega) (by omega) (by omega) hz0 hf _ hQ)
                | (rw [if_neg (show ¬ (2 * k < w ∧ g (2 * k) = S_sumF (S_da R) (nn (R 5)) 0 (nI 0)) from fun y => cnd115 y.2)] at hQ
                   exact l_X12_checkX (by omega) (by omega) (by omega) (by omega) (by omega) hz0 hf _ hQ)
                | (rw [if_neg (show ¬ (2 * k < w ∧ g (2 * k) = S_sumF (S_da R) (nn (R 5)) 0 (nI 0)) from fun y => absurd y.1 (Nat.not_lt.mpr cnd104))] at hQ
                   exact l_X12_checkX (by omega) (by omega) (by omega) (by omega) (by omega) hz0 hf _ hQ)
        · skip
          refine ev_aload rfl rfl ?_
          refine ev_getR (c := 12) (j := 42) rfl ?_ (hq := k_221 n)
          refine ev_iload rfl rfl ?_
          refine ev_ialdN rfl rfl ?_ (hq := k_252 n)
          rw [show mem 252 (2 * k) = g (2 * k) by rw [hf.1 252 (by decide), hg]]
          refine ev_iload rfl rfl ?_
          refine ev_icmp_ne (p2 := 122) rfl rfl (fun cnd115 => ?_) (fun cnd115 => ?_)
          · skip
            refine ev_iconst (x := nI 0) rfl rfl ?_
            refine ev_iaddN rfl ?_
            refine ev_istore rfl rfl (Nat.le_of_ble_eq_true rfl) ?_
            refine ev_iload rfl rfl ?_
            refine ev_iload rfl rfl ?_
            refine ev_iconst (x := nI 2) rfl rfl ?_
            refine ev_iload rfl rfl ?_
            refine ev_imulN rfl ?_
            refine ev_iconst (x := nI 1) rfl rfl ?_
            refine ev_iaddN rfl ?_
            refine ev_icmp_neN (p2 := 158) rfl rfl (fun cnd133 => ?_) (fun cnd133 => ?_)
            · skip
              refine ev_iconst (x := nI 0) rfl rfl ?_
              refine ev_iaddN rfl ?_
              refine ev_istore rfl rfl (Nat.le_of_ble_eq_true rfl) ?_
              refine ev_iincN rfl rfl rfl ?_
              refine ev_goto (p2 := 61) rfl rfl ?_
              first
              | (exfalso; omega)
              | (rw [if_pos (show 2 * k < w ∧ g (2 * k) = _ from And.intro cnd104 cnd115), if_pos (show 2 * k + 1 < w ∧ g (2 * k + 1) = _ from And.intro cnd138 cnd151)] at hQ
                 exact ih mem _ (k + 1) (by omega) hR hwf.1 hwf.2 (hd1 hw hT (by decide) hd) hf _ hQ)
              | (rw [if_pos (show 2 * k < w ∧ g (2 * k) = _ from And.intro cnd104 cnd115), if_neg (show ¬ (2 * k + 1 < w ∧ g (2 * k + 1) = _) from fun y => cnd151 y.2)] at hQ
                 exact l_X12_checkX (by omega) (by omega) (by omega) (by omega) (by omega) hz0 hf _ hQ)
              | (rw [if_pos (show 2 * k < w ∧ g (2 * k) = _ from And.intro cnd104 cnd115), if_neg (show ¬ (2 * k + 1 < w ∧ g (2 * k + 1) = S_sumF (S_out (S_hour R)) (nn (S_hour R 5)) 0 (nI 0)) from fun y => absurd y.1 (Nat.not_lt.mpr cnd138))] at hQ
                 exact l_X12_checkX (by omega) (by omega) (by omega) (by omega) (by omega) hz0 hf _ hQ)
              | (rw [if_neg (show ¬ (2 * k < w ∧ g (2 * k) = S_sumF (S_da R) (nn (R 5)) 0 (nI 0)) from fun y => cnd115 y.2)] at hQ
                 exact l_X12_checkX (by omega) (by omega) (by omega) (by omega) (by omega) hz0 hf _ hQ)
              | (rw [if_neg (show ¬ (2 * k < w ∧ g (2 * k) = S_sumF (S_da R) (nn (R 5)) 0 (nI 0)) from fun y => absurd y.1 (Nat.not_lt.mpr cnd104))] at hQ
                 exact l_X12_checkX (by omega) (by omega) (by omega) (by omega) (by omega) hz0 hf _ hQ)
            · skip
              refine ev_iload rfl rfl ?_
              refine ev_iload rfl rfl ?_
              refine ev_icmp_geN (p2 := 158) rfl rfl (fun cnd138 => ?_) (fun cnd138 => ?_)
              · skip
                refine ev_iconst (x := nI 0) rfl rfl ?_
                refine ev_iaddN rfl ?_
                refine ev_istore rfl rfl (Nat.le_of_ble_eq_true rfl) ?_
                refine ev_iincN rfl rfl rfl ?_
                refine ev_goto (p2 := 61) rfl rfl ?_
                first
                | (exfalso; omega)
                | (rw [if_pos (show 2 * k < w ∧ g (2 * k) = _ from And.intro cnd104 cnd115), if_pos (show 2 * k + 1 < w ∧ g (2 * k + 1) = _ from And.intro cnd138 cnd151)] at hQ
                   exact ih mem _ (k + 1) (by omega) hR hwf.1 hwf.2 (hd1 hw hT (by decide) hd) hf _ hQ)
                | (rw [if_pos (show 2 * k < w ∧ g (2 * k) = _ from And.intro cnd104 cnd115), if_neg (show ¬ (2 * k + 1 < w ∧ g (2 * k + 1) = _) from fun y => cnd151 y.2)] at hQ
                   exact l_X12_checkX (by omega) (by omega) (by omega) (by omega) (by omega) hz0 hf _ hQ)
                | (rw [if_pos (show 2 * k < w ∧ g (2 * k) = _ from And.intro cnd104 cnd115), if_neg (show ¬ (2 * k + 1 < w ∧ g (2 * k + 1) = S_sumF (S_out (S_hour R)) (nn (S_hour R 5)) 0 (nI 0)) from fun y => absurd y.1 (Nat.not_lt.mpr cnd138))] at hQ
                   exact l_X12_checkX (by omega) (by omega) (by omega) (by omega) (by omega) hz0 hf _ hQ)
                | (rw [if_neg (show ¬ (2 * k < w ∧ g (2 * k) = S_sumF (S_da R) (nn (R 5)) 0 (nI 0)) from fun y => cnd115 y.2)] at hQ
                   exact l_X12_checkX (by omega) (by omega) (by omega) (by omega) (by omega) hz0 hf _ hQ)
                | (rw [if_neg (show ¬ (2 * k < w ∧ g (2 * k) = S_sumF (S_da R) (nn (R 5)) 0 (nI 0)) from fun y => absurd y.1 (Nat.not_lt.mpr cnd104))] at hQ
                   exact l_X12_checkX (by omega) (by omega) (by omega) (by omega) (by omega) hz0 hf _ hQ)
              · skip
                refine ev_aload rfl rfl ?_
                refine ev_getR (c := 12) (j := 42) rfl ?_ (hq := k_221 n)
                refine ev_iload rfl rfl ?_
                refine ev_ialdN rfl rfl ?_ (hq := k_252 n)
                rw [show mem 252 (2 * k + 0) = g (2 * k + 0) by rw [hf.1 252 (by decide), hg]]
                refine ev_aload rfl rfl ?_
                refine ev_call rfl rfl ?_
                refine r_outMany hR hwf.1 hwf.2 (fun mem h2 => ?_)
                have hR := (h2 222 (by decide) (by decide)).trans hR
                have hf := FrR_tr hf (FrR_sc h2)
                change am_ev _ _ _ _ [_, _, _] _ _ _
                refine ev_icmp_ne (p2 := 158) rfl rfl (fun cnd151 => ?_) (fun cnd151 => ?_)
                · skip
                  refine ev_iconst (x := nI 0) rfl rfl ?_
                  refine ev_iaddN rfl ?_
                  refine ev_istore rfl rfl (Nat.le_of_ble_eq_true rfl) ?_
                  refine ev_iincN rfl rfl rfl ?_
                  refine ev_goto (p2 := 61) rfl rfl ?_
                  first
                  | (exfalso; omega)
                  | (rw [if_pos (show 2 * k < w ∧ g (2 * k) = _ from And.intro cnd104 cnd115), if_pos (show 2 * k + 1 < w ∧ g (2 * k + 1) = _ from And.intro cnd138 cnd151)] at hQ
                     exact ih mem _ (k + 1) (by omega) hR hwf.1 hwf.2 (hd1 hw hT (by decide) hd) hf _ hQ)
                  | (rw [if_pos (show 2 * k < w ∧ g (2 * k) = _ from And.intro cnd104 cnd115), if_neg (show ¬ (2 * k + 1 < w ∧ g (2 * k + 1) = _) from fun y => cnd151 y.2)] at hQ
                     exact l_X12_checkX (by omega) (by omega) (by omega) (by omega) (by omega) hz0 hf _ hQ)
                  | (rw [if_pos (show 2 * k < w ∧ g (2 * k) = _ from And.intro cnd104 cnd115), if_neg (show ¬ (2 * k + 1 < w ∧ g (2 * k + 1) = S_sumF (S_out (S_hour R)) (nn (S_hour R 5)) 0 (nI 0)) from fun y => absurd y.1 (Nat.not_lt.mpr cnd138))] at hQ
                     exact l_X12_checkX (by omega) (by omega) (by omega) (by omega) (by omega) hz0 hf _ hQ)
                  | (rw [if_neg (show ¬ (2 * k < w ∧ g (2 * k) = S_sumF (S_da R) (nn (R 5)) 0 (nI 0)) from fun y => cnd115 y.2)] at hQ
                     exact l_X12_checkX (by omega) (by omega) (by omega) (by omega) (by omega) hz0 hf _ hQ)
                  | (rw [if_neg (show ¬ (2 * k < w ∧ g (2 * k) = S_sumF (S_da R) (nn (R 5)) 0 (nI 0)) from fun y => absurd y.1 (Nat.not_lt.mpr cnd104))] at hQ
                     exact l_X12_checkX (by omega) (by omega) (by omega) (by omega) (by omega) hz0 hf _ hQ)
                · skip
                  refine ev_iconst (x := nI 1) rfl rfl ?_
                  refine ev_goto (p2 := 159) rfl rfl ?_
                  refine ev_iaddN rfl ?_
                  refine ev_istore rfl rfl (Nat.le_of_ble_eq_true rfl) ?_
                  refine ev_iincN rfl rfl rfl ?_
                  refine ev_goto (p2 := 61) rfl rfl ?_
                  first
                  | (exfalso; omega)
                  | (rw [if_pos (show 2 * k < w ∧ g (2 * k) = _ from And.intro cnd104 cnd115), if_pos (show 2 * k + 1 < w ∧ g (2 * k + 1) = _ from And.intro cnd138 cnd151)] at hQ
                     exact ih mem _ (k + 1) (by omega) hR hwf.1 hwf.2 (hd1 hw hT (by decide) hd) hf _ hQ)
                  | (rw [if_pos (show 2 * k < w ∧ g (2 * k) = _ from And.intro cnd104 cnd115), if_neg (show ¬ (2 * k + 1 < w ∧ g (2 * k + 1) = _) from fun y => cnd151 y.2)] at hQ
                     exact l_X12_checkX (by omega) (by omega) (by omega) (by omega) (by omega) hz0 hf _ hQ)
                  | (rw [if_pos (show 2 * k < w ∧ g (2 * k) = _ from And.intro cnd104 cnd115), if_neg (show ¬ (2 * k + 1 < w ∧ g (2 * k + 1) = S_sumF (S_out (S_hour R)) (nn (S_hour R 5)) 0 (nI 0)) from fun y => absurd y.1 (Nat.not_lt.mpr cnd138))] at hQ
                     exact l_X12_checkX (by omega) (by omega) (by omega) (by omega) (by omega) hz0 hf _ hQ)
                  | (rw [if_neg (show ¬ (2 * k < w ∧ g (2 * k) = S_sumF (S_da R) (nn (R 5)) 0 (nI 0)) from fun y => cnd115 y.2)] at hQ
                     exact l_X12_checkX (by omega) (by omega) (by omega) (by omega) (by omega) hz0 hf _ hQ)
                  | (rw [if_neg (show ¬ (2 * k < w ∧ g (2 * k) = S_sumF (S_da R) (nn (R 5)) 0 (nI 0)) from fun y => absurd y.1 (Nat.not_lt.mpr cnd104))] at hQ
                     exact l_X12_checkX (by omega) (by omega) (by omega) (by omega) (by omega) hz0 hf _ hQ)
          · skip
            refine ev_iconst (x := nI 1) rfl rfl ?_
            refine ev_goto (p2 := 123) rfl rfl ?_
            refine ev_iaddN rfl ?_
            refine ev_istore rfl rfl (Nat.le_of_ble_eq_true rfl) ?_
            refine ev_iload rfl rfl ?_
            refine ev_iload rfl rfl ?_
            refine ev_iconst (x := nI 2) rfl rfl ?_
            refine ev_iload rfl rfl ?_
            refine ev_imulN rfl ?_
            refine ev_iconst (x := nI 1) rfl rfl ?_
            refine ev_iaddN rfl ?_
            refine ev_icmp_neN (p2 := 158) rfl rfl (fun cnd133 => ?_) (fun cnd133 => ?_)
            · skip
              refine ev_iconst (x := nI 0) rfl rfl ?_
              refine ev_iaddN rfl ?_
              refine ev_istore rfl rfl (Nat.le_of_ble_eq_true rfl) ?_
              refine ev_iincN rfl rfl rfl ?_
              refine ev_goto (p2 := 61) rfl rfl ?_
              first
              | (exfalso; omega)
              | (rw [if_pos (show 2 * k < w ∧ g (2 * k) = _ from And.intro cnd104 cnd115), if_pos (show 2 * k + 1 < w ∧ g (2 * k + 1) = _ from And.intro cnd138 cnd151)] at hQ
                 exact ih mem _ (k + 1) (by omega) hR hwf.1 hwf.2 (hd1 hw hT (by decide) hd) hf _ hQ)
              | (rw [if_pos (show 2 * k < w ∧ g (2 * k) = _ from And.intro cnd104 cnd115), if_neg (show ¬ (2 * k + 1 < w ∧ g (2 * k + 1) = _) from fun y => cnd151 y.2)] at hQ
                 exact l_X12_checkX (by omega) (by omega) (by omega) (by omega) (by omega) hz0 hf _ hQ)
              | (rw [if_pos (show 2 * k < w ∧ g (2 * k) = _ from And.intro cnd104 cnd115), if_neg (show ¬ (2 * k + 1 < w ∧ g (2 * k + 1) = S_sumF (S_out (S_hour R)) (nn (S_hour R 5)) 0 (nI 0)) from fun y => absurd y.1 (Nat.not_lt.mpr cnd138))] at hQ
                 exact l_X12_checkX (by omega) (by omega) (by omega) (by omega) (by omega) hz0 hf _ hQ)
              | (rw [if_neg (show ¬ (2 * k < w ∧ g (2 * k) = S_sumF (S_da R) (nn (R 5)) 0 (nI 0)) from fun y => cnd115 y.2)] at hQ
                 exact l_X12_checkX (by omega) (by omega) (by omega) (by omega) (by omega) hz0 hf _ hQ)
              | (rw [if_neg (show ¬ (2 * k < w ∧ g (2 * k) = S_sumF (S_da R) (nn (R 5)) 0 (nI 0)) from fun y => absurd y.1 (Nat.not_lt.mpr cnd104))] at hQ
                 exact l_X12_checkX (by omega) (by omega) (by omega) (by omega) (by omega) hz0 hf _ hQ)
            · skip
              refine ev_iload rfl rfl ?_
              refine ev_iload rfl rfl ?_
              refine ev_icmp_geN (p2 := 158) rfl rfl (fun cnd138 => ?_) (fun cnd138 => ?_)
              · skip
                refine ev_iconst (x := nI 0) rfl rfl ?_
                refine ev_iaddN rfl ?_
                refine ev_istore rfl rfl (Nat.le_of_ble_eq_true rfl) ?_
                refine ev_iincN rfl rfl rfl ?_
                refine ev_goto (p2 := 61) rfl rfl ?_
                first
                | (exfalso; omega)
                | (rw [if_pos (show 2 * k < w ∧ g (2 * k) = _ from And.intro cnd104 cnd115), if_pos (show 2 * k + 1 < w ∧ g (2 * k + 1) = _ from And.intro cnd138 cnd151)] at hQ
                   exact ih mem _ (k + 1) (by omega) hR hwf.1 hwf.2 (hd1 hw hT (by decide) hd) hf _ hQ)
                | (rw [if_pos (show 2 * k < w ∧ g (2 * k) = _ from And.intro cnd104 cnd115), if_neg (show ¬ (2 * k + 1 < w ∧ g (2 * k + 1) = _) from fun y => cnd151 y.2)] at hQ
                   exact l_X12_checkX (by omega) (by omega) (by omega) (by omega) (by omega) hz0 hf _ hQ)
                | (rw [if_pos (show 2 * k < w ∧ g (2 * k) = _ from And.intro cnd104 cnd115), if_neg (show ¬ (2 * k + 1 < w ∧ g (2 * k + 1) = S_sumF (S_out (S_hour R)) (nn (S_hour R 5)) 0 (nI 0)) from fun y => absurd y.1 (Nat.not_lt.mpr cnd138))] at hQ
                   exact l_X12_checkX (by omega) (by omega) (by omega) (by omega) (by omega) hz0 hf _ hQ)
                | (rw [if_neg (show ¬ (2 * k < w ∧ g (2 * k) = S_sumF (S_da R) (nn (R 5)) 0 (nI 0)) from fun y => cnd115 y.2)] at hQ
                   exact l_X12_checkX (by omega) (by omega) (by omega) (by omega) (by omega) hz0 hf _ hQ)
                | (rw [if_neg (show ¬ (2 * k < w ∧ g (2 * k) = S_sumF (S_da R) (nn (R 5)) 0 (nI 0)) from fun y => absurd y.1 (Nat.not_lt.mpr cnd104))] at hQ
                   exact l_X12_checkX (by omega) (by omega) (by omega) (by omega) (by omega) hz0 hf _ hQ)
              · skip
                refine ev_aload rfl rfl ?_
                refine ev_getR (c := 12) (j := 42) rfl ?_ (hq := k_221 n)
                refine ev_iload rfl rfl ?_
                refine ev_ialdN rfl rfl ?_ (hq := k_252 n)
                rw [show mem 252 (2 * k + 1) = g (2 * k + 1) by rw [hf.1 252 (by decide), hg]]
                refine ev_aload rfl rfl ?_
                refine ev_call rfl rfl ?_
                refine r_outMany hR hwf.1 hwf.2 (fun mem h2 => ?_)
                have hR := (h2 222 (by decide) (by decide)).trans hR
                have hf := FrR_tr hf (FrR_sc h2)
                change am_ev _ _ _ _ [_, _, _] _ _ _
                refine ev_icmp_ne (p2 := 158) rfl rfl (fun cnd151 => ?_) (fun cnd151 => ?_)
                · skip
                  refine ev_iconst (x := nI 0) rfl rfl ?_
                  refine ev_iaddN rfl ?_
                  refine ev_istore rfl rfl (Nat.le_of_ble_eq_true rfl) ?_
                  refine ev_iincN rfl rfl rfl ?_
                  refine ev_goto (p2 := 61) rfl rfl ?_
                  first
                  | (exfalso; omega)
                  | (rw [if_pos (show 2 * k < w ∧ g (2 * k) = _ from And.intro cnd104 cnd115), if_pos (show 2 * k + 1 < w ∧ g (2 * k + 1) = _ from And.intro cnd138 cnd151)] at hQ
                     exact ih mem _ (k + 1) (by omega) hR hwf.1 hwf.2 (hd1 hw hT (by decide) hd) hf _ hQ)
                  | (rw [if_pos (show 2 * k < w ∧ g (2 * k) = _ from And.intro cnd104 cnd115), if_neg (show ¬ (2 * k + 1 < w ∧ g (2 * k + 1) = _) from fun y => cnd151 y.2)] at hQ
                     exact l_X12_checkX (by omega) (by omega) (by omega) (by omega) (by omega) hz0 hf _ hQ)
                  | (rw [if_pos (show 2 * k < w ∧ g (2 * k) = _ from And.intro cnd104 cnd115), if_neg (show ¬ (2 * k + 1 < w ∧ g (2 * k + 1) = S_sumF (S_out (S_hour R)) (nn (S_hour R 5)) 0 (nI 0)) from fun y => absurd y.1 (Nat.not_lt.mpr cnd138))] at hQ
                     exact l_X12_checkX (by omega) (by omega) (by omega) (by omega) (by omega) hz0 hf _ hQ)
                  | (rw [if_neg (show ¬ (2 * k < w ∧ g (2 * k) = S_sumF (S_da R) (nn (R 5)) 0 (nI 0)) from fun y => cnd115 y.2)] at hQ
                     exact l_X12_checkX (by omega) (by omega) (by omega) (by omega) (by omega) hz0 hf _ hQ)
                  | (rw [if_neg (show ¬ (2 * k < w ∧ g (2 * k) = S_sumF (S_da R) (nn (R 5)) 0 (nI 0)) from fun y => absurd y.1 (Nat.not_lt.mpr cnd104))] at hQ
                     exact l_X12_checkX (by omega) (by omega) (by omega) (by omega) (by omega) hz0 hf _ hQ)
                · skip
                  refine ev_iconst (x := nI 1) rfl rfl ?_
                  refine ev_goto (p2 := 159) rfl rfl ?_
                  refine ev_iaddN rfl ?_
                  refine ev_istore rfl rfl (Nat.le_of_ble_eq_true rfl) ?_
                  refine ev_iincN rfl rfl rfl ?_
                  refine ev_goto (p2 := 61) rfl rfl ?_
                  first
                  | (exfalso; omega)
                  | (rw [if_pos (show 2 * k < w ∧ g (2 * k) = _ from And.intro cnd104 cnd115), if_pos (show 2 * k + 1 < w ∧ g (2 * k + 1) = _ from And.intro cnd138 cnd151)] at hQ
                     exact ih mem _ (k + 1) (by omega) hR hwf.1 hwf.2 (hd1 hw hT (by decide) hd) hf _ hQ)
                  | (rw [if_pos (show 2 * k < w ∧ g (2 * k) = _ from And.intro cnd104 cnd115), if_neg (show ¬ (2 * k + 1 < w ∧ g (2 * k + 1) = _) from fun y => cnd151 y.2)] at hQ
                     exact l_X12_checkX (by omega) (by omega) (by omega) (by omega) (by omega) hz0 hf _ hQ)
                  | (rw [if_pos (show 2 * k < w ∧ g (2 * k) = _ from And.intro cnd104 cnd115), if_neg (show ¬ (2 * k + 1 < w ∧ g (2 * k + 1) = S_sumF (S_out (S_hour R)) (nn (S_hour R 5)) 0 (nI 0)) from fun y => absurd y.1 (Nat.not_lt.mpr cnd138))] at hQ
                     exact l_X12_checkX (by omega) (by omega) (by omega) (by omega) (by omega) hz0 hf _ hQ)
                  | (rw [if_neg (show ¬ (2 * k < w ∧ g (2 * k) = S_sumF (S_da R) (nn (R 5)) 0 (nI 0)) from fun y => cnd115 y.2)] at hQ
                     exact l_X12_checkX (by omega) (by omega) (by omega) (by omega) (by omega) hz0 hf _ hQ)
                  | (rw [if_neg (show ¬ (2 * k < w ∧ g (2 * k) = S_sumF (S_da R) (nn (R 5)) 0 (nI 0)) from fun y => absurd y.1 (Nat.not_lt.mpr cnd104))] at hQ
                     exact l_X12_checkX (by omega) (by omega) (by omega) (by omega) (by omega) hz0 hf _ hQ)
