/-! the round: the class, and both -/
def FrW (mem m2 : am_M) : Prop := ∀ q, ¬ (189 ≤ q ∧ q ≤ 192) → m2 q = mem q
theorem FrW_refl (mem : am_M) : FrW mem mem := fun _ _ => rfl
theorem FrW_tr {a b c : am_M} (h1 : FrW a b) (h2 : FrW b c) : FrW a c := fun q h => (h2 q h).trans (h1 q h)
theorem FrW_up {a b : am_M} {q k : Nat} {x : Int32} (h : b = am_up a q k x) (hq : 189 ≤ q ∧ q ≤ 192) : FrW a b := by
  intro q2 h2
  subst h
  unfold am_up
  rw [if_neg (by omega)]
theorem FrW_G {a b : am_M} (h : FrG a b) : FrW a b := fun q hq => funext fun k => h q k (by omega) (by omega) (by omega)
theorem cp_W {R : am_R} {a b : am_M} (hC : CplT 66 R a) (h : FrW a b) : CplT 66 R b := cp_fr hC (fun q hq => h q (by omega))
theorem wy_l2 {a b : Nat} (ha : a < 3031) (hb : b < 3031) : wy a b < 130 := by
  unfold wy
  omega
theorem wl_l2 {g : Nat → Nat} {h : Nat} (hh : h < 3031) (hg : ∀ x, g x < 3031) : ∀ (p : List Nat) (a : Nat), a < 3031 → wl g h a p < 130 * (p.length + 1) := by
  intro p
  induction p with
  | nil => intro a ha; have h1 := wy_l2 ha hh; show wy a h < 130 * (0 + 1); omega
  | cons x r ih => intro a ha; have h1 := wy_l2 ha (hg x); have h2 := ih (g x) (hg x); show wy a (g x) + wl g h (g x) r < 130 * (r.length + 1 + 1); omega
theorem S_best_s {R : am_R} (hw : wfR R) {h : Nat} (hh : h < 3031) (v : am_R) : (cm (nn (R 8)) (nn (R 8)) 0).foldl (btr (fun p => 0 + wl (gR R) h h p) (fun p => lI ([] ++ p))) (1000, v) = S_best R h := by
  have hb := wb_all hw
  obtain ⟨l, hl⟩ := cm_cons (n := nn (R 8)) (by omega)
  have ho := cm_ok (n := nn (R 8)) (by omega)
  unfold S_best
  rw [hl] at ho ⊢
  have hop := ho _ List.mem_cons_self
  have hW := wl_l2 (g := gR R) hh (gR_lt hw) (ide (nn (R 8))) h hh
  rw [hop.1] at hW
  have e0 : (fun p => 0 + wl (gR R) h h p) = wl (gR R) h h := funext fun p => Nat.zero_add _
  rw [e0, List.foldl_cons, List.foldl_cons]
  have e1 : ∀ (z : Nat) (v : am_R), 1000 ≤ z → btr (wl (gR R) h h) lI (z, v) (ide (nn (R 8))) = (wl (gR R) h h (ide (nn (R 8))), lI (ide (nn (R 8)))) := by
    intro z v hz
    unfold btr
    rw [if_pos (show wl (gR R) h h (ide (nn (R 8))) < z by omega)]
  change List.foldl (btr (wl (gR R) h h) lI) (btr (wl (gR R) h h) lI (1000, v) (ide (nn (R 8)))) l = _
  rw [e1 1000 v (Nat.le_refl _), e1 2147483647 _ (by decide)]
theorem l_fd {d n : Nat} {Q : am_P} {R : am_R} {mem0 : am_M} {c h : Nat} (hw : wfR R) (hh : h < 3031) (hQ : ∀ m2 : am_M, FrW mem0 m2 → m2 189 3 = nI (S_best R h).1 → (∀ j, j < nn (R 8) → m2 192 j = (S_best R h).2 j) → Q none (am_SK n) m2) (r : Nat) : ∀ (mem : am_M) (x : Nat) (hx : x + r = nn (R 8)) (hC : CplT 66 R mem) (h4 : mem 189 4 = nI (nn (R 8))) (h5 : mem 189 5 = nI h) (hG : ∀ j, j < x → mem 190 j = nI (gR R j)) (hf : FrW mem0 mem), am_ev kc_X10_find (d + 9) 23 [some (.ref 189), some (.ref 66), some (.int (nI c)), some (.int (nI x))] [] (am_SK n) mem Q := by
  induction r with
  | zero =>
    intro mem x hx hC h4 h5 hG hf
    have hb := wb_all hw
    have hxx : x = nn (R 8) := by omega
    subst hxx
    refine ev_iload rfl rfl ?_
    refine ev_aload rfl rfl ?_
    refine ev_getI (c := 10) (j := 4) rfl ?_ (hq := k_189 n)
    rw [h4]
    refine ev_icmp_geN (p2 := 57) rfl rfl (fun cnd28 => ?_) (fun cnd28 => ?_)
    · skip
      refine ev_aload rfl rfl ?_
      refine ev_iconst (x := nI 1000) rfl rfl ?_
      refine ev_putS (c := 10) (j := 3) rfl (fun m3 hm3 => ?_) (hq := k_189 n)
      have h33 : m3 189 3 = nI 1000 := by rw [hm3]; exact am_up_eq
      have hk3 : WkI (nn (R 8)) h (gR R) m3 := WkI_fr (FrG_up hm3 (Or.inr (Or.inr ⟨rfl, rfl⟩))) ⟨h4, h5, hG⟩
      refine ev_aload rfl rfl ?_
      refine ev_iconst (x := nI 0) rfl rfl ?_
      refine ev_iconst (x := nI 0) rfl rfl ?_
      refine ev_aload rfl rfl ?_
      refine ev_getI (c := 10) (j := 5) rfl ?_ (hq := k_189 n)
      rw [show m3 189 5 = nI h from hk3.2.1]
      refine ev_iconst (x := nI 0) rfl rfl ?_
      refine ev_call rfl rfl ?_
      rw [show d + 9 = d + (6 - nn (R 8)) + nn (R 8) + 3 by omega]
      refine c_goOn (N := nn (R 8)) (h := h) (g := gR R) (by omega) (gR_lt hw) hh (nn (R 8)) m3 (1000, m3 192) 0 0 h 0 [] (Nat.zero_add _) rfl (by omega) hh (by omega) hk3 h33 (show 1000 < 2 ^ 31 by decide) (fun j hj => absurd hj (Nat.not_lt_zero j)) (fun _ _ => rfl) (fun m4 hf4 _ h34 hb4 => ?_)
      rw [S_best_s hw hh] at h34 hb4
      change am_ev _ _ _ _ [] _ _ _
      refine ev_vret rfl ?_
      exact hQ m4 (FrW_tr hf (FrW_tr (FrW_up hm3 (by omega)) (FrW_G hf4))) h34 hb4
    · omega
  | succ r ih =>
    intro mem x hx hC h4 h5 hG hf
    have hb := wb_all hw
    have hx8 : x < nn (R 8) := by omega
    have hsb := stb hw hx8
    have hgx := gR_R hw hx8
    refine ev_iload rfl rfl ?_
    refine ev_aload rfl rfl ?_
    refine ev_getI (c := 10) (j := 4) rfl ?_ (hq := k_189 n)
    rw [h4]
    refine ev_icmp_geN (p2 := 57) rfl rfl (fun cnd28 => ?_) (fun cnd28 => ?_)
    · omega
    · skip
      refine ev_aload rfl rfl ?_
      refine ev_getR (c := 10) (j := 0) rfl ?_ (hq := k_189 n)
      refine ev_iload rfl rfl ?_
      refine ev_aload rfl rfl ?_
      refine ev_getR (c := 9) (j := 3) rfl ?_ (hq := kt_0 n am_T66)
      refine ev_aload rfl rfl ?_
      refine ev_getR (c := 9) (j := 12) rfl ?_ (hq := kt_0 n am_T66)
      refine ev_iload rfl rfl ?_
      refine ev_ialdN rfl rfl ?_ (hq := kt_5 n am_T66)
      rw [cp_st hC (k := x) (by omega)]
      refine ev_aldN rfl rfl ?_ (kr_joint (by omega)) (hq := kt_2 n am_T66)
      refine ev_getI (c := 3) (j := 1) rfl ?_ (hq := kt_joint n am_T66 (by omega))
      rw [cp_j1 hC (j := nn (R (17 + x))) (by omega), hgx]
      refine ev_iastS rfl (fun m3 hm3 => ?_) (hq := k_190 n)
      have hf3 : FrW mem m3 := FrW_up hm3 (by omega)
      refine ev_iincN rfl rfl rfl ?_
      refine ev_goto (p2 := 23) rfl rfl ?_
      refine ih m3 (x + 1) (by omega) (cp_W hC hf3) ?_ ?_ (fun j hj => ?_) (FrW_tr hf hf3)
      · rw [hm3]; unfold am_up; rw [if_neg (by decide)]; exact h4
      · rw [hm3]; unfold am_up; rw [if_neg (by decide)]; exact h5
      · rw [hm3]
        by_cases e : j = x
        · rw [e]; exact am_up_eq
        · rw [am_up_nk e]; exact hG j (by omega)
theorem c_find {d n : Nat} {mem : am_M} {Q : am_P} {R : am_R} {c h : Nat} (hC : CplT 66 R mem) (hc : c < nn (R 3)) (hh : h < 3031) (he : R (23 + 6 * c + 0) = nI h) (hQ : ∀ m2 : am_M, FrW mem m2 → m2 189 3 = nI (S_best R h).1 → (∀ j, j < nn (R 8) → m2 192 j = (S_best R h).2 j) → Q none (am_SK n) m2) : am_ex (d + 10) 78 [.ref 189, .ref 66, .int (nI c)] (am_SK n) mem Q := by
  have hw := cp_w hC
  have hb := wb_all hw
  refine ex_in (c0 := kc_X10_find) rfl (L := [some (.ref 189), some (.ref 66), some (.int (nI c)), none]) rfl ?_
  refine ev_aload rfl rfl ?_
  refine ev_aload rfl rfl ?_
  refine ev_getR (c := 9) (j := 1) rfl ?_ (hq := kt_0 n am_T66)
  refine ev_iload rfl rfl ?_
  refine ev_aldN rfl rfl ?_ (kr_cab (by omega)) (hq := kt_1 n am_T66)
  refine ev_getI (c := 1) (j := 0) rfl ?_ (hq := kt_cab n am_T66 (by omega))
  rw [cp_c (k := 0) (c := c) hC (by omega) (by decide), he]
  refine ev_putS (c := 10) (j := 5) rfl (fun m1 hm1 => ?_) (hq := k_189 n)
  have hf1 : FrW mem m1 := FrW_up hm1 (by omega)
  have hC := cp_W hC hf1
  refine ev_aload rfl rfl ?_
  refine ev_aload rfl rfl ?_
  refine ev_getI (c := 9) (j := 13) rfl ?_ (hq := kt_0 n am_T66)
  rw [cp_t13 hC]
  refine ev_putS (c := 10) (j := 4) rfl (fun m2 hm2 => ?_) (hq := k_189 n)
  have hf2 : FrW m1 m2 := FrW_up hm2 (by omega)
  have hC := cp_W hC hf2
  refine ev_iconst (x := nI 0) rfl rfl ?_
  refine ev_istore rfl rfl (Nat.le_of_ble_eq_true rfl) ?_
  exact l_fd hw hh hQ _ m2 0 (Nat.zero_add _) hC (by rw [hm2]; exact am_up_eq) (by rw [hm2, am_up_nk (by decide), hm1]; exact am_up_eq) (fun j hj => absurd hj (Nat.not_lt_zero j)) (FrW_tr hf1 hf2)
theorem lt_le1 {w : Int32} {m : Nat} (hm : m < 2 ^ 31) : w < nI m ↔ w ≤ nI m - nI 1 := by
  have e1 : (nI m).toInt = (m : Int) := nI_toInt hm
  have e2 : (nI 1).toInt = 1 := rfl
  have e3 : (nI m - nI 1).toInt = (nI m).toInt - (nI 1).toInt := am_sub_toInt (by omega) (by omega)
  rw [Int32.lt_iff_toInt_lt, Int32.le_iff_toInt_le, e3, e1, e2]
  omega
theorem c_X11_round {d n : Nat} {mem : am_M} {Q : am_P} {R : am_R} (hC : CplT 66 R mem) (c w : Int32) (hQ : ∀ m2 : am_M, FrW mem m2 → Q (some (.int (X_round R c w))) (am_SK n) m2) : am_ex (d + 11) 111 [.ref 29, .int c, .int w] (am_SK n) mem Q := by
  have hw := cp_w hC
  have hb := wb_all hw
  have e8 := wr8 hw
  unfold X_round at hQ
  by_cases hP : (0 ≤ c ∧ c ≤ R 3 - 1) ∧ (-1 ≤ w ∧ w ≤ R 8 - nI 1)
  · rw [if_pos hP] at hQ
    obtain ⟨ec, hc⟩ := am_idx (wr3 hw) (by omega) hP.1
    obtain ⟨cc, hcc⟩ : ∃ cc, nn c = cc := ⟨_, rfl⟩
    rw [hcc] at hQ ec hc
    subst ec
    have hh := (hw.2.2.1 cc hc).1
    obtain ⟨h, hhe⟩ : ∃ h, nn (R (23 + 6 * cc)) = h := ⟨_, rfl⟩
    have he : R (23 + 6 * cc + 0) = nI h := by rw [← hhe]; exact hh.1
    have hh : h < 3031 := by rw [← hhe]; exact hh.2
    rw [hhe] at hQ
    have hP2 : -1 ≤ w ∧ w < nI (nn (R 8)) := ⟨hP.2.1, (lt_le1 (by omega)).mpr (by rw [← e8]; exact hP.2.2)⟩
    refine ex_in (c0 := kc_X11_round) rfl (L := [some (.ref 29), some (.int (nI cc)), some (.int w)]) rfl ?_
    refine ev_aload rfl rfl ?_
    refine ev_getR (c := 11) (j := 2) rfl ?_ (hq := k_29 n)
    refine ev_iload rfl rfl ?_
    refine ev_callV rfl rfl rfl rfl (Nat.le_of_ble_eq_true rfl) (Nat.le_of_ble_eq_true rfl) ?_ (hq := kt_0 n am_T66)
    refine c_X9_hasCabinet am_T66 hC _ ?_
    change am_ev _ _ _ _ [_] _ _ _
    refine ev_if_eqB (p2 := 27) rfl rfl (fun cnd8 => ?_) (fun cnd8 => ?_)
    · exact absurd hP.1 cnd8
    · skip
      refine ev_iload rfl rfl ?_
      refine ev_iconst (x := (-1)) rfl rfl ?_
      refine ev_icmp_lt (p2 := 27) rfl rfl (fun cnd13 => ?_) (fun cnd13 => ?_)
      · exact absurd hP2.1 (nle_lt cnd13)
      · skip
        refine ev_iload rfl rfl ?_
        refine ev_aload rfl rfl ?_
        refine ev_getR (c := 11) (j := 2) rfl ?_ (hq := k_29 n)
        refine ev_getI (c := 9) (j := 13) rfl ?_ (hq := kt_0 n am_T66)
        rw [cp_t13 hC]
        refine ev_icmp_lt (p2 := 30) rfl rfl (fun cnd24 => ?_) (fun cnd24 => ?_)
        · skip
          refine ev_aload rfl rfl ?_
          refine ev_getR (c := 11) (j := 7) rfl ?_ (hq := k_29 n)
          refine ev_aload rfl rfl ?_
          refine ev_getR (c := 11) (j := 2) rfl ?_ (hq := k_29 n)
          refine ev_iload rfl rfl ?_
          refine ev_call rfl rfl ?_
          refine c_find hC hc hh he (fun m4 hf4 h34 h244 => ?_)
          change am_ev _ _ _ _ [] _ _ _
          have hC := cp_W hC hf4
          have hZ := hQ m4 hf4
          obtain ⟨p, hp, hpe⟩ := S_best_ok hw hh
          rw [hpe] at hZ h34 h244
          by_cases w0 : w < 0
          · rw [if_pos w0] at hZ
            refine ev_iload rfl rfl ?_
            refine ev_if_ge (p2 := 56) rfl rfl (fun cnd43 => ?_) (fun cnd43 => ?_)
            · exact absurd w0 (nlt_le cnd43)
            · skip
              refine ev_aload rfl rfl ?_
              refine ev_getR (c := 11) (j := 7) rfl ?_ (hq := k_29 n)
              refine ev_getI (c := 10) (j := 3) rfl ?_ (hq := k_189 n)
              rw [h34]
              refine ev_goto (p2 := 73) rfl rfl ?_
              refine ev_iret rfl ?_
              exact hZ
          · rw [if_neg w0] at hZ
            obtain ⟨ew, hwl⟩ := am_idx (x := nI (nn (R 8))) rfl (by omega) ⟨le_nlt w0, (lt_le1 (by omega)).mp hP2.2⟩
            obtain ⟨k, hk⟩ : ∃ k, nn w = k := ⟨_, rfl⟩
            rw [hk] at hZ ew hwl
            subst ew
            have h2 : m4 192 k = nI (gf p k) := h244 k hwl
            have hgp := hp.2 k hwl
            have e3 : nn (lI p k) = gf p k := nn_nI (a := gf p k) (by omega)
            change Q (some (.int (R (17 + nn (lI p k))))) (am_SK n) m4 at hZ
            rw [e3] at hZ
            have hsb := stb hw hgp
            rw [hsb.1] at hZ
            refine ev_iload rfl rfl ?_
            refine ev_if_geN (p2 := 56) rfl rfl ?_
            refine ev_aload rfl rfl ?_
            refine ev_getR (c := 11) (j := 2) rfl ?_ (hq := k_29 n)
            refine ev_getR (c := 9) (j := 12) rfl ?_ (hq := kt_0 n am_T66)
            refine ev_aload rfl rfl ?_
            refine ev_getR (c := 11) (j := 7) rfl ?_ (hq := k_29 n)
            refine ev_getR (c := 10) (j := 2) rfl ?_ (hq := k_189 n)
            refine ev_iload rfl rfl ?_
            refine ev_ialdN rfl rfl ?_ (hq := k_192 n)
            rw [h2]
            refine ev_ialdN rfl rfl ?_ (hq := kt_5 n am_T66)
            rw [cp_st hC (k := gf p k) (by omega)]
            refine ev_iret rfl ?_
            exact hZ
        · exact absurd hP2.2 cnd24
  · rw [if_neg hP] at hQ
    refine ex_in (c0 := kc_X11_round) rfl (L := [some (.ref 29), some (.int c), some (.int w)]) rfl ?_
    refine ev_aload rfl rfl ?_
    refine ev_getR (c := 11) (j := 2) rfl ?_ (hq := k_29 n)
    refine ev_iload rfl rfl ?_
    refine ev_callV rfl rfl rfl rfl (Nat.le_of_ble_eq_true rfl) (Nat.le_of_ble_eq_true rfl) ?_ (hq := kt_0 n am_T66)
    refine c_X9_hasCabinet am_T66 hC _ ?_
    change am_ev _ _ _ _ [_] _ _ _
    refine ev_if_eqB (p2 := 27) rfl rfl (fun cnd8 => ?_) (fun cnd8 => ?_)
    · skip
      refine ev_iconst (x := (-1000000001)) rfl rfl ?_
      refine ev_iret rfl ?_
      exact hQ mem (FrW_refl _)
    · skip
      refine ev_iload rfl rfl ?_
      refine ev_iconst (x := (-1)) rfl rfl ?_
      refine ev_icmp_lt (p2 := 27) rfl rfl (fun cnd13 => ?_) (fun cnd13 => ?_)
      · skip
        refine ev_iconst (x := (-1000000001)) rfl rfl ?_
        refine ev_iret rfl ?_
        exact hQ mem (FrW_refl _)
      · skip
        refine ev_iload rfl rfl ?_
        refine ev_aload rfl rfl ?_
        refine ev_getR (c := 11) (j := 2) rfl ?_ (hq := k_29 n)
        refine ev_getI (c := 9) (j := 13) rfl ?_ (hq := kt_0 n am_T66)
        rw [cp_t13 hC]
        refine ev_icmp_lt (p2 := 30) rfl rfl (fun cnd24 => ?_) (fun cnd24 => ?_)
        · exact absurd ⟨cnd8, le_nlt cnd13, by rw [e8]; exact (lt_le1 (by omega)).mp cnd24⟩ hP
        · skip
          refine ev_iconst (x := (-1000000001)) rfl rfl ?_
          refine ev_iret rfl ?_
          exact hQ mem (FrW_refl _)
theorem pub_round {xs : am_R} {d n : Nat} {mem : am_M} {Q : am_P} (hI : Inv xs mem) (c : Int32) (w : Int32) (hQ : ∀ (rv : Int32) (m1 : am_M), RefA xs (d + 200) n 217 [.ref 221, .int c, .int w] rv m1 → Q (some (.int rv)) (am_SK n) m1) : am_ex (d + 200) 111 [.ref 29, .int c, .int w] (am_SK n) mem Q := by
  have hC := hI.2.1.1
  have hw := cp_w hC
  refine pub_gen (v := X_round (mem 222) c w) (fun m1 => FrW mem m1) (fun Q1 h => c_X11_round hC c w h) (fun m1 f1 Q2 h2 => ?_) hQ
  refine c_X12_round (f1 222 (by decide)) hw c w (fun m2 f2 hR2 => h2 m2 ?_)
  have hI1 : Inv xs m1 := Inv_town hI (fun q hq => f1 q (by omega)) (cp_W hC f1) (FrR_4 (FrR_refl m1)) (f1 222 (by decide)) hI.2.1.2 (Or.inl (Nat.le_refl _))
  obtain ⟨m3, hm3⟩ : ∃ m3 : am_M, m3 = fun q => if q = 221 then m1 221 else m2 q := ⟨_, rfl⟩
  have e1 : m3 221 = m1 221 := by rw [hm3]; exact if_pos rfl
  have e2 : ∀ q, q ≠ 221 → m3 q = m2 q := fun q hq => by rw [hm3]; exact if_neg hq
  have f3 : FrR m1 m3 := by
    refine ⟨fun q hq => ?_, fun i _ => ?_⟩
    · by_cases e : q = 221
      · rw [e, e1]
      · rw [e2 q e]
        exact FrQ_row f2 (by omega) (by omega) e
    · rw [e2 222 (by decide)]
      exact congrFun (FrQ_row f2 (by decide) (by decide) (by decide)) i
  have hI3 : Inv xs m3 := Inv_town hI1 (FrC_refl m1) hI1.2.1.1 (FrR_4 f3) ((e2 222 (by decide)).trans (FrQ_row f2 (by decide) (by decide) (by decide))) hI1.2.1.2 (Or.inl (Nat.le_refl _))
  have e3 : ∀ k, k ≠ 34 → m2 221 k = m3 221 k := fun k hk => by rw [e1]; exact f2 221 k (by decide) (by decide) (fun z => hk z.2)
  refine Inv_tp_fr hI3 (fun q hq => (e2 q (by omega)).symm) (fun k hk => e3 k (by omega)) ?_
  obtain ⟨tl, t1, t2, t3, t4⟩ := hI3.2.2.2.1
  refine ⟨tl, t1, by rw [← e2 62 (by decide)]; exact t2, by rw [e3 6 (by decide)]; exact t3, ?_⟩
  rw [← e2 63 (by decide), ← e2 226 (by decide)]
  exact t4
