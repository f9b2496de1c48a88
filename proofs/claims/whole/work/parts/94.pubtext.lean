/-! texts: all holds again -/
def dG (g : am_R) : Nat → Nat
  | 0 => 0
  | j + 1 => S_dp (g j) (dG g j)
theorem dG_L {g : am_R} : ∀ {l : List Int32}, stkAt g l → dG g l.length = dpL l
  | [], _ => rfl
  | a :: r, h => by
    show S_dp (g r.length) (dG g r.length) = S_dp a (dpL r)
    rw [h.1, dG_L h.2]
theorem dG_ok {g : am_R} {nm : Nat} : ∀ {l : List Int32}, stkAt g l → okL nm l → ∀ j, j < l.length → wfA nm (g j) (dG g j)
  | [], _, _, j, hj => absurd hj (Nat.not_lt_zero j)
  | a :: r, h, ho, j, hj => by
    have hj2 : j < r.length + 1 := hj
    by_cases e : j = r.length
    · rw [e, h.1, dG_L h.2]; exact ho.1
    · exact dG_ok h.2 ho.2 j (by omega)
theorem wfG_of {R g : am_R} {nm u c : Nat} (hR : ∀ j, j < c → R (217 + 96 * u + j) = g j) (hw : ∀ j, j < c → wfA nm (g j) (dG g j)) (h1 : dG g c = 1) : ∀ r k, k + r = c → wfG R nm u r k (dG g k) := by
  intro r
  induction r with
  | zero =>
    intro k hk
    have e : k = c := hk
    rw [e]
    exact h1
  | succ r ih =>
    intro k hk
    unfold wfG
    rw [hR k (by omega)]
    exact ⟨hw k (by omega), ih (k + 1) (by omega)⟩
theorem wfG_cb {R R' : am_R} {nm u : Nat} (h : ∀ k, k < 96 → R' (217 + 96 * u + k) = R (217 + 96 * u + k)) : ∀ r k m, k + r ≤ 96 → wfG R nm u r k m → wfG R' nm u r k m := by
  intro r
  induction r with
  | zero => intro k m _ hh; exact hh
  | succ r ih =>
    intro k m hk hh
    unfold wfG at hh ⊢
    rw [h k (by omega)]
    exact ⟨hh.1, ih _ _ (by omega) hh.2⟩
theorem st_map {g h : am_R} {f : Int32 → Int32} : ∀ {l : List Int32}, stkAt g l → stkAt h (l.map f) → ∀ k, k < l.length → h k = f (g k)
  | [], _, _, k, hk => absurd hk (Nat.not_lt_zero k)
  | a :: r, hg, hh, k, hk => by
    have hk2 : k < r.length + 1 := hk
    have h1 := hh.1
    rw [List.length_map] at h1
    by_cases e : k = r.length
    · rw [e, h1, hg.1]
    · exact st_map hg.2 hh.2 k (by omega)
section RX
variable {R g : am_R} {u key c na : Nat}
theorem RTx_6 : RTx R g u key c na 6 = nI (u + 1) := upd_eq
theorem RTx_h (hc : c ≤ 96) (hu : u < 14) : RTx R g u key c na (189 + 2 * u) = nI (1000 * key + c) := by
  unfold RTx
  rw [upd_ne (by omega), upC_ne (by omega), upd_ne (by omega), upd_eq]
theorem RTx_a (hc : c ≤ 96) (hu : u < 14) : RTx R g u key c na (190 + 2 * u) = nI na := by
  unfold RTx
  rw [upd_ne (by omega), upC_ne (by omega), show 190 + 2 * u = 189 + 2 * u + 1 by omega, upd_eq]
theorem RTx_c (hc : c ≤ 96) (hu : u < 14) {j : Nat} (hj : j < c) : RTx R g u key c na (217 + 96 * u + j) = g j := by
  unfold RTx
  rw [upd_ne (by omega), upC_in hj]
theorem RTx_o {i : Nat} (h6 : i ≠ 6) (h1 : i ≠ 189 + 2 * u) (h2 : i ≠ 190 + 2 * u) (h3 : ¬ (217 + 96 * u ≤ i ∧ i < 217 + 96 * u + c)) : RTx R g u key c na i = R i := by
  unfold RTx
  rw [upd_ne h6, upC_ne h3, upd_ne (by omega), upd_ne h1]
end RX
theorem Cpl_text {mem m2 : am_M} {R g : am_R} {u key c na : Nat} (hC : CplT 66 R mem) (hu : nn (R 6) = u) (hu14 : u < 14) (hk : key < 4) (hc : c ≤ 96) (hwf : ∀ j, j < c → wfA (nmK key) (g j) (dG g j)) (hd1 : dG g c = 1) (f1 : ∀ q, 34 ≤ q ∧ q ≤ 103 → q ≠ 62 → q ≠ 64 → q ≠ 65 → q ≠ 34 + 2 * u → q ≠ 35 + 2 * u → q ≠ 66 → q ≠ 72 → m2 q = mem q) (f66 : ∀ k, k ≠ 14 → m2 66 k = mem 66 k) (f66b : m2 66 14 = nI (u + 1)) (f72 : ∀ k, k ≠ key → m2 72 k = mem 72 k) (f72b : m2 72 key = nI u) (ft0 : m2 (34 + 2 * u) 0 = nI key) (ft1 : m2 (34 + 2 * u) 1 = nI na) (ft2 : m2 (34 + 2 * u) 2 = nI c) (ftc : ∀ k, k < c → m2 (35 + 2 * u) k = S_enc key (g k)) : CplT 66 (RTx R g u key c na) m2 := by
  obtain ⟨⟨hw, hts⟩, g1, g2, g3, g4, g5, g6, g7, g8⟩ := hC
  have hb := wb_all hw
  have eo : ∀ i, i < 189 → i ≠ 6 → RTx R g u key c na i = R i := fun i h1 h2 => RTx_o h2 (by omega) (by omega) (by omega)
  have e6 : nn (RTx R g u key c na 6) = u + 1 := by rw [RTx_6, nn_nI (by omega)]
  have eh : nn (RTx R g u key c na (189 + 2 * u)) = 1000 * key + c := by rw [RTx_h hc hu14, nn_nI (by omega)]
  have ek : S_key (RTx R g u key c na) u = key := by unfold S_key; rw [eh]; omega
  have en : S_num (RTx R g u key c na) u = c := by unfold S_num; rw [eh]; omega
  have eho : ∀ t, t < u → RTx R g u key c na (189 + 2 * t) = R (189 + 2 * t) := fun t ht => RTx_o (by omega) (by omega) (by omega) (by omega)
  have eko : ∀ t, t < u → S_key (RTx R g u key c na) t = S_key R t := fun t ht => by unfold S_key; rw [eho t ht]
  have eno : ∀ t, t < u → S_num (RTx R g u key c na) t = S_num R t := fun t ht => by unfold S_num; rw [eho t ht]
  have eco : ∀ t, t < u → ∀ k, k < 96 → RTx R g u key c na (217 + 96 * t + k) = R (217 + 96 * t + k) := fun t ht k hk => RTx_o (by omega) (by omega) (by omega) (by omega)
  have ecnt : ∀ k2 m, m ≤ u → S_cnt (RTx R g u key c na) k2 m = S_cnt R k2 m := by
    intro k2 m
    induction m with
    | zero => intro _; rfl
    | succ m ih => intro hm; unfold S_cnt; rw [eko m (by omega), ih (by omega)]
  have hw' : wfR (RTx R g u key c na) := by
    obtain ⟨⟨a0, a1, a2⟩, ⟨a3, a4, a5, a6, a7, a8⟩, aC, aJ, aL, ach, ast⟩ := hw
    refine ⟨⟨by rw [eo 0 (by decide) (by decide)]; exact a0, by rw [eo 1 (by decide) (by decide)]; exact a1, by rw [eo 2 (by decide) (by decide)]; exact a2⟩, ⟨by rw [eo 3 (by decide) (by decide)]; exact a3, by rw [eo 4 (by decide) (by decide)]; exact a4, by rw [eo 5 (by decide) (by decide)]; exact a5, by rw [RTx_6]; exact isN_lt (by omega) (by decide), by rw [eo 7 (by decide) (by decide)]; exact a7, by rw [eo 8 (by decide) (by decide)]; exact a8⟩, ?_, ?_, ?_, ?_, ?_⟩
    · intro x hx
      rw [eo 3 (by decide) (by decide)] at hx
      exact wfC_cg (fun i h1 h2 => eo i (by omega) (by omega)) (aC x hx)
    · intro x hx
      rw [eo 4 (by decide) (by decide)] at hx
      exact wfJ_cg (by rw [eo 3 (by decide) (by decide)]; exact Nat.le_refl _) (fun i h1 h2 => eo i (by omega) (by omega)) (aJ x hx)
    · intro x hx
      rw [eo 5 (by decide) (by decide)] at hx
      exact wfL_cg (by rw [eo 4 (by decide) (by decide)]; exact Nat.le_refl _) (fun i h1 h2 => eo i (by omega) (by omega)) (aL x hx)
    · intro x hx
      rw [eo 7 (by decide) (by decide)] at hx
      rw [eo (9 + x) (by omega) (by omega), eo 5 (by decide) (by decide)]
      exact ach x hx
    · intro x hx
      rw [eo 8 (by decide) (by decide)] at hx
      rw [eo (17 + x) (by omega) (by omega), eo 4 (by decide) (by decide)]
      exact ast x hx
  have hts' : wfTs (RTx R g u key c na) := by
    intro t ht
    rw [e6] at ht
    by_cases e : t = u
    · subst e
      refine ⟨by rw [RTx_h hc hu14]; exact isN_lt (by omega) (by decide), by rw [en]; exact hc, ?_⟩
      rw [en, ek]
      exact wfG_of (fun j hj => RTx_c hc hu14 hj) hwf hd1 c 0 (by omega)
    · have htu : t < u := by omega
      obtain ⟨w1, w2, w3⟩ := hts t (by omega)
      refine ⟨by rw [eho t htu]; exact w1, by rw [eno t htu]; exact w2, ?_⟩
      rw [eno t htu, eko t htu]
      exact wfG_cb (eco t htu) _ _ _ (by omega) w3
  refine ⟨⟨hw', hts'⟩, ?_, ?_, ?_, ?_, ?_, ?_, ?_, ?_⟩
  · obtain ⟨c1, c2, c3, c4, c5, c6, c7, c8, c9⟩ := g1
    refine ⟨?_, ?_, ?_, ?_, ?_, ?_, ?_, ?_, ?_⟩
    · rw [f66 2 (by decide), eo 3 (by decide) (by decide)]; exact c1
    · rw [f66 4 (by decide), eo 4 (by decide) (by decide)]; exact c2
    · rw [f66 6 (by decide), eo 5 (by decide) (by decide)]; exact c3
    · rw [f66 7 (by decide), eo 0 (by decide) (by decide)]; exact c4
    · rw [f66 8 (by decide), eo 1 (by decide) (by decide)]; exact c5
    · rw [f66 9 (by decide), eo 2 (by decide) (by decide)]; exact c6
    · rw [f66 11 (by decide), eo 7 (by decide) (by decide)]; exact c7
    · rw [f66 13 (by decide), eo 8 (by decide) (by decide)]; exact c8
    · rw [f66b, RTx_6]
  · intro x hx k hk6
    rw [eo 3 (by decide) (by decide)] at hx
    rw [eo (23 + 6 * x + k) (by omega) (by omega), f1 (66 + 7 + x) (by omega) (by omega) (by omega) (by omega) (by omega) (by omega) (by omega) (by omega)]
    exact g2 x hx k hk6
  · intro j hj
    rw [eo 4 (by decide) (by decide)] at hj
    rw [eo (41 + 3 * j) (by omega) (by omega), eo (41 + 3 * j + 1) (by omega) (by omega), eo (41 + 3 * j + 2) (by omega) (by omega), f1 (66 + 10 + j) (by omega) (by omega) (by omega) (by omega) (by omega) (by omega) (by omega) (by omega), S_cab_cg j (fun i hi => eo (41 + 3 * i) (by omega) (by omega))]
    exact g3 j hj
  · intro l hl k hk7
    rw [eo 5 (by decide) (by decide)] at hl
    rw [eo (77 + 7 * l + k) (by omega) (by omega), f1 (66 + 22 + l) (by omega) (by omega) (by omega) (by omega) (by omega) (by omega) (by omega) (by omega)]
    exact g4 l hl k hk7
  · intro k hk8
    rw [eo 7 (by decide) (by decide)] at hk8
    rw [eo (9 + k) (by omega) (by omega), f1 (66 + 4) (by omega) (by omega) (by omega) (by omega) (by omega) (by omega) (by omega) (by omega)]
    exact g5 k hk8
  · intro k hk8
    rw [eo 8 (by decide) (by decide)] at hk8
    rw [eo (17 + k) (by omega) (by omega), f1 (66 + 5) (by omega) (by omega) (by omega) (by omega) (by omega) (by omega) (by omega) (by omega)]
    exact g6 k hk8
  · intro k2 hk2
    rw [e6]
    show m2 72 k2 = S_cntN (if S_key (RTx R g u key c na) u = k2 then some u else S_cnt (RTx R g u key c na) k2 u)
    rw [ek]
    by_cases e : key = k2
    · rw [if_pos e, ← e, f72b]; rfl
    · rw [if_neg e, f72 k2 (fun z => e z.symm), ecnt k2 u (Nat.le_refl _), ← hu]
      exact g7 k2 hk2
  · intro t ht
    rw [e6] at ht
    by_cases e : t = u
    · subst e
      refine ⟨by rw [ft0, ek], by rw [ft1, RTx_a hc hu14], by rw [ft2, en], fun k hk9 => ?_⟩
      rw [en] at hk9
      rw [ftc k hk9, ek, RTx_c hc hu14 hk9]
    · have htu : t < u := by omega
      obtain ⟨b1, b2, b3, b4⟩ := g8 t (by omega)
      have hq1 : m2 (34 + 2 * t) = mem (34 + 2 * t) := f1 _ (by omega) (by omega) (by omega) (by omega) (by omega) (by omega) (by omega) (by omega)
      have hq2 : m2 (35 + 2 * t) = mem (35 + 2 * t) := f1 _ (by omega) (by omega) (by omega) (by omega) (by omega) (by omega) (by omega) (by omega)
      have hw9 := (hts t (by omega)).2.1
      refine ⟨?_, ?_, ?_, fun k hk9 => ?_⟩
      · rw [hq1, eko t htu]; exact b1
      · rw [hq1, RTx_o (by omega) (by omega) (by omega) (by omega)]; exact b2
      · rw [hq1, eno t htu]; exact b3
      · rw [eno t htu] at hk9
        rw [hq2, eko t htu, eco t htu k (by omega)]
        exact b4 k hk9
theorem cp_frT {mem m2 : am_M} {R : am_R} {u : Nat} (h : CplT 104 R mem) (hu : nn (R 6) ≤ u) (e : ∀ q, (34 ≤ q ∧ q < 34 + 2 * u) ∨ (104 ≤ q ∧ q ≤ 141) → m2 q = mem q) : CplT 104 R m2 := by
  obtain ⟨h0, h1, h2, h3, h4, h5, h6, h7, h8⟩ := h
  have hb := wb_all h0.1
  refine ⟨h0, ?_, fun c hc k hk => ?_, fun j hj => ?_, fun l hl k hk => ?_, fun k hk => ?_, fun k hk => ?_, fun key hk => ?_, fun v hv => ?_⟩
  · rw [e 104 (by omega)]; exact h1
  · rw [e _ (by omega)]; exact h2 c hc k hk
  · rw [e (104 + 10 + j) (by omega)]; exact h3 j hj
  · rw [e _ (by omega)]; exact h4 l hl k hk
  · rw [e _ (by omega)]; exact h5 k hk
  · rw [e _ (by omega)]; exact h6 k hk
  · rw [e _ (by omega)]; exact h7 key hk
  · unfold CplB
    rw [e (34 + 2 * v) (by omega), e (35 + 2 * v) (by omega)]
    exact h8 v hv
theorem pub_text {xs : am_R} {d n : Nat} : PubText xs d n := by
  intro mem hI Q hQ
  obtain ⟨tl, htl, h1, h2, hk⟩ := hI.2.2.2.1
  have hTC : TpC (fun k => nn (mem 226 k)) tl mem := ⟨htl, h1, fun k hk' => (hk k hk').1.trans (hk k hk').2.1, fun k hk' => (hk k hk').2.2⟩
  have hS := StrM_0 hI.1
  have hC66 := hI.2.1.1
  have hb := wb_all hC66.1.1
  have h14 := cp_t14 hC66
  have hTR : ∀ m1 : am_M, m1 221 = mem 221 → m1 226 = mem 226 → TpR (fun k => nn (mem 226 k)) tl m1 := fun m1 e1 e2 => ⟨htl, by rw [e1]; exact h2, fun k hk' => by rw [e2]; exact (hk k hk').2.1, fun k hk' => (hk k hk').2.2⟩
  have hKM : ∀ m1 : am_M, m1 227 = mem 227 → m1 228 = mem 228 → KyM m1 := fun m1 e1 e2 => KyM_0 (by rw [e1, e2]; exact hI.2.2.2.2.2.2.2.1)
  have hIE : ∀ m1 m2 : am_M, FrE mem m1 → FrU m1 m2 → Inv xs m2 := by
    intro m1 m2 hE hU
    refine Inv_tp_fr hI (fun q hq => by rw [hU.1 q (by omega) (by omega), hE.1 q (by omega) (by omega) (by omega)]) (fun k hk => by rw [hU.2.1 k (by omega) (by omega) (by omega) (by omega), hE.1 221 (by decide) (by decide) (by decide)]) ⟨0, by decide, ?_, hU.2.2, fun k hk => absurd hk (Nat.not_lt_zero k)⟩
    rw [hU.1 62 (by decide) (by decide)]
    exact hE.2
  refine c_X11_text hTC hS (nn (mem 222 6)) (by omega) h14 (fun p2 m1 hA hF hE => hQ _ _ (fun Q2 g2 => ?_)) (fun key out na m1 hG hu hE => hQ _ _ (fun Q2 g2 => ?_)) (fun key out na m1 hG hu hN => hQ _ _ (fun Q2 g2 => ?_))
  · exact c_X12_textF (hTR m1 (hE.1 221 (by decide) (by decide) (by decide)) (hE.1 226 (by decide) (by decide) (by decide))) (hKM m1 (hE.1 227 (by decide) (by decide) (by decide)) (hE.1 228 (by decide) (by decide) (by decide))) p2 hF (fun m2 hU => g2 m2 (hIE m1 m2 hE hU))
  · exact c_X12_textG (hTR m1 (hE.1 221 (by decide) (by decide) (by decide)) (hE.1 226 (by decide) (by decide) (by decide))) (hKM m1 (hE.1 227 (by decide) (by decide) (by decide)) (hE.1 228 (by decide) (by decide) (by decide))) key out na hG (nn (mem 222 6)) (by omega) (by rw [hE.1 222 (by decide) (by decide) (by decide)]; exact hC66.1.1.2.1.2.2.2.1.1) (fun _ m2 hU => g2 m2 (hIE m1 m2 hE hU)) (fun z => absurd hu (by omega))
  · obtain ⟨n1, n2, n3, n4, n5, n6, n7, n8, n9, n10⟩ := hN
    have hk4 := hG.1.1
    have e222 : m1 222 = mem 222 := n1 222 (by omega) (by omega) (by omega) (by omega) (by omega) (by omega) (by omega)
    refine c_X12_textG (hTR m1 (n1 221 (by omega) (by omega) (by omega) (by omega) (by omega) (by omega) (by omega)) (n1 226 (by omega) (by omega) (by omega) (by omega) (by omega) (by omega) (by omega))) (hKM m1 (n1 227 (by omega) (by omega) (by omega) (by omega) (by omega) (by omega) (by omega)) (n1 228 (by omega) (by omega) (by omega) (by omega) (by omega) (by omega) (by omega))) key out na hG (nn (mem 222 6)) (by omega) (by rw [e222]; exact hC66.1.1.2.1.2.2.2.1.1) (fun z => absurd hu (by omega)) (fun _ m2 g hg v1 v2 => g2 m2 ?_)
    rw [e222] at v2
    have hol := hG.2.1
    have hE : ∀ q, q ≠ 62 → q ≠ 64 → q ≠ 65 → q ≠ 34 + 2 * nn (mem 222 6) → q ≠ 35 + 2 * nn (mem 222 6) → q ≠ 66 → q ≠ 72 → q ≠ 221 → q ≠ 222 → ¬ (229 ≤ q ∧ q ≤ 231) → m2 q = mem q := fun q a1 a2 a3 a4 a5 a6 a7 a8 a9 a10 => (v1.1 q a8 a9 a10).trans (n1 q a1 a2 a3 a4 a5 a6 a7)
    have hV : ∀ q, q ≤ 220 → m2 q = m1 q := fun q hq => v1.1 q (by omega) (by omega) (by omega)
    have e221 : ∀ k, k = 3 ∨ k = 43 → m2 221 k = mem 221 k := fun k hk => by rw [v1.2.1 k (by omega) (by omega) (by omega) (by omega), n1 221 (by omega) (by omega) (by omega) (by omega) (by omega) (by omega) (by omega)]
    have hCn : CplT 66 (m2 222) m2 := by
      rw [v2]
      refine Cpl_text hC66 rfl hu hk4 hol (dG_ok hg hG.2.2.1) (by rw [dG_L hg]; exact hG.2.2.2.1) (fun q b1 b2 b3 b4 b5 b6 b7 b8 => hE q b2 b3 b4 b5 b6 b7 b8 (by omega) (by omega) (by omega)) ?_ ?_ ?_ ?_ ?_ ?_ ?_ ?_
      · intro k hk; rw [hV 66 (by decide)]; exact n3 k hk
      · rw [hV 66 (by decide)]; exact n4
      · intro k hk; rw [hV 72 (by decide)]; exact n5 k hk
      · rw [hV 72 (by decide)]; exact n6
      · rw [hV _ (by omega)]; exact n7
      · rw [hV _ (by omega)]; exact n8
      · rw [hV _ (by omega)]; exact n9
      · intro k hk
        rw [hV _ (by omega)]
        exact st_map hg n10 k hk
    obtain ⟨i1, ⟨i2, i2b⟩, i3, i4, i5, i6, i7, i8, i9⟩ := hI
    refine ⟨fun q hq => (hE q (by omega) (by omega) (by omega) (by omega) (by omega) (by omega) (by omega) (by omega) (by omega) (by omega)).trans (i1 q hq), ⟨hCn, ?_⟩, ⟨?_, fun z => ?_⟩, ⟨0, by decide, ?_, v1.2.2, fun k hk => absurd hk (Nat.not_lt_zero k)⟩, ?_, ?_, ?_, ?_, ?_⟩
    · rw [v2, RTx_o (by omega) (by omega) (by omega) (by omega)]; exact i2b
    · rw [hE 29 (by omega) (by omega) (by omega) (by omega) (by omega) (by omega) (by omega) (by omega) (by omega) (by omega), e221 3 (by decide)]; exact i3.1
    · rw [e221 3 (by decide)] at z
      obtain ⟨z1, z2, z3⟩ := i3.2 z
      rw [hE 223 (by omega) (by omega) (by omega) (by omega) (by omega) (by omega) (by omega) (by omega) (by omega) (by omega)]
      refine ⟨cp_frT z1 z3 (fun q hq => ?_), z2, ?_⟩
      · by_cases hq2 : q = 62 ∨ q = 64 ∨ q = 65
        · omega
        · exact hE q (by omega) (by omega) (by omega) (by omega) (by omega) (by omega) (by omega) (by omega) (by omega) (by omega)
      · rw [v2, RTx_6, nn_nI (by omega)]; omega
    · rw [hV 62 (by decide)]; exact n2
    · exact I_sh_fr i5 (fun q hq => hE q (by omega) (by omega) (by omega) (by omega) (by omega) (by omega) (by omega) (by omega) (by omega) (by omega))
    · exact I_sl_fr i6 (fun q hq => hE q (by omega) (by omega) (by omega) (by omega) (by omega) (by omega) (by omega) (by omega) (by omega) (by omega))
    · exact I_wt_fr i7 (by rw [hE 29 (by omega) (by omega) (by omega) (by omega) (by omega) (by omega) (by omega) (by omega) (by omega) (by omega)]) (e221 43 (by decide)) (hE 195 (by omega) (by omega) (by omega) (by omega) (by omega) (by omega) (by omega) (by omega) (by omega) (by omega)) (hE 252 (by omega) (by omega) (by omega) (by omega) (by omega) (by omega) (by omega) (by omega) (by omega) (by omega))
    · rw [hE 227 (by omega) (by omega) (by omega) (by omega) (by omega) (by omega) (by omega) (by omega) (by omega) (by omega), hE 228 (by omega) (by omega) (by omega) (by omega) (by omega) (by omega) (by omega) (by omega) (by omega) (by omega)]; exact i8
    · intro i hi
      rw [v2, RTx_o (by omega) (by omega) (by omega) (by omega), hE 223 (by omega) (by omega) (by omega) (by omega) (by omega) (by omega) (by omega) (by omega) (by omega) (by omega), hE 224 (by omega) (by omega) (by omega) (by omega) (by omega) (by omega) (by omega) (by omega) (by omega) (by omega)]
      exact i9 i hi
