/-! what a change of the row leaves as it was; changes of one thing -/
theorem S_cab_cg {R R' : am_R} : ∀ j, (∀ i, i ≤ j → R' (41 + 3 * i) = R (41 + 3 * i)) → S_cab R' j = S_cab R j := by
  intro j
  induction j using Nat.strongRecOn with
  | ind j ih =>
    intro h
    have hj := h j (Nat.le_refl _)
    by_cases hf : nn (R (41 + 3 * j)) < j
    · have hf' : nn (R' (41 + 3 * j)) < j := by rw [hj]; exact hf
      rw [S_cab_eq hf', S_cab_eq hf, hj]
      exact ih _ hf (fun i hi => h i (by omega))
    · have hf' : ¬ nn (R' (41 + 3 * j)) < j := by rw [hj]; exact hf
      rw [S_cab_top hf', S_cab_top hf, hj]
theorem wfG_cg {R R' : am_R} {nm u : Nat} (h : ∀ i, 189 ≤ i → R' i = R i) : ∀ r k m, wfG R nm u r k m → wfG R' nm u r k m := by
  intro r
  induction r with
  | zero => intro k m hh; exact hh
  | succ r ih =>
    intro k m hh
    unfold wfG at hh ⊢
    rw [h (217 + 96 * u + k) (by omega)]
    exact ⟨hh.1, ih _ _ hh.2⟩
theorem S_key_cg {R R' : am_R} (h : ∀ i, 189 ≤ i → R' i = R i) (u : Nat) : S_key R' u = S_key R u := by
  unfold S_key; rw [h _ (by omega)]
theorem S_num_cg {R R' : am_R} (h : ∀ i, 189 ≤ i → R' i = R i) (u : Nat) : S_num R' u = S_num R u := by
  unfold S_num; rw [h _ (by omega)]
theorem wfTs_cg {R R' : am_R} (h6 : R' 6 = R 6) (h : ∀ i, 189 ≤ i → R' i = R i) (hw : wfTs R) : wfTs R' := by
  intro u hu
  rw [h6] at hu
  obtain ⟨a, b, c⟩ := hw u hu
  refine ⟨?_, ?_, ?_⟩
  · rw [h _ (by omega)]; exact a
  · rw [S_num_cg h]; exact b
  · rw [S_num_cg h, S_key_cg h]; exact wfG_cg h _ _ _ c
theorem S_cnt_cg {R R' : am_R} (h : ∀ i, 189 ≤ i → R' i = R i) (key : Nat) : ∀ k, S_cnt R' key k = S_cnt R key k := by
  intro k
  induction k with
  | zero => rfl
  | succ k ih => unfold S_cnt; rw [S_key_cg h, ih]
theorem CplB_cg {R R' : am_R} {mem mem' : am_M} {u : Nat} (h : ∀ i, 189 ≤ i → R' i = R i) (h1 : mem' (34 + 2 * u) = mem (34 + 2 * u)) (h2 : mem' (35 + 2 * u) = mem (35 + 2 * u)) (hb : CplB u R mem) : CplB u R' mem' := by
  unfold CplB at hb ⊢
  rw [h1, h2, S_key_cg h, S_num_cg h, h _ (by omega)]
  refine ⟨hb.1, hb.2.1, hb.2.2.1, fun k hk => ?_⟩
  rw [h _ (by omega)]
  exact hb.2.2.2 k hk
theorem wfC_cg {R R' : am_R} {c : Nat} (h : ∀ i, 23 + 6 * c ≤ i → i < 23 + 6 * c + 6 → R' i = R i) (hh : wfC R c) : wfC R' c := by
  unfold wfC at hh ⊢
  rw [h _ (by omega) (by omega), h (23 + 6 * c + 1) (by omega) (by omega), h (23 + 6 * c + 2) (by omega) (by omega), h (23 + 6 * c + 3) (by omega) (by omega), h (23 + 6 * c + 4) (by omega) (by omega), h (23 + 6 * c + 5) (by omega) (by omega)]
  exact hh
theorem wfJ_cg {R R' : am_R} {c : Nat} (h3 : nn (R 3) ≤ nn (R' 3)) (h : ∀ i, 41 + 3 * c ≤ i → i < 41 + 3 * c + 3 → R' i = R i) (hh : wfJ R c) : wfJ R' c := by
  unfold wfJ at hh ⊢
  rw [h _ (by omega) (by omega), h (41 + 3 * c + 1) (by omega) (by omega), h (41 + 3 * c + 2) (by omega) (by omega)]
  refine ⟨⟨hh.1.1, ?_⟩, hh.2⟩
  have := hh.1.2
  omega
theorem wfL_cg {R R' : am_R} {c : Nat} (h4 : nn (R 4) ≤ nn (R' 4)) (h : ∀ i, 77 + 7 * c ≤ i → i < 77 + 7 * c + 7 → R' i = R i) (hh : wfL R c) : wfL R' c := by
  unfold wfL at hh ⊢
  rw [h _ (by omega) (by omega), h (77 + 7 * c + 1) (by omega) (by omega), h (77 + 7 * c + 2) (by omega) (by omega), h (77 + 7 * c + 3) (by omega) (by omega), h (77 + 7 * c + 4) (by omega) (by omega), h (77 + 7 * c + 5) (by omega) (by omega), h (77 + 7 * c + 6) (by omega) (by omega)]
  refine ⟨hh.1, ⟨hh.2.1.1, ?_⟩, hh.2.2⟩
  have := hh.2.1.2
  omega
section CU
variable {t : Nat} {R R' : am_R} {mem mem' : am_M}
/-- one lamp is another -/
theorem cp_lset (ht : am_T t) (h : CplT t R mem) {l : Nat} (hl : l < nn (R 5)) (hR : ∀ i, ¬ (77 + 7 * l ≤ i ∧ i < 77 + 7 * l + 7) → R' i = R i) (hwl : wfL R' l) (hm : ∀ q, q ≠ t + 22 + l → mem' q = mem q) (hml : ∀ k, k < 7 → mem' (t + 22 + l) k = R' (77 + 7 * l + k)) : CplT t R' mem' := by
  obtain ⟨⟨hw, hT⟩, h1, h2, h3, h4, h5, h6, h7, h8⟩ := h
  have hb := wb_all hw
  have hg := ht.ge
  obtain ⟨w0, w1, w2, w3, w4, w5, w6⟩ := hw
  have z : ∀ i, i < 77 → R' i = R i := fun i hi => hR i (by omega)
  have y : ∀ i, 189 ≤ i → R' i = R i := fun i hi => hR i (by omega)
  refine ⟨⟨⟨?_, ?_, ?_, ?_, ?_, ?_, ?_⟩, wfTs_cg (z 6 (by decide)) y hT⟩, ?_, ?_, ?_, ?_, ?_, ?_, ?_, ?_⟩
  · rw [z 0 (by decide), z 1 (by decide), z 2 (by decide)]; exact w0
  · rw [z 3 (by decide), z 4 (by decide), z 5 (by decide), z 6 (by decide), z 7 (by decide), z 8 (by decide)]; exact w1
  · rw [z 3 (by decide)]; intro c hc; exact wfC_cg (fun i _ _ => z i (by omega)) (w2 c hc)
  · rw [z 4 (by decide)]; intro c hc; exact wfJ_cg (by rw [z 3 (by decide)]; exact Nat.le_refl _) (fun i _ _ => z i (by omega)) (w3 c hc)
  · rw [z 5 (by decide)]; intro c hc
    by_cases e : c = l
    · rw [e]; exact hwl
    · exact wfL_cg (by rw [z 4 (by decide)]; exact Nat.le_refl _) (fun i _ _ => hR i (by omega)) (w4 c hc)
  · rw [z 7 (by decide), z 5 (by decide)]; intro k hk; rw [z (9 + k) (by omega)]; exact w5 k hk
  · rw [z 8 (by decide), z 4 (by decide)]; intro k hk; rw [z (17 + k) (by omega)]; exact w6 k hk
  · rw [hm t (by omega), z 3 (by decide), z 4 (by decide), z 5 (by decide), z 0 (by decide), z 1 (by decide), z 2 (by decide), z 7 (by decide), z 8 (by decide), z 6 (by decide)]; exact h1
  · rw [z 3 (by decide)]; intro c hc k hk; rw [hm _ (by omega), z _ (by omega)]; exact h2 c hc k hk
  · rw [z 4 (by decide)]; intro j hj; rw [hm (t + 10 + j) (by omega), z (41 + 3 * j) (by omega), z (41 + 3 * j + 1) (by omega), z (41 + 3 * j + 2) (by omega), S_cab_cg j (fun i hi => z _ (by omega))]; exact h3 j hj
  · rw [z 5 (by decide)]; intro c hc k hk
    by_cases e : c = l
    · rw [e]; exact hml k hk
    · rw [hm _ (by omega), hR _ (by omega)]; exact h4 c hc k hk
  · rw [z 7 (by decide)]; intro k hk; rw [hm _ (by omega), z _ (by omega)]; exact h5 k hk
  · rw [z 8 (by decide)]; intro k hk; rw [hm _ (by omega), z _ (by omega)]; exact h6 k hk
  · intro key hk; rw [hm _ (by omega), z 6 (by decide), S_cnt_cg y]; exact h7 key hk
  · rw [z 6 (by decide)]; intro u hu; exact CplB_cg y (hm _ (by omega)) (hm _ (by omega)) (h8 u hu)
/-- one cabinet is another -/
theorem cp_cset (ht : am_T t) (h : CplT t R mem) {l : Nat} (hl : l < nn (R 3)) (hR : ∀ i, ¬ (23 + 6 * l ≤ i ∧ i < 23 + 6 * l + 6) → R' i = R i) (hwl : wfC R' l) (hm : ∀ q, q ≠ t + 7 + l → mem' q = mem q) (hml : ∀ k, k < 6 → mem' (t + 7 + l) k = R' (23 + 6 * l + k)) : CplT t R' mem' := by
  obtain ⟨⟨hw, hT⟩, h1, h2, h3, h4, h5, h6, h7, h8⟩ := h
  have hb := wb_all hw
  have hg := ht.ge
  obtain ⟨w0, w1, w2, w3, w4, w5, w6⟩ := hw
  have z : ∀ i, i < 23 ∨ 41 ≤ i → R' i = R i := fun i hi => hR i (by omega)
  have y : ∀ i, 189 ≤ i → R' i = R i := fun i hi => hR i (by omega)
  refine ⟨⟨⟨?_, ?_, ?_, ?_, ?_, ?_, ?_⟩, wfTs_cg (z 6 (by decide)) y hT⟩, ?_, ?_, ?_, ?_, ?_, ?_, ?_, ?_⟩
  · rw [z 0 (by decide), z 1 (by decide), z 2 (by decide)]; exact w0
  · rw [z 3 (by decide), z 4 (by decide), z 5 (by decide), z 6 (by decide), z 7 (by decide), z 8 (by decide)]; exact w1
  · rw [z 3 (by decide)]; intro c hc
    by_cases e : c = l
    · rw [e]; exact hwl
    · exact wfC_cg (fun i _ _ => hR i (by omega)) (w2 c hc)
  · rw [z 4 (by decide)]; intro c hc; exact wfJ_cg (by rw [z 3 (by decide)]; exact Nat.le_refl _) (fun i _ _ => z i (by omega)) (w3 c hc)
  · rw [z 5 (by decide)]; intro c hc; exact wfL_cg (by rw [z 4 (by decide)]; exact Nat.le_refl _) (fun i _ _ => z i (by omega)) (w4 c hc)
  · rw [z 7 (by decide), z 5 (by decide)]; intro k hk; rw [z (9 + k) (by omega)]; exact w5 k hk
  · rw [z 8 (by decide), z 4 (by decide)]; intro k hk; rw [z (17 + k) (by omega)]; exact w6 k hk
  · rw [hm t (by omega), z 3 (by decide), z 4 (by decide), z 5 (by decide), z 0 (by decide), z 1 (by decide), z 2 (by decide), z 7 (by decide), z 8 (by decide), z 6 (by decide)]; exact h1
  · rw [z 3 (by decide)]; intro c hc k hk
    by_cases e : c = l
    · rw [e]; exact hml k hk
    · rw [hm _ (by omega), hR _ (by omega)]; exact h2 c hc k hk
  · rw [z 4 (by decide)]; intro j hj; rw [hm (t + 10 + j) (by omega), z (41 + 3 * j) (by omega), z (41 + 3 * j + 1) (by omega), z (41 + 3 * j + 2) (by omega), S_cab_cg j (fun i hi => z _ (by omega))]; exact h3 j hj
  · rw [z 5 (by decide)]; intro c hc k hk; rw [hm _ (by omega), z _ (by omega)]; exact h4 c hc k hk
  · rw [z 7 (by decide)]; intro k hk; rw [hm _ (by omega), z _ (by omega)]; exact h5 k hk
  · rw [z 8 (by decide)]; intro k hk; rw [hm _ (by omega), z _ (by omega)]; exact h6 k hk
  · intro key hk; rw [hm _ (by omega), z 6 (by decide), S_cnt_cg y]; exact h7 key hk
  · rw [z 6 (by decide)]; intro u hu; exact CplB_cg y (hm _ (by omega)) (hm _ (by omega)) (h8 u hu)
/-- one joint breaks or is mended -/
theorem cp_jset (ht : am_T t) (h : CplT t R mem) {l : Nat} (hl : l < nn (R 4)) (hR : ∀ i, ¬ i = 41 + 3 * l + 2 → R' i = R i) (hwl : isN (R' (41 + 3 * l + 2)) 2) (hm : ∀ q, q ≠ t + 10 + l → mem' q = mem q) (hmk : ∀ k, k ≠ 3 → mem' (t + 10 + l) k = mem (t + 10 + l) k) (hml : mem' (t + 10 + l) 3 = R' (41 + 3 * l + 2)) : CplT t R' mem' := by
  obtain ⟨⟨hw, hT⟩, h1, h2, h3, h4, h5, h6, h7, h8⟩ := h
  have hb := wb_all hw
  have hg := ht.ge
  obtain ⟨w0, w1, w2, w3, w4, w5, w6⟩ := hw
  have z : ∀ i, i < 41 ∨ 77 ≤ i → R' i = R i := fun i hi => hR i (by omega)
  have y : ∀ i, 189 ≤ i → R' i = R i := fun i hi => hR i (by omega)
  refine ⟨⟨⟨?_, ?_, ?_, ?_, ?_, ?_, ?_⟩, wfTs_cg (z 6 (by decide)) y hT⟩, ?_, ?_, ?_, ?_, ?_, ?_, ?_, ?_⟩
  · rw [z 0 (by decide), z 1 (by decide), z 2 (by decide)]; exact w0
  · rw [z 3 (by decide), z 4 (by decide), z 5 (by decide), z 6 (by decide), z 7 (by decide), z 8 (by decide)]; exact w1
  · rw [z 3 (by decide)]; intro c hc; exact wfC_cg (fun i _ _ => z i (by omega)) (w2 c hc)
  · rw [z 4 (by decide)]; intro c hc
    by_cases e : c = l
    · subst e
      have hj := w3 c hc
      unfold wfJ at hj ⊢
      rw [hR (41 + 3 * c) (by omega), hR (41 + 3 * c + 1) (by omega), z 3 (by decide)]
      exact ⟨hj.1, hj.2.1, hwl⟩
    · exact wfJ_cg (by rw [z 3 (by decide)]; exact Nat.le_refl _) (fun i _ _ => hR i (by omega)) (w3 c hc)
  · rw [z 5 (by decide)]; intro c hc; exact wfL_cg (by rw [z 4 (by decide)]; exact Nat.le_refl _) (fun i _ _ => z i (by omega)) (w4 c hc)
  · rw [z 7 (by decide), z 5 (by decide)]; intro k hk; rw [z (9 + k) (by omega)]; exact w5 k hk
  · rw [z 8 (by decide), z 4 (by decide)]; intro k hk; rw [z (17 + k) (by omega)]; exact w6 k hk
  · rw [hm t (by omega), z 3 (by decide), z 4 (by decide), z 5 (by decide), z 0 (by decide), z 1 (by decide), z 2 (by decide), z 7 (by decide), z 8 (by decide), z 6 (by decide)]; exact h1
  · rw [z 3 (by decide)]; intro c hc k hk; rw [hm _ (by omega), z _ (by omega)]; exact h2 c hc k hk
  · rw [z 4 (by decide)]; intro j hj
    rw [S_cab_cg j (fun i hi => hR _ (by omega)), hR (41 + 3 * j) (by omega), hR (41 + 3 * j + 1) (by omega)]
    by_cases e : j = l
    · subst e
      rw [hmk 0 (by decide), hmk 1 (by decide), hmk 2 (by decide), hml]
      have hj3 := h3 j hj
      exact ⟨hj3.1, hj3.2.1, hj3.2.2.1, rfl⟩
    · rw [hm (t + 10 + j) (by omega), hR (41 + 3 * j + 2) (by omega)]; exact h3 j hj
  · rw [z 5 (by decide)]; intro c hc k hk; rw [hm _ (by omega), z _ (by omega)]; exact h4 c hc k hk
  · rw [z 7 (by decide)]; intro k hk; rw [hm _ (by omega), z _ (by omega)]; exact h5 k hk
  · rw [z 8 (by decide)]; intro k hk; rw [hm _ (by omega), z _ (by omega)]; exact h6 k hk
  · intro key hk; rw [hm _ (by omega), z 6 (by decide), S_cnt_cg y]; exact h7 key hk
  · rw [z 6 (by decide)]; intro u hu; exact CplB_cg y (hm _ (by omega)) (hm _ (by omega)) (h8 u hu)
/-- hour, day, feasts; how many are chosen, how many stops there are: no more than before -/
theorem cp_tset (ht : am_T t) (h : CplT t R mem) (hR : ∀ i, ¬ (i < 3 ∨ i = 7 ∨ i = 8) → R' i = R i) (hw0 : isN (R' 0) 24 ∧ isN (R' 1) 5000 ∧ (isN (R' 2) 100 ∧ 1 ≤ nn (R' 2))) (hw7 : isN (R' 7) 9 ∧ nn (R' 7) ≤ nn (R 7)) (hw8 : isN (R' 8) 7 ∧ nn (R' 8) ≤ nn (R 8)) (hm : ∀ q, q ≠ t → mem' q = mem q) (hml : mem' t 2 = mem t 2 ∧ mem' t 4 = mem t 4 ∧ mem' t 6 = mem t 6 ∧ mem' t 7 = R' 0 ∧ mem' t 8 = R' 1 ∧ mem' t 9 = R' 2 ∧ mem' t 11 = R' 7 ∧ mem' t 13 = R' 8 ∧ mem' t 14 = mem t 14) : CplT t R' mem' := by
  obtain ⟨⟨hw, hT⟩, h1, h2, h3, h4, h5, h6, h7, h8⟩ := h
  have hb := wb_all hw
  have hg := ht.ge
  obtain ⟨w0, w1, w2, w3, w4, w5, w6⟩ := hw
  have z : ∀ i, 9 ≤ i → R' i = R i := fun i hi => hR i (by omega)
  have y : ∀ i, 189 ≤ i → R' i = R i := fun i hi => hR i (by omega)
  have r3 := hR 3 (by decide)
  have r4 := hR 4 (by decide)
  have r5 := hR 5 (by decide)
  have r6 := hR 6 (by decide)
  refine ⟨⟨⟨hw0, ?_, ?_, ?_, ?_, ?_, ?_⟩, wfTs_cg r6 y hT⟩, ?_, ?_, ?_, ?_, ?_, ?_, ?_, ?_⟩
  · rw [r3, r4, r5, r6]; exact ⟨w1.1, w1.2.1, w1.2.2.1, w1.2.2.2.1, hw7.1, hw8.1⟩
  · rw [r3]; intro c hc; exact wfC_cg (fun i _ _ => z i (by omega)) (w2 c hc)
  · rw [r4]; intro c hc; exact wfJ_cg (by rw [r3]; exact Nat.le_refl _) (fun i _ _ => z i (by omega)) (w3 c hc)
  · rw [r5]; intro c hc; exact wfL_cg (by rw [r4]; exact Nat.le_refl _) (fun i _ _ => z i (by omega)) (w4 c hc)
  · rw [r5]; intro k hk; rw [z (9 + k) (by omega)]; exact w5 k (by omega)
  · rw [r4]; intro k hk; rw [z (17 + k) (by omega)]; exact w6 k (by omega)
  · rw [r3, r4, r5, r6, hml.1, hml.2.1, hml.2.2.1, hml.2.2.2.2.2.2.2.2]; exact ⟨h1.1, h1.2.1, h1.2.2.1, hml.2.2.2.1, hml.2.2.2.2.1, hml.2.2.2.2.2.1, hml.2.2.2.2.2.2.1, hml.2.2.2.2.2.2.2.1, h1.2.2.2.2.2.2.2.2⟩
  · rw [r3]; intro c hc k hk; rw [hm _ (by omega), z _ (by omega)]; exact h2 c hc k hk
  · rw [r4]; intro j hj; rw [hm (t + 10 + j) (by omega), z (41 + 3 * j) (by omega), z (41 + 3 * j + 1) (by omega), z (41 + 3 * j + 2) (by omega), S_cab_cg j (fun i hi => z _ (by omega))]; exact h3 j hj
  · rw [r5]; intro c hc k hk; rw [hm _ (by omega), z _ (by omega)]; exact h4 c hc k hk
  · intro k hk; rw [hm _ (by omega), z _ (by omega)]; exact h5 k (by omega)
  · intro k hk; rw [hm _ (by omega), z _ (by omega)]; exact h6 k (by omega)
  · intro key hk; rw [hm _ (by omega), r6, S_cnt_cg y]; exact h7 key hk
  · rw [r6]; intro u hu; exact CplB_cg y (hm _ (by omega)) (hm _ (by omega)) (h8 u hu)
end CU
