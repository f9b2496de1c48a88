/-! what the town's calls answer and what they leave -/
section CA
variable {t : Nat} {R R' : am_R} {mem mem' : am_M}
theorem cp_cadd (ht : am_T t) (h : CplT t R mem) {l : Nat} (hl : l = nn (R 3)) (hl2 : l < 3) (hR : ∀ i, ¬ (i = 3 ∨ (23 + 6 * l ≤ i ∧ i < 23 + 6 * l + 6)) → R' i = R i) (hc : R' 3 = nI (l + 1)) (hwl : wfC R' l) (hm : ∀ q, q ≠ t → q ≠ t + 7 + l → mem' q = mem q) (hmt : ∀ k, k ≠ 2 → mem' t k = mem t k) (hmc : mem' t 2 = R' 3) (hml : ∀ k, k < 6 → mem' (t + 7 + l) k = R' (23 + 6 * l + k)) : CplT t R' mem' := by
  obtain ⟨⟨hw, hT⟩, h1, h2, h3, h4, h5, h6, h7, h8⟩ := h
  have hb := wb_all hw
  have hg := ht.ge
  obtain ⟨w0, w1, w2, w3, w4, w5, w6⟩ := hw
  have y : ∀ i, 189 ≤ i → R' i = R i := fun i hi => hR i (by omega)
  have hcn : nn (R' 3) = l + 1 := by rw [hc]; exact nn_nI (by omega)
  have r0 : R' 0 = R 0 := hR 0 (by omega)
  have r1 : R' 1 = R 1 := hR 1 (by omega)
  have r2 : R' 2 = R 2 := hR 2 (by omega)
  have r4 : R' 4 = R 4 := hR 4 (by omega)
  have r5 : R' 5 = R 5 := hR 5 (by omega)
  have r6 : R' 6 = R 6 := hR 6 (by omega)
  have r7 : R' 7 = R 7 := hR 7 (by omega)
  have r8 : R' 8 = R 8 := hR 8 (by omega)
  refine ⟨⟨⟨?_, ?_, ?_, ?_, ?_, ?_, ?_⟩, wfTs_cg r6 y hT⟩, ?_, ?_, ?_, ?_, ?_, ?_, ?_, ?_⟩
  · rw [r0, r1, r2]; exact w0
  · rw [r4, r5, r6, r7, r8]; exact ⟨⟨by rw [hcn]; exact hc, by omega⟩, w1.2.1, w1.2.2.1, w1.2.2.2.1, w1.2.2.2.2.1, w1.2.2.2.2.2⟩
  · rw [hcn]; intro c hc2
    by_cases e : c = l
    · rw [e]; exact hwl
    · exact wfC_cg (fun i _ _ => hR i (by omega)) (w2 c (by omega))
  · rw [r4]; intro c hc2; exact wfJ_cg (by omega) (fun i _ _ => hR i (by omega)) (w3 c hc2)
  · rw [r5]; intro c hc2; exact wfL_cg (by rw [r4]; exact Nat.le_refl _) (fun i _ _ => hR i (by omega)) (w4 c hc2)
  · rw [r7, r5]; intro k hk; rw [hR (9 + k) (by omega)]; exact w5 k hk
  · rw [r8, r4]; intro k hk; rw [hR (17 + k) (by omega)]; exact w6 k hk
  · exact ⟨hmc, (hmt 4 (by decide)).trans (h1.2.1.trans r4.symm), (hmt 6 (by decide)).trans (h1.2.2.1.trans r5.symm), (hmt 7 (by decide)).trans (h1.2.2.2.1.trans r0.symm), (hmt 8 (by decide)).trans (h1.2.2.2.2.1.trans r1.symm), (hmt 9 (by decide)).trans (h1.2.2.2.2.2.1.trans r2.symm), (hmt 11 (by decide)).trans (h1.2.2.2.2.2.2.1.trans r7.symm), (hmt 13 (by decide)).trans (h1.2.2.2.2.2.2.2.1.trans r8.symm), (hmt 14 (by decide)).trans (h1.2.2.2.2.2.2.2.2.trans r6.symm)⟩
  · rw [hcn]; intro c hc2 k hk
    by_cases e : c = l
    · rw [e]; exact hml k hk
    · rw [hm _ (by omega) (by omega), hR _ (by omega)]; exact h2 c (by omega) k hk
  · rw [r4]; intro j hj; rw [hm (t + 10 + j) (by omega) (by omega), hR (41 + 3 * j) (by omega), hR (41 + 3 * j + 1) (by omega), hR (41 + 3 * j + 2) (by omega), S_cab_cg j (fun i hi => hR _ (by omega))]; exact h3 j hj
  · rw [r5]; intro c hc2 k hk; rw [hm _ (by omega) (by omega), hR _ (by omega)]; exact h4 c hc2 k hk
  · rw [r7]; intro k hk; rw [hm _ (by omega) (by omega), hR _ (by omega)]; exact h5 k hk
  · rw [r8]; intro k hk; rw [hm _ (by omega) (by omega), hR _ (by omega)]; exact h6 k hk
  · intro key hk; rw [hm _ (by omega) (by omega), r6, S_cnt_cg y]; exact h7 key hk
  · rw [r6]; intro u hu; exact CplB_cg y (hm _ (by omega) (by omega)) (hm _ (by omega) (by omega)) (h8 u hu)
theorem cp_jadd (ht : am_T t) (h : CplT t R mem) {l : Nat} (hl : l = nn (R 4)) (hl2 : l < 12) (hR : ∀ i, ¬ (i = 4 ∨ (41 + 3 * l ≤ i ∧ i < 41 + 3 * l + 3)) → R' i = R i) (hc : R' 4 = nI (l + 1)) (hwl : wfJ R' l) (hm : ∀ q, q ≠ t → q ≠ t + 10 + l → mem' q = mem q) (hmt : ∀ k, k ≠ 4 → mem' t k = mem t k) (hmc : mem' t 4 = R' 4) (hml : mem' (t + 10 + l) 0 = R' (41 + 3 * l) ∧ mem' (t + 10 + l) 1 = R' (41 + 3 * l + 1) ∧ mem' (t + 10 + l) 2 = nI (S_cab R' l) ∧ mem' (t + 10 + l) 3 = R' (41 + 3 * l + 2)) : CplT t R' mem' := by
  obtain ⟨⟨hw, hT⟩, h1, h2, h3, h4, h5, h6, h7, h8⟩ := h
  have hb := wb_all hw
  have hg := ht.ge
  obtain ⟨w0, w1, w2, w3, w4, w5, w6⟩ := hw
  have y : ∀ i, 189 ≤ i → R' i = R i := fun i hi => hR i (by omega)
  have hcn : nn (R' 4) = l + 1 := by rw [hc]; exact nn_nI (by omega)
  have r0 : R' 0 = R 0 := hR 0 (by omega)
  have r1 : R' 1 = R 1 := hR 1 (by omega)
  have r2 : R' 2 = R 2 := hR 2 (by omega)
  have r3 : R' 3 = R 3 := hR 3 (by omega)
  have r5 : R' 5 = R 5 := hR 5 (by omega)
  have r6 : R' 6 = R 6 := hR 6 (by omega)
  have r7 : R' 7 = R 7 := hR 7 (by omega)
  have r8 : R' 8 = R 8 := hR 8 (by omega)
  refine ⟨⟨⟨?_, ?_, ?_, ?_, ?_, ?_, ?_⟩, wfTs_cg r6 y hT⟩, ?_, ?_, ?_, ?_, ?_, ?_, ?_, ?_⟩
  · rw [r0, r1, r2]; exact w0
  · rw [r3, r5, r6, r7, r8]; exact ⟨w1.1, ⟨by rw [hcn]; exact hc, by omega⟩, w1.2.2.1, w1.2.2.2.1, w1.2.2.2.2.1, w1.2.2.2.2.2⟩
  · rw [r3]; intro c hc2; exact wfC_cg (fun i _ _ => hR i (by omega)) (w2 c hc2)
  · rw [hcn]; intro c hc2
    by_cases e : c = l
    · rw [e]; exact hwl
    · exact wfJ_cg (by rw [r3]; exact Nat.le_refl _) (fun i _ _ => hR i (by omega)) (w3 c (by omega))
  · rw [r5]; intro c hc2; exact wfL_cg (by omega) (fun i _ _ => hR i (by omega)) (w4 c hc2)
  · rw [r7, r5]; intro k hk; rw [hR (9 + k) (by omega)]; exact w5 k hk
  · rw [r8, hcn]; intro k hk; rw [hR (17 + k) (by omega)]; exact ⟨(w6 k hk).1, by have := (w6 k hk).2; omega⟩
  · exact ⟨(hmt 2 (by decide)).trans (h1.1.trans r3.symm), hmc, (hmt 6 (by decide)).trans (h1.2.2.1.trans r5.symm), (hmt 7 (by decide)).trans (h1.2.2.2.1.trans r0.symm), (hmt 8 (by decide)).trans (h1.2.2.2.2.1.trans r1.symm), (hmt 9 (by decide)).trans (h1.2.2.2.2.2.1.trans r2.symm), (hmt 11 (by decide)).trans (h1.2.2.2.2.2.2.1.trans r7.symm), (hmt 13 (by decide)).trans (h1.2.2.2.2.2.2.2.1.trans r8.symm), (hmt 14 (by decide)).trans (h1.2.2.2.2.2.2.2.2.trans r6.symm)⟩
  · rw [r3]; intro c hc2 k hk; rw [hm _ (by omega) (by omega), hR _ (by omega)]; exact h2 c hc2 k hk
  · rw [hcn]; intro j hj
    by_cases e : j = l
    · rw [e]; exact hml
    · rw [hm (t + 10 + j) (by omega) (by omega), hR (41 + 3 * j) (by omega), hR (41 + 3 * j + 1) (by omega), hR (41 + 3 * j + 2) (by omega), S_cab_cg j (fun i hi => hR _ (by omega))]; exact h3 j (by omega)
  · rw [r5]; intro c hc2 k hk; rw [hm _ (by omega) (by omega), hR _ (by omega)]; exact h4 c hc2 k hk
  · rw [r7]; intro k hk; rw [hm _ (by omega) (by omega), hR _ (by omega)]; exact h5 k hk
  · rw [r8]; intro k hk; rw [hm _ (by omega) (by omega), hR _ (by omega)]; exact h6 k hk
  · intro key hk; rw [hm _ (by omega) (by omega), r6, S_cnt_cg y]; exact h7 key hk
  · rw [r6]; intro u hu; exact CplB_cg y (hm _ (by omega) (by omega)) (hm _ (by omega) (by omega)) (h8 u hu)
theorem cp_ladd (ht : am_T t) (h : CplT t R mem) {l : Nat} (hl : l = nn (R 5)) (hl2 : l < 16) (hR : ∀ i, ¬ (i = 5 ∨ (77 + 7 * l ≤ i ∧ i < 77 + 7 * l + 7)) → R' i = R i) (hc : R' 5 = nI (l + 1)) (hwl : wfL R' l) (hm : ∀ q, q ≠ t → q ≠ t + 22 + l → mem' q = mem q) (hmt : ∀ k, k ≠ 6 → mem' t k = mem t k) (hmc : mem' t 6 = R' 5) (hml : ∀ k, k < 7 → mem' (t + 22 + l) k = R' (77 + 7 * l + k)) : CplT t R' mem' := by
  obtain ⟨⟨hw, hT⟩, h1, h2, h3, h4, h5, h6, h7, h8⟩ := h
  have hb := wb_all hw
  have hg := ht.ge
  obtain ⟨w0, w1, w2, w3, w4, w5, w6⟩ := hw
  have y : ∀ i, 189 ≤ i → R' i = R i := fun i hi => hR i (by omega)
  have hcn : nn (R' 5) = l + 1 := by rw [hc]; exact nn_nI (by omega)
  have r0 : R' 0 = R 0 := hR 0 (by omega)
  have r1 : R' 1 = R 1 := hR 1 (by omega)
  have r2 : R' 2 = R 2 := hR 2 (by omega)
  have r3 : R' 3 = R 3 := hR 3 (by omega)
  have r4 : R' 4 = R 4 := hR 4 (by omega)
  have r6 : R' 6 = R 6 := hR 6 (by omega)
  have r7 : R' 7 = R 7 := hR 7 (by omega)
  have r8 : R' 8 = R 8 := hR 8 (by omega)
  refine ⟨⟨⟨?_, ?_, ?_, ?_, ?_, ?_, ?_⟩, wfTs_cg r6 y hT⟩, ?_, ?_, ?_, ?_, ?_, ?_, ?_, ?_⟩
  · rw [r0, r1, r2]; exact w0
  · rw [r3, r4, r6, r7, r8]; exact ⟨w1.1, w1.2.1, ⟨by rw [hcn]; exact hc, by omega⟩, w1.2.2.2.1, w1.2.2.2.2.1, w1.2.2.2.2.2⟩
  · rw [r3]; intro c hc2; exact wfC_cg (fun i _ _ => hR i (by omega)) (w2 c hc2)
  · rw [r4]; intro c hc2; exact wfJ_cg (by rw [r3]; exact Nat.le_refl _) (fun i _ _ => hR i (by omega)) (w3 c hc2)
  · rw [hcn]; intro c hc2
    by_cases e : c = l
    · rw [e]; exact hwl
    · exact wfL_cg (by rw [r4]; exact Nat.le_refl _) (fun i _ _ => hR i (by omega)) (w4 c (by omega))
  · rw [r7, hcn]; intro k hk; rw [hR (9 + k) (by omega)]; exact ⟨(w5 k hk).1, by have := (w5 k hk).2; omega⟩
  · rw [r8, r4]; intro k hk; rw [hR (17 + k) (by omega)]; exact w6 k hk
  · exact ⟨(hmt 2 (by decide)).trans (h1.1.trans r3.symm), (hmt 4 (by decide)).trans (h1.2.1.trans r4.symm), hmc, (hmt 7 (by decide)).trans (h1.2.2.2.1.trans r0.symm), (hmt 8 (by decide)).trans (h1.2.2.2.2.1.trans r1.symm), (hmt 9 (by decide)).trans (h1.2.2.2.2.2.1.trans r2.symm), (hmt 11 (by decide)).trans (h1.2.2.2.2.2.2.1.trans r7.symm), (hmt 13 (by decide)).trans (h1.2.2.2.2.2.2.2.1.trans r8.symm), (hmt 14 (by decide)).trans (h1.2.2.2.2.2.2.2.2.trans r6.symm)⟩
  · rw [r3]; intro c hc2 k hk; rw [hm _ (by omega) (by omega), hR _ (by omega)]; exact h2 c hc2 k hk
  · rw [r4]; intro j hj; rw [hm (t + 10 + j) (by omega) (by omega), hR (41 + 3 * j) (by omega), hR (41 + 3 * j + 1) (by omega), hR (41 + 3 * j + 2) (by omega), S_cab_cg j (fun i hi => hR _ (by omega))]; exact h3 j hj
  · rw [hcn]; intro c hc2 k hk
    by_cases e : c = l
    · rw [e]; exact hml k hk
    · rw [hm _ (by omega) (by omega), hR _ (by omega)]; exact h4 c (by omega) k hk
  · rw [r7]; intro k hk; rw [hm _ (by omega) (by omega), hR _ (by omega)]; exact h5 k hk
  · rw [r8]; intro k hk; rw [hm _ (by omega) (by omega), hR _ (by omega)]; exact h6 k hk
  · intro key hk; rw [hm _ (by omega) (by omega), r6, S_cnt_cg y]; exact h7 key hk
  · rw [r6]; intro u hu; exact CplB_cg y (hm _ (by omega) (by omega)) (hm _ (by omega) (by omega)) (h8 u hu)
theorem cp_chadd (ht : am_T t) (h : CplT t R mem) {l : Nat} (hl : l = nn (R 7)) (hl2 : l < 8) (hR : ∀ i, ¬ (i = 7 ∨ (i = 9 + l)) → R' i = R i) (hc : R' 7 = nI (l + 1)) (hwl : isN (R' (9 + l)) (nn (R 5))) (hm : ∀ q, q ≠ t → q ≠ t + 4 → mem' q = mem q) (hmt : ∀ k, k ≠ 11 → mem' t k = mem t k) (hmc : mem' t 11 = R' 7) (hml : mem' (t + 4) l = R' (9 + l) ∧ ∀ k, k ≠ l → mem' (t + 4) k = mem (t + 4) k) : CplT t R' mem' := by
  obtain ⟨⟨hw, hT⟩, h1, h2, h3, h4, h5, h6, h7, h8⟩ := h
  have hb := wb_all hw
  have hg := ht.ge
  obtain ⟨w0, w1, w2, w3, w4, w5, w6⟩ := hw
  have y : ∀ i, 189 ≤ i → R' i = R i := fun i hi => hR i (by omega)
  have hcn : nn (R' 7) = l + 1 := by rw [hc]; exact nn_nI (by omega)
  have r0 : R' 0 = R 0 := hR 0 (by omega)
  have r1 : R' 1 = R 1 := hR 1 (by omega)
  have r2 : R' 2 = R 2 := hR 2 (by omega)
  have r3 : R' 3 = R 3 := hR 3 (by omega)
  have r4 : R' 4 = R 4 := hR 4 (by omega)
  have r5 : R' 5 = R 5 := hR 5 (by omega)
  have r6 : R' 6 = R 6 := hR 6 (by omega)
  have r8 : R' 8 = R 8 := hR 8 (by omega)
  refine ⟨⟨⟨?_, ?_, ?_, ?_, ?_, ?_, ?_⟩, wfTs_cg r6 y hT⟩, ?_, ?_, ?_, ?_, ?_, ?_, ?_, ?_⟩
  · rw [r0, r1, r2]; exact w0
  · rw [r3, r4, r5, r6, r8]; exact ⟨w1.1, w1.2.1, w1.2.2.1, w1.2.2.2.1, ⟨by rw [hcn]; exact hc, by omega⟩, w1.2.2.2.2.2⟩
  · rw [r3]; intro c hc2; exact wfC_cg (fun i _ _ => hR i (by omega)) (w2 c hc2)
  · rw [r4]; intro c hc2; exact wfJ_cg (by rw [r3]; exact Nat.le_refl _) (fun i _ _ => hR i (by omega)) (w3 c hc2)
  · rw [r5]; intro c hc2; exact wfL_cg (by rw [r4]; exact Nat.le_refl _) (fun i _ _ => hR i (by omega)) (w4 c hc2)
  · rw [hcn, r5]; intro k hk
    by_cases e : k = l
    · rw [e]; exact hwl
    · rw [hR (9 + k) (by omega)]; exact w5 k (by omega)
  · rw [r8, r4]; intro k hk; rw [hR (17 + k) (by omega)]; exact w6 k hk
  · exact ⟨(hmt 2 (by decide)).trans (h1.1.trans r3.symm), (hmt 4 (by decide)).trans (h1.2.1.trans r4.symm), (hmt 6 (by decide)).trans (h1.2.2.1.trans r5.symm), (hmt 7 (by decide)).trans (h1.2.2.2.1.trans r0.symm), (hmt 8 (by decide)).trans (h1.2.2.2.2.1.trans r1.symm), (hmt 9 (by decide)).trans (h1.2.2.2.2.2.1.trans r2.symm), hmc, (hmt 13 (by decide)).trans (h1.2.2.2.2.2.2.2.1.trans r8.symm), (hmt 14 (by decide)).trans (h1.2.2.2.2.2.2.2.2.trans r6.symm)⟩
  · rw [r3]; intro c hc2 k hk; rw [hm _ (by omega) (by omega), hR _ (by omega)]; exact h2 c hc2 k hk
  · rw [r4]; intro j hj; rw [hm (t + 10 + j) (by omega) (by omega), hR (41 + 3 * j) (by omega), hR (41 + 3 * j + 1) (by omega), hR (41 + 3 * j + 2) (by omega), S_cab_cg j (fun i hi => hR _ (by omega))]; exact h3 j hj
  · rw [r5]; intro c hc2 k hk; rw [hm _ (by omega) (by omega), hR _ (by omega)]; exact h4 c hc2 k hk
  · rw [hcn]; intro k hk
    by_cases e : k = l
    · rw [e]; exact hml.1
    · rw [hml.2 k e, hR _ (by omega)]; exact h5 k (by omega)
  · rw [r8]; intro k hk; rw [hm _ (by omega) (by omega), hR _ (by omega)]; exact h6 k hk
  · intro key hk; rw [hm _ (by omega) (by omega), r6, S_cnt_cg y]; exact h7 key hk
  · rw [r6]; intro u hu; exact CplB_cg y (hm _ (by omega) (by omega)) (hm _ (by omega) (by omega)) (h8 u hu)
theorem cp_stadd (ht : am_T t) (h : CplT t R mem) {l : Nat} (hl : l = nn (R 8)) (hl2 : l < 6) (hR : ∀ i, ¬ (i = 8 ∨ (i = 17 + l)) → R' i = R i) (hc : R' 8 = nI (l + 1)) (hwl : isN (R' (17 + l)) (nn (R 4))) (hm : ∀ q, q ≠ t → q ≠ t + 5 → mem' q = mem q) (hmt : ∀ k, k ≠ 13 → mem' t k = mem t k) (hmc : mem' t 13 = R' 8) (hml : mem' (t + 5) l = R' (17 + l) ∧ ∀ k, k ≠ l → mem' (t + 5) k = mem (t + 5) k) : CplT t R' mem' := by
  obtain ⟨⟨hw, hT⟩, h1, h2, h3, h4, h5, h6, h7, h8⟩ := h
  have hb := wb_all hw
  have hg := ht.ge
  obtain ⟨w0, w1, w2, w3, w4, w5, w6⟩ := hw
  have y : ∀ i, 189 ≤ i → R' i = R i := fun i hi => hR i (by omega)
  have hcn : nn (R' 8) = l + 1 := by rw [hc]; exact nn_nI (by omega)
  have r0 : R' 0 = R 0 := hR 0 (by omega)
  have r1 : R' 1 = R 1 := hR 1 (by omega)
  have r2 : R' 2 = R 2 := hR 2 (by omega)
  have r3 : R' 3 = R 3 := hR 3 (by omega)
  have r4 : R' 4 = R 4 := hR 4 (by omega)
  have r5 : R' 5 = R 5 := hR 5 (by omega)
  have r6 : R' 6 = R 6 := hR 6 (by omega)
  have r7 : R' 7 = R 7 := hR 7 (by omega)
  refine ⟨⟨⟨?_, ?_, ?_, ?_, ?_, ?_, ?_⟩, wfTs_cg r6 y hT⟩, ?_, ?_, ?_, ?_, ?_, ?_, ?_, ?_⟩
  · rw [r0, r1, r2]; exact w0
  · rw [r3, r4, r5, r6, r7]; exact ⟨w1.1, w1.2.1, w1.2.2.1, w1.2.2.2.1, w1.2.2.2.2.1, ⟨by rw [hcn]; exact hc, by omega⟩⟩
  · rw [r3]; intro c hc2; exact wfC_cg (fun i _ _ => hR i (by omega)) (w2 c hc2)
  · rw [r4]; intro c hc2; exact wfJ_cg (by rw [r3]; exact Nat.le_refl _) (fun i _ _ => hR i (by omega)) (w3 c hc2)
  · rw [r5]; intro c hc2; exact wfL_cg (by rw [r4]; exact Nat.le_refl _) (fun i _ _ => hR i (by omega)) (w4 c hc2)
  · rw [r7, r5]; intro k hk; rw [hR (9 + k) (by omega)]; exact w5 k hk
  · rw [hcn, r4]; intro k hk
    by_cases e : k = l
    · rw [e]; exact hwl
    · rw [hR (17 + k) (by omega)]; exact w6 k (by omega)
  · exact ⟨(hmt 2 (by decide)).trans (h1.1.trans r3.symm), (hmt 4 (by decide)).trans (h1.2.1.trans r4.symm), (hmt 6 (by decide)).trans (h1.2.2.1.trans r5.symm), (hmt 7 (by decide)).trans (h1.2.2.2.1.trans r0.symm), (hmt 8 (by decide)).trans (h1.2.2.2.2.1.trans r1.symm), (hmt 9 (by decide)).trans (h1.2.2.2.2.2.1.trans r2.symm), (hmt 11 (by decide)).trans (h1.2.2.2.2.2.2.1.trans r7.symm), hmc, (hmt 14 (by decide)).trans (h1.2.2.2.2.2.2.2.2.trans r6.symm)⟩
  · rw [r3]; intro c hc2 k hk; rw [hm _ (by omega) (by omega), hR _ (by omega)]; exact h2 c hc2 k hk
  · rw [r4]; intro j hj; rw [hm (t + 10 + j) (by omega) (by omega), hR (41 + 3 * j) (by omega), hR (41 + 3 * j + 1) (by omega), hR (41 + 3 * j + 2) (by omega), S_cab_cg j (fun i hi => hR _ (by omega))]; exact h3 j hj
  · rw [r5]; intro c hc2 k hk; rw [hm _ (by omega) (by omega), hR _ (by omega)]; exact h4 c hc2 k hk
  · rw [r7]; intro k hk; rw [hm _ (by omega) (by omega), hR _ (by omega)]; exact h5 k hk
  · rw [hcn]; intro k hk
    by_cases e : k = l
    · rw [e]; exact hml.1
    · rw [hml.2 k e, hR _ (by omega)]; exact h6 k (by omega)
  · intro key hk; rw [hm _ (by omega) (by omega), r6, S_cnt_cg y]; exact h7 key hk
  · rw [r6]; intro u hu; exact CplB_cg y (hm _ (by omega) (by omega)) (hm _ (by omega) (by omega)) (h8 u hu)
end CA
abbrev P_place (p : Int32) : Prop := 0 ≤ p ∧ p / nI 100 ≤ nI 30 ∧ p - p / nI 100 * nI 100 ≤ nI 30
abbrev P_clk (p : Int32) : Prop := 0 ≤ p ∧ p / nI 100 < nI 24 ∧ p - p / nI 100 * nI 100 < nI 24
abbrev P_dc (p : Int32) : Prop := nI 10 ≤ p ∧ p / nI 10 ≤ nI 99 ∧ p - p / nI 10 * nI 10 < nI 4
abbrev P_i (p x : Int32) : Prop := 0 ≤ p ∧ p ≤ x - 1
abbrev P_kd (p : Int32) : Prop := nI 0 ≤ p ∧ p ≤ nI 5
abbrev P_feed (R : am_R) (f : Int32) : Prop := 0 ≤ f ∧ (P_i f (R 4) ∨ P_i (f - nI 100) (R 3))
def S_NO : Int32 := -1000000002
def S_FULL : Int32 := -1000000003
def S_NOTH : Int32 := -1000000011
def S_KIND : Int32 := -1000000012
def S_INDEX : Int32 := -1000000013
def S_SIZE : Int32 := -1000000014
def U_cab (R : am_R) (p k : Int32) : am_R := upd (upd (upd (upd (upd (upd (upd R (23 + 6 * nn (R 3)) p) (23 + 6 * nn (R 3) + 1) (k / nI 100)) (23 + 6 * nn (R 3) + 2) (k - k / nI 100 * nI 100)) (23 + 6 * nn (R 3) + 3) (nI 0)) (23 + 6 * nn (R 3) + 4) (nI 0)) (23 + 6 * nn (R 3) + 5) (nI 0)) 3 (nI (nn (R 3) + 1))
def O_cabinet (R : am_R) (p k : Int32) : Int32 × am_R := if P_place p ∧ P_clk k then (if nn (R 3) = 3 then (S_FULL, R) else (nI (nn (R 3)), U_cab R p k)) else (S_BAD, R)
def U_joint (R : am_R) (f p : Int32) : am_R := upd (upd (upd (upd R (41 + 3 * nn (R 4)) f) (41 + 3 * nn (R 4) + 1) p) (41 + 3 * nn (R 4) + 2) (nI 0)) 4 (nI (nn (R 4) + 1))
def O_joint (R : am_R) (f p : Int32) : Int32 × am_R := if P_feed R f ∧ P_place p then (if nn (R 4) = 12 then (S_FULL, R) else (nI (nn (R 4)), U_joint R f p)) else (S_BAD, R)
def U_lamp (R : am_R) (k j o : Int32) : am_R := upd (upd (upd (upd (upd (upd (upd (upd R (77 + 7 * nn (R 5)) k) (77 + 7 * nn (R 5) + 1) j) (77 + 7 * nn (R 5) + 2) (o / nI 10)) (77 + 7 * nn (R 5) + 3) (o - o / nI 10 * nI 10)) (77 + 7 * nn (R 5) + 4) (nI 0)) (77 + 7 * nn (R 5) + 5) (nI 0)) (77 + 7 * nn (R 5) + 6) (nI 0)) 5 (nI (nn (R 5) + 1))
def O_lamp (R : am_R) (k j o : Int32) : Int32 × am_R := if P_kd k ∧ P_i j (R 4) ∧ P_dc o then (if nn (R 5) = 16 then (S_FULL, R) else (nI (nn (R 5)), U_lamp R k j o)) else (S_BAD, R)
def O_shift (R : am_R) (p v : Int32) : Int32 × am_R := if P_i p (R 3) ∧ (-3 ≤ v ∧ v ≤ nI 3) then (R (23 + 6 * nn p + 3), upd R (23 + 6 * nn p + 3) v) else (S_BAD, R)
def O_bill (R : am_R) (p : Int32) : Int32 × am_R := if P_i p (R 3) then (R (23 + 6 * nn p + 5), upd R (23 + 6 * nn p + 5) (nI 0)) else (S_BAD, R)
def O_feast (R : am_R) (v : Int32) : Int32 × am_R := if nI 1 ≤ v ∧ v ≤ nI 99 then (R 2, upd R 2 v) else (S_BAD, R)
def O_breaks (R : am_R) (w p : Int32) : Int32 × am_R := if S_brk R w p = -1 then (S_BAD, R) else (nI 1 - R (nn (S_brk R w p)), upd R (nn (S_brk R w p)) (nI 1))
def O_mend (R : am_R) (w p : Int32) : Int32 × am_R := if S_brk R w p = -1 then (S_BAD, R) else (R (nn (S_brk R w p)), upd R (nn (S_brk R w p)) (nI 0))
def O_change (R : am_R) (p w : Int32) : Int32 × am_R := if P_i p (R 5) ∧ P_kd w then (R (77 + 7 * nn p), upd (upd (upd R (77 + 7 * nn p) w) (77 + 7 * nn p + 4) (nI 0)) (77 + 7 * nn p + 5) (nI 0)) else (S_BAD, R)
def O_dark (R : am_R) (p b : Int32) : Int32 × am_R := if P_i p (R 5) then (if R (77 + 7 * nn p + 6) = b then nI 0 else nI 1, upd R (77 + 7 * nn p + 6) b) else (S_BAD, R)
/-- whether a number stands among r places from k on -/
def S_has (R : am_R) (b : Nat) (p : Int32) : Nat → Nat → Bool
  | 0, _ => false
  | r + 1, k => if R (b + k) = p then true else S_has R b p r (k + 1)
def O_choose (R : am_R) (p : Int32) : Int32 × am_R := if P_i p (R 5) then (if S_has R 9 p (nn (R 7)) 0 = true then (S_NO, R) else if nn (R 7) = 8 then (S_FULL, R) else (nI (nn (R 7) + 1), upd (upd R (9 + nn (R 7)) p) 7 (nI (nn (R 7) + 1)))) else (S_BAD, R)
def O_stop (R : am_R) (p : Int32) : Int32 × am_R := if P_i p (R 4) then (if S_has R 17 p (nn (R 8)) 0 = true then (S_NO, R) else if nn (R 8) = 6 then (S_FULL, R) else (nI (nn (R 8) + 1), upd (upd R (17 + nn (R 8)) p) 8 (nI (nn (R 8) + 1)))) else (S_BAD, R)
def O_clear (R : am_R) : Int32 × am_R := (R 7, upd R 7 (nI 0))
def O_home (R : am_R) : Int32 × am_R := (R 8, upd R 8 (nI 0))
/-- what the reference may change, and what the class may change, in a call about the town -/
def FrR (mem m2 : am_M) : Prop := (∀ q, ¬ (q = 222 ∨ q = 225 ∨ (229 ≤ q ∧ q ≤ 244) ∨ q = 251) → m2 q = mem q) ∧ ∀ i, 1561 ≤ i → m2 222 i = mem 222 i
def FrR4 (mem m2 : am_M) : Prop := (∀ q, ¬ (q = 222 ∨ q = 224 ∨ q = 225 ∨ (229 ≤ q ∧ q ≤ 244) ∨ q = 251) → m2 q = mem q) ∧ ∀ i, 1561 ≤ i → m2 222 i = mem 222 i ∧ m2 224 i = mem 224 i
def FrC (mem m2 : am_M) : Prop := ∀ q, ¬ (q = 32 ∨ q = 33 ∨ (66 ≤ q ∧ q ≤ 103) ∨ (142 ≤ q ∧ q ≤ 192) ∨ q = 196 ∨ q = 197) → m2 q = mem q
theorem FrR_refl (mem : am_M) : FrR mem mem := ⟨fun _ _ => rfl, fun _ _ => rfl⟩
theorem FrR_4 {mem m2 : am_M} (h : FrR mem m2) : FrR4 mem m2 := ⟨fun q hq => h.1 q (by omega), fun i hi => ⟨h.2 i hi, by rw [h.1 224 (by decide)]⟩⟩
theorem FrC_refl (mem : am_M) : FrC mem mem := fun _ _ => rfl
theorem FrR_tr {a b c : am_M} (h1 : FrR a b) (h2 : FrR b c) : FrR a c := ⟨fun q h => (h2.1 q h).trans (h1.1 q h), fun i hi => (h2.2 i hi).trans (h1.2 i hi)⟩
theorem FrC_tr {a b c : am_M} (h1 : FrC a b) (h2 : FrC b c) : FrC a c := fun q h => (h2 q h).trans (h1 q h)
theorem FrR_222 {mem m2 : am_M} (h : Hfr mem m2) : FrR mem m2 := ⟨fun q hq => h.1 q (by omega), fun i hi => h.2 i hi⟩
theorem FrR_sc {mem m2 : am_M} (h : ∀ q, q ≠ 232 → q ≠ 233 → m2 q = mem q) : FrR mem m2 := ⟨fun q hq => h q (by omega) (by omega), fun i hi => by rw [h 222 (by decide) (by decide)]⟩
theorem FrC_sc {mem m2 : am_M} (h : ∀ q, q ≠ 32 → q ≠ 33 → m2 q = mem q) : FrC mem m2 := fun q hq => h q (by omega) (by omega)
theorem FrR_up {mem : am_M} {i : Nat} {x : Int32} (hi : i < 1561) : FrR mem (am_up mem 222 i x) := FrR_222 ⟨fun q h => am_up_ne h, fun j hj => am_up_nk (by omega)⟩
theorem le_nlt {x y : Int32} (h : ¬ x < y) : y ≤ x := by
  rw [Int32.lt_iff_toInt_lt] at h
  rw [Int32.le_iff_toInt_le]
  omega
theorem lt_nle {x y : Int32} (h : ¬ x ≤ y) : y < x := by
  rw [Int32.le_iff_toInt_le] at h
  rw [Int32.lt_iff_toInt_lt]
  omega
theorem nlt_le {x y : Int32} (h : y ≤ x) : ¬ x < y := by
  rw [Int32.le_iff_toInt_le] at h
  rw [Int32.lt_iff_toInt_lt]
  omega
theorem nle_lt {x y : Int32} (h : y < x) : ¬ x ≤ y := by
  rw [Int32.lt_iff_toInt_lt] at h
  rw [Int32.le_iff_toInt_le]
  omega
theorem nI_ge0 {x : Int32} (h : 0 ≤ x) : x = nI (nn x) ∧ nn x < 2 ^ 31 := by
  obtain ⟨j, hj, e⟩ := nI_of (nlt_le h)
  subst e
  rw [nn_nI hj]
  exact ⟨rfl, hj⟩
theorem dc_iff (o : Int32) : P_dc o ↔ (nI 10 ≤ o ∧ o ≤ nI 993) ∧ o - o / nI 10 * nI 10 ≤ nI 3 := by
  by_cases h : nI 10 ≤ o
  · have h0 : 0 ≤ o := by
      have e : (nI 10).toInt = 10 := rfl
      have e0 : (0 : Int32).toInt = 0 := rfl
      rw [Int32.le_iff_toInt_le] at h ⊢
      omega
    obtain ⟨e, hb⟩ := nI_ge0 h0
    generalize nn o = a at e hb
    subst e
    rw [nI_leI (by decide) hb] at h
    unfold P_dc
    rw [pk_rem hb (by decide) (by decide), pk_div hb (by decide) (by decide), nI_leI (by decide) hb, nI_leI hb (by decide), nI_leI (by omega) (by decide), nI_leI (by omega) (by decide), nI_ltI (by omega) (by decide)]
    omega
  · constructor
    · intro z; exact absurd z.1 h
    · intro z; exact absurd z.1.1 h
theorem P_place_n {p : Int32} (h : P_place p) : isN p 3031 := by
  obtain ⟨e, hb⟩ := nI_ge0 h.1
  obtain ⟨-, h2, h3⟩ := h
  refine ⟨e, ?_⟩
  generalize nn p = a at e hb
  subst e
  rw [pk_rem hb (by decide) (by decide), nI_leI (by omega) (by decide)] at h3
  rw [pk_div hb (by decide) (by decide), nI_leI (by omega) (by decide)] at h2
  omega
theorem P_clk_n {p : Int32} (h : P_clk p) : isN (p / nI 100) 24 ∧ isN (p - p / nI 100 * nI 100) 24 := by
  obtain ⟨e, hb⟩ := nI_ge0 h.1
  obtain ⟨-, h2, h3⟩ := h
  generalize nn p = a at e hb
  subst e
  rw [pk_rem hb (by decide) (by decide), nI_ltI (by omega) (by decide)] at h3
  rw [pk_div hb (by decide) (by decide), nI_ltI (by omega) (by decide)] at h2
  rw [pk_rem hb (by decide) (by decide), pk_div hb (by decide) (by decide)]
  exact ⟨⟨by rw [nn_nI (by omega)], by rw [nn_nI (by omega)]; exact h2⟩, ⟨by rw [nn_nI (by omega)], by rw [nn_nI (by omega)]; exact h3⟩⟩
theorem P_dc_n {p : Int32} (h : P_dc p) : (isN (p / nI 10) 100 ∧ 1 ≤ nn (p / nI 10)) ∧ isN (p - p / nI 10 * nI 10) 4 := by
  have h0 : 0 ≤ p := by
    have e : (nI 10).toInt = 10 := rfl
    have e0 : (0 : Int32).toInt = 0 := rfl
    have h1 := h.1
    rw [Int32.le_iff_toInt_le] at h1 ⊢
    omega
  obtain ⟨e, hb⟩ := nI_ge0 h0
  obtain ⟨h1, h2, h3⟩ := h
  generalize nn p = a at e hb
  subst e
  rw [nI_leI (by decide) hb] at h1
  rw [pk_rem hb (by decide) (by decide), nI_ltI (by omega) (by decide)] at h3
  rw [pk_div hb (by decide) (by decide), nI_leI (by omega) (by decide)] at h2
  rw [pk_rem hb (by decide) (by decide), pk_div hb (by decide) (by decide)]
  exact ⟨⟨⟨by rw [nn_nI (by omega)], by rw [nn_nI (by omega)]; omega⟩, by rw [nn_nI (by omega)]; omega⟩, ⟨by rw [nn_nI (by omega)], by rw [nn_nI (by omega)]; exact h3⟩⟩
theorem P_feed_n {R : am_R} (hw : wfR R) {f : Int32} (h : P_feed R f) : f = nI (nn f) ∧ (nn f < nn (R 4) ∨ (100 ≤ nn f ∧ nn f < 100 + nn (R 3))) := by
  have hb := wb_all hw
  obtain ⟨e, hb2⟩ := nI_ge0 h.1
  refine ⟨e, ?_⟩
  rcases h.2 with h2 | h2
  · exact Or.inl (am_idx hw.2.1.2.1.1 (by omega) h2).2
  · obtain ⟨e2, h3⟩ := am_idx hw.2.1.1.1 (by omega) h2
    generalize nn (f - nI 100) = c at e2 h3
    have e3 : f = nI (c + 100) := by rw [← nI_add, ← e2]; exact (Int32.sub_add_cancel _ _).symm
    have e4 : nn f = c + 100 := by rw [e3]; exact nn_nI (by omega)
    exact Or.inr (by omega)
