/-! calls of both sides, one after the other: the town -/
theorem Inv_K {xs : am_R} {mem : am_M} (h : Inv xs mem) : Kab mem := by
  have e := h.1 0 (by decide)
  unfold Kab
  rw [e]
  exact ⟨rfl, rfl, rfl, rfl, rfl, rfl⟩
theorem S_light_n {R : am_R} (hw : wfR R) (c : Int32) : ∃ m, S_light R c = nI m ∧ m ≤ 3000 := by
  have hb := wb_all hw
  unfold S_light
  have h : ∀ r k s, k + r = nn (R 5) → s ≤ 150 * k → ∃ m, S_sumF (S_lt R c) r k (nI s) = nI m ∧ m ≤ 150 * (k + r) := by
    intro r
    induction r with
    | zero => intro k s _ hs; exact ⟨s, rfl, by omega⟩
    | succ r ih =>
      intro k s hk hs
      have hl : ∃ m, S_lt R c k = nI m ∧ m ≤ 150 := by
        unfold S_lt
        split
        · exact S_draw_n (hw.2.2.2.2.1 k (by omega))
        · exact ⟨0, rfl, by decide⟩
      obtain ⟨m, e, hm⟩ := hl
      unfold S_sumF
      rw [e, nI_add]
      obtain ⟨m2, e2, h2⟩ := ih (k + 1) (s + m) (by omega) (by omega)
      exact ⟨m2, e2, by omega⟩
  obtain ⟨m, e, h2⟩ := h (nn (R 5)) 0 0 (Nat.zero_add _) (by omega)
  exact ⟨m, e, by omega⟩
theorem tooDark_eq {R : am_R} (hw : wfR R) : S_dj R 4 0 (nI 0) = X_tooDark R := by
  unfold X_tooDark
  cases ho : S_cnt R 3 (nn (R 6)) with
  | some t => exact S_dj_some ho 4 0 (nI 0)
  | none =>
    have hl : ∀ k, S_law R k ≤ S_light R (nI k) := by
      intro k
      obtain ⟨m, e, h⟩ := S_light_n hw (nI k)
      rw [e]
      unfold S_law S_giv
      rw [ho]
      exact nI_le (Nat.zero_le _) (by omega)
    show S_dj R 4 0 (nI 0) = nI 0
    simp only [S_dj, hl, if_true]
theorem pub_cabinet {xs : am_R} {d n : Nat} {mem : am_M} {Q : am_P} (hI : Inv xs mem) (p : Int32) (k : Int32) (hQ : ∀ (rv : Int32) (m1 : am_M), RefA xs (d + 200) n 153 [.ref 221, .int p, .int k] rv m1 → Q (some (.int rv)) (am_SK n) m1) : am_ex (d + 200) 82 [.ref 29, .int p, .int k] (am_SK n) mem Q := by
  have hC := hI.2.1.1
  have hw := cp_w hC
  have hT := cp_ts hC
  have hk := O_cabinet_k (mem 222) p k
  exact pub_town (R' := (O_cabinet (mem 222) p k).2) (v := (O_cabinet (mem 222) p k).1) hI (by rw [hk.1]; exact hI.2.1.2) (by rw [hk.2]; exact Nat.le_refl _) (fun Q1 h => c_X11_cabinet hC p k  h) (fun m1 f1 Q1 h => c_X12_cabinet (f1 222 (by decide)) hw p k  h) (fun m1 h => hQ _ m1 h)
theorem pub_joint {xs : am_R} {d n : Nat} {mem : am_M} {Q : am_P} (hI : Inv xs mem) (p : Int32) (k : Int32) (hQ : ∀ (rv : Int32) (m1 : am_M), RefA xs (d + 200) n 166 [.ref 221, .int p, .int k] rv m1 → Q (some (.int rv)) (am_SK n) m1) : am_ex (d + 200) 85 [.ref 29, .int p, .int k] (am_SK n) mem Q := by
  have hC := hI.2.1.1
  have hw := cp_w hC
  have hT := cp_ts hC
  have hk := O_joint_k (mem 222) p k
  exact pub_town (R' := (O_joint (mem 222) p k).2) (v := (O_joint (mem 222) p k).1) hI (by rw [hk.1]; exact hI.2.1.2) (by rw [hk.2]; exact Nat.le_refl _) (fun Q1 h => c_X11_joint hC p k  h) (fun m1 f1 Q1 h => c_X12_joint (f1 222 (by decide)) hw p k  h) (fun m1 h => hQ _ m1 h)
theorem pub_lamp {xs : am_R} {d n : Nat} {mem : am_M} {Q : am_P} (hI : Inv xs mem) (k : Int32) (j : Int32) (o : Int32) (hQ : ∀ (rv : Int32) (m1 : am_M), RefA xs (d + 200) n 168 [.ref 221, .int k, .int j, .int o] rv m1 → Q (some (.int rv)) (am_SK n) m1) : am_ex (d + 200) 87 [.ref 29, .int k, .int j, .int o] (am_SK n) mem Q := by
  have hC := hI.2.1.1
  have hw := cp_w hC
  have hT := cp_ts hC
  have hk := O_lamp_k (mem 222) k j o
  exact pub_town (R' := (O_lamp (mem 222) k j o).2) (v := (O_lamp (mem 222) k j o).1) hI (by rw [hk.1]; exact hI.2.1.2) (by rw [hk.2]; exact Nat.le_refl _) (fun Q1 h => c_X11_lamp hC k j o  h) (fun m1 f1 Q1 h => c_X12_lamp (f1 222 (by decide)) hw k j o  h) (fun m1 h => hQ _ m1 h)
theorem pub_change {xs : am_R} {d n : Nat} {mem : am_M} {Q : am_P} (hI : Inv xs mem) (p : Int32) (w : Int32) (hQ : ∀ (rv : Int32) (m1 : am_M), RefA xs (d + 200) n 172 [.ref 221, .int p, .int w] rv m1 → Q (some (.int rv)) (am_SK n) m1) : am_ex (d + 200) 90 [.ref 29, .int p, .int w] (am_SK n) mem Q := by
  have hC := hI.2.1.1
  have hw := cp_w hC
  have hT := cp_ts hC
  have hk := O_change_k (mem 222) p w
  exact pub_town (R' := (O_change (mem 222) p w).2) (v := (O_change (mem 222) p w).1) hI (by rw [hk.1]; exact hI.2.1.2) (by rw [hk.2]; exact Nat.le_refl _) (fun Q1 h => c_X11_change hC p w  h) (fun m1 f1 Q1 h => c_X12_change (f1 222 (by decide)) hw p w  h) (fun m1 h => hQ _ m1 h)
theorem pub_dark {xs : am_R} {d n : Nat} {mem : am_M} {Q : am_P} (hI : Inv xs mem) (p : Int32) (b : Int32) (hb01 : b = 0 ∨ b = 1) (hQ : ∀ (rv : Int32) (m1 : am_M), RefA xs (d + 200) n 202 [.ref 221, .int p, .int b] rv m1 → Q (some (.int rv)) (am_SK n) m1) : am_ex (d + 200) 103 [.ref 29, .int p, .int b] (am_SK n) mem Q := by
  have hC := hI.2.1.1
  have hw := cp_w hC
  have hT := cp_ts hC
  have hk := O_dark_k (mem 222) p b
  exact pub_town (R' := (O_dark (mem 222) p b).2) (v := (O_dark (mem 222) p b).1) hI (by rw [hk.1]; exact hI.2.1.2) (by rw [hk.2]; exact Nat.le_refl _) (fun Q1 h => c_X11_dark hC p b hb01 h) (fun m1 f1 Q1 h => c_X12_dark (f1 222 (by decide)) hw p b hb01 h) (fun m1 h => hQ _ m1 h)
theorem pub_choose {xs : am_R} {d n : Nat} {mem : am_M} {Q : am_P} (hI : Inv xs mem) (p : Int32) (hQ : ∀ (rv : Int32) (m1 : am_M), RefA xs (d + 200) n 207 [.ref 221, .int p] rv m1 → Q (some (.int rv)) (am_SK n) m1) : am_ex (d + 200) 106 [.ref 29, .int p] (am_SK n) mem Q := by
  have hC := hI.2.1.1
  have hw := cp_w hC
  have hT := cp_ts hC
  have hk := O_choose_k (mem 222) p
  exact pub_town (R' := (O_choose (mem 222) p).2) (v := (O_choose (mem 222) p).1) hI (by rw [hk.1]; exact hI.2.1.2) (by rw [hk.2]; exact Nat.le_refl _) (fun Q1 h => c_X11_choose hC p  h) (fun m1 f1 Q1 h => c_X12_choose (f1 222 (by decide)) hw p  h) (fun m1 h => hQ _ m1 h)
theorem pub_stop {xs : am_R} {d n : Nat} {mem : am_M} {Q : am_P} (hI : Inv xs mem) (p : Int32) (hQ : ∀ (rv : Int32) (m1 : am_M), RefA xs (d + 200) n 212 [.ref 221, .int p] rv m1 → Q (some (.int rv)) (am_SK n) m1) : am_ex (d + 200) 109 [.ref 29, .int p] (am_SK n) mem Q := by
  have hC := hI.2.1.1
  have hw := cp_w hC
  have hT := cp_ts hC
  have hk := O_stop_k (mem 222) p
  exact pub_town (R' := (O_stop (mem 222) p).2) (v := (O_stop (mem 222) p).1) hI (by rw [hk.1]; exact hI.2.1.2) (by rw [hk.2]; exact Nat.le_refl _) (fun Q1 h => c_X11_stop hC p  h) (fun m1 f1 Q1 h => c_X12_stop (f1 222 (by decide)) hw p  h) (fun m1 h => hQ _ m1 h)
theorem pub_shift {xs : am_R} {d n : Nat} {mem : am_M} {Q : am_P} (hI : Inv xs mem) (p : Int32) (v : Int32) (hQ : ∀ (rv : Int32) (m1 : am_M), RefA xs (d + 200) n 165 [.ref 221, .int p, .int v] rv m1 → Q (some (.int rv)) (am_SK n) m1) : am_ex (d + 200) 84 [.ref 29, .int p, .int v] (am_SK n) mem Q := by
  have hC := hI.2.1.1
  have hw := cp_w hC
  have hT := cp_ts hC
  have hk := O_shift_k (mem 222) p v
  exact pub_town (R' := (O_shift (mem 222) p v).2) (v := (O_shift (mem 222) p v).1) hI (by rw [hk.1]; exact hI.2.1.2) (by rw [hk.2]; exact Nat.le_refl _) (fun Q1 h => c_X11_shift hC p v  h) (fun m1 f1 Q1 h => o_X12_shift (f1 222 (by decide)) hw p v  h) (fun m1 h => hQ _ m1 h)
theorem pub_bill {xs : am_R} {d n : Nat} {mem : am_M} {Q : am_P} (hI : Inv xs mem) (p : Int32) (hQ : ∀ (rv : Int32) (m1 : am_M), RefA xs (d + 200) n 179 [.ref 221, .int p] rv m1 → Q (some (.int rv)) (am_SK n) m1) : am_ex (d + 200) 95 [.ref 29, .int p] (am_SK n) mem Q := by
  have hC := hI.2.1.1
  have hw := cp_w hC
  have hT := cp_ts hC
  have hk := O_bill_k (mem 222) p
  exact pub_town (R' := (O_bill (mem 222) p).2) (v := (O_bill (mem 222) p).1) hI (by rw [hk.1]; exact hI.2.1.2) (by rw [hk.2]; exact Nat.le_refl _) (fun Q1 h => c_X11_bill hC p  h) (fun m1 f1 Q1 h => o_X12_bill (f1 222 (by decide)) hw p  h) (fun m1 h => hQ _ m1 h)
theorem pub_feast {xs : am_R} {d n : Nat} {mem : am_M} {Q : am_P} (hI : Inv xs mem) (v : Int32) (hQ : ∀ (rv : Int32) (m1 : am_M), RefA xs (d + 200) n 173 [.ref 221, .int v] rv m1 → Q (some (.int rv)) (am_SK n) m1) : am_ex (d + 200) 91 [.ref 29, .int v] (am_SK n) mem Q := by
  have hC := hI.2.1.1
  have hw := cp_w hC
  have hT := cp_ts hC
  have hk := O_feast_k (mem 222) v
  exact pub_town (R' := (O_feast (mem 222) v).2) (v := (O_feast (mem 222) v).1) hI (by rw [hk.1]; exact hI.2.1.2) (by rw [hk.2]; exact Nat.le_refl _) (fun Q1 h => c_X11_feast hC v  h) (fun m1 f1 Q1 h => o_X12_feast (f1 222 (by decide)) hw v  h) (fun m1 h => hQ _ m1 h)
theorem pub_breaks {xs : am_R} {d n : Nat} {mem : am_M} {Q : am_P} (hI : Inv xs mem) (w : Int32) (p : Int32) (hQ : ∀ (rv : Int32) (m1 : am_M), RefA xs (d + 200) n 175 [.ref 221, .int w, .int p] rv m1 → Q (some (.int rv)) (am_SK n) m1) : am_ex (d + 200) 92 [.ref 29, .int w, .int p] (am_SK n) mem Q := by
  have hC := hI.2.1.1
  have hw := cp_w hC
  have hT := cp_ts hC
  have hk := O_breaks_k hw w p
  exact pub_town (R' := (O_breaks (mem 222) w p).2) (v := (O_breaks (mem 222) w p).1) hI (by rw [hk.1]; exact hI.2.1.2) (by rw [hk.2]; exact Nat.le_refl _) (fun Q1 h => c_X11_breaks hC w p  h) (fun m1 f1 Q1 h => o_X12_breaks (f1 222 (by decide)) hw w p  h) (fun m1 h => hQ _ m1 h)
theorem pub_mend {xs : am_R} {d n : Nat} {mem : am_M} {Q : am_P} (hI : Inv xs mem) (w : Int32) (p : Int32) (hQ : ∀ (rv : Int32) (m1 : am_M), RefA xs (d + 200) n 176 [.ref 221, .int w, .int p] rv m1 → Q (some (.int rv)) (am_SK n) m1) : am_ex (d + 200) 93 [.ref 29, .int w, .int p] (am_SK n) mem Q := by
  have hC := hI.2.1.1
  have hw := cp_w hC
  have hT := cp_ts hC
  have hk := O_mend_k hw w p
  exact pub_town (R' := (O_mend (mem 222) w p).2) (v := (O_mend (mem 222) w p).1) hI (by rw [hk.1]; exact hI.2.1.2) (by rw [hk.2]; exact Nat.le_refl _) (fun Q1 h => c_X11_mend hC w p  h) (fun m1 f1 Q1 h => o_X12_mend (f1 222 (by decide)) hw w p  h) (fun m1 h => hQ _ m1 h)
theorem pub_clear {xs : am_R} {d n : Nat} {mem : am_M} {Q : am_P} (hI : Inv xs mem) (hQ : ∀ (rv : Int32) (m1 : am_M), RefA xs (d + 200) n 208 [.ref 221] rv m1 → Q (some (.int rv)) (am_SK n) m1) : am_ex (d + 200) 107 [.ref 29] (am_SK n) mem Q := by
  have hC := hI.2.1.1
  have hw := cp_w hC
  have hT := cp_ts hC
  have hk := O_clear_k (mem 222)
  exact pub_town (R' := (O_clear (mem 222) ).2) (v := (O_clear (mem 222) ).1) hI (by rw [hk.1]; exact hI.2.1.2) (by rw [hk.2]; exact Nat.le_refl _) (fun Q1 h => c_X11_clear hC   h) (fun m1 f1 Q1 h => o_X12_clear (f1 222 (by decide)) hw   h) (fun m1 h => hQ _ m1 h)
theorem pub_home {xs : am_R} {d n : Nat} {mem : am_M} {Q : am_P} (hI : Inv xs mem) (hQ : ∀ (rv : Int32) (m1 : am_M), RefA xs (d + 200) n 213 [.ref 221] rv m1 → Q (some (.int rv)) (am_SK n) m1) : am_ex (d + 200) 110 [.ref 29] (am_SK n) mem Q := by
  have hC := hI.2.1.1
  have hw := cp_w hC
  have hT := cp_ts hC
  have hk := O_home_k (mem 222)
  exact pub_town (R' := (O_home (mem 222) ).2) (v := (O_home (mem 222) ).1) hI (by rw [hk.1]; exact hI.2.1.2) (by rw [hk.2]; exact Nat.le_refl _) (fun Q1 h => c_X11_home hC   h) (fun m1 f1 Q1 h => o_X12_home (f1 222 (by decide)) hw   h) (fun m1 h => hQ _ m1 h)
theorem pub_hours {xs : am_R} {d n : Nat} {mem : am_M} {Q : am_P} (hI : Inv xs mem) (v : Int32) (hQ : ∀ (rv : Int32) (m1 : am_M), RefA xs (d + 200) n 178 [.ref 221, .int v] rv m1 → Q (some (.int rv)) (am_SK n) m1) : am_ex (d + 200) 94 [.ref 29, .int v] (am_SK n) mem Q := by
  have hC := hI.2.1.1
  have hw := cp_w hC
  have hT := cp_ts hC
  have hk := O_hours_k hw hT hI.2.1.2 v
  exact pub_town (R' := (O_hours (mem 222) v).2) (v := (O_hours (mem 222) v).1) hI hk.1 (by rw [hk.2]; exact Nat.le_refl _) (fun Q1 h => c_X11_hours hC v h) (fun m1 f1 Q1 h => c_X12_hours (f1 222 (by decide)) hw hT v h) (fun m1 h => hQ _ m1 h)
theorem pub_cabinetTold {xs : am_R} {d n : Nat} {mem : am_M} {Q : am_P} (hI : Inv xs mem) (p : Int32) (w : Int32) (hQ : ∀ (rv : Int32) (m1 : am_M), RefA xs (d + 200) n 164 [.ref 221, .int p, .int w] rv m1 → Q (some (.int rv)) (am_SK n) m1) : am_ex (d + 200) 83 [.ref 29, .int p, .int w] (am_SK n) mem Q := by
  have hC := hI.2.1.1
  have hw := cp_w hC
  have hT := cp_ts hC
  exact pub_town (R' := mem 222) (v := X_cabTold (mem 222) p w) hI hI.2.1.2 (Nat.le_refl _) (fun Q1 h => c_X11_cabinetTold hC p w h) (fun m1 f1 Q1 h => (by have e := f1 222 (by decide); refine c_X12_cabinetTold (by rw [e]; exact hw) (by rw [e]; exact hT) p w (fun m2 h2 => ?_); rw [e]; exact h m2 (FrR_sc h2) ((h2 222 (by decide) (by decide)).trans e))) (fun m1 h => hQ _ m1 h)
theorem pub_jointTold {xs : am_R} {d n : Nat} {mem : am_M} {Q : am_P} (hI : Inv xs mem) (p : Int32) (w : Int32) (hQ : ∀ (rv : Int32) (m1 : am_M), RefA xs (d + 200) n 167 [.ref 221, .int p, .int w] rv m1 → Q (some (.int rv)) (am_SK n) m1) : am_ex (d + 200) 86 [.ref 29, .int p, .int w] (am_SK n) mem Q := by
  have hC := hI.2.1.1
  have hw := cp_w hC
  have hT := cp_ts hC
  exact pub_town (R' := mem 222) (v := X_jTold (mem 222) p w) hI hI.2.1.2 (Nat.le_refl _) (fun Q1 h => c_X11_jointTold hC p w h) (fun m1 f1 Q1 h => c_X12_jointTold (f1 222 (by decide)) hw hT p w h) (fun m1 h => hQ _ m1 h)
theorem pub_told {xs : am_R} {d n : Nat} {mem : am_M} {Q : am_P} (hI : Inv xs mem) (p : Int32) (w : Int32) (hQ : ∀ (rv : Int32) (m1 : am_M), RefA xs (d + 200) n 169 [.ref 221, .int p, .int w] rv m1 → Q (some (.int rv)) (am_SK n) m1) : am_ex (d + 200) 88 [.ref 29, .int p, .int w] (am_SK n) mem Q := by
  have hC := hI.2.1.1
  have hw := cp_w hC
  have hT := cp_ts hC
  exact pub_town (R' := mem 222) (v := X_told (mem 222) p w) hI hI.2.1.2 (Nat.le_refl _) (fun Q1 h => c_X11_told hC p w h) (fun m1 f1 Q1 h => c_X12_told (f1 222 (by decide)) hw hT p w h) (fun m1 h => hQ _ m1 h)
theorem pub_as {xs : am_R} {d n : Nat} {mem : am_M} {Q : am_P} (hI : Inv xs mem) (p : Int32) (w : Int32) (hQ : ∀ (rv : Int32) (m1 : am_M), RefA xs (d + 200) n 171 [.ref 221, .int p, .int w] rv m1 → Q (some (.int rv)) (am_SK n) m1) : am_ex (d + 200) 89 [.ref 29, .int p, .int w] (am_SK n) mem Q := by
  have hC := hI.2.1.1
  have hw := cp_w hC
  have hT := cp_ts hC
  exact pub_town (R' := mem 222) (v := X_as (mem 222) p w) hI hI.2.1.2 (Nat.le_refl _) (fun Q1 h => c_X11_as hC (Inv_K hI) p w h) (fun m1 f1 Q1 h => (by have e := f1 222 (by decide); refine c_X12_as (by rw [e]; exact hw) p w ?_; rw [e]; exact h m1 (FrR_refl _) e)) (fun m1 h => hQ _ m1 h)
theorem pub_light {xs : am_R} {d n : Nat} {mem : am_M} {Q : am_P} (hI : Inv xs mem) (p : Int32) (hQ : ∀ (rv : Int32) (m1 : am_M), RefA xs (d + 200) n 181 [.ref 221, .int p] rv m1 → Q (some (.int rv)) (am_SK n) m1) : am_ex (d + 200) 96 [.ref 29, .int p] (am_SK n) mem Q := by
  have hC := hI.2.1.1
  have hw := cp_w hC
  have hT := cp_ts hC
  exact pub_town (R' := mem 222) (v := X_light (mem 222) p) hI hI.2.1.2 (Nat.le_refl _) (fun Q1 h => c_X11_light hC p h) (fun m1 f1 Q1 h => (by have e := f1 222 (by decide); refine c_X12_light (by rw [e]; exact hw) (by rw [e]; exact hT) p (fun m2 h2 => ?_); rw [e]; exact h m2 (FrR_sc h2) ((h2 222 (by decide) (by decide)).trans e))) (fun m1 h => hQ _ m1 h)
theorem pub_tooDark {xs : am_R} {d n : Nat} {mem : am_M} {Q : am_P} (hI : Inv xs mem) (hQ : ∀ (rv : Int32) (m1 : am_M), RefA xs (d + 200) n 182 [.ref 221] rv m1 → Q (some (.int rv)) (am_SK n) m1) : am_ex (d + 200) 97 [.ref 29] (am_SK n) mem Q := by
  have hC := hI.2.1.1
  have hw := cp_w hC
  have hT := cp_ts hC
  exact pub_town (R' := mem 222) (v := X_tooDark (mem 222)) hI hI.2.1.2 (Nat.le_refl _) (fun Q1 h => (by refine c_X11_tooDark hC ?_; rw [tooDark_eq hw]; exact h)) (fun m1 f1 Q1 h => (by have e := f1 222 (by decide); refine c_X12_tooDark (by rw [e]; exact hw) (by rw [e]; exact hT)  (fun m2 h2 => ?_); rw [e]; exact h m2 (FrR_sc h2) ((h2 222 (by decide) (by decide)).trans e))) (fun m1 h => hQ _ m1 h)
theorem pub_textTold {xs : am_R} {d n : Nat} {mem : am_M} {Q : am_P} (hI : Inv xs mem) (p : Int32) (w : Int32) (hQ : ∀ (rv : Int32) (m1 : am_M), RefA xs (d + 200) n 197 [.ref 221, .int p, .int w] rv m1 → Q (some (.int rv)) (am_SK n) m1) : am_ex (d + 200) 101 [.ref 29, .int p, .int w] (am_SK n) mem Q := by
  have hC := hI.2.1.1
  have hw := cp_w hC
  have hT := cp_ts hC
  exact pub_town (R' := mem 222) (v := X_textTold (mem 222) p w) hI hI.2.1.2 (Nat.le_refl _) (fun Q1 h => c_X11_textTold hC p w h) (fun m1 f1 Q1 h => c_X12_textTold (f1 222 (by decide)) hw hT p w h) (fun m1 h => hQ _ m1 h)
theorem pub_why {xs : am_R} {d n : Nat} {mem : am_M} {Q : am_P} (hI : Inv xs mem) (k : Int32) (hQ : ∀ (rv : Int32) (m1 : am_M), RefA xs (d + 200) n 199 [.ref 221, .int k] rv m1 → Q (some (.int rv)) (am_SK n) m1) : am_ex (d + 200) 102 [.ref 29, .int k] (am_SK n) mem Q := by
  have hC := hI.2.1.1
  have hw := cp_w hC
  have hT := cp_ts hC
  exact pub_town (R' := mem 222) (v := X_why (mem 222) k) hI hI.2.1.2 (Nat.le_refl _) (fun Q1 h => c_X11_why hC k h) (fun m1 f1 Q1 h => c_X12_why (f1 222 (by decide)) hw hT k h) (fun m1 h => hQ _ m1 h)
theorem pub_count {xs : am_R} {d n : Nat} {mem : am_M} {Q : am_P} (hI : Inv xs mem) (w : Int32) (hQ : ∀ (rv : Int32) (m1 : am_M), RefA xs (d + 200) n 236 [.ref 221, .int w] rv m1 → Q (some (.int rv)) (am_SK n) m1) : am_ex (d + 200) 125 [.ref 29, .int w] (am_SK n) mem Q := by
  have hC := hI.2.1.1
  have hw := cp_w hC
  have hT := cp_ts hC
  have ew : mem 29 11 = mem 221 43 := by
    obtain ⟨w, -, h1, h2, -⟩ := hI.2.2.2.2.2.2.1
    rw [h1, h2]
  have et : mem 62 1 = mem 221 6 := by
    obtain ⟨w, -, h1, h2, -⟩ := hI.2.2.2.1
    rw [h1, h2]
  exact pub_town (R' := mem 222) (v := X_count (mem 222) (mem 29 11) (mem 62 1) w) hI hI.2.1.2 (Nat.le_refl _) (fun Q1 h => c_X11_count hC w h) (fun m1 f1 Q1 h => (by have e := f1 222 (by decide); have e2 := f1 221 (by decide); refine c_X12_count e hw hT w ?_; rw [e2, ← ew, ← et]; exact h)) (fun m1 h => hQ _ m1 h)
