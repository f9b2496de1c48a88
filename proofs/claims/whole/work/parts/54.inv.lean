/-! what holds between two calls -/
def am_ky : am_R := fun k => ([100, 105, 109, 108, 105, 102, 101, 112, 114, 105, 99, 101, 108, 97, 119] : List Int32).getD k 0
def am_kt : am_R := fun k => ([0, 3, 7, 12, 15] : List Int32).getD k 0
def I_im (mem : am_M) : Prop := (mem 29 5 = mem 221 3 ∧ (mem 221 3 = 0 ∨ mem 221 3 = 1)) ∧ (mem 221 3 = 1 → CplT 104 (mem 223) mem ∧ nn (mem 223 1) ≤ 999 ∧ nn (mem 223 6) ≤ nn (mem 222 6))
def I_tp (mem : am_M) : Prop := ∃ tl, tl ≤ 96 ∧ mem 62 1 = nI tl ∧ mem 221 6 = nI tl ∧ ∀ k, k < tl → mem 63 k = mem 226 k ∧ isN (mem 226 k) 256
def I_sh (mem : am_M) : Prop := ∀ s, s < 4 → (mem (198 + 2 * s) 0 = mem 245 s ∧ (mem 245 s = -1 ∨ mem 245 s = 0 ∨ mem 245 s = 1)) ∧ (mem (198 + 2 * s) 1 = mem 246 s ∧ isN (mem 246 s) 25) ∧ ∀ k, k < 24 → mem (199 + 2 * s) k = mem 247 (24 * s + k)
def I_sl (mem : am_M) : Prop := ∀ s, s < 5 → (mem (206 + 3 * s) 0 = mem 248 s ∧ isN (mem 248 s) 4) ∧ (mem 248 s = 1 → mem (206 + 3 * s) 1 = mem 249 s ∧ isN (mem 249 s) 6) ∧ (mem 248 s = 2 → mem (207 + 3 * s) 1 = mem 249 s ∧ isN (mem 249 s) 25 ∧ ∀ k, k < 24 → mem (208 + 3 * s) k = mem 250 (24 * s + k)) ∧ (mem 248 s = 3 → mem (206 + 3 * s) 2 = mem 249 s)
def I_wt (mem : am_M) : Prop := ∃ w, w ≤ 60 ∧ mem 29 11 = nI w ∧ mem 221 43 = nI w ∧ ∀ k, k < w → mem 195 k = mem 252 k
def I_z (mem : am_M) : Prop := ∀ i, 1561 ≤ i → mem 222 i = 0 ∧ mem 223 i = 0 ∧ mem 224 i = 0
def Inv (xs : am_R) (mem : am_M) : Prop := (∀ q, q < 29 → mem q = am_m0 xs q) ∧ (CplT 66 (mem 222) mem ∧ nn (mem 222 1) ≤ 999) ∧ I_im mem ∧ I_tp mem ∧ I_sh mem ∧ I_sl mem ∧ I_wt mem ∧ (mem 227 = am_ky ∧ mem 228 = am_kt) ∧ I_z mem
section IN
variable {mem m2 : am_M}
theorem I_im_fr (h : I_im mem) (h29 : m2 29 5 = mem 29 5) (h221 : m2 221 3 = mem 221 3) (h223 : m2 223 = mem 223) (h6 : nn (mem 222 6) ≤ nn (m2 222 6)) (e : ∀ q, (34 ≤ q ∧ q ≤ 61) ∨ (104 ≤ q ∧ q ≤ 141) → m2 q = mem q) : I_im m2 := by
  refine ⟨?_, ?_⟩
  · rw [h29, h221]; exact h.1
  · rw [h221, h223]
    intro z
    obtain ⟨a, b, c⟩ := h.2 z
    exact ⟨cp_fr a e, b, Nat.le_trans c h6⟩
theorem I_tp_fr (h : I_tp mem) (h62 : m2 62 1 = mem 62 1) (h221 : m2 221 6 = mem 221 6) (h63 : m2 63 = mem 63) (h226 : m2 226 = mem 226) : I_tp m2 := by
  obtain ⟨tl, a, b, c, e⟩ := h
  refine ⟨tl, a, by rw [h62]; exact b, by rw [h221]; exact c, ?_⟩
  rw [h63, h226]; exact e
theorem I_sh_fr (h : I_sh mem) (e : ∀ q, (198 ≤ q ∧ q ≤ 205) ∨ (245 ≤ q ∧ q ≤ 247) → m2 q = mem q) : I_sh m2 := by
  intro s hs
  rw [e (198 + 2 * s) (by omega), e (199 + 2 * s) (by omega), e 245 (by omega), e 246 (by omega), e 247 (by omega)]
  exact h s hs
theorem I_sl_fr (h : I_sl mem) (e : ∀ q, (206 ≤ q ∧ q ≤ 220) ∨ (248 ≤ q ∧ q ≤ 250) → m2 q = mem q) : I_sl m2 := by
  intro s hs
  rw [e (206 + 3 * s) (by omega), e (207 + 3 * s) (by omega), e (208 + 3 * s) (by omega), e 248 (by omega), e 249 (by omega), e 250 (by omega)]
  exact h s hs
theorem I_wt_fr (h : I_wt mem) (h29 : m2 29 11 = mem 29 11) (h221 : m2 221 43 = mem 221 43) (h195 : m2 195 = mem 195) (h252 : m2 252 = mem 252) : I_wt m2 := by
  obtain ⟨w, a, b, c, e⟩ := h
  refine ⟨w, a, by rw [h29]; exact b, by rw [h221]; exact c, ?_⟩
  rw [h195, h252]; exact e
end IN
/-- after both have answered, alike, all holds again -/
theorem Inv_town {xs : am_R} {mem m1 m2 : am_M} {R' : am_R} (hI : Inv xs mem) (h1 : FrC mem m1) (hC : CplT 66 R' m1) (h2 : FrR4 m1 m2) (hR : m2 222 = R') (hday : nn (R' 1) ≤ 999) (h6 : nn (mem 222 6) ≤ nn (R' 6) ∨ (mem 221 3 = 1 → nn (mem 223 6) ≤ nn (R' 6))) : Inv xs m2 := by
  obtain ⟨i1, ⟨i2, i2b⟩, i3, i4, i5, i6, i7, i8, i9⟩ := hI
  have e : ∀ q, ¬ (q = 32 ∨ q = 33 ∨ (66 ≤ q ∧ q ≤ 103) ∨ (142 ≤ q ∧ q ≤ 192) ∨ q = 196 ∨ q = 197 ∨ q = 222 ∨ q = 224 ∨ q = 225 ∨ (229 ≤ q ∧ q ≤ 244) ∨ q = 251) → m2 q = mem q := fun q hq => (h2.1 q (by omega)).trans (h1 q (by omega))
  refine ⟨fun q hq => (e q (by omega)).trans (i1 q hq), ⟨?_, by rw [hR]; exact hday⟩, ?_, ?_, ?_, ?_, ?_, ?_, ?_⟩
  · rw [hR]; exact cp_fr hC (fun q hq => h2.1 q (by omega))
  · refine ⟨by rw [e 29 (by omega), e 221 (by omega)]; exact i3.1, ?_⟩
    rw [e 221 (by omega), e 223 (by omega), hR]
    intro z
    obtain ⟨a, b, c⟩ := i3.2 z
    exact ⟨cp_fr a (fun q hq => e q (by omega)), b, h6.elim (fun y => Nat.le_trans c y) (fun y => y z)⟩
  · exact I_tp_fr i4 (by rw [e 62 (by omega)]) (by rw [e 221 (by omega)]) (e 63 (by omega)) (e 226 (by omega))
  · exact I_sh_fr i5 (fun q hq => e q (by omega))
  · exact I_sl_fr i6 (fun q hq => e q (by omega))
  · exact I_wt_fr i7 (by rw [e 29 (by omega)]) (by rw [e 221 (by omega)]) (e 195 (by omega)) (e 252 (by omega))
  · rw [e 227 (by omega), e 228 (by omega)]; exact i8
  · intro i hi
    rw [(h2.2 i hi).1, (h2.2 i hi).2, e 223 (by omega), h1 222 (by omega), h1 224 (by omega)]
    exact i9 i hi
/-- the reference's answer is v, too, and all holds again behind it -/
def RefA (xs : am_R) (d n k : Nat) (as : List Value) (v : Int32) (m1 : am_M) : Prop := ∀ Q2 : am_P, (∀ m2 : am_M, Inv xs m2 → Q2 (some (.int v)) (am_SK n) m2) → am_ex d k as (am_SK n) m1 Q2
theorem pub_town {xs : am_R} {d n kc kr : Nat} {mem : am_M} {Q : am_P} {ac ar : List Value} {v : Int32} {R' : am_R} (hI : Inv xs mem) (hday : nn (R' 1) ≤ 999) (h6 : nn (mem 222 6) ≤ nn (R' 6)) (hc : ∀ Q1 : am_P, (∀ m2 : am_M, FrC mem m2 → CplT 66 R' m2 → Q1 (some (.int v)) (am_SK n) m2) → am_ex d kc ac (am_SK n) mem Q1) (hr : ∀ m1 : am_M, FrC mem m1 → ∀ Q1 : am_P, (∀ m2 : am_M, FrR m1 m2 → m2 222 = R' → Q1 (some (.int v)) (am_SK n) m2) → am_ex d kr ar (am_SK n) m1 Q1) (hQ : ∀ m1 : am_M, RefA xs d n kr ar v m1 → Q (some (.int v)) (am_SK n) m1) : am_ex d kc ac (am_SK n) mem Q := by
  refine hc Q (fun m1 h1 hC => hQ m1 (fun Q2 h2 => ?_))
  exact hr m1 h1 Q2 (fun m2 h3 hR => h2 m2 (Inv_town hI h1 hC (FrR_4 h3) hR hday (Or.inl h6)))
theorem O_cabinet_k (R : am_R) (p k : Int32) : (O_cabinet R p k).2 1 = R 1 ∧ (O_cabinet R p k).2 6 = R 6 := by
  unfold O_cabinet
  split
  · split
    · exact ⟨rfl, rfl⟩
    · show U_cab R p k 1 = R 1 ∧ U_cab R p k 6 = R 6
      unfold U_cab
      constructor <;> repeat rw [upd_ne (by omega)]
  · exact ⟨rfl, rfl⟩
theorem O_joint_k (R : am_R) (p k : Int32) : (O_joint R p k).2 1 = R 1 ∧ (O_joint R p k).2 6 = R 6 := by
  unfold O_joint
  split
  · split
    · exact ⟨rfl, rfl⟩
    · show U_joint R p k 1 = R 1 ∧ U_joint R p k 6 = R 6
      unfold U_joint
      constructor <;> repeat rw [upd_ne (by omega)]
  · exact ⟨rfl, rfl⟩
theorem O_lamp_k (R : am_R) (k j o : Int32) : (O_lamp R k j o).2 1 = R 1 ∧ (O_lamp R k j o).2 6 = R 6 := by
  unfold O_lamp
  split
  · split
    · exact ⟨rfl, rfl⟩
    · show U_lamp R k j o 1 = R 1 ∧ U_lamp R k j o 6 = R 6
      unfold U_lamp
      constructor <;> repeat rw [upd_ne (by omega)]
  · exact ⟨rfl, rfl⟩
theorem O_shift_k (R : am_R) (p : Int32) (v : Int32) : (O_shift R p v).2 1 = R 1 ∧ (O_shift R p v).2 6 = R 6 := by
  unfold O_shift
  repeat' split
  all_goals first | exact ⟨rfl, rfl⟩ | (dsimp only; constructor <;> repeat rw [upd_ne (by omega)])
theorem O_bill_k (R : am_R) (p : Int32) : (O_bill R p).2 1 = R 1 ∧ (O_bill R p).2 6 = R 6 := by
  unfold O_bill
  repeat' split
  all_goals first | exact ⟨rfl, rfl⟩ | (dsimp only; constructor <;> repeat rw [upd_ne (by omega)])
theorem O_feast_k (R : am_R) (v : Int32) : (O_feast R v).2 1 = R 1 ∧ (O_feast R v).2 6 = R 6 := by
  unfold O_feast
  repeat' split
  all_goals first | exact ⟨rfl, rfl⟩ | (dsimp only; constructor <;> repeat rw [upd_ne (by omega)])
theorem O_change_k (R : am_R) (p : Int32) (w : Int32) : (O_change R p w).2 1 = R 1 ∧ (O_change R p w).2 6 = R 6 := by
  unfold O_change
  repeat' split
  all_goals first | exact ⟨rfl, rfl⟩ | (dsimp only; constructor <;> repeat rw [upd_ne (by omega)])
theorem O_dark_k (R : am_R) (p : Int32) (b : Int32) : (O_dark R p b).2 1 = R 1 ∧ (O_dark R p b).2 6 = R 6 := by
  unfold O_dark
  repeat' split
  all_goals first | exact ⟨rfl, rfl⟩ | (dsimp only; constructor <;> repeat rw [upd_ne (by omega)])
theorem O_choose_k (R : am_R) (p : Int32) : (O_choose R p).2 1 = R 1 ∧ (O_choose R p).2 6 = R 6 := by
  unfold O_choose
  repeat' split
  all_goals first | exact ⟨rfl, rfl⟩ | (dsimp only; constructor <;> repeat rw [upd_ne (by omega)])
theorem O_stop_k (R : am_R) (p : Int32) : (O_stop R p).2 1 = R 1 ∧ (O_stop R p).2 6 = R 6 := by
  unfold O_stop
  repeat' split
  all_goals first | exact ⟨rfl, rfl⟩ | (dsimp only; constructor <;> repeat rw [upd_ne (by omega)])
theorem O_clear_k (R : am_R) : (O_clear R).2 1 = R 1 ∧ (O_clear R).2 6 = R 6 := by
  unfold O_clear
  repeat' split
  all_goals first | exact ⟨rfl, rfl⟩ | (dsimp only; constructor <;> repeat rw [upd_ne (by omega)])
theorem O_home_k (R : am_R) : (O_home R).2 1 = R 1 ∧ (O_home R).2 6 = R 6 := by
  unfold O_home
  repeat' split
  all_goals first | exact ⟨rfl, rfl⟩ | (dsimp only; constructor <;> repeat rw [upd_ne (by omega)])
theorem O_breaks_k {R : am_R} (hw : wfR R) (w p : Int32) : (O_breaks R w p).2 1 = R 1 ∧ (O_breaks R w p).2 6 = R 6 := by
  unfold O_breaks
  split
  · exact ⟨rfl, rfl⟩
  · rename_i h
    have hb := wb_all hw
    have h9 : 23 ≤ nn (S_brk R w p) := by
      by_cases hP : P_th R w p
      · rcases hP with ⟨rfl, hp⟩ | ⟨rfl, hp⟩ | ⟨rfl, hp⟩
        · obtain ⟨e, hh⟩ := am_idx (wr3 hw) (by omega) hp
          rw [e, brk0 hw hh, nn_nI (by omega)]; omega
        · obtain ⟨e, hh⟩ := am_idx (wr4 hw) (by omega) hp
          rw [e, brk1 hw hh, nn_nI (by omega)]; omega
        · obtain ⟨e, hh⟩ := am_idx (wr5 hw) (by omega) hp
          rw [e, brk2 hw hh, nn_nI (by omega)]; omega
      · exact absurd (brkN hP) h
    dsimp only
    constructor <;> rw [upd_ne (by omega)]
theorem O_mend_k {R : am_R} (hw : wfR R) (w p : Int32) : (O_mend R w p).2 1 = R 1 ∧ (O_mend R w p).2 6 = R 6 := by
  unfold O_mend
  split
  · exact ⟨rfl, rfl⟩
  · rename_i h
    have hb := wb_all hw
    have h9 : 23 ≤ nn (S_brk R w p) := by
      by_cases hP : P_th R w p
      · rcases hP with ⟨rfl, hp⟩ | ⟨rfl, hp⟩ | ⟨rfl, hp⟩
        · obtain ⟨e, hh⟩ := am_idx (wr3 hw) (by omega) hp
          rw [e, brk0 hw hh, nn_nI (by omega)]; omega
        · obtain ⟨e, hh⟩ := am_idx (wr4 hw) (by omega) hp
          rw [e, brk1 hw hh, nn_nI (by omega)]; omega
        · obtain ⟨e, hh⟩ := am_idx (wr5 hw) (by omega) hp
          rw [e, brk2 hw hh, nn_nI (by omega)]; omega
      · exact absurd (brkN hP) h
    dsimp only
    constructor <;> rw [upd_ne (by omega)]
theorem S_hrs_k : ∀ (r : Nat) (R : am_R), wfR R → wfTs R → nn (R 1) + (nn (R 0) + r) / 24 ≤ 999 → r ≤ 60 → nn (S_hrs r R 1) ≤ 999 ∧ S_hrs r R 6 = R 6 := by
  intro r
  induction r with
  | zero => intro R hw hT h _; exact ⟨by show nn (R 1) ≤ 999; omega, rfl⟩
  | succ r ih =>
    intro R hw hT h hr
    have hwf := wf_hour hw hT (by omega)
    obtain ⟨a, b⟩ := ih (S_hour R) hwf.1 hwf.2 (hd_step hw hT (by omega) h) (by omega)
    exact ⟨a, b.trans (S_hour_same hw hT (by omega) 6 (by decide))⟩
theorem O_hours_k {R : am_R} (hw : wfR R) (hT : wfTs R) (h : nn (R 1) ≤ 999) (v : Int32) : nn ((O_hours R v).2 1) ≤ 999 ∧ (O_hours R v).2 6 = R 6 := by
  unfold O_hours
  split
  · rename_i hP
    have h60 := (P_hr_n hP).2.2
    split
    · rename_i h2
      exact S_hrs_k (nn v) R hw hT h2 h60
    · exact ⟨h, rfl⟩
  · exact ⟨h, rfl⟩
