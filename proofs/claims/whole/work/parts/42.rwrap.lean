/-! the reference's methods, said of its row R -/
section RR
variable {d n : Nat} {mem : am_M} {Q : am_P} {R : am_R}
theorem wr0 (h : wfR R) : R 0 = nI (nn (R 0)) := h.1.1.1
theorem wr1 (h : wfR R) : R 1 = nI (nn (R 1)) := h.1.2.1.1
theorem wr2 (h : wfR R) : R 2 = nI (nn (R 2)) := h.1.2.2.1.1
theorem wr3 (h : wfR R) : R 3 = nI (nn (R 3)) := h.2.1.1.1
theorem wr4 (h : wfR R) : R 4 = nI (nn (R 4)) := h.2.1.2.1.1
theorem wr5 (h : wfR R) : R 5 = nI (nn (R 5)) := h.2.1.2.2.1.1
theorem wr6 (h : wfR R) : R 6 = nI (nn (R 6)) := h.2.1.2.2.2.1.1
theorem wr7 (h : wfR R) : R 7 = nI (nn (R 7)) := h.2.1.2.2.2.2.1.1
theorem wr8 (h : wfR R) : R 8 = nI (nn (R 8)) := h.2.1.2.2.2.2.2.1
def Hfr (mem0 mem : am_M) : Prop := (∀ q, q ≠ 222 → mem q = mem0 q) ∧ ∀ i, 1561 ≤ i → mem 222 i = mem0 222 i
theorem Hfr0 (mem : am_M) : Hfr mem mem := ⟨fun _ _ => rfl, fun _ _ => rfl⟩
theorem ev_iastR {code : am_C} {pc nx m : Nat} {L : am_L} {st : List Value} {sk : am_K} {x : Int32} {mem0 : am_M} {rs : List (Option Nat)} (hc : am_at code pc = some (.iastore, nx)) (hR : mem 222 = R) (hfr : Hfr mem0 mem) (k : ∀ mem' : am_M, Hfr mem0 mem' → mem' 222 = upd R m x → am_ev code d nx L st sk mem' Q) (hq : sk[222]? = some (20, 1561, rs)) (hm : m < 1561 := by first | omega | assumption) : am_ev code d pc L (.int x :: .int (nI m) :: .ref 222 :: st) sk mem Q :=
  ev_iastN hc rfl (k _ ⟨fun q h => (am_up_ne h).trans (hfr.1 q h), fun i hi => (am_up_nk (by omega)).trans (hfr.2 i hi)⟩ (by rw [am_up_row, hR])) hq hm (by decide) (by decide)
theorem r_isCab (hR : mem 222 = R) (p : Int32) (hQ : Q (some (.int (am_b (0 ≤ p ∧ p ≤ R 3 - 1)))) (am_SK n) mem) : am_ex (d + 2) 146 [.ref 221, .int p] (am_SK n) mem Q := by subst hR; exact c_X12_isCab p hQ
theorem r_isJoint (hR : mem 222 = R) (p : Int32) (hQ : Q (some (.int (am_b (0 ≤ p ∧ p ≤ R 4 - 1)))) (am_SK n) mem) : am_ex (d + 2) 147 [.ref 221, .int p] (am_SK n) mem Q := by subst hR; exact c_X12_isJoint p hQ
theorem r_isLamp (hR : mem 222 = R) (p : Int32) (hQ : Q (some (.int (am_b (0 ≤ p ∧ p ≤ R 5 - 1)))) (am_SK n) mem) : am_ex (d + 2) 148 [.ref 221, .int p] (am_SK n) mem Q := by subst hR; exact c_X12_isLamp p hQ
theorem r_cab6 (hR : mem 222 = R) (a w : Nat) (h : 23 + 6 * a + w < 1561) {x : Int32} (hx : R (23 + 6 * a + w) = x) (hQ : Q (some (.int x)) (am_SK n) mem) : am_ex (d + 1) 150 [.ref 221, .int (nI a), .int (nI w)] (am_SK n) mem Q := by subst hx; subst hR; exact c_X12_cab6 a w h hQ
theorem r_joint3 (hR : mem 222 = R) (a w : Nat) (h : 41 + 3 * a + w < 1561) {x : Int32} (hx : R (41 + 3 * a + w) = x) (hQ : Q (some (.int x)) (am_SK n) mem) : am_ex (d + 1) 151 [.ref 221, .int (nI a), .int (nI w)] (am_SK n) mem Q := by subst hx; subst hR; exact c_X12_joint3 a w h hQ
theorem r_lamp7 (hR : mem 222 = R) (a w : Nat) (h : 77 + 7 * a + w < 1561) {x : Int32} (hx : R (77 + 7 * a + w) = x) (hQ : Q (some (.int x)) (am_SK n) mem) : am_ex (d + 1) 152 [.ref 221, .int (nI a), .int (nI w)] (am_SK n) mem Q := by subst hx; subst hR; exact c_X12_lamp7 a w h hQ
theorem r_cabOf (hR : mem 222 = R) (hw : wfR R) (j : Nat) (hj : j < nn (R 4)) (hQ : Q (some (.int (nI (S_cab R j)))) (am_SK n) mem) : am_ex (d + 2) 155 [.ref 221, .int (nI j)] (am_SK n) mem Q := by subst hR; exact c_X12_cabOf hw j hj hQ
theorem r_isNight (hR : mem 222 = R) (hw : wfR R) (c : Nat) (hc : c < nn (R 3)) (hQ : Q (some (.int (ob (S_night R c)))) (am_SK n) mem) : am_ex (d + 2) 154 [.ref 221, .int (nI c)] (am_SK n) mem Q := by subst hR; exact c_X12_isNight hw c hc hQ
theorem r_shouldBurn (hR : mem 222 = R) (hw : wfR R) (l : Nat) (hl : l < nn (R 5)) (hQ : Q (some (.int (ob (S_should R l)))) (am_SK n) mem) : am_ex (d + 3) 156 [.ref 221, .int (nI l)] (am_SK n) mem Q := by subst hR; exact c_X12_shouldBurn hw l hl hQ
theorem r_isFed (hR : mem 222 = R) (hw : wfR R) (l : Nat) (hl : l < nn (R 5)) (hQ : Q (some (.int (ob (S_fed R l)))) (am_SK n) mem) : am_ex (d + 2) 157 [.ref 221, .int (nI l)] (am_SK n) mem Q := by subst hR; exact c_X12_isFed hw l hl hQ
theorem r_burns (hR : mem 222 = R) (hw : wfR R) (l : Nat) (hl : l < nn (R 5)) (hQ : Q (some (.int (ob (S_burns R l)))) (am_SK n) mem) : am_ex (d + 4) 158 [.ref 221, .int (nI l)] (am_SK n) mem Q := by subst hR; exact c_X12_burns hw l hl hQ
theorem r_draws (hR : mem 222 = R) (hw : wfR R) (hT : wfTs R) (l : Nat) (hl : l < nn (R 5)) (hQ : ∀ m2 : am_M, (∀ q, q ≠ 232 → q ≠ 233 → m2 q = mem q) → Q (some (.int (S_draw R l))) (am_SK n) m2) : am_ex (d + 5) 160 [.ref 221, .int (nI l)] (am_SK n) mem Q := by subst hR; exact c_X12_draws hw hT l hl hQ
theorem r_lifeOf (hR : mem 222 = R) (hw : wfR R) (hT : wfTs R) (l : Nat) (hl : l < 16) (hQ : ∀ m2 : am_M, (∀ q, q ≠ 232 → q ≠ 233 → m2 q = mem q) → Q (some (.int (S_life R l))) (am_SK n) m2) : am_ex (d + 4) 162 [.ref 221, .int (nI l)] (am_SK n) mem Q := by subst hR; exact c_X12_lifeOf hw hT l hl hQ
theorem r_drawnBy (hR : mem 222 = R) (hw : wfR R) (hT : wfTs R) (cab bu : Int32) (hQ : ∀ m2 : am_M, (∀ q, q ≠ 232 → q ≠ 233 → m2 q = mem q) → Q (some (.int (S_drawn R cab bu))) (am_SK n) m2) : am_ex (d + 7) 163 [.ref 221, .int cab, .int bu] (am_SK n) mem Q := by subst hR; exact c_X12_drawnBy hw hT cab bu hQ
theorem r_brokenAt (hR : mem 222 = R) (w p : Int32) (hQ : Q (some (.int (S_brk R w p))) (am_SK n) mem) : am_ex (d + 3) 174 [.ref 221, .int w, .int p] (am_SK n) mem Q := by subst hR; exact c_X12_brokenAt w p hQ
theorem r_counts (hR : mem 222 = R) (hw : wfR R) (hT : wfTs R) (key : Nat) (hkey : key < 4) (hQ : Q (some (.int (S_cntI (S_cnt R key (nn (R 6)))))) (am_SK n) mem) : am_ex (d + 2) 198 [.ref 221, .int (nI key)] (am_SK n) mem Q := by subst hR; exact c_X12_counts hw (wfTs_H hT) key hkey hQ
theorem r_outMany (hR : mem 222 = R) (hw : wfR R) (hT : wfTs R) (hQ : ∀ m2 : am_M, (∀ q, q ≠ 232 → q ≠ 233 → m2 q = mem q) → Q (some (.int (S_sumF (S_out R) (nn (R 5)) 0 (nI 0)))) (am_SK n) m2) : am_ex (d + 3) 230 [.ref 221] (am_SK n) mem Q := by subst hR; exact c_X12_outMany hw hT hQ
theorem r_darkMany (hR : mem 222 = R) (hw : wfR R) (hT : wfTs R) (hQ : ∀ m2 : am_M, (∀ q, q ≠ 232 → q ≠ 233 → m2 q = mem q) → Q (some (.int (S_sumF (S_drk R) (nn (R 5)) 0 (nI 0)))) (am_SK n) m2) : am_ex (d + 3) 235 [.ref 221] (am_SK n) mem Q := by subst hR; exact c_X12_darkMany hw hT hQ
end RR
