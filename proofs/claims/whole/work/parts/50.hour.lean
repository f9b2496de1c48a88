/-! an hour goes by, purely -/
section WF
variable {R R' : am_R}
theorem wfR_lset (hw : wfR R) {l : Nat} (hl : l < nn (R 5)) (hR : ∀ i, ¬ (77 + 7 * l ≤ i ∧ i < 77 + 7 * l + 7) → R' i = R i) (hwl : wfL R' l) : wfR R' := by
  have hb := wb_all hw
  obtain ⟨w0, w1, w2, w3, w4, w5, w6⟩ := hw
  have z : ∀ i, i < 77 → R' i = R i := fun i hi => hR i (by omega)
  refine ⟨?_, ?_, ?_, ?_, ?_, ?_, ?_⟩
  · rw [z 0 (by decide), z 1 (by decide), z 2 (by decide)]; exact w0
  · rw [z 3 (by decide), z 4 (by decide), z 5 (by decide), z 6 (by decide), z 7 (by decide), z 8 (by decide)]; exact w1
  · rw [z 3 (by decide)]; intro c hc; exact wfC_cg (fun i _ _ => z i (by omega)) (w2 c hc)
  · rw [z 4 (by decide)]; intro c hc; exact wfJ_cg (by rw [z 3 (by decide)]; exact Nat.le_refl _) (fun i _ _ => z i (by omega)) (w3 c hc)
  · rw [z 5 (by decide)]; intro c hc
    by_cases e : c = l
    · rw [e]; exact hwl
    · exact wfL_cg (by rw [z 4 (by decide)]; exact Nat.le_refl _) (fun i _ _ => hR i (by omega)) (w4 c hc)
  · rw [z 7 (by decide), z 5 (by decide)]; intro k hk; rw [z (9 + k) (by omega)]; exact w5 k hk
  · rw [z 8 (by decide), z 4 (by decide)]; intro k hk; rw [z (17 + k) (by omega)]; exact w6 k hk
theorem wfR_cset (hw : wfR R) {l : Nat} (hl : l < nn (R 3)) (hR : ∀ i, ¬ (23 + 6 * l ≤ i ∧ i < 23 + 6 * l + 6) → R' i = R i) (hwl : wfC R' l) : wfR R' := by
  have hb := wb_all hw
  obtain ⟨w0, w1, w2, w3, w4, w5, w6⟩ := hw
  have z : ∀ i, i < 23 ∨ 41 ≤ i → R' i = R i := fun i hi => hR i (by omega)
  refine ⟨?_, ?_, ?_, ?_, ?_, ?_, ?_⟩
  · rw [z 0 (by decide), z 1 (by decide), z 2 (by decide)]; exact w0
  · rw [z 3 (by decide), z 4 (by decide), z 5 (by decide), z 6 (by decide), z 7 (by decide), z 8 (by decide)]; exact w1
  · rw [z 3 (by decide)]; intro c hc
    by_cases e : c = l
    · rw [e]; exact hwl
    · exact wfC_cg (fun i _ _ => hR i (by omega)) (w2 c hc)
  · rw [z 4 (by decide)]; intro c hc; exact wfJ_cg (by rw [z 3 (by decide)]; exact Nat.le_refl _) (fun i _ _ => z i (by omega)) (w3 c hc)
  · rw [z 5 (by decide)]; intro c hc; exact wfL_cg (by rw [z 4 (by decide)]; exact Nat.le_refl _) (fun i _ _ => z i (by omega)) (w4 c hc)
  · rw [z 7 (by decide), z 5 (by decide)]; intro k hk; rw [z (9 + k) (by omega)]; exact w5 k hk
  · rw [z 8 (by decide), z 4 (by decide)]; intro k hk; rw [z (17 + k) (by omega)]; exact w6 k hk
end WF
theorem S_clp_n (v : Int32) {a b : Nat} (hab : a ≤ b) (hb : b < 2 ^ 31) : ∃ m, S_clp v (nI a) (nI b) = nI m ∧ a ≤ m ∧ m ≤ b := by
  unfold S_clp
  split
  · exact ⟨a, rfl, Nat.le_refl _, hab⟩
  · split
    · exact ⟨b, rfl, hab, Nat.le_refl _⟩
    · rename_i h1 h2
      have ea : (nI a).toInt = (a : Int) := nI_toInt (by omega)
      have eb : (nI b).toInt = (b : Int) := nI_toInt hb
      rw [Int32.lt_iff_toInt_lt, ea] at h1
      rw [Int32.lt_iff_toInt_lt, eb] at h2
      exact ⟨v.toInt.toNat, am_nI_of (by omega) (by omega), by omega, by omega⟩
theorem S_clp_m {m a b : Nat} (h1 : a ≤ m) (hm : m < 2 ^ 31) (hb : b < 2 ^ 31) : S_clp (nI m) (nI a) (nI b) = if nI m < nI b then nI m else nI b := by
  unfold S_clp
  rw [if_neg (nI_nlt h1 hm)]
  by_cases h : m < b
  · rw [if_pos (nI_lt h hb), if_neg (nI_nlt (by omega) hb)]
  · rw [if_neg (nI_nlt (by omega) hm)]
    by_cases h2 : b < m
    · rw [if_pos (nI_lt h2 hm)]
    · rw [if_neg (nI_nlt (by omega) hb), show m = b by omega]
theorem S_dim_n (R : am_R) (x : Int32) : ∃ m, S_dim R x = nI m ∧ m ≤ 100 := by
  unfold S_dim
  split
  · split
    · exact ⟨100, rfl, by decide⟩
    · exact ⟨50, rfl, by decide⟩
  · obtain ⟨m, e, -, h⟩ := S_clp_n (S_val R (S_F (R 0) (R 1) x) _) (a := 0) (b := 100) (by decide) (by decide)
    exact ⟨m, e, h⟩
theorem S_price_n (R : am_R) : ∃ m, S_price R = nI m ∧ m ≤ 999 := by
  unfold S_price
  split
  · exact ⟨10, rfl, by decide⟩
  · obtain ⟨m, e, -, h⟩ := S_clp_n (S_val R (S_F (R 0) (R 1) 0) _) (a := 0) (b := 999) (by decide) (by decide)
    exact ⟨m, e, h⟩
theorem S_life_n (R : am_R) (l : Nat) : ∃ m, S_life R l = nI m ∧ 1 ≤ m ∧ m ≤ 30000 := by
  unfold S_life
  split
  · exact ⟨4000, rfl, by decide, by decide⟩
  · obtain ⟨m, e, h1, h⟩ := S_clp_n (S_val R (S_F (R (77 + 7 * l)) (R (77 + 7 * l + 2)) (R (77 + 7 * l + 3))) _) (a := 1) (b := 30000) (by decide) (by decide)
    exact ⟨m, e, h1, h⟩
theorem mul_100 {a b : Nat} (ha : a ≤ 99) (hb : b ≤ 100) : a * b ≤ 9900 := Nat.mul_le_mul ha hb
theorem S_draw_n {R : am_R} {l : Nat} (hw : wfL R l) : ∃ m, S_draw R l = nI m ∧ m ≤ 150 := by
  unfold S_draw
  obtain ⟨⟨e0, g0⟩, -, ⟨⟨e2, g2⟩, -⟩, -, ⟨e4, g4⟩, -⟩ := hw
  obtain ⟨d, ed, hd⟩ := S_dim_n R (R (77 + 7 * l + 3))
  generalize nn (R (77 + 7 * l)) = kd at g0
  generalize nn (R (77 + 7 * l + 2)) = p at e2 g2
  rw [e2]
  have hpd := mul_100 (show p ≤ 99 by omega) hd
  rcases (show kd = 0 ∨ kd = 1 ∨ kd = 2 ∨ kd = 3 ∨ kd = 4 ∨ kd = 5 by omega) with rfl | rfl | rfl | rfl | rfl | rfl
  · exact ⟨p, rfl, by omega⟩
  · refine ⟨p * d / 100, ?_, by omega⟩
    show nI p * S_dim R (R (77 + 7 * l + 3)) / nI 100 = _
    rw [ed, pk_mul, pk_div (by omega) (by decide) (by decide)]
  · refine ⟨p / 2, ?_, by omega⟩
    show nI p / nI 2 = _
    rw [pk_div (by omega) (by decide) (by decide)]
  · refine ⟨p * d / 100 - p * d / 100 / 3, ?_, by omega⟩
    show nI p * S_dim R (R (77 + 7 * l + 3)) / nI 100 - nI p * S_dim R (R (77 + 7 * l + 3)) / nI 100 / nI 3 = _
    rw [ed, pk_mul, pk_div (by omega) (by decide) (by decide), pk_div (by omega) (by decide) (by decide), pk_sub (by omega)]
  · refine ⟨3 * (p / 2), ?_, by omega⟩
    show nI 3 * (nI p / nI 2) = _
    rw [pk_div (by omega) (by decide) (by decide), pk_mul]
  · refine ⟨p + nn (R (77 + 7 * l + 4)) / 1000, ?_, by omega⟩
    show nI p + R (77 + 7 * l + 4) / nI 1000 = _
    rw [e4, nn_nI (by omega), pk_div (by omega) (by decide) (by decide), nI_add]
/-- the rows agree but for what was paid, and for how long the lamps ahead of l0 have burnt -/
def Ag (R G : am_R) (l0 : Nat) : Prop := ∀ i, ¬ (23 ≤ i ∧ i < 41 ∧ (i - 23) % 6 = 5) → ¬ (77 ≤ i ∧ i < 77 + 7 * l0 ∧ ((i - 77) % 7 = 4 ∨ (i - 77) % 7 = 5)) → G i = R i
section AG
variable {R G : am_R} {l0 : Nat}
theorem Ag_lo (h : Ag R G l0) {i : Nat} (hi : i < 23) : G i = R i := h i (by omega) (by omega)
theorem Ag_hi (h : Ag R G l0) (hl : l0 ≤ 16) : ∀ i, 189 ≤ i → G i = R i := fun i hi => h i (by omega) (by omega)
theorem Ag_cab (h : Ag R G l0) (j : Nat) (hj : j < 12) : S_cab G j = S_cab R j := S_cab_cg j (fun i hi => h _ (by omega) (by omega))
theorem Ag_way (hw : wfR R) (h : Ag R G l0) : ∀ j, j < nn (R 4) → S_way G j = S_way R j := by
  have hb := wb_all hw
  intro j
  induction j using Nat.strongRecOn with
  | ind j ih =>
    intro hj
    have e0 : G (41 + 3 * j) = R (41 + 3 * j) := h _ (by omega) (by omega)
    have e2 : G (41 + 3 * j + 2) = R (41 + 3 * j + 2) := h _ (by omega) (by omega)
    obtain ⟨⟨-, g1⟩, -⟩ := hw.2.2.2.1 j hj
    by_cases hb2 : R (41 + 3 * j + 2) = 1
    · rw [S_way_brk hb2, S_way_brk (by rw [e2]; exact hb2)]
    · by_cases hf : nn (R (41 + 3 * j)) < j
      · rw [S_way_eq hb2 hf, S_way_eq (by rw [e2]; exact hb2) (by rw [e0]; exact hf), e0]
        exact ih _ hf (by omega)
      · rw [S_way_top hb2 hf, S_way_top (by rw [e2]; exact hb2) (by rw [e0]; exact hf), e0]
        rw [h (23 + 6 * (nn (R (41 + 3 * j)) - 100) + 4) (by omega) (by omega)]
theorem Ag_night (h : Ag R G l0) {c : Nat} (hc : c < 3) : S_night G c = S_night R c := by
  unfold S_night
  rw [h (23 + 6 * c + 1) (by omega) (by omega), h (23 + 6 * c + 2) (by omega) (by omega), h (23 + 6 * c + 3) (by omega) (by omega), Ag_lo h (by decide)]
theorem Ag_should (hw : wfR R) (h : Ag R G l0) {l : Nat} (hl : l < nn (R 5)) : S_should G l = S_should R l := by
  have hb := wb_all hw
  have hj := (hw.2.2.2.2.1 l hl).2.1.2
  have hc := S_cab_lt hw _ hj
  unfold S_should
  rw [h (77 + 7 * l) (by omega) (by omega), h (77 + 7 * l + 1) (by omega) (by omega), Ag_lo h (show 1 < 23 by decide), Ag_lo h (show 2 < 23 by decide), Ag_cab h _ (by omega), Ag_night h (by omega)]
theorem Ag_burns (hw : wfR R) (h : Ag R G l0) {l : Nat} (hl : l < nn (R 5)) (hl0 : l0 ≤ l) : S_burns G l = S_burns R l := by
  have hb := wb_all hw
  have hj := (hw.2.2.2.2.1 l hl).2.1.2
  unfold S_burns S_fed
  rw [Ag_should hw h hl, h (77 + 7 * l + 5) (by omega) (by omega), h (77 + 7 * l + 1) (by omega) (by omega), Ag_way hw h _ hj]
theorem S_go_cg (y : ∀ i, 189 ≤ i → G i = R i) (F : am_R) (u : Nat) : ∀ r k st, S_go G F u r k st = S_go R F u r k st := by
  intro r
  induction r with
  | zero => intro k st; rfl
  | succ r ih => intro k st; unfold S_go; rw [y _ (by omega)]; exact ih _ _
theorem S_val_cg (y : ∀ i, 189 ≤ i → G i = R i) (F : am_R) (u : Nat) : S_val G F u = S_val R F u := by
  unfold S_val; rw [S_num_cg y, S_go_cg y]
theorem Ag_dim (h : Ag R G l0) (hl : l0 ≤ 16) (x : Int32) : S_dim G x = S_dim R x := by
  have y := Ag_hi h hl
  unfold S_dim
  rw [Ag_lo h (show 6 < 23 by decide), S_cnt_cg y, Ag_lo h (show 0 < 23 by decide), Ag_lo h (show 1 < 23 by decide)]
  cases S_cnt R 0 (nn (R 6)) with
  | none => rfl
  | some u => exact congrArg (fun z => S_clp z (nI 0) (nI 100)) (S_val_cg y _ _)
theorem Ag_price (h : Ag R G l0) (hl : l0 ≤ 16) : S_price G = S_price R := by
  have y := Ag_hi h hl
  unfold S_price
  rw [Ag_lo h (show 6 < 23 by decide), S_cnt_cg y, Ag_lo h (show 0 < 23 by decide), Ag_lo h (show 1 < 23 by decide)]
  cases S_cnt R 2 (nn (R 6)) with
  | none => rfl
  | some u => exact congrArg (fun z => S_clp z (nI 0) (nI 999)) (S_val_cg y _ _)
theorem Ag_life (h : Ag R G l0) (hl : l0 ≤ 16) {l : Nat} (hl2 : l < 16) : S_life G l = S_life R l := by
  have y := Ag_hi h hl
  unfold S_life
  rw [Ag_lo h (show 6 < 23 by decide), S_cnt_cg y, h (77 + 7 * l) (by omega) (by omega), h (77 + 7 * l + 2) (by omega) (by omega), h (77 + 7 * l + 3) (by omega) (by omega)]
  cases S_cnt R 1 (nn (R 6)) with
  | none => rfl
  | some u => exact congrArg (fun z => S_clp z (nI 1) (nI 30000)) (S_val_cg y _ _)
theorem Ag_draw (h : Ag R G l0) {l : Nat} (hl2 : l < 16) (hl0 : l0 ≤ l) : S_draw G l = S_draw R l := by
  unfold S_draw
  rw [h (77 + 7 * l) (by omega) (by omega), h (77 + 7 * l + 2) (by omega) (by omega)]
  generalize nn (R (77 + 7 * l)) = kd
  have e3 : G (77 + 7 * l + 3) = R (77 + 7 * l + 3) := h _ (by omega) (by omega)
  have e4 : G (77 + 7 * l + 4) = R (77 + 7 * l + 4) := h _ (by omega) (by omega)
  unfold S_drawK
  rw [e3, e4, Ag_dim h (by omega)]
end AG
/-- what lamp l brings its cabinet to pay -/
def pdv (R G : am_R) (P : Int32) (l : Nat) : Int32 := S_clp (G (23 + 6 * S_cab R (nn (R (77 + 7 * l + 1))) + 5) + S_draw R l * P) (nI 0) (nI 99999999)
def brn (R : am_R) (l : Nat) : Int32 := S_clp (R (77 + 7 * l + 4) + S_wear (R (77 + 7 * l))) (nI 0) (nI 30000)
def stA (R : am_R) (P : Int32) (l : Nat) (G : am_R) : am_R := if S_burns R l = true then upd G (23 + 6 * S_cab R (nn (R (77 + 7 * l + 1))) + 5) (pdv R G P l) else G
def stB (R : am_R) (l : Nat) (G : am_R) : am_R := if S_burns R l = true then upd (upd G (77 + 7 * l + 4) (brn R l)) (77 + 7 * l + 5) (ob (decide (S_life R l ≤ brn R l))) else G
def flA (R : am_R) (P : Int32) : Nat → Nat → am_R → am_R
  | 0, _, G => G
  | r + 1, k, G => flA R P r (k + 1) (stA R P k G)
def flB (R : am_R) : Nat → Nat → am_R → am_R
  | 0, _, G => G
  | r + 1, k, G => flB R r (k + 1) (stB R k G)
def flAB (R : am_R) (P : Int32) : Nat → Nat → am_R → am_R
  | 0, _, G => G
  | r + 1, k, G => flAB R P r (k + 1) (stB R k (stA R P k G))
theorem upd_sw {g : am_R} {i j : Nat} {a b : Int32} (h : i ≠ j) : upd (upd g i a) j b = upd (upd g j b) i a := by
  funext k
  by_cases e1 : k = i
  · subst e1; rw [upd_ne h, upd_eq, upd_eq]
  · by_cases e2 : k = j
    · subst e2; rw [upd_eq, upd_ne e1, upd_eq]
    · rw [upd_ne e2, upd_ne e1, upd_ne e1, upd_ne e2]
theorem st_sw {R : am_R} (hw : wfR R) {P : Int32} {l m : Nat} (hm : m < nn (R 5)) (G : am_R) : stA R P m (stB R l G) = stB R l (stA R P m G) := by
  have hb := wb_all hw
  have hj := (hw.2.2.2.2.1 m hm).2.1.2
  have hc := S_cab_lt hw _ hj
  unfold stA stB
  by_cases h1 : S_burns R m = true
  · rw [if_pos h1, if_pos h1]
    by_cases h2 : S_burns R l = true
    · rw [if_pos h2, if_pos h2]
      have e : pdv R (upd (upd G (77 + 7 * l + 4) (brn R l)) (77 + 7 * l + 5) (ob (decide (S_life R l ≤ brn R l)))) P m = pdv R G P m := by
        unfold pdv; rw [upd_ne (by omega), upd_ne (by omega)]
      rw [e, upd_sw (show 77 + 7 * l + 5 ≠ 23 + 6 * S_cab R (nn (R (77 + 7 * m + 1))) + 5 by omega), upd_sw (show 77 + 7 * l + 4 ≠ 23 + 6 * S_cab R (nn (R (77 + 7 * m + 1))) + 5 by omega)]
    · rw [if_neg h2, if_neg h2]
  · rw [if_neg h1, if_neg h1]
theorem flA_B {R : am_R} (hw : wfR R) (P : Int32) (l : Nat) : ∀ r k G, k + r = nn (R 5) → flA R P r k (stB R l G) = stB R l (flA R P r k G) := by
  intro r
  induction r with
  | zero => intro k G _; rfl
  | succ r ih =>
    intro k G hk
    unfold flA
    rw [st_sw hw (by omega), ih _ _ (by omega)]
theorem fl_AB {R : am_R} (hw : wfR R) (P : Int32) : ∀ r k G, k + r = nn (R 5) → flAB R P r k G = flB R r k (flA R P r k G) := by
  intro r
  induction r with
  | zero => intro k G _; rfl
  | succ r ih =>
    intro k G hk
    unfold flAB flB flA
    rw [ih _ _ (by omega), flA_B hw P k r (k + 1) _ (by omega)]
def S_tick (G : am_R) : am_R := if nn (G 0) + 1 = 24 then upd (upd (upd G 0 (nI (nn (G 0) + 1))) 0 (nI 0)) 1 (nI (nn (G 1) + 1)) else upd G 0 (nI (nn (G 0) + 1))
def S_hour (R : am_R) : am_R := S_tick (flB R (nn (R 5)) 0 (flA R (S_price R) (nn (R 5)) 0 R))
theorem pdv_n {R G : am_R} (hw : wfR R) (hG : wfR G) (h3 : G 3 = R 3) {l : Nat} (hl : l < nn (R 5)) : ∃ a p, G (23 + 6 * S_cab R (nn (R (77 + 7 * l + 1))) + 5) = nI a ∧ a < 100000000 ∧ S_draw R l * S_price R = nI p ∧ p < 200000 ∧ pdv R G (S_price R) l = nI (if a + p < 99999999 then a + p else 99999999) := by
  have hj := (hw.2.2.2.2.1 l hl).2.1.2
  have hc := S_cab_lt hw _ hj
  obtain ⟨m, em, hm⟩ := S_draw_n (hw.2.2.2.2.1 l hl)
  obtain ⟨p, ep, hp⟩ := S_price_n R
  have hmp : m * p ≤ 150 * 999 := Nat.mul_le_mul hm hp
  obtain ⟨ea, ha⟩ := (hG.2.2.1 _ (show S_cab R (nn (R (77 + 7 * l + 1))) < nn (G 3) by rw [h3]; exact hc)).2.2.2.2.2
  refine ⟨_, m * p, ea, ha, by rw [em, ep, pk_mul], by omega, ?_⟩
  unfold pdv
  rw [em, ep, pk_mul, ea, nI_add, nn_nI (by omega), S_clp_m (by omega) (by omega) (by decide)]
  by_cases h : nn (G (23 + 6 * S_cab R (nn (R (77 + 7 * l + 1))) + 5)) + m * p < 99999999
  · rw [if_pos (nI_lt h (by decide)), if_pos h]
  · rw [if_neg (nI_nlt (by omega) (by omega)), if_neg h]
theorem brn_n {R : am_R} (hw : wfR R) {l : Nat} (hl : l < nn (R 5)) : ∃ a w, R (77 + 7 * l + 4) = nI a ∧ a < 30001 ∧ S_wear (R (77 + 7 * l)) = nI w ∧ w ≤ 2 ∧ brn R l = nI (if a + w < 30000 then a + w else 30000) := by
  obtain ⟨-, -, -, -, ⟨ea, ha⟩, -⟩ := hw.2.2.2.2.1 l hl
  have hwr : ∃ w, S_wear (R (77 + 7 * l)) = nI w ∧ w ≤ 2 := by
    unfold S_wear
    split
    · exact ⟨1, rfl, by decide⟩
    · exact ⟨2, rfl, by decide⟩
  obtain ⟨w, ew, hw2⟩ := hwr
  refine ⟨_, w, ea, ha, ew, hw2, ?_⟩
  unfold brn
  rw [ew, ea, nI_add, nn_nI (by omega), S_clp_m (by omega) (by omega) (by decide)]
  by_cases h : nn (R (77 + 7 * l + 4)) + w < 30000
  · rw [if_pos (nI_lt h (by decide)), if_pos h]
  · rw [if_neg (nI_nlt (by omega) (by omega)), if_neg h]
theorem isN_ite {a b c : Nat} (h1 : a < c) (h2 : b < c) (hc : c < 2 ^ 31) {p : Prop} [Decidable p] : isN (nI (if p then a else b)) c := by
  split
  · exact ⟨by rw [nn_nI (by omega)], by rw [nn_nI (by omega)]; exact h1⟩
  · exact ⟨by rw [nn_nI (by omega)], by rw [nn_nI (by omega)]; exact h2⟩
theorem isN_lt {a c : Nat} (h : a < c) (hc : c < 2 ^ 31) : isN (nI a) c := ⟨by rw [nn_nI (by omega)], by rw [nn_nI (by omega)]; exact h⟩
theorem isN_ob (b : Bool) : isN (ob b) 2 := by cases b <;> exact ⟨rfl, by decide⟩
theorem pdv_w {R G : am_R} (hw : wfR R) (hG : wfR G) (h3 : G 3 = R 3) {l : Nat} (hl : l < nn (R 5)) : isN (pdv R G (S_price R) l) 100000000 := by
  obtain ⟨a, p, -, ha, -, hp, e⟩ := pdv_n hw hG h3 hl
  rw [e]
  split
  · exact isN_lt (by omega) (by decide)
  · exact isN_lt (by omega) (by decide)
theorem brn_w {R : am_R} (hw : wfR R) {l : Nat} (hl : l < nn (R 5)) : isN (brn R l) 30001 := by
  obtain ⟨a, w, -, ha, -, hw2, e⟩ := brn_n hw hl
  rw [e]
  split
  · exact isN_lt (by omega) (by decide)
  · exact isN_lt (by omega) (by decide)
/-- what holds along the two passes -/
def HG (R G : am_R) (l0 : Nat) : Prop := wfR G ∧ wfTs G ∧ Ag R G l0
theorem HG0 {R : am_R} (hw : wfR R) (hT : wfTs R) : HG R R 0 := ⟨hw, hT, fun _ _ _ => rfl⟩
theorem HG_A {R G : am_R} (hw : wfR R) {l l0 : Nat} (hl : l < nn (R 5)) (hl0 : l0 ≤ 16) (h : HG R G l0) : HG R (stA R (S_price R) l G) l0 := by
  have hb := wb_all hw
  have hj := (hw.2.2.2.2.1 l hl).2.1.2
  have hc := S_cab_lt hw _ hj
  obtain ⟨hG, hT, hA⟩ := h
  unfold stA
  split
  · have e3 : G 3 = R 3 := Ag_lo hA (by decide)
    have hcG : S_cab R (nn (R (77 + 7 * l + 1))) < nn (G 3) := by rw [e3]; exact hc
    refine ⟨wfR_cset hG hcG (fun i hi => upd_ne (by omega)) (wfC5 (hG.2.2.1 _ hcG) (pdv_w hw hG e3 hl)), wfTs_cg (upd_ne (by omega)) (fun i hi => upd_ne (by omega)) hT, fun i h1 h2 => ?_⟩
    rw [upd_ne (by omega)]
    exact hA i h1 h2
  · exact ⟨hG, hT, hA⟩
theorem HG_B {R G : am_R} (hw : wfR R) {l : Nat} (hl : l < nn (R 5)) (h : HG R G l) : HG R (stB R l G) (l + 1) := by
  have hb := wb_all hw
  obtain ⟨hG, hT, hA⟩ := h
  unfold stB
  split
  · have hlG : l < nn (G 5) := by rw [Ag_lo hA (show 5 < 23 by decide)]; exact hl
    refine ⟨wfR_lset hG hlG (fun i hi => by rw [upd_ne (by omega), upd_ne (by omega)]) (wfL5 (wfL4 (hG.2.2.2.2.1 _ hlG) (brn_w hw hl)) (isN_ob _)), wfTs_cg (by rw [upd_ne (by omega), upd_ne (by omega)]) (fun i hi => by rw [upd_ne (by omega), upd_ne (by omega)]) hT, fun i h1 h2 => ?_⟩
    rw [upd_ne (by omega), upd_ne (by omega)]
    exact hA i h1 (by omega)
  · exact ⟨hG, hT, fun i h1 h2 => hA i h1 (by omega)⟩
theorem HG_flA {R : am_R} (hw : wfR R) : ∀ r k G, k + r = nn (R 5) → HG R G 0 → HG R (flA R (S_price R) r k G) 0 := by
  intro r
  induction r with
  | zero => intro k G _ h; exact h
  | succ r ih =>
    intro k G hk h
    unfold flA
    exact ih _ _ (by omega) (HG_A hw (by omega) (by decide) h)
theorem HG_flB {R : am_R} (hw : wfR R) : ∀ r k G, k + r = nn (R 5) → HG R G k → HG R (flB R r k G) (nn (R 5)) := by
  intro r
  induction r with
  | zero => intro k G hk h; rw [← hk]; exact h
  | succ r ih =>
    intro k G hk h
    unfold flB
    exact ih _ _ (by omega) (HG_B hw (by omega) h)
theorem wfR_tset {R R' : am_R} (h : wfR R) (hR : ∀ i, ¬ (i < 2) → R' i = R i) (hw0 : isN (R' 0) 24 ∧ isN (R' 1) 5000) : wfR R' := by
  have hb := wb_all h
  obtain ⟨w0, w1, w2, w3, w4, w5, w6⟩ := h
  have z : ∀ i, 2 ≤ i → R' i = R i := fun i hi => hR i (by omega)
  refine ⟨?_, ?_, ?_, ?_, ?_, ?_, ?_⟩
  · rw [z 2 (by decide)]; exact ⟨hw0.1, hw0.2, w0.2.2⟩
  · rw [z 3 (by decide), z 4 (by decide), z 5 (by decide), z 6 (by decide), z 7 (by decide), z 8 (by decide)]; exact w1
  · rw [z 3 (by decide)]; intro c hc; exact wfC_cg (fun i _ _ => z i (by omega)) (w2 c hc)
  · rw [z 4 (by decide)]; intro c hc; exact wfJ_cg (by rw [z 3 (by decide)]; exact Nat.le_refl _) (fun i _ _ => z i (by omega)) (w3 c hc)
  · rw [z 5 (by decide)]; intro c hc; exact wfL_cg (by rw [z 4 (by decide)]; exact Nat.le_refl _) (fun i _ _ => z i (by omega)) (w4 c hc)
  · rw [z 7 (by decide), z 5 (by decide)]; intro k hk; rw [z (9 + k) (by omega)]; exact w5 k hk
  · rw [z 8 (by decide), z 4 (by decide)]; intro k hk; rw [z (17 + k) (by omega)]; exact w6 k hk
theorem S_tick_v {G : am_R} (h0 : nn (G 0) < 24) (h1 : nn (G 1) < 4999) : (∀ i, ¬ (i < 2) → S_tick G i = G i) ∧ isN (S_tick G 0) 24 ∧ (nn (S_tick G 1) = nn (G 1) ∧ nn (S_tick G 0) = nn (G 0) + 1 ∨ nn (S_tick G 1) = nn (G 1) + 1 ∧ nn (S_tick G 0) = 0 ∧ nn (G 0) = 23 ∧ isN (S_tick G 1) 5000) ∧ (nn (G 0) + 1 ≠ 24 → S_tick G 1 = G 1) := by
  unfold S_tick
  by_cases h : nn (G 0) + 1 = 24
  · rw [if_pos h]
    refine ⟨fun i hi => by rw [upd_ne (by omega), upd_ne (by omega), upd_ne (by omega)], ?_, Or.inr ?_, fun z => absurd h z⟩
    · rw [upd_ne (by decide), upd_eq]; exact isN_lt (by decide) (by decide)
    · rw [upd_eq, upd_ne (by decide), upd_eq, nn_nI (by omega)]
      exact ⟨rfl, rfl, by omega, isN_lt (by omega) (by decide)⟩
  · rw [if_neg h]
    refine ⟨fun i hi => upd_ne (by omega), ?_, Or.inl ?_, fun _ => upd_ne (by decide)⟩
    · rw [upd_eq]; exact isN_lt (by omega) (by decide)
    · rw [upd_ne (by decide), upd_eq, nn_nI (by omega)]
      exact ⟨rfl, rfl⟩
theorem wf_hour {R : am_R} (hw : wfR R) (hT : wfTs R) (hd : nn (R 1) < 4999) : wfR (S_hour R) ∧ wfTs (S_hour R) := by
  have hG := HG_flB hw (nn (R 5)) 0 _ (Nat.zero_add _) (HG_flA hw (nn (R 5)) 0 R (Nat.zero_add _) (HG0 hw hT))
  unfold S_hour
  generalize flB R (nn (R 5)) 0 (flA R (S_price R) (nn (R 5)) 0 R) = G at hG
  obtain ⟨g1, g2, g3⟩ := hG
  have hb := wb_all g1
  have hv := S_tick_v (G := G) (by omega) (by rw [Ag_lo g3 (by decide)]; exact hd)
  refine ⟨wfR_tset g1 hv.1 ⟨hv.2.1, ?_⟩, wfTs_cg (hv.1 6 (by decide)) (fun i hi => hv.1 i (by omega)) g2⟩
  rcases hv.2.2.1 with h | h
  · have hv9 := hv.2.1.2
    rw [hv.2.2.2 (by omega)]; exact g1.1.2.1
  · exact h.2.2.2
/-- hour and day of the next hour -/
theorem S_hour_hd {R : am_R} (hw : wfR R) (hT : wfTs R) (hd : nn (R 1) < 4999) : nn (S_hour R 1) = nn (R 1) ∧ nn (S_hour R 0) = nn (R 0) + 1 ∨ nn (S_hour R 1) = nn (R 1) + 1 ∧ nn (S_hour R 0) = 0 ∧ nn (R 0) = 23 := by
  have hG := HG_flB hw (nn (R 5)) 0 _ (Nat.zero_add _) (HG_flA hw (nn (R 5)) 0 R (Nat.zero_add _) (HG0 hw hT))
  unfold S_hour
  generalize flB R (nn (R 5)) 0 (flA R (S_price R) (nn (R 5)) 0 R) = G at hG
  obtain ⟨g1, g2, g3⟩ := hG
  have hb := wb_all g1
  have hv := S_tick_v (G := G) (by omega) (by rw [Ag_lo g3 (by decide)]; exact hd)
  have e0 : G 0 = R 0 := Ag_lo g3 (by decide)
  have e1 : G 1 = R 1 := Ag_lo g3 (by decide)
  rw [e0, e1] at hv
  rcases hv.2.2.1 with h | h
  · exact Or.inl h
  · exact Or.inr ⟨h.1, h.2.1, h.2.2.1⟩
/-- an hour changes neither what there is nor the texts -/
theorem S_hour_same {R : am_R} (hw : wfR R) (hT : wfTs R) (hd : nn (R 1) < 4999) : ∀ i, (2 ≤ i ∧ i < 23) ∨ 189 ≤ i → S_hour R i = R i := by
  have hb := wb_all hw
  have hG := HG_flB hw (nn (R 5)) 0 _ (Nat.zero_add _) (HG_flA hw (nn (R 5)) 0 R (Nat.zero_add _) (HG0 hw hT))
  unfold S_hour
  generalize flB R (nn (R 5)) 0 (flA R (S_price R) (nn (R 5)) 0 R) = G at hG
  obtain ⟨g1, g2, g3⟩ := hG
  have hb2 := wb_all g1
  have hv := S_tick_v (G := G) (by omega) (by rw [Ag_lo g3 (by decide)]; exact hd)
  intro i hi
  rw [hv.1 i (by omega)]
  exact g3 i (by omega) (by omega)
