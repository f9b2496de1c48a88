/-! who is blamed: pure, and the reference's counts -/
def fd (R : am_R) (f : Nat) : Nat := nn (R (41 + 3 * f))
def onI (R : am_R) (i j f : Nat) : Bool := if f = j then true else if h : i ≤ f ∧ fd R f < f then onI R i j (fd R f) else false
termination_by f
decreasing_by exact h.2
def cbI (R : am_R) (i c f : Nat) : Bool := if i ≤ f then (if h : fd R f < f then cbI R i c (fd R f) else decide (fd R f - 100 = c)) else false
termination_by f
decreasing_by exact h
def b1 (b : Bool) : Nat := if b = true then 1 else 0
theorem b1_t {b : Bool} (h : b = true) : b1 b = 1 := if_pos h
theorem b1_f {b : Bool} (h : b = false) : b1 b = 0 := by rw [h]; rfl
theorem onI_j (R : am_R) (i j : Nat) : onI R i j j = true := by rw [onI, if_pos rfl]
theorem onI_up {R : am_R} {i j f : Nat} (h : ¬ f = j) (h2 : i ≤ f ∧ fd R f < f) : onI R i j f = onI R i j (fd R f) := by rw [onI, if_neg h, dif_pos h2]
theorem onI_no {R : am_R} {i j f : Nat} (h : ¬ f = j) (h2 : ¬ (i ≤ f ∧ fd R f < f)) : onI R i j f = false := by rw [onI, if_neg h, dif_neg h2]
theorem cbI_lo {R : am_R} {i c f : Nat} (h : ¬ i ≤ f) : cbI R i c f = false := by rw [cbI, if_neg h]
theorem cbI_up {R : am_R} {i c f : Nat} (h : i ≤ f) (h2 : fd R f < f) : cbI R i c f = cbI R i c (fd R f) := by rw [cbI, if_pos h, dif_pos h2]
theorem cbI_top {R : am_R} {i c f : Nat} (h : i ≤ f) (h2 : ¬ fd R f < f) : cbI R i c f = decide (fd R f - 100 = c) := by rw [cbI, if_pos h, dif_neg h2]
theorem onI_step (R : am_R) (i j : Nat) : ∀ f, b1 (onI R i j f) = b1 (onI R (i + 1) j f) + (if fd R i = j ∧ fd R i < i then b1 (onI R (i + 1) i f) else 0) := by
  intro f
  induction f using Nat.strongRecOn with
  | ind f ih =>
    by_cases e : f = j
    · subst e
      rw [onI_j, onI_j]
      by_cases h : fd R i = f ∧ fd R i < i
      · rw [if_pos h, onI_no (show ¬ f = i by omega) (by omega)]; rfl
      · rw [if_neg h, Nat.add_zero]
    · by_cases h1 : f < i
      · rw [onI_no e (by omega), onI_no e (by omega), onI_no (show ¬ f = i by omega) (by omega)]
        split <;> rfl
      · by_cases h2 : f = i
        · subst h2
          rw [onI_no (i := f + 1) e (by omega), onI_j]
          by_cases h3 : fd R f < f
          · rw [onI_up e ⟨Nat.le_refl _, h3⟩]
            by_cases h4 : fd R f = j
            · rw [if_pos ⟨h4, h3⟩, h4, onI_j]; rfl
            · rw [if_neg (fun z => h4 z.1), onI_no h4 (by omega)]; rfl
          · rw [onI_no e (fun z => h3 z.2), if_neg (fun z => h3 z.2)]; rfl
        · by_cases h3 : fd R f < f
          · rw [onI_up e ⟨by omega, h3⟩, onI_up (i := i + 1) e ⟨by omega, h3⟩, onI_up (i := i + 1) h2 ⟨by omega, h3⟩]
            exact ih _ h3
          · rw [onI_no e (fun z => h3 z.2), onI_no e (fun z => h3 z.2), onI_no h2 (fun z => h3 z.2)]
            split <;> rfl
theorem cbI_step (R : am_R) (i c : Nat) : ∀ f, b1 (cbI R i c f) = b1 (cbI R (i + 1) c f) + (if ¬ fd R i < i ∧ fd R i - 100 = c then b1 (onI R (i + 1) i f) else 0) := by
  intro f
  induction f using Nat.strongRecOn with
  | ind f ih =>
    by_cases h1 : f < i
    · rw [cbI_lo (by omega), cbI_lo (by omega), onI_no (show ¬ f = i by omega) (by omega)]
      split <;> rfl
    · by_cases h2 : f = i
      · subst h2
        rw [cbI_lo (i := f + 1) (by omega), onI_j]
        by_cases h3 : fd R f < f
        · rw [cbI_up (Nat.le_refl _) h3, cbI_lo (by omega), if_neg (fun z => z.1 h3), Nat.add_zero]
        · rw [cbI_top (Nat.le_refl _) h3]
          by_cases h4 : fd R f - 100 = c
          · rw [if_pos ⟨h3, h4⟩, decide_eq_true h4]; rfl
          · rw [if_neg (fun z => h4 z.2), decide_eq_false h4, Nat.add_zero]
      · by_cases h3 : fd R f < f
        · rw [cbI_up (by omega) h3, cbI_up (i := i + 1) (by omega) h3, onI_up h2 ⟨by omega, h3⟩]
          exact ih _ h3
        · rw [cbI_top (by omega) h3, cbI_top (i := i + 1) (by omega) h3, onI_no h2 (fun z => h3 z.2)]
          split <;> rfl
theorem cnt_spl {p q r : Nat → Bool} {w : Nat} : ∀ k, (∀ j, j < k → b1 (p j) = b1 (q j) + w * b1 (r j)) → cnt p k = cnt q k + w * cnt r k := by
  intro k
  induction k with
  | zero => intro _; show 0 = 0 + w * 0; omega
  | succ k ih =>
    intro h
    have e := h k (by omega)
    unfold cnt
    rw [ih (fun j hj => h j (by omega)), Nat.mul_add]
    unfold b1 at e
    omega
def jt (R : am_R) (l : Nat) : Nat := nn (R (77 + 7 * l + 1))
def dk (R : am_R) (l : Nat) : Bool := decide (R (77 + 7 * l + 6) = nI 1)
def wA (R : am_R) (l : Nat) : Bool := S_should R l
def wB (R : am_R) (l : Nat) : Bool := S_should R l && !dk R l
def wD (R : am_R) (l : Nat) : Bool := S_should R l && dk R l
/-- lamps told by w, of the first k, that lie behind a joint, or behind a cabinet, by joints from i on -/
def NJ (R : am_R) (w : Nat → Bool) (i j k : Nat) : Nat := cnt (fun l => w l && onI R i j (jt R l)) k
def NC (R : am_R) (w : Nat → Bool) (i c k : Nat) : Nat := cnt (fun l => w l && cbI R i c (jt R l)) k
def bJ (R : am_R) (j : Nat) : Bool := decide (2 ≤ NJ R (wA R) 0 j (nn (R 5)) ∧ NJ R (wB R) 0 j (nn (R 5)) = 0)
def bC (R : am_R) (c : Nat) : Bool := decide (2 ≤ NC R (wA R) 0 c (nn (R 5)) ∧ NC R (wB R) 0 c (nn (R 5)) = 0)
def B_ab (R : am_R) (j : Nat) : Bool := if h : fd R j < j then (B_ab R (fd R j) || bJ R (fd R j)) else bC R (fd R j - 100)
termination_by j
decreasing_by exact h
def B_j (R : am_R) (j : Nat) : Bool := !B_ab R j && bJ R j
def B_cv (R : am_R) (j : Nat) : Bool := B_ab R j || bJ R j
def B_l (R : am_R) (l : Nat) : Bool := !B_cv R (jt R l) && (S_should R l && dk R l)
theorem B_ab_lo {R : am_R} {j : Nat} (h : fd R j < j) : B_ab R j = B_cv R (fd R j) := by rw [B_ab, dif_pos h]; rfl
theorem B_ab_top {R : am_R} {j : Nat} (h : ¬ fd R j < j) : B_ab R j = bC R (fd R j - 100) := by rw [B_ab, dif_neg h]
def BA (mem : am_M) (o1 o2 o3 o4 : Nat) (a b c e : Nat → Nat) : Prop := (∀ j, j < 12 → mem o1 j = nI (a j) ∧ mem o2 j = nI (b j)) ∧ ∀ j, j < 3 → mem o3 j = nI (c j) ∧ mem o4 j = nI (e j)
theorem NJ_le (R : am_R) (w : Nat → Bool) (i j k : Nat) : NJ R w i j k ≤ k := cnt_le _ k
theorem NC_le (R : am_R) (w : Nat → Bool) (i j k : Nat) : NC R w i j k ≤ k := cnt_le _ k
theorem NJ_s (R : am_R) (w : Nat → Bool) (i j k : Nat) : NJ R w i j (k + 1) = NJ R w i j k + (if w k = true then b1 (onI R i j (jt R k)) else 0) := by
  show cnt _ k + (if (w k && onI R i j (jt R k)) = true then 1 else 0) = _
  unfold NJ b1
  cases w k <;> simp
theorem NC_s (R : am_R) (w : Nat → Bool) (i j k : Nat) : NC R w i j (k + 1) = NC R w i j k + (if w k = true then b1 (cbI R i j (jt R k)) else 0) := by
  show cnt _ k + (if (w k && cbI R i j (jt R k)) = true then 1 else 0) = _
  unfold NC b1
  cases w k <;> simp
theorem l_fb_top {d n : Nat} {mem0 mem : am_M} {Q : am_P} {R : am_R} (hw : wfR R) (l lb f0 : Nat) (hl : l < 100) (hlb : lb ≤ 1) (a b c e : Nat → Nat) (hsm : ∀ j, a j ≤ 2000 ∧ b j ≤ 2000 ∧ c j ≤ 1000 ∧ e j ≤ 1000) (hR : mem 222 = R) (hf : FrR mem0 mem) (hA : BA mem 234 235 236 237 a b c e) (hf0 : 100 ≤ f0 ∧ f0 < 100 + nn (R 3)) (hQ : ∀ m2 : am_M, FrR mem0 m2 → m2 222 = R → BA m2 234 235 236 237 a b (fun j => c j + b1 (decide (f0 - 100 = j))) (fun j => e j + lb * b1 (decide (f0 - 100 = j))) → ∀ x3 : Option Value, am_ev kc_X12_findBehind (d + 3) 161 [some (.ref 221), some (.int (nI l)), some (.int (nI lb)), x3] [] (am_SK n) m2 Q) : am_ev kc_X12_findBehind (d + 3) 99 [some (.ref 221), some (.int (nI l)), some (.int (nI lb)), some (.int (nI f0))] [] (am_SK n) mem Q := by
  have hb := wb_all hw
  have hcc := hA.2 (f0 - 100) (by omega)
  have hs1 := hsm (f0 - 100)
  refine ev_iload rfl rfl ?_
  refine ev_iconst (x := nI 100) rfl rfl ?_
  refine ev_icmp_geN (p2 := 135) rfl rfl (fun cnd102 => ?_) (fun cnd102 => ?_)
  · skip
    refine ev_aload rfl rfl ?_
    refine ev_getR (c := 12) (j := 25) rfl ?_ (hq := k_221 n)
    refine ev_iload rfl rfl ?_
    refine ev_iconst (x := nI 100) rfl rfl ?_
    refine ev_isubN rfl ?_
    refine ev_dup2 rfl ?_
    refine ev_ialdN rfl rfl ?_ (hq := k_236 n)
    rw [hcc.1]
    refine ev_iconst (x := nI 1) rfl rfl ?_
    refine ev_iaddN rfl ?_
    refine ev_iastS rfl (fun m3 hm3 => ?_) (hq := k_236 n)
    refine ev_aload rfl rfl ?_
    refine ev_getR (c := 12) (j := 26) rfl ?_ (hq := k_221 n)
    refine ev_iload rfl rfl ?_
    refine ev_iconst (x := nI 100) rfl rfl ?_
    refine ev_isubN rfl ?_
    refine ev_dup2 rfl ?_
    refine ev_ialdN rfl rfl ?_ (hq := k_237 n)
    rw [show m3 237 (f0 - 100) = nI (e (f0 - 100)) by rw [hm3, am_up_ne (by decide)]; exact hcc.2]
    refine ev_iload rfl rfl ?_
    refine ev_iaddN rfl ?_
    refine ev_iastS rfl (fun m4 hm4 => ?_) (hq := k_237 n)
    refine hQ m4 (FrR_tr (FrR_tr hf (FrR_one (by decide) hm3)) (FrR_one (by decide) hm4)) (by rw [hm4, am_up_ne (by decide), hm3, am_up_ne (by decide)]; exact hR) ⟨fun j hj => ?_, fun j hj => ?_⟩ _
    · rw [hm4, am_up_ne (by decide), am_up_ne (by decide), hm3, am_up_ne (by decide), am_up_ne (by decide)]; exact hA.1 j hj
    · have hj2 := hA.2 j hj
      dsimp only
      by_cases ej : j = f0 - 100
      · subst ej
        rw [b1_t (decide_eq_true rfl), hm4, am_up_ne (show (236 : Nat) ≠ 237 by decide), am_up_eq, hm3, am_up_eq, Nat.mul_one]
        exact ⟨rfl, rfl⟩
      · rw [b1_f (decide_eq_false (by omega)), hm4, am_up_ne (show (236 : Nat) ≠ 237 by decide), am_up_nk ej, hm3, am_up_nk ej, am_up_ne (show (237 : Nat) ≠ 236 by decide), Nat.mul_zero]
        exact hj2
  · omega
theorem l_fb_up {d n : Nat} {mem0 : am_M} {Q : am_P} {R : am_R} (hw : wfR R) (l lb : Nat) (hl : l < 100) (hlb : lb ≤ 1) : ∀ (f : Nat) (mem : am_M) (a b c e : Nat → Nat) (hsm : ∀ j, a j ≤ 1000 - f ∧ b j ≤ 1000 - f ∧ c j ≤ 1000 ∧ e j ≤ 1000) (hR : mem 222 = R) (hf : FrR mem0 mem) (hA : BA mem 234 235 236 237 a b c e) (hf4 : f < nn (R 4)) (hQ : ∀ m2 : am_M, FrR mem0 m2 → m2 222 = R → BA m2 234 235 236 237 (fun j => a j + b1 (onI R 0 j f)) (fun j => b j + lb * b1 (onI R 0 j f)) (fun j => c j + b1 (cbI R 0 j f)) (fun j => e j + lb * b1 (cbI R 0 j f)) → ∀ x3 : Option Value, am_ev kc_X12_findBehind (d + 3) 161 [some (.ref 221), some (.int (nI l)), some (.int (nI lb)), x3] [] (am_SK n) m2 Q), am_ev kc_X12_findBehind (d + 3) 99 [some (.ref 221), some (.int (nI l)), some (.int (nI lb)), some (.int (nI f))] [] (am_SK n) mem Q := by
  intro f
  induction f using Nat.strongRecOn with
  | ind f ih =>
    intro mem a b c e hsm hR hf hA hf4 hQ
    have hb := wb_all hw
    have hcc := hA.1 f (by omega)
    have hs1 := hsm f
    obtain ⟨⟨e1, g1⟩, -⟩ := hw.2.2.2.1 f hf4
    refine ev_iload rfl rfl ?_
    refine ev_iconst (x := nI 100) rfl rfl ?_
    refine ev_icmp_geN (p2 := 135) rfl rfl (fun cnd102 => ?_) (fun cnd102 => ?_)
    · omega
    · skip
      refine ev_aload rfl rfl ?_
      refine ev_getR (c := 12) (j := 23) rfl ?_ (hq := k_221 n)
      refine ev_iload rfl rfl ?_
      refine ev_dup2 rfl ?_
      refine ev_ialdN rfl rfl ?_ (hq := k_234 n)
      rw [hcc.1]
      refine ev_iconst (x := nI 1) rfl rfl ?_
      refine ev_iaddN rfl ?_
      refine ev_iastS rfl (fun m3 hm3 => ?_) (hq := k_234 n)
      refine ev_aload rfl rfl ?_
      refine ev_getR (c := 12) (j := 24) rfl ?_ (hq := k_221 n)
      refine ev_iload rfl rfl ?_
      refine ev_dup2 rfl ?_
      refine ev_ialdN rfl rfl ?_ (hq := k_235 n)
      rw [show m3 235 f = nI (b f) by rw [hm3, am_up_ne (by decide)]; exact hcc.2]
      refine ev_iload rfl rfl ?_
      refine ev_iaddN rfl ?_
      refine ev_iastS rfl (fun m4 hm4 => ?_) (hq := k_235 n)
      refine ev_aload rfl rfl ?_
      refine ev_iload rfl rfl ?_
      refine ev_iconst (x := nI 0) rfl rfl ?_
      refine ev_call rfl rfl ?_
      refine r_joint3 (R := R) (by rw [hm4, am_up_ne (by decide), hm3, am_up_ne (by decide)]; exact hR) f 0 (by omega) e1 ?_
      change am_ev _ _ _ _ [_] _ _ _
      refine ev_istore rfl rfl (Nat.le_of_ble_eq_true rfl) ?_
      refine ev_goto (p2 := 99) rfl rfl ?_
      have hA4 : BA m4 234 235 236 237 (fun j => a j + (if f = j then 1 else 0)) (fun j => b j + (if f = j then lb else 0)) c e := by
        refine ⟨fun j hj => ?_, fun j hj => ?_⟩
        · have hj2 := hA.1 j hj
          dsimp only
          by_cases ej : f = j
          · subst ej
            rw [if_pos rfl, if_pos rfl, hm4, am_up_ne (show (234 : Nat) ≠ 235 by decide), am_up_eq, hm3, am_up_eq]
            exact ⟨rfl, rfl⟩
          · rw [if_neg ej, if_neg ej, hm4, am_up_ne (show (234 : Nat) ≠ 235 by decide), am_up_nk (fun z => ej z.symm), hm3, am_up_nk (fun z => ej z.symm), am_up_ne (show (235 : Nat) ≠ 234 by decide)]
            exact hj2
        · rw [hm4, am_up_ne (show (236 : Nat) ≠ 235 by decide), am_up_ne (show (237 : Nat) ≠ 235 by decide), hm3, am_up_ne (show (236 : Nat) ≠ 234 by decide), am_up_ne (show (237 : Nat) ≠ 234 by decide)]
          exact hA.2 j hj
      have hR4 : m4 222 = R := by rw [hm4, am_up_ne (by decide), hm3, am_up_ne (by decide)]; exact hR
      have hf9 := FrR_tr (FrR_tr hf (FrR_one (by decide) hm3)) (FrR_one (by decide) hm4)
      have hon : ∀ j, b1 (onI R 0 j f) = (if f = j then 1 else if fd R f < f then b1 (onI R 0 j (fd R f)) else 0) := by
        intro j
        by_cases ej : f = j
        · subst ej; rw [onI_j, if_pos rfl]; rfl
        · rw [if_neg ej]
          by_cases h3 : fd R f < f
          · rw [if_pos h3, onI_up ej ⟨Nat.zero_le _, h3⟩]
          · rw [if_neg h3, onI_no ej (fun z => h3 z.2)]; rfl
      rcases g1 with g1 | g1
      · refine ih _ g1 m4 _ _ c e (fun j => ?_) hR4 hf9 hA4 (by omega) (fun m2 q1 q2 q3 x3 => hQ m2 q1 q2 ?_ x3)
        · have := hsm j
          try dsimp only
          refine ⟨?_, ?_, by omega, by omega⟩ <;> (split <;> omega)
        · refine ⟨fun j hj => ?_, fun j hj => ?_⟩
          · have hz := q3.1 j hj
            dsimp only at hz ⊢
            have hoj := hon j
            rw [if_pos (show fd R f < f from g1)] at hoj
            change m2 234 j = nI (a j + (if f = j then 1 else 0) + b1 (onI R 0 j (fd R f))) ∧ m2 235 j = nI (b j + (if f = j then lb else 0) + lb * b1 (onI R 0 j (fd R f))) at hz
            rw [hz.1, hz.2, hoj]
            by_cases ej : f = j
            · subst ej
              have hno : onI R 0 f (fd R f) = false := by
                have hgen : ∀ g, g < f → onI R 0 f g = false := by
                  intro g
                  induction g using Nat.strongRecOn with
                  | ind g ihg =>
                    intro hg
                    by_cases h3 : fd R g < g
                    · rw [onI_up (by omega) ⟨Nat.zero_le _, h3⟩]; exact ihg _ h3 (by omega)
                    · exact onI_no (by omega) (fun z => h3 z.2)
                exact hgen _ g1
              rw [if_pos rfl, if_pos rfl, if_pos rfl, b1_f hno, Nat.mul_zero, Nat.mul_one, Nat.add_zero, Nat.add_zero]
              exact ⟨rfl, rfl⟩
            · rw [if_neg ej, if_neg ej, if_neg ej, Nat.add_zero, Nat.add_zero]
              exact ⟨rfl, rfl⟩
          · have hz := q3.2 j hj
            show m2 236 j = nI (c j + b1 (cbI R 0 j f)) ∧ m2 237 j = nI (e j + lb * b1 (cbI R 0 j f))
            rw [cbI_up (Nat.zero_le _) (show fd R f < f from g1)]
            exact hz
      · refine l_fb_top hw l lb _ hl hlb _ _ c e (fun j => ?_) hR4 hf9 hA4 g1 (fun m2 q1 q2 q3 x3 => hQ m2 q1 q2 ?_ x3)
        · have := hsm j
          try dsimp only
          refine ⟨?_, ?_, by omega, by omega⟩ <;> (split <;> omega)
        · have h3 : ¬ fd R f < f := by unfold fd; omega
          refine ⟨fun j hj => ?_, fun j hj => ?_⟩
          · have hz := q3.1 j hj
            dsimp only at hz ⊢
            rw [hon j, if_neg h3]
            rw [hz.1, hz.2]
            by_cases ej : f = j
            · simp only [if_pos ej, Nat.mul_one, and_self]
            · simp only [if_neg ej, Nat.mul_zero, and_self]
          · have hz := q3.2 j hj
            show m2 236 j = nI (c j + b1 (cbI R 0 j f)) ∧ m2 237 j = nI (e j + lb * b1 (cbI R 0 j f))
            rw [cbI_top (Nat.zero_le _) h3]
            exact hz
