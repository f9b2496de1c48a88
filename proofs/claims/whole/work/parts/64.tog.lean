/-! both sides: together -/
def cnt (p : Nat → Bool) : Nat → Nat
  | 0 => 0
  | k + 1 => cnt p k + (if p k = true then 1 else 0)
theorem cnt_t {p : Nat → Bool} {k : Nat} (h : p k = true) : cnt p k + 1 = cnt p (k + 1) := by
  show _ = cnt p k + (if p k = true then 1 else 0)
  rw [if_pos h]
theorem cnt_f {p : Nat → Bool} {k : Nat} (h : p k = false) : cnt p k = cnt p (k + 1) := by
  show _ = cnt p k + (if p k = true then 1 else 0)
  rw [if_neg (by rw [h]; decide), Nat.add_zero]
theorem cnt_le (p : Nat → Bool) : ∀ k, cnt p k ≤ k := by
  intro k
  induction k with
  | zero => exact Nat.le_refl _
  | succ k ih => unfold cnt; split <;> omega
theorem cnt_cg {p q : Nat → Bool} : ∀ k, (∀ j, j < k → p j = q j) → cnt p k = cnt q k := by
  intro k
  induction k with
  | zero => intro _; rfl
  | succ k ih => intro h; unfold cnt; rw [ih (fun j hj => h j (by omega)), h k (by omega)]
def S_und (R : am_R) (kd : Int32) (l : Nat) : Bool := decide (kd = 0 ∨ R (77 + 7 * l) = kd ∨ (kd = nI 1 ∧ R (77 + 7 * l) = nI 3) ∨ (kd = nI 2 ∧ R (77 + 7 * l) = nI 4))
def S_al (R : am_R) (kd b : Int32) (l : Nat) : Bool := S_und R kd l && decide (S_life R l < b)
def S_cost (N : Nat) (A : Nat → Nat) (pr : Int32) (t : Nat) : Int32 := (nI N * (pr / nI 1000) + (pr - pr / nI 1000 * nI 1000) * nI (A t)) * nI 100 / nI t
def S_tg (f : Nat → Int32) : Nat → Nat → Nat → Int32 → Nat × Int32
  | 0, _, b, c => (b, c)
  | r + 1, t, b, c => if b = 0 ∨ f t < c then S_tg f r (t + 1) t (f t) else S_tg f r (t + 1) b c
abbrev P_tg (kd pr w : Int32) : Prop := P_kd kd ∧ (nI 0 ≤ pr ∧ pr ≤ nI 999999) ∧ (nI 0 ≤ w ∧ w ≤ nI 1)
def X_tog (R : am_R) (kd pr w : Int32) : Int32 := if P_tg kd pr w then (if cnt (S_und R kd) (nn (R 5)) = 0 then S_NONE else if w = 0 then nI (S_tg (S_cost (cnt (S_und R kd) (nn (R 5))) (fun t => cnt (S_al R kd (nI (250 * t))) (nn (R 5))) pr) 20 1 0 (nI 0)).1 else (S_tg (S_cost (cnt (S_und R kd) (nn (R 5))) (fun t => cnt (S_al R kd (nI (250 * t))) (nn (R 5))) pr) 20 1 0 (nI 0)).2) else S_BAD
theorem S_tg_le (f : Nat → Int32) : ∀ r t b c, b < t → (S_tg f r t b c).1 < t + r := by
  intro r
  induction r with
  | zero => intro t b c h; exact h
  | succ r ih =>
    intro t b c h
    unfold S_tg
    split
    · have := ih (t + 1) t (f t) (by omega); omega
    · have := ih (t + 1) b c (by omega); omega
theorem l_X12_tgI {d n : Nat} {Q : am_P} {R : am_R} {mem0 : am_M} (hw : wfR R) (hT : wfTs R) (kd : Int32) (t : Nat) (ht : t ≤ 20) (x2 x3 x4 x5 x6 : Option Value) (r : Nat) : ∀ (mem : am_M) (k : Nat) (hk : k + r = nn (R 5)) (hR : mem 222 = R) (hf : FrR mem0 mem) (hQ : ∀ m2 : am_M, FrR mem0 m2 → m2 222 = R → am_ev kc_X12_together (d + 5) 166 [some (.ref 221), some (.int kd), x2, x3, x4, x5, x6, some (.int (nI t)), some (.int (nI (cnt (S_al R kd (nI (250 * t))) (nn (R 5))))), some (.int (nI (nn (R 5))))] [] (am_SK n) m2 Q), am_ev kc_X12_together (d + 5) 110 [some (.ref 221), some (.int kd), x2, x3, x4, x5, x6, some (.int (nI t)), some (.int (nI (cnt (S_al R kd (nI (250 * t))) k))), some (.int (nI k))] [] (am_SK n) mem Q := by
  induction r with
  | zero =>
    intro mem k hk hR hf hQ
    have hb := wb_all hw
    have hcl := cnt_le (S_al R kd (nI (250 * t))) k
    have hkk : k = nn (R 5) := by omega
    subst hkk
    refine ev_iload rfl rfl ?_
    refine ev_aload rfl rfl ?_
    refine ev_getR (c := 12) (j := 0) rfl ?_ (hq := k_221 n)
    refine ev_iconst (x := nI 5) rfl rfl ?_
    refine ev_ialdN rfl rfl ?_ (hq := k_222 n)
    rw [show mem 222 (5) = nI (nn (R 5)) by rw [hR]; (repeat rw [upd_ne (by omega)]); exact wr5 hw]
    refine ev_icmp_geN (p2 := 166) rfl rfl (fun cnd118 => ?_) (fun cnd118 => ?_)
    · skip
      exact hQ mem hf hR
    · omega
  | succ r ih =>
    intro mem k hk hR hf hQ
    have hb := wb_all hw
    have hcl := cnt_le (S_al R kd (nI (250 * t))) k
    refine ev_iload rfl rfl ?_
    refine ev_aload rfl rfl ?_
    refine ev_getR (c := 12) (j := 0) rfl ?_ (hq := k_221 n)
    refine ev_iconst (x := nI 5) rfl rfl ?_
    refine ev_ialdN rfl rfl ?_ (hq := k_222 n)
    rw [show mem 222 (5) = nI (nn (R 5)) by rw [hR]; (repeat rw [upd_ne (by omega)]); exact wr5 hw]
    refine ev_icmp_geN (p2 := 166) rfl rfl (fun cnd118 => ?_) (fun cnd118 => ?_)
    · omega
    · skip
      refine ev_iload rfl rfl ?_
      refine ev_aload rfl rfl ?_
      refine ev_iload rfl rfl ?_
      refine ev_iconst (x := nI 0) rfl rfl ?_
      refine ev_call rfl rfl ?_
      refine r_lamp7 hR k 0 (by omega) rfl ?_
      change am_ev _ _ _ _ [_, _] _ _ _
      refine ev_iload rfl rfl ?_
      refine ev_call rfl rfl ?_
      refine c_X12_isUnder _ _ ?_
      change am_ev _ _ _ _ [_, _] _ _ _
      refine ev_if_eqB (p2 := 156) rfl rfl (fun cnd134 => ?_) (fun cnd134 => ?_)
      · skip
        refine ev_iconst (x := nI 0) rfl rfl ?_
        refine ev_iaddN rfl ?_
        refine ev_istore rfl rfl (Nat.le_of_ble_eq_true rfl) ?_
        refine ev_iincN rfl rfl rfl ?_
        refine ev_goto (p2 := 110) rfl rfl ?_
        first
        | (have hal : S_al R kd (nI (250 * t)) k = true := by
             unfold S_al
             rw [show S_und R kd k = true from decide_eq_true cnd134, decide_eq_true (lt_nle cnd149)]; rfl
           rw [cnt_t hal]
           exact ih mem (k + 1) (by omega) hR hf hQ)
        | (have hal : S_al R kd (nI (250 * t)) k = false := by
             unfold S_al
             rw [decide_eq_false (nlt_le cnd149), Bool.and_false]
           rw [Nat.add_zero, cnt_f hal]
           exact ih mem (k + 1) (by omega) hR hf hQ)
        | (have hal : S_al R kd (nI (250 * t)) k = false := by
             unfold S_al
             rw [show S_und R kd k = false from decide_eq_false cnd134, Bool.false_and]
           rw [Nat.add_zero, cnt_f hal]
           exact ih mem (k + 1) (by omega) hR hf hQ)
      · skip
        refine ev_aload rfl rfl ?_
        refine ev_iload rfl rfl ?_
        refine ev_call rfl rfl ?_
        refine r_lifeOf hR hw hT k (by omega) (fun mem h2 => ?_)
        have hR := (h2 222 (by decide) (by decide)).trans hR
        have hf := FrR_tr hf (FrR_sc h2)
        change am_ev _ _ _ _ [_, _] _ _ _
        refine ev_iconst (x := nI 250) rfl rfl ?_
        refine ev_iload rfl rfl ?_
        refine ev_imulN rfl ?_
        refine ev_icmp_ge (p2 := 156) rfl rfl (fun cnd149 => ?_) (fun cnd149 => ?_)
        · skip
          refine ev_iconst (x := nI 0) rfl rfl ?_
          refine ev_iaddN rfl ?_
          refine ev_istore rfl rfl (Nat.le_of_ble_eq_true rfl) ?_
          refine ev_iincN rfl rfl rfl ?_
          refine ev_goto (p2 := 110) rfl rfl ?_
          first
          | (have hal : S_al R kd (nI (250 * t)) k = true := by
               unfold S_al
               rw [show S_und R kd k = true from decide_eq_true cnd134, decide_eq_true (lt_nle cnd149)]; rfl
             rw [cnt_t hal]
             exact ih mem (k + 1) (by omega) hR hf hQ)
          | (have hal : S_al R kd (nI (250 * t)) k = false := by
               unfold S_al
               rw [decide_eq_false (nlt_le cnd149), Bool.and_false]
             rw [Nat.add_zero, cnt_f hal]
             exact ih mem (k + 1) (by omega) hR hf hQ)
          | (have hal : S_al R kd (nI (250 * t)) k = false := by
               unfold S_al
               rw [show S_und R kd k = false from decide_eq_false cnd134, Bool.false_and]
             rw [Nat.add_zero, cnt_f hal]
             exact ih mem (k + 1) (by omega) hR hf hQ)
        · skip
          refine ev_iconst (x := nI 1) rfl rfl ?_
          refine ev_goto (p2 := 157) rfl rfl ?_
          refine ev_iaddN rfl ?_
          refine ev_istore rfl rfl (Nat.le_of_ble_eq_true rfl) ?_
          refine ev_iincN rfl rfl rfl ?_
          refine ev_goto (p2 := 110) rfl rfl ?_
          first
          | (have hal : S_al R kd (nI (250 * t)) k = true := by
               unfold S_al
               rw [show S_und R kd k = true from decide_eq_true cnd134, decide_eq_true (lt_nle cnd149)]; rfl
             rw [cnt_t hal]
             exact ih mem (k + 1) (by omega) hR hf hQ)
          | (have hal : S_al R kd (nI (250 * t)) k = false := by
               unfold S_al
               rw [decide_eq_false (nlt_le cnd149), Bool.and_false]
             rw [Nat.add_zero, cnt_f hal]
             exact ih mem (k + 1) (by omega) hR hf hQ)
          | (have hal : S_al R kd (nI (250 * t)) k = false := by
               unfold S_al
               rw [show S_und R kd k = false from decide_eq_false cnd134, Bool.false_and]
             rw [Nat.add_zero, cnt_f hal]
             exact ih mem (k + 1) (by omega) hR hf hQ)
theorem l_X12_tgO {d n : Nat} {Q : am_P} {R : am_R} {mem0 : am_M} (hw : wfR R) (hT : wfTs R) (kd pr : Int32) (a N : Nat) (ha : a ≤ 1) (r : Nat) : ∀ (mem : am_M) (t b : Nat) (c : Int32) (hk : t + r = 21) (ht : 1 ≤ t) (hb9 : b < t) (hR : mem 222 = R) (hf : FrR mem0 mem) (x8 x9 : Option Value) (hQ : ∀ m2 : am_M, FrR mem0 m2 → m2 222 = R → Q (some (.int (if a = 0 then nI (S_tg (S_cost N (fun t => cnt (S_al R kd (nI (250 * t))) (nn (R 5))) pr) r t b c).1 else (S_tg (S_cost N (fun t => cnt (S_al R kd (nI (250 * t))) (nn (R 5))) pr) r t b c).2))) (am_SK n) m2), am_ev kc_X12_together (d + 5) 97 [some (.ref 221), some (.int kd), some (.int pr), some (.int (nI a)), some (.int (nI N)), some (.int (nI b)), some (.int c), some (.int (nI t)), x8, x9] [] (am_SK n) mem Q := by
  induction r with
  | zero =>
    intro mem t b c hk ht hb9 hR hf x8 x9 hQ
    have hb := wb_all hw
    refine ev_iload rfl rfl ?_
    refine ev_iconst (x := nI 20) rfl rfl ?_
    refine ev_icmp_gtN (p2 := 217) rfl rfl (fun cnd101 => ?_) (fun cnd101 => ?_)
    · skip
      refine ev_iload rfl rfl ?_
      refine ev_if_neN (p2 := 226) rfl rfl (fun cnd218 => ?_) (fun cnd218 => ?_)
      · skip
        refine ev_iload rfl rfl ?_
        refine ev_iret rfl ?_
        first
        | (rw [if_pos (show a = 0 by omega)] at hQ; exact hQ mem hf hR)
        | (rw [if_neg (show ¬ a = 0 by omega)] at hQ; exact hQ mem hf hR)
      · skip
        refine ev_iload rfl rfl ?_
        refine ev_goto (p2 := 228) rfl rfl ?_
        refine ev_iret rfl ?_
        first
        | (rw [if_pos (show a = 0 by omega)] at hQ; exact hQ mem hf hR)
        | (rw [if_neg (show ¬ a = 0 by omega)] at hQ; exact hQ mem hf hR)
    · omega
  | succ r ih =>
    intro mem t b c hk ht hb9 hR hf x8 x9 hQ
    have hb := wb_all hw
    refine ev_iload rfl rfl ?_
    refine ev_iconst (x := nI 20) rfl rfl ?_
    refine ev_icmp_gtN (p2 := 217) rfl rfl (fun cnd101 => ?_) (fun cnd101 => ?_)
    · omega
    · skip
      refine ev_iconst (x := nI 0) rfl rfl ?_
      refine ev_istore rfl rfl (Nat.le_of_ble_eq_true rfl) ?_
      refine ev_iconst (x := nI 0) rfl rfl ?_
      refine ev_istore rfl rfl (Nat.le_of_ble_eq_true rfl) ?_
      refine l_X12_tgI hw hT kd t (by omega) _ _ _ _ _ (nn (R 5)) mem 0 (Nat.zero_add _) hR hf (fun m2 hf2 hR2 => ?_)
      refine ev_iload rfl rfl ?_
      refine ev_iload rfl rfl ?_
      refine ev_iconst (x := nI 1000) rfl rfl ?_
      refine ev_idiv rfl ?_
      refine ev_imul rfl ?_
      refine ev_iload rfl rfl ?_
      refine ev_iconst (x := nI 1000) rfl rfl ?_
      refine ev_irem rfl ?_
      refine ev_iload rfl rfl ?_
      refine ev_imul rfl ?_
      refine ev_iadd rfl ?_
      refine ev_iconst (x := nI 100) rfl rfl ?_
      refine ev_imul rfl ?_
      refine ev_iload rfl rfl ?_
      refine ev_idiv rfl ?_ (nI_ne0 (by omega) (by omega))
      refine ev_istore rfl rfl (Nat.le_of_ble_eq_true rfl) ?_
      refine ev_iload rfl rfl ?_
      refine ev_if_eqN (p2 := 203) rfl rfl (fun cnd193 => ?_) (fun cnd193 => ?_)
      · skip
        refine ev_iload rfl rfl ?_
        refine ev_istore rfl rfl (Nat.le_of_ble_eq_true rfl) ?_
        refine ev_iload rfl rfl ?_
        refine ev_istore rfl rfl (Nat.le_of_ble_eq_true rfl) ?_
        refine ev_iincN rfl rfl rfl ?_
        refine ev_goto (p2 := 97) rfl rfl ?_
        first
        | (rw [show S_tg (S_cost N (fun t => cnt (S_al R kd (nI (250 * t))) (nn (R 5))) pr) (r + 1) t b c = S_tg (S_cost N (fun t => cnt (S_al R kd (nI (250 * t))) (nn (R 5))) pr) r (t + 1) t ((S_cost N (fun t => cnt (S_al R kd (nI (250 * t))) (nn (R 5))) pr) t) from if_pos (Or.inl cnd193)] at hQ
           exact ih m2 (t + 1) t _ (by omega) (by omega) (by omega) hR2 hf2 _ _ hQ)
        | (rw [show S_tg (S_cost N (fun t => cnt (S_al R kd (nI (250 * t))) (nn (R 5))) pr) (r + 1) t b c = S_tg (S_cost N (fun t => cnt (S_al R kd (nI (250 * t))) (nn (R 5))) pr) r (t + 1) t ((S_cost N (fun t => cnt (S_al R kd (nI (250 * t))) (nn (R 5))) pr) t) from if_pos (Or.inr (lt_nle cnd200))] at hQ
           exact ih m2 (t + 1) t _ (by omega) (by omega) (by omega) hR2 hf2 _ _ hQ)
        | (rw [show S_tg (S_cost N (fun t => cnt (S_al R kd (nI (250 * t))) (nn (R 5))) pr) (r + 1) t b c = S_tg (S_cost N (fun t => cnt (S_al R kd (nI (250 * t))) (nn (R 5))) pr) r (t + 1) b c from if_neg (by rintro (z | z); omega; exact nlt_le cnd200 z)] at hQ
           exact ih m2 (t + 1) b c (by omega) (by omega) (by omega) hR2 hf2 _ _ hQ)
      · skip
        refine ev_iload rfl rfl ?_
        refine ev_iload rfl rfl ?_
        refine ev_icmp_ge (p2 := 211) rfl rfl (fun cnd200 => ?_) (fun cnd200 => ?_)
        · skip
          refine ev_iincN rfl rfl rfl ?_
          refine ev_goto (p2 := 97) rfl rfl ?_
          first
          | (rw [show S_tg (S_cost N (fun t => cnt (S_al R kd (nI (250 * t))) (nn (R 5))) pr) (r + 1) t b c = S_tg (S_cost N (fun t => cnt (S_al R kd (nI (250 * t))) (nn (R 5))) pr) r (t + 1) t ((S_cost N (fun t => cnt (S_al R kd (nI (250 * t))) (nn (R 5))) pr) t) from if_pos (Or.inl cnd193)] at hQ
             exact ih m2 (t + 1) t _ (by omega) (by omega) (by omega) hR2 hf2 _ _ hQ)
          | (rw [show S_tg (S_cost N (fun t => cnt (S_al R kd (nI (250 * t))) (nn (R 5))) pr) (r + 1) t b c = S_tg (S_cost N (fun t => cnt (S_al R kd (nI (250 * t))) (nn (R 5))) pr) r (t + 1) t ((S_cost N (fun t => cnt (S_al R kd (nI (250 * t))) (nn (R 5))) pr) t) from if_pos (Or.inr (lt_nle cnd200))] at hQ
             exact ih m2 (t + 1) t _ (by omega) (by omega) (by omega) hR2 hf2 _ _ hQ)
          | (rw [show S_tg (S_cost N (fun t => cnt (S_al R kd (nI (250 * t))) (nn (R 5))) pr) (r + 1) t b c = S_tg (S_cost N (fun t => cnt (S_al R kd (nI (250 * t))) (nn (R 5))) pr) r (t + 1) b c from if_neg (by rintro (z | z); omega; exact nlt_le cnd200 z)] at hQ
             exact ih m2 (t + 1) b c (by omega) (by omega) (by omega) hR2 hf2 _ _ hQ)
        · skip
          refine ev_iload rfl rfl ?_
          refine ev_istore rfl rfl (Nat.le_of_ble_eq_true rfl) ?_
          refine ev_iload rfl rfl ?_
          refine ev_istore rfl rfl (Nat.le_of_ble_eq_true rfl) ?_
          refine ev_iincN rfl rfl rfl ?_
          refine ev_goto (p2 := 97) rfl rfl ?_
          first
          | (rw [show S_tg (S_cost N (fun t => cnt (S_al R kd (nI (250 * t))) (nn (R 5))) pr) (r + 1) t b c = S_tg (S_cost N (fun t => cnt (S_al R kd (nI (250 * t))) (nn (R 5))) pr) r (t + 1) t ((S_cost N (fun t => cnt (S_al R kd (nI (250 * t))) (nn (R 5))) pr) t) from if_pos (Or.inl cnd193)] at hQ
             exact ih m2 (t + 1) t _ (by omega) (by omega) (by omega) hR2 hf2 _ _ hQ)
          | (rw [show S_tg (S_cost N (fun t => cnt (S_al R kd (nI (250 * t))) (nn (R 5))) pr) (r + 1) t b c = S_tg (S_cost N (fun t => cnt (S_al R kd (nI (250 * t))) (nn (R 5))) pr) r (t + 1) t ((S_cost N (fun t => cnt (S_al R kd (nI (250 * t))) (nn (R 5))) pr) t) from if_pos (Or.inr (lt_nle cnd200))] at hQ
             exact ih m2 (t + 1) t _ (by omega) (by omega) (by omega) hR2 hf2 _ _ hQ)
          | (rw [show S_tg (S_cost N (fun t => cnt (S_al R kd (nI (250 * t))) (nn (R 5))) pr) (r + 1) t b c = S_tg (S_cost N (fun t => cnt (S_al R kd (nI (250 * t))) (nn (R 5))) pr) r (t + 1) b c from if_neg (by rintro (z | z); omega; exact nlt_le cnd200 z)] at hQ
             exact ih m2 (t + 1) b c (by omega) (by omega) (by omega) hR2 hf2 _ _ hQ)
theorem l_X12_tgN {d n : Nat} {Q : am_P} {R : am_R} {mem : am_M} (hR : mem 222 = R) (hw : wfR R) (hT : wfTs R) (kd pr : Int32) (a : Nat) (ha : a ≤ 1) (r : Nat) : ∀ (k : Nat) (hk : k + r = nn (R 5)) (x6 x7 x8 x9 : Option Value) (hQ : ∀ m2 : am_M, FrR mem m2 → m2 222 = R → Q (some (.int (if cnt (S_und R kd) (nn (R 5)) = 0 then S_NONE else if a = 0 then nI (S_tg (S_cost (cnt (S_und R kd) (nn (R 5))) (fun t => cnt (S_al R kd (nI (250 * t))) (nn (R 5))) pr) 20 1 0 (nI 0)).1 else (S_tg (S_cost (cnt (S_und R kd) (nn (R 5))) (fun t => cnt (S_al R kd (nI (250 * t))) (nn (R 5))) pr) 20 1 0 (nI 0)).2))) (am_SK n) m2), am_ev kc_X12_together (d + 5) 38 [some (.ref 221), some (.int kd), some (.int pr), some (.int (nI a)), some (.int (nI (cnt (S_und R kd) k))), some (.int (nI k)), x6, x7, x8, x9] [] (am_SK n) mem Q := by
  induction r with
  | zero =>
    intro k hk x6 x7 x8 x9 hQ
    have hb := wb_all hw
    have hcl := cnt_le (S_und R kd) k
    have hkk : k = nn (R 5) := by omega
    subst hkk
    refine ev_iload rfl rfl ?_
    refine ev_aload rfl rfl ?_
    refine ev_getR (c := 12) (j := 0) rfl ?_ (hq := k_221 n)
    refine ev_iconst (x := nI 5) rfl rfl ?_
    refine ev_ialdN rfl rfl ?_ (hq := k_222 n)
    rw [show mem 222 (5) = nI (nn (R 5)) by rw [hR]; (repeat rw [upd_ne (by omega)]); exact wr5 hw]
    refine ev_icmp_geN (p2 := 79) rfl rfl (fun cnd46 => ?_) (fun cnd46 => ?_)
    · skip
      refine ev_iload rfl rfl ?_
      refine ev_if_neN (p2 := 88) rfl rfl (fun cnd81 => ?_) (fun cnd81 => ?_)
      · skip
        refine ev_iconst (x := nI 0) rfl rfl ?_
        refine ev_istore rfl rfl (Nat.le_of_ble_eq_true rfl) ?_
        refine ev_iconst (x := nI 0) rfl rfl ?_
        refine ev_istore rfl rfl (Nat.le_of_ble_eq_true rfl) ?_
        refine ev_iconst (x := nI 1) rfl rfl ?_
        refine ev_istore rfl rfl (Nat.le_of_ble_eq_true rfl) ?_
        rw [if_neg (show ¬ cnt (S_und R kd) (nn (R 5)) = 0 by omega)] at hQ
        exact l_X12_tgO hw hT kd pr a _ ha 20 mem 1 0 (nI 0) rfl (by omega) (by omega) hR (FrR_refl _) _ _ hQ
      · skip
        refine ev_iconst (x := (-1000000005)) rfl rfl ?_
        refine ev_iret rfl ?_
        rw [if_pos (show cnt (S_und R kd) (nn (R 5)) = 0 by omega)] at hQ
        exact hQ mem (FrR_refl _) hR
    · omega
  | succ r ih =>
    intro k hk x6 x7 x8 x9 hQ
    have hb := wb_all hw
    have hcl := cnt_le (S_und R kd) k
    refine ev_iload rfl rfl ?_
    refine ev_aload rfl rfl ?_
    refine ev_getR (c := 12) (j := 0) rfl ?_ (hq := k_221 n)
    refine ev_iconst (x := nI 5) rfl rfl ?_
    refine ev_ialdN rfl rfl ?_ (hq := k_222 n)
    rw [show mem 222 (5) = nI (nn (R 5)) by rw [hR]; (repeat rw [upd_ne (by omega)]); exact wr5 hw]
    refine ev_icmp_geN (p2 := 79) rfl rfl (fun cnd46 => ?_) (fun cnd46 => ?_)
    · omega
    · skip
      refine ev_iload rfl rfl ?_
      refine ev_aload rfl rfl ?_
      refine ev_iload rfl rfl ?_
      refine ev_iconst (x := nI 0) rfl rfl ?_
      refine ev_call rfl rfl ?_
      refine r_lamp7 hR k 0 (by omega) rfl ?_
      change am_ev _ _ _ _ [_, _] _ _ _
      refine ev_iload rfl rfl ?_
      refine ev_call rfl rfl ?_
      refine c_X12_isUnder _ _ ?_
      change am_ev _ _ _ _ [_, _] _ _ _
      refine ev_if_eqB (p2 := 69) rfl rfl (fun cnd62 => ?_) (fun cnd62 => ?_)
      · skip
        refine ev_iconst (x := nI 0) rfl rfl ?_
        refine ev_iaddN rfl ?_
        refine ev_istore rfl rfl (Nat.le_of_ble_eq_true rfl) ?_
        refine ev_iincN rfl rfl rfl ?_
        refine ev_goto (p2 := 38) rfl rfl ?_
        first
        | (have hal : S_und R kd k = true := decide_eq_true cnd62
           rw [cnt_t hal]
           exact ih (k + 1) (by omega) _ _ _ _ hQ)
        | (have hal : S_und R kd k = false := decide_eq_false cnd62
           rw [Nat.add_zero, cnt_f hal]
           exact ih (k + 1) (by omega) _ _ _ _ hQ)
      · skip
        refine ev_iconst (x := nI 1) rfl rfl ?_
        refine ev_goto (p2 := 70) rfl rfl ?_
        refine ev_iaddN rfl ?_
        refine ev_istore rfl rfl (Nat.le_of_ble_eq_true rfl) ?_
        refine ev_iincN rfl rfl rfl ?_
        refine ev_goto (p2 := 38) rfl rfl ?_
        first
        | (have hal : S_und R kd k = true := decide_eq_true cnd62
           rw [cnt_t hal]
           exact ih (k + 1) (by omega) _ _ _ _ hQ)
        | (have hal : S_und R kd k = false := decide_eq_false cnd62
           rw [Nat.add_zero, cnt_f hal]
           exact ih (k + 1) (by omega) _ _ _ _ hQ)
theorem c_X12_together {d n : Nat} {mem : am_M} {Q : am_P} {R : am_R} (hR : mem 222 = R) (hw : wfR R) (hT : wfTs R) (kd pr w : Int32) (hQ : ∀ m2 : am_M, FrR mem m2 → m2 222 = R → Q (some (.int (X_tog R kd pr w))) (am_SK n) m2) : am_ex (d + 6) 218 [.ref 221, .int kd, .int pr, .int w] (am_SK n) mem Q := by
  have hb := wb_all hw
  have hfr := Hfr0 mem
  unfold X_tog at hQ
  refine ex_in (c0 := kc_X12_together) rfl (L := [some (.ref 221), some (.int kd), some (.int pr), some (.int w), none, none, none, none, none, none]) rfl ?_
  refine ev_iload rfl rfl ?_
  refine ev_iconst (x := nI 0) rfl rfl ?_
  refine ev_iconst (x := nI 5) rfl rfl ?_
  refine ev_call rfl rfl ?_
  refine c_X12_in _ _ _ ?_
  change am_ev _ _ _ _ [_] _ _ _
  refine ev_if_eqB (p2 := 29) rfl rfl (fun cnd6 => ?_) (fun cnd6 => ?_)
  · skip
    refine ev_iconst (x := (-1000000001)) rfl rfl ?_
    refine ev_iret rfl ?_
    rw [if_neg (by
      rintro ⟨z1, z2, z3⟩
      first | exact cnd6 z1 | exact cnd17 z2 | exact cnd26 z3)] at hQ
    exact hQ mem (FrR_refl _) hR
  · skip
    refine ev_iload rfl rfl ?_
    refine ev_iconst (x := nI 0) rfl rfl ?_
    refine ev_iconst (x := nI 999999) rfl rfl ?_
    refine ev_call rfl rfl ?_
    refine c_X12_in _ _ _ ?_
    change am_ev _ _ _ _ [_] _ _ _
    refine ev_if_eqB (p2 := 29) rfl rfl (fun cnd17 => ?_) (fun cnd17 => ?_)
    · skip
      refine ev_iconst (x := (-1000000001)) rfl rfl ?_
      refine ev_iret rfl ?_
      rw [if_neg (by
        rintro ⟨z1, z2, z3⟩
        first | exact cnd6 z1 | exact cnd17 z2 | exact cnd26 z3)] at hQ
      exact hQ mem (FrR_refl _) hR
    · skip
      refine ev_iload rfl rfl ?_
      refine ev_iconst (x := nI 0) rfl rfl ?_
      refine ev_iconst (x := nI 1) rfl rfl ?_
      refine ev_call rfl rfl ?_
      refine c_X12_in _ _ _ ?_
      change am_ev _ _ _ _ [_] _ _ _
      refine ev_if_neB (p2 := 32) rfl rfl (fun cnd26 => ?_) (fun cnd26 => ?_)
      · skip
        obtain ⟨ea, ha⟩ := am_rng (by decide) cnd26
        rw [if_pos (show P_tg kd pr w from And.intro cnd6 (And.intro cnd17 cnd26))] at hQ
        generalize nn w = a at ea ha
        subst ea
        have haz : (nI a = 0) = (a = 0) := propext (nI_z (by omega))
        simp only [haz] at hQ
        refine ev_iconst (x := nI 0) rfl rfl ?_
        refine ev_istore rfl rfl (Nat.le_of_ble_eq_true rfl) ?_
        refine ev_iconst (x := nI 0) rfl rfl ?_
        refine ev_istore rfl rfl (Nat.le_of_ble_eq_true rfl) ?_
        exact l_X12_tgN hR hw hT kd pr a ha _ 0 (Nat.zero_add _) _ _ _ _ hQ
      · skip
        refine ev_iconst (x := (-1000000001)) rfl rfl ?_
        refine ev_iret rfl ?_
        rw [if_neg (by
          rintro ⟨z1, z2, z3⟩
          first | exact cnd6 z1 | exact cnd17 z2 | exact cnd26 z3)] at hQ
        exact hQ mem (FrR_refl _) hR
theorem l_X11_gather {d n : Nat} {Q : am_P} {R : am_R} {mem0 : am_M} (kd : Int32) (r : Nat) : ∀ (mem : am_M) (k : Nat) (hk : k + r = nn (R 5)) (hC : CplT 66 R mem) (hK : Kab mem) (hf : FrC mem0 mem) (hg : ∀ b : Int32, cnt (fun j => decide (mem 197 j < b)) (cnt (S_und R kd) k) = cnt (S_al R kd b) k) (hQ : ∀ m2 : am_M, FrC mem0 m2 → CplT 66 R m2 → (∀ b : Int32, cnt (fun j => decide (m2 197 j < b)) (cnt (S_und R kd) (nn (R 5))) = cnt (S_al R kd b) (nn (R 5))) → Q (some (.int (nI (cnt (S_und R kd) (nn (R 5)))))) (am_SK n) m2), am_ev kc_X11_gatherLives (d + 4) 4 [some (.ref 29), some (.int kd), some (.int (nI (cnt (S_und R kd) k))), some (.int (nI k))] [] (am_SK n) mem Q := by
  induction r with
  | zero =>
    intro mem k hk hC hK hf hg hQ
    have hb := wb_all (cp_w hC)
    have hcl := cnt_le (S_und R kd) k
    have hkk : k = nn (R 5) := by omega
    subst hkk
    refine ev_iload rfl rfl ?_
    refine ev_aload rfl rfl ?_
    refine ev_getR (c := 11) (j := 2) rfl ?_ (hq := k_29 n)
    refine ev_getI (c := 9) (j := 6) rfl ?_ (hq := kt_0 n am_T66)
    rw [cp_t6 hC]
    refine ev_icmp_geN (p2 := 65) rfl rfl (fun cnd12 => ?_) (fun cnd12 => ?_)
    · skip
      refine ev_iload rfl rfl ?_
      refine ev_iret rfl ?_
      exact hQ mem hf hC hg
    · omega
  | succ r ih =>
    intro mem k hk hC hK hf hg hQ
    have hb := wb_all (cp_w hC)
    have hcl := cnt_le (S_und R kd) k
    have hek := ((cp_w hC).2.2.2.2.1 k (by omega)).1
    have hek2 := hek.2
    refine ev_iload rfl rfl ?_
    refine ev_aload rfl rfl ?_
    refine ev_getR (c := 11) (j := 2) rfl ?_ (hq := k_29 n)
    refine ev_getI (c := 9) (j := 6) rfl ?_ (hq := kt_0 n am_T66)
    rw [cp_t6 hC]
    refine ev_icmp_geN (p2 := 65) rfl rfl (fun cnd12 => ?_) (fun cnd12 => ?_)
    · omega
    · skip
      refine ev_aload rfl rfl ?_
      refine ev_getR (c := 11) (j := 2) rfl ?_ (hq := k_29 n)
      refine ev_getR (c := 9) (j := 5) rfl ?_ (hq := kt_0 n am_T66)
      refine ev_iload rfl rfl ?_
      refine ev_aldN rfl rfl ?_ (kr_lamp (by omega)) (hq := kt_3 n am_T66)
      refine ev_getI (c := 4) (j := 0) rfl ?_ (hq := kt_lamp n am_T66 (by omega))
      rw [cp_l0 hC (l := k) (by omega)]
      refine ev_iload rfl rfl ?_
      refine ev_call rfl rfl ?_
      refine c_X11_isOfKind hK _ (by omega) _ ?_
      change am_ev _ _ _ _ [_] _ _ _
      refine ev_if_eqB (p2 := 59) rfl rfl (fun cnd31 => ?_) (fun cnd31 => ?_)
      · skip
        refine ev_iincN rfl rfl rfl ?_
        refine ev_goto (p2 := 4) rfl rfl ?_
        first
        | (have hu : S_und R kd k = true := by unfold S_und; rw [hek.1]; exact decide_eq_true cnd31
           have hstep : cnt (S_und R kd) (k + 1) = cnt (S_und R kd) k + 1 := by
             show cnt (S_und R kd) k + (if S_und R kd k = true then 1 else 0) = _
             rw [if_pos hu]
           rw [← hstep]
           refine ih mem3 (k + 1) (by omega) (cp_fr hC (fun q hq => by rw [hm, am_up_ne (by omega)])) ?_ (FrC_tr hf (fun q hq => by rw [hm, am_up_ne (by omega)])) (fun b => ?_) hQ
           · unfold Kab; rw [hm, am_up_ne (by decide)]; exact hK
           · rw [hstep]
             show cnt (fun j => decide (mem3 197 j < b)) (cnt (S_und R kd) k) + (if decide (mem3 197 (cnt (S_und R kd) k) < b) = true then 1 else 0) = cnt (S_al R kd b) k + (if S_al R kd b k = true then 1 else 0)
             rw [← hg b, hm, am_up_eq, cnt_cg (q := fun j => decide (mem 197 j < b)) _ (fun j hj => by rw [am_up_nk (by omega)])]
             unfold S_al
             rw [hu, Bool.true_and])
        | (have hu : S_und R kd k = false := by unfold S_und; rw [hek.1]; exact decide_eq_false cnd31
           have hstep : cnt (S_und R kd) (k + 1) = cnt (S_und R kd) k := by
             show cnt (S_und R kd) k + (if S_und R kd k = true then 1 else 0) = _
             rw [hu]; rfl
           rw [← hstep]
           refine ih mem (k + 1) (by omega) hC hK hf (fun b => ?_) hQ
           rw [hstep, hg b]
           show cnt (S_al R kd b) k = cnt (S_al R kd b) k + (if S_al R kd b k = true then 1 else 0)
           unfold S_al
           rw [hu, Bool.false_and]
           rfl)
      · skip
        refine ev_aload rfl rfl ?_
        refine ev_getR (c := 11) (j := 13) rfl ?_ (hq := k_29 n)
        refine ev_iload rfl rfl ?_
        refine ev_aload rfl rfl ?_
        refine ev_getR (c := 11) (j := 2) rfl ?_ (hq := k_29 n)
        refine ev_aload rfl rfl ?_
        refine ev_getR (c := 11) (j := 2) rfl ?_ (hq := k_29 n)
        refine ev_getR (c := 9) (j := 5) rfl ?_ (hq := kt_0 n am_T66)
        refine ev_iload rfl rfl ?_
        refine ev_aldN rfl rfl ?_ (kr_lamp (by omega)) (hq := kt_3 n am_T66)
        refine ev_callV rfl rfl rfl rfl (Nat.le_of_ble_eq_true rfl) (Nat.le_of_ble_eq_true rfl) ?_ (hq := kt_0 n am_T66)
        refine c_X9_life am_T66 hC k (by omega) (fun mem h2 => ?_)
        have hC := cp_fr2 hC am_T66 h2
        have hf := FrC_tr hf (FrC_sc h2)
        have hK : Kab mem := by unfold Kab; rw [h2 0 (by decide) (by decide)]; exact hK
        have hg : ∀ b : Int32, cnt (fun j => decide (mem 197 j < b)) (cnt (S_und R kd) k) = cnt (S_al R kd b) k := by rw [h2 197 (by decide) (by decide)]; exact hg
        change am_ev _ _ _ _ [_, _, _] _ _ _
        refine ev_iastS rfl (fun mem3 hm => ?_) (hq := k_197 n)
        refine ev_iincN rfl rfl rfl ?_
        refine ev_iincN rfl rfl rfl ?_
        refine ev_goto (p2 := 4) rfl rfl ?_
        first
        | (have hu : S_und R kd k = true := by unfold S_und; rw [hek.1]; exact decide_eq_true cnd31
           have hstep : cnt (S_und R kd) (k + 1) = cnt (S_und R kd) k + 1 := by
             show cnt (S_und R kd) k + (if S_und R kd k = true then 1 else 0) = _
             rw [if_pos hu]
           rw [← hstep]
           refine ih mem3 (k + 1) (by omega) (cp_fr hC (fun q hq => by rw [hm, am_up_ne (by omega)])) ?_ (FrC_tr hf (fun q hq => by rw [hm, am_up_ne (by omega)])) (fun b => ?_) hQ
           · unfold Kab; rw [hm, am_up_ne (by decide)]; exact hK
           · rw [hstep]
             show cnt (fun j => decide (mem3 197 j < b)) (cnt (S_und R kd) k) + (if decide (mem3 197 (cnt (S_und R kd) k) < b) = true then 1 else 0) = cnt (S_al R kd b) k + (if S_al R kd b k = true then 1 else 0)
             rw [← hg b, hm, am_up_eq, cnt_cg (q := fun j => decide (mem 197 j < b)) _ (fun j hj => by rw [am_up_nk (by omega)])]
             unfold S_al
             rw [hu, Bool.true_and])
        | (have hu : S_und R kd k = false := by unfold S_und; rw [hek.1]; exact decide_eq_false cnd31
           have hstep : cnt (S_und R kd) (k + 1) = cnt (S_und R kd) k := by
             show cnt (S_und R kd) k + (if S_und R kd k = true then 1 else 0) = _
             rw [hu]; rfl
           rw [← hstep]
           refine ih mem (k + 1) (by omega) hC hK hf (fun b => ?_) hQ
           rw [hstep, hg b]
           show cnt (S_al R kd b) k = cnt (S_al R kd b) k + (if S_al R kd b k = true then 1 else 0)
           unfold S_al
           rw [hu, Bool.false_and]
           rfl)
theorem c_X11_gatherLives {d n : Nat} {mem : am_M} {Q : am_P} {R : am_R} (hC : CplT 66 R mem) (hK : Kab mem) (kd : Int32) (hQ : ∀ m2 : am_M, FrC mem m2 → CplT 66 R m2 → (∀ b : Int32, cnt (fun j => decide (m2 197 j < b)) (cnt (S_und R kd) (nn (R 5))) = cnt (S_al R kd b) (nn (R 5))) → Q (some (.int (nI (cnt (S_und R kd) (nn (R 5)))))) (am_SK n) m2) : am_ex (d + 5) 139 [.ref 29, .int kd] (am_SK n) mem Q := by
  refine ex_in (c0 := kc_X11_gatherLives) rfl (L := [some (.ref 29), some (.int kd), none, none]) rfl ?_
  refine ev_iconst (x := nI 0) rfl rfl ?_
  refine ev_istore rfl rfl (Nat.le_of_ble_eq_true rfl) ?_
  refine ev_iconst (x := nI 0) rfl rfl ?_
  refine ev_istore rfl rfl (Nat.le_of_ble_eq_true rfl) ?_
  exact l_X11_gather kd _ mem 0 (Nat.zero_add _) hC hK (FrC_refl _) (fun b => rfl) hQ
theorem l_X11_below {d n : Nat} {Q : am_P} {mem : am_M} (b : Int32) (m : Nat) (hm : m ≤ 16) (r : Nat) : ∀ (k : Nat) (hk : k + r = m) (hQ : Q (some (.int (nI (cnt (fun j => decide (mem 197 j < b)) m)))) (am_SK n) mem), am_ev kc_X11_livesBelow d 5 [some (.ref 29), some (.int b), some (.int (nI m)), some (.int (nI (cnt (fun j => decide (mem 197 j < b)) k))), some (.int (nI k))] [] (am_SK n) mem Q := by
  induction r with
  | zero =>
    intro k hk hQ
    have hcl := cnt_le (fun j => decide (mem 197 j < b)) k
    have hkk : k = m := by omega
    subst hkk
    refine ev_iload rfl rfl ?_
    refine ev_iload rfl rfl ?_
    refine ev_icmp_geN (p2 := 38) rfl rfl (fun cnd8 => ?_) (fun cnd8 => ?_)
    · skip
      refine ev_iload rfl rfl ?_
      refine ev_iret rfl ?_
      exact hQ
    · omega
  | succ r ih =>
    intro k hk hQ
    have hcl := cnt_le (fun j => decide (mem 197 j < b)) k
    refine ev_iload rfl rfl ?_
    refine ev_iload rfl rfl ?_
    refine ev_icmp_geN (p2 := 38) rfl rfl (fun cnd8 => ?_) (fun cnd8 => ?_)
    · omega
    · skip
      refine ev_iload rfl rfl ?_
      refine ev_iconst (x := nI 16) rfl rfl ?_
      refine ev_icmp_geN (p2 := 38) rfl rfl (fun cnd15 => ?_) (fun cnd15 => ?_)
      · omega
      · skip
        refine ev_aload rfl rfl ?_
        refine ev_getR (c := 11) (j := 13) rfl ?_ (hq := k_29 n)
        refine ev_iload rfl rfl ?_
        refine ev_ialdN rfl rfl ?_ (hq := k_197 n)
        refine ev_iload rfl rfl ?_
        refine ev_icmp_ge (p2 := 32) rfl rfl (fun cnd26 => ?_) (fun cnd26 => ?_)
        · skip
          refine ev_iincN rfl rfl rfl ?_
          refine ev_goto (p2 := 5) rfl rfl ?_
          first
          | (have hal : (fun j => decide (mem 197 j < b)) k = true := decide_eq_true (lt_nle cnd26)
             rw [cnt_t hal]
             exact ih (k + 1) (by omega) hQ)
          | (have hal : (fun j => decide (mem 197 j < b)) k = false := decide_eq_false (nlt_le cnd26)
             rw [cnt_f hal]
             exact ih (k + 1) (by omega) hQ)
        · skip
          refine ev_iincN rfl rfl rfl ?_
          refine ev_iincN rfl rfl rfl ?_
          refine ev_goto (p2 := 5) rfl rfl ?_
          first
          | (have hal : (fun j => decide (mem 197 j < b)) k = true := decide_eq_true (lt_nle cnd26)
             rw [cnt_t hal]
             exact ih (k + 1) (by omega) hQ)
          | (have hal : (fun j => decide (mem 197 j < b)) k = false := decide_eq_false (nlt_le cnd26)
             rw [cnt_f hal]
             exact ih (k + 1) (by omega) hQ)
theorem c_X11_livesBelow {d n : Nat} {mem : am_M} {Q : am_P} (b : Int32) (m : Nat) (hm : m ≤ 16) (hQ : Q (some (.int (nI (cnt (fun j => decide (mem 197 j < b)) m)))) (am_SK n) mem) : am_ex (d + 1) 140 [.ref 29, .int b, .int (nI m)] (am_SK n) mem Q := by
  refine ex_in (c0 := kc_X11_livesBelow) rfl (L := [some (.ref 29), some (.int b), some (.int (nI m)), none, none]) rfl ?_
  refine ev_iconst (x := nI 0) rfl rfl ?_
  refine ev_istore rfl rfl (Nat.le_of_ble_eq_true rfl) ?_
  refine ev_iconst (x := nI 0) rfl rfl ?_
  refine ev_istore rfl rfl (Nat.le_of_ble_eq_true rfl) ?_
  exact l_X11_below b m hm m 0 (Nat.zero_add _) hQ
theorem l_X11_tgO {d n : Nat} {Q : am_P} {mem : am_M} (kd pr : Int32) (A : Nat → Nat) (a N : Nat) (ha : a ≤ 1) (hN : N ≤ 16) (hA : ∀ t, t ≤ 20 → cnt (fun j => decide (mem 197 j < nI (250 * t))) N = A t) (r : Nat) : ∀ (t b : Nat) (c : Int32) (hk : t + r = 21) (ht : 1 ≤ t) (hb9 : b < t) (x9 : Option Value) (hQ : Q (some (.int (if a = 0 then nI (S_tg (S_cost N A pr) r t b c).1 else (S_tg (S_cost N A pr) r t b c).2))) (am_SK n) mem), am_ev kc_X11_together (d + 1) 65 [some (.ref 29), some (.int kd), some (.int pr), some (.int (nI a)), some (.int (nI N)), some (.int (nI N * (pr / nI 1000))), some (.int (nI b)), some (.int c), some (.int (nI t)), x9] [] (am_SK n) mem Q := by
  induction r with
  | zero =>
    intro t b c hk ht hb9 x9 hQ
    refine ev_iload rfl rfl ?_
    refine ev_iconst (x := nI 20) rfl rfl ?_
    refine ev_icmp_gtN (p2 := 127) rfl rfl (fun cnd69 => ?_) (fun cnd69 => ?_)
    · skip
      refine ev_iload rfl rfl ?_
      refine ev_if_neN (p2 := 136) rfl rfl (fun cnd128 => ?_) (fun cnd128 => ?_)
      · skip
        refine ev_iload rfl rfl ?_
        refine ev_iret rfl ?_
        first
        | (rw [if_pos (show a = 0 by omega)] at hQ; exact hQ)
        | (rw [if_neg (show ¬ a = 0 by omega)] at hQ; exact hQ)
      · skip
        refine ev_iload rfl rfl ?_
        refine ev_goto (p2 := 138) rfl rfl ?_
        refine ev_iret rfl ?_
        first
        | (rw [if_pos (show a = 0 by omega)] at hQ; exact hQ)
        | (rw [if_neg (show ¬ a = 0 by omega)] at hQ; exact hQ)
    · omega
  | succ r ih =>
    intro t b c hk ht hb9 x9 hQ
    refine ev_iload rfl rfl ?_
    refine ev_iconst (x := nI 20) rfl rfl ?_
    refine ev_icmp_gtN (p2 := 127) rfl rfl (fun cnd69 => ?_) (fun cnd69 => ?_)
    · omega
    · skip
      refine ev_iload rfl rfl ?_
      refine ev_iload rfl rfl ?_
      refine ev_iconst (x := nI 1000) rfl rfl ?_
      refine ev_irem rfl ?_
      refine ev_aload rfl rfl ?_
      refine ev_iconst (x := nI 250) rfl rfl ?_
      refine ev_iload rfl rfl ?_
      refine ev_imulN rfl ?_
      refine ev_iload rfl rfl ?_
      refine ev_call rfl rfl ?_
      refine c_X11_livesBelow _ N hN ?_
      rw [hA t (by omega)]
      change am_ev _ _ _ _ [_, _, _] _ _ _
      refine ev_imul rfl ?_
      refine ev_iadd rfl ?_
      refine ev_iconst (x := nI 100) rfl rfl ?_
      refine ev_imul rfl ?_
      refine ev_iload rfl rfl ?_
      refine ev_idiv rfl ?_ (nI_ne0 (by omega) (by omega))
      refine ev_istore rfl rfl (Nat.le_of_ble_eq_true rfl) ?_
      refine ev_iload rfl rfl ?_
      refine ev_if_eqN (p2 := 113) rfl rfl (fun cnd103 => ?_) (fun cnd103 => ?_)
      · skip
        refine ev_iload rfl rfl ?_
        refine ev_istore rfl rfl (Nat.le_of_ble_eq_true rfl) ?_
        refine ev_iload rfl rfl ?_
        refine ev_istore rfl rfl (Nat.le_of_ble_eq_true rfl) ?_
        refine ev_iincN rfl rfl rfl ?_
        refine ev_goto (p2 := 65) rfl rfl ?_
        first
        | (rw [show S_tg (S_cost N A pr) (r + 1) t b c = S_tg (S_cost N A pr) r (t + 1) t ((S_cost N A pr) t) from if_pos (Or.inl cnd103)] at hQ
           exact ih (t + 1) t _ (by omega) (by omega) (by omega) _ hQ)
        | (rw [show S_tg (S_cost N A pr) (r + 1) t b c = S_tg (S_cost N A pr) r (t + 1) t ((S_cost N A pr) t) from if_pos (Or.inr (lt_nle cnd110))] at hQ
           exact ih (t + 1) t _ (by omega) (by omega) (by omega) _ hQ)
        | (rw [show S_tg (S_cost N A pr) (r + 1) t b c = S_tg (S_cost N A pr) r (t + 1) b c from if_neg (by rintro (z | z); omega; exact nlt_le cnd110 z)] at hQ
           exact ih (t + 1) b c (by omega) (by omega) (by omega) _ hQ)
      · skip
        refine ev_iload rfl rfl ?_
        refine ev_iload rfl rfl ?_
        refine ev_icmp_ge (p2 := 121) rfl rfl (fun cnd110 => ?_) (fun cnd110 => ?_)
        · skip
          refine ev_iincN rfl rfl rfl ?_
          refine ev_goto (p2 := 65) rfl rfl ?_
          first
          | (rw [show S_tg (S_cost N A pr) (r + 1) t b c = S_tg (S_cost N A pr) r (t + 1) t ((S_cost N A pr) t) from if_pos (Or.inl cnd103)] at hQ
             exact ih (t + 1) t _ (by omega) (by omega) (by omega) _ hQ)
          | (rw [show S_tg (S_cost N A pr) (r + 1) t b c = S_tg (S_cost N A pr) r (t + 1) t ((S_cost N A pr) t) from if_pos (Or.inr (lt_nle cnd110))] at hQ
             exact ih (t + 1) t _ (by omega) (by omega) (by omega) _ hQ)
          | (rw [show S_tg (S_cost N A pr) (r + 1) t b c = S_tg (S_cost N A pr) r (t + 1) b c from if_neg (by rintro (z | z); omega; exact nlt_le cnd110 z)] at hQ
             exact ih (t + 1) b c (by omega) (by omega) (by omega) _ hQ)
        · skip
          refine ev_iload rfl rfl ?_
          refine ev_istore rfl rfl (Nat.le_of_ble_eq_true rfl) ?_
          refine ev_iload rfl rfl ?_
          refine ev_istore rfl rfl (Nat.le_of_ble_eq_true rfl) ?_
          refine ev_iincN rfl rfl rfl ?_
          refine ev_goto (p2 := 65) rfl rfl ?_
          first
          | (rw [show S_tg (S_cost N A pr) (r + 1) t b c = S_tg (S_cost N A pr) r (t + 1) t ((S_cost N A pr) t) from if_pos (Or.inl cnd103)] at hQ
             exact ih (t + 1) t _ (by omega) (by omega) (by omega) _ hQ)
          | (rw [show S_tg (S_cost N A pr) (r + 1) t b c = S_tg (S_cost N A pr) r (t + 1) t ((S_cost N A pr) t) from if_pos (Or.inr (lt_nle cnd110))] at hQ
             exact ih (t + 1) t _ (by omega) (by omega) (by omega) _ hQ)
          | (rw [show S_tg (S_cost N A pr) (r + 1) t b c = S_tg (S_cost N A pr) r (t + 1) b c from if_neg (by rintro (z | z); omega; exact nlt_le cnd110 z)] at hQ
             exact ih (t + 1) b c (by omega) (by omega) (by omega) _ hQ)
theorem c_X11_together {d n : Nat} {mem : am_M} {Q : am_P} {R : am_R} (hC : CplT 66 R mem) (hK : Kab mem) (kd pr w : Int32) (hQ : ∀ m2 : am_M, FrC mem m2 → CplT 66 R m2 → Q (some (.int (X_tog R kd pr w))) (am_SK n) m2) : am_ex (d + 6) 112 [.ref 29, .int kd, .int pr, .int w] (am_SK n) mem Q := by
  have hb := wb_all (cp_w hC)
  unfold X_tog at hQ
  refine ex_in (c0 := kc_X11_together) rfl (L := [some (.ref 29), some (.int kd), some (.int pr), some (.int w), none, none, none, none, none, none]) rfl ?_
  refine ev_iload rfl rfl ?_
  refine ev_call rfl rfl ?_
  refine c_X11_isKind _ ?_
  change am_ev _ _ _ _ [_] _ _ _
  refine ev_if_eqB (p2 := 27) rfl rfl (fun cnd4 => ?_) (fun cnd4 => ?_)
  · skip
    refine ev_iconst (x := (-1000000001)) rfl rfl ?_
    refine ev_iret rfl ?_
    rw [if_neg (by
      rintro ⟨z1, ⟨z2, z3⟩, z4, z5⟩
      first | exact cnd4 z1 | exact nlt_le z2 cnd8 | exact nlt_le z3 cnd15 | exact nlt_le z4 cnd19 | exact cnd24 z5)] at hQ
    exact hQ mem (FrC_refl _) hC
  · skip
    refine ev_iload rfl rfl ?_
    refine ev_if_lt (p2 := 27) rfl rfl (fun cnd8 => ?_) (fun cnd8 => ?_)
    · skip
      refine ev_iconst (x := (-1000000001)) rfl rfl ?_
      refine ev_iret rfl ?_
      rw [if_neg (by
        rintro ⟨z1, ⟨z2, z3⟩, z4, z5⟩
        first | exact cnd4 z1 | exact nlt_le z2 cnd8 | exact nlt_le z3 cnd15 | exact nlt_le z4 cnd19 | exact cnd24 z5)] at hQ
      exact hQ mem (FrC_refl _) hC
    · skip
      refine ev_iload rfl rfl ?_
      refine ev_iconst (x := nI 999999) rfl rfl ?_
      refine ev_icmp_gt (p2 := 27) rfl rfl (fun cnd15 => ?_) (fun cnd15 => ?_)
      · skip
        refine ev_iconst (x := (-1000000001)) rfl rfl ?_
        refine ev_iret rfl ?_
        rw [if_neg (by
          rintro ⟨z1, ⟨z2, z3⟩, z4, z5⟩
          first | exact cnd4 z1 | exact nlt_le z2 cnd8 | exact nlt_le z3 cnd15 | exact nlt_le z4 cnd19 | exact cnd24 z5)] at hQ
        exact hQ mem (FrC_refl _) hC
      · skip
        refine ev_iload rfl rfl ?_
        refine ev_if_lt (p2 := 27) rfl rfl (fun cnd19 => ?_) (fun cnd19 => ?_)
        · skip
          refine ev_iconst (x := (-1000000001)) rfl rfl ?_
          refine ev_iret rfl ?_
          rw [if_neg (by
            rintro ⟨z1, ⟨z2, z3⟩, z4, z5⟩
            first | exact cnd4 z1 | exact nlt_le z2 cnd8 | exact nlt_le z3 cnd15 | exact nlt_le z4 cnd19 | exact cnd24 z5)] at hQ
          exact hQ mem (FrC_refl _) hC
        · skip
          refine ev_iload rfl rfl ?_
          refine ev_iconst (x := nI 1) rfl rfl ?_
          refine ev_icmp_le (p2 := 30) rfl rfl (fun cnd24 => ?_) (fun cnd24 => ?_)
          · skip
            have hP3 : nI 0 ≤ w ∧ w ≤ nI 1 := And.intro (le_nlt cnd19) cnd24
            obtain ⟨ea, ha⟩ := am_rng (by decide) hP3
            rw [if_pos (show P_tg kd pr w from And.intro cnd4 (And.intro (And.intro (le_nlt cnd8) (le_nlt cnd15)) hP3))] at hQ
            generalize nn w = a at ea ha
            subst ea
            have haz : (nI a = 0) = (a = 0) := propext (nI_z (by omega))
            simp only [haz] at hQ
            refine ev_aload rfl rfl ?_
            refine ev_iload rfl rfl ?_
            refine ev_call rfl rfl ?_
            refine c_X11_gatherLives hC hK kd (fun m2 f1 hC2 hg => ?_)
            have hcl := cnt_le (S_und R kd) (nn (R 5))
            change am_ev _ _ _ _ [_] _ _ _
            refine ev_istore rfl rfl (Nat.le_of_ble_eq_true rfl) ?_
            refine ev_iload rfl rfl ?_
            refine ev_if_neN (p2 := 46) rfl rfl (fun cnd39 => ?_) (fun cnd39 => ?_)
            · skip
              refine ev_iload rfl rfl ?_
              refine ev_iload rfl rfl ?_
              refine ev_iconst (x := nI 1000) rfl rfl ?_
              refine ev_idiv rfl ?_
              refine ev_imul rfl ?_
              refine ev_istore rfl rfl (Nat.le_of_ble_eq_true rfl) ?_
              refine ev_iconst (x := nI 0) rfl rfl ?_
              refine ev_istore rfl rfl (Nat.le_of_ble_eq_true rfl) ?_
              refine ev_iconst (x := nI 0) rfl rfl ?_
              refine ev_istore rfl rfl (Nat.le_of_ble_eq_true rfl) ?_
              refine ev_iconst (x := nI 1) rfl rfl ?_
              refine ev_istore rfl rfl (Nat.le_of_ble_eq_true rfl) ?_
              rw [if_neg (show ¬ cnt (S_und R kd) (nn (R 5)) = 0 by omega)] at hQ
              exact l_X11_tgO kd pr _ a _ ha (by omega) (fun t _ => hg (nI (250 * t))) 20 1 0 (nI 0) rfl (by omega) (by omega) _ (hQ m2 f1 hC2)
            · skip
              refine ev_iconst (x := (-1000000005)) rfl rfl ?_
              refine ev_iret rfl ?_
              rw [if_pos (show cnt (S_und R kd) (nn (R 5)) = 0 by omega)] at hQ
              exact hQ m2 f1 hC2
          · skip
            refine ev_iconst (x := (-1000000001)) rfl rfl ?_
            refine ev_iret rfl ?_
            rw [if_neg (by
              rintro ⟨z1, ⟨z2, z3⟩, z4, z5⟩
              first | exact cnd4 z1 | exact nlt_le z2 cnd8 | exact nlt_le z3 cnd15 | exact nlt_le z4 cnd19 | exact cnd24 z5)] at hQ
            exact hQ mem (FrC_refl _) hC
theorem pub_together {xs : am_R} {d n : Nat} {mem : am_M} {Q : am_P} (hI : Inv xs mem) (kd : Int32) (pr : Int32) (w : Int32) (hQ : ∀ (rv : Int32) (m1 : am_M), RefA xs (d + 200) n 218 [.ref 221, .int kd, .int pr, .int w] rv m1 → Q (some (.int rv)) (am_SK n) m1) : am_ex (d + 200) 112 [.ref 29, .int kd, .int pr, .int w] (am_SK n) mem Q := by
  have hC := hI.2.1.1
  have hw := cp_w hC
  have hT := cp_ts hC
  exact pub_town (R' := mem 222) (v := X_tog (mem 222) kd pr w) hI hI.2.1.2 (Nat.le_refl _) (fun Q1 h => c_X11_together hC (Inv_K hI) kd pr w h) (fun m1 f1 Q1 h => c_X12_together (f1 222 (by decide)) hw hT kd pr w h) (fun m1 h => hQ _ m1 h)
