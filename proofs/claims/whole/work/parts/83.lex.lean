/-! texts: what stands on the tape, word by word -/
def fm (v : Nat) : Nat := if 97 ≤ v ∧ v ≤ 122 then 1 else if 48 ≤ v ∧ v ≤ 57 then 2 else 3
def skp (tp : Nat → Nat) : Nat → Nat → Nat
  | 0, a => a
  | r + 1, a => if tp a = 32 then skp tp r (a + 1) else a
def rnn (tp : Nat → Nat) (f : Nat) : Nat → Nat → Nat
  | 0, a => a
  | r + 1, a => if fm (tp a) = f then rnn tp f r (a + 1) else a
section TK
variable (tp : Nat → Nat) (tl : Nat)
def tA (p : Nat) : Nat := skp tp (tl - p) p
def tF (p : Nat) : Nat := if tl ≤ tA tp tl p then 0 else fm (tp (tA tp tl p))
def tN (p : Nat) : Nat := if tl ≤ tA tp tl p then tA tp tl p else if fm (tp (tA tp tl p)) = 3 then tA tp tl p + 1 else rnn tp (fm (tp (tA tp tl p))) (tl - (tA tp tl p + 1)) (tA tp tl p + 1)
def tW (p : Nat) : Bool := decide (tF tp tl p = 1 ∨ tF tp tl p = 2)
def tG (w : Bool) (p : Nat) : Bool := w && decide (tA tp tl p = p)
def CT (w : Bool) (p : Nat) (m : am_M) : Prop := m 62 3 = nI (tF tp tl p) ∧ m 62 4 = nI (tA tp tl p) ∧ m 62 5 = nI (tN tp tl p) ∧ m 62 6 = ob (tG tp tl w p)
def TpC (m : am_M) : Prop := tl ≤ 96 ∧ m 62 1 = nI tl ∧ (∀ k, k < tl → m 63 k = nI (tp k)) ∧ ∀ k, k < tl → tp k < 256
end TK
theorem fm_13 (v : Nat) : 1 ≤ fm v ∧ fm v ≤ 3 := by
  unfold fm
  split
  · exact ⟨Nat.le_refl _, by decide⟩
  · split
    · exact ⟨by decide, by decide⟩
    · exact ⟨by decide, by decide⟩
theorem skp_b (tp : Nat → Nat) : ∀ r a, a ≤ skp tp r a ∧ skp tp r a ≤ a + r
  | 0, a => ⟨Nat.le_refl _, Nat.le_refl _⟩
  | r + 1, a => by
    unfold skp
    have h := skp_b tp r (a + 1)
    split
    · omega
    · omega
theorem rnn_b (tp : Nat → Nat) (f : Nat) : ∀ r a, a ≤ rnn tp f r a ∧ rnn tp f r a ≤ a + r
  | 0, a => ⟨Nat.le_refl _, Nat.le_refl _⟩
  | r + 1, a => by
    unfold rnn
    have h := rnn_b tp f r (a + 1)
    split
    · omega
    · omega
theorem rnn_k (tp : Nat → Nat) (f : Nat) : ∀ r a k, a ≤ k → k < rnn tp f r a → fm (tp k) = f
  | 0, a, k, h1, h2 => by
    have h3 : k < a := h2
    omega
  | r + 1, a, k, h1, h2 => by
    unfold rnn at h2
    by_cases e : fm (tp a) = f
    · rw [if_pos e] at h2
      by_cases ek : k = a
      · rw [ek]; exact e
      · exact rnn_k tp f r (a + 1) k (by omega) h2
    · rw [if_neg e] at h2
      omega
section TK
variable {tp : Nat → Nat} {tl : Nat}
theorem tA_b {p : Nat} (h : p ≤ tl) : p ≤ tA tp tl p ∧ tA tp tl p ≤ tl := by
  have h1 := skp_b tp (tl - p) p
  unfold tA
  omega
theorem tF_0 {p : Nat} (h : tl ≤ tA tp tl p) : tF tp tl p = 0 := if_pos h
theorem tF_n {p : Nat} (h : tA tp tl p < tl) : tF tp tl p = fm (tp (tA tp tl p)) := if_neg (by omega)
theorem tF_b (p : Nat) : tF tp tl p ≤ 3 := by
  unfold tF
  split
  · omega
  · exact (fm_13 _).2
theorem tF_lt {p : Nat} (h : tF tp tl p ≠ 0) : tA tp tl p < tl := by
  by_cases e : tl ≤ tA tp tl p
  · exact absurd (tF_0 e) h
  · omega
theorem tF_z {p : Nat} (h : tF tp tl p = 0) : tl ≤ tA tp tl p := by
  by_cases e : tl ≤ tA tp tl p
  · exact e
  · have h1 := tF_n (tp := tp) (tl := tl) (p := p) (by omega)
    have h2 := fm_13 (tp (tA tp tl p))
    omega
theorem tN_0 {p : Nat} (h : tl ≤ tA tp tl p) : tN tp tl p = tA tp tl p := if_pos h
theorem tN_3 {p : Nat} (h : tF tp tl p = 3) : tN tp tl p = tA tp tl p + 1 := by
  have h1 := tF_lt (tp := tp) (tl := tl) (p := p) (by omega)
  unfold tN
  rw [if_neg (by omega), if_pos (by rw [← tF_n h1]; exact h)]
theorem tN_w {p : Nat} (h : tA tp tl p < tl) (h3 : fm (tp (tA tp tl p)) ≠ 3) : tN tp tl p = rnn tp (fm (tp (tA tp tl p))) (tl - (tA tp tl p + 1)) (tA tp tl p + 1) := by
  unfold tN
  rw [if_neg (by omega), if_neg h3]
theorem tN_b {p : Nat} (h : tF tp tl p ≠ 0) : tA tp tl p < tN tp tl p ∧ tN tp tl p ≤ tl := by
  have h1 := tF_lt h
  by_cases e : fm (tp (tA tp tl p)) = 3
  · rw [tN_3 (by rw [tF_n h1]; exact e)]
    omega
  · rw [tN_w h1 e]
    have h2 := rnn_b tp (fm (tp (tA tp tl p))) (tl - (tA tp tl p + 1)) (tA tp tl p + 1)
    omega
theorem tN_k {p k : Nat} (h : tF tp tl p = 1 ∨ tF tp tl p = 2) (h1 : tA tp tl p ≤ k) (h2 : k < tN tp tl p) : fm (tp k) = tF tp tl p := by
  have h3 := tF_lt (tp := tp) (tl := tl) (p := p) (by omega)
  have h4 := tF_n h3
  rw [tN_w h3 (by omega)] at h2
  rw [h4]
  by_cases e : k = tA tp tl p
  · rw [e]
  · exact rnn_k tp _ _ _ k (by omega) h2
theorem tW_w {p : Nat} : tW tp tl p = true ↔ (tF tp tl p = 1 ∨ tF tp tl p = 2) := by unfold tW; exact decide_eq_true_iff
end TK
theorem c_X5_formOf {d n : Nat} {mem : am_M} {Q : am_P} (v : Nat) (hv : v < 256) (hQ : Q (some (.int (nI (fm v)))) (am_SK n) mem) : am_ex (d + 1) 26 [.int (nI v)] (am_SK n) mem Q := by
  refine ex_in (c0 := kc_X5_formOf) rfl (L := [some (.int (nI v))]) rfl ?_
  refine ev_iload rfl rfl ?_
  refine ev_iconst (x := nI 97) rfl rfl ?_
  refine ev_icmp_ltN (p2 := 14) rfl rfl (fun cnd3 => ?_) (fun cnd3 => ?_)
  · skip
    refine ev_iload rfl rfl ?_
    refine ev_iconst (x := nI 48) rfl rfl ?_
    refine ev_icmp_ltN (p2 := 30) rfl rfl (fun cnd17 => ?_) (fun cnd17 => ?_)
    · skip
      refine ev_iconst (x := nI 3) rfl rfl ?_
      refine ev_iret rfl ?_
      unfold fm at hQ
      first
      | (rw [if_pos (by omega)] at hQ; exact hQ)
      | (rw [if_neg (by omega), if_pos (by omega)] at hQ; exact hQ)
      | (rw [if_neg (by omega), if_neg (by omega)] at hQ; exact hQ)
    · skip
      refine ev_iload rfl rfl ?_
      refine ev_iconst (x := nI 57) rfl rfl ?_
      refine ev_icmp_gtN (p2 := 30) rfl rfl (fun cnd23 => ?_) (fun cnd23 => ?_)
      · skip
        refine ev_iconst (x := nI 3) rfl rfl ?_
        refine ev_iret rfl ?_
        unfold fm at hQ
        first
        | (rw [if_pos (by omega)] at hQ; exact hQ)
        | (rw [if_neg (by omega), if_pos (by omega)] at hQ; exact hQ)
        | (rw [if_neg (by omega), if_neg (by omega)] at hQ; exact hQ)
      · skip
        refine ev_iconst (x := nI 2) rfl rfl ?_
        refine ev_goto (p2 := 31) rfl rfl ?_
        refine ev_iret rfl ?_
        unfold fm at hQ
        first
        | (rw [if_pos (by omega)] at hQ; exact hQ)
        | (rw [if_neg (by omega), if_pos (by omega)] at hQ; exact hQ)
        | (rw [if_neg (by omega), if_neg (by omega)] at hQ; exact hQ)
  · skip
    refine ev_iload rfl rfl ?_
    refine ev_iconst (x := nI 122) rfl rfl ?_
    refine ev_icmp_gtN (p2 := 14) rfl rfl (fun cnd9 => ?_) (fun cnd9 => ?_)
    · skip
      refine ev_iload rfl rfl ?_
      refine ev_iconst (x := nI 48) rfl rfl ?_
      refine ev_icmp_ltN (p2 := 30) rfl rfl (fun cnd17 => ?_) (fun cnd17 => ?_)
      · skip
        refine ev_iconst (x := nI 3) rfl rfl ?_
        refine ev_iret rfl ?_
        unfold fm at hQ
        first
        | (rw [if_pos (by omega)] at hQ; exact hQ)
        | (rw [if_neg (by omega), if_pos (by omega)] at hQ; exact hQ)
        | (rw [if_neg (by omega), if_neg (by omega)] at hQ; exact hQ)
      · skip
        refine ev_iload rfl rfl ?_
        refine ev_iconst (x := nI 57) rfl rfl ?_
        refine ev_icmp_gtN (p2 := 30) rfl rfl (fun cnd23 => ?_) (fun cnd23 => ?_)
        · skip
          refine ev_iconst (x := nI 3) rfl rfl ?_
          refine ev_iret rfl ?_
          unfold fm at hQ
          first
          | (rw [if_pos (by omega)] at hQ; exact hQ)
          | (rw [if_neg (by omega), if_pos (by omega)] at hQ; exact hQ)
          | (rw [if_neg (by omega), if_neg (by omega)] at hQ; exact hQ)
        · skip
          refine ev_iconst (x := nI 2) rfl rfl ?_
          refine ev_goto (p2 := 31) rfl rfl ?_
          refine ev_iret rfl ?_
          unfold fm at hQ
          first
          | (rw [if_pos (by omega)] at hQ; exact hQ)
          | (rw [if_neg (by omega), if_pos (by omega)] at hQ; exact hQ)
          | (rw [if_neg (by omega), if_neg (by omega)] at hQ; exact hQ)
    · skip
      refine ev_iconst (x := nI 1) rfl rfl ?_
      refine ev_iret rfl ?_
      unfold fm at hQ
      first
      | (rw [if_pos (by omega)] at hQ; exact hQ)
      | (rw [if_neg (by omega), if_pos (by omega)] at hQ; exact hQ)
      | (rw [if_neg (by omega), if_neg (by omega)] at hQ; exact hQ)
theorem l_stp113 {d n : Nat} {tp : Nat → Nat} {tl : Nat} {mem0 : am_M} {Q : am_P} (h0 : TpC tp tl mem0) (w : Bool) (p : Nat) (hp : p ≤ tl) (hQ : ∀ m2 : am_M, (∀ q, q ≠ 62 → m2 q = mem0 q) → (∀ k, k ≤ 2 → m2 62 k = mem0 62 k) → CT tp tl w p m2 → Q none (am_SK n) m2) (ha : tA tp tl p < tl) (r : Nat) : ∀ (mem : am_M) (b : Nat) (hb : b + r = tl) (e1 : ∀ q, q ≠ 62 → mem q = mem0 q) (e2 : ∀ k, k ≤ 2 → mem 62 k = mem0 62 k) (c3 : mem 62 3 = nI (tF tp tl p)) (c4 : mem 62 4 = nI (tA tp tl p)) (c6 : mem 62 6 = ob (tG tp tl w p)) (x1 : Option Value) (hN : (if tF tp tl p = 3 then b else rnn tp (tF tp tl p) r b) = tN tp tl p), am_ev kc_X5_step (d + 1) 113 [some (.ref 62), x1, some (.int (nI b))] [] (am_SK n) mem Q := by
  induction r with
  | zero =>
    intro mem b hb e1 e2 c3 c4 c6 x1 hN
    have h3 : ∀ k, k < tl → mem 63 k = nI (tp k) := fun k hk => by rw [e1 63 (by decide)]; exact h0.2.2.1 k hk
    have h1 : mem 62 1 = nI tl := by rw [e2 1 (by decide)]; exact h0.2.1
    have h4 := h0.2.2.2
    have hl := h0.1
    have h5 := tF_b (tp := tp) (tl := tl) p
    have h6 := h0.2.2.2
    refine ev_iload rfl rfl ?_
    refine ev_aload rfl rfl ?_
    refine ev_getI (c := 5) (j := 1) rfl ?_ (hq := k_62 n)
    rw [h1]
    refine ev_icmp_geN (p2 := 151) rfl rfl (fun cnd118 => ?_) (fun cnd118 => ?_)
    · skip
      refine ev_aload rfl rfl ?_
      refine ev_iload rfl rfl ?_
      refine ev_put (c := 5) (j := 5) rfl ?_ (hq := k_62 n)
      refine ev_vret rfl ?_
      have hbN : b = tN tp tl p := by
        rw [← hN]
        first
        | (rw [if_pos (by omega)]; done)
        | (rw [if_neg (by omega)]; unfold rnn; rw [if_neg (by omega)]; done)
        | (unfold rnn; split <;> rfl)
      refine hQ _ (fun q hq => by rw [am_up_ne hq]; exact e1 q hq) (fun k hk => by rw [am_up_nk (by omega)]; exact e2 k hk) (And.intro ?_ (And.intro ?_ (And.intro ?_ ?_)))
      · rw [am_up_nk (by decide)]; exact c3
      · rw [am_up_nk (by decide)]; exact c4
      · rw [am_up_eq, hbN]
      · rw [am_up_nk (by decide)]; exact c6
    · omega
  | succ r ih =>
    intro mem b hb e1 e2 c3 c4 c6 x1 hN
    have h3 : ∀ k, k < tl → mem 63 k = nI (tp k) := fun k hk => by rw [e1 63 (by decide)]; exact h0.2.2.1 k hk
    have h1 : mem 62 1 = nI tl := by rw [e2 1 (by decide)]; exact h0.2.1
    have h4 := h0.2.2.2
    have hl := h0.1
    have h5 := tF_b (tp := tp) (tl := tl) p
    have h6 := h0.2.2.2
    refine ev_iload rfl rfl ?_
    refine ev_aload rfl rfl ?_
    refine ev_getI (c := 5) (j := 1) rfl ?_ (hq := k_62 n)
    rw [h1]
    refine ev_icmp_geN (p2 := 151) rfl rfl (fun cnd118 => ?_) (fun cnd118 => ?_)
    · omega
    · skip
      refine ev_aload rfl rfl ?_
      refine ev_getI (c := 5) (j := 3) rfl ?_ (hq := k_62 n)
      rw [c3]
      refine ev_iconst (x := nI 3) rfl rfl ?_
      refine ev_icmp_eqN (p2 := 151) rfl rfl (fun cnd126 => ?_) (fun cnd126 => ?_)
      · skip
        refine ev_aload rfl rfl ?_
        refine ev_iload rfl rfl ?_
        refine ev_put (c := 5) (j := 5) rfl ?_ (hq := k_62 n)
        refine ev_vret rfl ?_
        have hbN : b = tN tp tl p := by
          rw [← hN]
          first
          | (rw [if_pos (by omega)]; done)
          | (rw [if_neg (by omega)]; unfold rnn; rw [if_neg (by omega)]; done)
          | (unfold rnn; split <;> rfl)
        refine hQ _ (fun q hq => by rw [am_up_ne hq]; exact e1 q hq) (fun k hk => by rw [am_up_nk (by omega)]; exact e2 k hk) (And.intro ?_ (And.intro ?_ (And.intro ?_ ?_)))
        · rw [am_up_nk (by decide)]; exact c3
        · rw [am_up_nk (by decide)]; exact c4
        · rw [am_up_eq, hbN]
        · rw [am_up_nk (by decide)]; exact c6
      · skip
        refine ev_aload rfl rfl ?_
        refine ev_getR (c := 5) (j := 0) rfl ?_ (hq := k_62 n)
        refine ev_iload rfl rfl ?_
        refine ev_ialdN rfl rfl ?_ (hq := k_63 n)
        rw [h3 b (by omega)]
        refine ev_call rfl rfl ?_
        refine c_X5_formOf (tp b) (h4 _ (by omega)) ?_
        change am_ev _ _ _ _ [_] _ _ _
        refine ev_aload rfl rfl ?_
        refine ev_getI (c := 5) (j := 3) rfl ?_ (hq := k_62 n)
        rw [c3]
        have h7 := (fm_13 (tp b)).2
        refine ev_icmp_neN (p2 := 151) rfl rfl (fun cnd142 => ?_) (fun cnd142 => ?_)
        · skip
          refine ev_aload rfl rfl ?_
          refine ev_iload rfl rfl ?_
          refine ev_put (c := 5) (j := 5) rfl ?_ (hq := k_62 n)
          refine ev_vret rfl ?_
          have hbN : b = tN tp tl p := by
            rw [← hN]
            first
            | (rw [if_pos (by omega)]; done)
            | (rw [if_neg (by omega)]; unfold rnn; rw [if_neg (by omega)]; done)
            | (unfold rnn; split <;> rfl)
          refine hQ _ (fun q hq => by rw [am_up_ne hq]; exact e1 q hq) (fun k hk => by rw [am_up_nk (by omega)]; exact e2 k hk) (And.intro ?_ (And.intro ?_ (And.intro ?_ ?_)))
          · rw [am_up_nk (by decide)]; exact c3
          · rw [am_up_nk (by decide)]; exact c4
          · rw [am_up_eq, hbN]
          · rw [am_up_nk (by decide)]; exact c6
        · skip
          refine ev_iincN rfl rfl rfl ?_
          refine ev_goto (p2 := 113) rfl rfl ?_
          refine ih mem (b + 1) (by omega) e1 e2 c3 c4 c6 _ ?_
          rw [← hN, if_neg (by omega), if_neg (by omega)]
          conv => rhs; unfold rnn
          rw [if_pos (by omega)]
theorem l_stp70 {d n : Nat} {tp : Nat → Nat} {tl : Nat} {mem0 : am_M} {Q : am_P} (h0 : TpC tp tl mem0) (w : Bool) (p : Nat) (hp : p ≤ tl) (hQ : ∀ m2 : am_M, (∀ q, q ≠ 62 → m2 q = mem0 q) → (∀ k, k ≤ 2 → m2 62 k = mem0 62 k) → CT tp tl w p m2 → Q none (am_SK n) m2) {mem : am_M} (e1 : ∀ q, q ≠ 62 → mem q = mem0 q) (e2 : ∀ k, k ≤ 2 → mem 62 k = mem0 62 k) (a : Nat) (ha : a = tA tp tl p) (x : Int32) (hx : x = ob (tG tp tl w p)) (x1 : Option Value) : am_ev kc_X5_step (d + 1) 70 [some (.ref 62), x1, some (.int (nI a))] [.int x, .ref 62] (am_SK n) mem Q := by
  have h3 : ∀ k, k < tl → mem 63 k = nI (tp k) := fun k hk => by rw [e1 63 (by decide)]; exact h0.2.2.1 k hk
  have h1 : mem 62 1 = nI tl := by rw [e2 1 (by decide)]; exact h0.2.1
  have h4 := h0.2.2.2
  have hl := h0.1
  have hab := tA_b (tp := tp) hp
  refine ev_putBS (c := 5) (j := 6) rfl (fun ma hma => ?_) (by rw [hx]; exact ob01 _) (hq := k_62 n)
  refine ev_aload rfl rfl ?_
  refine ev_iload rfl rfl ?_
  refine ev_putS (c := 5) (j := 4) rfl (fun mb hmb => ?_) (hq := k_62 n)
  have g1 : mb 62 1 = nI tl := by rw [hmb, am_up_nk (by decide), hma, am_up_nk (by decide)]; exact h1
  have g3 : ∀ k, k < tl → mb 63 k = nI (tp k) := fun k hk => by rw [hmb, am_up_ne (by decide), hma, am_up_ne (by decide)]; exact h3 k hk
  refine ev_iload rfl rfl ?_
  refine ev_aload rfl rfl ?_
  refine ev_getI (c := 5) (j := 1) rfl ?_ (hq := k_62 n)
  rw [g1]
  refine ev_icmp_ltN (p2 := 97) rfl rfl (fun cnd83 => ?_) (fun cnd83 => ?_)
  · skip
    refine ev_aload rfl rfl ?_
    refine ev_aload rfl rfl ?_
    refine ev_getR (c := 5) (j := 0) rfl ?_ (hq := k_62 n)
    refine ev_iload rfl rfl ?_
    refine ev_ialdN rfl rfl ?_ (hq := k_63 n)
    rw [g3 a (by omega)]
    refine ev_call rfl rfl ?_
    refine c_X5_formOf (tp a) (h4 _ (by omega)) ?_
    change am_ev _ _ _ _ [_, _] _ _ _
    refine ev_putS (c := 5) (j := 3) rfl (fun mc hmc => ?_) (hq := k_62 n)
    refine ev_iincN rfl rfl rfl ?_
    refine l_stp113 h0 w p hp hQ (by omega) (tl - (a + 1)) mc (a + 1) (by omega) (fun q hq => by rw [hmc, am_up_ne hq, hmb, am_up_ne hq, hma, am_up_ne hq]; exact e1 q hq) (fun k hk => by rw [hmc, am_up_nk (by omega), hmb, am_up_nk (by omega), hma, am_up_nk (by omega)]; exact e2 k hk) ?_ ?_ ?_ _ ?_
    · rw [hmc, am_up_eq, tF_n (by omega), ← ha]
    · rw [hmc, am_up_nk (by decide), hmb, am_up_eq, ha]
    · rw [hmc, am_up_nk (by decide), hmb, am_up_nk (by decide), hma, am_up_eq, hx]
    · have hF := tF_n (tp := tp) (tl := tl) (p := p) (by omega)
      by_cases e3 : tF tp tl p = 3
      · rw [if_pos e3, tN_3 e3, ha]
      · rw [if_neg e3, tN_w (by omega) (by omega), ← hF, ← ha]
  · skip
    refine ev_aload rfl rfl ?_
    refine ev_iconst (x := nI 0) rfl rfl ?_
    refine ev_putS (c := 5) (j := 3) rfl (fun mc hmc => ?_) (hq := k_62 n)
    refine ev_aload rfl rfl ?_
    refine ev_iload rfl rfl ?_
    refine ev_putS (c := 5) (j := 5) rfl (fun md hmd => ?_) (hq := k_62 n)
    refine ev_vret rfl ?_
    refine hQ _ (fun q hq => by rw [hmd, am_up_ne hq, hmc, am_up_ne hq, hmb, am_up_ne hq, hma, am_up_ne hq]; exact e1 q hq) (fun k hk => by rw [hmd, am_up_nk (by omega), hmc, am_up_nk (by omega), hmb, am_up_nk (by omega), hma, am_up_nk (by omega)]; exact e2 k hk) (And.intro ?_ (And.intro ?_ (And.intro ?_ ?_)))
    · rw [hmd, am_up_nk (by decide), hmc, am_up_eq, tF_0 (by omega)]
    · rw [hmd, am_up_nk (by decide), hmc, am_up_nk (by decide), hmb, am_up_eq, ha]
    · rw [hmd, am_up_eq, tN_0 (by omega), ha]
    · rw [hmd, am_up_nk (by decide), hmc, am_up_nk (by decide), hmb, am_up_nk (by decide), hma, am_up_eq, hx]
theorem l_stp52 {d n : Nat} {tp : Nat → Nat} {tl : Nat} {mem0 : am_M} {Q : am_P} (h0 : TpC tp tl mem0) (w : Bool) (p : Nat) (hp : p ≤ tl) (hQ : ∀ m2 : am_M, (∀ q, q ≠ 62 → m2 q = mem0 q) → (∀ k, k ≤ 2 → m2 62 k = mem0 62 k) → CT tp tl w p m2 → Q none (am_SK n) m2) {mem : am_M} (e1 : ∀ q, q ≠ 62 → mem q = mem0 q) (e2 : ∀ k, k ≤ 2 → mem 62 k = mem0 62 k) (c5 : mem 62 5 = nI p) (a : Nat) (ha : a = tA tp tl p) : am_ev kc_X5_step (d + 1) 52 [some (.ref 62), some (.int (ob w)), some (.int (nI a))] [] (am_SK n) mem Q := by
  have h3 : ∀ k, k < tl → mem 63 k = nI (tp k) := fun k hk => by rw [e1 63 (by decide)]; exact h0.2.2.1 k hk
  have h1 : mem 62 1 = nI tl := by rw [e2 1 (by decide)]; exact h0.2.1
  have h4 := h0.2.2.2
  have hl := h0.1
  have hab := tA_b (tp := tp) hp
  refine ev_aload rfl rfl ?_
  refine ev_iload rfl rfl ?_
  refine ev_if_eqO (p2 := 69) rfl rfl (fun cnd54 => ?_) (fun cnd54 => ?_)
  · skip
    refine ev_iconst (x := nI 0) rfl rfl ?_
    refine l_stp70 h0 w p hp hQ e1 e2 a ha _ ?_ _
    unfold tG
    first
    | (rw [show w = false from cnd54]; rfl)
    | (rw [show w = true from cnd54, ← ha, show decide (a = p) = true from decide_eq_true cnd62]; rfl)
    | (rw [show w = true from cnd54, ← ha, show decide (a = p) = false from decide_eq_false cnd62]; rfl)
  · skip
    refine ev_iload rfl rfl ?_
    refine ev_aload rfl rfl ?_
    refine ev_getI (c := 5) (j := 5) rfl ?_ (hq := k_62 n)
    rw [c5]
    refine ev_icmp_neN (p2 := 69) rfl rfl (fun cnd62 => ?_) (fun cnd62 => ?_)
    · skip
      refine ev_iconst (x := nI 0) rfl rfl ?_
      refine l_stp70 h0 w p hp hQ e1 e2 a ha _ ?_ _
      unfold tG
      first
      | (rw [show w = false from cnd54]; rfl)
      | (rw [show w = true from cnd54, ← ha, show decide (a = p) = true from decide_eq_true cnd62]; rfl)
      | (rw [show w = true from cnd54, ← ha, show decide (a = p) = false from decide_eq_false cnd62]; rfl)
    · skip
      refine ev_iconst (x := nI 1) rfl rfl ?_
      refine ev_goto (p2 := 70) rfl rfl ?_
      refine l_stp70 h0 w p hp hQ e1 e2 a ha _ ?_ _
      unfold tG
      first
      | (rw [show w = false from cnd54]; rfl)
      | (rw [show w = true from cnd54, ← ha, show decide (a = p) = true from decide_eq_true cnd62]; rfl)
      | (rw [show w = true from cnd54, ← ha, show decide (a = p) = false from decide_eq_false cnd62]; rfl)
theorem l_stp27 {d n : Nat} {tp : Nat → Nat} {tl : Nat} {mem0 : am_M} {Q : am_P} (h0 : TpC tp tl mem0) (w : Bool) (p : Nat) (hp : p ≤ tl) (hQ : ∀ m2 : am_M, (∀ q, q ≠ 62 → m2 q = mem0 q) → (∀ k, k ≤ 2 → m2 62 k = mem0 62 k) → CT tp tl w p m2 → Q none (am_SK n) m2) (r : Nat) : ∀ (mem : am_M) (a : Nat) (hb : a + r = tl) (e1 : ∀ q, q ≠ 62 → mem q = mem0 q) (e2 : ∀ k, k ≤ 2 → mem 62 k = mem0 62 k) (c5 : mem 62 5 = nI p) (hN : skp tp r a = tA tp tl p), am_ev kc_X5_step (d + 1) 27 [some (.ref 62), some (.int (ob w)), some (.int (nI a))] [] (am_SK n) mem Q := by
  induction r with
  | zero =>
    intro mem a hb e1 e2 c5 hN
    have h3 : ∀ k, k < tl → mem 63 k = nI (tp k) := fun k hk => by rw [e1 63 (by decide)]; exact h0.2.2.1 k hk
    have h1 : mem 62 1 = nI tl := by rw [e2 1 (by decide)]; exact h0.2.1
    have h4 := h0.2.2.2
    have hl := h0.1
    refine ev_iload rfl rfl ?_
    refine ev_aload rfl rfl ?_
    refine ev_getI (c := 5) (j := 1) rfl ?_ (hq := k_62 n)
    rw [h1]
    refine ev_icmp_geN (p2 := 52) rfl rfl (fun cnd32 => ?_) (fun cnd32 => ?_)
    · skip
      exact l_stp52 h0 w p hp hQ e1 e2 c5 a hN
    · omega
  | succ r ih =>
    intro mem a hb e1 e2 c5 hN
    have h3 : ∀ k, k < tl → mem 63 k = nI (tp k) := fun k hk => by rw [e1 63 (by decide)]; exact h0.2.2.1 k hk
    have h1 : mem 62 1 = nI tl := by rw [e2 1 (by decide)]; exact h0.2.1
    have h4 := h0.2.2.2
    have hl := h0.1
    refine ev_iload rfl rfl ?_
    refine ev_aload rfl rfl ?_
    refine ev_getI (c := 5) (j := 1) rfl ?_ (hq := k_62 n)
    rw [h1]
    refine ev_icmp_geN (p2 := 52) rfl rfl (fun cnd32 => ?_) (fun cnd32 => ?_)
    · omega
    · skip
      refine ev_aload rfl rfl ?_
      refine ev_getR (c := 5) (j := 0) rfl ?_ (hq := k_62 n)
      refine ev_iload rfl rfl ?_
      refine ev_ialdN rfl rfl ?_ (hq := k_63 n)
      rw [h3 a (by omega)]
      refine ev_iconst (x := nI 32) rfl rfl ?_
      have h7 := h4 a (by omega)
      refine ev_icmp_neN (p2 := 52) rfl rfl (fun cnd43 => ?_) (fun cnd43 => ?_)
      · skip
        exact l_stp52 h0 w p hp hQ e1 e2 c5 a (by rw [← hN]; unfold skp; rw [if_neg cnd43])
      · skip
        refine ev_iincN rfl rfl rfl ?_
        refine ev_goto (p2 := 27) rfl rfl ?_
        refine ih mem (a + 1) (by omega) e1 e2 c5 ?_
        rw [← hN]
        conv => rhs; unfold skp
        rw [if_pos cnd43]
theorem c_X5_step {d n : Nat} {tp : Nat → Nat} {tl : Nat} {mem : am_M} {Q : am_P} (h0 : TpC tp tl mem) (f p : Nat) (hf : f ≤ 3) (hp : p ≤ tl) (c3 : mem 62 3 = nI f) (c5 : mem 62 5 = nI p) (hQ : ∀ m2 : am_M, (∀ q, q ≠ 62 → m2 q = mem q) → (∀ k, k ≤ 2 → m2 62 k = mem 62 k) → CT tp tl (decide (f = 1 ∨ f = 2)) p m2 → Q none (am_SK n) m2) : am_ex (d + 2) 25 [.ref 62] (am_SK n) mem Q := by
  refine ex_in (c0 := kc_X5_step) rfl (L := [some (.ref 62), none, none]) rfl ?_
  have hl := h0.1
  refine ev_aload rfl rfl ?_
  refine ev_getI (c := 5) (j := 3) rfl ?_ (hq := k_62 n)
  rw [c3]
  refine ev_iconst (x := nI 1) rfl rfl ?_
  refine ev_icmp_eqN (p2 := 16) rfl rfl (fun cnd5 => ?_) (fun cnd5 => ?_)
  · skip
    refine ev_iconst (x := nI 1) rfl rfl ?_
    refine ev_goto (p2 := 21) rfl rfl ?_
    refine ev_istore rfl rfl (Nat.le_of_ble_eq_true rfl) ?_
    refine ev_aload rfl rfl ?_
    refine ev_getI (c := 5) (j := 5) rfl ?_ (hq := k_62 n)
    rw [c5]
    refine ev_istore rfl rfl (Nat.le_of_ble_eq_true rfl) ?_
    first
    | (rw [show decide (f = 1 ∨ f = 2) = true from decide_eq_true (by omega)] at hQ; exact l_stp27 h0 true p hp hQ (tl - p) mem p (by omega) (fun _ _ => rfl) (fun _ _ => rfl) c5 rfl)
    | (rw [show decide (f = 1 ∨ f = 2) = false from decide_eq_false (by omega)] at hQ; exact l_stp27 h0 false p hp hQ (tl - p) mem p (by omega) (fun _ _ => rfl) (fun _ _ => rfl) c5 rfl)
  · skip
    refine ev_aload rfl rfl ?_
    refine ev_getI (c := 5) (j := 3) rfl ?_ (hq := k_62 n)
    rw [c3]
    refine ev_iconst (x := nI 2) rfl rfl ?_
    refine ev_icmp_neN (p2 := 20) rfl rfl (fun cnd13 => ?_) (fun cnd13 => ?_)
    · skip
      refine ev_iconst (x := nI 0) rfl rfl ?_
      refine ev_istore rfl rfl (Nat.le_of_ble_eq_true rfl) ?_
      refine ev_aload rfl rfl ?_
      refine ev_getI (c := 5) (j := 5) rfl ?_ (hq := k_62 n)
      rw [c5]
      refine ev_istore rfl rfl (Nat.le_of_ble_eq_true rfl) ?_
      first
      | (rw [show decide (f = 1 ∨ f = 2) = true from decide_eq_true (by omega)] at hQ; exact l_stp27 h0 true p hp hQ (tl - p) mem p (by omega) (fun _ _ => rfl) (fun _ _ => rfl) c5 rfl)
      | (rw [show decide (f = 1 ∨ f = 2) = false from decide_eq_false (by omega)] at hQ; exact l_stp27 h0 false p hp hQ (tl - p) mem p (by omega) (fun _ _ => rfl) (fun _ _ => rfl) c5 rfl)
    · skip
      refine ev_iconst (x := nI 1) rfl rfl ?_
      refine ev_goto (p2 := 21) rfl rfl ?_
      refine ev_istore rfl rfl (Nat.le_of_ble_eq_true rfl) ?_
      refine ev_aload rfl rfl ?_
      refine ev_getI (c := 5) (j := 5) rfl ?_ (hq := k_62 n)
      rw [c5]
      refine ev_istore rfl rfl (Nat.le_of_ble_eq_true rfl) ?_
      first
      | (rw [show decide (f = 1 ∨ f = 2) = true from decide_eq_true (by omega)] at hQ; exact l_stp27 h0 true p hp hQ (tl - p) mem p (by omega) (fun _ _ => rfl) (fun _ _ => rfl) c5 rfl)
      | (rw [show decide (f = 1 ∨ f = 2) = false from decide_eq_false (by omega)] at hQ; exact l_stp27 h0 false p hp hQ (tl - p) mem p (by omega) (fun _ _ => rfl) (fun _ _ => rfl) c5 rfl)
