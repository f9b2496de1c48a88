/-! texts: the reference goes on by a word -/
def nv (tp : Nat → Nat) (a : Nat) : Nat → Nat
  | 0 => 0
  | m + 1 => 10 * nv tp a m + tp (a + m) - 48
def EN (w : Bool) (p : Nat) (m : am_M) : Prop := (w = true → m 221 11 = nI p) ∧ (w = false → m 221 11 = -1 ∨ ∃ e, e < p ∧ m 221 11 = nI e)
def FrX (B m : am_M) : Prop := (∀ q, q ≠ 221 → m q = B q) ∧ ∀ k, ¬ (7 ≤ k ∧ k ≤ 11) → m 221 k = B 221 k
section TK
variable (tp : Nat → Nat) (tl : Nat)
def TpR (m : am_M) : Prop := tl ≤ 96 ∧ m 221 6 = nI tl ∧ (∀ k, k < tl → m 226 k = nI (tp k)) ∧ ∀ k, k < tl → tp k < 256
def tT (w : Bool) (p : Nat) : Nat := if tF tp tl p = 0 then 0 else if tF tp tl p = 1 then (if tG tp tl w p = true then 4 else 1) else if tF tp tl p = 2 then (if tG tp tl w p = true ∨ 4 < tN tp tl p - tA tp tl p then 4 else 2) else 3
def RT (w : Bool) (p : Nat) (m : am_M) : Prop := m 221 7 = nI (tN tp tl p) ∧ m 221 8 = nI (tA tp tl p) ∧ m 221 9 = nI (tT tp tl w p) ∧ (tF tp tl p = 1 ∨ tF tp tl p = 3 → m 221 10 = nI (tp (tA tp tl p))) ∧ (tF tp tl p = 2 → tN tp tl p - tA tp tl p ≤ 4 → m 221 10 = nI (nv tp (tA tp tl p) (tN tp tl p - tA tp tl p))) ∧ (tF tp tl p ≠ 0 → EN (tW tp tl p) (tN tp tl p) m)
end TK
theorem TpR_G {tp : Nat → Nat} {tl : Nat} {B m : am_M} (h : TpR tp tl B) (f : FrX B m) : TpR tp tl m := ⟨h.1, by rw [f.2 6 (by decide)]; exact h.2.1, fun k hk => by rw [f.1 226 (by decide)]; exact h.2.2.1 k hk, h.2.2.2⟩
theorem FrX_up {B m : am_M} {k : Nat} {x : Int32} (f : FrX B m) (hk : 7 ≤ k ∧ k ≤ 11) : FrX B (am_up m 221 k x) := ⟨fun q hq => by rw [am_up_ne hq]; exact f.1 q hq, fun j hj => by rw [am_up_nk (by omega)]; exact f.2 j hj⟩
theorem FrX_r (B : am_M) : FrX B B := ⟨fun _ _ => rfl, fun _ _ => rfl⟩
theorem fm_1 {v : Nat} (h : 97 ≤ v ∧ v ≤ 122) : fm v = 1 := if_pos h
theorem fm_2 {v : Nat} (h : 48 ≤ v ∧ v ≤ 57) : fm v = 2 := by unfold fm; rw [if_neg (by omega), if_pos h]
theorem fm_1i {v : Nat} (h : fm v = 1) : 97 ≤ v ∧ v ≤ 122 := by
  by_cases e : 97 ≤ v ∧ v ≤ 122
  · exact e
  · unfold fm at h; rw [if_neg e] at h; split at h <;> omega
theorem fm_2i {v : Nat} (h : fm v = 2) : 48 ≤ v ∧ v ≤ 57 := by
  by_cases e : 97 ≤ v ∧ v ≤ 122
  · rw [fm_1 e] at h; omega
  · by_cases e2 : 48 ≤ v ∧ v ≤ 57
    · exact e2
    · unfold fm at h; rw [if_neg e, if_neg e2] at h; omega
theorem en_close {tp : Nat → Nat} {tl p : Nat} {w : Bool} {m : am_M} (h : EN w p m) (hp : p ≤ tl) (hl : tl ≤ 96) : nI (tA tp tl p) = m 221 11 ↔ tG tp tl w p = true := by
  have hb := tA_b (tp := tp) hp
  unfold tG
  cases w with
  | true =>
    rw [h.1 rfl, Bool.true_and, decide_eq_true_iff]
    exact nI_eq (by omega) (by omega)
  | false =>
    rw [Bool.false_and]
    refine ⟨fun z => ?_, fun z => absurd z (by decide)⟩
    rcases h.2 rfl with e | ⟨e, he, e2⟩
    · rw [e] at z
      exact absurd (show nI (tA tp tl p) < 0 by rw [z]; decide) (nI_pos (by omega))
    · rw [e2] at z
      have := (nI_eq (by omega) (by omega)).mp z
      omega
theorem en_skip {tp : Nat → Nat} {tl p q : Nat} {w : Bool} {m : am_M} (h : EN w p m) (hq : p < q) : EN false q m := by
  refine ⟨fun z => absurd z (by decide), fun _ => ?_⟩
  cases w with
  | true => exact Or.inr ⟨p, hq, h.1 rfl⟩
  | false =>
    rcases h.2 rfl with e | ⟨e, he, e2⟩
    · exact Or.inl e
    · exact Or.inr ⟨e, by omega, e2⟩
theorem c_X12_isLetter {d n : Nat} {mem : am_M} {Q : am_P} {tp : Nat → Nat} {tl : Nat} (h0 : TpR tp tl mem) (k : Nat) (hk : k ≤ 96) (hQ : Q (some (.int (am_b (k < tl ∧ fm (tp k) = 1)))) (am_SK n) mem) : am_ex (d + 1) 185 [.ref 221, .int (nI k)] (am_SK n) mem Q := by
  have hl := h0.1
  refine ex_in (c0 := kc_X12_isLetter) rfl (L := [some (.ref 221), some (.int (nI k))]) rfl ?_
  refine ev_iload rfl rfl ?_
  refine ev_aload rfl rfl ?_
  refine ev_getI (c := 12) (j := 6) rfl ?_ (hq := k_221 n)
  rw [h0.2.1]
  refine ev_icmp_geN (p2 := 34) rfl rfl (fun cnd5 => ?_) (fun cnd5 => ?_)
  · skip
    refine ev_iconst (x := nI 0) rfl rfl ?_
    refine ev_zret rfl ?_
    first
    | (rw [show am_b (k < tl ∧ fm (tp k) = 1) = nI 0 from if_neg (by omega)] at hQ; exact hQ)
    | (rw [show am_b (k < tl ∧ fm (tp k) = 1) = nI 1 from if_pos (And.intro (by omega) (fm_1 (by omega)))] at hQ; exact hQ)
    | (rw [show am_b (k < tl ∧ fm (tp k) = 1) = nI 0 from if_neg (fun z => by have zz := fm_1i z.2; omega)] at hQ; exact hQ)
  · skip
    refine ev_aload rfl rfl ?_
    refine ev_getR (c := 12) (j := 5) rfl ?_ (hq := k_221 n)
    refine ev_iload rfl rfl ?_
    refine ev_ialdN rfl rfl ?_ (hq := k_226 n)
    rw [h0.2.2.1 k (by omega)]
    have h4 := h0.2.2.2 k (by omega)
    refine ev_iconst (x := nI 97) rfl rfl ?_
    refine ev_icmp_ltN (p2 := 34) rfl rfl (fun cnd16 => ?_) (fun cnd16 => ?_)
    · skip
      refine ev_iconst (x := nI 0) rfl rfl ?_
      refine ev_zret rfl ?_
      first
      | (rw [show am_b (k < tl ∧ fm (tp k) = 1) = nI 0 from if_neg (by omega)] at hQ; exact hQ)
      | (rw [show am_b (k < tl ∧ fm (tp k) = 1) = nI 1 from if_pos (And.intro (by omega) (fm_1 (by omega)))] at hQ; exact hQ)
      | (rw [show am_b (k < tl ∧ fm (tp k) = 1) = nI 0 from if_neg (fun z => by have zz := fm_1i z.2; omega)] at hQ; exact hQ)
    · skip
      refine ev_aload rfl rfl ?_
      refine ev_getR (c := 12) (j := 5) rfl ?_ (hq := k_221 n)
      refine ev_iload rfl rfl ?_
      refine ev_ialdN rfl rfl ?_ (hq := k_226 n)
      rw [h0.2.2.1 k (by omega)]
      refine ev_iconst (x := nI 122) rfl rfl ?_
      refine ev_icmp_gtN (p2 := 34) rfl rfl (fun cnd27 => ?_) (fun cnd27 => ?_)
      · skip
        refine ev_iconst (x := nI 0) rfl rfl ?_
        refine ev_zret rfl ?_
        first
        | (rw [show am_b (k < tl ∧ fm (tp k) = 1) = nI 0 from if_neg (by omega)] at hQ; exact hQ)
        | (rw [show am_b (k < tl ∧ fm (tp k) = 1) = nI 1 from if_pos (And.intro (by omega) (fm_1 (by omega)))] at hQ; exact hQ)
        | (rw [show am_b (k < tl ∧ fm (tp k) = 1) = nI 0 from if_neg (fun z => by have zz := fm_1i z.2; omega)] at hQ; exact hQ)
      · skip
        refine ev_iconst (x := nI 1) rfl rfl ?_
        refine ev_goto (p2 := 35) rfl rfl ?_
        refine ev_zret rfl ?_
        first
        | (rw [show am_b (k < tl ∧ fm (tp k) = 1) = nI 0 from if_neg (by omega)] at hQ; exact hQ)
        | (rw [show am_b (k < tl ∧ fm (tp k) = 1) = nI 1 from if_pos (And.intro (by omega) (fm_1 (by omega)))] at hQ; exact hQ)
        | (rw [show am_b (k < tl ∧ fm (tp k) = 1) = nI 0 from if_neg (fun z => by have zz := fm_1i z.2; omega)] at hQ; exact hQ)
theorem c_X12_isFigure {d n : Nat} {mem : am_M} {Q : am_P} {tp : Nat → Nat} {tl : Nat} (h0 : TpR tp tl mem) (k : Nat) (hk : k ≤ 96) (hQ : Q (some (.int (am_b (k < tl ∧ fm (tp k) = 2)))) (am_SK n) mem) : am_ex (d + 1) 186 [.ref 221, .int (nI k)] (am_SK n) mem Q := by
  have hl := h0.1
  refine ex_in (c0 := kc_X12_isFigure) rfl (L := [some (.ref 221), some (.int (nI k))]) rfl ?_
  refine ev_iload rfl rfl ?_
  refine ev_aload rfl rfl ?_
  refine ev_getI (c := 12) (j := 6) rfl ?_ (hq := k_221 n)
  rw [h0.2.1]
  refine ev_icmp_geN (p2 := 34) rfl rfl (fun cnd5 => ?_) (fun cnd5 => ?_)
  · skip
    refine ev_iconst (x := nI 0) rfl rfl ?_
    refine ev_zret rfl ?_
    first
    | (rw [show am_b (k < tl ∧ fm (tp k) = 2) = nI 0 from if_neg (by omega)] at hQ; exact hQ)
    | (rw [show am_b (k < tl ∧ fm (tp k) = 2) = nI 1 from if_pos (And.intro (by omega) (fm_2 (by omega)))] at hQ; exact hQ)
    | (rw [show am_b (k < tl ∧ fm (tp k) = 2) = nI 0 from if_neg (fun z => by have zz := fm_2i z.2; omega)] at hQ; exact hQ)
  · skip
    refine ev_aload rfl rfl ?_
    refine ev_getR (c := 12) (j := 5) rfl ?_ (hq := k_221 n)
    refine ev_iload rfl rfl ?_
    refine ev_ialdN rfl rfl ?_ (hq := k_226 n)
    rw [h0.2.2.1 k (by omega)]
    have h4 := h0.2.2.2 k (by omega)
    refine ev_iconst (x := nI 48) rfl rfl ?_
    refine ev_icmp_ltN (p2 := 34) rfl rfl (fun cnd16 => ?_) (fun cnd16 => ?_)
    · skip
      refine ev_iconst (x := nI 0) rfl rfl ?_
      refine ev_zret rfl ?_
      first
      | (rw [show am_b (k < tl ∧ fm (tp k) = 2) = nI 0 from if_neg (by omega)] at hQ; exact hQ)
      | (rw [show am_b (k < tl ∧ fm (tp k) = 2) = nI 1 from if_pos (And.intro (by omega) (fm_2 (by omega)))] at hQ; exact hQ)
      | (rw [show am_b (k < tl ∧ fm (tp k) = 2) = nI 0 from if_neg (fun z => by have zz := fm_2i z.2; omega)] at hQ; exact hQ)
    · skip
      refine ev_aload rfl rfl ?_
      refine ev_getR (c := 12) (j := 5) rfl ?_ (hq := k_221 n)
      refine ev_iload rfl rfl ?_
      refine ev_ialdN rfl rfl ?_ (hq := k_226 n)
      rw [h0.2.2.1 k (by omega)]
      refine ev_iconst (x := nI 57) rfl rfl ?_
      refine ev_icmp_gtN (p2 := 34) rfl rfl (fun cnd27 => ?_) (fun cnd27 => ?_)
      · skip
        refine ev_iconst (x := nI 0) rfl rfl ?_
        refine ev_zret rfl ?_
        first
        | (rw [show am_b (k < tl ∧ fm (tp k) = 2) = nI 0 from if_neg (by omega)] at hQ; exact hQ)
        | (rw [show am_b (k < tl ∧ fm (tp k) = 2) = nI 1 from if_pos (And.intro (by omega) (fm_2 (by omega)))] at hQ; exact hQ)
        | (rw [show am_b (k < tl ∧ fm (tp k) = 2) = nI 0 from if_neg (fun z => by have zz := fm_2i z.2; omega)] at hQ; exact hQ)
      · skip
        refine ev_iconst (x := nI 1) rfl rfl ?_
        refine ev_goto (p2 := 35) rfl rfl ?_
        refine ev_zret rfl ?_
        first
        | (rw [show am_b (k < tl ∧ fm (tp k) = 2) = nI 0 from if_neg (by omega)] at hQ; exact hQ)
        | (rw [show am_b (k < tl ∧ fm (tp k) = 2) = nI 1 from if_pos (And.intro (by omega) (fm_2 (by omega)))] at hQ; exact hQ)
        | (rw [show am_b (k < tl ∧ fm (tp k) = 2) = nI 0 from if_neg (fun z => by have zz := fm_2i z.2; omega)] at hQ; exact hQ)
theorem l_go93 {d n : Nat} {tp : Nat → Nat} {tl : Nat} {mem0 : am_M} {Q : am_P} (h0 : TpR tp tl mem0) (w : Bool) (p : Nat) (hp : p ≤ tl) (hE : EN w p mem0) (hQ : ∀ m2 : am_M, FrX mem0 m2 → RT tp tl w p m2 → Q none (am_SK n) m2) (hF : tF tp tl p = 1) (r : Nat) : ∀ (mem : am_M) (b : Nat) (hb : b + r = tl) (hf : FrX mem0 mem) (c7 : mem 221 7 = nI b) (c8 : mem 221 8 = nI (tA tp tl p)) (hab1 : tA tp tl p ≤ b) (hN : rnn tp 1 r b = tN tp tl p), am_ev kc_X12_go (d + 1) 93 [some (.ref 221), some (.int (ob (tG tp tl w p)))] [] (am_SK n) mem Q := by
  induction r with
  | zero =>
    intro mem b hb hf c7 c8 hab1 hN
    have hl := h0.1
    have ht := TpR_G h0 hf
    have hab := tA_b (tp := tp) hp
    have hlt := tF_lt (tp := tp) (tl := tl) (p := p) (by omega)
    refine ev_aload rfl rfl ?_
    refine ev_aload rfl rfl ?_
    refine ev_getI (c := 12) (j := 7) rfl ?_ (hq := k_221 n)
    rw [c7]
    refine ev_call rfl rfl ?_
    refine c_X12_isLetter ht (b) (by omega) ?_
    change am_ev _ _ _ _ [_] _ _ _
    refine ev_if_eqB (p2 := 117) rfl rfl (fun cnd101 => ?_) (fun cnd101 => ?_)
    · skip
      have hbN : b = tN tp tl p := by
        rw [← hN]
        first
        | rfl
        | (unfold rnn; rw [if_neg (fun z => cnd101 (And.intro (by omega) z))])
      refine ev_aload rfl rfl ?_
      refine ev_iload rfl rfl ?_
      refine ev_if_eqO (p2 := 126) rfl rfl (fun cnd119 => ?_) (fun cnd119 => ?_)
      · skip
        refine ev_iconst (x := nI 1) rfl rfl ?_
        refine ev_putS (c := 12) (j := 9) rfl (fun ma hma => ?_) (hq := k_221 n)
        have d8 : ma 221 8 = nI (tA tp tl p) := by rw [hma, am_up_nk (by decide)]; exact c8
        have d3 : ∀ k, k < tl → ma 226 k = nI (tp k) := fun k hk => by rw [hma, am_up_ne (by decide)]; exact ht.2.2.1 k hk
        refine ev_aload rfl rfl ?_
        refine ev_aload rfl rfl ?_
        refine ev_getR (c := 12) (j := 5) rfl ?_ (hq := k_221 n)
        refine ev_aload rfl rfl ?_
        refine ev_getI (c := 12) (j := 8) rfl ?_ (hq := k_221 n)
        rw [d8]
        refine ev_ialdN rfl rfl ?_ (hq := k_226 n)
        rw [d3 _ (by omega)]
        refine ev_putS (c := 12) (j := 10) rfl (fun mb hmb => ?_) (hq := k_221 n)
        have d7 : mb 221 7 = nI b := by rw [hmb, am_up_nk (by decide), hma, am_up_nk (by decide)]; exact c7
        refine ev_aload rfl rfl ?_
        refine ev_aload rfl rfl ?_
        refine ev_getI (c := 12) (j := 7) rfl ?_ (hq := k_221 n)
        rw [d7]
        refine ev_putS (c := 12) (j := 11) rfl (fun mc hmc => ?_) (hq := k_221 n)
        refine ev_goto (p2 := 303) rfl rfl ?_
        refine ev_vret rfl ?_
        refine hQ mc (by rw [hmc, hmb, hma]; exact FrX_up (FrX_up (FrX_up hf (by decide)) (by decide)) (by decide)) (And.intro ?_ (And.intro ?_ (And.intro ?_ (And.intro ?_ (And.intro ?_ ?_)))))
        · rw [hmc, am_up_nk (by decide), hmb, am_up_nk (by decide), hma, am_up_nk (by decide), c7, hbN]
        · rw [hmc, am_up_nk (by decide), hmb, am_up_nk (by decide), hma, am_up_nk (by decide), c8]
        · rw [hmc, am_up_nk (by decide), hmb, am_up_nk (by decide), hma, am_up_eq]
          unfold tT
          rw [if_neg (by omega), if_pos hF]
          first
          | (rw [if_pos cnd119]; done)
          | (rw [if_neg (by rw [cnd119]; decide)]; done)
        · intro _
          rw [hmc, am_up_nk (by decide), hmb, am_up_eq]
        · intro z; omega
        · intro _
          have hw : tW tp tl p = true := tW_w.mpr (Or.inl hF)
          rw [hw]
          refine And.intro (fun _ => ?_) (fun z => absurd z (by decide))
          rw [hmc, am_up_eq, hbN]
      · skip
        refine ev_iconst (x := nI 4) rfl rfl ?_
        refine ev_goto (p2 := 127) rfl rfl ?_
        refine ev_putS (c := 12) (j := 9) rfl (fun ma hma => ?_) (hq := k_221 n)
        have d8 : ma 221 8 = nI (tA tp tl p) := by rw [hma, am_up_nk (by decide)]; exact c8
        have d3 : ∀ k, k < tl → ma 226 k = nI (tp k) := fun k hk => by rw [hma, am_up_ne (by decide)]; exact ht.2.2.1 k hk
        refine ev_aload rfl rfl ?_
        refine ev_aload rfl rfl ?_
        refine ev_getR (c := 12) (j := 5) rfl ?_ (hq := k_221 n)
        refine ev_aload rfl rfl ?_
        refine ev_getI (c := 12) (j := 8) rfl ?_ (hq := k_221 n)
        rw [d8]
        refine ev_ialdN rfl rfl ?_ (hq := k_226 n)
        rw [d3 _ (by omega)]
        refine ev_putS (c := 12) (j := 10) rfl (fun mb hmb => ?_) (hq := k_221 n)
        have d7 : mb 221 7 = nI b := by rw [hmb, am_up_nk (by decide), hma, am_up_nk (by decide)]; exact c7
        refine ev_aload rfl rfl ?_
        refine ev_aload rfl rfl ?_
        refine ev_getI (c := 12) (j := 7) rfl ?_ (hq := k_221 n)
        rw [d7]
        refine ev_putS (c := 12) (j := 11) rfl (fun mc hmc => ?_) (hq := k_221 n)
        refine ev_goto (p2 := 303) rfl rfl ?_
        refine ev_vret rfl ?_
        refine hQ mc (by rw [hmc, hmb, hma]; exact FrX_up (FrX_up (FrX_up hf (by decide)) (by decide)) (by decide)) (And.intro ?_ (And.intro ?_ (And.intro ?_ (And.intro ?_ (And.intro ?_ ?_)))))
        · rw [hmc, am_up_nk (by decide), hmb, am_up_nk (by decide), hma, am_up_nk (by decide), c7, hbN]
        · rw [hmc, am_up_nk (by decide), hmb, am_up_nk (by decide), hma, am_up_nk (by decide), c8]
        · rw [hmc, am_up_nk (by decide), hmb, am_up_nk (by decide), hma, am_up_eq]
          unfold tT
          rw [if_neg (by omega), if_pos hF]
          first
          | (rw [if_pos cnd119]; done)
          | (rw [if_neg (by rw [cnd119]; decide)]; done)
        · intro _
          rw [hmc, am_up_nk (by decide), hmb, am_up_eq]
        · intro z; omega
        · intro _
          have hw : tW tp tl p = true := tW_w.mpr (Or.inl hF)
          rw [hw]
          refine And.intro (fun _ => ?_) (fun z => absurd z (by decide))
          rw [hmc, am_up_eq, hbN]
    · omega
  | succ r ih =>
    intro mem b hb hf c7 c8 hab1 hN
    have hl := h0.1
    have ht := TpR_G h0 hf
    have hab := tA_b (tp := tp) hp
    have hlt := tF_lt (tp := tp) (tl := tl) (p := p) (by omega)
    refine ev_aload rfl rfl ?_
    refine ev_aload rfl rfl ?_
    refine ev_getI (c := 12) (j := 7) rfl ?_ (hq := k_221 n)
    rw [c7]
    refine ev_call rfl rfl ?_
    refine c_X12_isLetter ht (b) (by omega) ?_
    change am_ev _ _ _ _ [_] _ _ _
    refine ev_if_eqB (p2 := 117) rfl rfl (fun cnd101 => ?_) (fun cnd101 => ?_)
    · skip
      have hbN : b = tN tp tl p := by
        rw [← hN]
        first
        | rfl
        | (unfold rnn; rw [if_neg (fun z => cnd101 (And.intro (by omega) z))])
      refine ev_aload rfl rfl ?_
      refine ev_iload rfl rfl ?_
      refine ev_if_eqO (p2 := 126) rfl rfl (fun cnd119 => ?_) (fun cnd119 => ?_)
      · skip
        refine ev_iconst (x := nI 1) rfl rfl ?_
        refine ev_putS (c := 12) (j := 9) rfl (fun ma hma => ?_) (hq := k_221 n)
        have d8 : ma 221 8 = nI (tA tp tl p) := by rw [hma, am_up_nk (by decide)]; exact c8
        have d3 : ∀ k, k < tl → ma 226 k = nI (tp k) := fun k hk => by rw [hma, am_up_ne (by decide)]; exact ht.2.2.1 k hk
        refine ev_aload rfl rfl ?_
        refine ev_aload rfl rfl ?_
        refine ev_getR (c := 12) (j := 5) rfl ?_ (hq := k_221 n)
        refine ev_aload rfl rfl ?_
        refine ev_getI (c := 12) (j := 8) rfl ?_ (hq := k_221 n)
        rw [d8]
        refine ev_ialdN rfl rfl ?_ (hq := k_226 n)
        rw [d3 _ (by omega)]
        refine ev_putS (c := 12) (j := 10) rfl (fun mb hmb => ?_) (hq := k_221 n)
        have d7 : mb 221 7 = nI b := by rw [hmb, am_up_nk (by decide), hma, am_up_nk (by decide)]; exact c7
        refine ev_aload rfl rfl ?_
        refine ev_aload rfl rfl ?_
        refine ev_getI (c := 12) (j := 7) rfl ?_ (hq := k_221 n)
        rw [d7]
        refine ev_putS (c := 12) (j := 11) rfl (fun mc hmc => ?_) (hq := k_221 n)
        refine ev_goto (p2 := 303) rfl rfl ?_
        refine ev_vret rfl ?_
        refine hQ mc (by rw [hmc, hmb, hma]; exact FrX_up (FrX_up (FrX_up hf (by decide)) (by decide)) (by decide)) (And.intro ?_ (And.intro ?_ (And.intro ?_ (And.intro ?_ (And.intro ?_ ?_)))))
        · rw [hmc, am_up_nk (by decide), hmb, am_up_nk (by decide), hma, am_up_nk (by decide), c7, hbN]
        · rw [hmc, am_up_nk (by decide), hmb, am_up_nk (by decide), hma, am_up_nk (by decide), c8]
        · rw [hmc, am_up_nk (by decide), hmb, am_up_nk (by decide), hma, am_up_eq]
          unfold tT
          rw [if_neg (by omega), if_pos hF]
          first
          | (rw [if_pos cnd119]; done)
          | (rw [if_neg (by rw [cnd119]; decide)]; done)
        · intro _
          rw [hmc, am_up_nk (by decide), hmb, am_up_eq]
        · intro z; omega
        · intro _
          have hw : tW tp tl p = true := tW_w.mpr (Or.inl hF)
          rw [hw]
          refine And.intro (fun _ => ?_) (fun z => absurd z (by decide))
          rw [hmc, am_up_eq, hbN]
      · skip
        refine ev_iconst (x := nI 4) rfl rfl ?_
        refine ev_goto (p2 := 127) rfl rfl ?_
        refine ev_putS (c := 12) (j := 9) rfl (fun ma hma => ?_) (hq := k_221 n)
        have d8 : ma 221 8 = nI (tA tp tl p) := by rw [hma, am_up_nk (by decide)]; exact c8
        have d3 : ∀ k, k < tl → ma 226 k = nI (tp k) := fun k hk => by rw [hma, am_up_ne (by decide)]; exact ht.2.2.1 k hk
        refine ev_aload rfl rfl ?_
        refine ev_aload rfl rfl ?_
        refine ev_getR (c := 12) (j := 5) rfl ?_ (hq := k_221 n)
        refine ev_aload rfl rfl ?_
        refine ev_getI (c := 12) (j := 8) rfl ?_ (hq := k_221 n)
        rw [d8]
        refine ev_ialdN rfl rfl ?_ (hq := k_226 n)
        rw [d3 _ (by omega)]
        refine ev_putS (c := 12) (j := 10) rfl (fun mb hmb => ?_) (hq := k_221 n)
        have d7 : mb 221 7 = nI b := by rw [hmb, am_up_nk (by decide), hma, am_up_nk (by decide)]; exact c7
        refine ev_aload rfl rfl ?_
        refine ev_aload rfl rfl ?_
        refine ev_getI (c := 12) (j := 7) rfl ?_ (hq := k_221 n)
        rw [d7]
        refine ev_putS (c := 12) (j := 11) rfl (fun mc hmc => ?_) (hq := k_221 n)
        refine ev_goto (p2 := 303) rfl rfl ?_
        refine ev_vret rfl ?_
        refine hQ mc (by rw [hmc, hmb, hma]; exact FrX_up (FrX_up (FrX_up hf (by decide)) (by decide)) (by decide)) (And.intro ?_ (And.intro ?_ (And.intro ?_ (And.intro ?_ (And.intro ?_ ?_)))))
        · rw [hmc, am_up_nk (by decide), hmb, am_up_nk (by decide), hma, am_up_nk (by decide), c7, hbN]
        · rw [hmc, am_up_nk (by decide), hmb, am_up_nk (by decide), hma, am_up_nk (by decide), c8]
        · rw [hmc, am_up_nk (by decide), hmb, am_up_nk (by decide), hma, am_up_eq]
          unfold tT
          rw [if_neg (by omega), if_pos hF]
          first
          | (rw [if_pos cnd119]; done)
          | (rw [if_neg (by rw [cnd119]; decide)]; done)
        · intro _
          rw [hmc, am_up_nk (by decide), hmb, am_up_eq]
        · intro z; omega
        · intro _
          have hw : tW tp tl p = true := tW_w.mpr (Or.inl hF)
          rw [hw]
          refine And.intro (fun _ => ?_) (fun z => absurd z (by decide))
          rw [hmc, am_up_eq, hbN]
    · skip
      refine ev_aload rfl rfl ?_
      first | refine ev_dupR rfl ?_ | refine ev_dupI rfl ?_
      refine ev_getI (c := 12) (j := 7) rfl ?_ (hq := k_221 n)
      rw [c7]
      refine ev_iconst (x := nI 1) rfl rfl ?_
      refine ev_iaddN rfl ?_
      refine ev_put (c := 12) (j := 7) rfl ?_ (hq := k_221 n)
      refine ev_goto (p2 := 93) rfl rfl ?_
      refine ih _ (b + 1) (by omega) (FrX_up hf (by decide)) am_up_eq (by rw [am_up_nk (by decide)]; exact c8) (by omega) ?_
      rw [← hN]
      conv => rhs; unfold rnn
      rw [if_pos cnd101.2]
theorem l_go170 {d n : Nat} {tp : Nat → Nat} {tl : Nat} {mem0 : am_M} {Q : am_P} (h0 : TpR tp tl mem0) (w : Bool) (p : Nat) (hp : p ≤ tl) (hE : EN w p mem0) (hQ : ∀ m2 : am_M, FrX mem0 m2 → RT tp tl w p m2 → Q none (am_SK n) m2) (hF : tF tp tl p = 2) (r : Nat) : ∀ (mem : am_M) (b : Nat) (hb : b + r = tl) (hf : FrX mem0 mem) (c7 : mem 221 7 = nI b) (c8 : mem 221 8 = nI (tA tp tl p)) (hab1 : tA tp tl p ≤ b) (hv : b - tA tp tl p ≤ 4 → mem 221 10 = nI (nv tp (tA tp tl p) (b - tA tp tl p))) (hN : rnn tp 2 r b = tN tp tl p), am_ev kc_X12_go (d + 1) 170 [some (.ref 221), some (.int (ob (tG tp tl w p)))] [] (am_SK n) mem Q := by
  induction r with
  | zero =>
    intro mem b hb hf c7 c8 hab1 hv hN
    have hl := h0.1
    have ht := TpR_G h0 hf
    have hab := tA_b (tp := tp) hp
    have hlt := tF_lt (tp := tp) (tl := tl) (p := p) (by omega)
    refine ev_aload rfl rfl ?_
    refine ev_aload rfl rfl ?_
    refine ev_getI (c := 12) (j := 7) rfl ?_ (hq := k_221 n)
    rw [c7]
    refine ev_call rfl rfl ?_
    refine c_X12_isFigure ht (b) (by omega) ?_
    change am_ev _ _ _ _ [_] _ _ _
    refine ev_if_eqB (p2 := 238) rfl rfl (fun cnd178 => ?_) (fun cnd178 => ?_)
    · skip
      have hbN : b = tN tp tl p := by
        rw [← hN]
        first
        | rfl
        | (unfold rnn; rw [if_neg (fun z => cnd178 (And.intro (by omega) z))])
      refine ev_aload rfl rfl ?_
      refine ev_iload rfl rfl ?_
      refine ev_if_neO (p2 := 256) rfl rfl (fun cnd240 => ?_) (fun cnd240 => ?_)
      · skip
        refine ev_iconst (x := nI 4) rfl rfl ?_
        refine ev_goto (p2 := 261) rfl rfl ?_
        refine ev_putS (c := 12) (j := 9) rfl (fun ma hma => ?_) (hq := k_221 n)
        have d7 : ma 221 7 = nI b := by rw [hma, am_up_nk (by decide)]; exact c7
        refine ev_aload rfl rfl ?_
        refine ev_aload rfl rfl ?_
        refine ev_getI (c := 12) (j := 7) rfl ?_ (hq := k_221 n)
        rw [d7]
        refine ev_putS (c := 12) (j := 11) rfl (fun mc hmc => ?_) (hq := k_221 n)
        refine ev_goto (p2 := 303) rfl rfl ?_
        refine ev_vret rfl ?_
        refine hQ mc (by rw [hmc, hma]; exact FrX_up (FrX_up hf (by decide)) (by decide)) (And.intro ?_ (And.intro ?_ (And.intro ?_ (And.intro ?_ (And.intro ?_ ?_)))))
        · rw [hmc, am_up_nk (by decide), hma, am_up_nk (by decide), c7, hbN]
        · rw [hmc, am_up_nk (by decide), hma, am_up_nk (by decide), c8]
        · rw [hmc, am_up_nk (by decide), hma, am_up_eq]
          unfold tT
          rw [if_neg (by omega), if_neg (by omega), if_pos hF]
          first
          | (rw [if_pos (Or.inl cnd240)]; done)
          | (rw [if_pos (Or.inr (by omega))]; done)
          | (rw [if_neg (by rw [cnd240]; intro z; rcases z with z | z; exact absurd z (by decide); omega)]; done)
        · intro z; omega
        · intro _ hm
          rw [hmc, am_up_nk (by decide), hma, am_up_nk (by decide), ← hbN]
          exact hv (by omega)
        · intro _
          have hw : tW tp tl p = true := tW_w.mpr (Or.inr hF)
          rw [hw]
          refine And.intro (fun _ => ?_) (fun z => absurd z (by decide))
          rw [hmc, am_up_eq, hbN]
      · skip
        refine ev_aload rfl rfl ?_
        refine ev_getI (c := 12) (j := 7) rfl ?_ (hq := k_221 n)
        rw [c7]
        refine ev_aload rfl rfl ?_
        refine ev_getI (c := 12) (j := 8) rfl ?_ (hq := k_221 n)
        rw [c8]
        refine ev_isubN rfl ?_
        refine ev_iconst (x := nI 4) rfl rfl ?_
        refine ev_icmp_leN (p2 := 260) rfl rfl (fun cnd253 => ?_) (fun cnd253 => ?_)
        · skip
          refine ev_iconst (x := nI 2) rfl rfl ?_
          refine ev_putS (c := 12) (j := 9) rfl (fun ma hma => ?_) (hq := k_221 n)
          have d7 : ma 221 7 = nI b := by rw [hma, am_up_nk (by decide)]; exact c7
          refine ev_aload rfl rfl ?_
          refine ev_aload rfl rfl ?_
          refine ev_getI (c := 12) (j := 7) rfl ?_ (hq := k_221 n)
          rw [d7]
          refine ev_putS (c := 12) (j := 11) rfl (fun mc hmc => ?_) (hq := k_221 n)
          refine ev_goto (p2 := 303) rfl rfl ?_
          refine ev_vret rfl ?_
          refine hQ mc (by rw [hmc, hma]; exact FrX_up (FrX_up hf (by decide)) (by decide)) (And.intro ?_ (And.intro ?_ (And.intro ?_ (And.intro ?_ (And.intro ?_ ?_)))))
          · rw [hmc, am_up_nk (by decide), hma, am_up_nk (by decide), c7, hbN]
          · rw [hmc, am_up_nk (by decide), hma, am_up_nk (by decide), c8]
          · rw [hmc, am_up_nk (by decide), hma, am_up_eq]
            unfold tT
            rw [if_neg (by omega), if_neg (by omega), if_pos hF]
            first
            | (rw [if_pos (Or.inl cnd240)]; done)
            | (rw [if_pos (Or.inr (by omega))]; done)
            | (rw [if_neg (by rw [cnd240]; intro z; rcases z with z | z; exact absurd z (by decide); omega)]; done)
          · intro z; omega
          · intro _ hm
            rw [hmc, am_up_nk (by decide), hma, am_up_nk (by decide), ← hbN]
            exact hv (by omega)
          · intro _
            have hw : tW tp tl p = true := tW_w.mpr (Or.inr hF)
            rw [hw]
            refine And.intro (fun _ => ?_) (fun z => absurd z (by decide))
            rw [hmc, am_up_eq, hbN]
        · skip
          refine ev_iconst (x := nI 4) rfl rfl ?_
          refine ev_goto (p2 := 261) rfl rfl ?_
          refine ev_putS (c := 12) (j := 9) rfl (fun ma hma => ?_) (hq := k_221 n)
          have d7 : ma 221 7 = nI b := by rw [hma, am_up_nk (by decide)]; exact c7
          refine ev_aload rfl rfl ?_
          refine ev_aload rfl rfl ?_
          refine ev_getI (c := 12) (j := 7) rfl ?_ (hq := k_221 n)
          rw [d7]
          refine ev_putS (c := 12) (j := 11) rfl (fun mc hmc => ?_) (hq := k_221 n)
          refine ev_goto (p2 := 303) rfl rfl ?_
          refine ev_vret rfl ?_
          refine hQ mc (by rw [hmc, hma]; exact FrX_up (FrX_up hf (by decide)) (by decide)) (And.intro ?_ (And.intro ?_ (And.intro ?_ (And.intro ?_ (And.intro ?_ ?_)))))
          · rw [hmc, am_up_nk (by decide), hma, am_up_nk (by decide), c7, hbN]
          · rw [hmc, am_up_nk (by decide), hma, am_up_nk (by decide), c8]
          · rw [hmc, am_up_nk (by decide), hma, am_up_eq]
            unfold tT
            rw [if_neg (by omega), if_neg (by omega), if_pos hF]
            first
            | (rw [if_pos (Or.inl cnd240)]; done)
            | (rw [if_pos (Or.inr (by omega))]; done)
            | (rw [if_neg (by rw [cnd240]; intro z; rcases z with z | z; exact absurd z (by decide); omega)]; done)
          · intro z; omega
          · intro _ hm
            rw [hmc, am_up_nk (by decide), hma, am_up_nk (by decide), ← hbN]
            exact hv (by omega)
          · intro _
            have hw : tW tp tl p = true := tW_w.mpr (Or.inr hF)
            rw [hw]
            refine And.intro (fun _ => ?_) (fun z => absurd z (by decide))
            rw [hmc, am_up_eq, hbN]
    · omega
  | succ r ih =>
    intro mem b hb hf c7 c8 hab1 hv hN
    have hl := h0.1
    have ht := TpR_G h0 hf
    have hab := tA_b (tp := tp) hp
    have hlt := tF_lt (tp := tp) (tl := tl) (p := p) (by omega)
    refine ev_aload rfl rfl ?_
    refine ev_aload rfl rfl ?_
    refine ev_getI (c := 12) (j := 7) rfl ?_ (hq := k_221 n)
    rw [c7]
    refine ev_call rfl rfl ?_
    refine c_X12_isFigure ht (b) (by omega) ?_
    change am_ev _ _ _ _ [_] _ _ _
    refine ev_if_eqB (p2 := 238) rfl rfl (fun cnd178 => ?_) (fun cnd178 => ?_)
    · skip
      have hbN : b = tN tp tl p := by
        rw [← hN]
        first
        | rfl
        | (unfold rnn; rw [if_neg (fun z => cnd178 (And.intro (by omega) z))])
      refine ev_aload rfl rfl ?_
      refine ev_iload rfl rfl ?_
      refine ev_if_neO (p2 := 256) rfl rfl (fun cnd240 => ?_) (fun cnd240 => ?_)
      · skip
        refine ev_iconst (x := nI 4) rfl rfl ?_
        refine ev_goto (p2 := 261) rfl rfl ?_
        refine ev_putS (c := 12) (j := 9) rfl (fun ma hma => ?_) (hq := k_221 n)
        have d7 : ma 221 7 = nI b := by rw [hma, am_up_nk (by decide)]; exact c7
        refine ev_aload rfl rfl ?_
        refine ev_aload rfl rfl ?_
        refine ev_getI (c := 12) (j := 7) rfl ?_ (hq := k_221 n)
        rw [d7]
        refine ev_putS (c := 12) (j := 11) rfl (fun mc hmc => ?_) (hq := k_221 n)
        refine ev_goto (p2 := 303) rfl rfl ?_
        refine ev_vret rfl ?_
        refine hQ mc (by rw [hmc, hma]; exact FrX_up (FrX_up hf (by decide)) (by decide)) (And.intro ?_ (And.intro ?_ (And.intro ?_ (And.intro ?_ (And.intro ?_ ?_)))))
        · rw [hmc, am_up_nk (by decide), hma, am_up_nk (by decide), c7, hbN]
        · rw [hmc, am_up_nk (by decide), hma, am_up_nk (by decide), c8]
        · rw [hmc, am_up_nk (by decide), hma, am_up_eq]
          unfold tT
          rw [if_neg (by omega), if_neg (by omega), if_pos hF]
          first
          | (rw [if_pos (Or.inl cnd240)]; done)
          | (rw [if_pos (Or.inr (by omega))]; done)
          | (rw [if_neg (by rw [cnd240]; intro z; rcases z with z | z; exact absurd z (by decide); omega)]; done)
        · intro z; omega
        · intro _ hm
          rw [hmc, am_up_nk (by decide), hma, am_up_nk (by decide), ← hbN]
          exact hv (by omega)
        · intro _
          have hw : tW tp tl p = true := tW_w.mpr (Or.inr hF)
          rw [hw]
          refine And.intro (fun _ => ?_) (fun z => absurd z (by decide))
          rw [hmc, am_up_eq, hbN]
      · skip
        refine ev_aload rfl rfl ?_
        refine ev_getI (c := 12) (j := 7) rfl ?_ (hq := k_221 n)
        rw [c7]
        refine ev_aload rfl rfl ?_
        refine ev_getI (c := 12) (j := 8) rfl ?_ (hq := k_221 n)
        rw [c8]
        refine ev_isubN rfl ?_
        refine ev_iconst (x := nI 4) rfl rfl ?_
        refine ev_icmp_leN (p2 := 260) rfl rfl (fun cnd253 => ?_) (fun cnd253 => ?_)
        · skip
          refine ev_iconst (x := nI 2) rfl rfl ?_
          refine ev_putS (c := 12) (j := 9) rfl (fun ma hma => ?_) (hq := k_221 n)
          have d7 : ma 221 7 = nI b := by rw [hma, am_up_nk (by decide)]; exact c7
          refine ev_aload rfl rfl ?_
          refine ev_aload rfl rfl ?_
          refine ev_getI (c := 12) (j := 7) rfl ?_ (hq := k_221 n)
          rw [d7]
          refine ev_putS (c := 12) (j := 11) rfl (fun mc hmc => ?_) (hq := k_221 n)
          refine ev_goto (p2 := 303) rfl rfl ?_
          refine ev_vret rfl ?_
          refine hQ mc (by rw [hmc, hma]; exact FrX_up (FrX_up hf (by decide)) (by decide)) (And.intro ?_ (And.intro ?_ (And.intro ?_ (And.intro ?_ (And.intro ?_ ?_)))))
          · rw [hmc, am_up_nk (by decide), hma, am_up_nk (by decide), c7, hbN]
          · rw [hmc, am_up_nk (by decide), hma, am_up_nk (by decide), c8]
          · rw [hmc, am_up_nk (by decide), hma, am_up_eq]
            unfold tT
            rw [if_neg (by omega), if_neg (by omega), if_pos hF]
            first
            | (rw [if_pos (Or.inl cnd240)]; done)
            | (rw [if_pos (Or.inr (by omega))]; done)
            | (rw [if_neg (by rw [cnd240]; intro z; rcases z with z | z; exact absurd z (by decide); omega)]; done)
          · intro z; omega
          · intro _ hm
            rw [hmc, am_up_nk (by decide), hma, am_up_nk (by decide), ← hbN]
            exact hv (by omega)
          · intro _
            have hw : tW tp tl p = true := tW_w.mpr (Or.inr hF)
            rw [hw]
            refine And.intro (fun _ => ?_) (fun z => absurd z (by decide))
            rw [hmc, am_up_eq, hbN]
        · skip
          refine ev_iconst (x := nI 4) rfl rfl ?_
          refine ev_goto (p2 := 261) rfl rfl ?_
          refine ev_putS (c := 12) (j := 9) rfl (fun ma hma => ?_) (hq := k_221 n)
          have d7 : ma 221 7 = nI b := by rw [hma, am_up_nk (by decide)]; exact c7
          refine ev_aload rfl rfl ?_
          refine ev_aload rfl rfl ?_
          refine ev_getI (c := 12) (j := 7) rfl ?_ (hq := k_221 n)
          rw [d7]
          refine ev_putS (c := 12) (j := 11) rfl (fun mc hmc => ?_) (hq := k_221 n)
          refine ev_goto (p2 := 303) rfl rfl ?_
          refine ev_vret rfl ?_
          refine hQ mc (by rw [hmc, hma]; exact FrX_up (FrX_up hf (by decide)) (by decide)) (And.intro ?_ (And.intro ?_ (And.intro ?_ (And.intro ?_ (And.intro ?_ ?_)))))
          · rw [hmc, am_up_nk (by decide), hma, am_up_nk (by decide), c7, hbN]
          · rw [hmc, am_up_nk (by decide), hma, am_up_nk (by decide), c8]
          · rw [hmc, am_up_nk (by decide), hma, am_up_eq]
            unfold tT
            rw [if_neg (by omega), if_neg (by omega), if_pos hF]
            first
            | (rw [if_pos (Or.inl cnd240)]; done)
            | (rw [if_pos (Or.inr (by omega))]; done)
            | (rw [if_neg (by rw [cnd240]; intro z; rcases z with z | z; exact absurd z (by decide); omega)]; done)
          · intro z; omega
          · intro _ hm
            rw [hmc, am_up_nk (by decide), hma, am_up_nk (by decide), ← hbN]
            exact hv (by omega)
          · intro _
            have hw : tW tp tl p = true := tW_w.mpr (Or.inr hF)
            rw [hw]
            refine And.intro (fun _ => ?_) (fun z => absurd z (by decide))
            rw [hmc, am_up_eq, hbN]
    · skip
      have hd : 48 ≤ tp b ∧ tp b ≤ 57 := by
        have z := cnd178.2
        unfold fm at z
        by_cases z1 : 97 ≤ tp b ∧ tp b ≤ 122
        · rw [if_pos z1] at z; omega
        · rw [if_neg z1] at z
          by_cases z2 : 48 ≤ tp b ∧ tp b ≤ 57
          · exact z2
          · rw [if_neg z2] at z; omega
      refine ev_aload rfl rfl ?_
      refine ev_aload rfl rfl ?_
      refine ev_getI (c := 12) (j := 7) rfl ?_ (hq := k_221 n)
      rw [c7]
      refine ev_aload rfl rfl ?_
      refine ev_getI (c := 12) (j := 8) rfl ?_ (hq := k_221 n)
      rw [c8]
      refine ev_isubN rfl ?_
      refine ev_iconst (x := nI 4) rfl rfl ?_
      refine ev_icmp_geN (p2 := 218) rfl rfl (fun cnd192 => ?_) (fun cnd192 => ?_)
      · skip
        refine ev_aload rfl rfl ?_
        refine ev_getI (c := 12) (j := 10) rfl ?_ (hq := k_221 n)
        refine ev_put (c := 12) (j := 10) rfl ?_ (hq := k_221 n)
        refine ev_aload rfl rfl ?_
        first | refine ev_dupR rfl ?_ | refine ev_dupI rfl ?_
        refine ev_getI (c := 12) (j := 7) rfl ?_ (hq := k_221 n)
        rw [am_up_nk (show (7 : Nat) ≠ 10 by decide), c7]
        refine ev_iconst (x := nI 1) rfl rfl ?_
        refine ev_iaddN rfl ?_
        refine ev_put (c := 12) (j := 7) rfl ?_ (hq := k_221 n)
        refine ev_goto (p2 := 170) rfl rfl ?_
        refine ih _ (b + 1) (by omega) (FrX_up (FrX_up hf (by decide)) (by decide)) am_up_eq (by rw [am_up_nk (by decide), am_up_nk (by decide)]; exact c8) (by omega) (fun hz => ?_) ?_
        · first
          | (rw [am_up_nk (by decide), am_up_eq, show b + 1 - tA tp tl p = (b - tA tp tl p) + 1 by omega]; show _ = nI (10 * nv tp (tA tp tl p) (b - tA tp tl p) + tp (tA tp tl p + (b - tA tp tl p)) - 48); rw [show tA tp tl p + (b - tA tp tl p) = b by omega]; done)
          | (exfalso; omega)
        · rw [← hN]
          conv => rhs; unfold rnn
          rw [if_pos cnd178.2]
      · skip
        refine ev_iconst (x := nI 10) rfl rfl ?_
        refine ev_aload rfl rfl ?_
        refine ev_getI (c := 12) (j := 10) rfl ?_ (hq := k_221 n)
        rw [hv (by omega)]
        refine ev_imulN rfl ?_
        refine ev_aload rfl rfl ?_
        refine ev_getR (c := 12) (j := 5) rfl ?_ (hq := k_221 n)
        refine ev_aload rfl rfl ?_
        refine ev_getI (c := 12) (j := 7) rfl ?_ (hq := k_221 n)
        rw [c7]
        refine ev_ialdN rfl rfl ?_ (hq := k_226 n)
        rw [ht.2.2.1 b cnd178.1]
        refine ev_iaddN rfl ?_
        refine ev_iconst (x := nI 48) rfl rfl ?_
        refine ev_isubN rfl ?_
        refine ev_goto (p2 := 222) rfl rfl ?_
        refine ev_put (c := 12) (j := 10) rfl ?_ (hq := k_221 n)
        refine ev_aload rfl rfl ?_
        first | refine ev_dupR rfl ?_ | refine ev_dupI rfl ?_
        refine ev_getI (c := 12) (j := 7) rfl ?_ (hq := k_221 n)
        rw [am_up_nk (show (7 : Nat) ≠ 10 by decide), c7]
        refine ev_iconst (x := nI 1) rfl rfl ?_
        refine ev_iaddN rfl ?_
        refine ev_put (c := 12) (j := 7) rfl ?_ (hq := k_221 n)
        refine ev_goto (p2 := 170) rfl rfl ?_
        refine ih _ (b + 1) (by omega) (FrX_up (FrX_up hf (by decide)) (by decide)) am_up_eq (by rw [am_up_nk (by decide), am_up_nk (by decide)]; exact c8) (by omega) (fun hz => ?_) ?_
        · first
          | (rw [am_up_nk (by decide), am_up_eq, show b + 1 - tA tp tl p = (b - tA tp tl p) + 1 by omega]; show _ = nI (10 * nv tp (tA tp tl p) (b - tA tp tl p) + tp (tA tp tl p + (b - tA tp tl p)) - 48); rw [show tA tp tl p + (b - tA tp tl p) = b by omega]; done)
          | (exfalso; omega)
        · rw [← hN]
          conv => rhs; unfold rnn
          rw [if_pos cnd178.2]
theorem l_go62 {d n : Nat} {tp : Nat → Nat} {tl : Nat} {mem0 : am_M} {Q : am_P} (h0 : TpR tp tl mem0) (w : Bool) (p : Nat) (hp : p ≤ tl) (hE : EN w p mem0) (hQ : ∀ m2 : am_M, FrX mem0 m2 → RT tp tl w p m2 → Q none (am_SK n) m2) {mem : am_M} (hf : FrX mem0 mem) (a : Nat) (ha : a = tA tp tl p) (c7 : mem 221 7 = nI a) (c8 : mem 221 8 = nI a) (c11 : mem 221 11 = mem0 221 11) (x1 : Option Value) : am_ev kc_X12_go (d + 1) 62 [some (.ref 221), x1] [.int (ob (tG tp tl w p))] (am_SK n) mem Q := by
  have hl := h0.1
  have ht := TpR_G h0 hf
  have hab := tA_b (tp := tp) hp
  refine ev_istore rfl rfl (Nat.le_of_ble_eq_true rfl) ?_
  refine ev_aload rfl rfl ?_
  refine ev_getI (c := 12) (j := 8) rfl ?_ (hq := k_221 n)
  rw [c8]
  refine ev_aload rfl rfl ?_
  refine ev_getI (c := 12) (j := 6) rfl ?_ (hq := k_221 n)
  rw [ht.2.1]
  refine ev_icmp_neN (p2 := 82) rfl rfl (fun cnd71 => ?_) (fun cnd71 => ?_)
  · skip
    have hFn := tF_n (tp := tp) (tl := tl) (p := p) (by omega)
    rw [← ha] at hFn
    refine ev_aload rfl rfl ?_
    refine ev_aload rfl rfl ?_
    refine ev_getI (c := 12) (j := 8) rfl ?_ (hq := k_221 n)
    rw [c8]
    refine ev_call rfl rfl ?_
    refine c_X12_isLetter ht (a) (by omega) ?_
    change am_ev _ _ _ _ [_] _ _ _
    refine ev_if_eqB (p2 := 154) rfl rfl (fun cnd90 => ?_) (fun cnd90 => ?_)
    · skip
      refine ev_aload rfl rfl ?_
      refine ev_aload rfl rfl ?_
      refine ev_getI (c := 12) (j := 8) rfl ?_ (hq := k_221 n)
      rw [c8]
      refine ev_call rfl rfl ?_
      refine c_X12_isFigure ht (a) (by omega) ?_
      change am_ev _ _ _ _ [_] _ _ _
      refine ev_if_eqB (p2 := 275) rfl rfl (fun cnd162 => ?_) (fun cnd162 => ?_)
      · skip
        refine ev_aload rfl rfl ?_
        refine ev_iconst (x := nI 3) rfl rfl ?_
        refine ev_putS (c := 12) (j := 9) rfl (fun ma hma => ?_) (hq := k_221 n)
        have d8 : ma 221 8 = nI a := by rw [hma, am_up_nk (by decide)]; exact c8
        have d3 : ∀ k, k < tl → ma 226 k = nI (tp k) := fun k hk => by rw [hma, am_up_ne (by decide)]; exact ht.2.2.1 k hk
        refine ev_aload rfl rfl ?_
        refine ev_aload rfl rfl ?_
        refine ev_getR (c := 12) (j := 5) rfl ?_ (hq := k_221 n)
        refine ev_aload rfl rfl ?_
        refine ev_getI (c := 12) (j := 8) rfl ?_ (hq := k_221 n)
        rw [d8]
        refine ev_ialdN rfl rfl ?_ (hq := k_226 n)
        rw [d3 a (by omega)]
        refine ev_putS (c := 12) (j := 10) rfl (fun mb hmb => ?_) (hq := k_221 n)
        have d7 : mb 221 7 = nI a := by rw [hmb, am_up_nk (by decide), hma, am_up_nk (by decide)]; exact c7
        refine ev_aload rfl rfl ?_
        first | refine ev_dupR rfl ?_ | refine ev_dupI rfl ?_
        refine ev_getI (c := 12) (j := 7) rfl ?_ (hq := k_221 n)
        rw [d7]
        refine ev_iconst (x := nI 1) rfl rfl ?_
        refine ev_iaddN rfl ?_
        refine ev_putS (c := 12) (j := 7) rfl (fun mc hmc => ?_) (hq := k_221 n)
        refine ev_vret rfl ?_
        first
        | (refine hQ _ (FrX_up hf (by decide)) (And.intro ?_ (And.intro ?_ (And.intro ?_ (And.intro ?_ (And.intro ?_ ?_)))))
           · rw [am_up_nk (by decide), c7, tN_0 (by omega), ha]
           · rw [am_up_nk (by decide), c8, ha]
           · rw [am_up_eq]; unfold tT; rw [if_pos (tF_0 (by omega))]
           · intro z; have := tF_0 (tp := tp) (tl := tl) (p := p) (by omega); omega
           · intro z; have := tF_0 (tp := tp) (tl := tl) (p := p) (by omega); omega
           · intro z; exact absurd (tF_0 (by omega)) z)
        | (have hF : tF tp tl p = 3 := by
             have h1 := tF_n (tp := tp) (tl := tl) (p := p) (by omega)
             rw [← ha] at h1
             have h2 := fm_13 (tp a)
             have h3 : ¬ fm (tp a) = 1 := fun z => cnd90 (And.intro (by omega) z)
             have h4 : ¬ fm (tp a) = 2 := fun z => cnd162 (And.intro (by omega) z)
             omega
           refine hQ mc (by rw [hmc, hmb, hma]; exact FrX_up (FrX_up (FrX_up hf (by decide)) (by decide)) (by decide)) (And.intro ?_ (And.intro ?_ (And.intro ?_ (And.intro ?_ (And.intro ?_ ?_)))))
           · rw [hmc, am_up_eq, tN_3 hF, ha]
           · rw [hmc, am_up_nk (by decide), hmb, am_up_nk (by decide), hma, am_up_nk (by decide), c8, ha]
           · rw [hmc, am_up_nk (by decide), hmb, am_up_nk (by decide), hma, am_up_eq]
             unfold tT
             rw [if_neg (by omega), if_neg (by omega), if_neg (by omega)]
           · intro _; rw [hmc, am_up_nk (by decide), hmb, am_up_eq, ha]
           · intro z; omega
           · intro _
             have hw : tW tp tl p = false := by unfold tW; exact decide_eq_false (by omega)
             rw [hw]
             have hE2 := en_skip (tp := tp) (tl := tl) (q := tN tp tl p) hE (by rw [tN_3 hF]; omega)
             refine And.intro (fun z => absurd z (by decide)) (fun z => ?_)
             rw [hmc, am_up_nk (by decide), hmb, am_up_nk (by decide), hma, am_up_nk (by decide), c11]
             exact hE2.2 z)
      · skip
        refine ev_aload rfl rfl ?_
        refine ev_iconst (x := nI 0) rfl rfl ?_
        refine ev_put (c := 12) (j := 10) rfl ?_ (hq := k_221 n)
        have hF : tF tp tl p = 2 := by rw [hFn]; exact cnd162.2
        refine l_go170 h0 w p hp hE hQ hF (tl - a) _ a (by omega) (FrX_up hf (by decide)) (by rw [am_up_nk (by decide)]; exact c7) (by rw [am_up_nk (by decide), c8, ha]) (by omega) (fun _ => by rw [am_up_eq, ha, Nat.sub_self]; rfl) ?_
        rw [tN_w (by omega) (by rw [← ha]; omega), ← ha, show tl - a = (tl - (a + 1)) + 1 by omega, cnd162.2]
        conv => lhs; unfold rnn
        rw [if_pos cnd162.2]
    · skip
      have hF : tF tp tl p = 1 := by rw [hFn]; exact cnd90.2
      refine l_go93 h0 w p hp hE hQ hF (tl - a) mem a (by omega) hf c7 (by rw [c8, ha]) (by omega) ?_
      rw [tN_w (by omega) (by rw [← ha]; omega), ← ha, show tl - a = (tl - (a + 1)) + 1 by omega, cnd90.2]
      conv => lhs; unfold rnn
      rw [if_pos cnd90.2]
  · skip
    refine ev_aload rfl rfl ?_
    refine ev_iconst (x := nI 0) rfl rfl ?_
    refine ev_put (c := 12) (j := 9) rfl ?_ (hq := k_221 n)
    refine ev_goto (p2 := 303) rfl rfl ?_
    refine ev_vret rfl ?_
    first
    | (refine hQ _ (FrX_up hf (by decide)) (And.intro ?_ (And.intro ?_ (And.intro ?_ (And.intro ?_ (And.intro ?_ ?_)))))
       · rw [am_up_nk (by decide), c7, tN_0 (by omega), ha]
       · rw [am_up_nk (by decide), c8, ha]
       · rw [am_up_eq]; unfold tT; rw [if_pos (tF_0 (by omega))]
       · intro z; have := tF_0 (tp := tp) (tl := tl) (p := p) (by omega); omega
       · intro z; have := tF_0 (tp := tp) (tl := tl) (p := p) (by omega); omega
       · intro z; exact absurd (tF_0 (by omega)) z)
    | (have hF : tF tp tl p = 3 := by
         have h1 := tF_n (tp := tp) (tl := tl) (p := p) (by omega)
         rw [← ha] at h1
         have h2 := fm_13 (tp a)
         have h3 : ¬ fm (tp a) = 1 := fun z => cnd90 (And.intro (by omega) z)
         have h4 : ¬ fm (tp a) = 2 := fun z => cnd162 (And.intro (by omega) z)
         omega
       refine hQ mc (by rw [hmc, hmb, hma]; exact FrX_up (FrX_up (FrX_up hf (by decide)) (by decide)) (by decide)) (And.intro ?_ (And.intro ?_ (And.intro ?_ (And.intro ?_ (And.intro ?_ ?_)))))
       · rw [hmc, am_up_eq, tN_3 hF, ha]
       · rw [hmc, am_up_nk (by decide), hmb, am_up_nk (by decide), hma, am_up_nk (by decide), c8, ha]
       · rw [hmc, am_up_nk (by decide), hmb, am_up_nk (by decide), hma, am_up_eq]
         unfold tT
         rw [if_neg (by omega), if_neg (by omega), if_neg (by omega)]
       · intro _; rw [hmc, am_up_nk (by decide), hmb, am_up_eq, ha]
       · intro z; omega
       · intro _
         have hw : tW tp tl p = false := by unfold tW; exact decide_eq_false (by omega)
         rw [hw]
         have hE2 := en_skip (tp := tp) (tl := tl) (q := tN tp tl p) hE (by rw [tN_3 hF]; omega)
         refine And.intro (fun z => absurd z (by decide)) (fun z => ?_)
         rw [hmc, am_up_nk (by decide), hmb, am_up_nk (by decide), hma, am_up_nk (by decide), c11]
         exact hE2.2 z)
theorem l_go38 {d n : Nat} {tp : Nat → Nat} {tl : Nat} {mem0 : am_M} {Q : am_P} (h0 : TpR tp tl mem0) (w : Bool) (p : Nat) (hp : p ≤ tl) (hE : EN w p mem0) (hQ : ∀ m2 : am_M, FrX mem0 m2 → RT tp tl w p m2 → Q none (am_SK n) m2) {mem : am_M} (hf : FrX mem0 mem) (a : Nat) (ha : a = tA tp tl p) (c7 : mem 221 7 = nI a) (c11 : mem 221 11 = mem0 221 11) (x1 : Option Value) : am_ev kc_X12_go (d + 1) 38 [some (.ref 221), x1] [] (am_SK n) mem Q := by
  have hl := h0.1
  have ht := TpR_G h0 hf
  have hab := tA_b (tp := tp) hp
  refine ev_aload rfl rfl ?_
  refine ev_aload rfl rfl ?_
  refine ev_getI (c := 12) (j := 7) rfl ?_ (hq := k_221 n)
  rw [c7]
  refine ev_putS (c := 12) (j := 8) rfl (fun ma hma => ?_) (hq := k_221 n)
  have d8 : ma 221 8 = nI a := by rw [hma, am_up_eq]
  have d11 : ma 221 11 = mem0 221 11 := by rw [hma, am_up_nk (by decide)]; exact c11
  refine ev_aload rfl rfl ?_
  refine ev_getI (c := 12) (j := 8) rfl ?_ (hq := k_221 n)
  rw [d8]
  refine ev_aload rfl rfl ?_
  refine ev_getI (c := 12) (j := 11) rfl ?_ (hq := k_221 n)
  rw [d11]
  refine ev_icmp_ne (p2 := 61) rfl rfl (fun cnd54 => ?_) (fun cnd54 => ?_)
  · skip
    refine ev_iconst (x := nI 0) rfl rfl ?_
    have hcl := en_close (tp := tp) hE hp hl
    rw [← ha] at hcl
    have hx := l_go62 h0 w p hp hE hQ (mem := ma) (d := d) (by rw [hma]; exact FrX_up hf (by decide)) a ha (by rw [hma, am_up_nk (by decide)]; exact c7) d8 d11 x1
    first
    | (rw [hcl.mp cnd54] at hx; exact hx)
    | (rw [show tG tp tl w p = false from Bool.eq_false_iff.mpr (fun z => cnd54 (hcl.mpr z))] at hx; exact hx)
  · skip
    refine ev_iconst (x := nI 1) rfl rfl ?_
    refine ev_goto (p2 := 62) rfl rfl ?_
    have hcl := en_close (tp := tp) hE hp hl
    rw [← ha] at hcl
    have hx := l_go62 h0 w p hp hE hQ (mem := ma) (d := d) (by rw [hma]; exact FrX_up hf (by decide)) a ha (by rw [hma, am_up_nk (by decide)]; exact c7) d8 d11 x1
    first
    | (rw [hcl.mp cnd54] at hx; exact hx)
    | (rw [show tG tp tl w p = false from Bool.eq_false_iff.mpr (fun z => cnd54 (hcl.mpr z))] at hx; exact hx)
theorem l_go0 {d n : Nat} {tp : Nat → Nat} {tl : Nat} {mem0 : am_M} {Q : am_P} (h0 : TpR tp tl mem0) (w : Bool) (p : Nat) (hp : p ≤ tl) (hE : EN w p mem0) (hQ : ∀ m2 : am_M, FrX mem0 m2 → RT tp tl w p m2 → Q none (am_SK n) m2) (x1 : Option Value) (r : Nat) : ∀ (mem : am_M) (a : Nat) (hb : a + r = tl) (hf : FrX mem0 mem) (c7 : mem 221 7 = nI a) (c11 : mem 221 11 = mem0 221 11) (hN : skp tp r a = tA tp tl p), am_ev kc_X12_go (d + 1) 0 [some (.ref 221), x1] [] (am_SK n) mem Q := by
  induction r with
  | zero =>
    intro mem a hb hf c7 c11 hN
    have hl := h0.1
    have ht := TpR_G h0 hf
    have hab := tA_b (tp := tp) hp
    refine ev_aload rfl rfl ?_
    refine ev_getI (c := 12) (j := 7) rfl ?_ (hq := k_221 n)
    rw [c7]
    refine ev_aload rfl rfl ?_
    refine ev_getI (c := 12) (j := 6) rfl ?_ (hq := k_221 n)
    rw [ht.2.1]
    refine ev_icmp_geN (p2 := 38) rfl rfl (fun cnd8 => ?_) (fun cnd8 => ?_)
    · skip
      exact l_go38 h0 w p hp hE hQ hf a hN c7 c11 x1
    · omega
  | succ r ih =>
    intro mem a hb hf c7 c11 hN
    have hl := h0.1
    have ht := TpR_G h0 hf
    have hab := tA_b (tp := tp) hp
    refine ev_aload rfl rfl ?_
    refine ev_getI (c := 12) (j := 7) rfl ?_ (hq := k_221 n)
    rw [c7]
    refine ev_aload rfl rfl ?_
    refine ev_getI (c := 12) (j := 6) rfl ?_ (hq := k_221 n)
    rw [ht.2.1]
    refine ev_icmp_geN (p2 := 38) rfl rfl (fun cnd8 => ?_) (fun cnd8 => ?_)
    · omega
    · skip
      refine ev_aload rfl rfl ?_
      refine ev_getR (c := 12) (j := 5) rfl ?_ (hq := k_221 n)
      refine ev_aload rfl rfl ?_
      refine ev_getI (c := 12) (j := 7) rfl ?_ (hq := k_221 n)
      rw [c7]
      refine ev_ialdN rfl rfl ?_ (hq := k_226 n)
      rw [ht.2.2.1 a (by omega)]
      have h7 := ht.2.2.2 a (by omega)
      refine ev_iconst (x := nI 32) rfl rfl ?_
      refine ev_icmp_neN (p2 := 38) rfl rfl (fun cnd22 => ?_) (fun cnd22 => ?_)
      · skip
        exact l_go38 h0 w p hp hE hQ hf a (by rw [← hN]; unfold skp; rw [if_neg cnd22]) c7 c11 x1
      · skip
        refine ev_aload rfl rfl ?_
        first | refine ev_dupR rfl ?_ | refine ev_dupI rfl ?_
        refine ev_getI (c := 12) (j := 7) rfl ?_ (hq := k_221 n)
        rw [c7]
        refine ev_iconst (x := nI 1) rfl rfl ?_
        refine ev_iaddN rfl ?_
        refine ev_put (c := 12) (j := 7) rfl ?_ (hq := k_221 n)
        refine ev_goto (p2 := 0) rfl rfl ?_
        refine ih _ (a + 1) (by omega) (FrX_up hf (by decide)) am_up_eq (by rw [am_up_nk (by decide)]; exact c11) ?_
        rw [← hN]
        conv => rhs; unfold skp
        rw [if_pos cnd22]
theorem c_X12_go {d n : Nat} {tp : Nat → Nat} {tl : Nat} {mem : am_M} {Q : am_P} (h0 : TpR tp tl mem) (w : Bool) (p : Nat) (hp : p ≤ tl) (hE : EN w p mem) (c7 : mem 221 7 = nI p) (hQ : ∀ m2 : am_M, FrX mem m2 → RT tp tl w p m2 → Q none (am_SK n) m2) : am_ex (d + 2) 187 [.ref 221] (am_SK n) mem Q := by
  refine ex_in (c0 := kc_X12_go) rfl (L := [some (.ref 221), none]) rfl ?_
  exact l_go0 h0 w p hp hE hQ none (tl - p) mem p (by omega) (FrX_r mem) c7 rfl rfl
