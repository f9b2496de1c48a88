/-! texts: a text of the tape, on both sides -/
theorem c_X8_become {d n : Nat} {mem : am_M} {Q : am_P} (u : Nat) (hu : u < 14) (hQ : ∀ m2 : am_M, (∀ q, q ≠ 34 + 2 * u → q ≠ 35 + 2 * u → m2 q = mem q) → m2 (34 + 2 * u) 0 = mem 64 0 → m2 (34 + 2 * u) 1 = mem 64 1 → m2 (34 + 2 * u) 2 = mem 64 2 → (∀ k, k < 96 → m2 (35 + 2 * u) k = mem 65 k) → Q none (am_SK n) m2) : am_ex (d + 1) 49 [.ref (34 + 2 * u), .ref 64] (am_SK n) mem Q := by
  refine ex_in (c0 := kc_X8_become) rfl (L := [some (.ref (34 + 2 * u)), some (.ref 64)]) rfl ?_
  refine ev_aload rfl rfl ?_
  refine ev_aload rfl rfl ?_
  refine ev_getI (c := 8) (j := 0) rfl ?_ (hq := k_64 n)
  refine ev_putS (c := 8) (j := 0) rfl (fun ma hma => ?_) (hq := kb_text n (by omega))
  refine ev_aload rfl rfl ?_
  refine ev_aload rfl rfl ?_
  refine ev_getI (c := 8) (j := 1) rfl ?_ (hq := k_64 n)
  refine ev_putS (c := 8) (j := 1) rfl (fun mb hmb => ?_) (hq := kb_text n (by omega))
  refine ev_aload rfl rfl ?_
  refine ev_aload rfl rfl ?_
  refine ev_getI (c := 8) (j := 2) rfl ?_ (hq := k_64 n)
  refine ev_putS (c := 8) (j := 2) rfl (fun mc hmc => ?_) (hq := kb_text n (by omega))
  refine ev_aload rfl rfl ?_
  refine ev_getR (c := 8) (j := 3) rfl ?_ (hq := k_64 n)
  refine ev_iconst (x := nI 0) rfl rfl ?_
  refine ev_aload rfl rfl ?_
  refine ev_getR (c := 8) (j := 3) rfl ?_ (hq := kb_text n (by omega))
  refine ev_iconst (x := nI 0) rfl rfl ?_
  refine ev_iconst (x := nI 96) rfl rfl ?_
  refine ev_copyS rfl (fun md hmd => ?_) (k_65 n) (kb_code n (by omega))
  refine ev_vret rfl ?_
  have e64a : ma 64 = mem 64 := by rw [hma, am_up_ne (by omega)]
  have e64b : mb 64 = mem 64 := by rw [hmb, am_up_ne (by omega), e64a]
  refine hQ md (fun q h1 h2 => by rw [hmd, am_cp_ne h2, hmc, am_up_ne h1, hmb, am_up_ne h1, hma, am_up_ne h1]) ?_ ?_ ?_ (fun k hk => ?_)
  · rw [hmd, am_cp_ne (by omega), hmc, am_up_nk (by decide), hmb, am_up_nk (by decide), hma, am_up_eq]
  · rw [hmd, am_cp_ne (by omega), hmc, am_up_nk (by decide), hmb, am_up_eq, e64a]
  · rw [hmd, am_cp_ne (by omega), hmc, am_up_eq, e64b]
  · rw [hmd, am_cp_in hk, hmc, am_up_ne (by omega), hmb, am_up_ne (by omega), hma, am_up_ne (by omega)]
def FrE (B m : am_M) : Prop := (∀ q, q ≠ 62 → q ≠ 64 → q ≠ 65 → m q = B q) ∧ m 62 1 = nI 0
def TxF (tp : Nat → Nat) (tl p2 : Nat) : Prop := (p2 = 0 ∧ (tF tp tl 0 ≠ 1 ∨ ∀ i, i < 4 → wdb tp tl i 0 = false)) ∨ ∃ key, Kgd tp tl key ∧ Fl tp tl key true (tN tp tl 0) [] [] 0 false [] true p2
def TxG (tp : Nat → Nat) (tl key : Nat) (out : List Int32) (na : Nat) : Prop := Kgd tp tl key ∧ out.length ≤ 96 ∧ okL (nmK key) out ∧ dpL out = 1 ∧ Ac tp tl key out na
def NwT (B m : am_M) (u key : Nat) (out : List Int32) (na : Nat) : Prop := (∀ q, q ≠ 62 → q ≠ 64 → q ≠ 65 → q ≠ 34 + 2 * u → q ≠ 35 + 2 * u → q ≠ 66 → q ≠ 72 → m q = B q) ∧ m 62 1 = nI 0 ∧ (∀ k, k ≠ 14 → m 66 k = B 66 k) ∧ m 66 14 = nI (u + 1) ∧ (∀ k, k ≠ key → m 72 k = B 72 k) ∧ m 72 key = nI u ∧ m (34 + 2 * u) 0 = nI key ∧ m (34 + 2 * u) 1 = nI na ∧ m (34 + 2 * u) 2 = nI out.length ∧ stkAt (m (35 + 2 * u)) (out.map (S_enc key))
theorem stkAt_cg {g h : am_R} : ∀ {l : List Int32}, stkAt g l → (∀ k, k < l.length → h k = g k) → stkAt h l
  | [], _, _ => trivial
  | a :: r, hs, e => ⟨(e r.length (Nat.lt_succ_self _)).trans hs.1, stkAt_cg hs.2 (fun k hk => e k (Nat.lt_succ_of_lt hk))⟩
theorem c_X11_text {d n : Nat} {mem : am_M} {Q : am_P} {tp : Nat → Nat} {tl : Nat} (hT : TpC tp tl mem) (hS : StrM mem) (u : Nat) (hu : u ≤ 14) (h14 : mem 66 14 = nI u) (hQf : ∀ (p2 : Nat) (m2 : am_M), tA tp tl p2 ≤ 96 → TxF tp tl p2 → FrE mem m2 → Q (some (.int (-100 - nI (tA tp tl p2)))) (am_SK n) m2) (hQ1 : ∀ (key : Nat) (out : List Int32) (na : Nat) (m2 : am_M), TxG tp tl key out na → u = 14 → FrE mem m2 → Q (some (.int (-1000000003))) (am_SK n) m2) (hQ : ∀ (key : Nat) (out : List Int32) (na : Nat) (m2 : am_M), TxG tp tl key out na → u < 14 → NwT mem m2 u key out na → Q (some (.int (nI u))) (am_SK n) m2) : am_ex (d + 102) 100 [.ref 29] (am_SK n) mem Q := by
  refine ex_in (c0 := kc_X11_text) rfl (L := [some (.ref 29), none, none]) rfl ?_
  refine ev_aload rfl rfl ?_
  refine ev_getR (c := 11) (j := 1) rfl ?_ (hq := k_29 n)
  refine ev_call rfl rfl ?_
  refine c_X5_read hT hS (fun r ma hRd => ?_)
  change am_ev _ _ _ _ [_] _ _ _
  refine ev_istore rfl rfl (Nat.le_of_ble_eq_true rfl) ?_
  refine ev_aload rfl rfl ?_
  refine ev_getR (c := 11) (j := 1) rfl ?_ (hq := k_29 n)
  refine ev_iconst (x := nI 0) rfl rfl ?_
  refine ev_putS (c := 5) (j := 1) rfl (fun mb hmb => ?_) (hq := k_62 n)
  have hE : FrE mem mb := And.intro (fun q h1 h2 h3 => by rw [hmb, am_up_ne h1]; exact hRd.1.1 q h1 h2 h3) (by rw [hmb, am_up_eq])
  refine ev_iload rfl rfl ?_
  refine ev_if_lt (p2 := 25) rfl rfl (fun cnd17 => ?_) (fun cnd17 => ?_)
  · skip
    obtain ⟨p2, e, hA, hz⟩ | ⟨e, key, out, na, hKg, hD, hol, hok, hdp, hAc⟩ := hRd.2
    · rw [e] at cnd17; exact absurd cnd17 (nI_pos (by omega))
    have hG : TxG tp tl key out na := And.intro hKg (And.intro hol (And.intro hok (And.intro hdp hAc)))
    have hDb : CD key out na mb := CD_62 hD (by rw [hmb, am_up_ne (by decide)]) (by rw [hmb, am_up_ne (by decide)])
    have hub : mb 66 14 = nI u := by rw [hE.1 66 (by decide) (by decide) (by decide)]; exact h14
    have hk4 := hKg.1
    refine ev_aload rfl rfl ?_
    refine ev_getR (c := 11) (j := 2) rfl ?_ (hq := k_29 n)
    refine ev_getI (c := 9) (j := 14) rfl ?_ (hq := kt_0 n am_T66)
    rw [hub]
    refine ev_iconst (x := nI 14) rfl rfl ?_
    refine ev_icmp_ltN (p2 := 40) rfl rfl (fun cnd34 => ?_) (fun cnd34 => ?_)
    · skip
      refine ev_aload rfl rfl ?_
      refine ev_getR (c := 11) (j := 2) rfl ?_ (hq := k_29 n)
      refine ev_getI (c := 9) (j := 14) rfl ?_ (hq := kt_0 n am_T66)
      rw [hub]
      refine ev_istore rfl rfl (Nat.le_of_ble_eq_true rfl) ?_
      refine ev_aload rfl rfl ?_
      refine ev_getR (c := 11) (j := 0) rfl ?_ (hq := k_29 n)
      refine ev_getR (c := 0) (j := 0) rfl ?_ (hq := k_30 n)
      refine ev_iload rfl rfl ?_
      refine ev_aldN rfl rfl ?_ (kr_text (by omega)) (hq := k_31 n)
      refine ev_aload rfl rfl ?_
      refine ev_getR (c := 11) (j := 1) rfl ?_ (hq := k_29 n)
      refine ev_getR (c := 5) (j := 2) rfl ?_ (hq := k_62 n)
      refine ev_callV rfl rfl rfl rfl (Nat.le_of_ble_eq_true rfl) (Nat.le_of_ble_eq_true rfl) ?_ (hq := kb_text n (by omega))
      refine c_X8_become u (by omega) (fun mc f1 f2 f3 f4 f5 => ?_)
      change am_ev _ _ _ _ [] _ _ _
      refine ev_aload rfl rfl ?_
      refine ev_getR (c := 11) (j := 2) rfl ?_ (hq := k_29 n)
      refine ev_getR (c := 9) (j := 15) rfl ?_ (hq := kt_0 n am_T66)
      refine ev_aload rfl rfl ?_
      refine ev_getR (c := 11) (j := 1) rfl ?_ (hq := k_29 n)
      refine ev_getR (c := 5) (j := 2) rfl ?_ (hq := k_62 n)
      refine ev_getI (c := 8) (j := 0) rfl ?_ (hq := k_64 n)
      rw [(show mc 64 0 = nI key by rw [f1 64 (by omega) (by omega)]; exact hDb.1)]
      refine ev_iload rfl rfl ?_
      refine ev_iastS rfl (fun me hme => ?_) (hq := kt_6 n am_T66)
      refine ev_aload rfl rfl ?_
      refine ev_getR (c := 11) (j := 2) rfl ?_ (hq := k_29 n)
      refine ev_iload rfl rfl ?_
      refine ev_iconst (x := nI 1) rfl rfl ?_
      refine ev_iaddN rfl ?_
      refine ev_putS (c := 9) (j := 14) rfl (fun mf hmf => ?_) (hq := kt_0 n am_T66)
      refine ev_iload rfl rfl ?_
      refine ev_iret rfl ?_
      refine hQ key out na mf hG (by omega) (And.intro ?_ (And.intro ?_ (And.intro ?_ (And.intro ?_ (And.intro ?_ (And.intro ?_ (And.intro ?_ (And.intro ?_ (And.intro ?_ ?_)))))))))
      · intro q h1 h2 h3 h4 h5 h6 h7
        rw [hmf, am_up_ne h6, hme, am_up_ne h7, f1 q h4 h5, hE.1 q h1 h2 h3]
      · rw [hmf, am_up_ne (by decide), hme, am_up_ne (by decide), f1 62 (by omega) (by omega)]; exact hE.2
      · intro k hk
        rw [hmf, am_up_nk hk, hme, am_up_ne (by decide), f1 66 (by omega) (by omega), hE.1 66 (by decide) (by decide) (by decide)]
      · rw [hmf, am_up_eq]
      · intro k hk
        rw [hmf, am_up_ne (by decide), hme, am_up_nk hk, f1 72 (by omega) (by omega), hE.1 72 (by decide) (by decide) (by decide)]
      · rw [hmf, am_up_ne (by decide), hme, am_up_eq]
      · rw [hmf, am_up_ne (by omega), hme, am_up_ne (by omega), f2]; exact hDb.1
      · rw [hmf, am_up_ne (by omega), hme, am_up_ne (by omega), f3]; exact hDb.2.1
      · rw [hmf, am_up_ne (by omega), hme, am_up_ne (by omega), f4]; exact hDb.2.2.1
      · rw [hmf, am_up_ne (by omega), hme, am_up_ne (by omega)]
        exact stkAt_cg hDb.2.2.2 (fun k hk => f5 k (by rw [List.length_map] at hk; omega))
    · skip
      refine ev_iconst (x := (-1000000003)) rfl rfl ?_
      refine ev_iret rfl ?_
      exact hQ1 key out na mb hG (by omega) hE
  · skip
    refine ev_iconst (x := (-100)) rfl rfl ?_
    refine ev_iload rfl rfl ?_
    refine ev_isub rfl ?_
    refine ev_iret rfl ?_
    rcases hRd.2 with ⟨p2, e, hA, hz⟩ | ⟨e, _⟩
    · rw [e]; exact hQf p2 mb hA hz hE
    · exact absurd (by rw [e]; decide) cnd17
theorem FrT_t {a b c : am_M} (f : FrT a b) (g : FrT b c) : FrT a c := ⟨fun q h1 h2 => (g.1 q h1 h2).trans (f.1 q h1 h2), fun k h1 h2 h3 h4 => (g.2 k h1 h2 h3 h4).trans (f.2 k h1 h2 h3 h4)⟩
def FrU (B m : am_M) : Prop := (∀ q, q ≠ 221 → ¬ (229 ≤ q ∧ q ≤ 231) → m q = B q) ∧ (∀ k, ¬ (6 ≤ k ∧ k ≤ 12) → k ≠ 16 → k ≠ 17 → k ≠ 19 → m 221 k = B 221 k) ∧ m 221 6 = nI 0
theorem tG_0 (tp : Nat → Nat) (tl p : Nat) : tG tp tl false p = false := rfl
theorem c_X12_textF {d n : Nat} {mem : am_M} {Q : am_P} {tp : Nat → Nat} {tl : Nat} (hT : TpR tp tl mem) (hK : KyM mem) (p2 : Nat) (hF : TxF tp tl p2) (hQ : ∀ m2 : am_M, FrU mem m2 → Q (some (.int (-100 - nI (tA tp tl p2)))) (am_SK n) m2) : am_ex (d + 9) 196 [.ref 221] (am_SK n) mem Q := by
  refine ex_in (c0 := kc_X12_text) rfl (L := [some (.ref 221), none, none, none]) rfl ?_
  refine ev_aload rfl rfl ?_
  refine ev_iconst (x := nI 0) rfl rfl ?_
  refine ev_putS (c := 12) (j := 7) rfl (fun ma hma => ?_) (hq := k_221 n)
  refine ev_aload rfl rfl ?_
  refine ev_iconst (x := (-1)) rfl rfl ?_
  refine ev_putS (c := 12) (j := 11) rfl (fun mb hmb => ?_) (hq := k_221 n)
  refine ev_aload rfl rfl ?_
  refine ev_call rfl rfl ?_
  have hfb : FrT mem mb := by rw [hmb, hma]; exact FrT_u (FrT_u (FrT_r mem) (by decide)) (by decide)
  have hEN : EN false 0 mb := And.intro (fun z => absurd z (by decide)) (fun _ => Or.inl (by rw [hmb, am_up_eq]))
  refine c_X12_go (TpR_T hT hfb) false 0 (Nat.zero_le _) hEN (by rw [hmb, am_up_nk (by decide), hma, am_up_eq]) (fun mc g1 g2 => ?_)
  have hfc : FrT mem mc := FrT_G hfb g1
  have hTc := TpR_T hT hfc
  have hKc := KyM_T hK hfc
  change am_ev _ _ _ _ [] _ _ _
  refine ev_aload rfl rfl ?_
  refine ev_call rfl rfl ?_
  rcases hF with ⟨e0, hz⟩ | ⟨key, hKg, hFl⟩
  · subst e0
    refine c_takesKey0 hTc hKc g2 (hz.imp (fun z y => z (tT_1i y).1) id) ?_
    change am_ev _ _ _ _ [_] _ _ _
    refine ev_if_eqN (p2 := 32) rfl rfl (fun _ => ?_) (fun zz => absurd zz (by decide))
    refine ev_iconst (x := nI 0) rfl rfl ?_
    refine ev_istore rfl rfl (Nat.le_of_ble_eq_true rfl) ?_
    refine ev_aload rfl rfl ?_
    refine ev_iconst (x := nI 0) rfl rfl ?_
    refine ev_putS (c := 12) (j := 6) rfl (fun mz hmz => ?_) (hq := k_221 n)
    refine ev_iload rfl rfl ?_
    refine ev_if_neN (p2 := 51) rfl rfl (fun zz => absurd zz (by decide)) (fun _ => ?_)
    refine ev_iconst (x := (-100)) rfl rfl ?_
    refine ev_aload rfl rfl ?_
    refine ev_getI (c := 12) (j := 8) rfl ?_ (hq := k_221 n)
    rw [(show mz 221 8 = nI (tA tp tl 0) by rw [hmz, am_up_nk (by decide)]; exact g2.2.1)]
    refine ev_isub rfl ?_
    refine ev_iret rfl ?_
    exact hQ mz (And.intro (fun q a1 a2 => by rw [hmz, am_up_ne a1]; exact hfc.1 q a1 a2) (And.intro (fun k a1 a2 a3 a4 => by rw [hmz, am_up_nk (by omega)]; exact hfc.2 k (by omega) a2 a3 a4) (by rw [hmz, am_up_eq])))
  · refine c_takesKey1 hTc hKc g2 (tT_1 hKg.2.1 (tG_0 tp tl 0)) key hKg.1 hKg.2.2.1 hKg.2.2.2 (fun md e1 e2 e3 => ?_)
    change am_ev _ _ _ _ [_] _ _ _
    refine ev_if_eqN (p2 := 32) rfl rfl (fun zz => absurd zz (by decide)) (fun _ => ?_)
    refine ev_aload rfl rfl ?_
    refine ev_call rfl rfl ?_
    have hfd := FrT_t hfc e1
    refine c_takesE hfd e2 e3 (hFl mem _ _ _ hT (fun me h1 h2 => ?_))
    change am_ev _ _ _ _ [_] _ _ _
    refine ev_if_eqN (p2 := 32) rfl rfl (fun _ => ?_) (fun zz => absurd zz (by decide))
    refine ev_iconst (x := nI 0) rfl rfl ?_
    refine ev_istore rfl rfl (Nat.le_of_ble_eq_true rfl) ?_
    refine ev_aload rfl rfl ?_
    refine ev_iconst (x := nI 0) rfl rfl ?_
    refine ev_putS (c := 12) (j := 6) rfl (fun mz hmz => ?_) (hq := k_221 n)
    refine ev_iload rfl rfl ?_
    refine ev_if_neN (p2 := 51) rfl rfl (fun zz => absurd zz (by decide)) (fun _ => ?_)
    refine ev_iconst (x := (-100)) rfl rfl ?_
    refine ev_aload rfl rfl ?_
    refine ev_getI (c := 12) (j := 8) rfl ?_ (hq := k_221 n)
    rw [(show mz 221 8 = nI (tA tp tl p2) by rw [hmz, am_up_nk (by decide)]; exact h2)]
    refine ev_isub rfl ?_
    refine ev_iret rfl ?_
    exact hQ mz (And.intro (fun q a1 a2 => by rw [hmz, am_up_ne a1]; exact h1.1 q a1 a2) (And.intro (fun k a1 a2 a3 a4 => by rw [hmz, am_up_nk (by omega)]; exact h1.2 k (by omega) a2 a3 a4) (by rw [hmz, am_up_eq])))
def upC (R g : am_R) (u : Nat) : Nat → am_R
  | 0 => R
  | k + 1 => upd (upC R g u k) (217 + 96 * u + k) (g k)
theorem upC_ne {R g : am_R} {u i : Nat} : ∀ {k : Nat}, ¬ (217 + 96 * u ≤ i ∧ i < 217 + 96 * u + k) → upC R g u k i = R i
  | 0, _ => rfl
  | k + 1, h => by
    show upd (upC R g u k) (217 + 96 * u + k) (g k) i = R i
    rw [upd_ne (by omega)]
    exact upC_ne (by omega)
theorem upC_in {R g : am_R} {u j : Nat} : ∀ {k : Nat}, j < k → upC R g u k (217 + 96 * u + j) = g j
  | k + 1, h => by
    show upd (upC R g u k) (217 + 96 * u + k) (g k) (217 + 96 * u + j) = g j
    by_cases e : j = k
    · rw [e]; exact upd_eq
    · rw [upd_ne (by omega)]
      exact upC_in (by omega)
def RTx (R g : am_R) (u key c na : Nat) : am_R := upd (upC (upd (upd R (189 + 2 * u) (nI (1000 * key + c))) (189 + 2 * u + 1) (nI na)) g u c) 6 (nI (u + 1))
def FrV (B m : am_M) : Prop := (∀ q, q ≠ 221 → q ≠ 222 → ¬ (229 ≤ q ∧ q ≤ 231) → m q = B q) ∧ (∀ k, ¬ (6 ≤ k ∧ k ≤ 12) → k ≠ 16 → k ≠ 17 → k ≠ 19 → m 221 k = B 221 k) ∧ m 221 6 = nI 0
theorem l_tx119 {d n : Nat} {B : am_M} {Q : am_P} {R0 R g : am_R} {u c key na : Nat} (hu : u < 14) (hc : c ≤ 96) (h6 : R0 6 = nI u) (hR0 : R0 = upd (upd R (189 + 2 * u) (nI (1000 * key + c))) (189 + 2 * u + 1) (nI na)) (x1 : Option Value) (hQ : ∀ m2 : am_M, FrV B m2 → m2 222 = RTx R g u key c na → Q (some (.int (nI u))) (am_SK n) m2) (r : Nat) : ∀ (mem : am_M) (k : Nat), k + r = c → FrV B mem → mem 221 16 = nI c → mem 229 = g → mem 222 = upC R0 g u k → am_ev kc_X12_text d 119 [some (.ref 221), x1, some (.int (nI u)), some (.int (nI k))] [] (am_SK n) mem Q := by
  induction r with
  | zero =>
    intro mem k hk hf h16 hg hR
    refine ev_iload rfl rfl ?_
    refine ev_aload rfl rfl ?_
    refine ev_getI (c := 12) (j := 16) rfl ?_ (hq := k_221 n)
    rw [h16]
    refine ev_icmp_geN (p2 := 154) rfl rfl (fun cnd124 => ?_) (fun cnd124 => ?_)
    · skip
      have h6k : mem 222 6 = nI u := by rw [hR, upC_ne (by omega)]; exact h6
      refine ev_aload rfl rfl ?_
      refine ev_getR (c := 12) (j := 0) rfl ?_ (hq := k_221 n)
      refine ev_iconst (x := nI 6) rfl rfl ?_
      refine ev_dup2 rfl ?_
      refine ev_ialdN rfl rfl ?_ (hq := k_222 n)
      rw [h6k]
      refine ev_iconst (x := nI 1) rfl rfl ?_
      refine ev_iaddN rfl ?_
      refine ev_iastS rfl (fun mz hmz => ?_) (hq := k_222 n)
      refine ev_iload rfl rfl ?_
      refine ev_iret rfl ?_
      refine hQ mz (And.intro (fun q h1 h2 h3 => by rw [hmz, am_up_ne h2]; exact hf.1 q h1 h2 h3) (And.intro (fun k h1 h2 h3 h4 => by rw [hmz, am_up_ne (by decide)]; exact hf.2.1 k h1 h2 h3 h4) (by rw [hmz, am_up_ne (by decide)]; exact hf.2.2))) ?_
      rw [hmz, am_up_row, hR, show k = c by omega, hR0]
      rfl
    · omega
  | succ r ih =>
    intro mem k hk hf h16 hg hR
    refine ev_iload rfl rfl ?_
    refine ev_aload rfl rfl ?_
    refine ev_getI (c := 12) (j := 16) rfl ?_ (hq := k_221 n)
    rw [h16]
    refine ev_icmp_geN (p2 := 154) rfl rfl (fun cnd124 => ?_) (fun cnd124 => ?_)
    · omega
    · skip
      refine ev_aload rfl rfl ?_
      refine ev_getR (c := 12) (j := 0) rfl ?_ (hq := k_221 n)
      refine ev_iconst (x := nI 217) rfl rfl ?_
      refine ev_iconst (x := nI 96) rfl rfl ?_
      refine ev_iload rfl rfl ?_
      refine ev_imulN rfl ?_
      refine ev_iaddN rfl ?_
      refine ev_iload rfl rfl ?_
      refine ev_iaddN rfl ?_
      refine ev_aload rfl rfl ?_
      refine ev_getR (c := 12) (j := 15) rfl ?_ (hq := k_221 n)
      refine ev_iload rfl rfl ?_
      refine ev_ialdN rfl rfl ?_ (hq := k_229 n)
      rw [(show mem 229 k = g k by rw [hg])]
      refine ev_iastS rfl (fun mz hmz => ?_) (hq := k_222 n)
      refine ev_iincN rfl rfl rfl ?_
      refine ev_goto (p2 := 119) rfl rfl ?_
      refine ih mz (k + 1) (by omega) (And.intro (fun q h1 h2 h3 => by rw [hmz, am_up_ne h2]; exact hf.1 q h1 h2 h3) (And.intro (fun k h1 h2 h3 h4 => by rw [hmz, am_up_ne (by decide)]; exact hf.2.1 k h1 h2 h3 h4) (by rw [hmz, am_up_ne (by decide)]; exact hf.2.2))) (by rw [hmz, am_up_ne (by decide)]; exact h16) (by rw [hmz, am_up_ne (by decide)]; exact hg) ?_
      rw [hmz, am_up_row, hR]
      rfl
theorem c_X12_textG {d n : Nat} {mem : am_M} {Q : am_P} {tp : Nat → Nat} {tl : Nat} (hT : TpR tp tl mem) (hK : KyM mem) (key : Nat) (out : List Int32) (na : Nat) (hG : TxG tp tl key out na) (u : Nat) (hu : u ≤ 14) (h6 : mem 222 6 = nI u) (hQ1 : u = 14 → ∀ m2 : am_M, FrU mem m2 → Q (some (.int (-1000000003))) (am_SK n) m2) (hQ : u < 14 → ∀ (m2 : am_M) (g : am_R), stkAt g out → FrV mem m2 → m2 222 = RTx (mem 222) g u key out.length na → Q (some (.int (nI u))) (am_SK n) m2) : am_ex (d + 9) 196 [.ref 221] (am_SK n) mem Q := by
  obtain ⟨hKg, hol, hok, hdp, hAc⟩ := hG
  have hk4 := hKg.1
  refine ex_in (c0 := kc_X12_text) rfl (L := [some (.ref 221), none, none, none]) rfl ?_
  refine ev_aload rfl rfl ?_
  refine ev_iconst (x := nI 0) rfl rfl ?_
  refine ev_putS (c := 12) (j := 7) rfl (fun ma hma => ?_) (hq := k_221 n)
  refine ev_aload rfl rfl ?_
  refine ev_iconst (x := (-1)) rfl rfl ?_
  refine ev_putS (c := 12) (j := 11) rfl (fun mb hmb => ?_) (hq := k_221 n)
  refine ev_aload rfl rfl ?_
  refine ev_call rfl rfl ?_
  have hfb : FrT mem mb := by rw [hmb, hma]; exact FrT_u (FrT_u (FrT_r mem) (by decide)) (by decide)
  have hEN : EN false 0 mb := And.intro (fun z => absurd z (by decide)) (fun _ => Or.inl (by rw [hmb, am_up_eq]))
  refine c_X12_go (TpR_T hT hfb) false 0 (Nat.zero_le _) hEN (by rw [hmb, am_up_nk (by decide), hma, am_up_eq]) (fun mc g1 g2 => ?_)
  have hfc : FrT mem mc := FrT_G hfb g1
  have hTc := TpR_T hT hfc
  have hKc := KyM_T hK hfc
  change am_ev _ _ _ _ [] _ _ _
  refine ev_aload rfl rfl ?_
  refine ev_call rfl rfl ?_
  refine c_takesKey1 hTc hKc g2 (tT_1 hKg.2.1 (tG_0 tp tl 0)) key hKg.1 hKg.2.2.1 hKg.2.2.2 (fun md e1 e2 e3 => ?_)
  change am_ev _ _ _ _ [_] _ _ _
  refine ev_if_eqN (p2 := 32) rfl rfl (fun zz => absurd zz (by decide)) (fun _ => ?_)
  refine ev_aload rfl rfl ?_
  refine ev_call rfl rfl ?_
  have hfd := FrT_t hfc e1
  refine c_takesE hfd e2 e3 (hAc mem _ _ _ hT (fun me t9 h1 h2 => ?_))
  change am_ev _ _ _ _ [_] _ _ _
  refine ev_if_eqN (p2 := 32) rfl rfl (fun zz => absurd zz (by decide)) (fun _ => ?_)
  refine ev_iconst (x := nI 1) rfl rfl ?_
  refine ev_goto (p2 := 33) rfl rfl ?_
  refine ev_istore rfl rfl (Nat.le_of_ble_eq_true rfl) ?_
  refine ev_aload rfl rfl ?_
  refine ev_iconst (x := nI 0) rfl rfl ?_
  refine ev_putS (c := 12) (j := 6) rfl (fun mz hmz => ?_) (hq := k_221 n)
  refine ev_iload rfl rfl ?_
  refine ev_if_neN (p2 := 51) rfl rfl (fun _ => ?_) (fun zz => absurd zz (by decide))
  have e16 : mz 221 16 = nI out.length := by rw [hmz, am_up_nk (by decide)]; exact h2.2.1.1
  have e12 : mz 221 12 = nI key := by rw [hmz, am_up_nk (by decide)]; exact h2.1
  have e17 : mz 221 17 = nI na := by rw [hmz, am_up_nk (by decide)]; exact h2.2.2.1
  have e222 : mz 222 = mem 222 := by rw [hmz, am_up_ne (by decide)]; exact h1.1 222 (by decide) (by decide)
  have e6 : mz 222 6 = nI u := by rw [e222]; exact h6
  refine ev_aload rfl rfl ?_
  refine ev_getR (c := 12) (j := 0) rfl ?_ (hq := k_221 n)
  refine ev_iconst (x := nI 6) rfl rfl ?_
  refine ev_ialdN rfl rfl ?_ (hq := k_222 n)
  rw [e6]
  refine ev_iconst (x := nI 14) rfl rfl ?_
  refine ev_icmp_neN (p2 := 66) rfl rfl (fun cnd60 => ?_) (fun cnd60 => ?_)
  · skip
    refine ev_aload rfl rfl ?_
    refine ev_getR (c := 12) (j := 0) rfl ?_ (hq := k_221 n)
    refine ev_iconst (x := nI 6) rfl rfl ?_
    refine ev_ialdN rfl rfl ?_ (hq := k_222 n)
    rw [e6]
    refine ev_istore rfl rfl (Nat.le_of_ble_eq_true rfl) ?_
    refine ev_aload rfl rfl ?_
    refine ev_getR (c := 12) (j := 0) rfl ?_ (hq := k_221 n)
    refine ev_iconst (x := nI 189) rfl rfl ?_
    refine ev_iconst (x := nI 2) rfl rfl ?_
    refine ev_iload rfl rfl ?_
    refine ev_imulN rfl ?_
    refine ev_iaddN rfl ?_
    refine ev_iconst (x := nI 1000) rfl rfl ?_
    refine ev_aload rfl rfl ?_
    refine ev_getI (c := 12) (j := 12) rfl ?_ (hq := k_221 n)
    rw [e12]
    refine ev_imulN rfl ?_
    refine ev_aload rfl rfl ?_
    refine ev_getI (c := 12) (j := 16) rfl ?_ (hq := k_221 n)
    rw [e16]
    refine ev_iaddN rfl ?_
    refine ev_iastS rfl (fun mp hmp => ?_) (hq := k_222 n)
    refine ev_aload rfl rfl ?_
    refine ev_getR (c := 12) (j := 0) rfl ?_ (hq := k_221 n)
    refine ev_iconst (x := nI 189) rfl rfl ?_
    refine ev_iconst (x := nI 2) rfl rfl ?_
    refine ev_iload rfl rfl ?_
    refine ev_imulN rfl ?_
    refine ev_iaddN rfl ?_
    refine ev_iconst (x := nI 1) rfl rfl ?_
    refine ev_iaddN rfl ?_
    refine ev_aload rfl rfl ?_
    refine ev_getI (c := 12) (j := 17) rfl ?_ (hq := k_221 n)
    rw [(show mp 221 17 = nI na by rw [hmp, am_up_ne (by decide)]; exact e17)]
    refine ev_iastS rfl (fun mq hmq => ?_) (hq := k_222 n)
    refine ev_iconst (x := nI 0) rfl rfl ?_
    refine ev_istore rfl rfl (Nat.le_of_ble_eq_true rfl) ?_
    refine l_tx119 (B := mem) (R := mem 222) (g := me 229) (c := out.length) (key := key) (na := na) (R0 := mq 222) (by omega) hol ?_ ?_ _ (fun m2 v1 v2 => hQ (by omega) m2 (me 229) h2.2.1.2 v1 v2) out.length mq 0 (by omega) ?_ ?_ ?_ rfl
    · rw [hmq, am_up_nk (by omega), hmp, am_up_nk (by omega)]; exact e6
    · rw [hmq, am_up_row, hmp, am_up_row, e222]
    · refine And.intro (fun q a1 a2 a3 => ?_) (And.intro (fun k a1 a2 a3 a4 => ?_) ?_)
      · rw [hmq, am_up_ne a2, hmp, am_up_ne a2, hmz, am_up_ne a1]; exact h1.1 q a1 a3
      · rw [hmq, am_up_ne (by decide), hmp, am_up_ne (by decide), hmz, am_up_nk (by omega)]; exact h1.2 k (by omega) a2 a3 a4
      · rw [hmq, am_up_ne (by decide), hmp, am_up_ne (by decide), hmz, am_up_eq]
    · rw [hmq, am_up_ne (by decide), hmp, am_up_ne (by decide)]; exact e16
    · rw [hmq, am_up_ne (by decide), hmp, am_up_ne (by decide), hmz, am_up_ne (by decide)]
  · skip
    refine ev_iconst (x := (-1000000003)) rfl rfl ?_
    refine ev_iret rfl ?_
    exact hQ1 (by omega) mz (And.intro (fun q a1 a2 => by rw [hmz, am_up_ne a1]; exact h1.1 q a1 a2) (And.intro (fun k a1 a2 a3 a4 => by rw [hmz, am_up_nk (by omega)]; exact h1.2 k (by omega) a2 a3 a4) (by rw [hmz, am_up_eq])))
