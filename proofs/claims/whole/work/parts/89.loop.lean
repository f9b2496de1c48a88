/-! texts: the reference's loop, step by step -/
theorem cntN_app {P S : List Int32} (h : ∀ c, c ∈ P → c ≠ -10) : cntN (P ++ S) = cntN S := by
  induction P with
  | nil => rfl
  | cons c P ih =>
    show cntN (P ++ S) + (if c = -10 then 1 else 0) = cntN S
    rw [ih (fun x hx => h x (List.mem_cons_of_mem _ hx)), if_neg (h c List.mem_cons_self), Nat.add_zero]
section PS
variable {tp : Nat → Nat} {tl p key na : Nat} {w : Bool} {out S : List Int32} {T : List Bool} {B m m2 : am_M}
theorem psh {c : Int32} (hf : FrT B m) (hR : RT tp tl w p m) (hS : RS key out S na T m) (e : m2 = am_up (am_up m 230 S.length c) 221 19 (nI (S.length + 1))) : FrT B m2 ∧ RT tp tl w p m2 ∧ RS key out (c :: S) na T m2 := by
  obtain ⟨h1, h2, h3, h4, h5⟩ := hS
  have e1 : ∀ k, k ≠ 19 → m2 221 k = m 221 k := fun k hk => by rw [e, am_up_nk hk, am_up_ne (by decide)]
  have e2 : ∀ q, q ≠ 221 → q ≠ 230 → m2 q = m q := fun q hq hq2 => by rw [e, am_up_ne hq, am_up_ne hq2]
  refine ⟨by rw [e]; exact FrT_u (FrT_u hf (Or.inl (by decide))) (by decide), RT_fr hR (fun k hk => e1 k (by omega)), by rw [e1 12 (by decide)]; exact h1, ⟨by rw [e1 16 (by decide)]; exact h2.1, by rw [e2 229 (by decide) (by decide)]; exact h2.2⟩, by rw [e1 17 (by decide)]; exact h3, ⟨by rw [e, am_up_eq]; rfl, ?_⟩, by rw [e2 231 (by decide) (by decide)]; exact h5⟩
  rw [e, am_up_ne (by decide)]
  exact stkAt_mem h4.2 rfl
theorem tsh {b : Bool} {x : Int32} (hf : FrT B m) (hR : RT tp tl w p m) (hS : RS key out S na T m) (hx : x = ob b) (e : m2 = am_up m 231 T.length x) : FrT B m2 ∧ RT tp tl w p m2 ∧ RS key out S na (b :: T) m2 := by
  obtain ⟨h1, h2, h3, h4, h5⟩ := hS
  have e2 : ∀ q, q ≠ 231 → m2 q = m q := fun q hq => by rw [e, am_up_ne hq]
  refine ⟨by rw [e]; exact FrT_u hf (Or.inl (by decide)), RT_fr hR (fun k hk => by rw [e2 221 (by decide)]), by rw [e2 221 (by decide)]; exact h1, ⟨by rw [e2 221 (by decide)]; exact h2.1, by rw [e2 229 (by decide)]; exact h2.2⟩, by rw [e2 221 (by decide)]; exact h3, ⟨by rw [e2 221 (by decide)]; exact h4.1, by rw [e2 230 (by decide)]; exact h4.2⟩, ?_⟩
  rw [e, hx]
  exact stkAt_mem h5 (List.length_map _)
theorem tset {b t : Bool} {x : Int32} {T0 : List Bool} (hf : FrT B m) (hR : RT tp tl w p m) (hS : RS key out S na (t :: T0) m) (hx : x = ob b) (e : m2 = am_up m 231 T0.length x) : FrT B m2 ∧ RT tp tl w p m2 ∧ RS key out S na (b :: T0) m2 := by
  obtain ⟨h1, h2, h3, h4, h5⟩ := hS
  exact tsh hf hR ⟨h1, h2, h3, h4, h5.2⟩ hx e
theorem stl {out2 S2 : List Int32} (hf : FrT B m) (hR : RT tp tl w p m) (hS : RS key out S na T m) (f : FrS m m2) (ho : sOut out2 m2) (hs : sStk S2 m2) : FrT B m2 ∧ RT tp tl w p m2 ∧ RS key out2 S2 na T m2 := by
  obtain ⟨h1, h2, h3, h4, h5⟩ := hS
  exact ⟨FrT_S hf f, RT_fr hR (fun k hk => f.2 k (by omega) (by omega)), by rw [f.2 12 (by decide) (by decide)]; exact h1, ho, by rw [f.2 17 (by decide) (by decide)]; exact h3, hs, by rw [f.1 231 (by decide) (by decide)]; exact h5⟩
theorem hlds (hf : FrT B m) (hR : RT tp tl w p m) {c : Int32} (hS : RS key out (c :: S) na T m) (e : m2 = am_up m 221 19 (nI S.length)) : FrT B m2 ∧ RT tp tl w p m2 ∧ RS key out S na T m2 := by
  obtain ⟨h1, h2, h3, h4, h5⟩ := hS
  have e1 : ∀ k, k ≠ 19 → m2 221 k = m 221 k := fun k hk => by rw [e, am_up_nk hk]
  have e2 : ∀ q, q ≠ 221 → m2 q = m q := fun q hq => by rw [e, am_up_ne hq]
  exact ⟨by rw [e]; exact FrT_u hf (by decide), RT_fr hR (fun k hk => e1 k (by omega)), by rw [e1 12 (by decide)]; exact h1, ⟨by rw [e1 16 (by decide)]; exact h2.1, by rw [e2 229 (by decide)]; exact h2.2⟩, by rw [e1 17 (by decide)]; exact h3, ⟨by rw [e, am_up_eq], by rw [e2 230 (by decide)]; exact h4.2.2⟩, by rw [e2 231 (by decide)]; exact h5⟩
end PS
def LoP (tp : Nat → Nat) (tl : Nat) (B : am_M) (key d n : Nat) (w : Bool) (p : Nat) (out S : List Int32) (na : Nat) (t : Bool) (T0 : List Bool) (wants : Bool) (Q : am_P) : Prop := ∀ (mem : am_M) (x4 : Option Value), FrT B mem → RT tp tl w p mem → RS key out S na (t :: T0) mem → am_ev kc_X12_takesE (d + 4) 28 [some (.ref 221), some (.int (nI T0.length)), some (.int (nI (cntN S))), some (.int (ob wants)), x4] [] (am_SK n) mem Q
theorem st_not {tp : Nat → Nat} {tl : Nat} {B : am_M} {key d n : Nat} {Q : am_P} (hB : TpR tp tl B) {w : Bool} {p : Nat} {out S : List Int32} {na : Nat} {t : Bool} {T0 : List Bool} (h3 : tF tp tl p = 3) (hv : tp (tA tp tl p) = 33) (hn : cntN S < 8) (hlen : S.length < 96) (h : LoP tp tl B key d n (tW tp tl p) (tN tp tl p) out (-10 :: S) na t T0 true Q) : LoP tp tl B key d n w p out S na t T0 true Q := by
  intro mem x4 hf hR hS
  have h0 := TpR_T hB hf
  have hl := hB.1
  have hlt := tF_lt (tp := tp) (tl := tl) (p := p) (by omega)
  have hFn : tF tp tl p ≠ 0 := by omega
  have h9 : mem 221 9 = nI 3 := by rw [← tT_3 (w := w) h3]; exact hR.2.2.1
  have h10 : mem 221 10 = nI 33 := by rw [← hv]; exact hR.2.2.2.1 (Or.inr h3)
  refine ev_iload rfl rfl ?_
  refine ev_if_neO (p2 := 39) rfl rfl (fun cnd29 => ?_) (fun cnd29 => ?_)
  · skip
    refine ev_iload rfl rfl ?_
    refine ev_if_eqO (p2 := 180) rfl rfl (fun cnd40 => ?_) (fun cnd40 => ?_)
    · exact absurd cnd40 (by decide)
    · skip
      refine ev_aload rfl rfl ?_
      refine ev_getI (c := 12) (j := 9) rfl ?_ (hq := k_221 n)
      rw [h9]
      refine ev_iconst (x := nI 3) rfl rfl ?_
      refine ev_icmp_neN (p2 := 97) rfl rfl (fun zz => absurd zz (by decide)) (fun _ => ?_)
      refine ev_aload rfl rfl ?_
      refine ev_getI (c := 12) (j := 10) rfl ?_ (hq := k_221 n)
      rw [h10]
      refine ev_iconst (x := nI 33) rfl rfl ?_
      refine ev_icmp_neN (p2 := 97) rfl rfl (fun zz => absurd zz (by decide)) (fun _ => ?_)
      refine ev_iload rfl rfl ?_
      refine ev_iconst (x := nI 8) rfl rfl ?_
      refine ev_icmp_geN (p2 := 97) rfl rfl (fun cnd63 => ?_) (fun cnd63 => ?_)
      · omega
      · skip
        refine ev_aload rfl rfl ?_
        refine ev_getR (c := 12) (j := 18) rfl ?_ (hq := k_221 n)
        refine ev_aload rfl rfl ?_
        refine ev_getI (c := 12) (j := 19) rfl ?_ (hq := k_221 n)
        rw [hS.2.2.2.1.1]
        refine ev_iconst (x := (-10)) rfl rfl ?_
        refine ev_iastS rfl (fun ma hma => ?_) (hq := k_230 n)
        refine ev_aload rfl rfl ?_
        first | refine ev_dupR rfl ?_ | refine ev_dupI rfl ?_
        refine ev_getI (c := 12) (j := 19) rfl ?_ (hq := k_221 n)
        rw [(show ma 221 19 = nI S.length by rw [hma, am_up_ne (by decide)]; exact hS.2.2.2.1.1)]
        refine ev_iconst (x := nI 1) rfl rfl ?_
        refine ev_iaddN rfl ?_
        refine ev_putS (c := 12) (j := 19) rfl (fun mb hmb => ?_) (hq := k_221 n)
        have hk := psh (m2 := mb) (c := -10) hf hR hS (by rw [hmb, hma])
        refine ev_iincN rfl rfl rfl ?_
        refine ev_aload rfl rfl ?_
        refine ev_call rfl rfl ?_
        refine c_goR (TpR_T hB hk.1) hk.2.1 hFn (fun mg g1 g2 => ?_)
        have hz := And.intro (FrT_G hk.1 g1) (And.intro g2 (RS_G hk.2.2 g1))
        change am_ev _ _ _ _ [] _ _ _
        refine ev_goto (p2 := 172) rfl rfl ?_
        refine ev_aload rfl rfl ?_
        refine ev_call rfl rfl ?_
        refine c_X12_notsOpen (S := -10 :: S) hz.2.2.2.2.2.1 (by first | omega | (show _ + 1 ≤ 96; omega)) ?_
        change am_ev _ _ _ _ [_] _ _ _
        refine ev_istore rfl rfl (Nat.le_of_ble_eq_true rfl) ?_
        refine ev_goto (p2 := 28) rfl rfl ?_
        exact h _ _ hz.1 hz.2.1 hz.2.2
  · exact absurd cnd29 (by decide)
theorem st_open {tp : Nat → Nat} {tl : Nat} {B : am_M} {key d n : Nat} {Q : am_P} (hB : TpR tp tl B) {w : Bool} {p : Nat} {out S : List Int32} {na : Nat} {t : Bool} {T0 : List Bool} (h3 : tF tp tl p = 3) (hv : tp (tA tp tl p) = 40) (hn : T0.length < 8) (hlen : S.length < 96) (h : LoP tp tl B key d n (tW tp tl p) (tN tp tl p) out (-11 :: S) na false (t :: T0) true Q) : LoP tp tl B key d n w p out S na t T0 true Q := by
  intro mem x4 hf hR hS
  have h0 := TpR_T hB hf
  have hl := hB.1
  have hlt := tF_lt (tp := tp) (tl := tl) (p := p) (by omega)
  have hFn : tF tp tl p ≠ 0 := by omega
  have h9 : mem 221 9 = nI 3 := by rw [← tT_3 (w := w) h3]; exact hR.2.2.1
  have h10 : mem 221 10 = nI 40 := by rw [← hv]; exact hR.2.2.2.1 (Or.inr h3)
  refine ev_iload rfl rfl ?_
  refine ev_if_neO (p2 := 39) rfl rfl (fun cnd29 => ?_) (fun cnd29 => ?_)
  · skip
    refine ev_iload rfl rfl ?_
    refine ev_if_eqO (p2 := 180) rfl rfl (fun cnd40 => ?_) (fun cnd40 => ?_)
    · exact absurd cnd40 (by decide)
    · skip
      refine ev_aload rfl rfl ?_
      refine ev_getI (c := 12) (j := 9) rfl ?_ (hq := k_221 n)
      rw [h9]
      refine ev_iconst (x := nI 3) rfl rfl ?_
      refine ev_icmp_neN (p2 := 97) rfl rfl (fun zz => absurd zz (by decide)) (fun _ => ?_)
      refine ev_aload rfl rfl ?_
      refine ev_getI (c := 12) (j := 10) rfl ?_ (hq := k_221 n)
      rw [h10]
      refine ev_iconst (x := nI 33) rfl rfl ?_
      refine ev_icmp_neN (p2 := 97) rfl rfl (fun _ => ?_) (fun zz => absurd zz (by decide))
      refine ev_aload rfl rfl ?_
      refine ev_getI (c := 12) (j := 9) rfl ?_ (hq := k_221 n)
      rw [h9]
      refine ev_iconst (x := nI 3) rfl rfl ?_
      refine ev_icmp_neN (p2 := 158) rfl rfl (fun zz => absurd zz (by decide)) (fun _ => ?_)
      refine ev_aload rfl rfl ?_
      refine ev_getI (c := 12) (j := 10) rfl ?_ (hq := k_221 n)
      rw [h10]
      refine ev_iconst (x := nI 40) rfl rfl ?_
      refine ev_icmp_neN (p2 := 158) rfl rfl (fun zz => absurd zz (by decide)) (fun _ => ?_)
      refine ev_iload rfl rfl ?_
      refine ev_iconst (x := nI 8) rfl rfl ?_
      refine ev_icmp_geN (p2 := 158) rfl rfl (fun cnd117 => ?_) (fun cnd117 => ?_)
      · omega
      · skip
        refine ev_aload rfl rfl ?_
        refine ev_getR (c := 12) (j := 18) rfl ?_ (hq := k_221 n)
        refine ev_aload rfl rfl ?_
        refine ev_getI (c := 12) (j := 19) rfl ?_ (hq := k_221 n)
        rw [hS.2.2.2.1.1]
        refine ev_iconst (x := (-11)) rfl rfl ?_
        refine ev_iastS rfl (fun ma hma => ?_) (hq := k_230 n)
        refine ev_aload rfl rfl ?_
        first | refine ev_dupR rfl ?_ | refine ev_dupI rfl ?_
        refine ev_getI (c := 12) (j := 19) rfl ?_ (hq := k_221 n)
        rw [(show ma 221 19 = nI S.length by rw [hma, am_up_ne (by decide)]; exact hS.2.2.2.1.1)]
        refine ev_iconst (x := nI 1) rfl rfl ?_
        refine ev_iaddN rfl ?_
        refine ev_putS (c := 12) (j := 19) rfl (fun mb hmb => ?_) (hq := k_221 n)
        have hk0 := psh (m2 := mb) (c := -11) hf hR hS (by rw [hmb, hma])
        refine ev_iincN rfl rfl rfl ?_
        refine ev_aload rfl rfl ?_
        refine ev_getR (c := 12) (j := 20) rfl ?_ (hq := k_221 n)
        refine ev_iload rfl rfl ?_
        refine ev_iconst (x := nI 0) rfl rfl ?_
        refine ev_zastS rfl (fun mc hmc => ?_) (by decide) (hq := k_231 n)
        have hk := tsh (b := false) hk0.1 hk0.2.1 hk0.2.2 rfl hmc
        refine ev_aload rfl rfl ?_
        refine ev_call rfl rfl ?_
        refine c_goR (TpR_T hB hk.1) hk.2.1 hFn (fun mg g1 g2 => ?_)
        have hz := And.intro (FrT_G hk.1 g1) (And.intro g2 (RS_G hk.2.2 g1))
        change am_ev _ _ _ _ [] _ _ _
        refine ev_goto (p2 := 172) rfl rfl ?_
        refine ev_aload rfl rfl ?_
        refine ev_call rfl rfl ?_
        refine c_X12_notsOpen (S := -11 :: S) hz.2.2.2.2.2.1 (by first | omega | (show _ + 1 ≤ 96; omega)) ?_
        change am_ev _ _ _ _ [_] _ _ _
        refine ev_istore rfl rfl (Nat.le_of_ble_eq_true rfl) ?_
        refine ev_goto (p2 := 28) rfl rfl ?_
        exact h _ _ hz.1 hz.2.1 hz.2.2
  · exact absurd cnd29 (by decide)
theorem st_num {tp : Nat → Nat} {tl : Nat} {B : am_M} {key d n : Nat} {Q : am_P} (hB : TpR tp tl B) {w : Bool} {p : Nat} {out S0 : List Int32} {na : Nat} {t : Bool} {T0 : List Bool} {k : Nat} (hlow : lowH 6 S0) (hlen : out.length + 1 + (List.replicate k (-10) ++ S0).length ≤ 96) (h2 : tT tp tl w p = 2) (v : Int32) (hv : v = nI (nv tp (tA tp tl p) (tN tp tl p - tA tp tl p))) (h : LoP tp tl B key d n true (tN tp tl p) (List.replicate k (-10) ++ (v :: out)) S0 (na + 1) t T0 false Q) : LoP tp tl B key d n w p out (List.replicate k (-10) ++ S0) na t T0 true Q := by
  intro mem x4 hf hR hS
  have h0 := TpR_T hB hf
  have hl := hB.1
  have hle2 : S0.length ≤ 96 := by rw [List.length_append] at hlen; omega
  have h9 : mem 221 9 = nI 2 := by rw [← h2]; exact hR.2.2.1
  refine ev_iload rfl rfl ?_
  refine ev_if_neO (p2 := 39) rfl rfl (fun cnd29 => ?_) (fun cnd29 => ?_)
  · skip
    refine ev_iload rfl rfl ?_
    refine ev_if_eqO (p2 := 180) rfl rfl (fun cnd40 => ?_) (fun cnd40 => ?_)
    · exact absurd cnd40 (by decide)
    · skip
      refine ev_aload rfl rfl ?_
      refine ev_getI (c := 12) (j := 9) rfl ?_ (hq := k_221 n)
      rw [h9]
      refine ev_iconst (x := nI 3) rfl rfl ?_
      refine ev_icmp_neN (p2 := 97) rfl rfl (fun _ => ?_) (fun zz => absurd zz (by decide))
      refine ev_aload rfl rfl ?_
      refine ev_getI (c := 12) (j := 9) rfl ?_ (hq := k_221 n)
      rw [h9]
      refine ev_iconst (x := nI 3) rfl rfl ?_
      refine ev_icmp_neN (p2 := 158) rfl rfl (fun _ => ?_) (fun zz => absurd zz (by decide))
      refine ev_aload rfl rfl ?_
      refine ev_call rfl rfl ?_
      refine tk_num (T := t :: T0) h0 hR hS hlow hlen h2 v hv (fun mg g1 g2 g3 => ?_)
      change am_ev _ _ _ _ [_] _ _ _
      refine ev_if_eqN (p2 := 170) rfl rfl (fun zz => absurd zz (by decide)) (fun _ => ?_)
      refine ev_iconst (x := nI 0) rfl rfl ?_
      refine ev_istore rfl rfl (Nat.le_of_ble_eq_true rfl) ?_
      refine ev_goto (p2 := 172) rfl rfl ?_
      refine ev_aload rfl rfl ?_
      refine ev_call rfl rfl ?_
      refine c_X12_notsOpen (S := S0) g3.2.2.2.1 (by first | omega | (show _ + 1 ≤ 96; omega)) ?_
      change am_ev _ _ _ _ [_] _ _ _
      refine ev_istore rfl rfl (Nat.le_of_ble_eq_true rfl) ?_
      refine ev_goto (p2 := 28) rfl rfl ?_
      exact h _ _ (And.intro (fun q a1 a2 => (g1.1 q a1 a2).trans (hf.1 q a1 a2)) (fun k a1 a2 a3 a4 => (g1.2 k a1 a2 a3 a4).trans (hf.2 k a1 a2 a3 a4))) g2 g3
  · exact absurd cnd29 (by decide)
theorem st_nam {tp : Nat → Nat} {tl : Nat} {B : am_M} {key d n : Nat} {Q : am_P} (hB : TpR tp tl B) {w : Bool} {p : Nat} {out S0 : List Int32} {na : Nat} {t : Bool} {T0 : List Bool} {k : Nat} (hlow : lowH 6 S0) (hlen : out.length + 1 + (List.replicate k (-10) ++ S0).length ≤ 96) (hkey : key < 4) (h2 : tT tp tl w p = 1) (h1 : tN tp tl p - tA tp tl p = 1) (h9n : nmo key (tp (tA tp tl p)) ≠ 9) (v : Int32) (hv : v = nI (10000 + nmo key (tp (tA tp tl p)))) (h : LoP tp tl B key d n true (tN tp tl p) (List.replicate k (-10) ++ (v :: out)) S0 (na + 1) t T0 false Q) : LoP tp tl B key d n w p out (List.replicate k (-10) ++ S0) na t T0 true Q := by
  intro mem x4 hf hR hS
  have h0 := TpR_T hB hf
  have hl := hB.1
  have hle2 : S0.length ≤ 96 := by rw [List.length_append] at hlen; omega
  have h9 : mem 221 9 = nI 1 := by rw [← h2]; exact hR.2.2.1
  refine ev_iload rfl rfl ?_
  refine ev_if_neO (p2 := 39) rfl rfl (fun cnd29 => ?_) (fun cnd29 => ?_)
  · skip
    refine ev_iload rfl rfl ?_
    refine ev_if_eqO (p2 := 180) rfl rfl (fun cnd40 => ?_) (fun cnd40 => ?_)
    · exact absurd cnd40 (by decide)
    · skip
      refine ev_aload rfl rfl ?_
      refine ev_getI (c := 12) (j := 9) rfl ?_ (hq := k_221 n)
      rw [h9]
      refine ev_iconst (x := nI 3) rfl rfl ?_
      refine ev_icmp_neN (p2 := 97) rfl rfl (fun _ => ?_) (fun zz => absurd zz (by decide))
      refine ev_aload rfl rfl ?_
      refine ev_getI (c := 12) (j := 9) rfl ?_ (hq := k_221 n)
      rw [h9]
      refine ev_iconst (x := nI 3) rfl rfl ?_
      refine ev_icmp_neN (p2 := 158) rfl rfl (fun _ => ?_) (fun zz => absurd zz (by decide))
      refine ev_aload rfl rfl ?_
      refine ev_call rfl rfl ?_
      refine tk_nam (T := t :: T0) h0 hR hS hkey hlow hlen h2 h1 h9n v hv (fun mg g1 g2 g3 => ?_)
      change am_ev _ _ _ _ [_] _ _ _
      refine ev_if_eqN (p2 := 170) rfl rfl (fun zz => absurd zz (by decide)) (fun _ => ?_)
      refine ev_iconst (x := nI 0) rfl rfl ?_
      refine ev_istore rfl rfl (Nat.le_of_ble_eq_true rfl) ?_
      refine ev_goto (p2 := 172) rfl rfl ?_
      refine ev_aload rfl rfl ?_
      refine ev_call rfl rfl ?_
      refine c_X12_notsOpen (S := S0) g3.2.2.2.1 (by first | omega | (show _ + 1 ≤ 96; omega)) ?_
      change am_ev _ _ _ _ [_] _ _ _
      refine ev_istore rfl rfl (Nat.le_of_ble_eq_true rfl) ?_
      refine ev_goto (p2 := 28) rfl rfl ?_
      exact h _ _ (And.intro (fun q a1 a2 => (g1.1 q a1 a2).trans (hf.1 q a1 a2)) (fun k a1 a2 a3 a4 => (g1.2 k a1 a2 a3 a4).trans (hf.2 k a1 a2 a3 a4))) g2 g3
  · exact absurd cnd29 (by decide)
theorem fl_want {tp : Nat → Nat} {tl : Nat} {B : am_M} {key d n : Nat} {Q : am_P} (hB : TpR tp tl B) {w : Bool} {p : Nat} {out S : List Int32} {na : Nat} {t : Bool} {T0 : List Bool} (hkey : key < 4) (hn1 : ¬ (tF tp tl p = 3 ∧ tp (tA tp tl p) = 33 ∧ cntN S < 8)) (hn2 : ¬ (tF tp tl p = 3 ∧ tp (tA tp tl p) = 40 ∧ T0.length < 8)) (h2 : tT tp tl w p ≠ 2) (h1 : tT tp tl w p = 1 → tN tp tl p - tA tp tl p = 1 → nmo key (tp (tA tp tl p)) = 9) (hcn : cntN S ≤ 96) (htn : T0.length ≤ 96) (hQ : ∀ m2 : am_M, FrT B m2 → m2 221 8 = nI (tA tp tl p) → Q (some (.int (nI 0))) (am_SK n) m2) : LoP tp tl B key d n w p out S na t T0 true Q := by
  intro mem x4 hf hR hS
  have h0 := TpR_T hB hf
  have hl := hB.1
  have htb := tT_b (tp := tp) (tl := tl) (p := p) (w := w)
  refine ev_iload rfl rfl ?_
  refine ev_if_neO (p2 := 39) rfl rfl (fun cnd29 => ?_) (fun cnd29 => ?_)
  · skip
    refine ev_iload rfl rfl ?_
    refine ev_if_eqO (p2 := 180) rfl rfl (fun cnd40 => ?_) (fun cnd40 => ?_)
    · exact absurd cnd40 (by decide)
    · skip
      refine ev_aload rfl rfl ?_
      refine ev_getI (c := 12) (j := 9) rfl ?_ (hq := k_221 n)
      rw [hR.2.2.1]
      refine ev_iconst (x := nI 3) rfl rfl ?_
      refine ev_icmp_neN (p2 := 97) rfl rfl (fun cnd48 => ?_) (fun cnd48 => ?_)
      · skip
        refine ev_aload rfl rfl ?_
        refine ev_getI (c := 12) (j := 9) rfl ?_ (hq := k_221 n)
        rw [hR.2.2.1]
        refine ev_iconst (x := nI 3) rfl rfl ?_
        refine ev_icmp_neN (p2 := 158) rfl rfl (fun cnd102 => ?_) (fun cnd102 => ?_)
        · skip
          refine ev_aload rfl rfl ?_
          refine ev_call rfl rfl ?_
          refine tk_no h0 hR hkey hS.1 h2 h1 ?_
          change am_ev _ _ _ _ [_] _ _ _
          refine ev_if_eqN (p2 := 170) rfl rfl (fun _ => ?_) (fun zz => absurd zz (by decide))
          refine ev_iconst (x := nI 0) rfl rfl ?_
          refine ev_zret rfl ?_
          exact hQ _ hf hR.2.1
        · skip
          have hF3 := tT_3i cnd102
          have hvb := h0.2.2.2 _ (tF_lt (tp := tp) (tl := tl) (p := p) (by omega))
          refine ev_aload rfl rfl ?_
          refine ev_getI (c := 12) (j := 10) rfl ?_ (hq := k_221 n)
          rw [hR.2.2.2.1 (Or.inr hF3)]
          refine ev_iconst (x := nI 40) rfl rfl ?_
          refine ev_icmp_neN (p2 := 158) rfl rfl (fun cnd111 => ?_) (fun cnd111 => ?_)
          · skip
            refine ev_aload rfl rfl ?_
            refine ev_call rfl rfl ?_
            refine tk_no h0 hR hkey hS.1 h2 h1 ?_
            change am_ev _ _ _ _ [_] _ _ _
            refine ev_if_eqN (p2 := 170) rfl rfl (fun _ => ?_) (fun zz => absurd zz (by decide))
            refine ev_iconst (x := nI 0) rfl rfl ?_
            refine ev_zret rfl ?_
            exact hQ _ hf hR.2.1
          · skip
            refine ev_iload rfl rfl ?_
            refine ev_iconst (x := nI 8) rfl rfl ?_
            refine ev_icmp_geN (p2 := 158) rfl rfl (fun cnd117 => ?_) (fun cnd117 => ?_)
            · skip
              refine ev_aload rfl rfl ?_
              refine ev_call rfl rfl ?_
              refine tk_no h0 hR hkey hS.1 h2 h1 ?_
              change am_ev _ _ _ _ [_] _ _ _
              refine ev_if_eqN (p2 := 170) rfl rfl (fun _ => ?_) (fun zz => absurd zz (by decide))
              refine ev_iconst (x := nI 0) rfl rfl ?_
              refine ev_zret rfl ?_
              exact hQ _ hf hR.2.1
            · exact absurd (And.intro hF3 (And.intro cnd111 cnd117)) hn2
      · skip
        have hF3 := tT_3i cnd48
        have hvb := h0.2.2.2 _ (tF_lt (tp := tp) (tl := tl) (p := p) (by omega))
        refine ev_aload rfl rfl ?_
        refine ev_getI (c := 12) (j := 10) rfl ?_ (hq := k_221 n)
        rw [hR.2.2.2.1 (Or.inr hF3)]
        refine ev_iconst (x := nI 33) rfl rfl ?_
        refine ev_icmp_neN (p2 := 97) rfl rfl (fun cnd57 => ?_) (fun cnd57 => ?_)
        · skip
          refine ev_aload rfl rfl ?_
          refine ev_getI (c := 12) (j := 9) rfl ?_ (hq := k_221 n)
          rw [hR.2.2.1]
          refine ev_iconst (x := nI 3) rfl rfl ?_
          refine ev_icmp_neN (p2 := 158) rfl rfl (fun cnd102 => ?_) (fun cnd102 => ?_)
          · skip
            refine ev_aload rfl rfl ?_
            refine ev_call rfl rfl ?_
            refine tk_no h0 hR hkey hS.1 h2 h1 ?_
            change am_ev _ _ _ _ [_] _ _ _
            refine ev_if_eqN (p2 := 170) rfl rfl (fun _ => ?_) (fun zz => absurd zz (by decide))
            refine ev_iconst (x := nI 0) rfl rfl ?_
            refine ev_zret rfl ?_
            exact hQ _ hf hR.2.1
          · skip
            have hF3 := tT_3i cnd102
            have hvb := h0.2.2.2 _ (tF_lt (tp := tp) (tl := tl) (p := p) (by omega))
            refine ev_aload rfl rfl ?_
            refine ev_getI (c := 12) (j := 10) rfl ?_ (hq := k_221 n)
            rw [hR.2.2.2.1 (Or.inr hF3)]
            refine ev_iconst (x := nI 40) rfl rfl ?_
            refine ev_icmp_neN (p2 := 158) rfl rfl (fun cnd111 => ?_) (fun cnd111 => ?_)
            · skip
              refine ev_aload rfl rfl ?_
              refine ev_call rfl rfl ?_
              refine tk_no h0 hR hkey hS.1 h2 h1 ?_
              change am_ev _ _ _ _ [_] _ _ _
              refine ev_if_eqN (p2 := 170) rfl rfl (fun _ => ?_) (fun zz => absurd zz (by decide))
              refine ev_iconst (x := nI 0) rfl rfl ?_
              refine ev_zret rfl ?_
              exact hQ _ hf hR.2.1
            · skip
              refine ev_iload rfl rfl ?_
              refine ev_iconst (x := nI 8) rfl rfl ?_
              refine ev_icmp_geN (p2 := 158) rfl rfl (fun cnd117 => ?_) (fun cnd117 => ?_)
              · skip
                refine ev_aload rfl rfl ?_
                refine ev_call rfl rfl ?_
                refine tk_no h0 hR hkey hS.1 h2 h1 ?_
                change am_ev _ _ _ _ [_] _ _ _
                refine ev_if_eqN (p2 := 170) rfl rfl (fun _ => ?_) (fun zz => absurd zz (by decide))
                refine ev_iconst (x := nI 0) rfl rfl ?_
                refine ev_zret rfl ?_
                exact hQ _ hf hR.2.1
              · exact absurd (And.intro hF3 (And.intro cnd111 cnd117)) hn2
        · skip
          refine ev_iload rfl rfl ?_
          refine ev_iconst (x := nI 8) rfl rfl ?_
          refine ev_icmp_geN (p2 := 97) rfl rfl (fun cnd63 => ?_) (fun cnd63 => ?_)
          · skip
            refine ev_aload rfl rfl ?_
            refine ev_getI (c := 12) (j := 9) rfl ?_ (hq := k_221 n)
            rw [hR.2.2.1]
            refine ev_iconst (x := nI 3) rfl rfl ?_
            refine ev_icmp_neN (p2 := 158) rfl rfl (fun cnd102 => ?_) (fun cnd102 => ?_)
            · skip
              refine ev_aload rfl rfl ?_
              refine ev_call rfl rfl ?_
              refine tk_no h0 hR hkey hS.1 h2 h1 ?_
              change am_ev _ _ _ _ [_] _ _ _
              refine ev_if_eqN (p2 := 170) rfl rfl (fun _ => ?_) (fun zz => absurd zz (by decide))
              refine ev_iconst (x := nI 0) rfl rfl ?_
              refine ev_zret rfl ?_
              exact hQ _ hf hR.2.1
            · skip
              have hF3 := tT_3i cnd102
              have hvb := h0.2.2.2 _ (tF_lt (tp := tp) (tl := tl) (p := p) (by omega))
              refine ev_aload rfl rfl ?_
              refine ev_getI (c := 12) (j := 10) rfl ?_ (hq := k_221 n)
              rw [hR.2.2.2.1 (Or.inr hF3)]
              refine ev_iconst (x := nI 40) rfl rfl ?_
              refine ev_icmp_neN (p2 := 158) rfl rfl (fun cnd111 => ?_) (fun cnd111 => ?_)
              · skip
                refine ev_aload rfl rfl ?_
                refine ev_call rfl rfl ?_
                refine tk_no h0 hR hkey hS.1 h2 h1 ?_
                change am_ev _ _ _ _ [_] _ _ _
                refine ev_if_eqN (p2 := 170) rfl rfl (fun _ => ?_) (fun zz => absurd zz (by decide))
                refine ev_iconst (x := nI 0) rfl rfl ?_
                refine ev_zret rfl ?_
                exact hQ _ hf hR.2.1
              · skip
                refine ev_iload rfl rfl ?_
                refine ev_iconst (x := nI 8) rfl rfl ?_
                refine ev_icmp_geN (p2 := 158) rfl rfl (fun cnd117 => ?_) (fun cnd117 => ?_)
                · skip
                  refine ev_aload rfl rfl ?_
                  refine ev_call rfl rfl ?_
                  refine tk_no h0 hR hkey hS.1 h2 h1 ?_
                  change am_ev _ _ _ _ [_] _ _ _
                  refine ev_if_eqN (p2 := 170) rfl rfl (fun _ => ?_) (fun zz => absurd zz (by decide))
                  refine ev_iconst (x := nI 0) rfl rfl ?_
                  refine ev_zret rfl ?_
                  exact hQ _ hf hR.2.1
                · exact absurd (And.intro hF3 (And.intro cnd111 cnd117)) hn2
          · exact absurd (And.intro hF3 (And.intro cnd57 cnd63)) hn1
  · exact absurd cnd29 (by decide)
theorem st_close {tp : Nat → Nat} {tl : Nat} {B : am_M} {key d n : Nat} {Q : am_P} (hB : TpR tp tl B) {w : Bool} {p : Nat} {out P S0 : List Int32} {na : Nat} {t : Bool} {T0 : List Bool} {k : Nat} {t2 : Bool} (h3 : tF tp tl p = 3) (hv : tp (tA tp tl p) = 41) (hP : ∀ c, c ∈ P → IsC c) (hlow : lowH 6 S0) (hlen : out.length + (P ++ -11 :: (List.replicate k (-10) ++ S0)).length ≤ 96) (htn : T0.length ≤ 8) (h : LoP tp tl B key d n (tW tp tl p) (tN tp tl p) (List.replicate k (-10) ++ (P.reverse ++ out)) S0 na t T0 false Q) : LoP tp tl B key d n w p out (P ++ -11 :: (List.replicate k (-10) ++ S0)) na t2 (t :: T0) false Q := by
  intro mem x4 hf hR hS
  have h0 := TpR_T hB hf
  have hl := hB.1
  have hlt := tF_lt (tp := tp) (tl := tl) (p := p) (by omega)
  have hFn : tF tp tl p ≠ 0 := by omega
  have h9 : mem 221 9 = nI 3 := by rw [← tT_3 (w := w) h3]; exact hR.2.2.1
  have h10 : mem 221 10 = nI 41 := by rw [← hv]; exact hR.2.2.2.1 (Or.inr h3)
  have hT1 : (t :: T0).length = T0.length + 1 := rfl
  have hlen2 : out.length + (P.length + ((List.replicate k (-10 : Int32) ++ S0).length + 1)) ≤ 96 := by rw [List.length_append] at hlen; exact hlen
  have hlen3 : S0.length ≤ 96 := by rw [List.length_append] at hlen2; omega
  have hlen4 : (P.reverse ++ out).length + (List.replicate k (-10 : Int32) ++ S0).length ≤ 96 := by rw [List.length_append, List.length_reverse]; omega
  have hrep : ∀ c : Int32, c ∈ List.replicate k (-10 : Int32) → IsC c ∧ 6 ≤ rk c := by
    intro c hc
    rw [List.eq_of_mem_replicate hc]
    exact And.intro (by unfold IsC; decide) (by decide)
  refine ev_iload rfl rfl ?_
  refine ev_if_neO (p2 := 39) rfl rfl (fun cnd29 => ?_) (fun cnd29 => ?_)
  · exact absurd cnd29 (by decide)
  · skip
    refine ev_aload rfl rfl ?_
    refine ev_getI (c := 12) (j := 9) rfl ?_ (hq := k_221 n)
    rw [h9]
    refine ev_if_eqN (p2 := 345) rfl rfl (fun zz => absurd zz (by decide)) (fun _ => ?_)
    refine ev_iload rfl rfl ?_
    refine ev_if_eqO (p2 := 180) rfl rfl (fun cnd40 => ?_) (fun cnd40 => ?_)
    · skip
      refine ev_aload rfl rfl ?_
      refine ev_getI (c := 12) (j := 9) rfl ?_ (hq := k_221 n)
      rw [h9]
      refine ev_iconst (x := nI 3) rfl rfl ?_
      refine ev_icmp_neN (p2 := 237) rfl rfl (fun zz => absurd zz (by decide)) (fun _ => ?_)
      refine ev_aload rfl rfl ?_
      refine ev_getI (c := 12) (j := 10) rfl ?_ (hq := k_221 n)
      rw [h10]
      refine ev_iconst (x := nI 41) rfl rfl ?_
      refine ev_icmp_neN (p2 := 237) rfl rfl (fun zz => absurd zz (by decide)) (fun _ => ?_)
      refine ev_iload rfl rfl ?_
      refine ev_if_leN (p2 := 237) rfl rfl (fun cnd198 => ?_) (fun cnd198 => ?_)
      · exact absurd cnd198 (Nat.succ_ne_zero _)
      · skip
        refine ev_aload rfl rfl ?_
        refine ev_iconst (x := nI 0) rfl rfl ?_
        refine ev_call rfl rfl ?_
        refine c_X12_settle 0 (by decide) (S2 := -11 :: (List.replicate k (-10) ++ S0)) (Or.inl rfl) (fun c hc => And.intro (hP c hc) (Nat.zero_le _)) hS.2.1 hS.2.2.2.1 hlen (fun ma f1 f2 f3 => ?_)
        change am_ev _ _ _ _ [] _ _ _
        have hk0 := stl hf hR hS f1 f2 f3
        refine ev_aload rfl rfl ?_
        first | refine ev_dupR rfl ?_ | refine ev_dupI rfl ?_
        refine ev_getI (c := 12) (j := 19) rfl ?_ (hq := k_221 n)
        rw [(show ma 221 19 = nI ((List.replicate k (-10) ++ S0).length + 1) from f3.1)]
        refine ev_iconst (x := nI 1) rfl rfl ?_
        refine ev_isubN rfl ?_
        refine ev_putS (c := 12) (j := 19) rfl (fun mb hmb => ?_) (hq := k_221 n)
        have hk1 := hlds (c := -11) hk0.1 hk0.2.1 hk0.2.2 hmb
        refine ev_iincD rfl rfl rfl ?_
        refine ev_aload rfl rfl ?_
        refine ev_iconst (x := nI 6) rfl rfl ?_
        refine ev_call rfl rfl ?_
        refine c_X12_settle 6 (by decide) hlow hrep hk1.2.2.2.1 hk1.2.2.2.2.2.1 hlen4 (fun md e1 e2 e3 => ?_)
        rw [List.reverse_replicate] at e2
        have hk := stl hk1.1 hk1.2.1 hk1.2.2 e1 e2 e3
        change am_ev _ _ _ _ [] _ _ _
        refine ev_aload rfl rfl ?_
        refine ev_call rfl rfl ?_
        refine c_X12_notsOpen (S := S0) e3 (by first | omega | (show _ + 1 ≤ 96; omega)) ?_
        change am_ev _ _ _ _ [_] _ _ _
        refine ev_istore rfl rfl (Nat.le_of_ble_eq_true rfl) ?_
        refine ev_aload rfl rfl ?_
        refine ev_call rfl rfl ?_
        refine c_goR (TpR_T hB hk.1) hk.2.1 hFn (fun mg g1 g2 => ?_)
        have hz := And.intro (FrT_G hk.1 g1) (And.intro g2 (RS_G hk.2.2 g1))
        change am_ev _ _ _ _ [] _ _ _
        refine ev_goto (p2 := 28) rfl rfl ?_
        exact h _ _ hz.1 hz.2.1 (And.intro hz.2.2.1 (And.intro hz.2.2.2.1 (And.intro hz.2.2.2.2.1 (And.intro hz.2.2.2.2.2.1 hz.2.2.2.2.2.2.2))))
    · exact absurd cnd40 (by decide)
set_option maxRecDepth 8000 in
theorem l_op305 {tp : Nat → Nat} {tl : Nat} {B : am_M} {key d n : Nat} {Q : am_P} (hB : TpR tp tl B) {w : Bool} {p : Nat} {out P S2 : List Int32} {na : Nat} {t : Bool} {T0 : List Bool} (h3 : tF tp tl p = 3) (hc0 : sg tp tl p ≠ 0) (hP : ∀ c, c ∈ P → IsC c ∧ rk (sg tp tl p) ≤ rk c) (hlow : lowH (rk (sg tp tl p)) S2) (hlen : out.length + (P ++ S2).length < 96) (htn : T0.length ≤ 8) (h : LoP tp tl B key d n (tW tp tl p) (tN tp tl p) (P.reverse ++ out) (sg tp tl p :: S2) na (decide (rk (sg tp tl p) = 3) || (decide (3 < rk (sg tp tl p)) && t)) T0 true Q) {mem : am_M} (hf : FrT B mem) (hR : RT tp tl w p mem) (hS : RS key out (P ++ S2) na (t :: T0) mem) (x3 : Option Value) (x : Int32) (hx : x = ob (decide (rk (sg tp tl p) = 3) || (decide (3 < rk (sg tp tl p)) && t))) : am_ev kc_X12_takesE (d + 4) 305 [some (.ref 221), some (.int (nI T0.length)), some (.int (nI (cntN (sg tp tl p :: S2)))), x3, some (.int (sg tp tl p))] [.int x, .int (nI T0.length), .ref 231] (am_SK n) mem Q := by
  have h0 := TpR_T hB hf
  have hl := hB.1
  have hlt := tF_lt (tp := tp) (tl := tl) (p := p) (by omega)
  have hFn : tF tp tl p ≠ 0 := by omega
  have hcI : IsC (sg tp tl p) := by
    have e : sg tp tl p = sgc (tp (tA tp tl p)) := if_pos h3
    rw [e] at hc0 ⊢
    have h := (sgc_e _ (h0.2.2.2 _ hlt) hc0).2
    unfold IsC
    rcases h with h | h | h | h | h | h | h | h | h <;> simp [h]
  have hrk := rk_b (sg tp tl p)
  have hl2 : S2.length < 96 := by rw [List.length_append] at hlen; omega
  refine ev_zastS rfl (fun ma hma => ?_) (by rw [hx]; exact ob01 _) (hq := k_231 n)
  have hk0 := tset hf hR hS hx hma
  refine ev_aload rfl rfl ?_
  refine ev_iload rfl rfl ?_
  refine ev_call rfl rfl ?_
  refine c_X12_rank _ hcI ?_
  change am_ev _ _ _ _ [_, _] _ _ _
  refine ev_call rfl rfl ?_
  refine c_X12_settle (rk (sg tp tl p)) (by omega) hlow hP hk0.2.2.2.1 hk0.2.2.2.2.2.1 (by omega) (fun md e1 e2 e3 => ?_)
  have hk1 := stl hk0.1 hk0.2.1 hk0.2.2 e1 e2 e3
  change am_ev _ _ _ _ [] _ _ _
  refine ev_aload rfl rfl ?_
  refine ev_getR (c := 12) (j := 18) rfl ?_ (hq := k_221 n)
  refine ev_aload rfl rfl ?_
  refine ev_getI (c := 12) (j := 19) rfl ?_ (hq := k_221 n)
  rw [e3.1]
  refine ev_iload rfl rfl ?_
  refine ev_iastS rfl (fun mb hmb => ?_) (hq := k_230 n)
  skip
  refine ev_aload rfl rfl ?_
  first | refine ev_dupR rfl ?_ | refine ev_dupI rfl ?_
  refine ev_getI (c := 12) (j := 19) rfl ?_ (hq := k_221 n)
  rw [(show mb 221 19 = nI S2.length by rw [hmb, am_up_ne (by decide)]; exact e3.1)]
  refine ev_iconst (x := nI 1) rfl rfl ?_
  refine ev_iaddN rfl ?_
  refine ev_putS (c := 12) (j := 19) rfl (fun mc hmc => ?_) (hq := k_221 n)
  have hk := psh (m2 := mc) (c := sg tp tl p) hk1.1 hk1.2.1 hk1.2.2 (by rw [hmc, hmb])
  refine ev_iconst (x := nI 1) rfl rfl ?_
  refine ev_istore rfl rfl (Nat.le_of_ble_eq_true rfl) ?_
  refine ev_aload rfl rfl ?_
  refine ev_call rfl rfl ?_
  refine c_goR (TpR_T hB hk.1) hk.2.1 hFn (fun mg g1 g2 => ?_)
  have hz := And.intro (FrT_G hk.1 g1) (And.intro g2 (RS_G hk.2.2 g1))
  change am_ev _ _ _ _ [] _ _ _
  refine ev_goto (p2 := 28) rfl rfl ?_
  exact h _ _ hz.1 hz.2.1 hz.2.2
set_option maxRecDepth 8000 in
theorem l_op268 {tp : Nat → Nat} {tl : Nat} {B : am_M} {key d n : Nat} {Q : am_P} (hB : TpR tp tl B) {w : Bool} {p : Nat} {out P S2 : List Int32} {na : Nat} {t : Bool} {T0 : List Bool} (h3 : tF tp tl p = 3) (hc0 : sg tp tl p ≠ 0) (hP : ∀ c, c ∈ P → IsC c ∧ rk (sg tp tl p) ≤ rk c) (hlow : lowH (rk (sg tp tl p)) S2) (hlen : out.length + (P ++ S2).length < 96) (htn : T0.length ≤ 8) (h : LoP tp tl B key d n (tW tp tl p) (tN tp tl p) (P.reverse ++ out) (sg tp tl p :: S2) na (decide (rk (sg tp tl p) = 3) || (decide (3 < rk (sg tp tl p)) && t)) T0 true Q) {mem : am_M} (hf : FrT B mem) (hR : RT tp tl w p mem) (hS : RS key out (P ++ S2) na (t :: T0) mem) (x3 : Option Value)  : am_ev kc_X12_takesE (d + 4) 268 [some (.ref 221), some (.int (nI T0.length)), some (.int (nI (cntN (sg tp tl p :: S2)))), x3, some (.int (sg tp tl p))] [] (am_SK n) mem Q := by
  have h0 := TpR_T hB hf
  have hl := hB.1
  have hlt := tF_lt (tp := tp) (tl := tl) (p := p) (by omega)
  have hFn : tF tp tl p ≠ 0 := by omega
  have hcI : IsC (sg tp tl p) := by
    have e : sg tp tl p = sgc (tp (tA tp tl p)) := if_pos h3
    rw [e] at hc0 ⊢
    have h := (sgc_e _ (h0.2.2.2 _ hlt) hc0).2
    unfold IsC
    rcases h with h | h | h | h | h | h | h | h | h <;> simp [h]
  have hrk := rk_b (sg tp tl p)
  have hl2 : S2.length < 96 := by rw [List.length_append] at hlen; omega
  have ht : mem 231 T0.length = ob t := by have z := hS.2.2.2.2.1; rw [List.length_map] at z; exact z
  refine ev_aload rfl rfl ?_
  refine ev_getR (c := 12) (j := 20) rfl ?_ (hq := k_221 n)
  refine ev_iload rfl rfl ?_
  refine ev_iload rfl rfl ?_
  refine ev_call rfl rfl ?_
  refine c_X12_rank _ hcI ?_
  change am_ev _ _ _ _ [_, _, _] _ _ _
  refine ev_iconst (x := nI 3) rfl rfl ?_
  refine ev_icmp_eqN (p2 := 300) rfl rfl (fun cnd279 => ?_) (fun cnd279 => ?_)
  · skip
    refine ev_iconst (x := nI 1) rfl rfl ?_
    refine ev_goto (p2 := 305) rfl rfl ?_
    refine l_op305 hB h3 hc0 hP hlow hlen htn h hf hR hS _ _ ?_
    first
    | (rw [decide_eq_true (show rk (sg tp tl p) = 3 by omega)]; rfl)
    | (rw [decide_eq_false (show ¬ rk (sg tp tl p) = 3 by omega), decide_eq_false (show ¬ 3 < rk (sg tp tl p) by omega)]; rfl)
    | (rw [decide_eq_false (show ¬ rk (sg tp tl p) = 3 by omega), decide_eq_true (show 3 < rk (sg tp tl p) by omega), cnd297]; rfl)
  · skip
    refine ev_iload rfl rfl ?_
    refine ev_call rfl rfl ?_
    refine c_X12_rank _ hcI ?_
    change am_ev _ _ _ _ [_, _, _] _ _ _
    refine ev_iconst (x := nI 3) rfl rfl ?_
    refine ev_icmp_leN (p2 := 304) rfl rfl (fun cnd288 => ?_) (fun cnd288 => ?_)
    · skip
      refine ev_iconst (x := nI 0) rfl rfl ?_
      refine l_op305 hB h3 hc0 hP hlow hlen htn h hf hR hS _ _ ?_
      first
      | (rw [decide_eq_true (show rk (sg tp tl p) = 3 by omega)]; rfl)
      | (rw [decide_eq_false (show ¬ rk (sg tp tl p) = 3 by omega), decide_eq_false (show ¬ 3 < rk (sg tp tl p) by omega)]; rfl)
      | (rw [decide_eq_false (show ¬ rk (sg tp tl p) = 3 by omega), decide_eq_true (show 3 < rk (sg tp tl p) by omega), cnd297]; rfl)
    · skip
      refine ev_aload rfl rfl ?_
      refine ev_getR (c := 12) (j := 20) rfl ?_ (hq := k_221 n)
      refine ev_iload rfl rfl ?_
      refine ev_zaldN rfl rfl ?_ (hq := k_231 n)
      rw [ht]
      refine ev_if_eqO (p2 := 304) rfl rfl (fun cnd297 => ?_) (fun cnd297 => ?_)
      · skip
        refine ev_iconst (x := nI 0) rfl rfl ?_
        refine l_op305 hB h3 hc0 hP hlow hlen htn h hf hR hS _ _ ?_
        first
        | (rw [decide_eq_true (show rk (sg tp tl p) = 3 by omega)]; rfl)
        | (rw [decide_eq_false (show ¬ rk (sg tp tl p) = 3 by omega), decide_eq_false (show ¬ 3 < rk (sg tp tl p) by omega)]; rfl)
        | (rw [decide_eq_false (show ¬ rk (sg tp tl p) = 3 by omega), decide_eq_true (show 3 < rk (sg tp tl p) by omega), cnd297]; rfl)
      · skip
        refine ev_iconst (x := nI 1) rfl rfl ?_
        refine ev_goto (p2 := 305) rfl rfl ?_
        refine l_op305 hB h3 hc0 hP hlow hlen htn h hf hR hS _ _ ?_
        first
        | (rw [decide_eq_true (show rk (sg tp tl p) = 3 by omega)]; rfl)
        | (rw [decide_eq_false (show ¬ rk (sg tp tl p) = 3 by omega), decide_eq_false (show ¬ 3 < rk (sg tp tl p) by omega)]; rfl)
        | (rw [decide_eq_false (show ¬ rk (sg tp tl p) = 3 by omega), decide_eq_true (show 3 < rk (sg tp tl p) by omega), cnd297]; rfl)
set_option maxRecDepth 8000 in
theorem st_op {tp : Nat → Nat} {tl : Nat} {B : am_M} {key d n : Nat} {Q : am_P} (hB : TpR tp tl B) {w : Bool} {p : Nat} {out P S2 : List Int32} {na : Nat} {t : Bool} {T0 : List Bool} (h3 : tF tp tl p = 3) (hc0 : sg tp tl p ≠ 0) (hP : ∀ c, c ∈ P → IsC c ∧ rk (sg tp tl p) ≤ rk c) (hlow : lowH (rk (sg tp tl p)) S2) (hlen : out.length + (P ++ S2).length < 96) (htn : T0.length ≤ 8) (hP10 : ∀ c, c ∈ P → c ≠ -10) (htt : ¬ (rk (sg tp tl p) = 3 ∧ t = true)) (h : LoP tp tl B key d n (tW tp tl p) (tN tp tl p) (P.reverse ++ out) (sg tp tl p :: S2) na (decide (rk (sg tp tl p) = 3) || (decide (3 < rk (sg tp tl p)) && t)) T0 true Q) : LoP tp tl B key d n w p out (P ++ S2) na t T0 false Q := by
  intro mem x4 hf hR hS
  have h0 := TpR_T hB hf
  have hl := hB.1
  have hlt := tF_lt (tp := tp) (tl := tl) (p := p) (by omega)
  have hFn : tF tp tl p ≠ 0 := by omega
  have hcI : IsC (sg tp tl p) := by
    have e : sg tp tl p = sgc (tp (tA tp tl p)) := if_pos h3
    rw [e] at hc0 ⊢
    have h := (sgc_e _ (h0.2.2.2 _ hlt) hc0).2
    unfold IsC
    rcases h with h | h | h | h | h | h | h | h | h <;> simp [h]
  have hrk := rk_b (sg tp tl p)
  have hl2 : S2.length < 96 := by rw [List.length_append] at hlen; omega
  have h9 : mem 221 9 = nI 3 := by rw [← tT_3 (w := w) h3]; exact hR.2.2.1
  have hv41 : tp (tA tp tl p) ≠ 41 := by
    intro z
    refine hc0 ?_
    unfold sg
    rw [if_pos h3, z]
    rfl
  have hvb := h0.2.2.2 _ hlt
  have h10 : mem 221 10 = nI (tp (tA tp tl p)) := hR.2.2.2.1 (Or.inr h3)
  have ht : mem 231 T0.length = ob t := by have z := hS.2.2.2.2.1; rw [List.length_map] at z; exact z
  have hcn : cntN (P ++ S2) = cntN (sg tp tl p :: S2) := by
    rw [cntN_app hP10]
    show _ = cntN S2 + (if sg tp tl p = -10 then 1 else 0)
    rw [if_neg ?_, Nat.add_zero]
    intro z
    have e : sg tp tl p = sgc (tp (tA tp tl p)) := if_pos h3
    have hq := (sgc_e _ hvb (by rw [← e]; exact hc0)).2
    rw [← e, z] at hq
    exact absurd hq (by decide)
  rw [hcn]
  refine ev_iload rfl rfl ?_
  refine ev_if_neO (p2 := 39) rfl rfl (fun cnd29 => ?_) (fun cnd29 => ?_)
  · exact absurd cnd29 (by decide)
  · skip
    refine ev_aload rfl rfl ?_
    refine ev_getI (c := 12) (j := 9) rfl ?_ (hq := k_221 n)
    rw [h9]
    refine ev_if_eqN (p2 := 345) rfl rfl (fun zz => absurd zz (by decide)) (fun _ => ?_)
    refine ev_iload rfl rfl ?_
    refine ev_if_eqO (p2 := 180) rfl rfl (fun cnd40 => ?_) (fun cnd40 => ?_)
    · skip
      refine ev_aload rfl rfl ?_
      refine ev_getI (c := 12) (j := 9) rfl ?_ (hq := k_221 n)
      rw [h9]
      refine ev_iconst (x := nI 3) rfl rfl ?_
      refine ev_icmp_neN (p2 := 237) rfl rfl (fun zz => absurd zz (by decide)) (fun _ => ?_)
      refine ev_aload rfl rfl ?_
      refine ev_getI (c := 12) (j := 10) rfl ?_ (hq := k_221 n)
      rw [h10]
      refine ev_iconst (x := nI 41) rfl rfl ?_
      refine ev_icmp_neN (p2 := 237) rfl rfl (fun cnd194 => ?_) (fun cnd194 => ?_)
      · skip
        refine ev_aload rfl rfl ?_
        refine ev_call rfl rfl ?_
        refine c_sgn h0 hR ?_
        change am_ev _ _ _ _ [_] _ _ _
        refine ev_istore rfl rfl (Nat.le_of_ble_eq_true rfl) ?_
        refine ev_iload rfl rfl ?_
        refine ev_if_eq (p2 := 266) rfl rfl (fun cnd245 => ?_) (fun cnd245 => ?_)
        · exact absurd cnd245 hc0
        · skip
          refine ev_iload rfl rfl ?_
          refine ev_call rfl rfl ?_
          refine c_X12_rank _ hcI ?_
          change am_ev _ _ _ _ [_] _ _ _
          refine ev_iconst (x := nI 3) rfl rfl ?_
          refine ev_icmp_neN (p2 := 268) rfl rfl (fun cnd254 => ?_) (fun cnd254 => ?_)
          · skip
            exact l_op268 hB h3 hc0 hP hlow hlen htn h hf hR hS _
          · skip
            refine ev_aload rfl rfl ?_
            refine ev_getR (c := 12) (j := 20) rfl ?_ (hq := k_221 n)
            refine ev_iload rfl rfl ?_
            refine ev_zaldN rfl rfl ?_ (hq := k_231 n)
            rw [ht]
            refine ev_if_eqO (p2 := 268) rfl rfl (fun cnd263 => ?_) (fun cnd263 => ?_)
            · skip
              exact l_op268 hB h3 hc0 hP hlow hlen htn h hf hR hS _
            · exact absurd (And.intro cnd254 cnd263) htt
      · exact absurd cnd194 hv41
    · exact absurd cnd40 (by decide)
set_option maxRecDepth 8000 in
theorem fl_op {tp : Nat → Nat} {tl : Nat} {B : am_M} {key d n : Nat} {Q : am_P} (hB : TpR tp tl B) {w : Bool} {p : Nat} {out S : List Int32} {na : Nat} {t : Bool} {T0 : List Bool} (hF : tF tp tl p ≠ 0) (hnc : ¬ (tF tp tl p = 3 ∧ tp (tA tp tl p) = 41 ∧ 0 < T0.length)) (hc : sg tp tl p = 0 ∨ (IsC (sg tp tl p) ∧ rk (sg tp tl p) = 3 ∧ t = true)) (htn : T0.length ≤ 8) (hQ : ∀ m2 : am_M, FrT B m2 → m2 221 8 = nI (tA tp tl p) → Q (some (.int (nI 0))) (am_SK n) m2) : LoP tp tl B key d n w p out S na t T0 false Q := by
  intro mem x4 hf hR hS
  have h0 := TpR_T hB hf
  have hl := hB.1
  have htb := tT_b (tp := tp) (tl := tl) (p := p) (w := w)
  have ht : mem 231 T0.length = ob t := by have z := hS.2.2.2.2.1; rw [List.length_map] at z; exact z
  refine ev_iload rfl rfl ?_
  refine ev_if_neO (p2 := 39) rfl rfl (fun cnd29 => ?_) (fun cnd29 => ?_)
  · exact absurd cnd29 (by decide)
  · skip
    refine ev_aload rfl rfl ?_
    refine ev_getI (c := 12) (j := 9) rfl ?_ (hq := k_221 n)
    rw [hR.2.2.1]
    refine ev_if_eqN (p2 := 345) rfl rfl (fun cnd36 => ?_) (fun cnd36 => ?_)
    · exact absurd (tT_0i cnd36) hF
    · skip
      refine ev_iload rfl rfl ?_
      refine ev_if_eqO (p2 := 180) rfl rfl (fun cnd40 => ?_) (fun cnd40 => ?_)
      · skip
        refine ev_aload rfl rfl ?_
        refine ev_getI (c := 12) (j := 9) rfl ?_ (hq := k_221 n)
        rw [hR.2.2.1]
        refine ev_iconst (x := nI 3) rfl rfl ?_
        refine ev_icmp_neN (p2 := 237) rfl rfl (fun cnd185 => ?_) (fun cnd185 => ?_)
        · skip
          refine ev_aload rfl rfl ?_
          refine ev_call rfl rfl ?_
          refine c_sgn h0 hR ?_
          change am_ev _ _ _ _ [_] _ _ _
          refine ev_istore rfl rfl (Nat.le_of_ble_eq_true rfl) ?_
          refine ev_iload rfl rfl ?_
          refine ev_if_eq (p2 := 266) rfl rfl (fun cnd245 => ?_) (fun cnd245 => ?_)
          · skip
            refine ev_iconst (x := nI 0) rfl rfl ?_
            refine ev_zret rfl ?_
            exact hQ _ hf hR.2.1
          · skip
            obtain ⟨hc1, hc2, hc3⟩ := hc.resolve_left cnd245
            refine ev_iload rfl rfl ?_
            refine ev_call rfl rfl ?_
            refine c_X12_rank _ hc1 ?_
            have hrk := rk_b (sg tp tl p)
            change am_ev _ _ _ _ [_] _ _ _
            refine ev_iconst (x := nI 3) rfl rfl ?_
            refine ev_icmp_neN (p2 := 268) rfl rfl (fun cnd254 => ?_) (fun cnd254 => ?_)
            · exact absurd hc2 cnd254
            · skip
              refine ev_aload rfl rfl ?_
              refine ev_getR (c := 12) (j := 20) rfl ?_ (hq := k_221 n)
              refine ev_iload rfl rfl ?_
              refine ev_zaldN rfl rfl ?_ (hq := k_231 n)
              rw [ht]
              refine ev_if_eqO (p2 := 268) rfl rfl (fun cnd263 => ?_) (fun cnd263 => ?_)
              · exact absurd (cnd263.symm.trans hc3) (by decide)
              · skip
                refine ev_iconst (x := nI 0) rfl rfl ?_
                refine ev_zret rfl ?_
                exact hQ _ hf hR.2.1
        · skip
          have hF3 := tT_3i cnd185
          have hvb := h0.2.2.2 _ (tF_lt (tp := tp) (tl := tl) (p := p) (by omega))
          refine ev_aload rfl rfl ?_
          refine ev_getI (c := 12) (j := 10) rfl ?_ (hq := k_221 n)
          rw [hR.2.2.2.1 (Or.inr hF3)]
          refine ev_iconst (x := nI 41) rfl rfl ?_
          refine ev_icmp_neN (p2 := 237) rfl rfl (fun cnd194 => ?_) (fun cnd194 => ?_)
          · skip
            refine ev_aload rfl rfl ?_
            refine ev_call rfl rfl ?_
            refine c_sgn h0 hR ?_
            change am_ev _ _ _ _ [_] _ _ _
            refine ev_istore rfl rfl (Nat.le_of_ble_eq_true rfl) ?_
            refine ev_iload rfl rfl ?_
            refine ev_if_eq (p2 := 266) rfl rfl (fun cnd245 => ?_) (fun cnd245 => ?_)
            · skip
              refine ev_iconst (x := nI 0) rfl rfl ?_
              refine ev_zret rfl ?_
              exact hQ _ hf hR.2.1
            · skip
              obtain ⟨hc1, hc2, hc3⟩ := hc.resolve_left cnd245
              refine ev_iload rfl rfl ?_
              refine ev_call rfl rfl ?_
              refine c_X12_rank _ hc1 ?_
              have hrk := rk_b (sg tp tl p)
              change am_ev _ _ _ _ [_] _ _ _
              refine ev_iconst (x := nI 3) rfl rfl ?_
              refine ev_icmp_neN (p2 := 268) rfl rfl (fun cnd254 => ?_) (fun cnd254 => ?_)
              · exact absurd hc2 cnd254
              · skip
                refine ev_aload rfl rfl ?_
                refine ev_getR (c := 12) (j := 20) rfl ?_ (hq := k_221 n)
                refine ev_iload rfl rfl ?_
                refine ev_zaldN rfl rfl ?_ (hq := k_231 n)
                rw [ht]
                refine ev_if_eqO (p2 := 268) rfl rfl (fun cnd263 => ?_) (fun cnd263 => ?_)
                · exact absurd (cnd263.symm.trans hc3) (by decide)
                · skip
                  refine ev_iconst (x := nI 0) rfl rfl ?_
                  refine ev_zret rfl ?_
                  exact hQ _ hf hR.2.1
          · skip
            refine ev_iload rfl rfl ?_
            refine ev_if_leN (p2 := 237) rfl rfl (fun cnd198 => ?_) (fun cnd198 => ?_)
            · skip
              refine ev_aload rfl rfl ?_
              refine ev_call rfl rfl ?_
              refine c_sgn h0 hR ?_
              change am_ev _ _ _ _ [_] _ _ _
              refine ev_istore rfl rfl (Nat.le_of_ble_eq_true rfl) ?_
              refine ev_iload rfl rfl ?_
              refine ev_if_eq (p2 := 266) rfl rfl (fun cnd245 => ?_) (fun cnd245 => ?_)
              · skip
                refine ev_iconst (x := nI 0) rfl rfl ?_
                refine ev_zret rfl ?_
                exact hQ _ hf hR.2.1
              · skip
                obtain ⟨hc1, hc2, hc3⟩ := hc.resolve_left cnd245
                refine ev_iload rfl rfl ?_
                refine ev_call rfl rfl ?_
                refine c_X12_rank _ hc1 ?_
                have hrk := rk_b (sg tp tl p)
                change am_ev _ _ _ _ [_] _ _ _
                refine ev_iconst (x := nI 3) rfl rfl ?_
                refine ev_icmp_neN (p2 := 268) rfl rfl (fun cnd254 => ?_) (fun cnd254 => ?_)
                · exact absurd hc2 cnd254
                · skip
                  refine ev_aload rfl rfl ?_
                  refine ev_getR (c := 12) (j := 20) rfl ?_ (hq := k_221 n)
                  refine ev_iload rfl rfl ?_
                  refine ev_zaldN rfl rfl ?_ (hq := k_231 n)
                  rw [ht]
                  refine ev_if_eqO (p2 := 268) rfl rfl (fun cnd263 => ?_) (fun cnd263 => ?_)
                  · exact absurd (cnd263.symm.trans hc3) (by decide)
                  · skip
                    refine ev_iconst (x := nI 0) rfl rfl ?_
                    refine ev_zret rfl ?_
                    exact hQ _ hf hR.2.1
            · exact absurd (And.intro hF3 (And.intro cnd194 cnd198)) hnc
      · exact absurd cnd40 (by decide)
set_option maxRecDepth 8000 in
theorem fl_end {tp : Nat → Nat} {tl : Nat} {B : am_M} {key d n : Nat} {Q : am_P} (hB : TpR tp tl B) {w : Bool} {p : Nat} {out P S1 : List Int32} {na : Nat} {t : Bool} {T0 : List Bool} {t2 : Bool} (hF : tF tp tl p = 0) (hP : ∀ c, c ∈ P → IsC c) (hlen : out.length + (P ++ -11 :: S1).length ≤ 96) (htn : T0.length ≤ 8) (hQ : ∀ m2 : am_M, FrT B m2 → m2 221 8 = nI (tA tp tl p) → Q (some (.int (nI 0))) (am_SK n) m2) : LoP tp tl B key d n w p out (P ++ -11 :: S1) na t2 (t :: T0) false Q := by
  intro mem x4 hf hR hS
  have h0 := TpR_T hB hf
  have hT1 : (t :: T0).length = T0.length + 1 := rfl
  have h9 : mem 221 9 = nI 0 := by rw [← tT_0 (w := w) hF]; exact hR.2.2.1
  refine ev_iload rfl rfl ?_
  refine ev_if_neO (p2 := 39) rfl rfl (fun cnd29 => ?_) (fun cnd29 => ?_)
  · exact absurd cnd29 (by decide)
  · skip
    refine ev_aload rfl rfl ?_
    refine ev_getI (c := 12) (j := 9) rfl ?_ (hq := k_221 n)
    rw [h9]
    refine ev_if_eqN (p2 := 345) rfl rfl (fun _ => ?_) (fun zz => absurd zz (by decide))
    refine ev_aload rfl rfl ?_
    refine ev_iconst (x := nI 0) rfl rfl ?_
    refine ev_call rfl rfl ?_
    refine c_X12_settle 0 (by decide) (S2 := -11 :: S1) (Or.inl rfl) (fun c hc => And.intro (hP c hc) (Nat.zero_le _)) hS.2.1 hS.2.2.2.1 hlen (fun ma f1 f2 f3 => ?_)
    have hk := stl hf hR hS f1 f2 f3
    change am_ev _ _ _ _ [] _ _ _
    refine ev_iload rfl rfl ?_
    refine ev_if_neN (p2 := 358) rfl rfl (fun cnd351 => ?_) (fun cnd351 => ?_)
    · skip
      refine ev_iconst (x := nI 0) rfl rfl ?_
      refine ev_zret rfl ?_
      exact hQ _ hk.1 hk.2.1.2.1
    · exact absurd cnd351 (Nat.succ_ne_zero _)
set_option maxRecDepth 8000 in
theorem st_end {tp : Nat → Nat} {tl : Nat} {B : am_M} {key d n : Nat} {Q : am_P} (hB : TpR tp tl B) {w : Bool} {p : Nat} {out P : List Int32} {na : Nat} {t : Bool} (hF : tF tp tl p = 0) (hP : ∀ c, c ∈ P → IsC c) (hlen : out.length + P.length ≤ 96) (hQ : ∀ m2 : am_M, FrT B m2 → RS key (P.reverse ++ out) [] na [t] m2 → Q (some (.int (nI 1))) (am_SK n) m2) : LoP tp tl B key d n w p out P na t [] false Q := by
  intro mem x4 hf hR hS
  have h0 := TpR_T hB hf
  have h9 : mem 221 9 = nI 0 := by rw [← tT_0 (w := w) hF]; exact hR.2.2.1
  change am_ev _ _ _ [_, some (.int (nI 0)), _, _, _] _ _ _ _
  refine ev_iload rfl rfl ?_
  refine ev_if_neO (p2 := 39) rfl rfl (fun cnd29 => ?_) (fun cnd29 => ?_)
  · exact absurd cnd29 (by decide)
  · skip
    refine ev_aload rfl rfl ?_
    refine ev_getI (c := 12) (j := 9) rfl ?_ (hq := k_221 n)
    rw [h9]
    refine ev_if_eqN (p2 := 345) rfl rfl (fun _ => ?_) (fun zz => absurd zz (by decide))
    refine ev_aload rfl rfl ?_
    refine ev_iconst (x := nI 0) rfl rfl ?_
    refine ev_call rfl rfl ?_
    refine c_X12_settle 0 (by decide) (S2 := []) (P := P) trivial (fun c hc => And.intro (hP c hc) (Nat.zero_le _)) hS.2.1 (by rw [List.append_nil]; exact hS.2.2.2.1) (by rw [List.append_nil]; exact hlen) (fun ma f1 f2 f3 => ?_)
    have hk := stl hf hR hS f1 f2 f3
    change am_ev _ _ _ _ [] _ _ _
    refine ev_iload rfl rfl ?_
    refine ev_if_neN (p2 := 358) rfl rfl (fun zz => absurd zz (by decide)) (fun _ => ?_)
    refine ev_iconst (x := nI 1) rfl rfl ?_
    refine ev_goto (p2 := 359) rfl rfl ?_
    refine ev_zret rfl ?_
    exact hQ _ hk.1 hk.2.2
theorem c_takesE {tp : Nat → Nat} {tl : Nat} {B : am_M} {key d n : Nat} {Q : am_P} {w : Bool} {p : Nat} {mem : am_M} (hf : FrT B mem) (hR : RT tp tl w p mem) (h12 : mem 221 12 = nI key) (h : LoP tp tl B key d n w p [] [] 0 false [] true Q) : am_ex (d + 5) 194 [.ref 221] (am_SK n) mem Q := by
  refine ex_in (c0 := kc_X12_takesE) rfl (L := [some (.ref 221), none, none, none, none]) rfl ?_
  refine ev_iconst (x := nI 0) rfl rfl ?_
  refine ev_istore rfl rfl (Nat.le_of_ble_eq_true rfl) ?_
  refine ev_iconst (x := nI 0) rfl rfl ?_
  refine ev_istore rfl rfl (Nat.le_of_ble_eq_true rfl) ?_
  refine ev_iconst (x := nI 1) rfl rfl ?_
  refine ev_istore rfl rfl (Nat.le_of_ble_eq_true rfl) ?_
  refine ev_aload rfl rfl ?_
  refine ev_iconst (x := nI 0) rfl rfl ?_
  refine ev_putS (c := 12) (j := 16) rfl (fun ma hma => ?_) (hq := k_221 n)
  refine ev_aload rfl rfl ?_
  refine ev_iconst (x := nI 0) rfl rfl ?_
  refine ev_putS (c := 12) (j := 17) rfl (fun mb hmb => ?_) (hq := k_221 n)
  refine ev_aload rfl rfl ?_
  refine ev_iconst (x := nI 0) rfl rfl ?_
  refine ev_putS (c := 12) (j := 19) rfl (fun mc hmc => ?_) (hq := k_221 n)
  refine ev_aload rfl rfl ?_
  refine ev_getR (c := 12) (j := 20) rfl ?_ (hq := k_221 n)
  refine ev_iconst (x := nI 0) rfl rfl ?_
  refine ev_iconst (x := nI 0) rfl rfl ?_
  refine ev_zastS rfl (fun md hmd => ?_) (by decide) (hq := k_231 n)
  have e1 : ∀ k, k ≠ 16 → k ≠ 17 → k ≠ 19 → md 221 k = mem 221 k := fun k a1 a2 a3 => by rw [hmd, am_up_ne (by decide), hmc, am_up_nk a3, hmb, am_up_nk a2, hma, am_up_nk a1]
  refine h md none ?_ (RT_fr hR (fun k hk => e1 k (by omega) (by omega) (by omega))) (And.intro ?_ (And.intro (And.intro ?_ trivial) (And.intro ?_ (And.intro (And.intro ?_ trivial) (And.intro ?_ trivial)))))
  · rw [hmd, hmc, hmb, hma]
    exact FrT_u (FrT_u (FrT_u (FrT_u hf (by decide)) (by decide)) (by decide)) (by decide)
  · rw [e1 12 (by decide) (by decide) (by decide)]; exact h12
  · rw [hmd, am_up_ne (by decide), hmc, am_up_nk (by decide), hmb, am_up_nk (by decide), hma, am_up_eq]; rfl
  · rw [hmd, am_up_ne (by decide), hmc, am_up_nk (by decide), hmb, am_up_eq]
  · rw [hmd, am_up_ne (by decide), hmc, am_up_eq]; rfl
  · rw [hmd]; exact am_up_eq
