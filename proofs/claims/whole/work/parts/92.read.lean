/-! texts: the key, and the whole of it -/
def wdb (tp : Nat → Nat) (tl i p : Nat) : Bool := decide (tN tp tl p - tA tp tl p = sl i ∧ ∀ k, k < sl i → tp (tA tp tl p + k) = sB i k)
theorem c_isWordO {d n : Nat} {mem : am_M} {Q : am_P} {tp : Nat → Nat} {tl : Nat} (hT : TpC tp tl mem) {w : Bool} {p : Nat} (hC : CT tp tl w p mem) (hS : StrM mem) (i : Nat) (hi : i < 13) (hp : p ≤ tl) (hF0 : tF tp tl p ≠ 0) (hQ : Q (some (.int (ob (wdb tp tl i p)))) (am_SK n) mem) : am_ex (d + 5) 31 [.ref 62, .ref (2 + i)] (am_SK n) mem Q := by
  refine c_X5_isWord hT hC hS i hi hp hF0 (fun h => ?_) (fun h => ?_)
  · rw [show wdb tp tl i p = true from decide_eq_true h] at hQ; exact hQ
  · rw [show wdb tp tl i p = false from decide_eq_false h] at hQ; exact hQ
theorem ck_iter {d n : Nat} {mem : am_M} {Q : am_P} {tp : Nat → Nat} {tl : Nat} {w : Bool} {p : Nat} (hT : TpC tp tl mem) (hS : StrM mem) (hC : CT tp tl w p mem) (hp : p ≤ tl) (hF1 : tF tp tl p = 1) (j : Nat) (hj : j < 4) (h1 : wdb tp tl j p = true → am_ev kc_X5_readKey (d + 6) 26 [some (.ref 62), some (.int (nI j))] [] (am_SK n) mem Q) (h0 : wdb tp tl j p = false → am_ev kc_X5_readKey (d + 6) 2 [some (.ref 62), some (.int (nI (j + 1)))] [] (am_SK n) mem Q) : am_ev kc_X5_readKey (d + 6) 2 [some (.ref 62), some (.int (nI j))] [] (am_SK n) mem Q := by
  have hz : 0 + j = j := Nat.zero_add j
  refine ev_iload rfl rfl ?_
  refine ev_iconst (x := nI 4) rfl rfl ?_
  refine ev_icmp_geN (p2 := 46) rfl rfl (fun cnd4 => ?_) (fun cnd4 => ?_)
  · omega
  · skip
    refine ev_aload rfl rfl ?_
    refine ev_getI (c := 5) (j := 3) rfl ?_ (hq := k_62 n)
    rw [hC.1]
    refine ev_iconst (x := nI 1) rfl rfl ?_
    refine ev_icmp_neN (p2 := 40) rfl rfl (fun cnd12 => ?_) (fun cnd12 => ?_)
    · exact absurd hF1 cnd12
    · skip
      refine ev_aload rfl rfl ?_
      refine ev_iload rfl rfl ?_
      refine ev_call rfl rfl ?_
      refine c_X5_keyWord j (by omega) ?_
      change am_ev _ _ _ _ [_, _] _ _ _
      refine ev_call rfl rfl ?_
      refine c_isWordO hT hC hS (0 + j) (by omega) hp (by omega) ?_
      change am_ev _ _ _ _ [_] _ _ _
      refine ev_if_eqO (p2 := 40) rfl rfl (fun cnd23 => ?_) (fun cnd23 => ?_)
      · skip
        refine ev_iincN rfl rfl rfl ?_
        refine ev_goto (p2 := 2) rfl rfl ?_
        rw [hz] at cnd23
        exact h0 cnd23
      · skip
        rw [hz] at cnd23
        exact h1 cnd23
theorem ck_no {d n : Nat} {mem : am_M} {Q : am_P} {tp : Nat → Nat} {tl : Nat} {w : Bool} {p : Nat} (hC : CT tp tl w p mem) (hF1 : tF tp tl p ≠ 1) (hQ : Q (some (.int (nI 0))) (am_SK n) mem) (r : Nat) : ∀ j, j + r = 4 → am_ev kc_X5_readKey (d + 6) 2 [some (.ref 62), some (.int (nI j))] [] (am_SK n) mem Q := by
  have hFb := tF_b (tp := tp) (tl := tl) p
  induction r with
  | zero =>
    intro j hj
    refine ev_iload rfl rfl ?_
    refine ev_iconst (x := nI 4) rfl rfl ?_
    refine ev_icmp_geN (p2 := 46) rfl rfl (fun cnd4 => ?_) (fun cnd4 => ?_)
    · skip
      refine ev_iconst (x := nI 0) rfl rfl ?_
      refine ev_zret rfl ?_
      exact hQ
    · omega
  | succ r ih =>
    intro j hj
    refine ev_iload rfl rfl ?_
    refine ev_iconst (x := nI 4) rfl rfl ?_
    refine ev_icmp_geN (p2 := 46) rfl rfl (fun cnd4 => ?_) (fun cnd4 => ?_)
    · omega
    · skip
      refine ev_aload rfl rfl ?_
      refine ev_getI (c := 5) (j := 3) rfl ?_ (hq := k_62 n)
      rw [hC.1]
      refine ev_iconst (x := nI 1) rfl rfl ?_
      refine ev_icmp_neN (p2 := 40) rfl rfl (fun cnd12 => ?_) (fun cnd12 => ?_)
      · skip
        refine ev_iincN rfl rfl rfl ?_
        refine ev_goto (p2 := 2) rfl rfl ?_
        exact ih (j + 1) (by omega)
      · exact absurd cnd12 hF1
theorem c_X5_readKey {d n : Nat} {mem : am_M} {Q : am_P} {tp : Nat → Nat} {tl : Nat} {w : Bool} {p : Nat} {B : am_M} (hTB : TpC tp tl B) (hSB : StrM B) (hf : FrD B mem) (hC : CT tp tl w p mem) (hD : CD 0 [] 0 mem) (hp : p ≤ tl) (hQ0 : (tF tp tl p ≠ 1 ∨ ∀ i, i < 4 → wdb tp tl i p = false) → Q (some (.int (nI 0))) (am_SK n) mem) (hQ1 : ∀ key, key < 4 → tF tp tl p = 1 → wdb tp tl key p = true → (∀ i, i < key → wdb tp tl i p = false) → ∀ m2 : am_M, CS tp tl B key true (tN tp tl p) [] 0 m2 → Q (some (.int (nI 1))) (am_SK n) m2) : am_ex (d + 7) 28 [.ref 62] (am_SK n) mem Q := by
  refine ex_in (c0 := kc_X5_readKey) rfl (L := [some (.ref 62), none]) rfl ?_
  refine ev_iconst (x := nI 0) rfl rfl ?_
  refine ev_istore rfl rfl (Nat.le_of_ble_eq_true rfl) ?_
  by_cases hF1 : tF tp tl p = 1
  · have hT := TpC_D hTB hf
    have hS := StrM_D hSB hf
    have key : ∀ r j, j + r = 4 → (∀ i, i < j → wdb tp tl i p = false) → am_ev kc_X5_readKey (d + 6) 2 [some (.ref 62), some (.int (nI j))] [] (am_SK n) mem Q := by
      intro r
      induction r with
      | zero =>
        intro j hj hz
        refine ev_iload rfl rfl ?_
        refine ev_iconst (x := nI 4) rfl rfl ?_
        refine ev_icmp_geN (p2 := 46) rfl rfl (fun cnd4 => ?_) (fun cnd4 => ?_)
        · skip
          refine ev_iconst (x := nI 0) rfl rfl ?_
          refine ev_zret rfl ?_
          exact hQ0 (Or.inr (fun i hi => hz i (by omega)))
        · omega
      | succ r ih =>
        intro j hj hz
        refine ck_iter hT hS hC hp hF1 j (by omega) (fun h1 => ?_) (fun h0 => ih (j + 1) (by omega) (fun i hi => ?_))
        · skip
          refine ev_aload rfl rfl ?_
          refine ev_getR (c := 5) (j := 2) rfl ?_ (hq := k_62 n)
          refine ev_iload rfl rfl ?_
          refine ev_putS (c := 8) (j := 0) rfl (fun ma hma => ?_) (hq := k_64 n)
          have hk : CS tp tl B j w p [] 0 ma := by
            refine And.intro (FrD_t hf (FrD_64 (fun q h1 _ => by rw [hma, am_up_ne h1]))) (And.intro (CT_64 hC (by rw [hma, am_up_ne (by decide)])) (And.intro (by rw [hma, am_up_eq]) (And.intro ?_ (And.intro ?_ trivial))))
            · rw [hma, am_up_nk (by decide)]; exact hD.2.1
            · rw [hma, am_up_nk (by decide)]; exact hD.2.2.1
          refine ev_aload rfl rfl ?_
          refine ev_call rfl rfl ?_
          refine c_stepS hTB hk (by omega) (fun mb hb => ?_)
          change am_ev _ _ _ _ [] _ _ _
          refine ev_iconst (x := nI 1) rfl rfl ?_
          refine ev_zret rfl ?_
          rw [show tW tp tl p = true from tW_w.mpr (Or.inl hF1)] at hb
          exact hQ1 j (by omega) hF1 h1 hz mb hb
        · by_cases e : i = j
          · rw [e]; exact h0
          · exact hz i (by omega)
    exact key 4 0 rfl (fun i hi => absurd hi (Nat.not_lt_zero i))
  · exact ck_no hC hF1 (hQ0 (Or.inl hF1)) 4 0 rfl
def kA (j : Nat) : Nat := [0, 3, 7, 12, 15].getD j 0
def KyM (m : am_M) : Prop := (∀ j, j ≤ 4 → m 228 j = nI (kA j)) ∧ ∀ j, j < 4 → ∀ k, k < sl j → m 227 (kA j + k) = nI (sB j k)
theorem kA_s : ∀ j, j < 4 → kA (j + 1) = kA j + sl j := by decide
theorem kA_b : ∀ j, j < 4 → kA j + sl j ≤ 15 := by decide
theorem KyM_0 {m : am_M} (h : m 227 = am_ky ∧ m 228 = am_kt) : KyM m := by
  refine ⟨fun j hj => ?_, fun j hj k hk => ?_⟩
  · rw [h.2]
    have e : ∀ j, j < 5 → am_kt j = nI (kA j) := by decide
    exact e j (by omega)
  · rw [h.1]
    have e : ∀ j, j < 4 → ∀ k, k < sl j → am_ky (kA j + k) = nI (sB j k) := by decide +kernel
    exact e j hj k hk
theorem KyM_T {B m : am_M} (h : KyM B) (f : FrT B m) : KyM m := by
  unfold KyM
  rw [f.1 227 (by decide) (by decide), f.1 228 (by decide) (by decide)]
  exact h
theorem tk55z {d n : Nat} {mem : am_M} {Q : am_P} {tp : Nat → Nat} {tl : Nat} {w : Bool} {p : Nat} (j k m : Nat) (hk : k ≤ 100) (hm : m ≤ 100) (h0 : ∀ x2 x3 x4 : Option Value, am_ev kc_X12_takesKey (d + 2) 12 [some (.ref 221), some (.int (nI (j + 1))), x2, x3, x4] [] (am_SK n) mem Q) : am_ev kc_X12_takesKey (d + 2) 55 [some (.ref 221), some (.int (nI j)), some (.int (nI m)), some (.int (nI 0)), some (.int (nI k))] [] (am_SK n) mem Q := by
  refine ev_iload rfl rfl ?_
  refine ev_iload rfl rfl ?_
  refine ev_icmp_geN (p2 := 106) rfl rfl (fun cnd58 => ?_) (fun cnd58 => ?_)
  · skip
    refine ev_iload rfl rfl ?_
    refine ev_if_eqN (p2 := 121) rfl rfl (fun _ => ?_) (fun zz => absurd zz (by decide))
    refine ev_iincN rfl rfl rfl ?_
    refine ev_goto (p2 := 12) rfl rfl ?_
    exact h0 _ _ _
  · skip
    refine ev_iload rfl rfl ?_
    refine ev_if_eqN (p2 := 106) rfl rfl (fun _ => ?_) (fun zz => absurd zz (by decide))
    refine ev_iload rfl rfl ?_
    refine ev_if_eqN (p2 := 121) rfl rfl (fun _ => ?_) (fun zz => absurd zz (by decide))
    refine ev_iincN rfl rfl rfl ?_
    refine ev_goto (p2 := 12) rfl rfl ?_
    exact h0 _ _ _
theorem tk55 {d n : Nat} {mem : am_M} {Q : am_P} {tp : Nat → Nat} {tl : Nat} {w : Bool} {p : Nat} (hT : TpR tp tl mem) (hK : KyM mem) (hR : RT tp tl w p mem) (hF1 : tF tp tl p = 1) (j : Nat) (hj : j < 4) (hlen : tN tp tl p - tA tp tl p = sl j) (h1 : wdb tp tl j p = true → ∀ x2 x3 x4 : Option Value, am_ev kc_X12_takesKey (d + 2) 110 [some (.ref 221), some (.int (nI j)), x2, x3, x4] [] (am_SK n) mem Q) (h0 : wdb tp tl j p = false → ∀ x2 x3 x4 : Option Value, am_ev kc_X12_takesKey (d + 2) 12 [some (.ref 221), some (.int (nI (j + 1))), x2, x3, x4] [] (am_SK n) mem Q) (r : Nat) : ∀ k, k + r = sl j → (∀ i, i < k → tp (tA tp tl p + i) = sB j i) → am_ev kc_X12_takesKey (d + 2) 55 [some (.ref 221), some (.int (nI j)), some (.int (nI (sl j))), some (.int (nI 1)), some (.int (nI k))] [] (am_SK n) mem Q := by
  have hsl := sl_b j (by omega)
  have hN := tN_b (tp := tp) (tl := tl) (p := p) (by omega)
  have hl := hT.1
  have hkb := kA_b j hj
  induction r with
  | zero =>
    intro k hk hz
    refine ev_iload rfl rfl ?_
    refine ev_iload rfl rfl ?_
    refine ev_icmp_geN (p2 := 106) rfl rfl (fun cnd58 => ?_) (fun cnd58 => ?_)
    · skip
      refine ev_iload rfl rfl ?_
      refine ev_if_eqN (p2 := 121) rfl rfl (fun zz => absurd zz (by decide)) (fun _ => ?_)
      exact h1 (decide_eq_true (And.intro hlen (fun i hi => hz i (by omega)))) _ _ _
    · omega
  | succ r ih =>
    intro k hk hz
    refine ev_iload rfl rfl ?_
    refine ev_iload rfl rfl ?_
    refine ev_icmp_geN (p2 := 106) rfl rfl (fun cnd58 => ?_) (fun cnd58 => ?_)
    · omega
    · skip
      refine ev_iload rfl rfl ?_
      refine ev_if_eqN (p2 := 106) rfl rfl (fun zz => absurd zz (by decide)) (fun _ => ?_)
      refine ev_aload rfl rfl ?_
      refine ev_getR (c := 12) (j := 5) rfl ?_ (hq := k_221 n)
      refine ev_aload rfl rfl ?_
      refine ev_getI (c := 12) (j := 8) rfl ?_ (hq := k_221 n)
      rw [hR.2.1]
      refine ev_iload rfl rfl ?_
      refine ev_iaddN rfl ?_
      refine ev_ialdN rfl rfl ?_ (hq := k_226 n)
      rw [hT.2.2.1 _ (by omega)]
      refine ev_aload rfl rfl ?_
      refine ev_getR (c := 12) (j := 13) rfl ?_ (hq := k_221 n)
      refine ev_aload rfl rfl ?_
      refine ev_getR (c := 12) (j := 14) rfl ?_ (hq := k_221 n)
      refine ev_iload rfl rfl ?_
      refine ev_ialdN rfl rfl ?_ (hq := k_228 n)
      rw [hK.1 j (by omega)]
      refine ev_iload rfl rfl ?_
      refine ev_iaddN rfl ?_
      refine ev_caldN rfl rfl ?_ (hq := k_227 n)
      rw [hK.2 j hj k (by omega)]
      have hv := hT.2.2.2 (tA tp tl p + k) (by omega)
      have hs2 := (sB_n j (by omega) k (by omega)).2
      refine ev_icmp_neN (p2 := 98) rfl rfl (fun cnd91 => ?_) (fun cnd91 => ?_)
      · skip
        refine ev_iconst (x := nI 0) rfl rfl ?_
        refine ev_istore rfl rfl (Nat.le_of_ble_eq_true rfl) ?_
        refine ev_iincN rfl rfl rfl ?_
        refine ev_goto (p2 := 55) rfl rfl ?_
        exact tk55z (tp := tp) (tl := tl) (w := w) (p := p) j (k + 1) (sl j) (by omega) (by omega) (h0 (decide_eq_false (fun z => cnd91 (z.2 k (by omega)))))
      · skip
        refine ev_iconst (x := nI 1) rfl rfl ?_
        refine ev_goto (p2 := 99) rfl rfl ?_
        refine ev_istore rfl rfl (Nat.le_of_ble_eq_true rfl) ?_
        refine ev_iincN rfl rfl rfl ?_
        refine ev_goto (p2 := 55) rfl rfl ?_
        refine ih (k + 1) (by omega) (fun i hi => ?_)
        by_cases e : i = k
        · rw [e]; exact cnd91
        · exact hz i (by omega)
theorem tk_iter {d n : Nat} {mem : am_M} {Q : am_P} {tp : Nat → Nat} {tl : Nat} {w : Bool} {p : Nat} (hT : TpR tp tl mem) (hK : KyM mem) (hR : RT tp tl w p mem) (hF1 : tF tp tl p = 1) (j : Nat) (hj : j < 4) (h1 : wdb tp tl j p = true → ∀ x2 x3 x4 : Option Value, am_ev kc_X12_takesKey (d + 2) 110 [some (.ref 221), some (.int (nI j)), x2, x3, x4] [] (am_SK n) mem Q) (h0 : wdb tp tl j p = false → ∀ x2 x3 x4 : Option Value, am_ev kc_X12_takesKey (d + 2) 12 [some (.ref 221), some (.int (nI (j + 1))), x2, x3, x4] [] (am_SK n) mem Q) (x2 x3 x4 : Option Value) : am_ev kc_X12_takesKey (d + 2) 12 [some (.ref 221), some (.int (nI j)), x2, x3, x4] [] (am_SK n) mem Q := by
  have hsl := sl_b j (by omega)
  have hN := tN_b (tp := tp) (tl := tl) (p := p) (by omega)
  have hl := hT.1
  have hkb := kA_b j hj
  refine ev_iload rfl rfl ?_
  refine ev_iconst (x := nI 4) rfl rfl ?_
  refine ev_icmp_geN (p2 := 127) rfl rfl (fun cnd14 => ?_) (fun cnd14 => ?_)
  · omega
  · skip
    refine ev_aload rfl rfl ?_
    refine ev_getR (c := 12) (j := 14) rfl ?_ (hq := k_221 n)
    refine ev_iload rfl rfl ?_
    refine ev_iconst (x := nI 1) rfl rfl ?_
    refine ev_iaddN rfl ?_
    refine ev_ialdN rfl rfl ?_ (hq := k_228 n)
    rw [hK.1 (j + 1) (by omega), kA_s j hj]
    refine ev_aload rfl rfl ?_
    refine ev_getR (c := 12) (j := 14) rfl ?_ (hq := k_221 n)
    refine ev_iload rfl rfl ?_
    refine ev_ialdN rfl rfl ?_ (hq := k_228 n)
    rw [hK.1 j (by omega)]
    refine ev_isubN rfl ?_
    rw [Nat.add_sub_cancel_left]
    refine ev_istore rfl rfl (Nat.le_of_ble_eq_true rfl) ?_
    refine ev_iload rfl rfl ?_
    refine ev_aload rfl rfl ?_
    refine ev_getI (c := 12) (j := 7) rfl ?_ (hq := k_221 n)
    rw [hR.1]
    refine ev_aload rfl rfl ?_
    refine ev_getI (c := 12) (j := 8) rfl ?_ (hq := k_221 n)
    rw [hR.2.1]
    refine ev_isubN rfl ?_
    refine ev_icmp_neN (p2 := 50) rfl rfl (fun cnd43 => ?_) (fun cnd43 => ?_)
    · skip
      refine ev_iconst (x := nI 0) rfl rfl ?_
      refine ev_istore rfl rfl (Nat.le_of_ble_eq_true rfl) ?_
      refine ev_iconst (x := nI 0) rfl rfl ?_
      refine ev_istore rfl rfl (Nat.le_of_ble_eq_true rfl) ?_
      exact tk55z (tp := tp) (tl := tl) (w := w) (p := p) j 0 (sl j) (by omega) (by omega) (h0 (decide_eq_false (fun z => cnd43 z.1.symm)))
    · skip
      refine ev_iconst (x := nI 1) rfl rfl ?_
      refine ev_goto (p2 := 51) rfl rfl ?_
      refine ev_istore rfl rfl (Nat.le_of_ble_eq_true rfl) ?_
      refine ev_iconst (x := nI 0) rfl rfl ?_
      refine ev_istore rfl rfl (Nat.le_of_ble_eq_true rfl) ?_
      exact tk55 hT hK hR hF1 j hj (by omega) h1 h0 (sl j) 0 (by omega) (fun i hi => absurd hi (Nat.not_lt_zero i))
theorem c_takesKey0 {d n : Nat} {mem : am_M} {Q : am_P} {tp : Nat → Nat} {tl : Nat} {w : Bool} {p : Nat} (hT : TpR tp tl mem) (hK : KyM mem) (hR : RT tp tl w p mem) (h : tT tp tl w p ≠ 1 ∨ ∀ i, i < 4 → wdb tp tl i p = false) (hQ : Q (some (.int (nI 0))) (am_SK n) mem) : am_ex (d + 3) 188 [.ref 221] (am_SK n) mem Q := by
  have htb := tT_b (tp := tp) (tl := tl) (p := p) (w := w)
  refine ex_in (c0 := kc_X12_takesKey) rfl (L := [some (.ref 221), none, none, none, none]) rfl ?_
  refine ev_aload rfl rfl ?_
  refine ev_getI (c := 12) (j := 9) rfl ?_ (hq := k_221 n)
  rw [hR.2.2.1]
  refine ev_iconst (x := nI 1) rfl rfl ?_
  refine ev_icmp_eqN (p2 := 10) rfl rfl (fun cnd5 => ?_) (fun cnd5 => ?_)
  · skip
    refine ev_iconst (x := nI 0) rfl rfl ?_
    refine ev_istore rfl rfl (Nat.le_of_ble_eq_true rfl) ?_
    have hF1 := (tT_1i cnd5).1
    have hw := h.resolve_left (fun z => z cnd5)
    have key : ∀ r j, j + r = 4 → ∀ x2 x3 x4 : Option Value, am_ev kc_X12_takesKey (d + 2) 12 [some (.ref 221), some (.int (nI j)), x2, x3, x4] [] (am_SK n) mem Q := by
      intro r
      induction r with
      | zero =>
        intro j hj x2 x3 x4
        refine ev_iload rfl rfl ?_
        refine ev_iconst (x := nI 4) rfl rfl ?_
        refine ev_icmp_geN (p2 := 127) rfl rfl (fun cnd14 => ?_) (fun cnd14 => ?_)
        · skip
          refine ev_iconst (x := nI 0) rfl rfl ?_
          refine ev_zret rfl ?_
          exact hQ
        · omega
      | succ r ih =>
        intro j hj x2 x3 x4
        exact tk_iter hT hK hR hF1 j (by omega) (fun h1 => absurd ((hw j (by omega)).symm.trans h1) (by decide)) (fun _ => ih (j + 1) (by omega)) x2 x3 x4
    exact key 4 0 rfl _ _ _
  · skip
    refine ev_iconst (x := nI 0) rfl rfl ?_
    refine ev_zret rfl ?_
    exact hQ
theorem c_takesKey1 {d n : Nat} {mem : am_M} {Q : am_P} {tp : Nat → Nat} {tl : Nat} {w : Bool} {p : Nat} (hT : TpR tp tl mem) (hK : KyM mem) (hR : RT tp tl w p mem) (h1 : tT tp tl w p = 1) (key : Nat) (hk : key < 4) (hw : wdb tp tl key p = true) (hw0 : ∀ i, i < key → wdb tp tl i p = false) (hQ : ∀ m2 : am_M, FrT mem m2 → RT tp tl true (tN tp tl p) m2 → m2 221 12 = nI key → Q (some (.int (nI 1))) (am_SK n) m2) : am_ex (d + 3) 188 [.ref 221] (am_SK n) mem Q := by
  have h9 : mem 221 9 = nI 1 := by rw [← h1]; exact hR.2.2.1
  have hF1 := (tT_1i h1).1
  refine ex_in (c0 := kc_X12_takesKey) rfl (L := [some (.ref 221), none, none, none, none]) rfl ?_
  refine ev_aload rfl rfl ?_
  refine ev_getI (c := 12) (j := 9) rfl ?_ (hq := k_221 n)
  rw [h9]
  refine ev_iconst (x := nI 1) rfl rfl ?_
  refine ev_icmp_eqN (p2 := 10) rfl rfl (fun _ => ?_) (fun zz => absurd zz (by decide))
  refine ev_iconst (x := nI 0) rfl rfl ?_
  refine ev_istore rfl rfl (Nat.le_of_ble_eq_true rfl) ?_
  have key2 : ∀ r j, j + r = key → ∀ x2 x3 x4 : Option Value, am_ev kc_X12_takesKey (d + 2) 12 [some (.ref 221), some (.int (nI j)), x2, x3, x4] [] (am_SK n) mem Q := by
    intro r
    induction r with
    | zero =>
      intro j hj x2 x3 x4
      have ej : j = key := hj
      subst ej
      refine tk_iter hT hK hR hF1 j hk (fun _ => ?_) (fun h0 => absurd (h0.symm.trans hw) (by decide)) x2 x3 x4
      intro x2 x3 x4
      refine ev_aload rfl rfl ?_
      refine ev_iload rfl rfl ?_
      refine ev_putS (c := 12) (j := 12) rfl (fun ma hma => ?_) (hq := k_221 n)
      have hfa : FrT mem ma := by rw [hma]; exact FrT_u (FrT_r mem) (by decide)
      have hRa : RT tp tl w p ma := RT_fr hR (fun k hk => by rw [hma, am_up_nk (by omega)])
      refine ev_aload rfl rfl ?_
      refine ev_call rfl rfl ?_
      refine c_goR (TpR_T hT hfa) hRa (by omega) (fun mb g1 g2 => ?_)
      change am_ev _ _ _ _ [] _ _ _
      refine ev_iconst (x := nI 1) rfl rfl ?_
      refine ev_zret rfl ?_
      rw [show tW tp tl p = true from tW_w.mpr (Or.inl hF1)] at g2
      exact hQ mb (FrT_G hfa g1) g2 (by rw [g1.2 12 (by decide), hma, am_up_eq])
    | succ r ih =>
      intro j hj x2 x3 x4
      exact tk_iter hT hK hR hF1 j (by omega) (fun h1 => absurd ((hw0 j (by omega)).symm.trans h1) (by decide)) (fun _ => ih (j + 1) (by omega)) x2 x3 x4
  exact key2 key 0 (by omega) _ _ _
def Kgd (tp : Nat → Nat) (tl key : Nat) : Prop := key < 4 ∧ tF tp tl 0 = 1 ∧ wdb tp tl key 0 = true ∧ ∀ i, i < key → wdb tp tl i 0 = false
def Ac (tp : Nat → Nat) (tl key : Nat) (out : List Int32) (na : Nat) : Prop := ∀ (B : am_M) (d n : Nat) (Q : am_P), TpR tp tl B → (∀ (m2 : am_M) (t : Bool), FrT B m2 → RS key out [] na [t] m2 → Q (some (.int (nI 1))) (am_SK n) m2) → LoP tp tl B key d n true (tN tp tl 0) [] [] 0 false [] true Q
def RdR (tp : Nat → Nat) (tl : Nat) (B : am_M) (r : Int32) (m : am_M) : Prop := FrD B m ∧ ((∃ p2, r = nI (tA tp tl p2) ∧ tA tp tl p2 ≤ 96 ∧ ((p2 = 0 ∧ (tF tp tl 0 ≠ 1 ∨ ∀ i, i < 4 → wdb tp tl i 0 = false)) ∨ ∃ key, Kgd tp tl key ∧ Fl tp tl key true (tN tp tl 0) [] [] 0 false [] true p2)) ∨ (r = -1 ∧ ∃ key out na, Kgd tp tl key ∧ CD key out na m ∧ out.length ≤ 96 ∧ okL (nmK key) out ∧ dpL out = 1 ∧ Ac tp tl key out na))
theorem c_X5_read {d n : Nat} {B : am_M} {Q : am_P} {tp : Nat → Nat} {tl : Nat} (hT : TpC tp tl B) (hS : StrM B) (hQ : ∀ (r : Int32) (m2 : am_M), RdR tp tl B r m2 → Q (some (.int r)) (am_SK n) m2) : am_ex (d + 100) 24 [.ref 62] (am_SK n) B Q := by
  refine ex_in (c0 := kc_X5_read) rfl (L := [some (.ref 62), none]) rfl ?_
  refine ev_aload rfl rfl ?_
  refine ev_getR (c := 5) (j := 2) rfl ?_ (hq := k_62 n)
  refine ev_call rfl rfl ?_
  refine c_X8_begin (fun ma a1 a2 a3 a4 => ?_)
  change am_ev _ _ _ _ [] _ _ _
  refine ev_aload rfl rfl ?_
  refine ev_iconst (x := nI 0) rfl rfl ?_
  refine ev_putS (c := 5) (j := 3) rfl (fun mb hmb => ?_) (hq := k_62 n)
  refine ev_aload rfl rfl ?_
  refine ev_iconst (x := nI 0) rfl rfl ?_
  refine ev_putS (c := 5) (j := 5) rfl (fun mc hmc => ?_) (hq := k_62 n)
  have hf : FrD B mc := And.intro (fun q h1 h2 h3 => by rw [hmc, am_up_ne h1, hmb, am_up_ne h1, a1 q h2]) (fun k hk => by rw [hmc, am_up_nk (by omega), hmb, am_up_nk (by omega), a1 62 (by decide)])
  have hT2 := TpC_D hT hf
  have c3 : mc 62 3 = nI 0 := by rw [hmc, am_up_nk (by decide), hmb, am_up_eq]
  have c5 : mc 62 5 = nI 0 := by rw [hmc, am_up_eq]
  have e64 : mc 64 = ma 64 := by rw [hmc, am_up_ne (by decide), hmb, am_up_ne (by decide)]
  refine ev_aload rfl rfl ?_
  refine ev_call rfl rfl ?_
  refine c_X5_step hT2 0 0 (by decide) (Nat.zero_le _) c3 c5 (fun md g1 g2 g3 => ?_)
  change am_ev _ _ _ _ [] _ _ _
  have hf2 : FrD B md := FrD_t hf (FrD_62 g1 g2)
  have hD2 : CD 0 [] 0 md := by
    refine And.intro ?_ (And.intro ?_ (And.intro ?_ trivial))
    · rw [g1 64 (by decide), e64]; exact a2
    · rw [g1 64 (by decide), e64]; exact a3
    · rw [g1 64 (by decide), e64]; exact a4
  have hl := hT.1
  refine ev_aload rfl rfl ?_
  refine ev_call rfl rfl ?_
  refine c_X5_readKey hT hS hf2 g3 hD2 (Nat.zero_le _) (fun h0 => ?_) (fun key hk h1 h2 h3 m2 hC => ?_)
  · change am_ev _ _ _ _ [_] _ _ _
    refine ev_if_eqN (p2 := 49) rfl rfl (fun _ => ?_) (fun zz => absurd zz (by decide))
    have hab := tA_b (tp := tp) (Nat.zero_le tl)
    refine ev_iconst (x := nI 0) rfl rfl ?_
    refine ev_istore rfl rfl (Nat.le_of_ble_eq_true rfl) ?_
    refine ev_iload rfl rfl ?_
    refine ev_if_eqN (p2 := 59) rfl rfl (fun _ => ?_) (fun zz => absurd zz (by decide))
    refine ev_aload rfl rfl ?_
    refine ev_getI (c := 5) (j := 4) rfl ?_ (hq := k_62 n)
    rw [g3.2.1]
    refine ev_iret rfl ?_
    exact hQ _ _ (And.intro hf2 (Or.inl (Exists.intro 0 (And.intro rfl (And.intro (by omega) (Or.inl (And.intro rfl h0)))))))
  · change am_ev _ _ _ _ [_] _ _ _
    refine ev_if_eqN (p2 := 49) rfl rfl (fun zz => absurd zz (by decide)) (fun _ => ?_)
    have hKg : Kgd tp tl key := And.intro hk (And.intro h1 (And.intro h2 h3))
    have hN := tN_b (tp := tp) (tl := tl) (p := 0) (by omega)
    refine ev_aload rfl rfl ?_
    refine ev_iconst (x := nI 0) rfl rfl ?_
    refine ev_iconst (x := nI 0) rfl rfl ?_
    refine ev_iconst (x := nI 0) rfl rfl ?_
    refine ev_call rfl rfl ?_
    refine (c_both hT hS hk (10 * tl + 10)).2 0 true (tN tp tl 0) [] [] 0 false [] 0 m2 _ _ (by decide) hC hN.2 (fun _ => rfl) (by decide) rfl (by decide) trivial (Nat.zero_le _) trivial (by omega) (by show 7 * (8 - 0) + (8 - 0) + 11 + (5 - 0) ≤ _; omega) (fun r m3 hr => ?_)
    change am_ev _ _ _ _ [_] _ _ _
    rcases hr with ⟨e, p2, q1, q2⟩ | ⟨e, w2, p2, out1, P, na2, t2, q1, q2, q3, q4, q5, q6, q7, q8, q9, q10⟩
    · subst e
      refine ev_if_eqN (p2 := 49) rfl rfl (fun _ => ?_) (fun zz => absurd zz (by decide))
      have hA9 : tA tp tl p2 ≤ 96 := by obtain ⟨z, hz, _⟩ := q1.2.2; exact hz.2
      refine ev_iconst (x := nI 0) rfl rfl ?_
      refine ev_istore rfl rfl (Nat.le_of_ble_eq_true rfl) ?_
      refine ev_iload rfl rfl ?_
      refine ev_if_eqN (p2 := 59) rfl rfl (fun _ => ?_) (fun zz => absurd zz (by decide))
      refine ev_aload rfl rfl ?_
      refine ev_getI (c := 5) (j := 4) rfl ?_ (hq := k_62 n)
      rw [q1.2.1]
      refine ev_iret rfl ?_
      exact hQ _ _ (And.intro q1.1 (Or.inl (Exists.intro p2 (And.intro rfl (And.intro hA9 (Or.inr (Exists.intro key (And.intro hKg q2))))))))
    · subst e
      have hab := tA_b (tp := tp) q2
      have hPI : ∀ c, c ∈ P → IsC c := fun c hc => (q7 c hc).1
      refine ev_if_eqN (p2 := 49) rfl rfl (fun zz => absurd zz (by decide)) (fun _ => ?_)
      refine ev_aload rfl rfl ?_
      refine ev_getI (c := 5) (j := 3) rfl ?_ (hq := k_62 n)
      rw [q1.2.1.1]
      have hFb := tF_b (tp := tp) (tl := tl) p2
      refine ev_if_neN (p2 := 49) rfl rfl (fun c42 => ?_) (fun c42 => ?_)
      · skip
        refine ev_iconst (x := nI 0) rfl rfl ?_
        refine ev_istore rfl rfl (Nat.le_of_ble_eq_true rfl) ?_
        refine ev_iload rfl rfl ?_
        refine ev_if_eqN (p2 := 59) rfl rfl (fun _ => ?_) (fun zz => absurd zz (by decide))
        refine ev_aload rfl rfl ?_
        refine ev_getI (c := 5) (j := 4) rfl ?_ (hq := k_62 n)
        rw [q1.2.1.2.1]
        refine ev_iret rfl ?_
        refine hQ _ _ (And.intro q1.1 (Or.inl (Exists.intro p2 (And.intro rfl (And.intro (by omega) (Or.inr (Exists.intro key (And.intro hKg (Fl_t q10 (fun B2 d2 n2 Q2 hB2 h2 => ?_))))))))))
        refine fl_op hB2 (by omega) (fun z => absurd z.2.2 (by decide)) ?_ (by decide) h2
        by_cases hs0 : sg tp tl p2 = 0
        · exact Or.inl hs0
        · have hi := sg_i hT.2.2.2 hs0
          have h8 := q9 hs0 (by have z := rk_b (sg tp tl p2); omega)
          exact Or.inr (And.intro hi.2.2.1 h8)
      · refine ev_iconst (x := nI 1) rfl rfl ?_
        refine ev_goto (p2 := 50) rfl rfl ?_
        refine ev_istore rfl rfl (Nat.le_of_ble_eq_true rfl) ?_
        refine ev_iload rfl rfl ?_
        refine ev_if_eqN (p2 := 59) rfl rfl (fun zz => absurd zz (by decide)) (fun _ => ?_)
        refine ev_iconst (x := -1) rfl rfl ?_
        refine ev_goto (p2 := 63) rfl rfl ?_
        refine ev_iret rfl ?_
        have hq4 : (P.reverse ++ out1).length + 0 ≤ tA tp tl p2 := q4
        have hl4 : out1.length + P.length ≤ 96 := by rw [List.length_append, List.length_reverse] at hq4; omega
        refine hQ _ _ (And.intro q1.1 (Or.inr (And.intro rfl (Exists.intro key (Exists.intro (P.reverse ++ out1) (Exists.intro na2 (And.intro hKg (And.intro q1.2.2 (And.intro (by omega) (And.intro q5 (And.intro q6 (fun B2 d2 n2 Q2 hB2 h2 => q10 B2 d2 n2 Q2 hB2 ?_))))))))))))
        rw [List.append_nil]
        exact st_end hB2 c42 hPI hl4 (fun m9 f1 f2 => h2 m9 t2 f1 f2)
