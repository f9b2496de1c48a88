/-! both sides: keep, back, fits, check -/
theorem l_X12_copyAll {d n a b : Nat} {mem0 : am_M} {Q : am_P} (ha : (am_SK n)[a]? = some (20, 1561, [])) (hb : (am_SK n)[b]? = some (20, 1561, [])) (h29 : 29 ≤ a ∧ 29 ≤ b ∧ a ≠ b) (r : Nat) : ∀ (mem : am_M) (k : Nat) (hk : k + r = 1561) (hf : ∀ q, q ≠ b → mem q = mem0 q) (h1 : ∀ i, i < k → mem b i = mem0 a i) (h2 : ∀ i, k ≤ i → mem b i = mem0 b i) (hQ : ∀ m2 : am_M, (∀ q, q ≠ b → m2 q = mem0 q) → (∀ i, i < 1561 → m2 b i = mem0 a i) → (∀ i, 1561 ≤ i → m2 b i = mem0 b i) → Q none (am_SK n) m2), am_ev kc_X12_copyAll d 2 [some (.ref a), some (.ref b), some (.int (nI k))] [] (am_SK n) mem Q := by
  induction r with
  | zero =>
    intro mem k hk hf h1 h2 hQ
    have hk2 : k = 1561 := by omega
    subst hk2
    refine ev_iload rfl rfl ?_
    refine ev_iconst (x := nI 1561) rfl rfl ?_
    refine ev_icmp_geN (p2 := 21) rfl rfl (fun _ => ?_) (fun zz => absurd zz (by decide))
    refine ev_vret rfl ?_
    exact hQ mem hf h1 h2
  | succ r ih =>
    intro mem k hk hf h1 h2 hQ
    refine ev_iload rfl rfl ?_
    refine ev_iconst (x := nI 1561) rfl rfl ?_
    refine ev_icmp_geN (p2 := 21) rfl rfl (fun cnd6 => ?_) (fun cnd6 => ?_)
    · omega
    · skip
      refine ev_aload rfl rfl ?_
      refine ev_iload rfl rfl ?_
      refine ev_aload rfl rfl ?_
      refine ev_iload rfl rfl ?_
      refine ev_ialdN rfl rfl ?_ (hq := ha)
      rw [hf a h29.2.2]
      refine ev_iastS rfl (fun mem2 hm => ?_) (hq := hb)
      refine ev_iincN rfl rfl rfl ?_
      refine ev_goto (p2 := 2) rfl rfl ?_
      refine ih mem2 (k + 1) (by omega) (fun q hq => by rw [hm, am_up_ne hq]; exact hf q hq) (fun i hi => ?_) (fun i hi => ?_) hQ
      · rw [hm]
        by_cases e : i = k
        · rw [e, am_up_eq]
        · rw [am_up_nk e]; exact h1 i (by omega)
      · rw [hm, am_up_nk (by omega)]; exact h2 i (by omega)
theorem c_X12_copyAll {d n : Nat} {mem : am_M} {Q : am_P} {a b : Nat} (ha : (am_SK n)[a]? = some (20, 1561, [])) (hb : (am_SK n)[b]? = some (20, 1561, [])) (h29 : 29 ≤ a ∧ 29 ≤ b ∧ a ≠ b) (hz : ∀ i, 1561 ≤ i → mem a i = mem b i) (hQ : ∀ m2 : am_M, (∀ q, q ≠ b → m2 q = mem q) → m2 b = mem a → Q none (am_SK n) m2) : am_ex (d + 1) 145 [.ref a, .ref b] (am_SK n) mem Q := by
  refine ex_in (c0 := kc_X12_copyAll) rfl (L := [some (.ref a), some (.ref b), none]) rfl ?_
  refine ev_iconst (x := nI 0) rfl rfl ?_
  refine ev_istore rfl rfl (Nat.le_of_ble_eq_true rfl) ?_
  refine l_X12_copyAll ha hb h29 1561 mem 0 rfl (fun _ _ => rfl) (fun i hi => absurd hi (Nat.not_lt_zero i)) (fun _ _ => rfl) (fun m2 f1 f2 f3 => hQ m2 f1 ?_)
  funext i
  by_cases hi : i < 1561
  · exact f2 i hi
  · rw [f3 i (by omega), hz i (by omega)]
theorem c_X12_keep {d n : Nat} {mem : am_M} {Q : am_P} (hz : ∀ i, 1561 ≤ i → mem 222 i = mem 223 i) (hQ : ∀ m2 : am_M, (∀ q, q ≠ 221 → q ≠ 223 → m2 q = mem q) → m2 223 = mem 222 → m2 221 3 = 1 → (∀ k, k ≠ 3 → m2 221 k = mem 221 k) → Q (some (.int (mem 222 0))) (am_SK n) m2) : am_ex (d + 2) 232 [.ref 221] (am_SK n) mem Q := by
  refine ex_in (c0 := kc_X12_keep) rfl (L := [some (.ref 221)]) rfl ?_
  refine ev_aload rfl rfl ?_
  refine ev_getR (c := 12) (j := 0) rfl ?_ (hq := k_221 n)
  refine ev_aload rfl rfl ?_
  refine ev_getR (c := 12) (j := 1) rfl ?_ (hq := k_221 n)
  refine ev_call rfl rfl ?_
  refine c_X12_copyAll (k_222 n) (k_223 n) (by decide) (hz) (fun m2 f1 f2 => ?_)
  change am_ev _ _ _ _ [] _ _ _
  refine ev_aload rfl rfl ?_
  refine ev_iconst (x := nI 1) rfl rfl ?_
  refine ev_putB (c := 12) (j := 3) rfl ?_ (hq := k_221 n) (hx := by first | assumption | exact am_b01 _ | exact ob01 _ | decide)
  refine ev_aload rfl rfl ?_
  refine ev_getR (c := 12) (j := 0) rfl ?_ (hq := k_221 n)
  refine ev_iconst (x := nI 0) rfl rfl ?_
  refine ev_ialdN rfl rfl ?_ (hq := k_222 n)
  rw [am_up_ne (show (222 : Nat) ≠ 221 by decide), f1 222 (by decide)]
  refine ev_iret rfl ?_
  refine hQ _ (fun q h1 h2 => by rw [am_up_ne h1, f1 q h2]) (by rw [am_up_ne (by decide)]; exact f2) am_up_eq (fun k hk => by rw [am_up_nk hk, f1 221 (by decide)])
theorem c_X11_keep {d n : Nat} {mem : am_M} {Q : am_P} {R : am_R} (hC : CplT 66 R mem) (hQ : ∀ m2 : am_M, (∀ q, ¬ (104 ≤ q ∧ q ≤ 141) → q ≠ 29 → m2 q = mem q) → m2 29 5 = 1 → (∀ k, k ≠ 5 → m2 29 k = mem 29 k) → CplT 104 R m2 → Q (some (.int (R 0))) (am_SK n) m2) : am_ex (d + 3) 123 [.ref 29] (am_SK n) mem Q := by
  refine ex_in (c0 := kc_X11_keep) rfl (L := [some (.ref 29)]) rfl ?_
  refine ev_aload rfl rfl ?_
  refine ev_getR (c := 11) (j := 3) rfl ?_ (hq := k_29 n)
  refine ev_aload rfl rfl ?_
  refine ev_getR (c := 11) (j := 2) rfl ?_ (hq := k_29 n)
  refine ev_callV rfl rfl rfl rfl (Nat.le_of_ble_eq_true rfl) (Nat.le_of_ble_eq_true rfl) ?_ (hq := kt_0 n am_T104)
  refine c_X9_become am_T104 am_T66 (by decide) hC (fun m2 f1 hC2 => ?_)
  change am_ev _ _ _ _ [] _ _ _
  refine ev_aload rfl rfl ?_
  refine ev_iconst (x := nI 1) rfl rfl ?_
  refine ev_putB (c := 11) (j := 5) rfl ?_ (hq := k_29 n) (hx := by first | assumption | exact am_b01 _ | exact ob01 _ | decide)
  refine ev_aload rfl rfl ?_
  refine ev_getR (c := 11) (j := 2) rfl ?_ (hq := k_29 n)
  refine ev_getI (c := 9) (j := 7) rfl ?_ (hq := kt_0 n am_T66)
  rw [am_up_ne (show (66 : Nat) ≠ 29 by decide), f1 66 (by decide)]
  refine ev_iret rfl ?_
  rw [cp_t7 hC, ← wr0 (cp_w hC)]
  refine hQ _ (fun q h1 h2 => by rw [am_up_ne h2]; exact f1 q h1) am_up_eq (fun k hk => by rw [am_up_nk hk, f1 29 (by decide)]) (cp_fr hC2 (fun q hq => am_up_ne (by omega)))
theorem pub_keep {xs : am_R} {d n : Nat} {mem : am_M} {Q : am_P} (hI : Inv xs mem) (hQ : ∀ (rv : Int32) (m1 : am_M), RefA xs (d + 200) n 232 [.ref 221] rv m1 → Q (some (.int rv)) (am_SK n) m1) : am_ex (d + 200) 123 [.ref 29] (am_SK n) mem Q := by
  have hC := hI.2.1.1
  obtain ⟨i1, ⟨i2, i2b⟩, i3, i4, i5, i6, i7, i8, i9⟩ := id hI
  refine c_X11_keep hC (fun m1 f1 f2 f3 hC4 => hQ _ _ (fun Q2 h2 => ?_))
  have e1 : ∀ q, ¬ (104 ≤ q ∧ q ≤ 141) → q ≠ 29 → m1 q = mem q := f1
  have e222 := f1 222 (by decide) (by decide)
  rw [← congrFun e222 0] at h2
  refine c_X12_keep (fun i hi => ?_) (fun m2 g1 g2 g3 g4 => h2 _ ?_)
  · rw [e222, f1 223 (by decide) (by decide), (i9 i hi).1, (i9 i hi).2.1]
  have e : ∀ q, ¬ (104 ≤ q ∧ q ≤ 141) → q ≠ 29 → q ≠ 221 → q ≠ 223 → m2 q = mem q := fun q a b c z => (g1 q c z).trans (f1 q a b)
  have m222 := e 222 (by decide) (by decide) (by decide) (by decide)
  have m223 : m2 223 = mem 222 := g2.trans e222
  have m29 : ∀ k, k ≠ 5 → m2 29 k = mem 29 k := fun k hk => by rw [g1 29 (by decide) (by decide)]; exact f3 k hk
  have m221 : ∀ k, k ≠ 3 → m2 221 k = mem 221 k := fun k hk => by rw [g4 k hk, f1 221 (by decide) (by decide)]
  refine ⟨fun q hq => (e q (by omega) (by omega) (by omega) (by omega)).trans (i1 q hq), ⟨?_, by rw [m222]; exact i2b⟩, ?_, ?_, ?_, ?_, ?_, ?_, ?_⟩
  · rw [m222]; exact cp_fr i2 (fun q hq => e q (by omega) (by omega) (by omega) (by omega))
  · refine ⟨⟨by rw [g3, g1 29 (by decide) (by decide)]; exact f2, Or.inr g3⟩, fun _ => ?_⟩
    rw [m223, m222]
    exact ⟨cp_fr hC4 (fun q hq => g1 q (by omega) (by omega)), i2b, Nat.le_refl _⟩
  · exact I_tp_fr i4 (by rw [e 62 (by decide) (by decide) (by decide) (by decide)]) (m221 6 (by decide)) (e 63 (by decide) (by decide) (by decide) (by decide)) (e 226 (by decide) (by decide) (by decide) (by decide))
  · exact I_sh_fr i5 (fun q hq => e q (by omega) (by omega) (by omega) (by omega))
  · exact I_sl_fr i6 (fun q hq => e q (by omega) (by omega) (by omega) (by omega))
  · exact I_wt_fr i7 (m29 11 (by decide)) (m221 43 (by decide)) (e 195 (by decide) (by decide) (by decide) (by decide)) (e 252 (by decide) (by decide) (by decide) (by decide))
  · rw [e 227 (by decide) (by decide) (by decide) (by decide), e 228 (by decide) (by decide) (by decide) (by decide)]; exact i8
  · intro i hi; rw [m222, m223, e 224 (by decide) (by decide) (by decide) (by decide)]; exact ⟨(i9 i hi).1, (i9 i hi).1, (i9 i hi).2.2⟩
theorem c_X12_back {d n : Nat} {mem : am_M} {Q : am_P} (hz : ∀ i, 1561 ≤ i → mem 223 i = mem 222 i) (hQ1 : mem 221 3 = 0 → Q (some (.int S_NO)) (am_SK n) mem) (hQ : ¬ mem 221 3 = 0 → ∀ m2 : am_M, (∀ q, q ≠ 222 → m2 q = mem q) → m2 222 = mem 223 → Q (some (.int (mem 223 0))) (am_SK n) m2) : am_ex (d + 2) 233 [.ref 221] (am_SK n) mem Q := by
  refine ex_in (c0 := kc_X12_back) rfl (L := [some (.ref 221)]) rfl ?_
  refine ev_aload rfl rfl ?_
  refine ev_getI (c := 12) (j := 3) rfl ?_ (hq := k_221 n)
  refine ev_if_ne (p2 := 11) rfl rfl (fun cnd4 => ?_) (fun cnd4 => ?_)
  · skip
    refine ev_aload rfl rfl ?_
    refine ev_getR (c := 12) (j := 1) rfl ?_ (hq := k_221 n)
    refine ev_aload rfl rfl ?_
    refine ev_getR (c := 12) (j := 0) rfl ?_ (hq := k_221 n)
    refine ev_call rfl rfl ?_
    refine c_X12_copyAll (k_223 n) (k_222 n) (by decide) (hz) (fun m2 f1 f2 => ?_)
    change am_ev _ _ _ _ [] _ _ _
    refine ev_aload rfl rfl ?_
    refine ev_getR (c := 12) (j := 0) rfl ?_ (hq := k_221 n)
    refine ev_iconst (x := nI 0) rfl rfl ?_
    refine ev_ialdN rfl rfl ?_ (hq := k_222 n)
    refine ev_iret rfl ?_
    rw [f2]
    exact hQ cnd4 m2 f1 f2
  · skip
    refine ev_iconst (x := (-1000000002)) rfl rfl ?_
    refine ev_iret rfl ?_
    exact hQ1 cnd4
theorem c_X11_back {d n : Nat} {mem : am_M} {Q : am_P} {R : am_R} (hC : mem 29 5 = 1 → CplT 104 R mem) (h01 : mem 29 5 = 0 ∨ mem 29 5 = 1) (hQ1 : mem 29 5 = 0 → Q (some (.int S_NO)) (am_SK n) mem) (hQ : ¬ mem 29 5 = 0 → ∀ m2 : am_M, (∀ q, ¬ (66 ≤ q ∧ q ≤ 103) → m2 q = mem q) → CplT 66 R m2 → Q (some (.int (R 0))) (am_SK n) m2) : am_ex (d + 3) 124 [.ref 29] (am_SK n) mem Q := by
  refine ex_in (c0 := kc_X11_back) rfl (L := [some (.ref 29)]) rfl ?_
  refine ev_aload rfl rfl ?_
  refine ev_getI (c := 11) (j := 5) rfl ?_ (hq := k_29 n)
  refine ev_if_ne (p2 := 11) rfl rfl (fun cnd4 => ?_) (fun cnd4 => ?_)
  · skip
    have hC4 := hC (h01.resolve_left cnd4)
    refine ev_aload rfl rfl ?_
    refine ev_getR (c := 11) (j := 2) rfl ?_ (hq := k_29 n)
    refine ev_aload rfl rfl ?_
    refine ev_getR (c := 11) (j := 3) rfl ?_ (hq := k_29 n)
    refine ev_callV rfl rfl rfl rfl (Nat.le_of_ble_eq_true rfl) (Nat.le_of_ble_eq_true rfl) ?_ (hq := kt_0 n am_T66)
    refine c_X9_become am_T66 am_T104 (by decide) hC4 (fun m2 f1 hC2 => ?_)
    change am_ev _ _ _ _ [] _ _ _
    refine ev_aload rfl rfl ?_
    refine ev_getR (c := 11) (j := 2) rfl ?_ (hq := k_29 n)
    refine ev_getI (c := 9) (j := 7) rfl ?_ (hq := kt_0 n am_T66)
    refine ev_iret rfl ?_
    rw [cp_t7 hC2, ← wr0 (cp_w hC2)]
    exact hQ cnd4 m2 (fun q hq => f1 q (by omega)) hC2
  · skip
    refine ev_iconst (x := (-1000000002)) rfl rfl ?_
    refine ev_iret rfl ?_
    exact hQ1 cnd4
theorem pub_back {xs : am_R} {d n : Nat} {mem : am_M} {Q : am_P} (hI : Inv xs mem) (hQ : ∀ (rv : Int32) (m1 : am_M), RefA xs (d + 200) n 233 [.ref 221] rv m1 → Q (some (.int rv)) (am_SK n) m1) : am_ex (d + 200) 124 [.ref 29] (am_SK n) mem Q := by
  obtain ⟨i1, ⟨i2, i2b⟩, i3, i4, i5, i6, i7, i8, i9⟩ := id hI
  refine c_X11_back (R := mem 223) (fun z => (i3.2 (i3.1.1.symm.trans z)).1) (by rw [i3.1.1]; exact i3.1.2) (fun h0 => hQ _ _ (fun Q2 h2 => ?_)) (fun h0 m1 f1 hC2 => hQ _ _ (fun Q2 h2 => ?_))
  · refine c_X12_back (fun i hi => by rw [(i9 i hi).1, (i9 i hi).2.1]) (fun _ => h2 _ hI) (fun z => absurd (by rw [← i3.1.1]; exact h0) z)
  · have h31 : mem 221 3 = 1 := i3.1.2.resolve_left (fun z => h0 (by rw [i3.1.1]; exact z))
    have e223 := f1 223 (by decide)
    rw [← congrFun e223 0] at h2
    refine c_X12_back (fun i hi => by rw [e223, f1 222 (by decide), (i9 i hi).1, (i9 i hi).2.1]) (fun z => absurd z (by rw [f1 221 (by decide), h31]; decide)) (fun _ m2 g1 g2 => h2 _ ?_)
    have hF : FrR4 m1 m2 := ⟨fun q hq => g1 q (by omega), fun i hi => ⟨by rw [g2, e223, f1 222 (by decide), (i9 i hi).1, (i9 i hi).2.1], by rw [g1 224 (by decide)]⟩⟩
    exact Inv_town hI (fun q hq => f1 q (by omega)) hC2 hF (g2.trans e223) (i3.2 h31).2.1 (Or.inr (fun _ => Nat.le_refl _))
def S_fit (c : Nat) (V : am_R) : Nat → Nat → am_R → Int32
  | 0, _, _ => S_NONE
  | r + 1, k, R => if ¬ V k = S_NONE ∧ ¬ V k = S_drawn R (nI c) (nI 1) then nI k else S_fit c V r (k + 1) (S_hour R)
def X_fits (R S Z C : am_R) (s p : Int32) : Int32 := if P_sh s ∧ P_i p (R 3) then (if S (nn s) = -1 then S_NOTH else S_fit (nn p) (fun k => C (24 * nn s + k)) (nn (Z (nn s))) 0 R) else S_BAD
theorem hd1 {R : am_R} (hw : wfR R) (hT : wfTs R) {r b : Nat} (hb : b < 4000) (h : nn (R 1) + (r + 1) ≤ b) : nn (S_hour R 1) + r ≤ b := by
  rcases S_hour_hd hw hT (by omega) with h1 | h1 <;> omega
theorem l_X11_fits {d n : Nat} {mem0 : am_M} {Q : am_P} (s c z : Nat) (hs : s < 4) (hz : z < 25) (V : am_R) (r : Nat) : ∀ (mem : am_M) (R : am_R) (k : Nat) (hk : k + r = z) (hC : CplT 142 R mem) (hd : nn (R 1) + r ≤ 1100) (hf : FrP 142 mem0 mem) (hz1 : mem (198 + 2 * s) 1 = nI z) (hV : ∀ j, j < 24 → mem (199 + 2 * s) j = V j) (hQ : ∀ m2 : am_M, FrP 142 mem0 m2 → Q (some (.int (S_fit c V r k R))) (am_SK n) m2), am_ev kc_X11_fits (d + 7) 53 [some (.ref 29), some (.int (nI s)), some (.int (nI c)), some (.ref (198 + 2 * s)), some (.int (nI k))] [] (am_SK n) mem Q := by
  induction r with
  | zero =>
    intro mem R k hk hC hd hf hz1 hV hQ
    have hb := wb_all (cp_w hC)
    refine ev_iload rfl rfl ?_
    refine ev_aload rfl rfl ?_
    refine ev_getI (c := 6) (j := 1) rfl ?_ (hq := ks_sheet n (by omega))
    rw [hz1]
    refine ev_icmp_geN (p2 := 105) rfl rfl (fun cnd59 => ?_) (fun cnd59 => ?_)
    · skip
      refine ev_iconst (x := (-1000000005)) rfl rfl ?_
      refine ev_iret rfl ?_
      exact hQ mem hf
    · omega
  | succ r ih =>
    intro mem R k hk hC hd hf hz1 hV hQ
    have hb := wb_all (cp_w hC)
    unfold S_fit at hQ
    refine ev_iload rfl rfl ?_
    refine ev_aload rfl rfl ?_
    refine ev_getI (c := 6) (j := 1) rfl ?_ (hq := ks_sheet n (by omega))
    rw [hz1]
    refine ev_icmp_geN (p2 := 105) rfl rfl (fun cnd59 => ?_) (fun cnd59 => ?_)
    · omega
    · skip
      refine ev_aload rfl rfl ?_
      refine ev_iload rfl rfl ?_
      refine ev_callV rfl rfl rfl rfl (Nat.le_of_ble_eq_true rfl) (Nat.le_of_ble_eq_true rfl) ?_ (hq := ks_sheet n (by omega))
      refine c_X6_isNumber s hs k (by omega) ?_
      rw [hV k (by omega)]
      change am_ev _ _ _ _ [_] _ _ _
      refine ev_if_eqB (p2 := 92) rfl rfl (fun cnd68 => ?_) (fun cnd68 => ?_)
      · skip
        refine ev_aload rfl rfl ?_
        refine ev_getR (c := 11) (j := 4) rfl ?_ (hq := k_29 n)
        refine ev_callV rfl rfl rfl rfl (Nat.le_of_ble_eq_true rfl) (Nat.le_of_ble_eq_true rfl) ?_ (hq := kt_0 n am_T142)
        refine c_X9_passHour am_T142 hC (by omega) (fun mem2 h3 hC2 => ?_)
        have hf2 := FrP_tr hf h3
        change am_ev _ _ _ _ [] _ _ _
        refine ev_iincN rfl rfl rfl ?_
        refine ev_goto (p2 := 53) rfl rfl ?_
        have hz3 : mem2 (198 + 2 * s) 1 = nI z := by rw [h3 _ (by omega)]; exact hz1
        have hV3 : ∀ j, j < 24 → mem2 (199 + 2 * s) j = V j := fun j hj => by rw [h3 _ (by omega)]; exact hV j hj
        rw [if_neg (by
          rintro ⟨y1, y2⟩
          first | exact cnd68 y1 | exact y2 cnd86)] at hQ
        exact ih mem2 _ (k + 1) (by omega) hC2 (hd1 (cp_w hC) (cp_ts hC) (by decide) hd) hf2 hz3 hV3 hQ
      · skip
        refine ev_aload rfl rfl ?_
        refine ev_getR (c := 6) (j := 2) rfl ?_ (hq := ks_sheet n (by omega))
        refine ev_iload rfl rfl ?_
        refine ev_ialdN rfl rfl ?_ (hq := ks_vals n (by omega))
        rw [hV k (by omega)]
        refine ev_aload rfl rfl ?_
        refine ev_getR (c := 11) (j := 4) rfl ?_ (hq := k_29 n)
        refine ev_iload rfl rfl ?_
        refine ev_callV rfl rfl rfl rfl (Nat.le_of_ble_eq_true rfl) (Nat.le_of_ble_eq_true rfl) ?_ (hq := kt_0 n am_T142)
        refine c_X9_drawn am_T142 hC _ (fun mem h2 => ?_)
        have hC := cp_fr2 hC am_T142 h2
        have hf := FrP_tr hf (FrP_sc h2)
        have hz1 : mem (198 + 2 * s) 1 = nI z := by rw [h2 _ (by omega) (by omega)]; exact hz1
        have hV : ∀ j, j < 24 → mem (199 + 2 * s) j = V j := fun j hj => by rw [h2 _ (by omega) (by omega)]; exact hV j hj
        change am_ev _ _ _ _ [_, _] _ _ _
        refine ev_icmp_eq (p2 := 92) rfl rfl (fun cnd86 => ?_) (fun cnd86 => ?_)
        · skip
          refine ev_aload rfl rfl ?_
          refine ev_getR (c := 11) (j := 4) rfl ?_ (hq := k_29 n)
          refine ev_callV rfl rfl rfl rfl (Nat.le_of_ble_eq_true rfl) (Nat.le_of_ble_eq_true rfl) ?_ (hq := kt_0 n am_T142)
          refine c_X9_passHour am_T142 hC (by omega) (fun mem2 h3 hC2 => ?_)
          have hf2 := FrP_tr hf h3
          change am_ev _ _ _ _ [] _ _ _
          refine ev_iincN rfl rfl rfl ?_
          refine ev_goto (p2 := 53) rfl rfl ?_
          have hz3 : mem2 (198 + 2 * s) 1 = nI z := by rw [h3 _ (by omega)]; exact hz1
          have hV3 : ∀ j, j < 24 → mem2 (199 + 2 * s) j = V j := fun j hj => by rw [h3 _ (by omega)]; exact hV j hj
          rw [if_neg (by
            rintro ⟨y1, y2⟩
            first | exact cnd68 y1 | exact y2 cnd86)] at hQ
          exact ih mem2 _ (k + 1) (by omega) hC2 (hd1 (cp_w hC) (cp_ts hC) (by decide) hd) hf2 hz3 hV3 hQ
        · skip
          refine ev_iload rfl rfl ?_
          refine ev_iret rfl ?_
          rw [if_pos (show ¬ V k = S_NONE ∧ ¬ V k = S_drawn R (nI c) (nI 1) from And.intro cnd68 cnd86)] at hQ
          exact hQ mem hf
theorem c_X11_fits {d n : Nat} {mem : am_M} {Q : am_P} {R : am_R} (hC : CplT 66 R mem) (hsh : I_sh mem) (hd : nn (R 1) ≤ 999) (s p : Int32) (hQ : ∀ m2 : am_M, FrC mem m2 → CplT 66 R m2 → Q (some (.int (X_fits R (mem 245) (mem 246) (mem 247) s p))) (am_SK n) m2) : am_ex (d + 8) 115 [.ref 29, .int s, .int p] (am_SK n) mem Q := by
  have hb := wb_all (cp_w hC)
  unfold X_fits at hQ
  refine ex_in (c0 := kc_X11_fits) rfl (L := [some (.ref 29), some (.int s), some (.int p), none, none]) rfl ?_
  refine ev_iload rfl rfl ?_
  refine ev_call rfl rfl ?_
  refine c_X11_isSheet _ ?_
  change am_ev _ _ _ _ [_] _ _ _
  refine ev_if_eqB (p2 := 18) rfl rfl (fun cnd4 => ?_) (fun cnd4 => ?_)
  · skip
    refine ev_iconst (x := (-1000000001)) rfl rfl ?_
    refine ev_iret rfl ?_
    first
    | (rw [if_neg (fun z => cnd4 z.1)] at hQ; exact hQ mem (FrC_refl _) hC)
    | (rw [if_neg (fun z => cnd15 z.2)] at hQ; exact hQ mem (FrC_refl _) hC)
  · skip
    refine ev_aload rfl rfl ?_
    refine ev_getR (c := 11) (j := 2) rfl ?_ (hq := k_29 n)
    refine ev_iload rfl rfl ?_
    refine ev_callV rfl rfl rfl rfl (Nat.le_of_ble_eq_true rfl) (Nat.le_of_ble_eq_true rfl) ?_ (hq := kt_0 n am_T66)
    refine c_X9_hasCabinet am_T66 hC _ ?_
    change am_ev _ _ _ _ [_] _ _ _
    refine ev_if_neB (p2 := 21) rfl rfl (fun cnd15 => ?_) (fun cnd15 => ?_)
    · skip
      rw [if_pos (show P_sh s ∧ P_i p (R 3) from And.intro cnd4 cnd15)] at hQ
      obtain ⟨es, hs⟩ := am_rng (by decide) cnd4
      obtain ⟨ep, hp⟩ := am_idx (wr3 (cp_w hC)) (by omega) cnd15
      clear cnd4 cnd15
      generalize nn s = c at es hs hQ
      generalize nn p = q at ep hp hQ
      subst es
      subst ep
      obtain ⟨⟨eS, hS3⟩, ⟨eZ, eZ2, hz25⟩, hcells⟩ := hsh c (by omega)
      rw [eZ2] at eZ
      refine ev_aload rfl rfl ?_
      refine ev_getR (c := 11) (j := 8) rfl ?_ (hq := k_29 n)
      refine ev_iload rfl rfl ?_
      refine ev_aldN rfl rfl ?_ (kr_sheet (by omega)) (hq := k_193 n)
      refine ev_astore rfl rfl (Nat.le_of_ble_eq_true rfl) ?_
      refine ev_aload rfl rfl ?_
      refine ev_callV rfl rfl rfl rfl (Nat.le_of_ble_eq_true rfl) (Nat.le_of_ble_eq_true rfl) ?_ (hq := ks_sheet n (by omega))
      refine c_X6_isMissing c (by omega) eS ?_
      change am_ev _ _ _ _ [_] _ _ _
      refine ev_if_eqB (p2 := 39) rfl rfl (fun cnd32 => ?_) (fun cnd32 => ?_)
      · skip
        refine ev_aload rfl rfl ?_
        refine ev_getR (c := 11) (j := 4) rfl ?_ (hq := k_29 n)
        refine ev_aload rfl rfl ?_
        refine ev_getR (c := 11) (j := 2) rfl ?_ (hq := k_29 n)
        refine ev_callV rfl rfl rfl rfl (Nat.le_of_ble_eq_true rfl) (Nat.le_of_ble_eq_true rfl) ?_ (hq := kt_0 n am_T142)
        refine c_X9_become am_T142 am_T66 (by decide) hC (fun m2 f1 hC2 => ?_)
        change am_ev _ _ _ _ [] _ _ _
        refine ev_iconst (x := nI 0) rfl rfl ?_
        refine ev_istore rfl rfl (Nat.le_of_ble_eq_true rfl) ?_
        rw [if_neg cnd32] at hQ
        refine l_X11_fits (mem0 := mem) c q (nn (mem 246 c)) (by omega) hz25 (fun k => mem 247 (24 * c + k)) (nn (mem 246 c)) m2 R 0 (Nat.zero_add _) hC2 (by omega) (fun y hy => f1 y (by omega)) (by rw [f1 _ (by omega)]; exact eZ) (fun j hj => by rw [f1 _ (by omega)]; exact hcells j hj) (fun m3 h3 => hQ m3 (FrC_P142 h3) (cp_fr hC (fun y hy => h3 y (by omega))))
      · skip
        refine ev_iconst (x := (-1000000011)) rfl rfl ?_
        refine ev_iret rfl ?_
        rw [if_pos cnd32] at hQ
        exact hQ mem (FrC_refl _) hC
    · skip
      refine ev_iconst (x := (-1000000001)) rfl rfl ?_
      refine ev_iret rfl ?_
      first
      | (rw [if_neg (fun z => cnd4 z.1)] at hQ; exact hQ mem (FrC_refl _) hC)
      | (rw [if_neg (fun z => cnd15 z.2)] at hQ; exact hQ mem (FrC_refl _) hC)
