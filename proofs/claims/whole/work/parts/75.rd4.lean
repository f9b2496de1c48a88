/-! the round: the reference, all orders -/
def okj (n : Nat) (p : List Nat) : Nat → Bool
  | 0 => true
  | k + 1 => Nat.blt (gf p k) n && okj n p k
theorem ok_all : ∀ n, n < 7 → (cm n n 0).all (fun p => Nat.beq p.length n && okj n p n) = true := by decide +kernel
theorem okj_s {n : Nat} {p : List Nat} : ∀ k, okj n p k = true → ∀ j, j < k → gf p j < n := by
  intro k
  induction k with
  | zero => intro _ j hj; exact absurd hj (Nat.not_lt_zero j)
  | succ k ih =>
    intro h j hj
    unfold okj at h
    rw [Bool.and_eq_true] at h
    by_cases e : j = k
    · subst e; exact Nat.le_of_ble_eq_true h.1
    · exact ih h.2 j (by omega)
def okp (n : Nat) (p : List Nat) : Prop := p.length = n ∧ ∀ j, j < n → gf p j < n
theorem cm_ok {n : Nat} (hn : n < 7) : ∀ p ∈ cm n n 0, okp n p := by
  intro p hp
  have h := List.all_eq_true.mp (ok_all n hn) p hp
  rw [Bool.and_eq_true] at h
  exact ⟨Nat.eq_of_beq_eq_true h.1, okj_s n h.2⟩
theorem eqn_s {f g : Nat → Nat} : ∀ k, eqn f g k = true → ∀ j, j < k → f j = g j := by
  intro k
  induction k with
  | zero => intro _ j hj; exact absurd hj (Nat.not_lt_zero j)
  | succ k ih =>
    intro h j hj
    unfold eqn at h
    rw [Bool.and_eq_true] at h
    by_cases e : j = k
    · subst e; exact eq_of_beq h.1
    · exact ih h.2 j (by omega)
theorem chk_1 {n : Nat} {p : List Nat} (h : chk n [p] = true) : u1 (gf p) (n - 1) = 0 := by
  unfold chk at h
  exact eq_of_beq h
theorem chk_2 {n : Nat} {p q : List Nat} {r : List (List Nat)} (h : chk n (p :: q :: r) = true) : (0 < u1 (gf p) (n - 1) ∧ u1 (gf p) (n - 1) ≤ u2 (gf p) (gf p (u1 (gf p) (n - 1) - 1)) (n - 1)) ∧ (∀ j, j < n → upf n (gf p) j = gf q j) ∧ chk n (q :: r) = true := by
  unfold chk at h
  rw [Bool.and_eq_true, Bool.and_eq_true, Bool.and_eq_true] at h
  exact ⟨⟨Nat.le_of_ble_eq_true h.1.1, Nat.le_of_ble_eq_true h.1.2⟩, eqn_s n h.2.1, h.2.2⟩
theorem l_rdc {d n : Nat} {Q : am_P} {mem0 : am_M} {c : Nat} {w : Int32} {x3 x4 : Option Value} (hK : ∀ (m2 : am_M) (x5 : Option Value), (∀ q, q ≠ 244 → m2 q = mem0 q) → (∀ j, j < 6 → m2 244 j = mem0 243 j) → am_ev kc_X12_round d 124 [some (.ref 221), some (.int (nI c)), some (.int w), x3, x4, x5] [] (am_SK n) m2 Q) (r : Nat) : ∀ (mem : am_M) (k : Nat) (hk : k + r = 6) (hf : ∀ q, q ≠ 244 → mem q = mem0 q) (hC : ∀ j, j < k → mem 244 j = mem0 243 j), am_ev kc_X12_round d 97 [some (.ref 221), some (.int (nI c)), some (.int w), x3, x4, some (.int (nI k))] [] (am_SK n) mem Q := by
  induction r with
  | zero =>
    intro mem k hk hf hC
    refine ev_iload rfl rfl ?_
    refine ev_iconst (x := nI 6) rfl rfl ?_
    refine ev_icmp_geN (p2 := 124) rfl rfl (fun cnd101 => ?_) (fun cnd101 => ?_)
    · skip
      exact hK mem _ hf (fun j hj => hC j (by omega))
    · omega
  | succ r ih =>
    intro mem k hk hf hC
    refine ev_iload rfl rfl ?_
    refine ev_iconst (x := nI 6) rfl rfl ?_
    refine ev_icmp_geN (p2 := 124) rfl rfl (fun cnd101 => ?_) (fun cnd101 => ?_)
    · omega
    · skip
      refine ev_aload rfl rfl ?_
      refine ev_getR (c := 12) (j := 33) rfl ?_ (hq := k_221 n)
      refine ev_iload rfl rfl ?_
      refine ev_aload rfl rfl ?_
      refine ev_getR (c := 12) (j := 32) rfl ?_ (hq := k_221 n)
      refine ev_iload rfl rfl ?_
      refine ev_ialdN rfl rfl ?_ (hq := k_243 n)
      rw [hf 243 (by decide)]
      refine ev_iastS rfl (fun m3 hm3 => ?_) (hq := k_244 n)
      refine ev_iincN rfl rfl rfl ?_
      refine ev_goto (p2 := 97) rfl rfl ?_
      refine ih m3 (k + 1) (by omega) (fun q hq => ?_) (fun j hj => ?_)
      · subst hm3
        unfold am_up
        rw [if_neg hq]
        exact hf q hq
      · subst hm3
        by_cases e : j = k
        · subst e
          exact am_up_eq
        · rw [am_up_nk e]
          exact hC j (by omega)
theorem l_rd {d n : Nat} {Q : am_P} {mem0 : am_M} {R : am_R} {c h : Nat} {w : Int32} (hw : wfR R) (hc : c < nn (R 3)) (hh : h < 3031) (he : R (23 + 6 * c + 0) = nI h) (l : List (List Nat)) : ∀ (p : List Nat) (mem : am_M) (s : Nat × am_R) (hk : chk (nn (R 8)) (p :: l) = true) (ho : ∀ q ∈ p :: l, okp (nn (R 8)) q) (hf : FrQ mem0 mem) (hR : mem 222 = R) (hF : ∀ j, j < nn (R 8) → mem 243 j = nI (gf p j)) (hS : (mem 221 34 = -1 ∧ s.1 = 2147483647) ∨ (mem 221 34 = nI s.1 ∧ s.1 < 2147483647 ∧ ∀ j, j < nn (R 8) → mem 244 j = s.2 j)) (x4 x5 : Option Value) (hQ : ∀ (m2 : am_M) (x4 x5 : Option Value), FrQ mem0 m2 → m2 221 34 = nI ((p :: l).foldl (btr (wl (gR R) h h) lI) s).1 → (∀ j, j < nn (R 8) → m2 244 j = ((p :: l).foldl (btr (wl (gR R) h h) lI) s).2 j) → am_ev kc_X12_round (d + 2) 132 [some (.ref 221), some (.int (nI c)), some (.int w), some (.int (nI 0)), x4, x5] [] (am_SK n) m2 Q), am_ev kc_X12_round (d + 2) 56 [some (.ref 221), some (.int (nI c)), some (.int w), some (.int (nI 1)), x4, x5] [] (am_SK n) mem Q := by
  induction l with
  | nil =>
    intro p mem s hk ho hf hR hF hS x4 x5 hQ
    have hb := wb_all hw
    have hop := ho p List.mem_cons_self
    have hB : ∀ j, j < nn (R 8) → gf p j < 6 := fun j hj => by have := hop.2 j hj; omega
    have hW := wl_lt (g := gR R) hh (gR_lt hw) p h hh
    rw [hop.1] at hW
    obtain ⟨wv, hwv⟩ : ∃ wv, wl (gR R) h h p = wv := ⟨_, rfl⟩
    have hWv : wv < 2147483647 := by omega
    have tail : ∀ (mem : am_M) (s2 : Nat × am_R) (x4 x5 : Option Value), FrQ mem0 mem → mem 222 = R → (∀ j, j < nn (R 8) → mem 243 j = nI (gf p j)) → (mem 221 34 = nI s2.1 ∧ s2.1 < 2147483647 ∧ ∀ j, j < nn (R 8) → mem 244 j = s2.2 j) → btr (wl (gR R) h h) lI s p = s2 → am_ev kc_X12_round (d + 2) 124 [some (.ref 221), some (.int (nI c)), some (.int w), some (.int (nI 1)), x4, x5] [] (am_SK n) mem Q := by
      intro mem s2 x4 x5 hf hR hF hS2 e2
      rw [List.foldl_cons, e2] at hQ
      have hu := chk_1 hk
      refine ev_aload rfl rfl ?_
      refine ev_call rfl rfl ?_
      refine c_goesUp hR hw hF hB (fun z => absurd z (by omega)) (fun _ => ?_) (fun z => absurd z (by omega))
      change am_ev _ _ _ _ [_] _ _ _
      refine ev_istore rfl rfl (Nat.le_of_ble_eq_true rfl) ?_
      refine ev_goto (p2 := 56) rfl rfl ?_
      refine ev_iload rfl rfl ?_
      refine ev_if_eqN (p2 := 132) rfl rfl (fun _ => ?_) (fun zz => absurd zz (by decide))
      exact hQ mem _ _ hf hS2.1 hS2.2.2
    rcases hS with hS | hS
    · have hs1 := hS.2
      refine ev_iload rfl rfl ?_
      refine ev_if_eqN (p2 := 132) rfl rfl (fun zz => absurd zz (by decide)) (fun _ => ?_)
      refine ev_aload rfl rfl ?_
      refine ev_aload rfl rfl ?_
      refine ev_iload rfl rfl ?_
      refine ev_iconst (x := nI 0) rfl rfl ?_
      refine ev_call rfl rfl ?_
      refine r_cab6 hR c 0 (by omega) he ?_
      change am_ev _ _ _ _ [_, _] _ _ _
      refine ev_call rfl rfl ?_
      refine c_X12_wayOfRow hR hw hF hop.1 hop.2 hh ?_
      rw [hwv]
      change am_ev _ _ _ _ [_] _ _ _
      refine ev_istore rfl rfl (Nat.le_of_ble_eq_true rfl) ?_
      refine ev_aload rfl rfl ?_
      refine ev_getI (c := 12) (j := 34) rfl ?_ (hq := k_221 n)
      rw [hS.1]
      refine ev_if_lt (p2 := 88) rfl rfl (fun cnd76 => ?_) (fun cnd76 => ?_)
      · skip
        refine ev_aload rfl rfl ?_
        refine ev_iload rfl rfl ?_
        refine ev_putS (c := 12) (j := 34) rfl (fun m3 hm3 => ?_) (hq := k_221 n)
        refine ev_iconst (x := nI 0) rfl rfl ?_
        refine ev_istore rfl rfl (Nat.le_of_ble_eq_true rfl) ?_
        refine l_rdc (fun m4 x5 hf4 hc4 => ?_) 6 m3 0 rfl (fun _ _ => rfl) (fun j hj => absurd hj (Nat.not_lt_zero j))
        have hf3 : FrQ mem m3 := FrQ_up hm3 (Or.inr (Or.inr ⟨rfl, rfl⟩))
        have hf34 : FrQ m3 m4 := fun q k _ e2 _ => congrFun (hf4 q e2) k
        have hf5 := FrQ_tr hf3 hf34
        have e243 : m3 243 = mem 243 := by
          subst hm3
          unfold am_up
          rw [if_neg (by decide)]
        refine tail m4 (wv, lI p) _ _ (FrQ_tr hf hf5) ((FrQ_row hf5 (by decide) (by decide) (by decide)).trans hR) (fun j hj => ?_) ⟨?_, hWv, fun j hj => ?_⟩ ?_
        · rw [hf4 243 (by decide), e243]
          exact hF j hj
        · rw [hf4 221 (by decide), hm3]
          exact am_up_eq
        · rw [hc4 j (by omega), e243]
          exact hF j hj
        · unfold btr
          rw [hwv, if_pos (by omega)]
      · exact absurd (by decide) cnd76
    · have hs1 := hS.2.1
      refine ev_iload rfl rfl ?_
      refine ev_if_eqN (p2 := 132) rfl rfl (fun zz => absurd zz (by decide)) (fun _ => ?_)
      refine ev_aload rfl rfl ?_
      refine ev_aload rfl rfl ?_
      refine ev_iload rfl rfl ?_
      refine ev_iconst (x := nI 0) rfl rfl ?_
      refine ev_call rfl rfl ?_
      refine r_cab6 hR c 0 (by omega) he ?_
      change am_ev _ _ _ _ [_, _] _ _ _
      refine ev_call rfl rfl ?_
      refine c_X12_wayOfRow hR hw hF hop.1 hop.2 hh ?_
      rw [hwv]
      change am_ev _ _ _ _ [_] _ _ _
      refine ev_istore rfl rfl (Nat.le_of_ble_eq_true rfl) ?_
      refine ev_aload rfl rfl ?_
      refine ev_getI (c := 12) (j := 34) rfl ?_ (hq := k_221 n)
      rw [hS.1]
      refine ev_if_ltN rfl ?_
      refine ev_iload rfl rfl ?_
      refine ev_aload rfl rfl ?_
      refine ev_getI (c := 12) (j := 34) rfl ?_ (hq := k_221 n)
      rw [hS.1]
      refine ev_icmp_geN (p2 := 124) rfl rfl (fun cnd85 => ?_) (fun cnd85 => ?_)
      · skip
        exact tail mem s _ _ hf hR hF hS (by unfold btr; rw [hwv, if_neg (by omega)])
      · skip
        refine ev_aload rfl rfl ?_
        refine ev_iload rfl rfl ?_
        refine ev_putS (c := 12) (j := 34) rfl (fun m3 hm3 => ?_) (hq := k_221 n)
        refine ev_iconst (x := nI 0) rfl rfl ?_
        refine ev_istore rfl rfl (Nat.le_of_ble_eq_true rfl) ?_
        refine l_rdc (fun m4 x5 hf4 hc4 => ?_) 6 m3 0 rfl (fun _ _ => rfl) (fun j hj => absurd hj (Nat.not_lt_zero j))
        have hf3 : FrQ mem m3 := FrQ_up hm3 (Or.inr (Or.inr ⟨rfl, rfl⟩))
        have hf34 : FrQ m3 m4 := fun q k _ e2 _ => congrFun (hf4 q e2) k
        have hf5 := FrQ_tr hf3 hf34
        have e243 : m3 243 = mem 243 := by
          subst hm3
          unfold am_up
          rw [if_neg (by decide)]
        refine tail m4 (wv, lI p) _ _ (FrQ_tr hf hf5) ((FrQ_row hf5 (by decide) (by decide) (by decide)).trans hR) (fun j hj => ?_) ⟨?_, hWv, fun j hj => ?_⟩ ?_
        · rw [hf4 243 (by decide), e243]
          exact hF j hj
        · rw [hf4 221 (by decide), hm3]
          exact am_up_eq
        · rw [hc4 j (by omega), e243]
          exact hF j hj
        · unfold btr
          rw [hwv, if_pos (by omega)]
  | cons p2 l ih =>
    intro p mem s hk ho hf hR hF hS x4 x5 hQ
    have hb := wb_all hw
    have hop := ho p List.mem_cons_self
    have hB : ∀ j, j < nn (R 8) → gf p j < 6 := fun j hj => by have := hop.2 j hj; omega
    have hW := wl_lt (g := gR R) hh (gR_lt hw) p h hh
    rw [hop.1] at hW
    obtain ⟨wv, hwv⟩ : ∃ wv, wl (gR R) h h p = wv := ⟨_, rfl⟩
    have hWv : wv < 2147483647 := by omega
    have tail : ∀ (mem : am_M) (s2 : Nat × am_R) (x4 x5 : Option Value), FrQ mem0 mem → mem 222 = R → (∀ j, j < nn (R 8) → mem 243 j = nI (gf p j)) → (mem 221 34 = nI s2.1 ∧ s2.1 < 2147483647 ∧ ∀ j, j < nn (R 8) → mem 244 j = s2.2 j) → btr (wl (gR R) h h) lI s p = s2 → am_ev kc_X12_round (d + 2) 124 [some (.ref 221), some (.int (nI c)), some (.int w), some (.int (nI 1)), x4, x5] [] (am_SK n) mem Q := by
      intro mem s2 x4 x5 hf hR hF hS2 e2
      rw [List.foldl_cons, e2] at hQ
      have hu := chk_2 hk
      refine ev_aload rfl rfl ?_
      refine ev_call rfl rfl ?_
      refine c_goesUp hR hw hF hB (fun _ => hu.1.2) (fun z => absurd z (by omega)) (fun _ m5 hf5 hF5 => ?_)
      change am_ev _ _ _ _ [_] _ _ _
      refine ev_istore rfl rfl (Nat.le_of_ble_eq_true rfl) ?_
      refine ev_goto (p2 := 56) rfl rfl ?_
      have hf6 : FrQ mem m5 := fun q k e1 _ _ => congrFun (hf5 q e1) k
      refine ih p2 m5 s2 hu.2.2 (fun q hq => ho q (List.mem_cons_of_mem _ hq)) (FrQ_tr hf hf6) ((hf5 222 (by decide)).trans hR) (fun j hj => (hF5 j hj).trans (congrArg nI (hu.2.1 j hj))) (Or.inr ?_) _ _ hQ
      rw [hf5 221 (by decide), hf5 244 (by decide)]
      exact hS2
    rcases hS with hS | hS
    · have hs1 := hS.2
      refine ev_iload rfl rfl ?_
      refine ev_if_eqN (p2 := 132) rfl rfl (fun zz => absurd zz (by decide)) (fun _ => ?_)
      refine ev_aload rfl rfl ?_
      refine ev_aload rfl rfl ?_
      refine ev_iload rfl rfl ?_
      refine ev_iconst (x := nI 0) rfl rfl ?_
      refine ev_call rfl rfl ?_
      refine r_cab6 hR c 0 (by omega) he ?_
      change am_ev _ _ _ _ [_, _] _ _ _
      refine ev_call rfl rfl ?_
      refine c_X12_wayOfRow hR hw hF hop.1 hop.2 hh ?_
      rw [hwv]
      change am_ev _ _ _ _ [_] _ _ _
      refine ev_istore rfl rfl (Nat.le_of_ble_eq_true rfl) ?_
      refine ev_aload rfl rfl ?_
      refine ev_getI (c := 12) (j := 34) rfl ?_ (hq := k_221 n)
      rw [hS.1]
      refine ev_if_lt (p2 := 88) rfl rfl (fun cnd76 => ?_) (fun cnd76 => ?_)
      · skip
        refine ev_aload rfl rfl ?_
        refine ev_iload rfl rfl ?_
        refine ev_putS (c := 12) (j := 34) rfl (fun m3 hm3 => ?_) (hq := k_221 n)
        refine ev_iconst (x := nI 0) rfl rfl ?_
        refine ev_istore rfl rfl (Nat.le_of_ble_eq_true rfl) ?_
        refine l_rdc (fun m4 x5 hf4 hc4 => ?_) 6 m3 0 rfl (fun _ _ => rfl) (fun j hj => absurd hj (Nat.not_lt_zero j))
        have hf3 : FrQ mem m3 := FrQ_up hm3 (Or.inr (Or.inr ⟨rfl, rfl⟩))
        have hf34 : FrQ m3 m4 := fun q k _ e2 _ => congrFun (hf4 q e2) k
        have hf5 := FrQ_tr hf3 hf34
        have e243 : m3 243 = mem 243 := by
          subst hm3
          unfold am_up
          rw [if_neg (by decide)]
        refine tail m4 (wv, lI p) _ _ (FrQ_tr hf hf5) ((FrQ_row hf5 (by decide) (by decide) (by decide)).trans hR) (fun j hj => ?_) ⟨?_, hWv, fun j hj => ?_⟩ ?_
        · rw [hf4 243 (by decide), e243]
          exact hF j hj
        · rw [hf4 221 (by decide), hm3]
          exact am_up_eq
        · rw [hc4 j (by omega), e243]
          exact hF j hj
        · unfold btr
          rw [hwv, if_pos (by omega)]
      · exact absurd (by decide) cnd76
    · have hs1 := hS.2.1
      refine ev_iload rfl rfl ?_
      refine ev_if_eqN (p2 := 132) rfl rfl (fun zz => absurd zz (by decide)) (fun _ => ?_)
      refine ev_aload rfl rfl ?_
      refine ev_aload rfl rfl ?_
      refine ev_iload rfl rfl ?_
      refine ev_iconst (x := nI 0) rfl rfl ?_
      refine ev_call rfl rfl ?_
      refine r_cab6 hR c 0 (by omega) he ?_
      change am_ev _ _ _ _ [_, _] _ _ _
      refine ev_call rfl rfl ?_
      refine c_X12_wayOfRow hR hw hF hop.1 hop.2 hh ?_
      rw [hwv]
      change am_ev _ _ _ _ [_] _ _ _
      refine ev_istore rfl rfl (Nat.le_of_ble_eq_true rfl) ?_
      refine ev_aload rfl rfl ?_
      refine ev_getI (c := 12) (j := 34) rfl ?_ (hq := k_221 n)
      rw [hS.1]
      refine ev_if_ltN rfl ?_
      refine ev_iload rfl rfl ?_
      refine ev_aload rfl rfl ?_
      refine ev_getI (c := 12) (j := 34) rfl ?_ (hq := k_221 n)
      rw [hS.1]
      refine ev_icmp_geN (p2 := 124) rfl rfl (fun cnd85 => ?_) (fun cnd85 => ?_)
      · skip
        exact tail mem s _ _ hf hR hF hS (by unfold btr; rw [hwv, if_neg (by omega)])
      · skip
        refine ev_aload rfl rfl ?_
        refine ev_iload rfl rfl ?_
        refine ev_putS (c := 12) (j := 34) rfl (fun m3 hm3 => ?_) (hq := k_221 n)
        refine ev_iconst (x := nI 0) rfl rfl ?_
        refine ev_istore rfl rfl (Nat.le_of_ble_eq_true rfl) ?_
        refine l_rdc (fun m4 x5 hf4 hc4 => ?_) 6 m3 0 rfl (fun _ _ => rfl) (fun j hj => absurd hj (Nat.not_lt_zero j))
        have hf3 : FrQ mem m3 := FrQ_up hm3 (Or.inr (Or.inr ⟨rfl, rfl⟩))
        have hf34 : FrQ m3 m4 := fun q k _ e2 _ => congrFun (hf4 q e2) k
        have hf5 := FrQ_tr hf3 hf34
        have e243 : m3 243 = mem 243 := by
          subst hm3
          unfold am_up
          rw [if_neg (by decide)]
        refine tail m4 (wv, lI p) _ _ (FrQ_tr hf hf5) ((FrQ_row hf5 (by decide) (by decide) (by decide)).trans hR) (fun j hj => ?_) ⟨?_, hWv, fun j hj => ?_⟩ ?_
        · rw [hf4 243 (by decide), e243]
          exact hF j hj
        · rw [hf4 221 (by decide), hm3]
          exact am_up_eq
        · rw [hc4 j (by omega), e243]
          exact hF j hj
        · unfold btr
          rw [hwv, if_pos (by omega)]
