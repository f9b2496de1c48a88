/-! texts: a level of the class's descent -/
theorem lowH_up {a : Nat} : ∀ {S : List Int32}, lowH a S → lowH (a + 1) S
  | [], _ => trivial
  | c :: r, h => by
    rcases h with h | ⟨h1, h2⟩
    · exact Or.inl h
    · exact Or.inr ⟨h1, by omega⟩
theorem l_lev39 {tp : Nat → Nat} {tl : Nat} {B : am_M} {key n F : Nat} (hT : TpC tp tl B) (hSt : StrM B) (ihL : LvC tp tl B key n F) {l : Nat} {w : Bool} {p : Nat} {out S : List Int32} {na : Nat} {t : Bool} {T0 : List Bool} {nt d : Nat} {Q : am_P} (hl5 : l < 5) (hp : p ≤ tl) (hT8 : T0.length ≤ 8) (hnt : cntN S = nt) (hn8 : nt ≤ 8) (hlow : lowH (l + 1) S) (hF : 10 * (tl - tA tp tl p) + 2 + (5 - l) ≤ F + 1) (hd : 7 * (8 - T0.length) + (8 - nt) + 11 + (5 - l) ≤ d + 8) (hQ : ∀ (r : Int32) (m2 : am_M), LvR tp tl B key l w p out S na t T0 r m2 → Q (some (.int r)) (am_SK n) m2) (mx : Nat) (hmx : (l = 2 ∧ mx = 1) ∨ (l ≠ 2 ∧ mx = 96)) (r : Nat) : ∀ (mem : am_M) (i : Nat) (w2 : Bool) (p2 : Nat) (out1 P : List Int32) (na2 : Nat) (t2 : Bool) (x7 : Option Value), tl - tA tp tl p2 < r → CS tp tl B key w2 p2 (P.reverse ++ out1) na2 mem → p2 ≤ tl → tA tp tl p < tA tp tl p2 → i < tA tp tl p2 → (P.reverse ++ out1).length + S.length ≤ tA tp tl p2 → okL (nmK key) (P.reverse ++ out1) → dpL (P.reverse ++ out1) = dpL out + 1 → BnP P (l + 1) → (3 ≤ l → t2 = t) → (l = 2 → (i = 0 → t2 = false) ∧ (1 ≤ i → t2 = true)) → NS tp tl (l + 1) t2 p2 → Lk tp tl key w p out S na t T0 true w2 p2 out1 (P ++ S) na2 t2 T0 false → am_ev kc_X5_readLevel (d + 7) 39 [some (.ref 62), some (.int (nI l)), some (.int (nI T0.length)), some (.int (nI nt)), some (.int (nI 1)), some (.int (nI mx)), some (.int (nI i)), x7] [] (am_SK n) mem Q := by
  induction r with
  | zero => intro mem i w2 p2 out1 P na2 t2 x7 h; exact absurd h (Nat.not_lt_zero _)
  | succ r ih =>
    intro mem i w2 p2 out1 P na2 t2 x7 hr hC hp2 hA hi hlen hok hdp hB ht3 ht2 hNS hlk
    have hl := hT.1
    have hab := tA_b (tp := tp) hp2
    have hTm := TpC_D hT hC.1
    have hSm := StrM_D hSt hC.1
    refine ev_iload rfl rfl ?_
    refine ev_iload rfl rfl ?_
    refine ev_icmp_geN (p2 := 101) rfl rfl (fun cnd43 => ?_) (fun cnd43 => ?_)
    · skip
      refine ev_iload rfl rfl ?_
      refine ev_zret rfl ?_
      refine hQ _ _ (Or.inr (And.intro rfl (Exists.intro w2 (Exists.intro p2 (Exists.intro out1 (Exists.intro P (Exists.intro na2 (Exists.intro t2 (And.intro hC (And.intro hp2 (And.intro hA (And.intro hlen (And.intro hok (And.intro hdp (And.intro hB (And.intro ht3 (And.intro ?_ hlk)))))))))))))))))
      intro hs hr2
      by_cases e : rk (sg tp tl p2) = l + 1
      · first
        | exact absurd (And.intro hs e) cnd56
        | (rcases hmx with ⟨e2, e3⟩ | ⟨e2, e3⟩
           · exact And.intro (by omega) ((ht2 e2).2 (by omega))
           · exfalso; omega)
      · exact hNS hs (by omega)
    · skip
      refine ev_iload rfl rfl ?_
      refine ev_if_eqN (p2 := 101) rfl rfl (fun zz => absurd zz (by decide)) (fun _ => ?_)
      refine ev_aload rfl rfl ?_
      refine ev_iload rfl rfl ?_
      refine ev_call rfl rfl ?_
      refine c_X5_isSignOf hTm hC.2.1 hSm l hl5 ?_
      change am_ev _ _ _ _ [_] _ _ _
      refine ev_if_eqB (p2 := 101) rfl rfl (fun cnd56 => ?_) (fun cnd56 => ?_)
      · skip
        refine ev_iload rfl rfl ?_
        refine ev_zret rfl ?_
        refine hQ _ _ (Or.inr (And.intro rfl (Exists.intro w2 (Exists.intro p2 (Exists.intro out1 (Exists.intro P (Exists.intro na2 (Exists.intro t2 (And.intro hC (And.intro hp2 (And.intro hA (And.intro hlen (And.intro hok (And.intro hdp (And.intro hB (And.intro ht3 (And.intro ?_ hlk)))))))))))))))))
        intro hs hr2
        by_cases e : rk (sg tp tl p2) = l + 1
        · first
          | exact absurd (And.intro hs e) cnd56
          | (rcases hmx with ⟨e2, e3⟩ | ⟨e2, e3⟩
             · exact And.intro (by omega) ((ht2 e2).2 (by omega))
             · exfalso; omega)
        · exact hNS hs (by omega)
      · skip
        obtain ⟨hs, hrk⟩ := cnd56
        obtain ⟨h3, hlt, hIC, h10, hr5, henc⟩ := sg_i hTm.2.2.2 hs
        have hN := tN_b (tp := tp) (tl := tl) (p := p2) (by omega)
        have hA2 := tA_b (tp := tp) hN.2
        have htt : ¬ (rk (sg tp tl p2) = 3 ∧ t2 = true) := by
          intro z
          rcases hmx with ⟨e2, e3⟩ | ⟨e2, e3⟩
          · exact absurd (((ht2 e2).1 (by omega)).symm.trans z.2) (by decide)
          · omega
        have hl6 : out1.length + (P ++ S).length < 96 := by
          rw [List.length_append, List.length_reverse] at hlen
          rw [List.length_append]
          omega
        have hlk2 : Lk tp tl key w p out S na t T0 true (tW tp tl p2) (tN tp tl p2) (P.reverse ++ out1) (sg tp tl p2 :: S) na2 (decide (rk (sg tp tl p2) = 3) || (decide (3 < rk (sg tp tl p2)) && t2)) T0 true := Lk_t hlk (fun B2 d2 n2 Q2 hB2 h2 => st_op hB2 h3 hs (fun c hc => And.intro (hB c hc).1 (by have z := (hB c hc).2.2; omega)) (by rw [hrk]; exact hlow) hl6 hT8 (fun c hc => (hB c hc).2.1) htt h2)
        refine ev_aload rfl rfl ?_
        refine ev_getR (c := 5) (j := 0) rfl ?_ (hq := k_62 n)
        refine ev_aload rfl rfl ?_
        refine ev_getI (c := 5) (j := 4) rfl ?_ (hq := k_62 n)
        rw [hC.2.1.2.1]
        refine ev_ialdN rfl rfl ?_ (hq := k_63 n)
        rw [hTm.2.2.1 _ hlt]
        refine ev_istore rfl rfl (Nat.le_of_ble_eq_true rfl) ?_
        refine ev_aload rfl rfl ?_
        refine ev_call rfl rfl ?_
        refine c_stepS hT hC (by omega) (fun m1 hm => ?_)
        change am_ev _ _ _ _ [] _ _ _
        refine ev_aload rfl rfl ?_
        refine ev_iload rfl rfl ?_
        refine ev_iconst (x := nI 1) rfl rfl ?_
        refine ev_iaddN rfl ?_
        refine ev_iload rfl rfl ?_
        refine ev_iload rfl rfl ?_
        refine ev_call rfl rfl ?_
        refine ihL (l + 1) (tW tp tl p2) (tN tp tl p2) (P.reverse ++ out1) (sg tp tl p2 :: S) na2 (decide (rk (sg tp tl p2) = 3) || (decide (3 < rk (sg tp tl p2)) && t2)) T0 nt _ _ _ (by omega) hm hN.2 (fun z => ?_) hT8 ?_ hn8 (Or.inr (And.intro hIC (by omega))) (by show _ + (S.length + 1) ≤ _; omega) hok (by omega) (by omega) (fun rr m2 hrr => ?_)
        · rw [decide_eq_false (show ¬ rk (sg tp tl p2) = 3 by omega), decide_eq_false (show ¬ 3 < rk (sg tp tl p2) by omega)]
          rfl
        · show cntN S + (if sg tp tl p2 = -10 then 1 else 0) = nt
          rw [if_neg h10, Nat.add_zero, hnt]
        change am_ev _ _ _ _ [_] _ _ _
        skip
        have hmx2 : mx ≤ 96 := by omega
        rcases hrr with ⟨e, p3, q1, q2⟩ | ⟨e, w3, p3, out3, P3, na3, t3, q1, q2, q3, q4, q5, q6, q7, q8, q9, q10⟩
        · subst e
          refine ev_istore rfl rfl (Nat.le_of_ble_eq_true rfl) ?_
          refine ev_aload rfl rfl ?_
          refine ev_getR (c := 5) (j := 2) rfl ?_ (hq := k_62 n)
          refine ev_iload rfl rfl ?_
          refine ev_ineg rfl ?_
          refine ev_call rfl rfl ?_
          refine c_addF q1 _ (fun m3 f3 => ?_)
          change am_ev _ _ _ _ [] _ _ _
          refine ev_iincN rfl rfl rfl ?_
          refine ev_goto (p2 := 39) rfl rfl ?_
          refine ev_iload rfl rfl ?_
          refine ev_iload rfl rfl ?_
          refine ev_icmp_geN (p2 := 101) rfl rfl (fun cnd43 => ?_) (fun cnd43 => ?_)
          · skip
            refine ev_iload rfl rfl ?_
            refine ev_zret rfl ?_
            exact hQ _ _ (Or.inl (And.intro rfl (Exists.intro p3 (And.intro f3 (Fl_t hlk2 q2)))))
          · skip
            refine ev_iload rfl rfl ?_
            refine ev_if_eqN (p2 := 101) rfl rfl (fun _ => ?_) (fun zz => absurd zz (by decide))
            refine ev_iload rfl rfl ?_
            refine ev_zret rfl ?_
            exact hQ _ _ (Or.inl (And.intro rfl (Exists.intro p3 (And.intro f3 (Fl_t hlk2 q2)))))
        · subst e
          have hab3 := tA_b (tp := tp) q2
          refine ev_istore rfl rfl (Nat.le_of_ble_eq_true rfl) ?_
          refine ev_aload rfl rfl ?_
          refine ev_getR (c := 5) (j := 2) rfl ?_ (hq := k_62 n)
          refine ev_iload rfl rfl ?_
          refine ev_ineg rfl ?_
          refine ev_call rfl rfl ?_
          refine c_addS q1 (by have zz : (P3.reverse ++ out3).length + (S.length + 1) ≤ tA tp tl p3 := q4; omega) (sg tp tl p2) _ (henc.trans (enc_s key _ hIC).symm) (fun m3 f3 => ?_)
          change am_ev _ _ _ _ [] _ _ _
          refine ev_iincN rfl rfl rfl ?_
          refine ev_goto (p2 := 39) rfl rfl ?_
          have eL : sg tp tl p2 :: (P3.reverse ++ out3) = (P3 ++ [sg tp tl p2]).reverse ++ out3 := by simp
          have eS : P3 ++ sg tp tl p2 :: S = (P3 ++ [sg tp tl p2]) ++ S := by simp
          have hq4 : (P3.reverse ++ out3).length + (S.length + 1) ≤ tA tp tl p3 := q4
          have hw := wfA_b (nmK key) (sg tp tl p2) (dpL (P3.reverse ++ out3)) hIC h10 (by omega)
          have hk9 := Lk_t hlk2 q10
          rw [eS] at hk9
          refine ih m3 (i + 1) w3 p3 out3 (P3 ++ [sg tp tl p2]) na3 t3 _ (by omega) (by rw [← eL]; exact f3) q2 (by omega) (by omega) (by rw [← eL]; show (P3.reverse ++ out3).length + 1 + S.length ≤ _; omega) (by rw [← eL]; exact And.intro hw.1 q5) (by rw [← eL]; show S_dp _ (dpL (P3.reverse ++ out3)) = _; rw [hw.2]; omega) ?_ ?_ ?_ q9 hk9
          · intro c hc
            rcases List.mem_append.mp hc with hc | hc
            · have z := q7 c hc
              exact And.intro z.1 (And.intro z.2.1 (by omega))
            · rw [List.mem_singleton.mp hc]
              exact And.intro hIC (And.intro h10 (by omega))
          · intro hz
            rw [q8 (by omega), decide_eq_false (show ¬ rk (sg tp tl p2) = 3 by omega), decide_eq_true (show 3 < rk (sg tp tl p2) by omega), ← ht3 hz]
            rfl
          · intro hz
            refine And.intro (fun z => absurd z (Nat.succ_ne_zero _)) (fun _ => ?_)
            rw [q8 (by omega), decide_eq_true (show rk (sg tp tl p2) = 3 by omega)]
            rfl
theorem c_level {tp : Nat → Nat} {tl : Nat} {B : am_M} {key n F : Nat} (hT : TpC tp tl B) (hSt : StrM B) (hkey : key < 4) (ihP : PcC tp tl B key n F) (ihL : LvC tp tl B key n F) : LvC tp tl B key n (F + 1) := by
  intro l w p out S na t T0 nt mem d Q hl5 hC hp ht2 hT8 hnt hn8 hlow hlen hok hF hd hQ
  obtain ⟨d, rfl⟩ : ∃ e, d = e + 8 := ⟨d - 8, by omega⟩
  have hl := hT.1
  have hab := tA_b (tp := tp) hp
  refine ex_in (c0 := kc_X5_readLevel) rfl (L := [some (.ref 62), some (.int (nI l)), some (.int (nI T0.length)), some (.int (nI nt)), none, none, none, none]) rfl ?_
  refine ev_iload rfl rfl ?_
  refine ev_iconst (x := nI 5) rfl rfl ?_
  refine ev_icmp_ltN (p2 := 12) rfl rfl (fun cnd2 => ?_) (fun cnd2 => ?_)
  · skip
    refine ev_aload rfl rfl ?_
    refine ev_iload rfl rfl ?_
    refine ev_iconst (x := nI 1) rfl rfl ?_
    refine ev_iaddN rfl ?_
    refine ev_iload rfl rfl ?_
    refine ev_iload rfl rfl ?_
    refine ev_call rfl rfl ?_
    refine ihL (l + 1) w p out S na t T0 nt mem _ _ (by omega) hC hp (fun z => ht2 (by omega)) hT8 hnt hn8 (lowH_up hlow) hlen hok (by omega) (by omega) (fun rr m2 hrr => ?_)
    change am_ev _ _ _ _ [_] _ _ _
    rcases hrr with ⟨e, p2, q1, q2⟩ | ⟨e, w2, p2, out1, P, na2, t2, q1, q2, q3, q4, q5, q6, q7, q8, q9, q10⟩
    · subst e
      refine ev_istore rfl rfl (Nat.le_of_ble_eq_true rfl) ?_
      refine ev_iload rfl rfl ?_
      refine ev_iconst (x := nI 2) rfl rfl ?_
      refine ev_icmp_neN (p2 := 32) rfl rfl (fun cnd25 => ?_) (fun cnd25 => ?_)
      · skip
        refine ev_iconst (x := nI 96) rfl rfl ?_
        refine ev_istore rfl rfl (Nat.le_of_ble_eq_true rfl) ?_
        refine ev_iconst (x := nI 0) rfl rfl ?_
        refine ev_istore rfl rfl (Nat.le_of_ble_eq_true rfl) ?_
        refine ev_iload rfl rfl ?_
        refine ev_iload rfl rfl ?_
        refine ev_icmp_geN (p2 := 101) rfl rfl (fun zz => absurd zz (by decide)) (fun _ => ?_)
        refine ev_iload rfl rfl ?_
        refine ev_if_eqN (p2 := 101) rfl rfl (fun _ => ?_) (fun zz => absurd zz (by decide))
        refine ev_iload rfl rfl ?_
        refine ev_zret rfl ?_
        exact hQ _ _ (Or.inl (And.intro rfl (Exists.intro p2 (And.intro q1 q2))))
      · skip
        refine ev_iconst (x := nI 1) rfl rfl ?_
        refine ev_goto (p2 := 34) rfl rfl ?_
        refine ev_istore rfl rfl (Nat.le_of_ble_eq_true rfl) ?_
        refine ev_iconst (x := nI 0) rfl rfl ?_
        refine ev_istore rfl rfl (Nat.le_of_ble_eq_true rfl) ?_
        refine ev_iload rfl rfl ?_
        refine ev_iload rfl rfl ?_
        refine ev_icmp_geN (p2 := 101) rfl rfl (fun zz => absurd zz (by decide)) (fun _ => ?_)
        refine ev_iload rfl rfl ?_
        refine ev_if_eqN (p2 := 101) rfl rfl (fun _ => ?_) (fun zz => absurd zz (by decide))
        refine ev_iload rfl rfl ?_
        refine ev_zret rfl ?_
        exact hQ _ _ (Or.inl (And.intro rfl (Exists.intro p2 (And.intro q1 q2))))
    · subst e
      refine ev_istore rfl rfl (Nat.le_of_ble_eq_true rfl) ?_
      refine ev_iload rfl rfl ?_
      refine ev_iconst (x := nI 2) rfl rfl ?_
      refine ev_icmp_neN (p2 := 32) rfl rfl (fun cnd25 => ?_) (fun cnd25 => ?_)
      · skip
        refine ev_iconst (x := nI 96) rfl rfl ?_
        refine ev_istore rfl rfl (Nat.le_of_ble_eq_true rfl) ?_
        refine ev_iconst (x := nI 0) rfl rfl ?_
        refine ev_istore rfl rfl (Nat.le_of_ble_eq_true rfl) ?_
        refine l_lev39 hT hSt ihL (by omega) hp hT8 hnt hn8 hlow hF hd hQ _ (by omega) (tl - tA tp tl p2 + 1) m2 0 w2 p2 out1 P na2 t2 _ (by omega) q1 q2 q3 (by omega) q4 q5 q6 (fun c hc => And.intro (q7 c hc).1 (And.intro (q7 c hc).2.1 (by have z := (q7 c hc).2.2; omega))) (fun z => q8 (by omega)) (fun z => And.intro (fun _ => (q8 (by omega)).trans (ht2 (by omega))) (fun y => absurd y (by decide))) q9 q10
      · skip
        refine ev_iconst (x := nI 1) rfl rfl ?_
        refine ev_goto (p2 := 34) rfl rfl ?_
        refine ev_istore rfl rfl (Nat.le_of_ble_eq_true rfl) ?_
        refine ev_iconst (x := nI 0) rfl rfl ?_
        refine ev_istore rfl rfl (Nat.le_of_ble_eq_true rfl) ?_
        refine l_lev39 hT hSt ihL (by omega) hp hT8 hnt hn8 hlow hF hd hQ _ (by omega) (tl - tA tp tl p2 + 1) m2 0 w2 p2 out1 P na2 t2 _ (by omega) q1 q2 q3 (by omega) q4 q5 q6 (fun c hc => And.intro (q7 c hc).1 (And.intro (q7 c hc).2.1 (by have z := (q7 c hc).2.2; omega))) (fun z => q8 (by omega)) (fun z => And.intro (fun _ => (q8 (by omega)).trans (ht2 (by omega))) (fun y => absurd y (by decide))) q9 q10
  · skip
    refine ev_aload rfl rfl ?_
    refine ev_iload rfl rfl ?_
    refine ev_iload rfl rfl ?_
    refine ev_call rfl rfl ?_
    have e5 : l = 5 := by omega
    subst e5
    refine ihP w p out S 0 na t T0 nt mem _ _ hC hp hT8 hnt hn8 hlow (by omega) hok (by omega) (by omega) (fun r m2 hr => ?_)
    change am_ev _ _ _ _ [_] _ _ _
    refine ev_zret rfl ?_ (r01 hr)
    refine hQ _ _ ?_
    rcases hr with ⟨e, p2, q1, q2⟩ | ⟨e, w2, p2, out2, na2, q1, q2, q3, q4, q5, q6, q7⟩
    · exact Or.inl (And.intro e (Exists.intro p2 (And.intro q1 q2)))
    · refine Or.inr (And.intro e (Exists.intro w2 (Exists.intro p2 (Exists.intro out2 (Exists.intro [] (Exists.intro na2 (Exists.intro t (And.intro q1 (And.intro q2 (And.intro q3 (And.intro (by show out2.length + S.length ≤ _; omega) (And.intro q5 (And.intro q6 (And.intro (fun c hc => absurd hc (by simp)) (And.intro (fun _ => rfl) (And.intro ?_ q7))))))))))))))))
      intro hs hr2
      have z := (sg_i hT.2.2.2 hs).2.2.2.2.1
      omega
theorem c_both {tp : Nat → Nat} {tl : Nat} {B : am_M} {key n : Nat} (hT : TpC tp tl B) (hSt : StrM B) (hkey : key < 4) : ∀ F, PcC tp tl B key n F ∧ LvC tp tl B key n F
  | 0 => ⟨fun _ _ _ _ _ _ _ _ _ _ _ _ _ _ _ _ _ _ _ _ h => absurd h (by omega), fun _ _ _ _ _ _ _ _ _ _ _ _ _ _ _ _ _ _ _ _ _ _ h => absurd h (by omega)⟩
  | F + 1 => by
    obtain ⟨h1, h2⟩ := c_both (n := n) hT hSt hkey F
    exact ⟨c_piece hT hSt hkey h1 h2, c_level hT hSt hkey h1 h2⟩
