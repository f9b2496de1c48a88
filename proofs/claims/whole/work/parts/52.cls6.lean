/-! the class: an hour, hours -/
def FrP (t : Nat) (mem m2 : am_M) : Prop := ∀ q, ¬ (q = 32 ∨ q = 33 ∨ (t ≤ q ∧ q ≤ t + 37)) → m2 q = mem q
theorem FrP_refl (t : Nat) (mem : am_M) : FrP t mem mem := fun _ _ => rfl
theorem FrP_tr {t : Nat} {a b c : am_M} (h1 : FrP t a b) (h2 : FrP t b c) : FrP t a c := fun q h => (h2 q h).trans (h1 q h)
theorem FrP_sc {t : Nat} {mem m2 : am_M} (h : ∀ q, q ≠ 32 → q ≠ 33 → m2 q = mem q) : FrP t mem m2 := fun q hq => h q (by omega) (by omega)
theorem FrP_one {t q m : Nat} {mem m2 : am_M} {x : Int32} (hq : t ≤ q ∧ q ≤ t + 37) (h : m2 = am_up mem q m x) : FrP t mem m2 := by
  subst h
  exact fun p hp => am_up_ne (by omega)
theorem l_passHour3 {d n : Nat} {mem0 : am_M} {Q : am_P} {t : Nat} (ht : am_T t) {R : am_R} {mem : am_M} (hC : CplT t R mem) (hd : nn (R 1) < 4999) (hf : FrP t mem0 mem) (x1 x2 x3 x4 : Option Value) (hQ : ∀ m2 : am_M, FrP t mem0 m2 → CplT t (S_tick R) m2 → Q none (am_SK n) m2) : am_ev kc_X9_passHour d 109 [some (.ref t), x1, x2, x3, x4] [] (am_SK n) mem Q := by
  have hg := ht.ge
  have hw := cp_w hC
  have hb := wb_all hw
  have hv := S_tick_v (G := R) (by omega) hd
  have h1 := hC.2.1
  refine ev_aload rfl rfl ?_
  first | refine ev_dupR rfl ?_ | refine ev_dupI rfl ?_
  refine ev_getI (c := 9) (j := 7) rfl ?_ (hq := kt_0 n ht)
  rw [cp_t7 hC]
  refine ev_iconst (x := nI 1) rfl rfl ?_
  refine ev_iaddN rfl ?_
  refine ev_putS (c := 9) (j := 7) rfl (fun mem1 hm1 => ?_) (hq := kt_0 n ht)
  have hf := FrP_tr hf (FrP_one (by omega) hm1)
  refine ev_aload rfl rfl ?_
  refine ev_getI (c := 9) (j := 7) rfl ?_ (hq := kt_0 n ht)
  rw [show mem1 t 7 = nI (nn (R 0) + 1) by rw [hm1, am_up_eq]]
  refine ev_iconst (x := nI 24) rfl rfl ?_
  refine ev_icmp_ltN (p2 := 143) rfl rfl (fun cnd125 => ?_) (fun cnd125 => ?_)
  · skip
    refine ev_vret rfl ?_
    first
    | (have e24 : ¬ nn (R 0) + 1 = 24 := by omega
       have hS : S_tick R = upd R 0 (nI (nn (R 0) + 1)) := if_neg e24
       have hw1 := hw.1
       rw [hS] at hQ hv
       subst hm1
       refine hQ _ hf (cp_tset ht hC (fun i hi => upd_ne (by omega)) ?_ ?_ ?_ (fun q hq => am_up_ne hq) ?_)
       · rw [upd_ne (show 1 ≠ 0 by decide), upd_ne (show 2 ≠ 0 by decide)]; exact ⟨hv.2.1, hw1.2⟩
       · rw [upd_ne (by decide)]; exact ⟨hw.2.1.2.2.2.2.1, Nat.le_refl _⟩
       · rw [upd_ne (by decide)]; exact ⟨hw.2.1.2.2.2.2.2, Nat.le_refl _⟩
       · exact ⟨am_up_nk (by decide), am_up_nk (by decide), am_up_nk (by decide), am_up_eq.trans upd_eq.symm, (am_up_nk (by decide)).trans (h1.2.2.2.2.1.trans (upd_ne (by decide)).symm), (am_up_nk (by decide)).trans (h1.2.2.2.2.2.1.trans (upd_ne (by decide)).symm), (am_up_nk (by decide)).trans (h1.2.2.2.2.2.2.1.trans (upd_ne (by decide)).symm), (am_up_nk (by decide)).trans (h1.2.2.2.2.2.2.2.1.trans (upd_ne (by decide)).symm), am_up_nk (by decide)⟩)
    | (have e24 : nn (R 0) + 1 = 24 := by omega
       have hS : S_tick R = upd (upd (upd R 0 (nI (nn (R 0) + 1))) 0 (nI 0)) 1 (nI (nn (R 1) + 1)) := if_pos e24
       have hw1 := hw.1
       rw [hS] at hQ
       subst hm1
       subst hm2
       subst hm3
       refine hQ _ hf (cp_tset ht hC (fun i hi => by rw [upd_ne (by omega), upd_ne (by omega), upd_ne (by omega)]) ?_ ?_ ?_ (fun q hq => by rw [am_up_ne hq, am_up_ne hq, am_up_ne hq]) ?_)
       · rw [upd_ne (show 0 ≠ 1 by decide), upd_eq, upd_eq, upd_ne (show 2 ≠ 1 by decide), upd_ne (show 2 ≠ 0 by decide), upd_ne (show 2 ≠ 0 by decide)]; exact ⟨isN0 (by decide), isN_lt (by omega) (by decide), hw1.2.2⟩
       · rw [upd_ne (by decide), upd_ne (by decide), upd_ne (by decide)]; exact ⟨hw.2.1.2.2.2.2.1, Nat.le_refl _⟩
       · rw [upd_ne (by decide), upd_ne (by decide), upd_ne (by decide)]; exact ⟨hw.2.1.2.2.2.2.2, Nat.le_refl _⟩
       · simp only [am_up_nk (show 2 ≠ 8 by decide), am_up_nk (show 2 ≠ 7 by decide), am_up_nk (show 4 ≠ 8 by decide), am_up_nk (show 4 ≠ 7 by decide), am_up_nk (show 6 ≠ 8 by decide), am_up_nk (show 6 ≠ 7 by decide), am_up_nk (show 7 ≠ 8 by decide), am_up_eq, am_up_nk (show 9 ≠ 8 by decide), am_up_nk (show 9 ≠ 7 by decide), am_up_nk (show 11 ≠ 8 by decide), am_up_nk (show 11 ≠ 7 by decide), am_up_nk (show 13 ≠ 8 by decide), am_up_nk (show 13 ≠ 7 by decide), am_up_nk (show 14 ≠ 8 by decide), am_up_nk (show 14 ≠ 7 by decide)]
         rw [upd_eq, upd_ne (show 0 ≠ 1 by decide), upd_eq, upd_ne (show 2 ≠ 1 by decide), upd_ne (show 2 ≠ 0 by decide), upd_ne (show 2 ≠ 0 by decide), upd_ne (show 7 ≠ 1 by decide), upd_ne (show 7 ≠ 0 by decide), upd_ne (show 7 ≠ 0 by decide), upd_ne (show 8 ≠ 1 by decide), upd_ne (show 8 ≠ 0 by decide), upd_ne (show 8 ≠ 0 by decide)]
         exact ⟨trivial, trivial, trivial, rfl, rfl, h1.2.2.2.2.2.1, h1.2.2.2.2.2.2.1, h1.2.2.2.2.2.2.2.1, trivial⟩)
  · skip
    refine ev_aload rfl rfl ?_
    refine ev_iconst (x := nI 0) rfl rfl ?_
    refine ev_putS (c := 9) (j := 7) rfl (fun mem2 hm2 => ?_) (hq := kt_0 n ht)
    have hf := FrP_tr hf (FrP_one (by omega) hm2)
    refine ev_aload rfl rfl ?_
    first | refine ev_dupR rfl ?_ | refine ev_dupI rfl ?_
    refine ev_getI (c := 9) (j := 8) rfl ?_ (hq := kt_0 n ht)
    rw [show mem2 t 8 = nI (nn (R 1)) by rw [hm2, am_up_nk (by decide), hm1, am_up_nk (by decide)]; exact cp_t8 hC]
    refine ev_iconst (x := nI 1) rfl rfl ?_
    refine ev_iaddN rfl ?_
    refine ev_putS (c := 9) (j := 8) rfl (fun mem3 hm3 => ?_) (hq := kt_0 n ht)
    have hf := FrP_tr hf (FrP_one (by omega) hm3)
    refine ev_vret rfl ?_
    first
    | (have e24 : ¬ nn (R 0) + 1 = 24 := by omega
       have hS : S_tick R = upd R 0 (nI (nn (R 0) + 1)) := if_neg e24
       have hw1 := hw.1
       rw [hS] at hQ hv
       subst hm1
       refine hQ _ hf (cp_tset ht hC (fun i hi => upd_ne (by omega)) ?_ ?_ ?_ (fun q hq => am_up_ne hq) ?_)
       · rw [upd_ne (show 1 ≠ 0 by decide), upd_ne (show 2 ≠ 0 by decide)]; exact ⟨hv.2.1, hw1.2⟩
       · rw [upd_ne (by decide)]; exact ⟨hw.2.1.2.2.2.2.1, Nat.le_refl _⟩
       · rw [upd_ne (by decide)]; exact ⟨hw.2.1.2.2.2.2.2, Nat.le_refl _⟩
       · exact ⟨am_up_nk (by decide), am_up_nk (by decide), am_up_nk (by decide), am_up_eq.trans upd_eq.symm, (am_up_nk (by decide)).trans (h1.2.2.2.2.1.trans (upd_ne (by decide)).symm), (am_up_nk (by decide)).trans (h1.2.2.2.2.2.1.trans (upd_ne (by decide)).symm), (am_up_nk (by decide)).trans (h1.2.2.2.2.2.2.1.trans (upd_ne (by decide)).symm), (am_up_nk (by decide)).trans (h1.2.2.2.2.2.2.2.1.trans (upd_ne (by decide)).symm), am_up_nk (by decide)⟩)
    | (have e24 : nn (R 0) + 1 = 24 := by omega
       have hS : S_tick R = upd (upd (upd R 0 (nI (nn (R 0) + 1))) 0 (nI 0)) 1 (nI (nn (R 1) + 1)) := if_pos e24
       have hw1 := hw.1
       rw [hS] at hQ
       subst hm1
       subst hm2
       subst hm3
       refine hQ _ hf (cp_tset ht hC (fun i hi => by rw [upd_ne (by omega), upd_ne (by omega), upd_ne (by omega)]) ?_ ?_ ?_ (fun q hq => by rw [am_up_ne hq, am_up_ne hq, am_up_ne hq]) ?_)
       · rw [upd_ne (show 0 ≠ 1 by decide), upd_eq, upd_eq, upd_ne (show 2 ≠ 1 by decide), upd_ne (show 2 ≠ 0 by decide), upd_ne (show 2 ≠ 0 by decide)]; exact ⟨isN0 (by decide), isN_lt (by omega) (by decide), hw1.2.2⟩
       · rw [upd_ne (by decide), upd_ne (by decide), upd_ne (by decide)]; exact ⟨hw.2.1.2.2.2.2.1, Nat.le_refl _⟩
       · rw [upd_ne (by decide), upd_ne (by decide), upd_ne (by decide)]; exact ⟨hw.2.1.2.2.2.2.2, Nat.le_refl _⟩
       · simp only [am_up_nk (show 2 ≠ 8 by decide), am_up_nk (show 2 ≠ 7 by decide), am_up_nk (show 4 ≠ 8 by decide), am_up_nk (show 4 ≠ 7 by decide), am_up_nk (show 6 ≠ 8 by decide), am_up_nk (show 6 ≠ 7 by decide), am_up_nk (show 7 ≠ 8 by decide), am_up_eq, am_up_nk (show 9 ≠ 8 by decide), am_up_nk (show 9 ≠ 7 by decide), am_up_nk (show 11 ≠ 8 by decide), am_up_nk (show 11 ≠ 7 by decide), am_up_nk (show 13 ≠ 8 by decide), am_up_nk (show 13 ≠ 7 by decide), am_up_nk (show 14 ≠ 8 by decide), am_up_nk (show 14 ≠ 7 by decide)]
         rw [upd_eq, upd_ne (show 0 ≠ 1 by decide), upd_eq, upd_ne (show 2 ≠ 1 by decide), upd_ne (show 2 ≠ 0 by decide), upd_ne (show 2 ≠ 0 by decide), upd_ne (show 7 ≠ 1 by decide), upd_ne (show 7 ≠ 0 by decide), upd_ne (show 7 ≠ 0 by decide), upd_ne (show 8 ≠ 1 by decide), upd_ne (show 8 ≠ 0 by decide), upd_ne (show 8 ≠ 0 by decide)]
         exact ⟨trivial, trivial, trivial, rfl, rfl, h1.2.2.2.2.2.1, h1.2.2.2.2.2.2.1, h1.2.2.2.2.2.2.2.1, trivial⟩)
theorem l_passHour {d n : Nat} {mem0 : am_M} {Q : am_P} {t : Nat} (ht : am_T t) {R0 : am_R} (hw0 : wfR R0) (hd : nn (R0 1) < 4999) (r : Nat) : ∀ (mem : am_M) (R : am_R) (k : Nat) (hC : CplT t R mem) (hG : HG R0 R k) (hk : k + r = nn (R0 5)) (hf : FrP t mem0 mem) (x3 x4 : Option Value) (hQ : ∀ m2 : am_M, FrP t mem0 m2 → CplT t (S_tick (flAB R0 (S_price R0) r k R)) m2 → Q none (am_SK n) m2), am_ev kc_X9_passHour (d + 5) 7 [some (.ref t), some (.int (S_price R0)), some (.int (nI k)), x3, x4] [] (am_SK n) mem Q := by
  induction r with
  | zero =>
    intro mem R k hC hG hk hf x3 x4 hQ
    have hg := ht.ge
    have hw := hG.1
    have hA := hG.2.2
    have hb := wb_all hw0
    have hb2 := wb_all hw
    have e5 := congrArg nn (Ag_lo hA (show 5 < 23 by decide))
    have e3 := Ag_lo hA (show 3 < 23 by decide)
    refine ev_iload rfl rfl ?_
    refine ev_aload rfl rfl ?_
    refine ev_getI (c := 9) (j := 6) rfl ?_ (hq := kt_0 n ht)
    rw [cp_t6 hC]
    refine ev_icmp_geN (p2 := 109) rfl rfl (fun cnd12 => ?_) (fun cnd12 => ?_)
    · skip
      exact l_passHour3 ht hC (by rw [Ag_lo hA (by decide)]; exact hd) hf _ _ _ _ hQ
    · omega
  | succ r ih =>
    intro mem R k hC hG hk hf x3 x4 hQ
    have hg := ht.ge
    have hw := hG.1
    have hA := hG.2.2
    have hb := wb_all hw0
    have hb2 := wb_all hw
    have e5 := congrArg nn (Ag_lo hA (show 5 < 23 by decide))
    have e3 := Ag_lo hA (show 3 < 23 by decide)
    have hbe := Ag_burns hw0 hA (show k < nn (R0 5) by omega) (Nat.le_refl k)
    have hj := (hw.2.2.2.2.1 k (by omega)).2.1.2
    have hcb := S_cab_lt hw _ hj
    have hj0 := (hw0.2.2.2.2.1 k (by omega)).2.1.2
    have ecab : S_cab R (nn (R (77 + 7 * k + 1))) = S_cab R0 (nn (R0 (77 + 7 * k + 1))) := by
      rw [hA (77 + 7 * k + 1) (by omega) (by omega), Ag_cab hA _ (by omega)]
    have hpv : (if R (23 + 6 * S_cab R (nn (R (77 + 7 * k + 1))) + 5) + S_draw R k * S_price R0 < nI 99999999 then R (23 + 6 * S_cab R (nn (R (77 + 7 * k + 1))) + 5) + S_draw R k * S_price R0 else nI 99999999) = pdv R0 R (S_price R0) k := by
      obtain ⟨a, p, ea, ha, ep, hp, e⟩ := pdv_n hw0 hw e3 (show k < nn (R0 5) by omega)
      rw [ecab, Ag_draw hA (show k < 16 by omega) (Nat.le_refl k), ea, ep, nI_add, e]
      by_cases h9 : a + p < 99999999
      · rw [if_pos h9, if_pos (nI_lt h9 (by decide))]
      · rw [if_neg h9, if_neg (nI_nlt (by omega) (by omega))]
    refine ev_iload rfl rfl ?_
    refine ev_aload rfl rfl ?_
    refine ev_getI (c := 9) (j := 6) rfl ?_ (hq := kt_0 n ht)
    rw [cp_t6 hC]
    refine ev_icmp_geN (p2 := 109) rfl rfl (fun cnd12 => ?_) (fun cnd12 => ?_)
    · omega
    · skip
      refine ev_aload rfl rfl ?_
      refine ev_getR (c := 9) (j := 5) rfl ?_ (hq := kt_0 n ht)
      refine ev_iload rfl rfl ?_
      refine ev_aldN rfl rfl ?_ (kr_lamp (by omega)) (hq := kt_3 n ht)
      refine ev_astore rfl rfl (Nat.le_of_ble_eq_true rfl) ?_
      refine ev_aload rfl rfl ?_
      refine ev_aload rfl rfl ?_
      refine ev_callV rfl rfl rfl rfl (Nat.le_of_ble_eq_true rfl) (Nat.le_of_ble_eq_true rfl) ?_ (hq := kt_0 n ht)
      refine c_X9_burns ht hC k (by omega) ?_
      change am_ev _ _ _ _ (_ :: _) _ _ _
      refine ev_if_eqO (p2 := 103) rfl rfl (fun cnd27 => ?_) (fun cnd27 => ?_)
      · skip
        refine ev_iincN rfl rfl rfl ?_
        refine ev_goto (p2 := 7) rfl rfl ?_
        first
        | (have hn : ¬ S_burns R0 k = true := by rw [← hbe, cnd27]; decide
           have hst : stA R0 (S_price R0) k R = R := if_neg hn
           have hst2 : stB R0 k R = R := if_neg hn
           refine ih mem R (k + 1) hC ?_ (by omega) hf _ _ ?_
           · have hz := HG_B hw0 (show k < nn (R0 5) by omega) hG
             rw [hst2] at hz
             exact hz
           · unfold flAB at hQ
             rw [hst, hst2] at hQ
             exact hQ)
        | (have hst2 : stB R0 k R1 = upd (upd R1 (77 + 7 * k + 4) (brn R0 k)) (77 + 7 * k + 5) (ob (decide (S_life R0 k ≤ brn R0 k))) := if_pos (by rw [← hbe]; exact cnd27)
           have hl2 := (cp_w hC).2.2.2.2.1 k hk2
           first
           | (rw [show decide (S_life R0 k ≤ brn R0 k) = false from decide_eq_false (nle_lt cnd92)] at hst2
              refine ih mem _ (k + 1) (by rw [hm]; exact cp_lset1 (k0 := 5) (v := nI 0) ht hC hk2 (by decide) (wfL5 hl2 (isN0 (by decide)))) ?_ (by omega) hf _ _ ?_)
           | (rw [show decide (S_life R0 k ≤ brn R0 k) = true from decide_eq_true (le_nlt cnd92)] at hst2
              refine ih mem _ (k + 1) (by rw [hm]; exact cp_lset1 (k0 := 5) (v := nI 1) ht hC hk2 (by decide) (wfL5 hl2 ⟨rfl, by decide⟩)) ?_ (by omega) hf _ _ ?_)
           · have hz := HG_B hw0 (show k < nn (R0 5) by omega) hG1
             rw [hst2] at hz
             exact hz
           · unfold flAB at hQ
             rw [hR1, hst2] at hQ
             exact hQ)
      · skip
        refine ev_aload rfl rfl ?_
        refine ev_aload rfl rfl ?_
        refine ev_callV rfl rfl rfl rfl (Nat.le_of_ble_eq_true rfl) (Nat.le_of_ble_eq_true rfl) ?_ (hq := kt_0 n ht)
        refine c_X9_cabinetOf ht hC k (by omega) ?_
        change am_ev _ _ _ _ (_ :: _) _ _ _
        refine ev_astore rfl rfl (Nat.le_of_ble_eq_true rfl) ?_
        refine ev_aload rfl rfl ?_
        refine ev_iconst (x := nI 99999999) rfl rfl ?_
        refine ev_aload rfl rfl ?_
        refine ev_getI (c := 1) (j := 5) rfl ?_ (hq := kt_cab n ht (by omega))
        rw [cp_c (k := 5) (c := S_cab R (nn (R (77 + 7 * k + 1)))) hC (by omega) (by decide)]
        refine ev_aload rfl rfl ?_
        refine ev_aload rfl rfl ?_
        refine ev_callV rfl rfl rfl rfl (Nat.le_of_ble_eq_true rfl) (Nat.le_of_ble_eq_true rfl) ?_ (hq := kt_0 n ht)
        refine c_X9_draws ht hC k (by omega) (fun mem h2 => ?_)
        have hC := cp_fr2 hC ht h2
        have hf := FrP_tr hf (FrP_sc h2)
        change am_ev _ _ _ _ (_ :: _) _ _ _
        refine ev_iload rfl rfl ?_
        refine ev_imul rfl ?_
        refine ev_iadd rfl ?_
        refine ev_call rfl rfl ?_
        refine c_min _ _ ?_
        change am_ev _ _ _ _ (_ :: _) _ _ _
        rw [hpv]
        refine ev_putS (c := 1) (j := 5) rfl (fun mem hm => ?_) (hq := kt_cab n ht (by omega))
        have hf := FrP_tr hf (FrP_one (by omega) hm)
        have hst : stA R0 (S_price R0) k R = upd R (23 + 6 * S_cab R (nn (R (77 + 7 * k + 1))) + 5) (pdv R0 R (S_price R0) k) := by
          unfold stA
          rw [if_pos (by rw [← hbe]; exact cnd27), ecab]
        have hC : CplT t (stA R0 (S_price R0) k R) mem := by
          rw [hm, hst]
          exact cp_cset1 ht hC hcb (by decide) (wfC5 (hw.2.2.1 _ hcb) (pdv_w hw0 hw e3 (show k < nn (R0 5) by omega)))
        have hG1 := HG_A hw0 (show k < nn (R0 5) by omega) (show k ≤ 16 by omega) hG
        generalize hR1 : stA R0 (S_price R0) k R = R1 at hC hG1
        have hA1 := hG1.2.2
        have e51 := congrArg nn (Ag_lo hA1 (show 5 < 23 by decide))
        have hk1 : k < nn (R1 5) := by omega
        have hkd : nn (R1 (77 + 7 * k)) < 6 := (hG1.1.2.2.2.2.1 k hk1).1.2
        have hbv : (if R1 (77 + 7 * k + 4) + S_wear (nI (nn (R1 (77 + 7 * k)))) < nI 30000 then R1 (77 + 7 * k + 4) + S_wear (nI (nn (R1 (77 + 7 * k)))) else nI 30000) = brn R0 k := by
          obtain ⟨a, w, ea, ha, ew, hw2, e⟩ := brn_n hw0 (show k < nn (R0 5) by omega)
          rw [← (hG1.1.2.2.2.2.1 k hk1).1.1, hA1 (77 + 7 * k) (by omega) (by omega), hA1 (77 + 7 * k + 4) (by omega) (by omega), ea, ew, nI_add, e]
          by_cases h9 : a + w < 30000
          · rw [if_pos h9, if_pos (nI_lt h9 (by decide))]
          · rw [if_neg h9, if_neg (nI_nlt (by omega) (by omega))]
        refine ev_aload rfl rfl ?_
        refine ev_iconst (x := nI 30000) rfl rfl ?_
        refine ev_aload rfl rfl ?_
        refine ev_getI (c := 4) (j := 4) rfl ?_ (hq := kt_lamp n ht (by omega))
        rw [cp_l (k := 4) (l := k) hC hk1 (by decide)]
        refine ev_aload rfl rfl ?_
        refine ev_getI (c := 4) (j := 0) rfl ?_ (hq := kt_lamp n ht (by omega))
        rw [cp_l0 hC (l := k) hk1]
        refine ev_call rfl rfl ?_
        refine c_X11_wearOf _ hkd ?_
        change am_ev _ _ _ _ (_ :: _) _ _ _
        refine ev_iadd rfl ?_
        refine ev_call rfl rfl ?_
        refine c_min _ _ ?_
        change am_ev _ _ _ _ (_ :: _) _ _ _
        rw [hbv]
        refine ev_putS (c := 4) (j := 4) rfl (fun mem hm => ?_) (hq := kt_lamp n ht (by omega))
        have hf := FrP_tr hf (FrP_one (by omega) hm)
        have hC : CplT t (upd R1 (77 + 7 * k + 4) (brn R0 k)) mem := by
          rw [hm]
          exact cp_lset1 ht hC hk1 (by decide) (wfL4 (hG1.1.2.2.2.2.1 k hk1) (brn_w hw0 (show k < nn (R0 5) by omega)))
        have hA2 : Ag R0 (upd R1 (77 + 7 * k + 4) (brn R0 k)) (k + 1) := fun i h1 h2 => (upd_ne (by omega)).trans (hA1 i h1 (by omega))
        have hk2 : k < nn (upd R1 (77 + 7 * k + 4) (brn R0 k) 5) := by rw [upd_ne (by omega)]; exact hk1
        refine ev_aload rfl rfl ?_
        refine ev_aload rfl rfl ?_
        refine ev_getI (c := 4) (j := 4) rfl ?_ (hq := kt_lamp n ht (by omega))
        rw [cp_l (k := 4) (l := k) hC hk2 (by decide), upd_eq]
        refine ev_aload rfl rfl ?_
        refine ev_aload rfl rfl ?_
        refine ev_callV rfl rfl rfl rfl (Nat.le_of_ble_eq_true rfl) (Nat.le_of_ble_eq_true rfl) ?_ (hq := kt_0 n ht)
        refine c_X9_life ht hC k hk2 (fun mem h2 => ?_)
        have hC := cp_fr2 hC ht h2
        have hf := FrP_tr hf (FrP_sc h2)
        rw [Ag_life hA2 (by omega) (show k < 16 by omega)]
        change am_ev _ _ _ _ (_ :: _) _ _ _
        refine ev_icmp_lt (p2 := 99) rfl rfl (fun cnd92 => ?_) (fun cnd92 => ?_)
        · skip
          refine ev_iconst (x := nI 0) rfl rfl ?_
          refine ev_putBS (c := 4) (j := 5) rfl (fun mem hm => ?_) (by decide) (hq := kt_lamp n ht (by omega))
          have hf := FrP_tr hf (FrP_one (by omega) hm)
          refine ev_iincN rfl rfl rfl ?_
          refine ev_goto (p2 := 7) rfl rfl ?_
          first
          | (have hn : ¬ S_burns R0 k = true := by rw [← hbe, cnd27]; decide
             have hst : stA R0 (S_price R0) k R = R := if_neg hn
             have hst2 : stB R0 k R = R := if_neg hn
             refine ih mem R (k + 1) hC ?_ (by omega) hf _ _ ?_
             · have hz := HG_B hw0 (show k < nn (R0 5) by omega) hG
               rw [hst2] at hz
               exact hz
             · unfold flAB at hQ
               rw [hst, hst2] at hQ
               exact hQ)
          | (have hst2 : stB R0 k R1 = upd (upd R1 (77 + 7 * k + 4) (brn R0 k)) (77 + 7 * k + 5) (ob (decide (S_life R0 k ≤ brn R0 k))) := if_pos (by rw [← hbe]; exact cnd27)
             have hl2 := (cp_w hC).2.2.2.2.1 k hk2
             first
             | (rw [show decide (S_life R0 k ≤ brn R0 k) = false from decide_eq_false (nle_lt cnd92)] at hst2
                refine ih mem _ (k + 1) (by rw [hm]; exact cp_lset1 (k0 := 5) (v := nI 0) ht hC hk2 (by decide) (wfL5 hl2 (isN0 (by decide)))) ?_ (by omega) hf _ _ ?_)
             | (rw [show decide (S_life R0 k ≤ brn R0 k) = true from decide_eq_true (le_nlt cnd92)] at hst2
                refine ih mem _ (k + 1) (by rw [hm]; exact cp_lset1 (k0 := 5) (v := nI 1) ht hC hk2 (by decide) (wfL5 hl2 ⟨rfl, by decide⟩)) ?_ (by omega) hf _ _ ?_)
             · have hz := HG_B hw0 (show k < nn (R0 5) by omega) hG1
               rw [hst2] at hz
               exact hz
             · unfold flAB at hQ
               rw [hR1, hst2] at hQ
               exact hQ)
        · skip
          refine ev_iconst (x := nI 1) rfl rfl ?_
          refine ev_goto (p2 := 100) rfl rfl ?_
          refine ev_putBS (c := 4) (j := 5) rfl (fun mem hm => ?_) (by decide) (hq := kt_lamp n ht (by omega))
          have hf := FrP_tr hf (FrP_one (by omega) hm)
          refine ev_iincN rfl rfl rfl ?_
          refine ev_goto (p2 := 7) rfl rfl ?_
          first
          | (have hn : ¬ S_burns R0 k = true := by rw [← hbe, cnd27]; decide
             have hst : stA R0 (S_price R0) k R = R := if_neg hn
             have hst2 : stB R0 k R = R := if_neg hn
             refine ih mem R (k + 1) hC ?_ (by omega) hf _ _ ?_
             · have hz := HG_B hw0 (show k < nn (R0 5) by omega) hG
               rw [hst2] at hz
               exact hz
             · unfold flAB at hQ
               rw [hst, hst2] at hQ
               exact hQ)
          | (have hst2 : stB R0 k R1 = upd (upd R1 (77 + 7 * k + 4) (brn R0 k)) (77 + 7 * k + 5) (ob (decide (S_life R0 k ≤ brn R0 k))) := if_pos (by rw [← hbe]; exact cnd27)
             have hl2 := (cp_w hC).2.2.2.2.1 k hk2
             first
             | (rw [show decide (S_life R0 k ≤ brn R0 k) = false from decide_eq_false (nle_lt cnd92)] at hst2
                refine ih mem _ (k + 1) (by rw [hm]; exact cp_lset1 (k0 := 5) (v := nI 0) ht hC hk2 (by decide) (wfL5 hl2 (isN0 (by decide)))) ?_ (by omega) hf _ _ ?_)
             | (rw [show decide (S_life R0 k ≤ brn R0 k) = true from decide_eq_true (le_nlt cnd92)] at hst2
                refine ih mem _ (k + 1) (by rw [hm]; exact cp_lset1 (k0 := 5) (v := nI 1) ht hC hk2 (by decide) (wfL5 hl2 ⟨rfl, by decide⟩)) ?_ (by omega) hf _ _ ?_)
             · have hz := HG_B hw0 (show k < nn (R0 5) by omega) hG1
               rw [hst2] at hz
               exact hz
             · unfold flAB at hQ
               rw [hR1, hst2] at hQ
               exact hQ)
theorem c_X9_passHour {d n : Nat} {mem : am_M} {Q : am_P} {t : Nat} {R : am_R} (ht : am_T t) (hC : CplT t R mem) (hd : nn (R 1) < 4999) (hQ : ∀ m2 : am_M, FrP t mem m2 → CplT t (S_hour R) m2 → Q none (am_SK n) m2) : am_ex (d + 6) 76 [.ref t] (am_SK n) mem Q := by
  have hg := ht.ge
  refine ex_in (c0 := kc_X9_passHour) rfl (L := [some (.ref t), none, none, none, none]) rfl ?_
  refine ev_aload rfl rfl ?_
  refine ev_callV rfl rfl rfl rfl (Nat.le_of_ble_eq_true rfl) (Nat.le_of_ble_eq_true rfl) ?_ (hq := kt_0 n ht)
  refine c_X9_price ht hC (fun m2 h2 => ?_)
  have hC := cp_fr2 hC ht h2
  change am_ev _ _ _ _ (_ :: _) _ _ _
  refine ev_istore rfl rfl (Nat.le_of_ble_eq_true rfl) ?_
  refine ev_iconst (x := nI 0) rfl rfl ?_
  refine ev_istore rfl rfl (Nat.le_of_ble_eq_true rfl) ?_
  refine l_passHour ht (cp_w hC) hd (nn (R 5)) m2 R 0 hC (HG0 (cp_w hC) (cp_ts hC)) (Nat.zero_add _) (FrP_sc h2) _ _ ?_
  rw [fl_AB (cp_w hC) _ _ _ _ (Nat.zero_add _)]
  exact hQ
theorem FrC_P {mem m2 : am_M} (h : FrP 66 mem m2) : FrC mem m2 := fun q hq => h q (by omega)
theorem FrC_P142 {mem m2 : am_M} (h : FrP 142 mem m2) : FrC mem m2 := fun q hq => h q (by omega)
theorem l_X11_hours {d n : Nat} {mem0 : am_M} {Q : am_P} (m : Nat) (hm60 : m ≤ 60) (r : Nat) : ∀ (mem : am_M) (R : am_R) (k : Nat) (hC : CplT 66 R mem) (hd : nn (R 1) + (nn (R 0) + r) / 24 ≤ 999) (hk : k + r = m) (hf : FrC mem0 mem) (hQ : ∀ m2 : am_M, FrC mem0 m2 → CplT 66 (S_hrs r R) m2 → Q (some (.int (S_hrs r R 0))) (am_SK n) m2), am_ev kc_X11_hours (d + 6) 45 [some (.ref 29), some (.int (nI m)), some (.int (nI k))] [] (am_SK n) mem Q := by
  induction r with
  | zero =>
    intro mem R k hC hd hk hf hQ
    have hb := wb_all (cp_w hC)
    refine ev_iload rfl rfl ?_
    refine ev_iload rfl rfl ?_
    refine ev_icmp_geN (p2 := 63) rfl rfl (fun cnd47 => ?_) (fun cnd47 => ?_)
    · skip
      refine ev_aload rfl rfl ?_
      refine ev_getR (c := 11) (j := 2) rfl ?_ (hq := k_29 n)
      refine ev_getI (c := 9) (j := 7) rfl ?_ (hq := kt_0 n am_T66)
      rw [cp_t7 hC]
      refine ev_iret rfl ?_
      have hz := hQ _ hf hC
      change Q (some (.int (R 0))) _ _ at hz
      rw [wr0 (cp_w hC)] at hz
      exact hz
    · omega
  | succ r ih =>
    intro mem R k hC hd hk hf hQ
    have hb := wb_all (cp_w hC)
    refine ev_iload rfl rfl ?_
    refine ev_iload rfl rfl ?_
    refine ev_icmp_geN (p2 := 63) rfl rfl (fun cnd47 => ?_) (fun cnd47 => ?_)
    · omega
    · skip
      refine ev_aload rfl rfl ?_
      refine ev_getR (c := 11) (j := 2) rfl ?_ (hq := k_29 n)
      refine ev_callV rfl rfl rfl rfl (Nat.le_of_ble_eq_true rfl) (Nat.le_of_ble_eq_true rfl) ?_ (hq := kt_0 n am_T66)
      refine c_X9_passHour am_T66 hC (by omega) (fun mem2 h2 hC2 => ?_)
      have hf2 := FrC_tr hf (FrC_P h2)
      change am_ev _ _ _ _ _ _ _ _
      refine ev_iincN rfl rfl rfl ?_
      refine ev_goto (p2 := 45) rfl rfl ?_
      exact ih mem2 _ (k + 1) hC2 (hd_step (cp_w hC) (cp_ts hC) (by omega) hd) (by omega) hf2 hQ
theorem c_X11_hours {d n : Nat} {mem : am_M} {Q : am_P} {R : am_R} (hC : CplT 66 R mem) (v : Int32) (hQ : ∀ m2 : am_M, FrC mem m2 → CplT 66 (O_hours R v).2 m2 → Q (some (.int (O_hours R v).1)) (am_SK n) m2) : am_ex (d + 7) 94 [.ref 29, .int v] (am_SK n) mem Q := by
  have hb := wb_all (cp_w hC)
  unfold O_hours at hQ
  refine ex_in (c0 := kc_X11_hours) rfl (L := [some (.ref 29), some (.int v), none]) rfl ?_
  refine ev_iload rfl rfl ?_
  refine ev_iconst (x := nI 1) rfl rfl ?_
  refine ev_icmp_lt (p2 := 11) rfl rfl (fun cnd2 => ?_) (fun cnd2 => ?_)
  · skip
    refine ev_iconst (x := (-1000000001)) rfl rfl ?_
    refine ev_iret rfl ?_
    first
    | (rw [if_neg (fun z => nlt_le z.1 cnd2)] at hQ; exact hQ mem (FrC_refl _) hC)
    | (rw [if_neg (fun z => cnd8 z.2)] at hQ; exact hQ mem (FrC_refl _) hC)
  · skip
    refine ev_iload rfl rfl ?_
    refine ev_iconst (x := nI 60) rfl rfl ?_
    refine ev_icmp_le (p2 := 14) rfl rfl (fun cnd8 => ?_) (fun cnd8 => ?_)
    · skip
      have hP : P_hr v := And.intro (le_nlt cnd2) cnd8
      rw [if_pos hP] at hQ
      obtain ⟨ev, h1, h60⟩ := P_hr_n hP
      clear cnd2 cnd8 hP
      generalize nn v = m at ev h1 h60 hQ
      subst ev
      refine ev_aload rfl rfl ?_
      refine ev_getR (c := 11) (j := 2) rfl ?_ (hq := k_29 n)
      refine ev_getI (c := 9) (j := 8) rfl ?_ (hq := kt_0 n am_T66)
      rw [cp_t8 hC]
      refine ev_aload rfl rfl ?_
      refine ev_getR (c := 11) (j := 2) rfl ?_ (hq := k_29 n)
      refine ev_getI (c := 9) (j := 7) rfl ?_ (hq := kt_0 n am_T66)
      rw [cp_t7 hC]
      refine ev_iload rfl rfl ?_
      refine ev_iaddN rfl ?_
      refine ev_iconst (x := nI 24) rfl rfl ?_
      refine ev_idivN rfl ?_
      refine ev_iaddN rfl ?_
      refine ev_iconst (x := nI 999) rfl rfl ?_
      refine ev_icmp_leN (p2 := 43) rfl rfl (fun cnd37 => ?_) (fun cnd37 => ?_)
      · skip
        refine ev_iconst (x := nI 0) rfl rfl ?_
        refine ev_istore rfl rfl (Nat.le_of_ble_eq_true rfl) ?_
        rw [if_pos cnd37] at hQ
        exact l_X11_hours m h60 m mem R 0 hC cnd37 (Nat.zero_add _) (FrC_refl _) hQ
      · skip
        refine ev_iconst (x := (-1000000003)) rfl rfl ?_
        refine ev_iret rfl ?_
        rw [if_neg (by omega)] at hQ; exact hQ mem (FrC_refl _) hC
    · skip
      refine ev_iconst (x := (-1000000001)) rfl rfl ?_
      refine ev_iret rfl ?_
      first
      | (rw [if_neg (fun z => nlt_le z.1 cnd2)] at hQ; exact hQ mem (FrC_refl _) hC)
      | (rw [if_neg (fun z => cnd8 z.2)] at hQ; exact hQ mem (FrC_refl _) hC)
