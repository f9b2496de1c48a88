/-! the class: calls about the town -/
theorem nn0 : nn (nI 0) = 0 := rfl
theorem isN0 {b : Nat} (h : 0 < b) : isN (nI 0) b := ⟨rfl, h⟩
section CS
variable {t : Nat} {R : am_R} {mem : am_M}
theorem wfC3 {c : Nat} {v : Int32} (h : wfC R c) (hv : -3 ≤ v.toInt ∧ v.toInt ≤ 3) : wfC (upd R (23 + 6 * c + 3) v) c := by
  unfold wfC at h ⊢
  rw [upd_eq, upd_ne (by omega), upd_ne (by omega), upd_ne (by omega), upd_ne (by omega), upd_ne (by omega)]
  exact ⟨h.1, h.2.1, h.2.2.1, hv, h.2.2.2.2⟩
theorem wfC4 {c : Nat} {v : Int32} (h : wfC R c) (hv : isN v 2) : wfC (upd R (23 + 6 * c + 4) v) c := by
  unfold wfC at h ⊢
  rw [upd_eq, upd_ne (by omega), upd_ne (by omega), upd_ne (by omega), upd_ne (by omega), upd_ne (by omega)]
  exact ⟨h.1, h.2.1, h.2.2.1, h.2.2.2.1, hv, h.2.2.2.2.2⟩
theorem wfC5 {c : Nat} {v : Int32} (h : wfC R c) (hv : isN v 100000000) : wfC (upd R (23 + 6 * c + 5) v) c := by
  unfold wfC at h ⊢
  rw [upd_eq, upd_ne (by omega), upd_ne (by omega), upd_ne (by omega), upd_ne (by omega), upd_ne (by omega)]
  exact ⟨h.1, h.2.1, h.2.2.1, h.2.2.2.1, h.2.2.2.2.1, hv⟩
theorem wfL0 {c : Nat} {v : Int32} (h : wfL R c) (hv : isN v 6) : wfL (upd R (77 + 7 * c) v) c := by
  unfold wfL at h ⊢
  rw [upd_eq, upd_ne (by omega), upd_ne (by omega), upd_ne (by omega), upd_ne (by omega), upd_ne (by omega), upd_ne (by omega), upd_ne (by omega)]
  exact ⟨hv, h.2⟩
theorem wfL4 {c : Nat} {v : Int32} (h : wfL R c) (hv : isN v 30001) : wfL (upd R (77 + 7 * c + 4) v) c := by
  unfold wfL at h ⊢
  rw [upd_eq, upd_ne (by omega), upd_ne (by omega), upd_ne (by omega), upd_ne (by omega), upd_ne (by omega), upd_ne (by omega), upd_ne (by omega)]
  exact ⟨h.1, h.2.1, h.2.2.1, h.2.2.2.1, hv, h.2.2.2.2.2⟩
theorem wfL5 {c : Nat} {v : Int32} (h : wfL R c) (hv : isN v 2) : wfL (upd R (77 + 7 * c + 5) v) c := by
  unfold wfL at h ⊢
  rw [upd_eq, upd_ne (by omega), upd_ne (by omega), upd_ne (by omega), upd_ne (by omega), upd_ne (by omega), upd_ne (by omega), upd_ne (by omega)]
  exact ⟨h.1, h.2.1, h.2.2.1, h.2.2.2.1, h.2.2.2.2.1, hv, h.2.2.2.2.2.2⟩
theorem wfL6 {c : Nat} {v : Int32} (h : wfL R c) (hv : isN v 2) : wfL (upd R (77 + 7 * c + 6) v) c := by
  unfold wfL at h ⊢
  rw [upd_eq, upd_ne (by omega), upd_ne (by omega), upd_ne (by omega), upd_ne (by omega), upd_ne (by omega), upd_ne (by omega), upd_ne (by omega)]
  exact ⟨h.1, h.2.1, h.2.2.1, h.2.2.2.1, h.2.2.2.2.1, h.2.2.2.2.2.1, hv⟩
theorem cp_cset1 (ht : am_T t) (h : CplT t R mem) {l k0 : Nat} {v : Int32} (hl : l < nn (R 3)) (hk : k0 < 6) (hw : wfC (upd R (23 + 6 * l + k0) v) l) : CplT t (upd R (23 + 6 * l + k0) v) (am_up mem (t + 7 + l) k0 v) := by
  refine cp_cset ht h hl (fun i hi => upd_ne (by omega)) hw (fun q hq => am_up_ne hq) (fun k hk2 => ?_)
  by_cases e : k = k0
  · rw [e, am_up_eq, upd_eq]
  · rw [am_up_nk e, upd_ne (by omega)]; exact cp_c h hl hk2
theorem cp_lset1 (ht : am_T t) (h : CplT t R mem) {l k0 : Nat} {v : Int32} (hl : l < nn (R 5)) (hk : k0 < 7) (hw : wfL (upd R (77 + 7 * l + k0) v) l) : CplT t (upd R (77 + 7 * l + k0) v) (am_up mem (t + 22 + l) k0 v) := by
  refine cp_lset ht h hl (fun i hi => upd_ne (by omega)) hw (fun q hq => am_up_ne hq) (fun k hk2 => ?_)
  by_cases e : k = k0
  · rw [e, am_up_eq, upd_eq]
  · rw [am_up_nk e, upd_ne (by omega)]; exact cp_l h hl hk2
theorem cp_jset1 (ht : am_T t) (h : CplT t R mem) {l : Nat} {v : Int32} (hl : l < nn (R 4)) (hw : isN v 2) : CplT t (upd R (41 + 3 * l + 2) v) (am_up mem (t + 10 + l) 3 v) := by
  refine cp_jset ht h hl (fun i hi => upd_ne hi) (by rw [upd_eq]; exact hw) (fun q hq => am_up_ne hq) (fun k hk2 => am_up_nk hk2) ?_
  rw [am_up_eq, upd_eq]
end CS
theorem P_kd_n {w : Int32} (h : P_kd w) : isN w 6 := by
  obtain ⟨e, hh⟩ := am_rng (by decide) h
  exact ⟨e, by omega⟩
theorem FrC_up {mem : am_M} {q k : Nat} {v : Int32} (hq : 66 ≤ q ∧ q ≤ 103) : FrC mem (am_up mem q k v) := fun p hp => am_up_ne (by omega)
theorem c_X1_begin {d n : Nat} {mem : am_M} {Q : am_P} {q : Nat} (hq : (am_SK n)[q]? = some (1, 6, List.replicate 6 none)) (h29 : 29 ≤ q ∧ q ≠ 28) (a b c : Int32) (hQ : ∀ m2 : am_M, (∀ p, p ≠ q → m2 p = mem p) → (m2 q 0 = a ∧ m2 q 1 = b ∧ m2 q 2 = c ∧ m2 q 3 = nI 0 ∧ m2 q 4 = nI 0 ∧ m2 q 5 = nI 0) → Q none (am_SK n) m2) : am_ex (d + 1) 5 [.ref q, .int a, .int b, .int c] (am_SK n) mem Q := by
  refine ex_in (c0 := kc_X1_begin) rfl (L := [some (.ref q), some (.int a), some (.int b), some (.int c)]) rfl ?_
  refine ev_aload rfl rfl ?_
  refine ev_iload rfl rfl ?_
  refine ev_put (c := 1) (j := 0) rfl ?_ (hq := hq)
  refine ev_aload rfl rfl ?_
  refine ev_iload rfl rfl ?_
  refine ev_put (c := 1) (j := 1) rfl ?_ (hq := hq)
  refine ev_aload rfl rfl ?_
  refine ev_iload rfl rfl ?_
  refine ev_put (c := 1) (j := 2) rfl ?_ (hq := hq)
  refine ev_aload rfl rfl ?_
  refine ev_iconst (x := nI 0) rfl rfl ?_
  refine ev_put (c := 1) (j := 3) rfl ?_ (hq := hq)
  refine ev_aload rfl rfl ?_
  refine ev_iconst (x := nI 0) rfl rfl ?_
  refine ev_putB (c := 1) (j := 4) rfl ?_ (hq := hq) (hx := by first | assumption | exact am_b01 _ | exact ob01 _ | decide)
  refine ev_aload rfl rfl ?_
  refine ev_iconst (x := nI 0) rfl rfl ?_
  refine ev_put (c := 1) (j := 5) rfl ?_ (hq := hq)
  refine ev_vret rfl ?_
  refine hQ _ (fun p hp => ?_) ⟨?_, ?_, ?_, ?_, ?_, ?_⟩
  · simp only [am_up_ne hp]
  · repeat first | rw [am_up_nk (by decide)] | rw [am_up_eq]
  · repeat first | rw [am_up_nk (by decide)] | rw [am_up_eq]
  · repeat first | rw [am_up_nk (by decide)] | rw [am_up_eq]
  · repeat first | rw [am_up_nk (by decide)] | rw [am_up_eq]
  · repeat first | rw [am_up_nk (by decide)] | rw [am_up_eq]
  · repeat first | rw [am_up_nk (by decide)] | rw [am_up_eq]
theorem c_X3_begin {d n : Nat} {mem : am_M} {Q : am_P} {q : Nat} (hq : (am_SK n)[q]? = some (3, 4, List.replicate 4 none)) (h29 : 29 ≤ q ∧ q ≠ 28) (a b c : Int32) (hQ : ∀ m2 : am_M, (∀ p, p ≠ q → m2 p = mem p) → (m2 q 0 = a ∧ m2 q 1 = b ∧ m2 q 2 = c ∧ m2 q 3 = nI 0) → Q none (am_SK n) m2) : am_ex (d + 1) 17 [.ref q, .int a, .int b, .int c] (am_SK n) mem Q := by
  refine ex_in (c0 := kc_X3_begin) rfl (L := [some (.ref q), some (.int a), some (.int b), some (.int c)]) rfl ?_
  refine ev_aload rfl rfl ?_
  refine ev_iload rfl rfl ?_
  refine ev_put (c := 3) (j := 0) rfl ?_ (hq := hq)
  refine ev_aload rfl rfl ?_
  refine ev_iload rfl rfl ?_
  refine ev_put (c := 3) (j := 1) rfl ?_ (hq := hq)
  refine ev_aload rfl rfl ?_
  refine ev_iload rfl rfl ?_
  refine ev_put (c := 3) (j := 2) rfl ?_ (hq := hq)
  refine ev_aload rfl rfl ?_
  refine ev_iconst (x := nI 0) rfl rfl ?_
  refine ev_putB (c := 3) (j := 3) rfl ?_ (hq := hq) (hx := by first | assumption | exact am_b01 _ | exact ob01 _ | decide)
  refine ev_vret rfl ?_
  refine hQ _ (fun p hp => ?_) ⟨?_, ?_, ?_, ?_⟩
  · simp only [am_up_ne hp]
  · repeat first | rw [am_up_nk (by decide)] | rw [am_up_eq]
  · repeat first | rw [am_up_nk (by decide)] | rw [am_up_eq]
  · repeat first | rw [am_up_nk (by decide)] | rw [am_up_eq]
  · repeat first | rw [am_up_nk (by decide)] | rw [am_up_eq]
theorem c_X4_begin {d n : Nat} {mem : am_M} {Q : am_P} {q : Nat} (hq : (am_SK n)[q]? = some (4, 7, List.replicate 7 none)) (h29 : 29 ≤ q ∧ q ≠ 28) (a b c e : Int32) (hQ : ∀ m2 : am_M, (∀ p, p ≠ q → m2 p = mem p) → (m2 q 0 = a ∧ m2 q 1 = b ∧ m2 q 2 = c ∧ m2 q 3 = e ∧ m2 q 4 = nI 0 ∧ m2 q 5 = nI 0 ∧ m2 q 6 = nI 0) → Q none (am_SK n) m2) : am_ex (d + 1) 20 [.ref q, .int a, .int b, .int c, .int e] (am_SK n) mem Q := by
  refine ex_in (c0 := kc_X4_begin) rfl (L := [some (.ref q), some (.int a), some (.int b), some (.int c), some (.int e)]) rfl ?_
  refine ev_aload rfl rfl ?_
  refine ev_iload rfl rfl ?_
  refine ev_put (c := 4) (j := 0) rfl ?_ (hq := hq)
  refine ev_aload rfl rfl ?_
  refine ev_iload rfl rfl ?_
  refine ev_put (c := 4) (j := 1) rfl ?_ (hq := hq)
  refine ev_aload rfl rfl ?_
  refine ev_iload rfl rfl ?_
  refine ev_put (c := 4) (j := 2) rfl ?_ (hq := hq)
  refine ev_aload rfl rfl ?_
  refine ev_iload rfl rfl ?_
  refine ev_put (c := 4) (j := 3) rfl ?_ (hq := hq)
  refine ev_aload rfl rfl ?_
  refine ev_iconst (x := nI 0) rfl rfl ?_
  refine ev_put (c := 4) (j := 4) rfl ?_ (hq := hq)
  refine ev_aload rfl rfl ?_
  refine ev_iconst (x := nI 0) rfl rfl ?_
  refine ev_putB (c := 4) (j := 5) rfl ?_ (hq := hq) (hx := by first | assumption | exact am_b01 _ | exact ob01 _ | decide)
  refine ev_aload rfl rfl ?_
  refine ev_iconst (x := nI 0) rfl rfl ?_
  refine ev_putB (c := 4) (j := 6) rfl ?_ (hq := hq) (hx := by first | assumption | exact am_b01 _ | exact ob01 _ | decide)
  refine ev_vret rfl ?_
  refine hQ _ (fun p hp => ?_) ⟨?_, ?_, ?_, ?_, ?_, ?_, ?_⟩
  · simp only [am_up_ne hp]
  · repeat first | rw [am_up_nk (by decide)] | rw [am_up_eq]
  · repeat first | rw [am_up_nk (by decide)] | rw [am_up_eq]
  · repeat first | rw [am_up_nk (by decide)] | rw [am_up_eq]
  · repeat first | rw [am_up_nk (by decide)] | rw [am_up_eq]
  · repeat first | rw [am_up_nk (by decide)] | rw [am_up_eq]
  · repeat first | rw [am_up_nk (by decide)] | rw [am_up_eq]
  · repeat first | rw [am_up_nk (by decide)] | rw [am_up_eq]
theorem U_cab_v (R : am_R) (p k : Int32) (h : nn (R 3) < 4) : U_cab R p k (23 + 6 * nn (R 3)) = p ∧ U_cab R p k (23 + 6 * nn (R 3) + 1) = k / nI 100 ∧ U_cab R p k (23 + 6 * nn (R 3) + 2) = k - k / nI 100 * nI 100 ∧ U_cab R p k (23 + 6 * nn (R 3) + 3) = nI 0 ∧ U_cab R p k (23 + 6 * nn (R 3) + 4) = nI 0 ∧ U_cab R p k (23 + 6 * nn (R 3) + 5) = nI 0 := by
  unfold U_cab
  refine ⟨?_, ?_, ?_, ?_, ?_, ?_⟩
  all_goals repeat first | rw [upd_ne (by omega)] | rw [upd_eq]
theorem U_joint_v (R : am_R) (f p : Int32) (h : nn (R 4) < 13) : U_joint R f p (41 + 3 * nn (R 4)) = f ∧ U_joint R f p (41 + 3 * nn (R 4) + 1) = p ∧ U_joint R f p (41 + 3 * nn (R 4) + 2) = nI 0 := by
  unfold U_joint
  refine ⟨?_, ?_, ?_⟩
  all_goals repeat first | rw [upd_ne (by omega)] | rw [upd_eq]
theorem U_lamp_v (R : am_R) (k j o : Int32) (h : nn (R 5) < 17) : U_lamp R k j o (77 + 7 * nn (R 5)) = k ∧ U_lamp R k j o (77 + 7 * nn (R 5) + 1) = j ∧ U_lamp R k j o (77 + 7 * nn (R 5) + 2) = o / nI 10 ∧ U_lamp R k j o (77 + 7 * nn (R 5) + 3) = o - o / nI 10 * nI 10 ∧ U_lamp R k j o (77 + 7 * nn (R 5) + 4) = nI 0 ∧ U_lamp R k j o (77 + 7 * nn (R 5) + 5) = nI 0 ∧ U_lamp R k j o (77 + 7 * nn (R 5) + 6) = nI 0 := by
  unfold U_lamp
  refine ⟨?_, ?_, ?_, ?_, ?_, ?_, ?_⟩
  all_goals repeat first | rw [upd_ne (by omega)] | rw [upd_eq]
theorem c_X11_cabinet {d n : Nat} {mem : am_M} {Q : am_P} {R : am_R} (hC : CplT 66 R mem) (p k : Int32) (hQ : ∀ m2 : am_M, FrC mem m2 → CplT 66 (O_cabinet R p k).2 m2 → Q (some (.int (O_cabinet R p k).1)) (am_SK n) m2) : am_ex (d + 2) 82 [.ref 29, .int p, .int k] (am_SK n) mem Q := by
  have hb := wb_all (cp_w hC)
  unfold O_cabinet at hQ
  refine ex_in (c0 := kc_X11_cabinet) rfl (L := [some (.ref 29), some (.int p), some (.int k), none]) rfl ?_
  refine ev_iload rfl rfl ?_
  refine ev_call rfl rfl ?_
  refine c_X11_isPlace _ ?_
  change am_ev _ _ _ _ (_ :: _) _ _ _
  refine ev_if_eqB (p2 := 14) rfl rfl (fun cnd4 => ?_) (fun cnd4 => ?_)
  · skip
    refine ev_iconst (x := (-1000000001)) rfl rfl ?_
    refine ev_iret rfl ?_
    first
    | (rw [if_neg (fun z => cnd4 z.1)] at hQ; exact hQ mem (FrC_refl _) hC)
    | (rw [if_neg (fun z => cnd11 z.2)] at hQ; exact hQ mem (FrC_refl _) hC)
  · skip
    refine ev_iload rfl rfl ?_
    refine ev_call rfl rfl ?_
    refine c_X11_isClock _ ?_
    change am_ev _ _ _ _ (_ :: _) _ _ _
    refine ev_if_neB (p2 := 17) rfl rfl (fun cnd11 => ?_) (fun cnd11 => ?_)
    · skip
      refine ev_aload rfl rfl ?_
      refine ev_getR (c := 11) (j := 2) rfl ?_ (hq := k_29 n)
      refine ev_getI (c := 9) (j := 2) rfl ?_ (hq := kt_0 n am_T66)
      rw [cp_t2 hC]
      refine ev_iconst (x := nI 3) rfl rfl ?_
      refine ev_icmp_ltN (p2 := 31) rfl rfl (fun cnd25 => ?_) (fun cnd25 => ?_)
      · skip
        refine ev_aload rfl rfl ?_
        refine ev_getR (c := 11) (j := 2) rfl ?_ (hq := k_29 n)
        refine ev_getI (c := 9) (j := 2) rfl ?_ (hq := kt_0 n am_T66)
        rw [cp_t2 hC]
        refine ev_istore rfl rfl (Nat.le_of_ble_eq_true rfl) ?_
        refine ev_aload rfl rfl ?_
        refine ev_getR (c := 11) (j := 2) rfl ?_ (hq := k_29 n)
        refine ev_getR (c := 9) (j := 1) rfl ?_ (hq := kt_0 n am_T66)
        refine ev_iload rfl rfl ?_
        refine ev_aldN rfl rfl ?_ (kr_cab (by omega)) (hq := kt_1 n am_T66)
        refine ev_iload rfl rfl ?_
        refine ev_iload rfl rfl ?_
        refine ev_iconst (x := nI 100) rfl rfl ?_
        refine ev_idiv rfl ?_
        refine ev_iload rfl rfl ?_
        refine ev_iconst (x := nI 100) rfl rfl ?_
        refine ev_irem rfl ?_
        refine ev_callV rfl rfl rfl rfl (Nat.le_of_ble_eq_true rfl) (Nat.le_of_ble_eq_true rfl) ?_ (hq := kt_cab n am_T66 (by omega))
        refine c_X1_begin (kt_cab n am_T66 (by omega)) (by omega) _ _ _ (fun m2 f1 f2 => ?_)
        change am_ev _ _ _ _ _ _ _ _
        refine ev_aload rfl rfl ?_
        refine ev_getR (c := 11) (j := 2) rfl ?_ (hq := k_29 n)
        refine ev_iload rfl rfl ?_
        refine ev_iconst (x := nI 1) rfl rfl ?_
        refine ev_iaddN rfl ?_
        refine ev_put (c := 9) (j := 2) rfl ?_ (hq := kt_0 n am_T66)
        refine ev_iload rfl rfl ?_
        refine ev_iret rfl ?_
        rw [if_pos (show P_place p ∧ P_clk k from And.intro cnd4 cnd11)] at hQ
        rw [if_neg (by omega)] at hQ
        have hv := U_cab_v R p k (by omega)
        dsimp only at hQ
        refine hQ _ ?_ (cp_cadd am_T66 hC rfl cnd25 (fun i hi => ?_) ?_ ?_ (fun q h1 h2 => (am_up_ne h1).trans (f1 q h2)) (fun k hk => (am_up_nk hk).trans (congrFun (f1 66 (by omega)) k)) ?_ ?_)
        · exact fun q hq => (am_up_ne (by omega)).trans (f1 q (by omega))
        · unfold U_cab
          repeat rw [upd_ne (by omega)]
        · unfold U_cab; rw [upd_eq]
        · unfold wfC
          rw [hv.1, hv.2.1, hv.2.2.1, hv.2.2.2.1, hv.2.2.2.2.1, hv.2.2.2.2.2]
          exact ⟨P_place_n cnd4, (P_clk_n cnd11).1, (P_clk_n cnd11).2, by decide, isN0 (by decide), isN0 (by decide)⟩
        · rw [am_up_eq]; unfold U_cab; rw [upd_eq]
        · intro j hj
          rw [am_up_ne (by omega)]
          match j, hj with
          | 0, _ => exact f2.1.trans hv.1.symm
          | 1, _ => exact f2.2.1.trans hv.2.1.symm
          | 2, _ => exact f2.2.2.1.trans hv.2.2.1.symm
          | 3, _ => exact f2.2.2.2.1.trans hv.2.2.2.1.symm
          | 4, _ => exact f2.2.2.2.2.1.trans hv.2.2.2.2.1.symm
          | 5, _ => exact f2.2.2.2.2.2.trans hv.2.2.2.2.2.symm
      · skip
        refine ev_iconst (x := (-1000000003)) rfl rfl ?_
        refine ev_iret rfl ?_
        rw [if_pos (show P_place p ∧ P_clk k from And.intro cnd4 cnd11)] at hQ
        rw [if_pos (by omega)] at hQ
        exact hQ mem (FrC_refl _) hC
    · skip
      refine ev_iconst (x := (-1000000001)) rfl rfl ?_
      refine ev_iret rfl ?_
      first
      | (rw [if_neg (fun z => cnd4 z.1)] at hQ; exact hQ mem (FrC_refl _) hC)
      | (rw [if_neg (fun z => cnd11 z.2)] at hQ; exact hQ mem (FrC_refl _) hC)
theorem c_X11_lamp {d n : Nat} {mem : am_M} {Q : am_P} {R : am_R} (hC : CplT 66 R mem) (k j o : Int32) (hQ : ∀ m2 : am_M, FrC mem m2 → CplT 66 (O_lamp R k j o).2 m2 → Q (some (.int (O_lamp R k j o).1)) (am_SK n) m2) : am_ex (d + 2) 87 [.ref 29, .int k, .int j, .int o] (am_SK n) mem Q := by
  have hb := wb_all (cp_w hC)
  unfold O_lamp at hQ
  refine ex_in (c0 := kc_X11_lamp) rfl (L := [some (.ref 29), some (.int k), some (.int j), some (.int o), none]) rfl ?_
  refine ev_iload rfl rfl ?_
  refine ev_call rfl rfl ?_
  refine c_X11_isKind _ ?_
  change am_ev _ _ _ _ (_ :: _) _ _ _
  refine ev_if_eqB (p2 := 25) rfl rfl (fun cnd4 => ?_) (fun cnd4 => ?_)
  · skip
    refine ev_iconst (x := (-1000000001)) rfl rfl ?_
    refine ev_iret rfl ?_
    first
    | (rw [if_neg (fun z => cnd4 z.1)] at hQ; exact hQ mem (FrC_refl _) hC)
    | (rw [if_neg (fun z => cnd15 z.2.1)] at hQ; exact hQ mem (FrC_refl _) hC)
    | (rw [if_neg (fun z => cnd22 z.2.2)] at hQ; exact hQ mem (FrC_refl _) hC)
  · skip
    refine ev_aload rfl rfl ?_
    refine ev_getR (c := 11) (j := 2) rfl ?_ (hq := k_29 n)
    refine ev_iload rfl rfl ?_
    refine ev_callV rfl rfl rfl rfl (Nat.le_of_ble_eq_true rfl) (Nat.le_of_ble_eq_true rfl) ?_ (hq := kt_0 n am_T66)
    refine c_X9_hasJoint am_T66 hC _ ?_
    change am_ev _ _ _ _ (_ :: _) _ _ _
    refine ev_if_eqB (p2 := 25) rfl rfl (fun cnd15 => ?_) (fun cnd15 => ?_)
    · skip
      refine ev_iconst (x := (-1000000001)) rfl rfl ?_
      refine ev_iret rfl ?_
      first
      | (rw [if_neg (fun z => cnd4 z.1)] at hQ; exact hQ mem (FrC_refl _) hC)
      | (rw [if_neg (fun z => cnd15 z.2.1)] at hQ; exact hQ mem (FrC_refl _) hC)
      | (rw [if_neg (fun z => cnd22 z.2.2)] at hQ; exact hQ mem (FrC_refl _) hC)
    · skip
      refine ev_iload rfl rfl ?_
      refine ev_call rfl rfl ?_
      refine c_X11_isDrawAndClass _ ?_
      change am_ev _ _ _ _ (_ :: _) _ _ _
      refine ev_if_neB (p2 := 28) rfl rfl (fun cnd22 => ?_) (fun cnd22 => ?_)
      · skip
        refine ev_aload rfl rfl ?_
        refine ev_getR (c := 11) (j := 2) rfl ?_ (hq := k_29 n)
        refine ev_getI (c := 9) (j := 6) rfl ?_ (hq := kt_0 n am_T66)
        rw [cp_t6 hC]
        refine ev_iconst (x := nI 16) rfl rfl ?_
        refine ev_icmp_ltN (p2 := 43) rfl rfl (fun cnd37 => ?_) (fun cnd37 => ?_)
        · skip
          refine ev_aload rfl rfl ?_
          refine ev_getR (c := 11) (j := 2) rfl ?_ (hq := k_29 n)
          refine ev_getI (c := 9) (j := 6) rfl ?_ (hq := kt_0 n am_T66)
          rw [cp_t6 hC]
          refine ev_istore rfl rfl (Nat.le_of_ble_eq_true rfl) ?_
          refine ev_aload rfl rfl ?_
          refine ev_getR (c := 11) (j := 2) rfl ?_ (hq := k_29 n)
          refine ev_getR (c := 9) (j := 5) rfl ?_ (hq := kt_0 n am_T66)
          refine ev_iload rfl rfl ?_
          refine ev_aldN rfl rfl ?_ (kr_lamp (by omega)) (hq := kt_3 n am_T66)
          refine ev_iload rfl rfl ?_
          refine ev_iload rfl rfl ?_
          refine ev_iload rfl rfl ?_
          refine ev_iconst (x := nI 10) rfl rfl ?_
          refine ev_idiv rfl ?_
          refine ev_iload rfl rfl ?_
          refine ev_iconst (x := nI 10) rfl rfl ?_
          refine ev_irem rfl ?_
          refine ev_callV rfl rfl rfl rfl (Nat.le_of_ble_eq_true rfl) (Nat.le_of_ble_eq_true rfl) ?_ (hq := kt_lamp n am_T66 (by omega))
          refine c_X4_begin (kt_lamp n am_T66 (by omega)) (by omega) _ _ _ _ (fun m2 f1 f2 => ?_)
          change am_ev _ _ _ _ _ _ _ _
          refine ev_aload rfl rfl ?_
          refine ev_getR (c := 11) (j := 2) rfl ?_ (hq := k_29 n)
          refine ev_iload rfl rfl ?_
          refine ev_iconst (x := nI 1) rfl rfl ?_
          refine ev_iaddN rfl ?_
          refine ev_put (c := 9) (j := 6) rfl ?_ (hq := kt_0 n am_T66)
          refine ev_iload rfl rfl ?_
          refine ev_iret rfl ?_
          rw [if_pos (show P_kd k ∧ P_i j (R 4) ∧ P_dc o from And.intro cnd4 (And.intro cnd15 cnd22))] at hQ
          rw [if_neg (by omega)] at hQ
          have hv := U_lamp_v R k j o (by omega)
          have r4 : U_lamp R k j o 4 = R 4 := by
            unfold U_lamp
            repeat rw [upd_ne (by omega)]
          dsimp only at hQ
          refine hQ _ ?_ (cp_ladd am_T66 hC rfl cnd37 (fun i hi => ?_) ?_ ?_ (fun q h1 h2 => (am_up_ne h1).trans (f1 q h2)) (fun k hk => (am_up_nk hk).trans (congrFun (f1 66 (by omega)) k)) ?_ ?_)
          · exact fun q hq => (am_up_ne (by omega)).trans (f1 q (by omega))
          · unfold U_lamp
            repeat rw [upd_ne (by omega)]
          · unfold U_lamp; rw [upd_eq]
          · unfold wfL
            rw [hv.1, hv.2.1, hv.2.2.1, hv.2.2.2.1, hv.2.2.2.2.1, hv.2.2.2.2.2.1, hv.2.2.2.2.2.2, r4]
            exact ⟨P_kd_n cnd4, am_idx (wr4 (cp_w hC)) (by omega) cnd15, (P_dc_n cnd22).1, (P_dc_n cnd22).2, isN0 (by decide), isN0 (by decide), isN0 (by decide)⟩
          · rw [am_up_eq]; unfold U_lamp; rw [upd_eq]
          · intro i hi
            rw [am_up_ne (by omega)]
            match i, hi with
            | 0, _ => exact f2.1.trans hv.1.symm
            | 1, _ => exact f2.2.1.trans hv.2.1.symm
            | 2, _ => exact f2.2.2.1.trans hv.2.2.1.symm
            | 3, _ => exact f2.2.2.2.1.trans hv.2.2.2.1.symm
            | 4, _ => exact f2.2.2.2.2.1.trans hv.2.2.2.2.1.symm
            | 5, _ => exact f2.2.2.2.2.2.1.trans hv.2.2.2.2.2.1.symm
            | 6, _ => exact f2.2.2.2.2.2.2.trans hv.2.2.2.2.2.2.symm
        · skip
          refine ev_iconst (x := (-1000000003)) rfl rfl ?_
          refine ev_iret rfl ?_
          rw [if_pos (show P_kd k ∧ P_i j (R 4) ∧ P_dc o from And.intro cnd4 (And.intro cnd15 cnd22))] at hQ
          rw [if_pos (by omega)] at hQ
          exact hQ mem (FrC_refl _) hC
      · skip
        refine ev_iconst (x := (-1000000001)) rfl rfl ?_
        refine ev_iret rfl ?_
        first
        | (rw [if_neg (fun z => cnd4 z.1)] at hQ; exact hQ mem (FrC_refl _) hC)
        | (rw [if_neg (fun z => cnd15 z.2.1)] at hQ; exact hQ mem (FrC_refl _) hC)
        | (rw [if_neg (fun z => cnd22 z.2.2)] at hQ; exact hQ mem (FrC_refl _) hC)
theorem feed_ge {R : am_R} (hw : wfR R) {f : Int32} (h : nI 100 ≤ f) : P_feed R f ↔ P_i (f - nI 100) (R 3) := by
  have hb := wb_all hw
  have e : (nI 100).toInt = 100 := rfl
  have e0 : (0 : Int32).toInt = 0 := rfl
  have h0 : 0 ≤ f := by rw [Int32.le_iff_toInt_le] at h ⊢; omega
  constructor
  · rintro ⟨z1, z2 | z2⟩
    · obtain ⟨e2, h3⟩ := am_idx (wr4 hw) (by omega) z2
      rw [e2, nI_leI (by decide) (by omega)] at h
      omega
    · exact z2
  · intro z; exact ⟨h0, Or.inr z⟩
theorem feed_lt {R : am_R} {f : Int32} (h : ¬ nI 100 ≤ f) : P_feed R f ↔ P_i f (R 4) := by
  have e : (nI 100).toInt = 100 := rfl
  have e0 : (0 : Int32).toInt = 0 := rfl
  constructor
  · rintro ⟨z1, z2 | z2⟩
    · exact z2
    · have z3 := z2.1
      rw [Int32.le_iff_toInt_le] at h z1 z3
      have hf := Int32.toInt_lt f
      rw [am_sub_toInt (by omega) (by omega)] at z3
      omega
  · intro z; exact ⟨z.1, Or.inl z⟩
theorem c_X11_isFeed {d n : Nat} {mem : am_M} {Q : am_P} {R : am_R} (hC : CplT 66 R mem) (f : Int32) (hQ : Q (some (.int (am_b (P_feed R f)))) (am_SK n) mem) : am_ex (d + 2) 133 [.ref 29, .int f] (am_SK n) mem Q := by
  have hb := wb_all (cp_w hC)
  refine ex_in (c0 := kc_X11_isFeed) rfl (L := [some (.ref 29), some (.int f)]) rfl ?_
  refine ev_iload rfl rfl ?_
  refine ev_iconst (x := nI 100) rfl rfl ?_
  refine ev_icmp_lt (p2 := 20) rfl rfl (fun cnd3 => ?_) (fun cnd3 => ?_)
  · skip
    refine ev_aload rfl rfl ?_
    refine ev_getR (c := 11) (j := 2) rfl ?_ (hq := k_29 n)
    refine ev_iload rfl rfl ?_
    refine ev_callV rfl rfl rfl rfl (Nat.le_of_ble_eq_true rfl) (Nat.le_of_ble_eq_true rfl) ?_ (hq := kt_0 n am_T66)
    refine c_X9_hasJoint am_T66 hC _ ?_
    change am_ev _ _ _ _ (_ :: _) _ _ _
    refine ev_zret rfl ?_
    first
    | (rw [am_b_eq (feed_ge (cp_w hC) (le_nlt cnd3))] at hQ; exact hQ)
    | (rw [am_b_eq (feed_lt (nle_lt cnd3))] at hQ; exact hQ)
  · skip
    refine ev_aload rfl rfl ?_
    refine ev_getR (c := 11) (j := 2) rfl ?_ (hq := k_29 n)
    refine ev_iload rfl rfl ?_
    refine ev_iconst (x := nI 100) rfl rfl ?_
    refine ev_isub rfl ?_
    refine ev_callV rfl rfl rfl rfl (Nat.le_of_ble_eq_true rfl) (Nat.le_of_ble_eq_true rfl) ?_ (hq := kt_0 n am_T66)
    refine c_X9_hasCabinet am_T66 hC _ ?_
    change am_ev _ _ _ _ (_ :: _) _ _ _
    refine ev_goto (p2 := 28) rfl rfl ?_
    refine ev_zret rfl ?_
    first
    | (rw [am_b_eq (feed_ge (cp_w hC) (le_nlt cnd3))] at hQ; exact hQ)
    | (rw [am_b_eq (feed_lt (nle_lt cnd3))] at hQ; exact hQ)
theorem c_X11_joint {d n : Nat} {mem : am_M} {Q : am_P} {R : am_R} (hC : CplT 66 R mem) (f p : Int32) (hQ : ∀ m2 : am_M, FrC mem m2 → CplT 66 (O_joint R f p).2 m2 → Q (some (.int (O_joint R f p).1)) (am_SK n) m2) : am_ex (d + 3) 85 [.ref 29, .int f, .int p] (am_SK n) mem Q := by
  have hb := wb_all (cp_w hC)
  unfold O_joint at hQ
  refine ex_in (c0 := kc_X11_joint) rfl (L := [some (.ref 29), some (.int f), some (.int p), none, none]) rfl ?_
  refine ev_aload rfl rfl ?_
  refine ev_iload rfl rfl ?_
  refine ev_call rfl rfl ?_
  refine c_X11_isFeed hC _ ?_
  change am_ev _ _ _ _ (_ :: _) _ _ _
  refine ev_if_eqB (p2 := 15) rfl rfl (fun cnd5 => ?_) (fun cnd5 => ?_)
  · skip
    refine ev_iconst (x := (-1000000001)) rfl rfl ?_
    refine ev_iret rfl ?_
    first
    | (rw [if_neg (fun z => cnd5 z.1)] at hQ; exact hQ mem (FrC_refl _) hC)
    | (rw [if_neg (fun z => cnd12 z.2)] at hQ; exact hQ mem (FrC_refl _) hC)
  · skip
    refine ev_iload rfl rfl ?_
    refine ev_call rfl rfl ?_
    refine c_X11_isPlace _ ?_
    change am_ev _ _ _ _ (_ :: _) _ _ _
    refine ev_if_neB (p2 := 18) rfl rfl (fun cnd12 => ?_) (fun cnd12 => ?_)
    · skip
      obtain ⟨ef, ha⟩ := P_feed_n (cp_w hC) cnd5
      generalize nn f = a at ef ha
      subst ef
      refine ev_aload rfl rfl ?_
      refine ev_getR (c := 11) (j := 2) rfl ?_ (hq := k_29 n)
      refine ev_getI (c := 9) (j := 4) rfl ?_ (hq := kt_0 n am_T66)
      rw [cp_t4 hC]
      refine ev_iconst (x := nI 12) rfl rfl ?_
      refine ev_icmp_ltN (p2 := 33) rfl rfl (fun cnd27 => ?_) (fun cnd27 => ?_)
      · skip
        refine ev_aload rfl rfl ?_
        refine ev_getR (c := 11) (j := 2) rfl ?_ (hq := k_29 n)
        refine ev_getI (c := 9) (j := 4) rfl ?_ (hq := kt_0 n am_T66)
        rw [cp_t4 hC]
        refine ev_istore rfl rfl (Nat.le_of_ble_eq_true rfl) ?_
        refine ev_iload rfl rfl ?_
        refine ev_iconst (x := nI 100) rfl rfl ?_
        refine ev_icmp_ltN (p2 := 54) rfl rfl (fun cnd44 => ?_) (fun cnd44 => ?_)
        · skip
          have cnd44 : a < 100 := cnd44
          refine ev_aload rfl rfl ?_
          refine ev_getR (c := 11) (j := 2) rfl ?_ (hq := k_29 n)
          refine ev_getR (c := 9) (j := 3) rfl ?_ (hq := kt_0 n am_T66)
          refine ev_iload rfl rfl ?_
          refine ev_aldN rfl rfl ?_ (kr_joint (by omega)) (hq := kt_2 n am_T66)
          refine ev_getI (c := 3) (j := 2) rfl ?_ (hq := kt_joint n am_T66 (by omega))
          rw [cp_j2 hC (j := a) (by omega)]
          refine ev_istore rfl rfl (Nat.le_of_ble_eq_true rfl) ?_
          refine ev_aload rfl rfl ?_
          refine ev_getR (c := 11) (j := 2) rfl ?_ (hq := k_29 n)
          refine ev_getR (c := 9) (j := 3) rfl ?_ (hq := kt_0 n am_T66)
          refine ev_iload rfl rfl ?_
          refine ev_aldN rfl rfl ?_ (kr_joint (by omega)) (hq := kt_2 n am_T66)
          refine ev_iload rfl rfl ?_
          refine ev_iload rfl rfl ?_
          refine ev_iload rfl rfl ?_
          refine ev_callV rfl rfl rfl rfl (Nat.le_of_ble_eq_true rfl) (Nat.le_of_ble_eq_true rfl) ?_ (hq := kt_joint n am_T66 (by omega))
          refine c_X3_begin (kt_joint n am_T66 (by omega)) (by omega) _ _ _ (fun m2 f1 f2 => ?_)
          change am_ev _ _ _ _ _ _ _ _
          refine ev_aload rfl rfl ?_
          refine ev_getR (c := 11) (j := 2) rfl ?_ (hq := k_29 n)
          refine ev_iload rfl rfl ?_
          refine ev_iconst (x := nI 1) rfl rfl ?_
          refine ev_iaddN rfl ?_
          refine ev_put (c := 9) (j := 4) rfl ?_ (hq := kt_0 n am_T66)
          refine ev_iload rfl rfl ?_
          refine ev_iret rfl ?_
          rw [if_pos (show P_feed R (nI a) ∧ P_place p from And.intro cnd5 cnd12)] at hQ
          rw [if_neg (by omega)] at hQ
          have hv := U_joint_v R (nI a) p (by omega)
          have hz : ∀ i, ¬ (i = 4 ∨ (41 + 3 * nn (R 4) ≤ i ∧ i < 41 + 3 * nn (R 4) + 3)) → U_joint R (nI a) p i = R i := by
            intro i hi
            unfold U_joint
            repeat rw [upd_ne (by omega)]
          dsimp only at hQ
          refine hQ _ ?_ (cp_jadd am_T66 hC rfl cnd27 hz ?_ ?_ (fun q h1 h2 => (am_up_ne h1).trans (f1 q h2)) (fun k hk => (am_up_nk hk).trans (congrFun (f1 66 (by omega)) k)) ?_ ?_)
          · exact fun q hq => (am_up_ne (by omega)).trans (f1 q (by omega))
          · unfold U_joint; rw [upd_eq]
          · unfold wfJ
            rw [hv.1, hv.2.1, hv.2.2, nn_nI (by omega), hz 3 (by omega)]
            exact ⟨⟨rfl, ha⟩, P_place_n cnd12, isN0 (by decide)⟩
          · rw [am_up_eq]; unfold U_joint; rw [upd_eq]
          · rw [am_up_ne (by omega)]
            refine ⟨f2.1.trans hv.1.symm, f2.2.1.trans hv.2.1.symm, f2.2.2.1.trans ?_, f2.2.2.2.trans hv.2.2.symm⟩
            first
            | (have hlt : nn (U_joint R (nI a) p (41 + 3 * nn (R 4))) < nn (R 4) := (by rw [hv.1, nn_nI (by omega)]; omega); rw [S_cab_eq hlt, hv.1, nn_nI (by omega), S_cab_cg a (fun i hi => hz _ (by omega))])
            | (have hlt : ¬ nn (U_joint R (nI a) p (41 + 3 * nn (R 4))) < nn (R 4) := (by rw [hv.1, nn_nI (by omega)]; omega); rw [S_cab_top hlt, hv.1, nn_nI (by omega)])
        · skip
          refine ev_iload rfl rfl ?_
          refine ev_iconst (x := nI 100) rfl rfl ?_
          refine ev_isubN rfl ?_
          refine ev_goto (p2 := 66) rfl rfl ?_
          refine ev_istore rfl rfl (Nat.le_of_ble_eq_true rfl) ?_
          refine ev_aload rfl rfl ?_
          refine ev_getR (c := 11) (j := 2) rfl ?_ (hq := k_29 n)
          refine ev_getR (c := 9) (j := 3) rfl ?_ (hq := kt_0 n am_T66)
          refine ev_iload rfl rfl ?_
          refine ev_aldN rfl rfl ?_ (kr_joint (by omega)) (hq := kt_2 n am_T66)
          refine ev_iload rfl rfl ?_
          refine ev_iload rfl rfl ?_
          refine ev_iload rfl rfl ?_
          refine ev_callV rfl rfl rfl rfl (Nat.le_of_ble_eq_true rfl) (Nat.le_of_ble_eq_true rfl) ?_ (hq := kt_joint n am_T66 (by omega))
          refine c_X3_begin (kt_joint n am_T66 (by omega)) (by omega) _ _ _ (fun m2 f1 f2 => ?_)
          change am_ev _ _ _ _ _ _ _ _
          refine ev_aload rfl rfl ?_
          refine ev_getR (c := 11) (j := 2) rfl ?_ (hq := k_29 n)
          refine ev_iload rfl rfl ?_
          refine ev_iconst (x := nI 1) rfl rfl ?_
          refine ev_iaddN rfl ?_
          refine ev_put (c := 9) (j := 4) rfl ?_ (hq := kt_0 n am_T66)
          refine ev_iload rfl rfl ?_
          refine ev_iret rfl ?_
          rw [if_pos (show P_feed R (nI a) ∧ P_place p from And.intro cnd5 cnd12)] at hQ
          rw [if_neg (by omega)] at hQ
          have hv := U_joint_v R (nI a) p (by omega)
          have hz : ∀ i, ¬ (i = 4 ∨ (41 + 3 * nn (R 4) ≤ i ∧ i < 41 + 3 * nn (R 4) + 3)) → U_joint R (nI a) p i = R i := by
            intro i hi
            unfold U_joint
            repeat rw [upd_ne (by omega)]
          dsimp only at hQ
          refine hQ _ ?_ (cp_jadd am_T66 hC rfl cnd27 hz ?_ ?_ (fun q h1 h2 => (am_up_ne h1).trans (f1 q h2)) (fun k hk => (am_up_nk hk).trans (congrFun (f1 66 (by omega)) k)) ?_ ?_)
          · exact fun q hq => (am_up_ne (by omega)).trans (f1 q (by omega))
          · unfold U_joint; rw [upd_eq]
          · unfold wfJ
            rw [hv.1, hv.2.1, hv.2.2, nn_nI (by omega), hz 3 (by omega)]
            exact ⟨⟨rfl, ha⟩, P_place_n cnd12, isN0 (by decide)⟩
          · rw [am_up_eq]; unfold U_joint; rw [upd_eq]
          · rw [am_up_ne (by omega)]
            refine ⟨f2.1.trans hv.1.symm, f2.2.1.trans hv.2.1.symm, f2.2.2.1.trans ?_, f2.2.2.2.trans hv.2.2.symm⟩
            first
            | (have hlt : nn (U_joint R (nI a) p (41 + 3 * nn (R 4))) < nn (R 4) := (by rw [hv.1, nn_nI (by omega)]; omega); rw [S_cab_eq hlt, hv.1, nn_nI (by omega), S_cab_cg a (fun i hi => hz _ (by omega))])
            | (have hlt : ¬ nn (U_joint R (nI a) p (41 + 3 * nn (R 4))) < nn (R 4) := (by rw [hv.1, nn_nI (by omega)]; omega); rw [S_cab_top hlt, hv.1, nn_nI (by omega)])
      · skip
        refine ev_iconst (x := (-1000000003)) rfl rfl ?_
        refine ev_iret rfl ?_
        rw [if_pos (show P_feed R (nI a) ∧ P_place p from And.intro cnd5 cnd12)] at hQ
        rw [if_pos (by omega)] at hQ
        exact hQ mem (FrC_refl _) hC
    · skip
      refine ev_iconst (x := (-1000000001)) rfl rfl ?_
      refine ev_iret rfl ?_
      first
      | (rw [if_neg (fun z => cnd5 z.1)] at hQ; exact hQ mem (FrC_refl _) hC)
      | (rw [if_neg (fun z => cnd12 z.2)] at hQ; exact hQ mem (FrC_refl _) hC)
theorem c_X11_shift {d n : Nat} {mem : am_M} {Q : am_P} {R : am_R} (hC : CplT 66 R mem) (p v : Int32) (hQ : ∀ m2 : am_M, FrC mem m2 → CplT 66 (O_shift R p v).2 m2 → Q (some (.int (O_shift R p v).1)) (am_SK n) m2) : am_ex (d + 2) 84 [.ref 29, .int p, .int v] (am_SK n) mem Q := by
  have hb := wb_all (cp_w hC)
  unfold O_shift at hQ
  refine ex_in (c0 := kc_X11_shift) rfl (L := [some (.ref 29), some (.int p), some (.int v), none]) rfl ?_
  refine ev_aload rfl rfl ?_
  refine ev_getR (c := 11) (j := 2) rfl ?_ (hq := k_29 n)
  refine ev_iload rfl rfl ?_
  refine ev_callV rfl rfl rfl rfl (Nat.le_of_ble_eq_true rfl) (Nat.le_of_ble_eq_true rfl) ?_ (hq := kt_0 n am_T66)
  refine c_X9_hasCabinet am_T66 hC _ ?_
  change am_ev _ _ _ _ (_ :: _) _ _ _
  refine ev_if_eqB (p2 := 22) rfl rfl (fun cnd8 => ?_) (fun cnd8 => ?_)
  · skip
    refine ev_iconst (x := (-1000000001)) rfl rfl ?_
    refine ev_iret rfl ?_
    first
    | (rw [if_neg (fun z => cnd8 z.1)] at hQ; exact hQ mem (FrC_refl _) hC)
    | (rw [if_neg (fun z => nlt_le z.2.1 cnd14)] at hQ; exact hQ mem (FrC_refl _) hC)
    | (rw [if_neg (fun z => cnd19 z.2.2)] at hQ; exact hQ mem (FrC_refl _) hC)
  · skip
    refine ev_iload rfl rfl ?_
    refine ev_iconst (x := (-3)) rfl rfl ?_
    refine ev_icmp_lt (p2 := 22) rfl rfl (fun cnd14 => ?_) (fun cnd14 => ?_)
    · skip
      refine ev_iconst (x := (-1000000001)) rfl rfl ?_
      refine ev_iret rfl ?_
      first
      | (rw [if_neg (fun z => cnd8 z.1)] at hQ; exact hQ mem (FrC_refl _) hC)
      | (rw [if_neg (fun z => nlt_le z.2.1 cnd14)] at hQ; exact hQ mem (FrC_refl _) hC)
      | (rw [if_neg (fun z => cnd19 z.2.2)] at hQ; exact hQ mem (FrC_refl _) hC)
    · skip
      refine ev_iload rfl rfl ?_
      refine ev_iconst (x := nI 3) rfl rfl ?_
      refine ev_icmp_le (p2 := 25) rfl rfl (fun cnd19 => ?_) (fun cnd19 => ?_)
      · skip
        rw [if_pos (And.intro cnd8 (And.intro (le_nlt cnd14) cnd19))] at hQ
        obtain ⟨ep, hp⟩ := am_idx (wr3 (cp_w hC)) (by omega) cnd8
        generalize nn p = c at ep hp hQ
        subst ep
        refine ev_aload rfl rfl ?_
        refine ev_getR (c := 11) (j := 2) rfl ?_ (hq := k_29 n)
        refine ev_getR (c := 9) (j := 1) rfl ?_ (hq := kt_0 n am_T66)
        refine ev_iload rfl rfl ?_
        refine ev_aldN rfl rfl ?_ (kr_cab (by omega)) (hq := kt_1 n am_T66)
        refine ev_getI (c := 1) (j := 3) rfl ?_ (hq := kt_cab n am_T66 (by omega))
        rw [cp_c (k := 3) (c := c) hC (by omega) (by decide)]
        refine ev_istore rfl rfl (Nat.le_of_ble_eq_true rfl) ?_
        refine ev_aload rfl rfl ?_
        refine ev_getR (c := 11) (j := 2) rfl ?_ (hq := k_29 n)
        refine ev_getR (c := 9) (j := 1) rfl ?_ (hq := kt_0 n am_T66)
        refine ev_iload rfl rfl ?_
        refine ev_aldN rfl rfl ?_ (kr_cab (by omega)) (hq := kt_1 n am_T66)
        refine ev_iload rfl rfl ?_
        refine ev_put (c := 1) (j := 3) rfl ?_ (hq := kt_cab n am_T66 (by omega))
        refine ev_iload rfl rfl ?_
        refine ev_iret rfl ?_
        refine hQ _ (FrC_up (by omega)) (cp_cset1 am_T66 hC hp (by decide) (wfC3 ((cp_w hC).2.2.1 c hp) ?_))
        have t3 : (nI 3).toInt = 3 := rfl
        have t4 : (-3 : Int32).toInt = -3 := rfl
        rw [Int32.lt_iff_toInt_lt] at cnd14
        rw [Int32.le_iff_toInt_le] at cnd19
        omega
      · skip
        refine ev_iconst (x := (-1000000001)) rfl rfl ?_
        refine ev_iret rfl ?_
        first
        | (rw [if_neg (fun z => cnd8 z.1)] at hQ; exact hQ mem (FrC_refl _) hC)
        | (rw [if_neg (fun z => nlt_le z.2.1 cnd14)] at hQ; exact hQ mem (FrC_refl _) hC)
        | (rw [if_neg (fun z => cnd19 z.2.2)] at hQ; exact hQ mem (FrC_refl _) hC)
theorem c_X11_bill {d n : Nat} {mem : am_M} {Q : am_P} {R : am_R} (hC : CplT 66 R mem) (p : Int32) (hQ : ∀ m2 : am_M, FrC mem m2 → CplT 66 (O_bill R p).2 m2 → Q (some (.int (O_bill R p).1)) (am_SK n) m2) : am_ex (d + 2) 95 [.ref 29, .int p] (am_SK n) mem Q := by
  have hb := wb_all (cp_w hC)
  unfold O_bill at hQ
  refine ex_in (c0 := kc_X11_bill) rfl (L := [some (.ref 29), some (.int p), none]) rfl ?_
  refine ev_aload rfl rfl ?_
  refine ev_getR (c := 11) (j := 2) rfl ?_ (hq := k_29 n)
  refine ev_iload rfl rfl ?_
  refine ev_callV rfl rfl rfl rfl (Nat.le_of_ble_eq_true rfl) (Nat.le_of_ble_eq_true rfl) ?_ (hq := kt_0 n am_T66)
  refine c_X9_hasCabinet am_T66 hC _ ?_
  change am_ev _ _ _ _ (_ :: _) _ _ _
  refine ev_if_neB (p2 := 14) rfl rfl (fun cnd8 => ?_) (fun cnd8 => ?_)
  · skip
    rw [if_pos (cnd8)] at hQ
    obtain ⟨ep, hp⟩ := am_idx (wr3 (cp_w hC)) (by omega) cnd8
    generalize nn p = c at ep hp hQ
    subst ep
    refine ev_aload rfl rfl ?_
    refine ev_getR (c := 11) (j := 2) rfl ?_ (hq := k_29 n)
    refine ev_getR (c := 9) (j := 1) rfl ?_ (hq := kt_0 n am_T66)
    refine ev_iload rfl rfl ?_
    refine ev_aldN rfl rfl ?_ (kr_cab (by omega)) (hq := kt_1 n am_T66)
    refine ev_getI (c := 1) (j := 5) rfl ?_ (hq := kt_cab n am_T66 (by omega))
    rw [cp_c (k := 5) (c := c) hC (by omega) (by decide)]
    refine ev_istore rfl rfl (Nat.le_of_ble_eq_true rfl) ?_
    refine ev_aload rfl rfl ?_
    refine ev_getR (c := 11) (j := 2) rfl ?_ (hq := k_29 n)
    refine ev_getR (c := 9) (j := 1) rfl ?_ (hq := kt_0 n am_T66)
    refine ev_iload rfl rfl ?_
    refine ev_aldN rfl rfl ?_ (kr_cab (by omega)) (hq := kt_1 n am_T66)
    refine ev_iconst (x := nI 0) rfl rfl ?_
    refine ev_put (c := 1) (j := 5) rfl ?_ (hq := kt_cab n am_T66 (by omega))
    refine ev_iload rfl rfl ?_
    refine ev_iret rfl ?_
    exact hQ _ (FrC_up (by omega)) (cp_cset1 am_T66 hC hp (by decide) (wfC5 ((cp_w hC).2.2.1 c hp) (isN0 (by decide))))
  · skip
    refine ev_iconst (x := (-1000000001)) rfl rfl ?_
    refine ev_iret rfl ?_
    rw [if_neg cnd8] at hQ; exact hQ mem (FrC_refl _) hC
theorem c_X11_change {d n : Nat} {mem : am_M} {Q : am_P} {R : am_R} (hC : CplT 66 R mem) (p w : Int32) (hQ : ∀ m2 : am_M, FrC mem m2 → CplT 66 (O_change R p w).2 m2 → Q (some (.int (O_change R p w).1)) (am_SK n) m2) : am_ex (d + 2) 90 [.ref 29, .int p, .int w] (am_SK n) mem Q := by
  have hb := wb_all (cp_w hC)
  unfold O_change at hQ
  refine ex_in (c0 := kc_X11_change) rfl (L := [some (.ref 29), some (.int p), some (.int w), none, none]) rfl ?_
  refine ev_aload rfl rfl ?_
  refine ev_getR (c := 11) (j := 2) rfl ?_ (hq := k_29 n)
  refine ev_iload rfl rfl ?_
  refine ev_callV rfl rfl rfl rfl (Nat.le_of_ble_eq_true rfl) (Nat.le_of_ble_eq_true rfl) ?_ (hq := kt_0 n am_T66)
  refine c_X9_hasLamp am_T66 hC _ ?_
  change am_ev _ _ _ _ (_ :: _) _ _ _
  refine ev_if_eqB (p2 := 18) rfl rfl (fun cnd8 => ?_) (fun cnd8 => ?_)
  · skip
    refine ev_iconst (x := (-1000000001)) rfl rfl ?_
    refine ev_iret rfl ?_
    first
    | (rw [if_neg (fun z => cnd8 z.1)] at hQ; exact hQ mem (FrC_refl _) hC)
    | (rw [if_neg (fun z => cnd15 z.2)] at hQ; exact hQ mem (FrC_refl _) hC)
  · skip
    refine ev_iload rfl rfl ?_
    refine ev_call rfl rfl ?_
    refine c_X11_isKind _ ?_
    change am_ev _ _ _ _ (_ :: _) _ _ _
    refine ev_if_neB (p2 := 21) rfl rfl (fun cnd15 => ?_) (fun cnd15 => ?_)
    · skip
      rw [if_pos (And.intro cnd8 cnd15)] at hQ
      obtain ⟨ep, hp⟩ := am_idx (wr5 (cp_w hC)) (by omega) cnd8
      generalize nn p = c at ep hp hQ
      subst ep
      refine ev_aload rfl rfl ?_
      refine ev_getR (c := 11) (j := 2) rfl ?_ (hq := k_29 n)
      refine ev_getR (c := 9) (j := 5) rfl ?_ (hq := kt_0 n am_T66)
      refine ev_iload rfl rfl ?_
      refine ev_aldN rfl rfl ?_ (kr_lamp (by omega)) (hq := kt_3 n am_T66)
      refine ev_astore rfl rfl (Nat.le_of_ble_eq_true rfl) ?_
      refine ev_aload rfl rfl ?_
      refine ev_getI (c := 4) (j := 0) rfl ?_ (hq := kt_lamp n am_T66 (by omega))
      rw [cp_l0 hC (l := c) (by omega)]
      refine ev_istore rfl rfl (Nat.le_of_ble_eq_true rfl) ?_
      refine ev_aload rfl rfl ?_
      refine ev_iload rfl rfl ?_
      refine ev_put (c := 4) (j := 0) rfl ?_ (hq := kt_lamp n am_T66 (by omega))
      refine ev_aload rfl rfl ?_
      refine ev_iconst (x := nI 0) rfl rfl ?_
      refine ev_put (c := 4) (j := 4) rfl ?_ (hq := kt_lamp n am_T66 (by omega))
      refine ev_aload rfl rfl ?_
      refine ev_iconst (x := nI 0) rfl rfl ?_
      refine ev_putB (c := 4) (j := 5) rfl ?_ (hq := kt_lamp n am_T66 (by omega)) (hx := by first | assumption | exact am_b01 _ | exact ob01 _ | decide)
      refine ev_iload rfl rfl ?_
      refine ev_iret rfl ?_
      have hl0 := (cp_w hC).2.2.2.2.1 c hp
      rw [hl0.1.1] at hQ
      have hC1 := cp_lset1 (k0 := 0) (v := w) am_T66 hC hp (by decide) (wfL0 hl0 (P_kd_n cnd15))
      have e1 : ∀ i, 77 ≤ i ∨ i = 5 → i ≠ 77 + 7 * c → upd R (77 + 7 * c) w i = R i := fun i _ h => upd_ne h
      have hp1 : c < nn (upd R (77 + 7 * c) w 5) := by rw [upd_ne (by omega)]; exact hp
      have hC2 := cp_lset1 (k0 := 4) (v := nI 0) am_T66 hC1 hp1 (by decide) (wfL4 (wfL0 hl0 (P_kd_n cnd15)) (isN0 (by decide)))
      have hp2 : c < nn (upd (upd R (77 + 7 * c) w) (77 + 7 * c + 4) (nI 0) 5) := by rw [upd_ne (by omega)]; exact hp1
      have hC3 := cp_lset1 (k0 := 5) (v := nI 0) am_T66 hC2 hp2 (by decide) (wfL5 (wfL4 (wfL0 hl0 (P_kd_n cnd15)) (isN0 (by decide))) (isN0 (by decide)))
      exact hQ _ (FrC_tr (FrC_tr (FrC_up (by omega)) (FrC_up (by omega))) (FrC_up (by omega))) hC3
    · skip
      refine ev_iconst (x := (-1000000001)) rfl rfl ?_
      refine ev_iret rfl ?_
      first
      | (rw [if_neg (fun z => cnd8 z.1)] at hQ; exact hQ mem (FrC_refl _) hC)
      | (rw [if_neg (fun z => cnd15 z.2)] at hQ; exact hQ mem (FrC_refl _) hC)
theorem c_X11_dark {d n : Nat} {mem : am_M} {Q : am_P} {R : am_R} (hC : CplT 66 R mem) (p b : Int32) (hb01 : b = 0 ∨ b = 1) (hQ : ∀ m2 : am_M, FrC mem m2 → CplT 66 (O_dark R p b).2 m2 → Q (some (.int (O_dark R p b).1)) (am_SK n) m2) : am_ex (d + 2) 103 [.ref 29, .int p, .int b] (am_SK n) mem Q := by
  have hb := wb_all (cp_w hC)
  unfold O_dark at hQ
  refine ex_in (c0 := kc_X11_dark) rfl (L := [some (.ref 29), some (.int p), some (.int b), none]) rfl ?_
  refine ev_aload rfl rfl ?_
  refine ev_getR (c := 11) (j := 2) rfl ?_ (hq := k_29 n)
  refine ev_iload rfl rfl ?_
  refine ev_callV rfl rfl rfl rfl (Nat.le_of_ble_eq_true rfl) (Nat.le_of_ble_eq_true rfl) ?_ (hq := kt_0 n am_T66)
  refine c_X9_hasLamp am_T66 hC _ ?_
  change am_ev _ _ _ _ (_ :: _) _ _ _
  refine ev_if_neB (p2 := 14) rfl rfl (fun cnd8 => ?_) (fun cnd8 => ?_)
  · skip
    rw [if_pos (cnd8)] at hQ
    obtain ⟨ep, hp⟩ := am_idx (wr5 (cp_w hC)) (by omega) cnd8
    generalize nn p = c at ep hp hQ
    subst ep
    refine ev_aload rfl rfl ?_
    refine ev_getR (c := 11) (j := 2) rfl ?_ (hq := k_29 n)
    refine ev_getR (c := 9) (j := 5) rfl ?_ (hq := kt_0 n am_T66)
    refine ev_iload rfl rfl ?_
    refine ev_aldN rfl rfl ?_ (kr_lamp (by omega)) (hq := kt_3 n am_T66)
    refine ev_getI (c := 4) (j := 6) rfl ?_ (hq := kt_lamp n am_T66 (by omega))
    rw [cp_l (k := 6) (l := c) hC (by omega) (by decide)]
    refine ev_iload rfl rfl ?_
    refine ev_icmp_eq (p2 := 34) rfl rfl (fun cnd27 => ?_) (fun cnd27 => ?_)
    · skip
      refine ev_iconst (x := nI 0) rfl rfl ?_
      refine ev_istore rfl rfl (Nat.le_of_ble_eq_true rfl) ?_
      refine ev_aload rfl rfl ?_
      refine ev_getR (c := 11) (j := 2) rfl ?_ (hq := k_29 n)
      refine ev_getR (c := 9) (j := 5) rfl ?_ (hq := kt_0 n am_T66)
      refine ev_iload rfl rfl ?_
      refine ev_aldN rfl rfl ?_ (kr_lamp (by omega)) (hq := kt_3 n am_T66)
      refine ev_iload rfl rfl ?_
      refine ev_putB (c := 4) (j := 6) rfl ?_ (hq := kt_lamp n am_T66 (by omega)) (hx := by first | assumption | exact am_b01 _ | exact ob01 _ | decide)
      refine ev_iload rfl rfl ?_
      refine ev_call rfl rfl ?_
      refine c_X11_bit _ (by decide) ?_
      change am_ev _ _ _ _ (_ :: _) _ _ _
      refine ev_iret rfl ?_
      have hbn : isN b 2 := by rcases hb01 with rfl | rfl <;> exact ⟨rfl, by decide⟩
      have hC1 := cp_lset1 (k0 := 6) (v := b) am_T66 hC hp (by decide) (wfL6 ((cp_w hC).2.2.2.2.1 c hp) hbn)
      first
      | (rw [if_pos cnd27] at hQ; exact hQ _ (FrC_up (by omega)) hC1)
      | (rw [if_neg cnd27] at hQ; exact hQ _ (FrC_up (by omega)) hC1)
    · skip
      refine ev_iconst (x := nI 1) rfl rfl ?_
      refine ev_goto (p2 := 35) rfl rfl ?_
      refine ev_istore rfl rfl (Nat.le_of_ble_eq_true rfl) ?_
      refine ev_aload rfl rfl ?_
      refine ev_getR (c := 11) (j := 2) rfl ?_ (hq := k_29 n)
      refine ev_getR (c := 9) (j := 5) rfl ?_ (hq := kt_0 n am_T66)
      refine ev_iload rfl rfl ?_
      refine ev_aldN rfl rfl ?_ (kr_lamp (by omega)) (hq := kt_3 n am_T66)
      refine ev_iload rfl rfl ?_
      refine ev_putB (c := 4) (j := 6) rfl ?_ (hq := kt_lamp n am_T66 (by omega)) (hx := by first | assumption | exact am_b01 _ | exact ob01 _ | decide)
      refine ev_iload rfl rfl ?_
      refine ev_call rfl rfl ?_
      refine c_X11_bit _ (by decide) ?_
      change am_ev _ _ _ _ (_ :: _) _ _ _
      refine ev_iret rfl ?_
      have hbn : isN b 2 := by rcases hb01 with rfl | rfl <;> exact ⟨rfl, by decide⟩
      have hC1 := cp_lset1 (k0 := 6) (v := b) am_T66 hC hp (by decide) (wfL6 ((cp_w hC).2.2.2.2.1 c hp) hbn)
      first
      | (rw [if_pos cnd27] at hQ; exact hQ _ (FrC_up (by omega)) hC1)
      | (rw [if_neg cnd27] at hQ; exact hQ _ (FrC_up (by omega)) hC1)
  · skip
    refine ev_iconst (x := (-1000000001)) rfl rfl ?_
    refine ev_iret rfl ?_
    rw [if_neg cnd8] at hQ; exact hQ mem (FrC_refl _) hC
theorem c_X11_feast {d n : Nat} {mem : am_M} {Q : am_P} {R : am_R} (hC : CplT 66 R mem) (v : Int32) (hQ : ∀ m2 : am_M, FrC mem m2 → CplT 66 (O_feast R v).2 m2 → Q (some (.int (O_feast R v).1)) (am_SK n) m2) : am_ex (d + 1) 91 [.ref 29, .int v] (am_SK n) mem Q := by
  have hb := wb_all (cp_w hC)
  unfold O_feast at hQ
  refine ex_in (c0 := kc_X11_feast) rfl (L := [some (.ref 29), some (.int v), none]) rfl ?_
  refine ev_iload rfl rfl ?_
  refine ev_iconst (x := nI 1) rfl rfl ?_
  refine ev_icmp_lt (p2 := 11) rfl rfl (fun cnd2 => ?_) (fun cnd2 => ?_)
  · skip
    refine ev_iconst (x := (-1000000001)) rfl rfl ?_
    refine ev_iret rfl ?_
    first
    | (rw [if_neg (fun z => nlt_le z.1 cnd2)] at hQ; exact hQ mem (FrC_refl _) hC)
    | (rw [if_neg (fun z => cnd8 z.2)] at hQ; exact hQ mem (FrC_refl _) hC)
  · skip
    refine ev_iload rfl rfl ?_
    refine ev_iconst (x := nI 99) rfl rfl ?_
    refine ev_icmp_le (p2 := 14) rfl rfl (fun cnd8 => ?_) (fun cnd8 => ?_)
    · skip
      refine ev_aload rfl rfl ?_
      refine ev_getR (c := 11) (j := 2) rfl ?_ (hq := k_29 n)
      refine ev_getI (c := 9) (j := 9) rfl ?_ (hq := kt_0 n am_T66)
      rw [cp_t9 hC]
      refine ev_istore rfl rfl (Nat.le_of_ble_eq_true rfl) ?_
      refine ev_aload rfl rfl ?_
      refine ev_getR (c := 11) (j := 2) rfl ?_ (hq := k_29 n)
      refine ev_iload rfl rfl ?_
      refine ev_put (c := 9) (j := 9) rfl ?_ (hq := kt_0 n am_T66)
      refine ev_iload rfl rfl ?_
      refine ev_iret rfl ?_
      rw [if_pos (And.intro (le_nlt cnd2) cnd8), wr2 (cp_w hC)] at hQ
      have hw1 := (cp_w hC).1
      have hv : isN v 100 ∧ 1 ≤ nn v := by
        have t1 : (nI 1).toInt = 1 := rfl
        have t0 : (nI 0).toInt = 0 := rfl
        have h0 : nI 0 ≤ v := by rw [Int32.lt_iff_toInt_lt] at cnd2; rw [Int32.le_iff_toInt_le]; omega
        obtain ⟨e, h9⟩ := am_rng (by decide) (And.intro h0 cnd8)
        refine ⟨⟨e, by omega⟩, ?_⟩
        rw [e, nI_ltI (by omega) (by decide)] at cnd2
        omega
      dsimp only at hQ
      refine hQ _ (FrC_up (by omega)) (cp_tset am_T66 hC (fun i hi => upd_ne (by omega)) ?_ ?_ ?_ (fun q hq => am_up_ne hq) ?_)
      · rw [upd_ne (by decide), upd_ne (by decide), upd_eq]; exact ⟨hw1.1, hw1.2.1, hv⟩
      · rw [upd_ne (by decide)]; exact ⟨(cp_w hC).2.1.2.2.2.2.1, Nat.le_refl _⟩
      · rw [upd_ne (by decide)]; exact ⟨(cp_w hC).2.1.2.2.2.2.2, Nat.le_refl _⟩
      · have h1 := hC.2.1
        refine ⟨am_up_nk (by decide), am_up_nk (by decide), am_up_nk (by decide), (am_up_nk (by decide)).trans (h1.2.2.2.1.trans (upd_ne (by decide)).symm), (am_up_nk (by decide)).trans (h1.2.2.2.2.1.trans (upd_ne (by decide)).symm), am_up_eq.trans upd_eq.symm, (am_up_nk (by decide)).trans (h1.2.2.2.2.2.2.1.trans (upd_ne (by decide)).symm), (am_up_nk (by decide)).trans (h1.2.2.2.2.2.2.2.1.trans (upd_ne (by decide)).symm), am_up_nk (by decide)⟩
    · skip
      refine ev_iconst (x := (-1000000001)) rfl rfl ?_
      refine ev_iret rfl ?_
      first
      | (rw [if_neg (fun z => nlt_le z.1 cnd2)] at hQ; exact hQ mem (FrC_refl _) hC)
      | (rw [if_neg (fun z => cnd8 z.2)] at hQ; exact hQ mem (FrC_refl _) hC)
theorem c_X11_clear {d n : Nat} {mem : am_M} {Q : am_P} {R : am_R} (hC : CplT 66 R mem) (hQ : ∀ m2 : am_M, FrC mem m2 → CplT 66 (O_clear R).2 m2 → Q (some (.int (O_clear R).1)) (am_SK n) m2) : am_ex (d + 1) 107 [.ref 29] (am_SK n) mem Q := by
  have hb := wb_all (cp_w hC)
  unfold O_clear at hQ
  refine ex_in (c0 := kc_X11_clear) rfl (L := [some (.ref 29), none]) rfl ?_
  refine ev_aload rfl rfl ?_
  refine ev_getR (c := 11) (j := 2) rfl ?_ (hq := k_29 n)
  refine ev_getI (c := 9) (j := 11) rfl ?_ (hq := kt_0 n am_T66)
  rw [cp_t11 hC]
  refine ev_istore rfl rfl (Nat.le_of_ble_eq_true rfl) ?_
  refine ev_aload rfl rfl ?_
  refine ev_getR (c := 11) (j := 2) rfl ?_ (hq := k_29 n)
  refine ev_iconst (x := nI 0) rfl rfl ?_
  refine ev_put (c := 9) (j := 11) rfl ?_ (hq := kt_0 n am_T66)
  refine ev_iload rfl rfl ?_
  refine ev_iret rfl ?_
  rw [← wr7 (cp_w hC)]
  dsimp only at hQ
  refine hQ _ (FrC_up (by omega)) (cp_tset am_T66 hC (fun i hi => upd_ne (by omega)) ?_ ?_ ?_ (fun q hq => am_up_ne hq) ?_)
  · rw [upd_ne (by decide), upd_ne (by decide), upd_ne (by decide)]; exact (cp_w hC).1
  · rw [upd_eq]; exact ⟨isN0 (by decide), by rw [nn0]; omega⟩
  · rw [upd_ne (by decide)]; exact ⟨(cp_w hC).2.1.2.2.2.2.2, Nat.le_refl _⟩
  · have h1 := hC.2.1
    refine ⟨am_up_nk (by decide), am_up_nk (by decide), am_up_nk (by decide), (am_up_nk (by decide)).trans (h1.2.2.2.1.trans (upd_ne (by decide)).symm), (am_up_nk (by decide)).trans (h1.2.2.2.2.1.trans (upd_ne (by decide)).symm), (am_up_nk (by decide)).trans (h1.2.2.2.2.2.1.trans (upd_ne (by decide)).symm), am_up_eq.trans upd_eq.symm, (am_up_nk (by decide)).trans (h1.2.2.2.2.2.2.2.1.trans (upd_ne (by decide)).symm), am_up_nk (by decide)⟩
theorem c_X11_home {d n : Nat} {mem : am_M} {Q : am_P} {R : am_R} (hC : CplT 66 R mem) (hQ : ∀ m2 : am_M, FrC mem m2 → CplT 66 (O_home R).2 m2 → Q (some (.int (O_home R).1)) (am_SK n) m2) : am_ex (d + 1) 110 [.ref 29] (am_SK n) mem Q := by
  have hb := wb_all (cp_w hC)
  unfold O_home at hQ
  refine ex_in (c0 := kc_X11_home) rfl (L := [some (.ref 29), none]) rfl ?_
  refine ev_aload rfl rfl ?_
  refine ev_getR (c := 11) (j := 2) rfl ?_ (hq := k_29 n)
  refine ev_getI (c := 9) (j := 13) rfl ?_ (hq := kt_0 n am_T66)
  rw [cp_t13 hC]
  refine ev_istore rfl rfl (Nat.le_of_ble_eq_true rfl) ?_
  refine ev_aload rfl rfl ?_
  refine ev_getR (c := 11) (j := 2) rfl ?_ (hq := k_29 n)
  refine ev_iconst (x := nI 0) rfl rfl ?_
  refine ev_put (c := 9) (j := 13) rfl ?_ (hq := kt_0 n am_T66)
  refine ev_iload rfl rfl ?_
  refine ev_iret rfl ?_
  rw [← wr8 (cp_w hC)]
  dsimp only at hQ
  refine hQ _ (FrC_up (by omega)) (cp_tset am_T66 hC (fun i hi => upd_ne (by omega)) ?_ ?_ ?_ (fun q hq => am_up_ne hq) ?_)
  · rw [upd_ne (by decide), upd_ne (by decide), upd_ne (by decide)]; exact (cp_w hC).1
  · rw [upd_ne (by decide)]; exact ⟨(cp_w hC).2.1.2.2.2.2.1, Nat.le_refl _⟩
  · rw [upd_eq]; exact ⟨isN0 (by decide), by rw [nn0]; omega⟩
  · have h1 := hC.2.1
    refine ⟨am_up_nk (by decide), am_up_nk (by decide), am_up_nk (by decide), (am_up_nk (by decide)).trans (h1.2.2.2.1.trans (upd_ne (by decide)).symm), (am_up_nk (by decide)).trans (h1.2.2.2.2.1.trans (upd_ne (by decide)).symm), (am_up_nk (by decide)).trans (h1.2.2.2.2.2.1.trans (upd_ne (by decide)).symm), (am_up_nk (by decide)).trans (h1.2.2.2.2.2.2.1.trans (upd_ne (by decide)).symm), am_up_eq.trans upd_eq.symm, am_up_nk (by decide)⟩
