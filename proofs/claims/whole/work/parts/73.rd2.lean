/-! the next order: the reference's goesUp -/
theorem l_gu1 {d n : Nat} {Q : am_P} {R : am_R} {f : Nat → Nat} {mem : am_M} (hw : wfR R) (hF : ∀ j, j < nn (R 8) → mem 243 j = nI (f j)) (hB : ∀ j, j < nn (R 8) → f j < 6) (k : Nat) : k + 1 < nn (R 8) → (∀ t, u1 f (k + 1) = t + 1 → am_ev kc_X12_goesUp d 45 [some (.ref 221), some (.int (nI (nn (R 8)))), some (.int (nI t)), none, none, none, none] [] (am_SK n) mem Q) → (u1 f (k + 1) = 0 → Q (some (.int (nI 0))) (am_SK n) mem) → am_ev kc_X12_goesUp d 12 [some (.ref 221), some (.int (nI (nn (R 8)))), some (.int (nI k)), none, none, none, none] [] (am_SK n) mem Q := by
  induction k with
  | zero =>
    intro hk hK hQ
    have hb := wb_all hw
    have hb1 := hB 0 (by omega)
    have hb2 := hB (0 + 1) (by omega)
    refine ev_iload rfl rfl ?_
    refine ev_if_ltN rfl ?_
    refine ev_aload rfl rfl ?_
    refine ev_getR (c := 12) (j := 32) rfl ?_ (hq := k_221 n)
    refine ev_iload rfl rfl ?_
    refine ev_ialdN rfl rfl ?_ (hq := k_243 n)
    rw [hF (0) (by omega)]
    refine ev_aload rfl rfl ?_
    refine ev_getR (c := 12) (j := 32) rfl ?_ (hq := k_221 n)
    refine ev_iload rfl rfl ?_
    refine ev_iconst (x := nI 1) rfl rfl ?_
    refine ev_iaddN rfl ?_
    refine ev_ialdN rfl rfl ?_ (hq := k_243 n)
    rw [hF (0 + 1) (by omega)]
    refine ev_icmp_leN (p2 := 39) rfl rfl (fun cnd30 => ?_) (fun cnd30 => ?_)
    · skip
      refine ev_iload rfl rfl ?_
      refine ev_if_geN (p2 := 45) rfl rfl ?_
      exact hK 0 (by unfold u1; rw [if_pos (show f 0 ≤ f (0 + 1) from cnd30)])
    · skip
      refine ev_iinc rfl rfl rfl rfl ?_
      refine ev_goto (p2 := 12) rfl rfl ?_
      refine ev_iload rfl rfl ?_
      refine ev_if_lt (p2 := 39) rfl rfl (fun cnd13 => ?_) (fun cnd13 => ?_)
      · skip
        refine ev_iload rfl rfl ?_
        refine ev_if_ge (p2 := 45) rfl rfl (fun cnd40 => ?_) (fun cnd40 => ?_)
        · exact absurd cnd40 (by decide)
        · skip
          refine ev_iconst (x := nI 0) rfl rfl ?_
          refine ev_zret rfl ?_
          exact hQ (by unfold u1; rw [if_neg (show ¬ f 0 ≤ f (0 + 1) from Nat.not_le.mpr cnd30)]; rfl)
      · exact absurd (by decide) cnd13
  | succ k ih =>
    intro hk hK hQ
    have hb := wb_all hw
    have hb1 := hB (k + 1) (by omega)
    have hb2 := hB ((k + 1) + 1) (by omega)
    refine ev_iload rfl rfl ?_
    refine ev_if_ltN rfl ?_
    refine ev_aload rfl rfl ?_
    refine ev_getR (c := 12) (j := 32) rfl ?_ (hq := k_221 n)
    refine ev_iload rfl rfl ?_
    refine ev_ialdN rfl rfl ?_ (hq := k_243 n)
    rw [hF (k + 1) (by omega)]
    refine ev_aload rfl rfl ?_
    refine ev_getR (c := 12) (j := 32) rfl ?_ (hq := k_221 n)
    refine ev_iload rfl rfl ?_
    refine ev_iconst (x := nI 1) rfl rfl ?_
    refine ev_iaddN rfl ?_
    refine ev_ialdN rfl rfl ?_ (hq := k_243 n)
    rw [hF (k + 1 + 1) (by omega)]
    refine ev_icmp_leN (p2 := 39) rfl rfl (fun cnd30 => ?_) (fun cnd30 => ?_)
    · skip
      refine ev_iload rfl rfl ?_
      refine ev_if_geN (p2 := 45) rfl rfl ?_
      exact hK (k + 1) (by unfold u1; rw [if_pos (show f (k + 1) ≤ f (k + 1 + 1) from cnd30)])
    · skip
      refine ev_iincD rfl rfl rfl ?_
      refine ev_goto (p2 := 12) rfl rfl ?_
      have e : u1 f (k + 1 + 1) = u1 f (k + 1) := by
        conv => lhs; unfold u1
        rw [if_neg (show ¬ f (k + 1) ≤ f (k + 1 + 1) from Nat.not_le.mpr cnd30)]
      rw [e] at hQ
      exact ih (by omega) (fun t ht => hK t (e.trans ht)) hQ
theorem l_gu2 {d n : Nat} {Q : am_P} {R : am_R} {f : Nat → Nat} {mem : am_M} {t : Nat} (hw : wfR R) (hF : ∀ j, j < nn (R 8) → mem 243 j = nI (f j)) (hB : ∀ j, j < nn (R 8) → f j < 6) (ht : t < nn (R 8)) (k : Nat) : k < nn (R 8) → 0 < u2 f (f t) k → am_ev kc_X12_goesUp d 70 [some (.ref 221), some (.int (nI (nn (R 8)))), some (.int (nI t)), some (.int (nI (u2 f (f t) k))), none, none, none] [] (am_SK n) mem Q → am_ev kc_X12_goesUp d 49 [some (.ref 221), some (.int (nI (nn (R 8)))), some (.int (nI t)), some (.int (nI k)), none, none, none] [] (am_SK n) mem Q := by
  induction k with
  | zero =>
    intro hk h0
    exact absurd h0 (Nat.lt_irrefl 0)
  | succ k ih =>
    intro hk h0 hK
    have hb := wb_all hw
    have hb1 := hB t (by omega)
    have hb2 := hB (k + 1) (by omega)
    refine ev_aload rfl rfl ?_
    refine ev_getR (c := 12) (j := 32) rfl ?_ (hq := k_221 n)
    refine ev_iload rfl rfl ?_
    refine ev_ialdN rfl rfl ?_ (hq := k_243 n)
    rw [hF (k + 1) (by omega)]
    refine ev_aload rfl rfl ?_
    refine ev_getR (c := 12) (j := 32) rfl ?_ (hq := k_221 n)
    refine ev_iload rfl rfl ?_
    refine ev_ialdN rfl rfl ?_ (hq := k_243 n)
    rw [hF (t) (by omega)]
    refine ev_icmp_geN (p2 := 70) rfl rfl (fun cnd61 => ?_) (fun cnd61 => ?_)
    · skip
      have e : u2 f (f t) (k + 1) = k + 1 := by
        unfold u2
        rw [if_neg (show ¬ f (k + 1) < f t by omega)]
      rw [e] at hK
      exact hK
    · skip
      refine ev_iincD rfl rfl rfl ?_
      refine ev_goto (p2 := 49) rfl rfl ?_
      have e : u2 f (f t) (k + 1) = u2 f (f t) k := by
        conv => lhs; unfold u2
        rw [if_pos (show f (k + 1) < f t from cnd61)]
      rw [e] at hK h0
      exact ih (by omega) h0 hK
theorem u2_le {f : Nat → Nat} {x : Nat} : ∀ k, u2 f x k ≤ k := by
  intro k
  induction k with
  | zero => exact Nat.le_refl _
  | succ k ih =>
    unfold u2
    split
    · omega
    · omega
theorem u1_le {f : Nat → Nat} : ∀ k, u1 f k ≤ k := by
  intro k
  induction k with
  | zero => exact Nat.le_refl _
  | succ k ih =>
    unfold u1
    split
    · omega
    · omega
theorem sw_mem {mem m2 m3 : am_M} {f : Nat → Nat} {z a b : Nat} (hF : ∀ j, j < z → mem 243 j = nI (f j)) (ha : a < z) (hb : b < z) (h2 : m2 = am_up mem 243 a (nI (f b))) (h3 : m3 = am_up m2 243 b (nI (f a))) : ∀ j, j < z → m3 243 j = nI (swp f a b j) := by
  intro j hj
  subst h3
  subst h2
  unfold swp
  by_cases e1 : j = b
  · rw [if_pos e1, e1, am_up_eq]
  · rw [if_neg e1, am_up_nk e1]
    by_cases e2 : j = a
    · rw [if_pos e2, e2, am_up_eq]
    · rw [if_neg e2, am_up_nk e2]
      exact hF j hj
theorem sw_fr {mem0 mem m2 m3 : am_M} {a b : Nat} {x y : Int32} (hf : ∀ q, q ≠ 243 → mem q = mem0 q) (h2 : m2 = am_up mem 243 a x) (h3 : m3 = am_up m2 243 b y) : ∀ q, q ≠ 243 → m3 q = mem0 q := by
  intro q hq
  subst h3
  subst h2
  unfold am_up
  rw [if_neg hq, if_neg hq]
  exact hf q hq
theorem l_gu3 {d n : Nat} {Q : am_P} {R : am_R} {mem0 : am_M} (hw : wfR R) (r : Nat) : ∀ (mem : am_M) (f : Nat → Nat) (hf : ∀ q, q ≠ 243 → mem q = mem0 q) (hF : ∀ j, j < nn (R 8) → mem 243 j = nI (f j)) (a b : Nat) (ha : a < nn (R 8)) (hr : a ≤ b + 2 * r) (hbb : b < 7) (x2 x3 x4 : Option Value) (hQ : ∀ m2 : am_M, (∀ q, q ≠ 243 → m2 q = mem0 q) → (∀ j, j < nn (R 8) → m2 243 j = nI (u3 r f b a j)) → Q (some (.int (nI 1))) (am_SK n) m2), am_ev kc_X12_goesUp d 108 [some (.ref 221), some (.int (nI (nn (R 8)))), x2, x3, x4, some (.int (nI a)), some (.int (nI b))] [] (am_SK n) mem Q := by
  induction r with
  | zero =>
    intro mem f hf hF a b ha hr hbb x2 x3 x4 hQ
    have hb := wb_all hw
    refine ev_iload rfl rfl ?_
    refine ev_iload rfl rfl ?_
    refine ev_icmp_geN (p2 := 156) rfl rfl (fun cnd112 => ?_) (fun cnd112 => ?_)
    · skip
      refine ev_iconst (x := nI 1) rfl rfl ?_
      refine ev_zret rfl ?_
      exact hQ mem hf hF
    · omega
  | succ r ih =>
    intro mem f hf hF a b ha hr hbb x2 x3 x4 hQ
    have hb := wb_all hw
    refine ev_iload rfl rfl ?_
    refine ev_iload rfl rfl ?_
    refine ev_icmp_geN (p2 := 156) rfl rfl (fun cnd112 => ?_) (fun cnd112 => ?_)
    · skip
      refine ev_iconst (x := nI 1) rfl rfl ?_
      refine ev_zret rfl ?_
      have e : u3 (r + 1) f b a = f := by
        unfold u3
        rw [if_neg (show ¬ b < a by omega)]
      rw [e] at hQ
      exact hQ mem hf hF
    · skip
      refine ev_aload rfl rfl ?_
      refine ev_getR (c := 12) (j := 32) rfl ?_ (hq := k_221 n)
      refine ev_iload rfl rfl ?_
      refine ev_ialdN rfl rfl ?_ (hq := k_243 n)
      rw [hF (b) (by omega)]
      refine ev_istore rfl rfl (Nat.le_of_ble_eq_true rfl) ?_
      refine ev_aload rfl rfl ?_
      refine ev_getR (c := 12) (j := 32) rfl ?_ (hq := k_221 n)
      refine ev_iload rfl rfl ?_
      refine ev_aload rfl rfl ?_
      refine ev_getR (c := 12) (j := 32) rfl ?_ (hq := k_221 n)
      refine ev_iload rfl rfl ?_
      refine ev_ialdN rfl rfl ?_ (hq := k_243 n)
      rw [hF (a) (by omega)]
      refine ev_iastS rfl (fun m3 hm3 => ?_) (hq := k_243 n)
      refine ev_aload rfl rfl ?_
      refine ev_getR (c := 12) (j := 32) rfl ?_ (hq := k_221 n)
      refine ev_iload rfl rfl ?_
      refine ev_iload rfl rfl ?_
      refine ev_iastS rfl (fun m4 hm4 => ?_) (hq := k_243 n)
      refine ev_iincD rfl rfl rfl ?_
      refine ev_iincN rfl rfl rfl ?_
      refine ev_goto (p2 := 108) rfl rfl ?_
      have e : u3 (r + 1) f b a = u3 r (swp f b a) (b + 1) (a - 1) := by
        conv => lhs; unfold u3
        rw [if_pos (show b < a by omega)]
      rw [e] at hQ
      exact ih m4 (swp f b a) (sw_fr hf hm3 hm4) (sw_mem hF (by omega) (by omega) hm3 hm4) (a - 1) (b + 1) (by omega) (by omega) (by omega) _ _ _ hQ
theorem c_goesUp {d n : Nat} {Q : am_P} {R : am_R} {f : Nat → Nat} {mem : am_M} (hR : mem 222 = R) (hw : wfR R) (hF : ∀ j, j < nn (R 8) → mem 243 j = nI (f j)) (hB : ∀ j, j < nn (R 8) → f j < 6) (h2 : 0 < u1 f (nn (R 8) - 1) → u1 f (nn (R 8) - 1) ≤ u2 f (f (u1 f (nn (R 8) - 1) - 1)) (nn (R 8) - 1)) (hQ0 : u1 f (nn (R 8) - 1) = 0 → Q (some (.int (nI 0))) (am_SK n) mem) (hQ : 0 < u1 f (nn (R 8) - 1) → ∀ m2 : am_M, (∀ q, q ≠ 243 → m2 q = mem q) → (∀ j, j < nn (R 8) → m2 243 j = nI (upf (nn (R 8)) f j)) → Q (some (.int (nI 1))) (am_SK n) m2) : am_ex (d + 1) 216 [.ref 221] (am_SK n) mem Q := by
  have hb := wb_all hw
  refine ex_in (c0 := kc_X12_goesUp) rfl (L := [some (.ref 221), none, none, none, none, none, none]) rfl ?_
  by_cases h8 : 2 ≤ nn (R 8)
  · obtain ⟨z, hz⟩ : ∃ z, nn (R 8) = z + 2 := ⟨nn (R 8) - 2, by omega⟩
    refine ev_aload rfl rfl ?_
    refine ev_getR (c := 12) (j := 0) rfl ?_ (hq := k_221 n)
    refine ev_iconst (x := nI 8) rfl rfl ?_
    refine ev_ialdN rfl rfl ?_ (hq := k_222 n)
    rw [show mem 222 (8) = nI (nn (R 8)) by rw [hR]; (repeat rw [upd_ne (by omega)]); exact wr8 hw]
    refine ev_istore rfl rfl (Nat.le_of_ble_eq_true rfl) ?_
    refine ev_iload rfl rfl ?_
    refine ev_iconst (x := nI 2) rfl rfl ?_
    refine ev_isubN rfl ?_
    refine ev_istore rfl rfl (Nat.le_of_ble_eq_true rfl) ?_
    have ez : nn (R 8) - 1 = nn (R 8) - 2 + 1 := by omega
    refine l_gu1 hw hF hB (nn (R 8) - 2) (by omega) (fun t ht => ?_) (fun h => hQ0 (by rw [ez]; exact h))
    rw [← ez] at ht
    have hl := u1_le (f := f) (nn (R 8) - 1)
    rw [ht] at h2 hQ hl
    have h2 := h2 (by omega)
    rw [Nat.add_sub_cancel] at h2
    have hl2 := u2_le (f := f) (x := f t) (nn (R 8) - 1)
    have hQ := hQ (by omega)
    refine ev_iload rfl rfl ?_
    refine ev_iconst (x := nI 1) rfl rfl ?_
    refine ev_isubN rfl ?_
    refine ev_istore rfl rfl (Nat.le_of_ble_eq_true rfl) ?_
    refine l_gu2 hw hF hB (by omega) (nn (R 8) - 1) (by omega) (by omega) ?_
    obtain ⟨jj, hjj⟩ : ∃ jj, u2 f (f t) (nn (R 8) - 1) = jj := ⟨_, rfl⟩
    have eu : upf (nn (R 8)) f = u3 3 (swp f t jj) (t + 1) (nn (R 8) - 1) := by
      unfold upf
      rw [ht, Nat.add_sub_cancel, hjj]
    rw [eu] at hQ
    rw [hjj] at h2 hl2 ⊢
    refine ev_aload rfl rfl ?_
    refine ev_getR (c := 12) (j := 32) rfl ?_ (hq := k_221 n)
    refine ev_iload rfl rfl ?_
    refine ev_ialdN rfl rfl ?_ (hq := k_243 n)
    rw [hF (t) (by omega)]
    refine ev_istore rfl rfl (Nat.le_of_ble_eq_true rfl) ?_
    refine ev_aload rfl rfl ?_
    refine ev_getR (c := 12) (j := 32) rfl ?_ (hq := k_221 n)
    refine ev_iload rfl rfl ?_
    refine ev_aload rfl rfl ?_
    refine ev_getR (c := 12) (j := 32) rfl ?_ (hq := k_221 n)
    refine ev_iload rfl rfl ?_
    refine ev_ialdN rfl rfl ?_ (hq := k_243 n)
    rw [hF (jj) (by omega)]
    refine ev_iastS rfl (fun m3 hm3 => ?_) (hq := k_243 n)
    refine ev_aload rfl rfl ?_
    refine ev_getR (c := 12) (j := 32) rfl ?_ (hq := k_221 n)
    refine ev_iload rfl rfl ?_
    refine ev_iload rfl rfl ?_
    refine ev_iastS rfl (fun m4 hm4 => ?_) (hq := k_243 n)
    refine ev_iload rfl rfl ?_
    refine ev_iconst (x := nI 1) rfl rfl ?_
    refine ev_isubN rfl ?_
    refine ev_istore rfl rfl (Nat.le_of_ble_eq_true rfl) ?_
    refine ev_iload rfl rfl ?_
    refine ev_iconst (x := nI 1) rfl rfl ?_
    refine ev_iaddN rfl ?_
    refine ev_istore rfl rfl (Nat.le_of_ble_eq_true rfl) ?_
    exact l_gu3 hw 3 m4 (swp f t jj) (sw_fr (fun _ _ => rfl) hm3 hm4) (sw_mem hF (by omega) (by omega) hm3 hm4) (nn (R 8) - 1) (t + 1) (by omega) (by omega) (by omega) _ _ _ hQ
  · have e0 : u1 f (nn (R 8) - 1) = 0 := by rw [show nn (R 8) - 1 = 0 by omega]; rfl
    have e8 : nn (R 8) = 0 ∨ nn (R 8) = 1 := by omega
    have ng : nI (nn (R 8)) - nI 2 < 0 := by rcases e8 with e | e <;> rw [e] <;> decide
    refine ev_aload rfl rfl ?_
    refine ev_getR (c := 12) (j := 0) rfl ?_ (hq := k_221 n)
    refine ev_iconst (x := nI 8) rfl rfl ?_
    refine ev_ialdN rfl rfl ?_ (hq := k_222 n)
    rw [show mem 222 (8) = nI (nn (R 8)) by rw [hR]; (repeat rw [upd_ne (by omega)]); exact wr8 hw]
    refine ev_istore rfl rfl (Nat.le_of_ble_eq_true rfl) ?_
    refine ev_iload rfl rfl ?_
    refine ev_iconst (x := nI 2) rfl rfl ?_
    refine ev_isub rfl ?_
    refine ev_istore rfl rfl (Nat.le_of_ble_eq_true rfl) ?_
    refine ev_iload rfl rfl ?_
    refine ev_if_lt (p2 := 39) rfl rfl (fun cnd13 => ?_) (fun cnd13 => ?_)
    · skip
      refine ev_iload rfl rfl ?_
      refine ev_if_ge (p2 := 45) rfl rfl (fun cnd40 => ?_) (fun cnd40 => ?_)
      · exact absurd ng (nlt_le cnd40)
      · skip
        refine ev_iconst (x := nI 0) rfl rfl ?_
        refine ev_zret rfl ?_
        exact hQ0 e0
    · exact absurd ng cnd13
