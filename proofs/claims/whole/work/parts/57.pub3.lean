/-! both sides: sheets -/
theorem Inv_sh_fr {xs : am_R} {mem m2 : am_M} (hI : Inv xs mem) (e : ∀ q, ¬ ((198 ≤ q ∧ q ≤ 205) ∨ (245 ≤ q ∧ q ≤ 247) ∨ q = 251) → m2 q = mem q) (h : I_sh m2) : Inv xs m2 := by
  obtain ⟨i1, ⟨i2, i2b⟩, i3, i4, i5, i6, i7, i8, i9⟩ := hI
  refine ⟨fun q hq => (e q (by omega)).trans (i1 q hq), ⟨?_, by rw [e 222 (by decide)]; exact i2b⟩, ?_, ?_, h, ?_, ?_, ?_, ?_⟩
  · rw [e 222 (by decide)]; exact cp_fr i2 (fun q hq => e q (by omega))
  · exact I_im_fr i3 (by rw [e 29 (by decide)]) (by rw [e 221 (by decide)]) (e 223 (by decide)) (by rw [e 222 (by decide)]; exact Nat.le_refl _) (fun q hq => e q (by omega))
  · exact I_tp_fr i4 (by rw [e 62 (by decide)]) (by rw [e 221 (by decide)]) (e 63 (by decide)) (e 226 (by decide))
  · exact I_sl_fr i6 (fun q hq => e q (by omega))
  · exact I_wt_fr i7 (by rw [e 29 (by decide)]) (by rw [e 221 (by decide)]) (e 195 (by decide)) (e 252 (by decide))
  · rw [e 227 (by decide), e 228 (by decide)]; exact i8
  · intro i hi; rw [e 222 (by decide), e 223 (by decide), e 224 (by decide)]; exact i9 i hi
theorem Inv_sl_fr {xs : am_R} {mem m2 : am_M} (hI : Inv xs mem) (e : ∀ q, ¬ ((206 ≤ q ∧ q ≤ 220) ∨ (248 ≤ q ∧ q ≤ 250)) → m2 q = mem q) (h : I_sl m2) : Inv xs m2 := by
  obtain ⟨i1, ⟨i2, i2b⟩, i3, i4, i5, i6, i7, i8, i9⟩ := hI
  refine ⟨fun q hq => (e q (by omega)).trans (i1 q hq), ⟨?_, by rw [e 222 (by decide)]; exact i2b⟩, ?_, ?_, ?_, h, ?_, ?_, ?_⟩
  · rw [e 222 (by decide)]; exact cp_fr i2 (fun q hq => e q (by omega))
  · exact I_im_fr i3 (by rw [e 29 (by decide)]) (by rw [e 221 (by decide)]) (e 223 (by decide)) (by rw [e 222 (by decide)]; exact Nat.le_refl _) (fun q hq => e q (by omega))
  · exact I_tp_fr i4 (by rw [e 62 (by decide)]) (by rw [e 221 (by decide)]) (e 63 (by decide)) (e 226 (by decide))
  · exact I_sh_fr i5 (fun q hq => e q (by omega))
  · exact I_wt_fr i7 (by rw [e 29 (by decide)]) (by rw [e 221 (by decide)]) (e 195 (by decide)) (e 252 (by decide))
  · rw [e 227 (by decide), e 228 (by decide)]; exact i8
  · intro i hi; rw [e 222 (by decide), e 223 (by decide), e 224 (by decide)]; exact i9 i hi
def O_sheet (s so m : Int32) : Int32 × Option (Int32 × Int32) := if P_sh s ∧ (-1 ≤ so ∧ so ≤ nI 1) then (if so = -1 then (nI 0, some (-1, nI 0)) else if nI 24 < m then (S_BAD, none) else if m < 0 then (S_SIZE, none) else (m, some (so, m))) else (S_BAD, none)
theorem so3 {so : Int32} (h : -1 ≤ so ∧ so ≤ nI 1) : so = -1 ∨ so = 0 ∨ so = 1 := by
  have t1 : (nI 1).toInt = 1 := rfl
  have t2 : (-1 : Int32).toInt = -1 := rfl
  have t3 : (0 : Int32).toInt = 0 := rfl
  have t4 : (1 : Int32).toInt = 1 := rfl
  obtain ⟨h1, h2⟩ := h
  rw [Int32.le_iff_toInt_le] at h1 h2
  rcases (show so.toInt = -1 ∨ so.toInt = 0 ∨ so.toInt = 1 by omega) with e | e | e
  · exact Or.inl (Int32.toInt_inj.mp (by omega))
  · exact Or.inr (Or.inl (Int32.toInt_inj.mp (by omega)))
  · exact Or.inr (Or.inr (Int32.toInt_inj.mp (by omega)))
theorem so_lt {so : Int32} (h : -1 ≤ so ∧ so ≤ nI 1) : so < 0 ↔ so = -1 := by
  rcases so3 h with rfl | rfl | rfl <;> decide
theorem l_X6_begin {d n : Nat} {mem0 : am_M} {Q : am_P} (c : Nat) (hc : c < 4) (x1 x2 : Option Value) (r : Nat) : ∀ (mem : am_M) (k : Nat) (hk : k + r = 24) (hf : ∀ q, q ≠ 199 + 2 * c → mem q = mem0 q) (hz : ∀ j, j < k → mem (199 + 2 * c) j = nI 0) (hQ : ∀ m2 : am_M, (∀ q, q ≠ 199 + 2 * c → m2 q = mem0 q) → (∀ j, j < 24 → m2 (199 + 2 * c) j = nI 0) → Q none (am_SK n) m2), am_ev kc_X6_begin d 12 [some (.ref (198 + 2 * c)), x1, x2, some (.int (nI k))] [] (am_SK n) mem Q := by
  induction r with
  | zero =>
    intro mem k hk hf hz hQ
    refine ev_iload rfl rfl ?_
    refine ev_iconst (x := nI 24) rfl rfl ?_
    refine ev_icmp_geN (p2 := 31) rfl rfl (fun cnd15 => ?_) (fun cnd15 => ?_)
    · skip
      refine ev_vret rfl ?_
      exact hQ mem hf (fun j hj => hz j (by omega))
    · omega
  | succ r ih =>
    intro mem k hk hf hz hQ
    refine ev_iload rfl rfl ?_
    refine ev_iconst (x := nI 24) rfl rfl ?_
    refine ev_icmp_geN (p2 := 31) rfl rfl (fun cnd15 => ?_) (fun cnd15 => ?_)
    · omega
    · skip
      refine ev_aload rfl rfl ?_
      refine ev_getR (c := 6) (j := 2) rfl ?_ (hq := ks_sheet n (by omega))
      refine ev_iload rfl rfl ?_
      refine ev_iconst (x := nI 0) rfl rfl ?_
      refine ev_iastS rfl (fun mem2 hm => ?_) (hq := ks_vals n hc)
      refine ev_iincN rfl rfl rfl ?_
      refine ev_goto (p2 := 12) rfl rfl ?_
      refine ih mem2 (k + 1) (by omega) (fun q hq => by rw [hm, am_up_ne hq]; exact hf q hq) (fun j hj => ?_) hQ
      rw [hm]
      by_cases e : j = k
      · rw [e, am_up_eq]
      · rw [am_up_nk e]; exact hz j (by omega)
theorem c_X6_begin {d n : Nat} {mem : am_M} {Q : am_P} (c : Nat) (hc : c < 4) (a b : Int32) (hQ : ∀ m2 : am_M, (∀ q, q ≠ 198 + 2 * c → q ≠ 199 + 2 * c → m2 q = mem q) → m2 (198 + 2 * c) 0 = a → m2 (198 + 2 * c) 1 = b → (∀ j, j < 24 → m2 (199 + 2 * c) j = nI 0) → Q none (am_SK n) m2) : am_ex (d + 1) 39 [.ref (198 + 2 * c), .int a, .int b] (am_SK n) mem Q := by
  refine ex_in (c0 := kc_X6_begin) rfl (L := [some (.ref (198 + 2 * c)), some (.int a), some (.int b), none]) rfl ?_
  refine ev_aload rfl rfl ?_
  refine ev_iload rfl rfl ?_
  refine ev_put (c := 6) (j := 0) rfl ?_ (hq := ks_sheet n (by omega))
  refine ev_aload rfl rfl ?_
  refine ev_iload rfl rfl ?_
  refine ev_put (c := 6) (j := 1) rfl ?_ (hq := ks_sheet n (by omega))
  refine ev_iconst (x := nI 0) rfl rfl ?_
  refine ev_istore rfl rfl (Nat.le_of_ble_eq_true rfl) ?_
  refine l_X6_begin c hc _ _ 24 _ 0 rfl (fun q _ => rfl) (fun j hj => absurd hj (Nat.not_lt_zero j)) (fun m2 f1 f2 => hQ m2 (fun q h1 h2 => ?_) ?_ ?_ f2)
  · rw [f1 q h2, am_up_ne h1, am_up_ne h1]
  · rw [f1 _ (by omega), am_up_nk (by decide), am_up_eq]
  · rw [f1 _ (by omega), am_up_eq]
theorem c_X11_sheet {d n : Nat} {mem : am_M} {Q : am_P} (s so m : Int32) (hQ1 : (O_sheet s so m).2 = none → Q (some (.int (O_sheet s so m).1)) (am_SK n) mem) (hQ : ∀ a b, (O_sheet s so m).2 = some (a, b) → ∀ m2 : am_M, (∀ q, q ≠ 198 + 2 * nn s → q ≠ 199 + 2 * nn s → m2 q = mem q) → m2 (198 + 2 * nn s) 0 = a → m2 (198 + 2 * nn s) 1 = b → (∀ j, j < 24 → m2 (199 + 2 * nn s) j = nI 0) → Q (some (.int (O_sheet s so m).1)) (am_SK n) m2) : am_ex (d + 2) 113 [.ref 29, .int s, .int so, .int m] (am_SK n) mem Q := by
  unfold O_sheet at hQ hQ1
  refine ex_in (c0 := kc_X11_sheet) rfl (L := [some (.ref 29), some (.int s), some (.int so), some (.int m)]) rfl ?_
  refine ev_iload rfl rfl ?_
  refine ev_call rfl rfl ?_
  refine c_X11_isSheet _ ?_
  change am_ev _ _ _ _ (_ :: _) _ _ _
  refine ev_if_eqB (p2 := 17) rfl rfl (fun cnd4 => ?_) (fun cnd4 => ?_)
  · skip
    refine ev_iconst (x := (-1000000001)) rfl rfl ?_
    refine ev_iret rfl ?_
    first
    | (rw [if_neg (fun z => cnd4 z.1)] at hQ1; exact hQ1 rfl)
    | (rw [if_neg (fun z => nlt_le z.2.1 cnd9)] at hQ1; exact hQ1 rfl)
    | (rw [if_neg (fun z => cnd14 z.2.2)] at hQ1; exact hQ1 rfl)
  · skip
    refine ev_iload rfl rfl ?_
    refine ev_iconst (x := (-1)) rfl rfl ?_
    refine ev_icmp_lt (p2 := 17) rfl rfl (fun cnd9 => ?_) (fun cnd9 => ?_)
    · skip
      refine ev_iconst (x := (-1000000001)) rfl rfl ?_
      refine ev_iret rfl ?_
      first
      | (rw [if_neg (fun z => cnd4 z.1)] at hQ1; exact hQ1 rfl)
      | (rw [if_neg (fun z => nlt_le z.2.1 cnd9)] at hQ1; exact hQ1 rfl)
      | (rw [if_neg (fun z => cnd14 z.2.2)] at hQ1; exact hQ1 rfl)
    · skip
      refine ev_iload rfl rfl ?_
      refine ev_iconst (x := nI 1) rfl rfl ?_
      refine ev_icmp_le (p2 := 20) rfl rfl (fun cnd14 => ?_) (fun cnd14 => ?_)
      · skip
        rw [if_pos (show P_sh s ∧ (-1 ≤ so ∧ so ≤ nI 1) from And.intro cnd4 (And.intro (le_nlt cnd9) cnd14))] at hQ hQ1
        obtain ⟨ep, hp⟩ := am_rng (by decide) cnd4
        generalize nn s = c at ep hp hQ hQ1
        subst ep
        refine ev_iload rfl rfl ?_
        refine ev_iconst (x := (-1)) rfl rfl ?_
        refine ev_icmp_ne (p2 := 38) rfl rfl (fun cnd22 => ?_) (fun cnd22 => ?_)
        · skip
          refine ev_iload rfl rfl ?_
          refine ev_iconst (x := nI 24) rfl rfl ?_
          refine ev_icmp_le (p2 := 47) rfl rfl (fun cnd41 => ?_) (fun cnd41 => ?_)
          · skip
            refine ev_iload rfl rfl ?_
            refine ev_if_ge (p2 := 55) rfl rfl (fun cnd48 => ?_) (fun cnd48 => ?_)
            · skip
              rw [if_neg cnd22, if_neg (nlt_le cnd41), if_neg (nlt_le cnd48)] at hQ
              refine ev_aload rfl rfl ?_
              refine ev_getR (c := 11) (j := 8) rfl ?_ (hq := k_29 n)
              refine ev_iload rfl rfl ?_
              refine ev_aldN rfl rfl ?_ (kr_sheet (by omega)) (hq := k_193 n)
              refine ev_iload rfl rfl ?_
              refine ev_iload rfl rfl ?_
              refine ev_callV rfl rfl rfl rfl (Nat.le_of_ble_eq_true rfl) (Nat.le_of_ble_eq_true rfl) ?_ (hq := ks_sheet n (by omega))
              refine c_X6_begin c (by omega) _ _ (fun m2 f1 f2 f3 f4 => ?_)
              change am_ev _ _ _ _ _ _ _ _
              refine ev_iload rfl rfl ?_
              refine ev_iret rfl ?_
              exact hQ _ _ rfl m2 f1 f2 f3 f4
            · skip
              refine ev_iconst (x := (-1000000014)) rfl rfl ?_
              refine ev_iret rfl ?_
              rw [if_neg cnd22, if_neg (nlt_le cnd41), if_pos (lt_nle cnd48)] at hQ1; exact hQ1 rfl
          · skip
            refine ev_iconst (x := (-1000000001)) rfl rfl ?_
            refine ev_iret rfl ?_
            rw [if_neg cnd22, if_pos (lt_nle cnd41)] at hQ1; exact hQ1 rfl
        · skip
          rw [if_pos cnd22] at hQ
          refine ev_aload rfl rfl ?_
          refine ev_getR (c := 11) (j := 8) rfl ?_ (hq := k_29 n)
          refine ev_iload rfl rfl ?_
          refine ev_aldN rfl rfl ?_ (kr_sheet (by omega)) (hq := k_193 n)
          refine ev_iconst (x := (-1)) rfl rfl ?_
          refine ev_iconst (x := nI 0) rfl rfl ?_
          refine ev_callV rfl rfl rfl rfl (Nat.le_of_ble_eq_true rfl) (Nat.le_of_ble_eq_true rfl) ?_ (hq := ks_sheet n (by omega))
          refine c_X6_begin c (by omega) _ _ (fun m2 f1 f2 f3 f4 => ?_)
          change am_ev _ _ _ _ _ _ _ _
          refine ev_iconst (x := nI 0) rfl rfl ?_
          refine ev_iret rfl ?_
          exact hQ _ _ rfl m2 f1 f2 f3 f4
      · skip
        refine ev_iconst (x := (-1000000001)) rfl rfl ?_
        refine ev_iret rfl ?_
        first
        | (rw [if_neg (fun z => cnd4 z.1)] at hQ1; exact hQ1 rfl)
        | (rw [if_neg (fun z => nlt_le z.2.1 cnd9)] at hQ1; exact hQ1 rfl)
        | (rw [if_neg (fun z => cnd14 z.2.2)] at hQ1; exact hQ1 rfl)
theorem l_X12_sheet {d n : Nat} {mem0 : am_M} {Q : am_P} (c : Nat) (hc : c < 4) (b : Int32) (x2 x3 : Option Value) (r : Nat) : ∀ (mem : am_M) (k : Nat) (hk : k + r = 24) (hf : ∀ q, q ≠ 247 → mem q = mem0 q) (hb : mem0 246 c = b) (hz : ∀ j, j < k → mem 247 (24 * c + j) = nI 0) (ho : ∀ i, ¬ (24 * c ≤ i ∧ i < 24 * c + 24) → mem 247 i = mem0 247 i) (hQ : ∀ m2 : am_M, (∀ q, q ≠ 247 → m2 q = mem0 q) → (∀ j, j < 24 → m2 247 (24 * c + j) = nI 0) → (∀ i, ¬ (24 * c ≤ i ∧ i < 24 * c + 24) → m2 247 i = mem0 247 i) → Q (some (.int b)) (am_SK n) m2), am_ev kc_X12_sheet d 66 [some (.ref 221), some (.int (nI c)), x2, x3, some (.int (nI k))] [] (am_SK n) mem Q := by
  induction r with
  | zero =>
    intro mem k hk hf hb hz ho hQ
    refine ev_iload rfl rfl ?_
    refine ev_iconst (x := nI 24) rfl rfl ?_
    refine ev_icmp_geN (p2 := 92) rfl rfl (fun cnd70 => ?_) (fun cnd70 => ?_)
    · skip
      refine ev_aload rfl rfl ?_
      refine ev_getR (c := 12) (j := 36) rfl ?_ (hq := k_221 n)
      refine ev_iload rfl rfl ?_
      refine ev_ialdN rfl rfl ?_ (hq := k_246 n)
      rw [show mem 246 c = b by rw [hf 246 (by decide)]; exact hb]
      refine ev_iret rfl ?_
      exact hQ mem hf (fun j hj => hz j (by omega)) ho
    · omega
  | succ r ih =>
    intro mem k hk hf hb hz ho hQ
    refine ev_iload rfl rfl ?_
    refine ev_iconst (x := nI 24) rfl rfl ?_
    refine ev_icmp_geN (p2 := 92) rfl rfl (fun cnd70 => ?_) (fun cnd70 => ?_)
    · omega
    · skip
      refine ev_aload rfl rfl ?_
      refine ev_getR (c := 12) (j := 37) rfl ?_ (hq := k_221 n)
      refine ev_iconst (x := nI 24) rfl rfl ?_
      refine ev_iload rfl rfl ?_
      refine ev_imulN rfl ?_
      refine ev_iload rfl rfl ?_
      refine ev_iaddN rfl ?_
      refine ev_iconst (x := nI 0) rfl rfl ?_
      refine ev_iastS rfl (fun mem2 hm => ?_) (hq := k_247 n)
      refine ev_iincN rfl rfl rfl ?_
      refine ev_goto (p2 := 66) rfl rfl ?_
      refine ih mem2 (k + 1) (by omega) (fun q hq => by rw [hm, am_up_ne hq]; exact hf q hq) hb (fun j hj => ?_) (fun i hi => ?_) hQ
      · rw [hm]
        by_cases e : j = k
        · rw [e, am_up_eq]
        · rw [am_up_nk (by omega)]; exact hz j (by omega)
      · rw [hm, am_up_nk (by omega)]; exact ho i hi
theorem c_X12_sheet {d n : Nat} {mem : am_M} {Q : am_P} (s so m : Int32) (hQ1 : (O_sheet s so m).2 = none → Q (some (.int (O_sheet s so m).1)) (am_SK n) mem) (hQ : ∀ a b, (O_sheet s so m).2 = some (a, b) → ∀ m2 : am_M, (∀ q, q ≠ 245 → q ≠ 246 → q ≠ 247 → m2 q = mem q) → m2 245 = upd (mem 245) (nn s) a → m2 246 = upd (mem 246) (nn s) b → (∀ j, j < 24 → m2 247 (24 * nn s + j) = nI 0) → (∀ i, ¬ (24 * nn s ≤ i ∧ i < 24 * nn s + 24) → m2 247 i = mem 247 i) → Q (some (.int (O_sheet s so m).1)) (am_SK n) m2) : am_ex (d + 3) 221 [.ref 221, .int s, .int so, .int m] (am_SK n) mem Q := by
  unfold O_sheet at hQ hQ1
  refine ex_in (c0 := kc_X12_sheet) rfl (L := [some (.ref 221), some (.int s), some (.int so), some (.int m), none]) rfl ?_
  refine ev_iload rfl rfl ?_
  refine ev_call rfl rfl ?_
  refine c_X12_isSheet _ ?_
  change am_ev _ _ _ _ (_ :: _) _ _ _
  refine ev_if_eqB (p2 := 26) rfl rfl (fun cnd4 => ?_) (fun cnd4 => ?_)
  · skip
    refine ev_iconst (x := (-1000000001)) rfl rfl ?_
    refine ev_iret rfl ?_
    first
    | (rw [if_neg (fun z => cnd4 z.1)] at hQ1; exact hQ1 rfl)
    | (rw [if_neg (fun z => cnd13 z.2)] at hQ1; exact hQ1 rfl)
    | (have hP := And.intro cnd4 cnd13
       rw [if_pos hP, if_neg (fun z => cnd17 ((so_lt cnd13).mpr z)), if_pos (lt_nle cnd23)] at hQ1; exact hQ1 rfl)
  · skip
    refine ev_iload rfl rfl ?_
    refine ev_iconst (x := (-1)) rfl rfl ?_
    refine ev_iconst (x := nI 1) rfl rfl ?_
    refine ev_call rfl rfl ?_
    refine c_X12_in _ _ _ ?_
    change am_ev _ _ _ _ (_ :: _) _ _ _
    refine ev_if_eqB (p2 := 26) rfl rfl (fun cnd13 => ?_) (fun cnd13 => ?_)
    · skip
      refine ev_iconst (x := (-1000000001)) rfl rfl ?_
      refine ev_iret rfl ?_
      first
      | (rw [if_neg (fun z => cnd4 z.1)] at hQ1; exact hQ1 rfl)
      | (rw [if_neg (fun z => cnd13 z.2)] at hQ1; exact hQ1 rfl)
      | (have hP := And.intro cnd4 cnd13
         rw [if_pos hP, if_neg (fun z => cnd17 ((so_lt cnd13).mpr z)), if_pos (lt_nle cnd23)] at hQ1; exact hQ1 rfl)
    · skip
      refine ev_iload rfl rfl ?_
      refine ev_if_lt (p2 := 29) rfl rfl (fun cnd17 => ?_) (fun cnd17 => ?_)
      · skip
        rw [if_pos (show P_sh s ∧ (-1 ≤ so ∧ so ≤ nI 1) from And.intro cnd4 cnd13)] at hQ hQ1
        obtain ⟨ep, hp⟩ := am_rng (by decide) cnd4
        generalize nn s = c at ep hp hQ hQ1
        subst ep
        refine ev_iload rfl rfl ?_
        refine ev_if_lt (p2 := 41) rfl rfl (fun cnd30 => ?_) (fun cnd30 => ?_)
        · skip
          refine ev_aload rfl rfl ?_
          refine ev_getR (c := 12) (j := 35) rfl ?_ (hq := k_221 n)
          refine ev_iload rfl rfl ?_
          refine ev_iload rfl rfl ?_
          refine ev_iastN rfl rfl ?_ (hq := k_245 n)
          refine ev_aload rfl rfl ?_
          refine ev_getR (c := 12) (j := 36) rfl ?_ (hq := k_221 n)
          refine ev_iload rfl rfl ?_
          refine ev_iload rfl rfl ?_
          refine ev_if_ge (p2 := 61) rfl rfl (fun cnd54 => ?_) (fun cnd54 => ?_)
          · skip
            refine ev_iload rfl rfl ?_
            refine ev_iastN rfl rfl ?_ (hq := k_246 n)
            refine ev_iconst (x := nI 0) rfl rfl ?_
            refine ev_istore rfl rfl (Nat.le_of_ble_eq_true rfl) ?_
            refine l_X12_sheet c (by omega) _ _ _ 24 _ 0 rfl (fun q _ => rfl) (am_up_eq) (fun j hj => absurd hj (Nat.not_lt_zero j)) (fun i _ => rfl) (fun m2 f1 f2 f3 => ?_)
            have f4 : m2 245 = upd (mem 245) c so := by rw [f1 245 (by decide), am_up_ne (by decide), am_up_row]
            have f6 : ∀ q, q ≠ 245 → q ≠ 246 → q ≠ 247 → m2 q = mem q := fun q h1 h2 h3 => by rw [f1 q h3, am_up_ne h2, am_up_ne h1]
            have f3' : ∀ i, ¬ (24 * c ≤ i ∧ i < 24 * c + 24) → m2 247 i = mem 247 i := fun i hi => by rw [f3 i hi, am_up_ne (by decide), am_up_ne (by decide)]
            first
            | (have e9 : so = -1 := (so_lt cnd13).mp (lt_nle cnd54)
               subst e9
               exact hQ _ _ rfl m2 f6 f4 (by rw [f1 246 (by decide), am_up_row, am_up_ne (by decide)]) f2 f3')
            | (rw [if_neg (fun z => absurd ((so_lt cnd13).mpr z) (nlt_le cnd54))] at hQ
               rw [if_neg (by first | exact nlt_le cnd23 | exact fun _ => absurd cnd17 (nlt_le cnd54)), if_neg (by first | exact nlt_le cnd34 | exact fun _ => absurd cnd30 (nlt_le cnd54))] at hQ
               exact hQ _ _ rfl m2 f6 f4 (by rw [f1 246 (by decide), am_up_row, am_up_ne (by decide)]) f2 f3')
          · skip
            refine ev_iconst (x := nI 0) rfl rfl ?_
            refine ev_goto (p2 := 62) rfl rfl ?_
            refine ev_iastN rfl rfl ?_ (hq := k_246 n)
            refine ev_iconst (x := nI 0) rfl rfl ?_
            refine ev_istore rfl rfl (Nat.le_of_ble_eq_true rfl) ?_
            refine l_X12_sheet c (by omega) _ _ _ 24 _ 0 rfl (fun q _ => rfl) (am_up_eq) (fun j hj => absurd hj (Nat.not_lt_zero j)) (fun i _ => rfl) (fun m2 f1 f2 f3 => ?_)
            have f4 : m2 245 = upd (mem 245) c so := by rw [f1 245 (by decide), am_up_ne (by decide), am_up_row]
            have f6 : ∀ q, q ≠ 245 → q ≠ 246 → q ≠ 247 → m2 q = mem q := fun q h1 h2 h3 => by rw [f1 q h3, am_up_ne h2, am_up_ne h1]
            have f3' : ∀ i, ¬ (24 * c ≤ i ∧ i < 24 * c + 24) → m2 247 i = mem 247 i := fun i hi => by rw [f3 i hi, am_up_ne (by decide), am_up_ne (by decide)]
            first
            | (have e9 : so = -1 := (so_lt cnd13).mp (lt_nle cnd54)
               subst e9
               exact hQ _ _ rfl m2 f6 f4 (by rw [f1 246 (by decide), am_up_row, am_up_ne (by decide)]) f2 f3')
            | (rw [if_neg (fun z => absurd ((so_lt cnd13).mpr z) (nlt_le cnd54))] at hQ
               rw [if_neg (by first | exact nlt_le cnd23 | exact fun _ => absurd cnd17 (nlt_le cnd54)), if_neg (by first | exact nlt_le cnd34 | exact fun _ => absurd cnd30 (nlt_le cnd54))] at hQ
               exact hQ _ _ rfl m2 f6 f4 (by rw [f1 246 (by decide), am_up_row, am_up_ne (by decide)]) f2 f3')
        · skip
          refine ev_iload rfl rfl ?_
          refine ev_if_ge (p2 := 41) rfl rfl (fun cnd34 => ?_) (fun cnd34 => ?_)
          · skip
            refine ev_aload rfl rfl ?_
            refine ev_getR (c := 12) (j := 35) rfl ?_ (hq := k_221 n)
            refine ev_iload rfl rfl ?_
            refine ev_iload rfl rfl ?_
            refine ev_iastN rfl rfl ?_ (hq := k_245 n)
            refine ev_aload rfl rfl ?_
            refine ev_getR (c := 12) (j := 36) rfl ?_ (hq := k_221 n)
            refine ev_iload rfl rfl ?_
            refine ev_iload rfl rfl ?_
            refine ev_if_ge (p2 := 61) rfl rfl (fun cnd54 => ?_) (fun cnd54 => ?_)
            · skip
              refine ev_iload rfl rfl ?_
              refine ev_iastN rfl rfl ?_ (hq := k_246 n)
              refine ev_iconst (x := nI 0) rfl rfl ?_
              refine ev_istore rfl rfl (Nat.le_of_ble_eq_true rfl) ?_
              refine l_X12_sheet c (by omega) _ _ _ 24 _ 0 rfl (fun q _ => rfl) (am_up_eq) (fun j hj => absurd hj (Nat.not_lt_zero j)) (fun i _ => rfl) (fun m2 f1 f2 f3 => ?_)
              have f4 : m2 245 = upd (mem 245) c so := by rw [f1 245 (by decide), am_up_ne (by decide), am_up_row]
              have f6 : ∀ q, q ≠ 245 → q ≠ 246 → q ≠ 247 → m2 q = mem q := fun q h1 h2 h3 => by rw [f1 q h3, am_up_ne h2, am_up_ne h1]
              have f3' : ∀ i, ¬ (24 * c ≤ i ∧ i < 24 * c + 24) → m2 247 i = mem 247 i := fun i hi => by rw [f3 i hi, am_up_ne (by decide), am_up_ne (by decide)]
              first
              | (have e9 : so = -1 := (so_lt cnd13).mp (lt_nle cnd54)
                 subst e9
                 exact hQ _ _ rfl m2 f6 f4 (by rw [f1 246 (by decide), am_up_row, am_up_ne (by decide)]) f2 f3')
              | (rw [if_neg (fun z => absurd ((so_lt cnd13).mpr z) (nlt_le cnd54))] at hQ
                 rw [if_neg (by first | exact nlt_le cnd23 | exact fun _ => absurd cnd17 (nlt_le cnd54)), if_neg (by first | exact nlt_le cnd34 | exact fun _ => absurd cnd30 (nlt_le cnd54))] at hQ
                 exact hQ _ _ rfl m2 f6 f4 (by rw [f1 246 (by decide), am_up_row, am_up_ne (by decide)]) f2 f3')
            · skip
              refine ev_iconst (x := nI 0) rfl rfl ?_
              refine ev_goto (p2 := 62) rfl rfl ?_
              refine ev_iastN rfl rfl ?_ (hq := k_246 n)
              refine ev_iconst (x := nI 0) rfl rfl ?_
              refine ev_istore rfl rfl (Nat.le_of_ble_eq_true rfl) ?_
              refine l_X12_sheet c (by omega) _ _ _ 24 _ 0 rfl (fun q _ => rfl) (am_up_eq) (fun j hj => absurd hj (Nat.not_lt_zero j)) (fun i _ => rfl) (fun m2 f1 f2 f3 => ?_)
              have f4 : m2 245 = upd (mem 245) c so := by rw [f1 245 (by decide), am_up_ne (by decide), am_up_row]
              have f6 : ∀ q, q ≠ 245 → q ≠ 246 → q ≠ 247 → m2 q = mem q := fun q h1 h2 h3 => by rw [f1 q h3, am_up_ne h2, am_up_ne h1]
              have f3' : ∀ i, ¬ (24 * c ≤ i ∧ i < 24 * c + 24) → m2 247 i = mem 247 i := fun i hi => by rw [f3 i hi, am_up_ne (by decide), am_up_ne (by decide)]
              first
              | (have e9 : so = -1 := (so_lt cnd13).mp (lt_nle cnd54)
                 subst e9
                 exact hQ _ _ rfl m2 f6 f4 (by rw [f1 246 (by decide), am_up_row, am_up_ne (by decide)]) f2 f3')
              | (rw [if_neg (fun z => absurd ((so_lt cnd13).mpr z) (nlt_le cnd54))] at hQ
                 rw [if_neg (by first | exact nlt_le cnd23 | exact fun _ => absurd cnd17 (nlt_le cnd54)), if_neg (by first | exact nlt_le cnd34 | exact fun _ => absurd cnd30 (nlt_le cnd54))] at hQ
                 exact hQ _ _ rfl m2 f6 f4 (by rw [f1 246 (by decide), am_up_row, am_up_ne (by decide)]) f2 f3')
          · skip
            refine ev_iconst (x := (-1000000014)) rfl rfl ?_
            refine ev_iret rfl ?_
            first
            | exact absurd cnd17 cnd30
            | (rw [if_neg (fun z => cnd30 ((so_lt cnd13).mpr z)), if_neg (nlt_le cnd23), if_pos (lt_nle cnd34)] at hQ1; exact hQ1 rfl)
      · skip
        refine ev_iload rfl rfl ?_
        refine ev_iconst (x := nI 24) rfl rfl ?_
        refine ev_icmp_le (p2 := 29) rfl rfl (fun cnd23 => ?_) (fun cnd23 => ?_)
        · skip
          rw [if_pos (show P_sh s ∧ (-1 ≤ so ∧ so ≤ nI 1) from And.intro cnd4 cnd13)] at hQ hQ1
          obtain ⟨ep, hp⟩ := am_rng (by decide) cnd4
          generalize nn s = c at ep hp hQ hQ1
          subst ep
          refine ev_iload rfl rfl ?_
          refine ev_if_lt (p2 := 41) rfl rfl (fun cnd30 => ?_) (fun cnd30 => ?_)
          · skip
            refine ev_aload rfl rfl ?_
            refine ev_getR (c := 12) (j := 35) rfl ?_ (hq := k_221 n)
            refine ev_iload rfl rfl ?_
            refine ev_iload rfl rfl ?_
            refine ev_iastN rfl rfl ?_ (hq := k_245 n)
            refine ev_aload rfl rfl ?_
            refine ev_getR (c := 12) (j := 36) rfl ?_ (hq := k_221 n)
            refine ev_iload rfl rfl ?_
            refine ev_iload rfl rfl ?_
            refine ev_if_ge (p2 := 61) rfl rfl (fun cnd54 => ?_) (fun cnd54 => ?_)
            · skip
              refine ev_iload rfl rfl ?_
              refine ev_iastN rfl rfl ?_ (hq := k_246 n)
              refine ev_iconst (x := nI 0) rfl rfl ?_
              refine ev_istore rfl rfl (Nat.le_of_ble_eq_true rfl) ?_
              refine l_X12_sheet c (by omega) _ _ _ 24 _ 0 rfl (fun q _ => rfl) (am_up_eq) (fun j hj => absurd hj (Nat.not_lt_zero j)) (fun i _ => rfl) (fun m2 f1 f2 f3 => ?_)
              have f4 : m2 245 = upd (mem 245) c so := by rw [f1 245 (by decide), am_up_ne (by decide), am_up_row]
              have f6 : ∀ q, q ≠ 245 → q ≠ 246 → q ≠ 247 → m2 q = mem q := fun q h1 h2 h3 => by rw [f1 q h3, am_up_ne h2, am_up_ne h1]
              have f3' : ∀ i, ¬ (24 * c ≤ i ∧ i < 24 * c + 24) → m2 247 i = mem 247 i := fun i hi => by rw [f3 i hi, am_up_ne (by decide), am_up_ne (by decide)]
              first
              | (have e9 : so = -1 := (so_lt cnd13).mp (lt_nle cnd54)
                 subst e9
                 exact hQ _ _ rfl m2 f6 f4 (by rw [f1 246 (by decide), am_up_row, am_up_ne (by decide)]) f2 f3')
              | (rw [if_neg (fun z => absurd ((so_lt cnd13).mpr z) (nlt_le cnd54))] at hQ
                 rw [if_neg (by first | exact nlt_le cnd23 | exact fun _ => absurd cnd17 (nlt_le cnd54)), if_neg (by first | exact nlt_le cnd34 | exact fun _ => absurd cnd30 (nlt_le cnd54))] at hQ
                 exact hQ _ _ rfl m2 f6 f4 (by rw [f1 246 (by decide), am_up_row, am_up_ne (by decide)]) f2 f3')
            · skip
              refine ev_iconst (x := nI 0) rfl rfl ?_
              refine ev_goto (p2 := 62) rfl rfl ?_
              refine ev_iastN rfl rfl ?_ (hq := k_246 n)
              refine ev_iconst (x := nI 0) rfl rfl ?_
              refine ev_istore rfl rfl (Nat.le_of_ble_eq_true rfl) ?_
              refine l_X12_sheet c (by omega) _ _ _ 24 _ 0 rfl (fun q _ => rfl) (am_up_eq) (fun j hj => absurd hj (Nat.not_lt_zero j)) (fun i _ => rfl) (fun m2 f1 f2 f3 => ?_)
              have f4 : m2 245 = upd (mem 245) c so := by rw [f1 245 (by decide), am_up_ne (by decide), am_up_row]
              have f6 : ∀ q, q ≠ 245 → q ≠ 246 → q ≠ 247 → m2 q = mem q := fun q h1 h2 h3 => by rw [f1 q h3, am_up_ne h2, am_up_ne h1]
              have f3' : ∀ i, ¬ (24 * c ≤ i ∧ i < 24 * c + 24) → m2 247 i = mem 247 i := fun i hi => by rw [f3 i hi, am_up_ne (by decide), am_up_ne (by decide)]
              first
              | (have e9 : so = -1 := (so_lt cnd13).mp (lt_nle cnd54)
                 subst e9
                 exact hQ _ _ rfl m2 f6 f4 (by rw [f1 246 (by decide), am_up_row, am_up_ne (by decide)]) f2 f3')
              | (rw [if_neg (fun z => absurd ((so_lt cnd13).mpr z) (nlt_le cnd54))] at hQ
                 rw [if_neg (by first | exact nlt_le cnd23 | exact fun _ => absurd cnd17 (nlt_le cnd54)), if_neg (by first | exact nlt_le cnd34 | exact fun _ => absurd cnd30 (nlt_le cnd54))] at hQ
                 exact hQ _ _ rfl m2 f6 f4 (by rw [f1 246 (by decide), am_up_row, am_up_ne (by decide)]) f2 f3')
          · skip
            refine ev_iload rfl rfl ?_
            refine ev_if_ge (p2 := 41) rfl rfl (fun cnd34 => ?_) (fun cnd34 => ?_)
            · skip
              refine ev_aload rfl rfl ?_
              refine ev_getR (c := 12) (j := 35) rfl ?_ (hq := k_221 n)
              refine ev_iload rfl rfl ?_
              refine ev_iload rfl rfl ?_
              refine ev_iastN rfl rfl ?_ (hq := k_245 n)
              refine ev_aload rfl rfl ?_
              refine ev_getR (c := 12) (j := 36) rfl ?_ (hq := k_221 n)
              refine ev_iload rfl rfl ?_
              refine ev_iload rfl rfl ?_
              refine ev_if_ge (p2 := 61) rfl rfl (fun cnd54 => ?_) (fun cnd54 => ?_)
              · skip
                refine ev_iload rfl rfl ?_
                refine ev_iastN rfl rfl ?_ (hq := k_246 n)
                refine ev_iconst (x := nI 0) rfl rfl ?_
                refine ev_istore rfl rfl (Nat.le_of_ble_eq_true rfl) ?_
                refine l_X12_sheet c (by omega) _ _ _ 24 _ 0 rfl (fun q _ => rfl) (am_up_eq) (fun j hj => absurd hj (Nat.not_lt_zero j)) (fun i _ => rfl) (fun m2 f1 f2 f3 => ?_)
                have f4 : m2 245 = upd (mem 245) c so := by rw [f1 245 (by decide), am_up_ne (by decide), am_up_row]
                have f6 : ∀ q, q ≠ 245 → q ≠ 246 → q ≠ 247 → m2 q = mem q := fun q h1 h2 h3 => by rw [f1 q h3, am_up_ne h2, am_up_ne h1]
                have f3' : ∀ i, ¬ (24 * c ≤ i ∧ i < 24 * c + 24) → m2 247 i = mem 247 i := fun i hi => by rw [f3 i hi, am_up_ne (by decide), am_up_ne (by decide)]
                first
                | (have e9 : so = -1 := (so_lt cnd13).mp (lt_nle cnd54)
                   subst e9
                   exact hQ _ _ rfl m2 f6 f4 (by rw [f1 246 (by decide), am_up_row, am_up_ne (by decide)]) f2 f3')
                | (rw [if_neg (fun z => absurd ((so_lt cnd13).mpr z) (nlt_le cnd54))] at hQ
                   rw [if_neg (by first | exact nlt_le cnd23 | exact fun _ => absurd cnd17 (nlt_le cnd54)), if_neg (by first | exact nlt_le cnd34 | exact fun _ => absurd cnd30 (nlt_le cnd54))] at hQ
                   exact hQ _ _ rfl m2 f6 f4 (by rw [f1 246 (by decide), am_up_row, am_up_ne (by decide)]) f2 f3')
              · skip
                refine ev_iconst (x := nI 0) rfl rfl ?_
                refine ev_goto (p2 := 62) rfl rfl ?_
                refine ev_iastN rfl rfl ?_ (hq := k_246 n)
                refine ev_iconst (x := nI 0) rfl rfl ?_
                refine ev_istore rfl rfl (Nat.le_of_ble_eq_true rfl) ?_
                refine l_X12_sheet c (by omega) _ _ _ 24 _ 0 rfl (fun q _ => rfl) (am_up_eq) (fun j hj => absurd hj (Nat.not_lt_zero j)) (fun i _ => rfl) (fun m2 f1 f2 f3 => ?_)
                have f4 : m2 245 = upd (mem 245) c so := by rw [f1 245 (by decide), am_up_ne (by decide), am_up_row]
                have f6 : ∀ q, q ≠ 245 → q ≠ 246 → q ≠ 247 → m2 q = mem q := fun q h1 h2 h3 => by rw [f1 q h3, am_up_ne h2, am_up_ne h1]
                have f3' : ∀ i, ¬ (24 * c ≤ i ∧ i < 24 * c + 24) → m2 247 i = mem 247 i := fun i hi => by rw [f3 i hi, am_up_ne (by decide), am_up_ne (by decide)]
                first
                | (have e9 : so = -1 := (so_lt cnd13).mp (lt_nle cnd54)
                   subst e9
                   exact hQ _ _ rfl m2 f6 f4 (by rw [f1 246 (by decide), am_up_row, am_up_ne (by decide)]) f2 f3')
                | (rw [if_neg (fun z => absurd ((so_lt cnd13).mpr z) (nlt_le cnd54))] at hQ
                   rw [if_neg (by first | exact nlt_le cnd23 | exact fun _ => absurd cnd17 (nlt_le cnd54)), if_neg (by first | exact nlt_le cnd34 | exact fun _ => absurd cnd30 (nlt_le cnd54))] at hQ
                   exact hQ _ _ rfl m2 f6 f4 (by rw [f1 246 (by decide), am_up_row, am_up_ne (by decide)]) f2 f3')
            · skip
              refine ev_iconst (x := (-1000000014)) rfl rfl ?_
              refine ev_iret rfl ?_
              first
              | exact absurd cnd17 cnd30
              | (rw [if_neg (fun z => cnd30 ((so_lt cnd13).mpr z)), if_neg (nlt_le cnd23), if_pos (lt_nle cnd34)] at hQ1; exact hQ1 rfl)
        · skip
          refine ev_iconst (x := (-1000000001)) rfl rfl ?_
          refine ev_iret rfl ?_
          first
          | (rw [if_neg (fun z => cnd4 z.1)] at hQ1; exact hQ1 rfl)
          | (rw [if_neg (fun z => cnd13 z.2)] at hQ1; exact hQ1 rfl)
          | (have hP := And.intro cnd4 cnd13
             rw [if_pos hP, if_neg (fun z => cnd17 ((so_lt cnd13).mpr z)), if_pos (lt_nle cnd23)] at hQ1; exact hQ1 rfl)
theorem pub_sheet {xs : am_R} {d n : Nat} {mem : am_M} {Q : am_P} (hI : Inv xs mem) (s : Int32) (so : Int32) (m : Int32) (hQ : ∀ (rv : Int32) (m1 : am_M), RefA xs (d + 200) n 221 [.ref 221, .int s, .int so, .int m] rv m1 → Q (some (.int rv)) (am_SK n) m1) : am_ex (d + 200) 113 [.ref 29, .int s, .int so, .int m] (am_SK n) mem Q := by
  have hsh := hI.2.2.2.2.1
  refine c_X11_sheet s so m (fun h0 => hQ _ _ (fun Q2 h2 => ?_)) (fun a b h0 m1 f1 f2 f3 f4 => hQ _ _ (fun Q2 h2 => ?_))
  · exact c_X12_sheet s so m (fun _ => h2 _ hI) (fun a b h => absurd (h0.symm.trans h) (by intro z; cases z))
  · refine c_X12_sheet s so m (fun h => absurd (h0.symm.trans h) (by intro z; cases z)) (fun a2 b2 h m2 g1 g2 g3 g4 g5 => h2 _ ?_)
    have hz := h0.symm.trans h
    obtain ⟨rfl, rfl⟩ : a = a2 ∧ b = b2 := by cases hz; exact ⟨rfl, rfl⟩
    have hs4 : nn s < 4 ∧ ((a = -1 ∨ a = 0 ∨ a = 1) ∧ isN b 25) := by
      unfold O_sheet at h0
      split at h0
      · rename_i hP
        have hn := am_rng (by decide) hP.1
        refine ⟨by omega, ?_⟩
        split at h0
        · cases h0; exact ⟨Or.inl rfl, isN0 (by decide)⟩
        · split at h0
          · cases h0
          · split at h0
            · cases h0
            · rename_i h24 h0m
              cases h0
              refine ⟨so3 hP.2, ?_⟩
              obtain ⟨e9, h9⟩ := am_rng (b := 24) (w := m) (by decide) ⟨le_nlt h0m, le_nlt h24⟩
              exact ⟨e9, by omega⟩
      · cases h0
    refine Inv_sh_fr hI (fun q hq => (g1 q (by omega) (by omega) (by omega)).trans (f1 q (by omega) (by omega))) (fun t ht => ?_)
    have e245 := f1 245 (by omega) (by omega)
    have e246 := f1 246 (by omega) (by omega)
    have e247 := f1 247 (by omega) (by omega)
    rw [g2, g3, e245, e246, g1 (198 + 2 * t) (by omega) (by omega) (by omega), g1 (199 + 2 * t) (by omega) (by omega) (by omega)]
    by_cases et : t = nn s
    · subst et
      rw [upd_eq, upd_eq, f2, f3]
      refine ⟨⟨rfl, hs4.2.1⟩, ⟨rfl, hs4.2.2⟩, fun k hk => ?_⟩
      rw [f4 k hk, g4 k hk]
    · rw [upd_ne et, upd_ne et, f1 (198 + 2 * t) (by omega) (by omega), f1 (199 + 2 * t) (by omega) (by omega)]
      refine ⟨(hsh t ht).1, (hsh t ht).2.1, fun k hk => ?_⟩
      rw [g5 _ (by omega), e247]
      exact (hsh t ht).2.2 k hk
