/-! both sides: what waits, slots -/
abbrev P_sh (p : Int32) : Prop := nI 0 ≤ p ∧ p ≤ nI 3
abbrev P_sl (p : Int32) : Prop := nI 0 ≤ p ∧ p ≤ nI 4
theorem pub_gen {xs : am_R} {d n kc kr : Nat} {mem : am_M} {Q : am_P} {ac ar : List Value} {v : Int32} (PP : am_M → Prop) (hc : ∀ Q1 : am_P, (∀ m1 : am_M, PP m1 → Q1 (some (.int v)) (am_SK n) m1) → am_ex d kc ac (am_SK n) mem Q1) (hr : ∀ m1 : am_M, PP m1 → RefA xs d n kr ar v m1) (hQ : ∀ (rv : Int32) (m1 : am_M), RefA xs d n kr ar rv m1 → Q (some (.int rv)) (am_SK n) m1) : am_ex d kc ac (am_SK n) mem Q := hc Q (fun m1 h => hQ v m1 (hr m1 h))
theorem div_n1 (x : Int32) : x - x / (-1) * (-1) = 0 := by
  have e : x / (-1) = -x := by
    apply Int32.toInt_inj.mp
    rw [Int32.toInt_div, show (-1 : Int32).toInt = -1 from rfl, Int.tdiv_neg, Int.tdiv_one, Int32.toInt_neg]
  rw [e, Int32.neg_mul_neg, Int32.mul_one, Int32.sub_self]
theorem c_X12_isSheet {d n : Nat} {mem : am_M} {Q : am_P} (p : Int32) (hQ : Q (some (.int (am_b (nI 0 ≤ p ∧ p ≤ nI 3)))) (am_SK n) mem) : am_ex (d + 2) 219 [.int p] (am_SK n) mem Q := by
  refine ex_in (c0 := kc_X12_isSheet) rfl (L := [some (.int p)]) rfl ?_
  refine ev_iload rfl rfl ?_
  refine ev_iconst (x := nI 0) rfl rfl ?_
  refine ev_iconst (x := nI 3) rfl rfl ?_
  refine ev_call rfl rfl ?_
  refine c_X12_in _ _ _ ?_
  change am_ev _ _ _ _ (_ :: _) _ _ _
  refine ev_zret rfl ?_
  exact hQ
theorem c_X12_isSlot {d n : Nat} {mem : am_M} {Q : am_P} (p : Int32) (hQ : Q (some (.int (am_b (nI 0 ≤ p ∧ p ≤ nI 4)))) (am_SK n) mem) : am_ex (d + 2) 220 [.int p] (am_SK n) mem Q := by
  refine ex_in (c0 := kc_X12_isSlot) rfl (L := [some (.int p)]) rfl ?_
  refine ev_iload rfl rfl ?_
  refine ev_iconst (x := nI 0) rfl rfl ?_
  refine ev_iconst (x := nI 4) rfl rfl ?_
  refine ev_call rfl rfl ?_
  refine c_X12_in _ _ _ ?_
  change am_ev _ _ _ _ (_ :: _) _ _ _
  refine ev_zret rfl ?_
  exact hQ
theorem c_X11_tell {d n : Nat} {mem : am_M} {Q : am_P} (w : Nat) (hw : w ≤ 60) (h : mem 29 11 = nI w) (v : Int32) (hQ1 : w = 60 → Q (some (.int S_FULL)) (am_SK n) mem) (hQ : w < 60 → Q (some (.int (nI (w + 1)))) (am_SK n) (am_up (am_up mem 195 w v) 29 11 (nI (w + 1)))) : am_ex (d + 1) 121 [.ref 29, .int v] (am_SK n) mem Q := by
  refine ex_in (c0 := kc_X11_tell) rfl (L := [some (.ref 29), some (.int v)]) rfl ?_
  refine ev_aload rfl rfl ?_
  refine ev_getI (c := 11) (j := 11) rfl ?_ (hq := k_29 n)
  rw [h]
  refine ev_iconst (x := nI 60) rfl rfl ?_
  refine ev_icmp_ltN (p2 := 12) rfl rfl (fun cnd6 => ?_) (fun cnd6 => ?_)
  · skip
    refine ev_aload rfl rfl ?_
    refine ev_getR (c := 11) (j := 10) rfl ?_ (hq := k_29 n)
    refine ev_aload rfl rfl ?_
    refine ev_getI (c := 11) (j := 11) rfl ?_ (hq := k_29 n)
    rw [h]
    refine ev_iload rfl rfl ?_
    refine ev_iastN rfl rfl ?_ (hq := k_195 n)
    refine ev_aload rfl rfl ?_
    first | refine ev_dupR rfl ?_ | refine ev_dupI rfl ?_
    refine ev_getI (c := 11) (j := 11) rfl ?_ (hq := k_29 n)
    rw [am_up_ne (show (29 : Nat) ≠ 195 by decide), h]
    refine ev_iconst (x := nI 1) rfl rfl ?_
    refine ev_iaddN rfl ?_
    refine ev_put (c := 11) (j := 11) rfl ?_ (hq := k_29 n)
    refine ev_aload rfl rfl ?_
    refine ev_getI (c := 11) (j := 11) rfl ?_ (hq := k_29 n)
    rw [am_up_eq]
    refine ev_iret rfl ?_
    exact hQ (by omega)
  · skip
    refine ev_iconst (x := (-1000000003)) rfl rfl ?_
    refine ev_iret rfl ?_
    exact hQ1 (by omega)
theorem c_X12_tell {d n : Nat} {mem : am_M} {Q : am_P} (w : Nat) (hw : w ≤ 60) (h : mem 221 43 = nI w) (v : Int32) (hQ1 : w = 60 → Q (some (.int S_FULL)) (am_SK n) mem) (hQ : w < 60 → Q (some (.int (nI (w + 1)))) (am_SK n) (am_up (am_up mem 252 w v) 221 43 (nI (w + 1)))) : am_ex (d + 1) 229 [.ref 221, .int v] (am_SK n) mem Q := by
  refine ex_in (c0 := kc_X12_tell) rfl (L := [some (.ref 221), some (.int v)]) rfl ?_
  refine ev_aload rfl rfl ?_
  refine ev_getI (c := 12) (j := 43) rfl ?_ (hq := k_221 n)
  rw [h]
  refine ev_iconst (x := nI 60) rfl rfl ?_
  refine ev_icmp_neN (p2 := 12) rfl rfl (fun cnd6 => ?_) (fun cnd6 => ?_)
  · skip
    refine ev_aload rfl rfl ?_
    refine ev_getR (c := 12) (j := 42) rfl ?_ (hq := k_221 n)
    refine ev_aload rfl rfl ?_
    refine ev_getI (c := 12) (j := 43) rfl ?_ (hq := k_221 n)
    rw [h]
    refine ev_iload rfl rfl ?_
    refine ev_iastN rfl rfl ?_ (hq := k_252 n)
    refine ev_aload rfl rfl ?_
    first | refine ev_dupR rfl ?_ | refine ev_dupI rfl ?_
    refine ev_getI (c := 12) (j := 43) rfl ?_ (hq := k_221 n)
    rw [am_up_ne (show (221 : Nat) ≠ 252 by decide), h]
    refine ev_iconst (x := nI 1) rfl rfl ?_
    refine ev_iaddN rfl ?_
    refine ev_put (c := 12) (j := 43) rfl ?_ (hq := k_221 n)
    refine ev_aload rfl rfl ?_
    refine ev_getI (c := 12) (j := 43) rfl ?_ (hq := k_221 n)
    rw [am_up_eq]
    refine ev_iret rfl ?_
    exact hQ (by omega)
  · skip
    refine ev_iconst (x := (-1000000003)) rfl rfl ?_
    refine ev_iret rfl ?_
    exact hQ1 (by omega)
theorem Inv_wt {xs : am_R} {mem m2 : am_M} {w : Nat} {v : Int32} (hI : Inv xs mem) (hw : w < 60) (e1 : mem 29 11 = nI w) (e2 : mem 221 43 = nI w) (hk : ∀ k, k < w → mem 195 k = mem 252 k) (h : m2 = am_up (am_up (am_up (am_up mem 195 w v) 29 11 (nI (w + 1))) 252 w v) 221 43 (nI (w + 1))) : Inv xs m2 := by
  have e : ∀ q, ¬ (q = 195 ∨ q = 29 ∨ q = 252 ∨ q = 221) → m2 q = mem q := by
    intro q hq
    rw [h, am_up_ne (by omega), am_up_ne (by omega), am_up_ne (by omega), am_up_ne (by omega)]
  have e29 : ∀ k, k ≠ 11 → m2 29 k = mem 29 k := by
    intro k hk
    rw [h, am_up_ne (by decide), am_up_ne (by decide), am_up_nk hk, am_up_ne (by decide)]
  have e221 : ∀ k, k ≠ 43 → m2 221 k = mem 221 k := by
    intro k hk
    rw [h, am_up_nk hk, am_up_ne (by decide), am_up_ne (by decide), am_up_ne (by decide)]
  obtain ⟨i1, ⟨i2, i2b⟩, i3, i4, i5, i6, i7, i8, i9⟩ := hI
  refine ⟨fun q hq => (e q (by omega)).trans (i1 q hq), ⟨?_, by rw [e 222 (by decide)]; exact i2b⟩, ?_, ?_, ?_, ?_, ?_, ?_, ?_⟩
  · rw [e 222 (by decide)]; exact cp_fr i2 (fun q hq => e q (by omega))
  · exact I_im_fr i3 (e29 5 (by decide)) (e221 3 (by decide)) (e 223 (by decide)) (by rw [e 222 (by decide)]; exact Nat.le_refl _) (fun q hq => e q (by omega))
  · exact I_tp_fr i4 (by rw [e 62 (by decide)]) (e221 6 (by decide)) (e 63 (by decide)) (e 226 (by decide))
  · exact I_sh_fr i5 (fun q hq => e q (by omega))
  · exact I_sl_fr i6 (fun q hq => e q (by omega))
  · refine ⟨w + 1, by omega, ?_, ?_, fun k hk2 => ?_⟩
    · rw [h, am_up_ne (by decide), am_up_ne (by decide), am_up_eq]
    · rw [h, am_up_eq]
    · have hL : m2 195 k = am_up mem 195 w v 195 k := by rw [h, am_up_ne (by decide), am_up_ne (by decide), am_up_ne (by decide)]
      have hR : m2 252 k = am_up (am_up (am_up mem 195 w v) 29 11 (nI (w + 1))) 252 w v 252 k := by rw [h, am_up_ne (by decide)]
      rw [hL, hR]
      by_cases ek : k = w
      · rw [ek, am_up_eq, am_up_eq]
      · rw [am_up_nk ek, am_up_nk ek, am_up_ne (by decide), am_up_ne (by decide)]
        exact hk k (by omega)
  · rw [e 227 (by decide), e 228 (by decide)]; exact i8
  · intro i hi; rw [e 222 (by decide), e 223 (by decide), e 224 (by decide)]; exact i9 i hi
theorem pub_tell {xs : am_R} {d n : Nat} {mem : am_M} {Q : am_P} (hI : Inv xs mem) (v : Int32) (hQ : ∀ (rv : Int32) (m1 : am_M), RefA xs (d + 200) n 229 [.ref 221, .int v] rv m1 → Q (some (.int rv)) (am_SK n) m1) : am_ex (d + 200) 121 [.ref 29, .int v] (am_SK n) mem Q := by
  obtain ⟨w, hw, e1, e2, hk⟩ := hI.2.2.2.2.2.2.1
  refine c_X11_tell w hw e1 v (fun h => hQ _ _ (fun Q2 h2 => ?_)) (fun h => hQ _ _ (fun Q2 h2 => ?_))
  · exact c_X12_tell w hw e2 v (fun _ => h2 _ hI) (fun z => absurd z (by omega))
  · refine c_X12_tell w hw (by rw [am_up_ne (by decide), am_up_ne (by decide)]; exact e2) v (fun z => absurd z (by omega)) (fun _ => h2 _ ?_)
    exact Inv_wt hI h e1 e2 hk rfl
def X_ask (H A : am_R) (sl k : Int32) : Int32 := if P_sl sl ∧ P_kd k then (if H (nn sl) = 0 then S_NOTH else if H (nn sl) = nI 1 ∧ (k = 0 ∨ A (nn sl) = k ∨ (k = nI 1 ∧ A (nn sl) = nI 3) ∨ (k = nI 2 ∧ A (nn sl) = nI 4)) then S_wear (A (nn sl)) else S_KIND) else S_BAD
def X_item (H A B : am_R) (sl p : Int32) : Int32 := if P_sl sl then (if H (nn sl) = 0 then S_NOTH else if H (nn sl) = nI 2 then (if nI 0 ≤ p ∧ p ≤ A (nn sl) - 1 then (if B (24 * nn sl + nn p) = S_NONE then S_KIND else B (24 * nn sl + nn p)) else S_INDEX) else S_KIND) else S_BAD
def X_rest (H A : am_R) (sl m : Int32) : Int32 := if P_sl sl then (if H (nn sl) = 0 then S_NOTH else if H (nn sl) = nI 3 then (if m = 0 then S_NO else A (nn sl) - A (nn sl) / m * m) else S_KIND) else S_BAD
theorem c_X12_ask {d n : Nat} {mem : am_M} {Q : am_P} {H A B : am_R} (hH : mem 248 = H) (hA : mem 249 = A) (hB : mem 250 = B) (sl k : Int32) (hQ : Q (some (.int (X_ask H A sl k))) (am_SK n) mem) : am_ex (d + 3) 226 [.ref 221, .int sl, .int k] (am_SK n) mem Q := by
  unfold X_ask at hQ
  refine ex_in (c0 := kc_X12_ask) rfl (L := [some (.ref 221), some (.int sl), some (.int k)]) rfl ?_
  refine ev_iload rfl rfl ?_
  refine ev_call rfl rfl ?_
  refine c_X12_isSlot _ ?_
  change am_ev _ _ _ _ (_ :: _) _ _ _
  refine ev_if_eqB (p2 := 16) rfl rfl (fun cnd4 => ?_) (fun cnd4 => ?_)
  · skip
    refine ev_iconst (x := (-1000000001)) rfl rfl ?_
    refine ev_iret rfl ?_
    first
    | (rw [if_neg (fun z => cnd4 z.1)] at hQ; exact hQ)
    | (rw [if_neg (fun z => cnd13 z.2)] at hQ; exact hQ)
  · skip
    refine ev_iload rfl rfl ?_
    refine ev_iconst (x := nI 0) rfl rfl ?_
    refine ev_iconst (x := nI 5) rfl rfl ?_
    refine ev_call rfl rfl ?_
    refine c_X12_in _ _ _ ?_
    change am_ev _ _ _ _ (_ :: _) _ _ _
    refine ev_if_neB (p2 := 19) rfl rfl (fun cnd13 => ?_) (fun cnd13 => ?_)
    · skip
      rw [if_pos (And.intro cnd4 cnd13)] at hQ
      obtain ⟨ep, hp⟩ := am_rng (by decide) cnd4
      generalize nn sl = c at ep hp hQ
      subst ep
      refine ev_aload rfl rfl ?_
      refine ev_getR (c := 12) (j := 38) rfl ?_ (hq := k_221 n)
      refine ev_iload rfl rfl ?_
      refine ev_ialdN rfl rfl ?_ (hq := k_248 n)
      rw [show mem 248 c = H c from congrFun hH _]
      refine ev_if_ne (p2 := 32) rfl rfl (fun cnd25 => ?_) (fun cnd25 => ?_)
      · skip
        refine ev_aload rfl rfl ?_
        refine ev_getR (c := 12) (j := 38) rfl ?_ (hq := k_221 n)
        refine ev_iload rfl rfl ?_
        refine ev_ialdN rfl rfl ?_ (hq := k_248 n)
        rw [show mem 248 c = H c from congrFun hH _]
        refine ev_iconst (x := nI 1) rfl rfl ?_
        refine ev_icmp_ne (p2 := 67) rfl rfl (fun cnd39 => ?_) (fun cnd39 => ?_)
        · skip
          refine ev_iconst (x := (-1000000012)) rfl rfl ?_
          refine ev_iret rfl ?_
          rw [if_neg cnd25] at hQ
          first
          | (rw [if_pos (And.intro cnd39 cnd52)] at hQ; exact hQ)
          | (rw [if_neg (fun z => cnd39 z.1)] at hQ; exact hQ)
          | (rw [if_neg (fun z => cnd52 z.2)] at hQ; exact hQ)
        · skip
          refine ev_aload rfl rfl ?_
          refine ev_getR (c := 12) (j := 39) rfl ?_ (hq := k_221 n)
          refine ev_iload rfl rfl ?_
          refine ev_ialdN rfl rfl ?_ (hq := k_249 n)
          rw [show mem 249 c = A c from congrFun hA _]
          refine ev_iload rfl rfl ?_
          refine ev_call rfl rfl ?_
          refine c_X12_isUnder _ _ ?_
          change am_ev _ _ _ _ (_ :: _) _ _ _
          refine ev_if_eqB (p2 := 67) rfl rfl (fun cnd52 => ?_) (fun cnd52 => ?_)
          · skip
            refine ev_iconst (x := (-1000000012)) rfl rfl ?_
            refine ev_iret rfl ?_
            rw [if_neg cnd25] at hQ
            first
            | (rw [if_pos (And.intro cnd39 cnd52)] at hQ; exact hQ)
            | (rw [if_neg (fun z => cnd39 z.1)] at hQ; exact hQ)
            | (rw [if_neg (fun z => cnd52 z.2)] at hQ; exact hQ)
          · skip
            refine ev_aload rfl rfl ?_
            refine ev_getR (c := 12) (j := 39) rfl ?_ (hq := k_221 n)
            refine ev_iload rfl rfl ?_
            refine ev_ialdN rfl rfl ?_ (hq := k_249 n)
            rw [show mem 249 c = A c from congrFun hA _]
            refine ev_call rfl rfl ?_
            refine c_X12_wearBy _ ?_
            change am_ev _ _ _ _ (_ :: _) _ _ _
            refine ev_goto (p2 := 69) rfl rfl ?_
            refine ev_iret rfl ?_
            rw [if_neg cnd25] at hQ
            first
            | (rw [if_pos (And.intro cnd39 cnd52)] at hQ; exact hQ)
            | (rw [if_neg (fun z => cnd39 z.1)] at hQ; exact hQ)
            | (rw [if_neg (fun z => cnd52 z.2)] at hQ; exact hQ)
      · skip
        refine ev_iconst (x := (-1000000011)) rfl rfl ?_
        refine ev_iret rfl ?_
        rw [if_pos cnd25] at hQ
        exact hQ
    · skip
      refine ev_iconst (x := (-1000000001)) rfl rfl ?_
      refine ev_iret rfl ?_
      first
      | (rw [if_neg (fun z => cnd4 z.1)] at hQ; exact hQ)
      | (rw [if_neg (fun z => cnd13 z.2)] at hQ; exact hQ)
theorem c_X12_item {d n : Nat} {mem : am_M} {Q : am_P} {H A B : am_R} (hH : mem 248 = H) (hA : mem 249 = A) (hB : mem 250 = B) (sl p : Int32) (hA2 : ∀ c, H c = nI 2 → c < 5 → isN (A c) 25) (hQ : Q (some (.int (X_item H A B sl p))) (am_SK n) mem) : am_ex (d + 3) 227 [.ref 221, .int sl, .int p] (am_SK n) mem Q := by
  unfold X_item at hQ
  refine ex_in (c0 := kc_X12_item) rfl (L := [some (.ref 221), some (.int sl), some (.int p), none]) rfl ?_
  refine ev_iload rfl rfl ?_
  refine ev_call rfl rfl ?_
  refine c_X12_isSlot _ ?_
  change am_ev _ _ _ _ (_ :: _) _ _ _
  refine ev_if_neB (p2 := 10) rfl rfl (fun cnd4 => ?_) (fun cnd4 => ?_)
  · skip
    rw [if_pos cnd4] at hQ
    obtain ⟨ep, hp⟩ := am_rng (by decide) cnd4
    generalize nn sl = c at ep hp hQ
    subst ep
    refine ev_aload rfl rfl ?_
    refine ev_getR (c := 12) (j := 38) rfl ?_ (hq := k_221 n)
    refine ev_iload rfl rfl ?_
    refine ev_ialdN rfl rfl ?_ (hq := k_248 n)
    rw [show mem 248 c = H c from congrFun hH _]
    refine ev_if_ne (p2 := 23) rfl rfl (fun cnd16 => ?_) (fun cnd16 => ?_)
    · skip
      refine ev_aload rfl rfl ?_
      refine ev_getR (c := 12) (j := 38) rfl ?_ (hq := k_221 n)
      refine ev_iload rfl rfl ?_
      refine ev_ialdN rfl rfl ?_ (hq := k_248 n)
      rw [show mem 248 c = H c from congrFun hH _]
      refine ev_iconst (x := nI 2) rfl rfl ?_
      refine ev_icmp_eq (p2 := 36) rfl rfl (fun cnd30 => ?_) (fun cnd30 => ?_)
      · skip
        refine ev_iload rfl rfl ?_
        refine ev_iconst (x := nI 0) rfl rfl ?_
        refine ev_aload rfl rfl ?_
        refine ev_getR (c := 12) (j := 39) rfl ?_ (hq := k_221 n)
        refine ev_iload rfl rfl ?_
        refine ev_ialdN rfl rfl ?_ (hq := k_249 n)
        rw [show mem 249 c = A c from congrFun hA _]
        refine ev_iconst (x := nI 1) rfl rfl ?_
        refine ev_isub rfl ?_
        refine ev_call rfl rfl ?_
        refine c_X12_in _ _ _ ?_
        change am_ev _ _ _ _ (_ :: _) _ _ _
        refine ev_if_neB (p2 := 56) rfl rfl (fun cnd49 => ?_) (fun cnd49 => ?_)
        · skip
          replace cnd49 : nI 0 ≤ p ∧ p ≤ A c - 1 := cnd49
          rw [if_neg cnd16, if_pos cnd30, if_pos cnd49] at hQ
          have hAc := hA2 c cnd30 (by omega)
          obtain ⟨eq9, hq9⟩ := am_idx hAc.1 (by have := hAc.2; omega) cnd49
          have hq8 := hAc.2
          clear cnd49
          generalize nn p = q at eq9 hq9 hQ
          subst eq9
          refine ev_aload rfl rfl ?_
          refine ev_getR (c := 12) (j := 40) rfl ?_ (hq := k_221 n)
          refine ev_iconst (x := nI 24) rfl rfl ?_
          refine ev_iload rfl rfl ?_
          refine ev_imulN rfl ?_
          refine ev_iload rfl rfl ?_
          refine ev_iaddN rfl ?_
          refine ev_ialdN rfl rfl ?_ (hq := k_250 n)
          rw [show mem 250 (24 * c + q) = B (24 * c + q) from congrFun hB _]
          refine ev_istore rfl rfl (Nat.le_of_ble_eq_true rfl) ?_
          refine ev_iload rfl rfl ?_
          refine ev_iconst (x := (-1000000005)) rfl rfl ?_
          refine ev_icmp_ne (p2 := 80) rfl rfl (fun cnd72 => ?_) (fun cnd72 => ?_)
          · skip
            refine ev_iload rfl rfl ?_
            refine ev_iret rfl ?_
            first
            | (rw [if_pos (show B (24 * c + q) = S_NONE from cnd72)] at hQ; exact hQ)
            | (rw [if_neg (show ¬ B (24 * c + q) = S_NONE from cnd72)] at hQ; exact hQ)
          · skip
            refine ev_iconst (x := (-1000000012)) rfl rfl ?_
            refine ev_goto (p2 := 81) rfl rfl ?_
            refine ev_iret rfl ?_
            first
            | (rw [if_pos (show B (24 * c + q) = S_NONE from cnd72)] at hQ; exact hQ)
            | (rw [if_neg (show ¬ B (24 * c + q) = S_NONE from cnd72)] at hQ; exact hQ)
        · skip
          refine ev_iconst (x := (-1000000013)) rfl rfl ?_
          refine ev_iret rfl ?_
          rw [if_neg cnd16] at hQ
          rw [if_pos cnd30] at hQ
          rw [if_neg (show ¬ (nI 0 ≤ p ∧ p ≤ A c - 1) from cnd49)] at hQ
          exact hQ
      · skip
        refine ev_iconst (x := (-1000000012)) rfl rfl ?_
        refine ev_iret rfl ?_
        rw [if_neg cnd16] at hQ
        rw [if_neg cnd30] at hQ
        exact hQ
    · skip
      refine ev_iconst (x := (-1000000011)) rfl rfl ?_
      refine ev_iret rfl ?_
      rw [if_pos cnd16] at hQ
      exact hQ
  · skip
    refine ev_iconst (x := (-1000000001)) rfl rfl ?_
    refine ev_iret rfl ?_
    rw [if_neg cnd4] at hQ
    exact hQ
theorem c_X12_rest {d n : Nat} {mem : am_M} {Q : am_P} {H A B : am_R} (hH : mem 248 = H) (hA : mem 249 = A) (hB : mem 250 = B) (sl m : Int32) (hQ : Q (some (.int (X_rest H A sl m))) (am_SK n) mem) : am_ex (d + 3) 228 [.ref 221, .int sl, .int m] (am_SK n) mem Q := by
  unfold X_rest at hQ
  refine ex_in (c0 := kc_X12_rest) rfl (L := [some (.ref 221), some (.int sl), some (.int m)]) rfl ?_
  refine ev_iload rfl rfl ?_
  refine ev_call rfl rfl ?_
  refine c_X12_isSlot _ ?_
  change am_ev _ _ _ _ (_ :: _) _ _ _
  refine ev_if_neB (p2 := 10) rfl rfl (fun cnd4 => ?_) (fun cnd4 => ?_)
  · skip
    rw [if_pos cnd4] at hQ
    obtain ⟨ep, hp⟩ := am_rng (by decide) cnd4
    generalize nn sl = c at ep hp hQ
    subst ep
    refine ev_aload rfl rfl ?_
    refine ev_getR (c := 12) (j := 38) rfl ?_ (hq := k_221 n)
    refine ev_iload rfl rfl ?_
    refine ev_ialdN rfl rfl ?_ (hq := k_248 n)
    rw [show mem 248 c = H c from congrFun hH _]
    refine ev_if_ne (p2 := 23) rfl rfl (fun cnd16 => ?_) (fun cnd16 => ?_)
    · skip
      refine ev_aload rfl rfl ?_
      refine ev_getR (c := 12) (j := 38) rfl ?_ (hq := k_221 n)
      refine ev_iload rfl rfl ?_
      refine ev_ialdN rfl rfl ?_ (hq := k_248 n)
      rw [show mem 248 c = H c from congrFun hH _]
      refine ev_iconst (x := nI 3) rfl rfl ?_
      refine ev_icmp_eq (p2 := 36) rfl rfl (fun cnd30 => ?_) (fun cnd30 => ?_)
      · skip
        refine ev_iload rfl rfl ?_
        refine ev_if_ne (p2 := 46) rfl rfl (fun cnd37 => ?_) (fun cnd37 => ?_)
        · skip
          refine ev_iload rfl rfl ?_
          refine ev_iconst (x := (-1)) rfl rfl ?_
          refine ev_icmp_ne (p2 := 55) rfl rfl (fun cnd48 => ?_) (fun cnd48 => ?_)
          · skip
            refine ev_aload rfl rfl ?_
            refine ev_getR (c := 12) (j := 39) rfl ?_ (hq := k_221 n)
            refine ev_iload rfl rfl ?_
            refine ev_ialdN rfl rfl ?_ (hq := k_249 n)
            rw [show mem 249 c = A c from congrFun hA _]
            refine ev_iload rfl rfl ?_
            refine ev_irem rfl ?_
            refine ev_iret rfl ?_
            rw [if_neg cnd16] at hQ
            rw [if_pos cnd30] at hQ
            first
            | (rw [if_pos cnd37] at hQ; exact hQ)
            | (rw [if_neg cnd37, cnd48, div_n1] at hQ; exact hQ)
            | (rw [if_neg cnd37] at hQ; exact hQ)
          · skip
            refine ev_iconst (x := nI 0) rfl rfl ?_
            refine ev_goto (p2 := 63) rfl rfl ?_
            refine ev_iret rfl ?_
            rw [if_neg cnd16] at hQ
            rw [if_pos cnd30] at hQ
            first
            | (rw [if_pos cnd37] at hQ; exact hQ)
            | (rw [if_neg cnd37, cnd48, div_n1] at hQ; exact hQ)
            | (rw [if_neg cnd37] at hQ; exact hQ)
        · skip
          refine ev_iconst (x := (-1000000002)) rfl rfl ?_
          refine ev_goto (p2 := 63) rfl rfl ?_
          refine ev_iret rfl ?_
          rw [if_neg cnd16] at hQ
          rw [if_pos cnd30] at hQ
          first
          | (rw [if_pos cnd37] at hQ; exact hQ)
          | (rw [if_neg cnd37, cnd48, div_n1] at hQ; exact hQ)
          | (rw [if_neg cnd37] at hQ; exact hQ)
      · skip
        refine ev_iconst (x := (-1000000012)) rfl rfl ?_
        refine ev_iret rfl ?_
        rw [if_neg cnd16] at hQ
        rw [if_neg cnd30] at hQ
        exact hQ
    · skip
      refine ev_iconst (x := (-1000000011)) rfl rfl ?_
      refine ev_iret rfl ?_
      rw [if_pos cnd16] at hQ
      exact hQ
  · skip
    refine ev_iconst (x := (-1000000001)) rfl rfl ?_
    refine ev_iret rfl ?_
    rw [if_neg cnd4] at hQ
    exact hQ
theorem c_X7_refusesAs {d n : Nat} {mem : am_M} {Q : am_P} (c : Nat) (hc : c < 5) (w : Nat) (hQ : Q (some (.int (if mem (206 + 3 * c) 0 = 0 then S_NOTH else if mem (206 + 3 * c) 0 = nI w then nI 0 else S_KIND))) (am_SK n) mem) : am_ex (d + 1) 46 [.ref (206 + 3 * c), .int (nI w)] (am_SK n) mem Q := by
  refine ex_in (c0 := kc_X7_refusesAs) rfl (L := [some (.ref (206 + 3 * c)), some (.int (nI w))]) rfl ?_
  refine ev_aload rfl rfl ?_
  refine ev_getI (c := 7) (j := 0) rfl ?_ (hq := ks_slot n (by omega))
  refine ev_if_ne (p2 := 10) rfl rfl (fun cnd4 => ?_) (fun cnd4 => ?_)
  · skip
    refine ev_aload rfl rfl ?_
    refine ev_getI (c := 7) (j := 0) rfl ?_ (hq := ks_slot n (by omega))
    refine ev_iload rfl rfl ?_
    refine ev_icmp_ne (p2 := 22) rfl rfl (fun cnd15 => ?_) (fun cnd15 => ?_)
    · skip
      refine ev_iconst (x := (-1000000012)) rfl rfl ?_
      refine ev_iret rfl ?_
      first
      | (rw [if_pos cnd4] at hQ; exact hQ)
      | (rw [if_neg cnd4, if_pos cnd15] at hQ; exact hQ)
      | (rw [if_neg cnd4, if_neg cnd15] at hQ; exact hQ)
    · skip
      refine ev_iconst (x := nI 0) rfl rfl ?_
      refine ev_goto (p2 := 24) rfl rfl ?_
      refine ev_iret rfl ?_
      first
      | (rw [if_pos cnd4] at hQ; exact hQ)
      | (rw [if_neg cnd4, if_pos cnd15] at hQ; exact hQ)
      | (rw [if_neg cnd4, if_neg cnd15] at hQ; exact hQ)
  · skip
    refine ev_iconst (x := (-1000000011)) rfl rfl ?_
    refine ev_iret rfl ?_
    first
    | (rw [if_pos cnd4] at hQ; exact hQ)
    | (rw [if_neg cnd4, if_pos cnd15] at hQ; exact hQ)
    | (rw [if_neg cnd4, if_neg cnd15] at hQ; exact hQ)
theorem c_X11_ask {d n : Nat} {mem : am_M} {Q : am_P} (hsl : I_sl mem) (hK : Kab mem) (sl k : Int32) (hQ : Q (some (.int (X_ask (mem 248) (mem 249) sl k))) (am_SK n) mem) : am_ex (d + 3) 118 [.ref 29, .int sl, .int k] (am_SK n) mem Q := by
  unfold X_ask at hQ
  refine ex_in (c0 := kc_X11_ask) rfl (L := [some (.ref 29), some (.int sl), some (.int k), none, none]) rfl ?_
  refine ev_iload rfl rfl ?_
  refine ev_call rfl rfl ?_
  refine c_X11_isSlot _ ?_
  change am_ev _ _ _ _ (_ :: _) _ _ _
  refine ev_if_eqB (p2 := 14) rfl rfl (fun cnd4 => ?_) (fun cnd4 => ?_)
  · skip
    refine ev_iconst (x := (-1000000001)) rfl rfl ?_
    refine ev_iret rfl ?_
    first
    | (rw [if_neg (fun z => cnd4 z.1)] at hQ; exact hQ)
    | (rw [if_neg (fun z => cnd11 z.2)] at hQ; exact hQ)
  · skip
    refine ev_iload rfl rfl ?_
    refine ev_call rfl rfl ?_
    refine c_X11_isKind _ ?_
    change am_ev _ _ _ _ (_ :: _) _ _ _
    refine ev_if_neB (p2 := 17) rfl rfl (fun cnd11 => ?_) (fun cnd11 => ?_)
    · skip
      rw [if_pos (And.intro cnd4 cnd11)] at hQ
      obtain ⟨ep, hp⟩ := am_rng (by decide) cnd4
      generalize nn sl = c at ep hp hQ
      subst ep
      refine ev_aload rfl rfl ?_
      refine ev_getR (c := 11) (j := 9) rfl ?_ (hq := k_29 n)
      refine ev_iload rfl rfl ?_
      refine ev_aldN rfl rfl ?_ (kr_slot (by omega)) (hq := k_194 n)
      refine ev_iconst (x := nI 1) rfl rfl ?_
      refine ev_callV rfl rfl rfl rfl (Nat.le_of_ble_eq_true rfl) (Nat.le_of_ble_eq_true rfl) ?_ (hq := ks_slot n (by omega))
      refine c_X7_refusesAs c (by omega) 1 ?_
      rw [(hsl c (by omega)).1.1]
      change am_ev _ _ _ _ (_ :: _) _ _ _
      refine ev_istore rfl rfl (Nat.le_of_ble_eq_true rfl) ?_
      refine ev_iload rfl rfl ?_
      refine ev_if_eq (p2 := 34) rfl rfl (fun cnd29 => ?_) (fun cnd29 => ?_)
      · skip
        have h0 : ¬ mem 248 c = 0 := by
          intro z
          rw [if_pos z] at cnd29
          exact absurd cnd29 (by decide)
        have h1 : mem 248 c = nI 1 := by
          apply Decidable.byContradiction
          intro z
          rw [if_neg h0, if_neg z] at cnd29
          exact absurd cnd29 (by decide)
        obtain ⟨ea, hA⟩ := (hsl c (by omega)).2.1 h1
        rw [if_neg h0] at hQ
        obtain ⟨e9, g9⟩ := hA
        generalize nn (mem 249 c) = a at e9 g9
        rw [e9] at hQ ea
        refine ev_aload rfl rfl ?_
        refine ev_getR (c := 11) (j := 9) rfl ?_ (hq := k_29 n)
        refine ev_iload rfl rfl ?_
        refine ev_aldN rfl rfl ?_ (kr_slot (by omega)) (hq := k_194 n)
        refine ev_getI (c := 7) (j := 1) rfl ?_ (hq := ks_slot n (by omega))
        rw [ea]
        refine ev_istore rfl rfl (Nat.le_of_ble_eq_true rfl) ?_
        refine ev_iload rfl rfl ?_
        refine ev_iload rfl rfl ?_
        refine ev_call rfl rfl ?_
        refine c_X11_isOfKind hK a g9 _ ?_
        change am_ev _ _ _ _ (_ :: _) _ _ _
        refine ev_if_eqB (p2 := 62) rfl rfl (fun cnd51 => ?_) (fun cnd51 => ?_)
        · skip
          refine ev_iconst (x := (-1000000012)) rfl rfl ?_
          refine ev_iret rfl ?_
          first
          | (rw [if_pos (And.intro h1 cnd51)] at hQ; exact hQ)
          | (rw [if_neg (fun z => cnd51 z.2)] at hQ; exact hQ)
        · skip
          refine ev_iload rfl rfl ?_
          refine ev_call rfl rfl ?_
          refine c_X11_wearOf a g9 ?_
          change am_ev _ _ _ _ (_ :: _) _ _ _
          refine ev_goto (p2 := 64) rfl rfl ?_
          refine ev_iret rfl ?_
          first
          | (rw [if_pos (And.intro h1 cnd51)] at hQ; exact hQ)
          | (rw [if_neg (fun z => cnd51 z.2)] at hQ; exact hQ)
      · skip
        refine ev_iload rfl rfl ?_
        refine ev_iret rfl ?_
        by_cases h0 : mem 248 c = 0
        · rw [if_pos h0] at hQ ⊢; exact hQ
        · rw [if_neg h0] at hQ ⊢
          by_cases h1 : mem 248 c = nI 1
          · exact absurd (by rw [if_neg h0, if_pos h1]; rfl) cnd29
          · rw [if_neg h1]; rw [if_neg (fun z => h1 z.1)] at hQ; exact hQ
    · skip
      refine ev_iconst (x := (-1000000001)) rfl rfl ?_
      refine ev_iret rfl ?_
      first
      | (rw [if_neg (fun z => cnd4 z.1)] at hQ; exact hQ)
      | (rw [if_neg (fun z => cnd11 z.2)] at hQ; exact hQ)
theorem c_X6_hasPlaceR {d n : Nat} {mem : am_M} {Q : am_P} (c : Nat) (hc : c < 5) (z : Nat) (hz : z < 100) (e : mem (207 + 3 * c) 1 = nI z) (p : Int32) (hQ : Q (some (.int (am_b (nI 0 ≤ p ∧ p ≤ nI z - 1)))) (am_SK n) mem) : am_ex (d + 1) 42 [.ref (207 + 3 * c), .int p] (am_SK n) mem Q := by
  refine ex_in (c0 := kc_X6_hasPlace) rfl (L := [some (.ref (207 + 3 * c)), some (.int p)]) rfl ?_
  refine ev_iload rfl rfl ?_
  refine ev_if_lt (p2 := 16) rfl rfl (fun cnd1 => ?_) (fun cnd1 => ?_)
  · skip
    refine ev_iconst (x := nI 0) rfl rfl ?_
    refine ev_zret rfl ?_
    refine am_leaf hQ ?_
    rw [am_b_eq (and_congr Iff.rfl (am_pred (x := nI z) (p := p) (m := z) rfl (by omega)))]
    simp only [am_b, Int32.lt_iff_toInt_lt, Int32.le_iff_toInt_le, show (nI 0).toInt = 0 from rfl, show (0 : Int32).toInt = 0 from rfl] at *
    split <;> first | rfl | (exfalso; omega)
  · skip
    refine ev_iload rfl rfl ?_
    refine ev_aload rfl rfl ?_
    refine ev_getI (c := 6) (j := 1) rfl ?_ (hq := ks_row n (by omega))
    rw [e]
    refine ev_icmp_ge (p2 := 16) rfl rfl (fun cnd9 => ?_) (fun cnd9 => ?_)
    · skip
      refine ev_iconst (x := nI 0) rfl rfl ?_
      refine ev_zret rfl ?_
      refine am_leaf hQ ?_
      rw [am_b_eq (and_congr Iff.rfl (am_pred (x := nI z) (p := p) (m := z) rfl (by omega)))]
      simp only [am_b, Int32.lt_iff_toInt_lt, Int32.le_iff_toInt_le, show (nI 0).toInt = 0 from rfl, show (0 : Int32).toInt = 0 from rfl] at *
      split <;> first | rfl | (exfalso; omega)
    · skip
      refine ev_iconst (x := nI 1) rfl rfl ?_
      refine ev_goto (p2 := 17) rfl rfl ?_
      refine ev_zret rfl ?_
      refine am_leaf hQ ?_
      rw [am_b_eq (and_congr Iff.rfl (am_pred (x := nI z) (p := p) (m := z) rfl (by omega)))]
      simp only [am_b, Int32.lt_iff_toInt_lt, Int32.le_iff_toInt_le, show (nI 0).toInt = 0 from rfl, show (0 : Int32).toInt = 0 from rfl] at *
      split <;> first | rfl | (exfalso; omega)
theorem c_X6_isNumberR {d n : Nat} {mem : am_M} {Q : am_P} (c : Nat) (hc : c < 5) (q : Nat) (hq : q < 24) (hQ : Q (some (.int (am_b (¬ mem (208 + 3 * c) q = S_NONE)))) (am_SK n) mem) : am_ex (d + 1) 44 [.ref (207 + 3 * c), .int (nI q)] (am_SK n) mem Q := by
  refine ex_in (c0 := kc_X6_isNumber) rfl (L := [some (.ref (207 + 3 * c)), some (.int (nI q))]) rfl ?_
  refine ev_aload rfl rfl ?_
  refine ev_getR (c := 6) (j := 2) rfl ?_ (hq := ks_row n (by omega))
  refine ev_iload rfl rfl ?_
  refine ev_ialdN rfl rfl ?_ (hq := ks_rvals n (by omega))
  refine ev_iconst (x := (-1000000005)) rfl rfl ?_
  refine ev_icmp_eq (p2 := 15) rfl rfl (fun cnd8 => ?_) (fun cnd8 => ?_)
  · skip
    refine ev_iconst (x := nI 0) rfl rfl ?_
    refine ev_zret rfl ?_
    first
    | (rw [am_bt (show ¬ mem (208 + 3 * c) q = S_NONE from cnd8)] at hQ; exact hQ)
    | (rw [am_bf (fun z => z cnd8)] at hQ; exact hQ)
  · skip
    refine ev_iconst (x := nI 1) rfl rfl ?_
    refine ev_goto (p2 := 16) rfl rfl ?_
    refine ev_zret rfl ?_
    first
    | (rw [am_bt (show ¬ mem (208 + 3 * c) q = S_NONE from cnd8)] at hQ; exact hQ)
    | (rw [am_bf (fun z => z cnd8)] at hQ; exact hQ)
theorem c_X11_item {d n : Nat} {mem : am_M} {Q : am_P} (hsl : I_sl mem) (sl p : Int32) (hQ : Q (some (.int (X_item (mem 248) (mem 249) (mem 250) sl p))) (am_SK n) mem) : am_ex (d + 3) 119 [.ref 29, .int sl, .int p] (am_SK n) mem Q := by
  unfold X_item at hQ
  refine ex_in (c0 := kc_X11_item) rfl (L := [some (.ref 29), some (.int sl), some (.int p), none, none]) rfl ?_
  refine ev_iload rfl rfl ?_
  refine ev_call rfl rfl ?_
  refine c_X11_isSlot _ ?_
  change am_ev _ _ _ _ (_ :: _) _ _ _
  refine ev_if_neB (p2 := 10) rfl rfl (fun cnd4 => ?_) (fun cnd4 => ?_)
  · skip
    rw [if_pos cnd4] at hQ
    obtain ⟨ep, hp⟩ := am_rng (by decide) cnd4
    generalize nn sl = c at ep hp hQ
    subst ep
    refine ev_aload rfl rfl ?_
    refine ev_getR (c := 11) (j := 9) rfl ?_ (hq := k_29 n)
    refine ev_iload rfl rfl ?_
    refine ev_aldN rfl rfl ?_ (kr_slot (by omega)) (hq := k_194 n)
    refine ev_iconst (x := nI 2) rfl rfl ?_
    refine ev_callV rfl rfl rfl rfl (Nat.le_of_ble_eq_true rfl) (Nat.le_of_ble_eq_true rfl) ?_ (hq := ks_slot n (by omega))
    refine c_X7_refusesAs c (by omega) 2 ?_
    rw [(hsl c (by omega)).1.1]
    change am_ev _ _ _ _ (_ :: _) _ _ _
    refine ev_istore rfl rfl (Nat.le_of_ble_eq_true rfl) ?_
    refine ev_iload rfl rfl ?_
    refine ev_if_eq (p2 := 27) rfl rfl (fun cnd22 => ?_) (fun cnd22 => ?_)
    · skip
      have h0 : ¬ mem 248 c = 0 := by
        intro z
        rw [if_pos z] at cnd22
        exact absurd cnd22 (by decide)
      have h1 : mem 248 c = nI 2 := by
        apply Decidable.byContradiction
        intro z
        rw [if_neg h0, if_neg z] at cnd22
        exact absurd cnd22 (by decide)
      obtain ⟨ea, hA, hcells⟩ := (hsl c (by omega)).2.2.1 h1
      rw [if_neg h0, if_pos h1] at hQ
      obtain ⟨e9, g9⟩ := hA
      generalize nn (mem 249 c) = a at e9 g9
      rw [e9] at ea
      refine ev_aload rfl rfl ?_
      refine ev_getR (c := 11) (j := 9) rfl ?_ (hq := k_29 n)
      refine ev_iload rfl rfl ?_
      refine ev_aldN rfl rfl ?_ (kr_slot (by omega)) (hq := k_194 n)
      refine ev_getR (c := 7) (j := 3) rfl ?_ (hq := ks_slot n (by omega))
      refine ev_astore rfl rfl (Nat.le_of_ble_eq_true rfl) ?_
      refine ev_aload rfl rfl ?_
      refine ev_iload rfl rfl ?_
      refine ev_callV rfl rfl rfl rfl (Nat.le_of_ble_eq_true rfl) (Nat.le_of_ble_eq_true rfl) ?_ (hq := ks_row n (by omega))
      refine c_X6_hasPlaceR c (by omega) a (by omega) ea _ ?_
      change am_ev _ _ _ _ (_ :: _) _ _ _
      refine ev_if_neB (p2 := 51) rfl rfl (fun cnd44 => ?_) (fun cnd44 => ?_)
      · skip
        rw [e9, if_pos cnd44] at hQ
        obtain ⟨eq9, hq9⟩ := am_idx (x := nI a) rfl (by omega) cnd44
        clear cnd44
        generalize nn p = q at eq9 hq9 hQ
        subst eq9
        have hcq := hcells q (by omega)
        rw [← hcq] at hQ
        refine ev_aload rfl rfl ?_
        refine ev_iload rfl rfl ?_
        refine ev_callV rfl rfl rfl rfl (Nat.le_of_ble_eq_true rfl) (Nat.le_of_ble_eq_true rfl) ?_ (hq := ks_row n (by omega))
        refine c_X6_isNumberR c (by omega) q (by omega) ?_
        change am_ev _ _ _ _ (_ :: _) _ _ _
        refine ev_if_eqB (p2 := 70) rfl rfl (fun cnd57 => ?_) (fun cnd57 => ?_)
        · skip
          refine ev_iconst (x := (-1000000012)) rfl rfl ?_
          refine ev_iret rfl ?_
          first
          | (rw [if_neg cnd57] at hQ; exact hQ)
          | (rw [if_pos (Decidable.not_not.mp cnd57)] at hQ; exact hQ)
        · skip
          refine ev_aload rfl rfl ?_
          refine ev_getR (c := 6) (j := 2) rfl ?_ (hq := ks_row n (by omega))
          refine ev_iload rfl rfl ?_
          refine ev_ialdN rfl rfl ?_ (hq := ks_rvals n (by omega))
          refine ev_goto (p2 := 72) rfl rfl ?_
          refine ev_iret rfl ?_
          first
          | (rw [if_neg cnd57] at hQ; exact hQ)
          | (rw [if_pos (Decidable.not_not.mp cnd57)] at hQ; exact hQ)
      · skip
        refine ev_iconst (x := (-1000000013)) rfl rfl ?_
        refine ev_iret rfl ?_
        rw [e9, if_neg cnd44] at hQ
        exact hQ
    · skip
      refine ev_iload rfl rfl ?_
      refine ev_iret rfl ?_
      by_cases h0 : mem 248 c = 0
      · rw [if_pos h0] at hQ ⊢; exact hQ
      · rw [if_neg h0] at hQ ⊢
        by_cases h1 : mem 248 c = nI 2
        · exact absurd (by rw [if_neg h0, if_pos h1]; rfl) cnd22
        · rw [if_neg h1]; rw [if_neg h1] at hQ; exact hQ
  · skip
    refine ev_iconst (x := (-1000000001)) rfl rfl ?_
    refine ev_iret rfl ?_
    rw [if_neg cnd4] at hQ
    exact hQ
theorem c_X11_rest {d n : Nat} {mem : am_M} {Q : am_P} (hsl : I_sl mem) (sl m : Int32) (hQ : Q (some (.int (X_rest (mem 248) (mem 249) sl m))) (am_SK n) mem) : am_ex (d + 3) 120 [.ref 29, .int sl, .int m] (am_SK n) mem Q := by
  unfold X_rest at hQ
  refine ex_in (c0 := kc_X11_rest) rfl (L := [some (.ref 29), some (.int sl), some (.int m), none]) rfl ?_
  refine ev_iload rfl rfl ?_
  refine ev_call rfl rfl ?_
  refine c_X11_isSlot _ ?_
  change am_ev _ _ _ _ (_ :: _) _ _ _
  refine ev_if_neB (p2 := 10) rfl rfl (fun cnd4 => ?_) (fun cnd4 => ?_)
  · skip
    rw [if_pos cnd4] at hQ
    obtain ⟨ep, hp⟩ := am_rng (by decide) cnd4
    generalize nn sl = c at ep hp hQ
    subst ep
    refine ev_aload rfl rfl ?_
    refine ev_getR (c := 11) (j := 9) rfl ?_ (hq := k_29 n)
    refine ev_iload rfl rfl ?_
    refine ev_aldN rfl rfl ?_ (kr_slot (by omega)) (hq := k_194 n)
    refine ev_iconst (x := nI 3) rfl rfl ?_
    refine ev_callV rfl rfl rfl rfl (Nat.le_of_ble_eq_true rfl) (Nat.le_of_ble_eq_true rfl) ?_ (hq := ks_slot n (by omega))
    refine c_X7_refusesAs c (by omega) 3 ?_
    rw [(hsl c (by omega)).1.1]
    change am_ev _ _ _ _ (_ :: _) _ _ _
    refine ev_istore rfl rfl (Nat.le_of_ble_eq_true rfl) ?_
    refine ev_iload rfl rfl ?_
    refine ev_if_eq (p2 := 27) rfl rfl (fun cnd22 => ?_) (fun cnd22 => ?_)
    · skip
      have h0 : ¬ mem 248 c = 0 := by
        intro z
        rw [if_pos z] at cnd22
        exact absurd cnd22 (by decide)
      have h1 : mem 248 c = nI 3 := by
        apply Decidable.byContradiction
        intro z
        rw [if_neg h0, if_neg z] at cnd22
        exact absurd cnd22 (by decide)
      have ea := (hsl c (by omega)).2.2.2 h1
      rw [if_neg h0, if_pos h1] at hQ
      refine ev_iload rfl rfl ?_
      refine ev_if_ne (p2 := 37) rfl rfl (fun cnd28 => ?_) (fun cnd28 => ?_)
      · skip
        refine ev_aload rfl rfl ?_
        refine ev_getR (c := 11) (j := 9) rfl ?_ (hq := k_29 n)
        refine ev_iload rfl rfl ?_
        refine ev_aldN rfl rfl ?_ (kr_slot (by omega)) (hq := k_194 n)
        refine ev_getI (c := 7) (j := 2) rfl ?_ (hq := ks_slot n (by omega))
        rw [ea]
        refine ev_iload rfl rfl ?_
        refine ev_irem rfl ?_
        refine ev_iret rfl ?_
        first
        | (rw [if_pos cnd28] at hQ; exact hQ)
        | (rw [if_neg cnd28] at hQ; exact hQ)
      · skip
        refine ev_iconst (x := (-1000000002)) rfl rfl ?_
        refine ev_goto (p2 := 48) rfl rfl ?_
        refine ev_iret rfl ?_
        first
        | (rw [if_pos cnd28] at hQ; exact hQ)
        | (rw [if_neg cnd28] at hQ; exact hQ)
    · skip
      refine ev_iload rfl rfl ?_
      refine ev_iret rfl ?_
      by_cases h0 : mem 248 c = 0
      · rw [if_pos h0] at hQ ⊢; exact hQ
      · rw [if_neg h0] at hQ ⊢
        by_cases h1 : mem 248 c = nI 3
        · exact absurd (by rw [if_neg h0, if_pos h1]; rfl) cnd22
        · rw [if_neg h1]; rw [if_neg h1] at hQ; exact hQ
  · skip
    refine ev_iconst (x := (-1000000001)) rfl rfl ?_
    refine ev_iret rfl ?_
    rw [if_neg cnd4] at hQ
    exact hQ
theorem pub_ask {xs : am_R} {d n : Nat} {mem : am_M} {Q : am_P} (hI : Inv xs mem) (sl : Int32) (k : Int32) (hQ : ∀ (rv : Int32) (m1 : am_M), RefA xs (d + 200) n 226 [.ref 221, .int sl, .int k] rv m1 → Q (some (.int rv)) (am_SK n) m1) : am_ex (d + 200) 118 [.ref 29, .int sl, .int k] (am_SK n) mem Q := by
  have hsl := hI.2.2.2.2.2.1
  refine c_X11_ask hsl (Inv_K hI) sl k (hQ _ _ (fun Q2 h2 => ?_))
  exact c_X12_ask rfl rfl rfl sl k (h2 _ hI)
theorem pub_item {xs : am_R} {d n : Nat} {mem : am_M} {Q : am_P} (hI : Inv xs mem) (sl : Int32) (p : Int32) (hQ : ∀ (rv : Int32) (m1 : am_M), RefA xs (d + 200) n 227 [.ref 221, .int sl, .int p] rv m1 → Q (some (.int rv)) (am_SK n) m1) : am_ex (d + 200) 119 [.ref 29, .int sl, .int p] (am_SK n) mem Q := by
  have hsl := hI.2.2.2.2.2.1
  refine c_X11_item hsl sl p (hQ _ _ (fun Q2 h2 => ?_))
  exact c_X12_item rfl rfl rfl sl p (fun c h hc => ((hsl c hc).2.2.1 h).2.1) (h2 _ hI)
theorem pub_rest {xs : am_R} {d n : Nat} {mem : am_M} {Q : am_P} (hI : Inv xs mem) (sl : Int32) (m : Int32) (hQ : ∀ (rv : Int32) (m1 : am_M), RefA xs (d + 200) n 228 [.ref 221, .int sl, .int m] rv m1 → Q (some (.int rv)) (am_SK n) m1) : am_ex (d + 200) 120 [.ref 29, .int sl, .int m] (am_SK n) mem Q := by
  have hsl := hI.2.2.2.2.2.1
  refine c_X11_rest hsl sl m (hQ _ _ (fun Q2 h2 => ?_))
  exact c_X12_rest rfl rfl rfl sl m (h2 _ hI)
