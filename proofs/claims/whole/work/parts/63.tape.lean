/-! both sides: the tape -/
theorem Inv_tp_fr {xs : am_R} {mem m2 : am_M} (hI : Inv xs mem) (e : ∀ q, ¬ (q = 62 ∨ q = 63 ∨ q = 64 ∨ q = 65 ∨ q = 221 ∨ q = 226 ∨ (229 ≤ q ∧ q ≤ 231)) → m2 q = mem q) (e221 : ∀ k, k = 3 ∨ k = 43 → m2 221 k = mem 221 k) (h : I_tp m2) : Inv xs m2 := by
  obtain ⟨i1, ⟨i2, i2b⟩, i3, i4, i5, i6, i7, i8, i9⟩ := hI
  refine ⟨fun q hq => (e q (by omega)).trans (i1 q hq), ⟨?_, by rw [e 222 (by decide)]; exact i2b⟩, ?_, h, ?_, ?_, ?_, ?_, ?_⟩
  · rw [e 222 (by decide)]; exact cp_fr i2 (fun q hq => e q (by omega))
  · exact I_im_fr i3 (by rw [e 29 (by decide)]) (e221 3 (by decide)) (e 223 (by decide)) (by rw [e 222 (by decide)]; exact Nat.le_refl _) (fun q hq => e q (by omega))
  · exact I_sh_fr i5 (fun q hq => e q (by omega))
  · exact I_sl_fr i6 (fun q hq => e q (by omega))
  · exact I_wt_fr i7 (by rw [e 29 (by decide)]) (e221 43 (by decide)) (e 195 (by decide)) (e 252 (by decide))
  · rw [e 227 (by decide), e 228 (by decide)]; exact i8
  · intro i hi; rw [e 222 (by decide), e 223 (by decide), e 224 (by decide)]; exact i9 i hi
theorem c_X11_trim {d n : Nat} {mem : am_M} {Q : am_P} (tl : Nat) (htl : tl ≤ 96) (h : mem 62 1 = nI tl) (v : Int32) (hQ1 : ¬ (nI 0 ≤ v ∧ v ≤ nI tl) → Q (some (.int S_BAD)) (am_SK n) mem) (hQ : (nI 0 ≤ v ∧ v ≤ nI tl) → Q (some (.int v)) (am_SK n) (am_up mem 62 1 v)) : am_ex (d + 1) 99 [.ref 29, .int v] (am_SK n) mem Q := by
  refine ex_in (c0 := kc_X11_trim) rfl (L := [some (.ref 29), some (.int v)]) rfl ?_
  refine ev_iload rfl rfl ?_
  refine ev_if_lt (p2 := 15) rfl rfl (fun cnd1 => ?_) (fun cnd1 => ?_)
  · skip
    refine ev_iconst (x := (-1000000001)) rfl rfl ?_
    refine ev_iret rfl ?_
    first
    | exact hQ1 (fun z => nlt_le z.1 cnd1)
    | exact hQ1 (fun z => cnd12 z.2)
  · skip
    refine ev_iload rfl rfl ?_
    refine ev_aload rfl rfl ?_
    refine ev_getR (c := 11) (j := 1) rfl ?_ (hq := k_29 n)
    refine ev_getI (c := 5) (j := 1) rfl ?_ (hq := k_62 n)
    rw [h]
    refine ev_icmp_le (p2 := 18) rfl rfl (fun cnd12 => ?_) (fun cnd12 => ?_)
    · skip
      refine ev_aload rfl rfl ?_
      refine ev_getR (c := 11) (j := 1) rfl ?_ (hq := k_29 n)
      refine ev_iload rfl rfl ?_
      refine ev_put (c := 5) (j := 1) rfl ?_ (hq := k_62 n)
      refine ev_iload rfl rfl ?_
      refine ev_iret rfl ?_
      exact hQ (And.intro (le_nlt cnd1) cnd12)
    · skip
      refine ev_iconst (x := (-1000000001)) rfl rfl ?_
      refine ev_iret rfl ?_
      first
      | exact hQ1 (fun z => nlt_le z.1 cnd1)
      | exact hQ1 (fun z => cnd12 z.2)
theorem pub_trim {xs : am_R} {d n : Nat} {mem : am_M} {Q : am_P} (hI : Inv xs mem) (v : Int32) (hQ : ∀ (rv : Int32) (m1 : am_M), RefA xs (d + 200) n 184 [.ref 221, .int v] rv m1 → Q (some (.int rv)) (am_SK n) m1) : am_ex (d + 200) 99 [.ref 29, .int v] (am_SK n) mem Q := by
  obtain ⟨tl, htl, h1, h2, hk⟩ := hI.2.2.2.1
  refine c_X11_trim tl htl h1 v (fun h0 => hQ _ _ (fun Q2 g2 => ?_)) (fun h0 => hQ _ _ (fun Q2 g2 => ?_))
  · exact c_X12_trim v (fun _ => g2 _ hI) (fun z => absurd (by rw [h2] at z; exact z) h0)
  · refine c_X12_trim v (fun z => absurd (by rw [am_up_ne (by decide), h2]; exact h0) z) (fun _ => g2 _ ?_)
    obtain ⟨ev, hv⟩ := am_rng (by omega) h0
    refine Inv_tp_fr hI (fun q hq => by rw [am_up_ne (by omega), am_up_ne (by omega)]) (fun k hk => by rw [am_up_nk (by omega), am_up_ne (by decide)]) ?_
    refine ⟨nn v, by omega, by rw [am_up_ne (by decide), am_up_eq]; exact ev, by rw [am_up_eq]; exact ev, fun k hk2 => ?_⟩
    rw [am_up_ne (by decide), am_up_ne (by decide), am_up_ne (by decide), am_up_ne (by decide)]
    exact hk k (by omega)
/-- the j-th byte of a word, the highest first -/
def bt (x : Int32) (j : Nat) : Int32 := (x >>> (nI (24 - 8 * j) &&& 31)) &&& nI 255
theorem and255 (y : Int32) : isN (y &&& nI 255) 256 := by
  have h : ∃ m, m < 256 ∧ y &&& nI 255 = nI m := by
    refine ⟨(y &&& nI 255).toBitVec.toNat, ?_, ?_⟩
    · show (y.toBitVec &&& 255#32).toNat < 256
      rw [BitVec.toNat_and]
      exact Nat.lt_of_le_of_lt Nat.and_le_right (by decide)
    · apply Int32.toBitVec_inj.mp
      show (y &&& nI 255).toBitVec = BitVec.ofNat 32 (y &&& nI 255).toBitVec.toNat
      rw [BitVec.ofNat_toNat, BitVec.setWidth_eq]
  obtain ⟨m, hm, e⟩ := h
  rw [e]
  exact isN_lt hm (by decide)
theorem bv255 (x : BitVec 32) (k : Nat) (hk : k ≤ 24) : (x.sshiftRight k) &&& 255#32 = (x >>> k) &&& 255#32 := by
  apply BitVec.eq_of_getLsbD_eq
  intro i hi
  rw [BitVec.getLsbD_and, BitVec.getLsbD_and, BitVec.getLsbD_sshiftRight, BitVec.getLsbD_ushiftRight]
  by_cases h8 : i < 8
  · have h1 : k + i < 32 := by omega
    rw [if_pos h1, show decide (32 ≤ i) = false from decide_eq_false (by omega), Bool.not_false, Bool.true_and]
  · have h2 : (255#32).getLsbD i = false := by
      rw [BitVec.getLsbD_ofNat, show 255 = 2 ^ 8 - 1 from rfl, Nat.testBit_two_pow_sub_one]
      simp [h8]
    rw [h2, Bool.and_false, Bool.and_false]
theorem bt_c (x : Int32) (j : Nat) (hj : j < 4) : (x.toUInt32 >>> ((nI (24 - 8 * j)).toUInt32 &&& Int32.toUInt32 31)).toInt32 &&& nI 255 = bt x j := by
  unfold bt
  apply Int32.toBitVec_inj.mp
  match j, hj with
  | 0, _ => exact (bv255 x.toBitVec 24 (by decide)).symm
  | 1, _ => exact (bv255 x.toBitVec 16 (by decide)).symm
  | 2, _ => exact (bv255 x.toBitVec 8 (by decide)).symm
  | 3, _ => exact (bv255 x.toBitVec 0 (by decide)).symm
def fb (a b c : Int32) (j : Nat) : Int32 := bt (if j < 4 then a else if j < 8 then b else c) (j % 4)
theorem l_X12_feed {d n : Nat} {mem0 : am_M} {Q : am_P} (tl : Nat) (htl : tl + 12 ≤ 96) (a b c : Int32) (h6 : mem0 221 6 = nI tl) (r : Nat) : ∀ (mem : am_M) (k : Nat) (hk : k + r = 12) (hf : ∀ q, q ≠ 226 → mem q = mem0 q) (hz : ∀ j, j < k → mem 226 (tl + j) = fb a b c j) (ho : ∀ i, i < tl → mem 226 i = mem0 226 i) (x5 : Option Value) (hQ : ∀ m2 : am_M, (∀ q, q ≠ 226 → q ≠ 221 → m2 q = mem0 q) → (∀ j, j < 12 → m2 226 (tl + j) = fb a b c j) → (∀ i, i < tl → m2 226 i = mem0 226 i) → m2 221 6 = nI (tl + 12) → (∀ i, i ≠ 6 → m2 221 i = mem0 221 i) → Q (some (.int (nI (tl + 12)))) (am_SK n) m2), am_ev kc_X12_feed d 18 [some (.ref 221), some (.int a), some (.int b), some (.int c), some (.int (nI k)), x5] [] (am_SK n) mem Q := by
  induction r with
  | zero =>
    intro mem k hk hf hz ho x5 hQ
    have h6m : mem 221 6 = nI tl := by rw [hf 221 (by decide)]; exact h6
    refine ev_iload rfl rfl ?_
    refine ev_iconst (x := nI 12) rfl rfl ?_
    refine ev_icmp_geN (p2 := 84) rfl rfl (fun cnd22 => ?_) (fun cnd22 => ?_)
    · skip
      refine ev_aload rfl rfl ?_
      first | refine ev_dupR rfl ?_ | refine ev_dupI rfl ?_
      refine ev_getI (c := 12) (j := 6) rfl ?_ (hq := k_221 n)
      rw [h6m]
      refine ev_iconst (x := nI 12) rfl rfl ?_
      refine ev_iaddN rfl ?_
      refine ev_put (c := 12) (j := 6) rfl ?_ (hq := k_221 n)
      refine ev_aload rfl rfl ?_
      refine ev_getI (c := 12) (j := 6) rfl ?_ (hq := k_221 n)
      rw [am_up_eq]
      refine ev_iret rfl ?_
      exact hQ _ (fun q h1 h2 => by rw [am_up_ne h2]; exact hf q h1) (fun j hj => by rw [am_up_ne (by decide)]; exact hz j (by omega)) (fun i hi => by rw [am_up_ne (by decide)]; exact ho i hi) am_up_eq (fun i hi => by rw [am_up_nk hi, hf 221 (by decide)])
    · omega
  | succ r ih =>
    intro mem k hk hf hz ho x5 hQ
    have h6m : mem 221 6 = nI tl := by rw [hf 221 (by decide)]; exact h6
    refine ev_iload rfl rfl ?_
    refine ev_iconst (x := nI 12) rfl rfl ?_
    refine ev_icmp_geN (p2 := 84) rfl rfl (fun cnd22 => ?_) (fun cnd22 => ?_)
    · omega
    · skip
      refine ev_iload rfl rfl ?_
      refine ev_iconst (x := nI 4) rfl rfl ?_
      refine ev_icmp_geN (p2 := 35) rfl rfl (fun cnd28 => ?_) (fun cnd28 => ?_)
      · skip
        refine ev_iload rfl rfl ?_
        refine ev_iconst (x := nI 8) rfl rfl ?_
        refine ev_icmp_geN (p2 := 46) rfl rfl (fun cnd39 => ?_) (fun cnd39 => ?_)
        · skip
          refine ev_iload rfl rfl ?_
          refine ev_istore rfl rfl (Nat.le_of_ble_eq_true rfl) ?_
          refine ev_aload rfl rfl ?_
          refine ev_getR (c := 12) (j := 5) rfl ?_ (hq := k_221 n)
          refine ev_aload rfl rfl ?_
          refine ev_getI (c := 12) (j := 6) rfl ?_ (hq := k_221 n)
          rw [h6m]
          refine ev_iload rfl rfl ?_
          refine ev_iaddN rfl ?_
          refine ev_iload rfl rfl ?_
          refine ev_iconst (x := nI 24) rfl rfl ?_
          refine ev_iconst (x := nI 8) rfl rfl ?_
          refine ev_iload rfl rfl ?_
          refine ev_iconst (x := nI 4) rfl rfl ?_
          refine ev_iremN rfl ?_
          refine ev_imulN rfl ?_
          refine ev_isubN rfl ?_
          refine ev_ishr rfl ?_
          refine ev_iconst (x := nI 255) rfl rfl ?_
          refine ev_iand rfl ?_
          refine ev_iastS rfl (fun mem2 hm => ?_) (hq := k_226 n)
          refine ev_iincN rfl rfl rfl ?_
          refine ev_goto (p2 := 18) rfl rfl ?_
          refine ih mem2 (k + 1) (by omega) (fun q hq => by rw [hm, am_up_ne hq]; exact hf q hq) (fun j hj => ?_) (fun i hi => ?_) _ hQ
          · rw [hm]
            by_cases e : j = k
            · rw [e, am_up_eq]
              unfold fb
              first
              | rw [if_pos (show k < 4 by omega)]; rfl
              | rw [if_neg (show ¬ k < 4 by omega), if_pos (show k < 8 by omega)]; rfl
              | rw [if_neg (show ¬ k < 4 by omega), if_neg (show ¬ k < 8 by omega)]; rfl
            · rw [am_up_nk (by omega)]; exact hz j (by omega)
          · rw [hm, am_up_nk (by omega)]; exact ho i hi
        · skip
          refine ev_iload rfl rfl ?_
          refine ev_goto (p2 := 47) rfl rfl ?_
          refine ev_istore rfl rfl (Nat.le_of_ble_eq_true rfl) ?_
          refine ev_aload rfl rfl ?_
          refine ev_getR (c := 12) (j := 5) rfl ?_ (hq := k_221 n)
          refine ev_aload rfl rfl ?_
          refine ev_getI (c := 12) (j := 6) rfl ?_ (hq := k_221 n)
          rw [h6m]
          refine ev_iload rfl rfl ?_
          refine ev_iaddN rfl ?_
          refine ev_iload rfl rfl ?_
          refine ev_iconst (x := nI 24) rfl rfl ?_
          refine ev_iconst (x := nI 8) rfl rfl ?_
          refine ev_iload rfl rfl ?_
          refine ev_iconst (x := nI 4) rfl rfl ?_
          refine ev_iremN rfl ?_
          refine ev_imulN rfl ?_
          refine ev_isubN rfl ?_
          refine ev_ishr rfl ?_
          refine ev_iconst (x := nI 255) rfl rfl ?_
          refine ev_iand rfl ?_
          refine ev_iastS rfl (fun mem2 hm => ?_) (hq := k_226 n)
          refine ev_iincN rfl rfl rfl ?_
          refine ev_goto (p2 := 18) rfl rfl ?_
          refine ih mem2 (k + 1) (by omega) (fun q hq => by rw [hm, am_up_ne hq]; exact hf q hq) (fun j hj => ?_) (fun i hi => ?_) _ hQ
          · rw [hm]
            by_cases e : j = k
            · rw [e, am_up_eq]
              unfold fb
              first
              | rw [if_pos (show k < 4 by omega)]; rfl
              | rw [if_neg (show ¬ k < 4 by omega), if_pos (show k < 8 by omega)]; rfl
              | rw [if_neg (show ¬ k < 4 by omega), if_neg (show ¬ k < 8 by omega)]; rfl
            · rw [am_up_nk (by omega)]; exact hz j (by omega)
          · rw [hm, am_up_nk (by omega)]; exact ho i hi
      · skip
        refine ev_iload rfl rfl ?_
        refine ev_goto (p2 := 47) rfl rfl ?_
        refine ev_istore rfl rfl (Nat.le_of_ble_eq_true rfl) ?_
        refine ev_aload rfl rfl ?_
        refine ev_getR (c := 12) (j := 5) rfl ?_ (hq := k_221 n)
        refine ev_aload rfl rfl ?_
        refine ev_getI (c := 12) (j := 6) rfl ?_ (hq := k_221 n)
        rw [h6m]
        refine ev_iload rfl rfl ?_
        refine ev_iaddN rfl ?_
        refine ev_iload rfl rfl ?_
        refine ev_iconst (x := nI 24) rfl rfl ?_
        refine ev_iconst (x := nI 8) rfl rfl ?_
        refine ev_iload rfl rfl ?_
        refine ev_iconst (x := nI 4) rfl rfl ?_
        refine ev_iremN rfl ?_
        refine ev_imulN rfl ?_
        refine ev_isubN rfl ?_
        refine ev_ishr rfl ?_
        refine ev_iconst (x := nI 255) rfl rfl ?_
        refine ev_iand rfl ?_
        refine ev_iastS rfl (fun mem2 hm => ?_) (hq := k_226 n)
        refine ev_iincN rfl rfl rfl ?_
        refine ev_goto (p2 := 18) rfl rfl ?_
        refine ih mem2 (k + 1) (by omega) (fun q hq => by rw [hm, am_up_ne hq]; exact hf q hq) (fun j hj => ?_) (fun i hi => ?_) _ hQ
        · rw [hm]
          by_cases e : j = k
          · rw [e, am_up_eq]
            unfold fb
            first
            | rw [if_pos (show k < 4 by omega)]; rfl
            | rw [if_neg (show ¬ k < 4 by omega), if_pos (show k < 8 by omega)]; rfl
            | rw [if_neg (show ¬ k < 4 by omega), if_neg (show ¬ k < 8 by omega)]; rfl
          · rw [am_up_nk (by omega)]; exact hz j (by omega)
        · rw [hm, am_up_nk (by omega)]; exact ho i hi
theorem c_X12_feed {d n : Nat} {mem : am_M} {Q : am_P} (tl : Nat) (htl : tl ≤ 96) (h6 : mem 221 6 = nI tl) (a b c : Int32) (hQ1 : 84 < tl → Q (some (.int S_FULL)) (am_SK n) mem) (hQ : tl ≤ 84 → ∀ m2 : am_M, (∀ q, q ≠ 226 → q ≠ 221 → m2 q = mem q) → (∀ j, j < 12 → m2 226 (tl + j) = fb a b c j) → (∀ i, i < tl → m2 226 i = mem 226 i) → m2 221 6 = nI (tl + 12) → (∀ i, i ≠ 6 → m2 221 i = mem 221 i) → Q (some (.int (nI (tl + 12)))) (am_SK n) m2) : am_ex (d + 1) 183 [.ref 221, .int a, .int b, .int c] (am_SK n) mem Q := by
  refine ex_in (c0 := kc_X12_feed) rfl (L := [some (.ref 221), some (.int a), some (.int b), some (.int c), none, none]) rfl ?_
  refine ev_aload rfl rfl ?_
  refine ev_getI (c := 12) (j := 6) rfl ?_ (hq := k_221 n)
  rw [h6]
  refine ev_iconst (x := nI 12) rfl rfl ?_
  refine ev_iaddN rfl ?_
  refine ev_iconst (x := nI 96) rfl rfl ?_
  refine ev_icmp_leN (p2 := 15) rfl rfl (fun cnd9 => ?_) (fun cnd9 => ?_)
  · skip
    refine ev_iconst (x := nI 0) rfl rfl ?_
    refine ev_istore rfl rfl (Nat.le_of_ble_eq_true rfl) ?_
    exact l_X12_feed tl (by omega) a b c h6 12 mem 0 rfl (fun _ _ => rfl) (fun j hj => absurd hj (Nat.not_lt_zero j)) (fun _ _ => rfl) _ (hQ (by omega))
  · skip
    refine ev_iconst (x := (-1000000003)) rfl rfl ?_
    refine ev_iret rfl ?_
    exact hQ1 (by omega)
theorem l_X5_take {d n : Nat} {mem : am_M} {Q : am_P} (x : Int32) (tl : Nat) (htl : tl < 96) (h1 : mem 62 1 = nI tl) (dn : Nat) (hd : dn < 100) (hQ : ∀ m2 : am_M, (∀ q, q ≠ 62 → q ≠ 63 → m2 q = mem q) → m2 62 1 = nI (tl + 1) → m2 63 = upd (mem 63) tl ((x.toUInt32 >>> ((nI dn).toUInt32 &&& Int32.toUInt32 31)).toInt32 &&& nI 255) → am_ev kc_X5_takeBytes d 3 [some (.ref 62), some (.int x), some (.int (nI dn + Int32.ofInt (-8)))] [] (am_SK n) m2 Q) : am_ev kc_X5_takeBytes d 3 [some (.ref 62), some (.int x), some (.int (nI dn))] [] (am_SK n) mem Q := by
  refine ev_iload rfl rfl ?_
  refine ev_if_ltN rfl ?_
  refine ev_aload rfl rfl ?_
  refine ev_getI (c := 5) (j := 1) rfl ?_ (hq := k_62 n)
  rw [h1]
  refine ev_iconst (x := nI 96) rfl rfl ?_
  refine ev_icmp_geN (p2 := 48) rfl rfl (fun cnd13 => ?_) (fun cnd13 => ?_)
  · omega
  · skip
    refine ev_aload rfl rfl ?_
    refine ev_getR (c := 5) (j := 0) rfl ?_ (hq := k_62 n)
    refine ev_aload rfl rfl ?_
    refine ev_getI (c := 5) (j := 1) rfl ?_ (hq := k_62 n)
    rw [h1]
    refine ev_iload rfl rfl ?_
    refine ev_iload rfl rfl ?_
    refine ev_iushr rfl ?_
    refine ev_iconst (x := nI 255) rfl rfl ?_
    refine ev_iand rfl ?_
    refine ev_iastN rfl rfl ?_ (hq := k_63 n)
    refine ev_aload rfl rfl ?_
    first | refine ev_dupR rfl ?_ | refine ev_dupI rfl ?_
    refine ev_getI (c := 5) (j := 1) rfl ?_ (hq := k_62 n)
    rw [am_up_ne (show (62 : Nat) ≠ 63 by decide), h1]
    refine ev_iconst (x := nI 1) rfl rfl ?_
    refine ev_iaddN rfl ?_
    refine ev_put (c := 5) (j := 1) rfl ?_ (hq := k_62 n)
    refine ev_iinc rfl rfl rfl rfl ?_
    refine ev_goto (p2 := 3) rfl rfl ?_
    exact hQ _ (fun q g1 g2 => by rw [am_up_ne g1, am_up_ne g2]) am_up_eq (by rw [am_up_ne (by decide), am_up_row])
theorem c_X5_takeBytes {d n : Nat} {mem : am_M} {Q : am_P} (x : Int32) (tl : Nat) (htl : tl + 4 ≤ 96) (h1 : mem 62 1 = nI tl) (hQ : ∀ m2 : am_M, (∀ q, q ≠ 62 → q ≠ 63 → m2 q = mem q) → m2 62 1 = nI (tl + 4) → (∀ i, i < tl → m2 63 i = mem 63 i) → (∀ j, j < 4 → m2 63 (tl + j) = bt x j) → Q none (am_SK n) m2) : am_ex (d + 1) 23 [.ref 62, .int x] (am_SK n) mem Q := by
  refine ex_in (c0 := kc_X5_takeBytes) rfl (L := [some (.ref 62), some (.int x), none]) rfl ?_
  refine ev_iconst (x := nI 24) rfl rfl ?_
  refine ev_istore rfl rfl (Nat.le_of_ble_eq_true rfl) ?_
  refine l_X5_take x tl (by omega) h1 24 (by decide) (fun ma a1 a2 a3 => ?_)
  refine l_X5_take x (tl + 1) (by omega) a2 16 (by decide) (fun mb b1 b2 b3 => ?_)
  refine l_X5_take x (tl + 1 + 1) (by omega) b2 8 (by decide) (fun mc c1 c2 c3 => ?_)
  refine l_X5_take x (tl + 1 + 1 + 1) (by omega) c2 0 (by decide) (fun me e1 e2 e3 => ?_)
  refine ev_iload rfl rfl ?_
  refine ev_if_lt (p2 := 48) rfl rfl (fun _ => ?_) (fun zz => absurd (by decide) zz)
  refine ev_vret rfl ?_
  have t0 := bt_c x 0 (by decide)
  have t1 := bt_c x 1 (by decide)
  have t2 := bt_c x 2 (by decide)
  have t3 := bt_c x 3 (by decide)
  refine hQ me (fun q g1 g2 => by rw [e1 q g1 g2, c1 q g1 g2, b1 q g1 g2, a1 q g1 g2]) e2 (fun i hi => ?_) (fun j hj => ?_)
  · rw [e3, upd_ne (by omega), c3, upd_ne (by omega), b3, upd_ne (by omega), a3, upd_ne (by omega)]
  · match j, hj with
    | 0, _ => rw [e3, upd_ne (by omega), c3, upd_ne (by omega), b3, upd_ne (by omega), a3]; exact upd_eq.trans t0
    | 1, _ => rw [e3, upd_ne (by omega), c3, upd_ne (by omega), b3]; exact upd_eq.trans t1
    | 2, _ => rw [e3, upd_ne (by omega), c3]; exact upd_eq.trans t2
    | 3, _ => rw [e3]; exact upd_eq.trans t3
theorem c_X11_feed {d n : Nat} {mem : am_M} {Q : am_P} (tl : Nat) (htl : tl ≤ 96) (h1 : mem 62 1 = nI tl) (a b c : Int32) (hQ1 : 84 < tl → Q (some (.int S_FULL)) (am_SK n) mem) (hQ : tl ≤ 84 → ∀ m2 : am_M, (∀ q, q ≠ 62 → q ≠ 63 → m2 q = mem q) → m2 62 1 = nI (tl + 12) → (∀ i, i < tl → m2 63 i = mem 63 i) → (∀ j, j < 12 → m2 63 (tl + j) = fb a b c j) → Q (some (.int (nI (tl + 12)))) (am_SK n) m2) : am_ex (d + 2) 98 [.ref 29, .int a, .int b, .int c] (am_SK n) mem Q := by
  refine ex_in (c0 := kc_X11_feed) rfl (L := [some (.ref 29), some (.int a), some (.int b), some (.int c)]) rfl ?_
  refine ev_aload rfl rfl ?_
  refine ev_getR (c := 11) (j := 1) rfl ?_ (hq := k_29 n)
  refine ev_getI (c := 5) (j := 1) rfl ?_ (hq := k_62 n)
  rw [h1]
  refine ev_iconst (x := nI 84) rfl rfl ?_
  refine ev_icmp_leN (p2 := 15) rfl rfl (fun cnd9 => ?_) (fun cnd9 => ?_)
  · skip
    refine ev_aload rfl rfl ?_
    refine ev_getR (c := 11) (j := 1) rfl ?_ (hq := k_29 n)
    refine ev_iload rfl rfl ?_
    refine ev_call rfl rfl ?_
    refine c_X5_takeBytes _ tl (by omega) h1 (fun ma a1 a2 a3 a4 => ?_)
    change am_ev _ _ _ _ [] _ _ _
    refine ev_aload rfl rfl ?_
    refine ev_getR (c := 11) (j := 1) rfl ?_ (hq := k_29 n)
    refine ev_iload rfl rfl ?_
    refine ev_call rfl rfl ?_
    refine c_X5_takeBytes _ (tl + 4) (by omega) a2 (fun mb b1 b2 b3 b4 => ?_)
    change am_ev _ _ _ _ [] _ _ _
    refine ev_aload rfl rfl ?_
    refine ev_getR (c := 11) (j := 1) rfl ?_ (hq := k_29 n)
    refine ev_iload rfl rfl ?_
    refine ev_call rfl rfl ?_
    refine c_X5_takeBytes _ (tl + 4 + 4) (by omega) b2 (fun mc c1 c2 c3 c4 => ?_)
    change am_ev _ _ _ _ [] _ _ _
    refine ev_aload rfl rfl ?_
    refine ev_getR (c := 11) (j := 1) rfl ?_ (hq := k_29 n)
    refine ev_getI (c := 5) (j := 1) rfl ?_ (hq := k_62 n)
    rw [c2]
    refine ev_iret rfl ?_
    refine hQ (by omega) mc (fun q g1 g2 => by rw [c1 q g1 g2, b1 q g1 g2, a1 q g1 g2]) c2 (fun i hi => by rw [c3 i (by omega), b3 i (by omega), a3 i hi]) (fun j hj => ?_)
    unfold fb
    by_cases h4 : j < 4
    · rw [if_pos h4, c3 _ (by omega), b3 _ (by omega), a4 j h4, Nat.mod_eq_of_lt h4]
    · rw [if_neg h4]
      by_cases h8 : j < 8
      · rw [if_pos h8, c3 _ (by omega), show tl + j = tl + 4 + (j - 4) by omega, b4 _ (by omega), show j % 4 = j - 4 by omega]
      · rw [if_neg h8, show tl + j = tl + 4 + 4 + (j - 8) by omega, c4 _ (by omega), show j % 4 = j - 8 by omega]
  · skip
    refine ev_iconst (x := (-1000000003)) rfl rfl ?_
    refine ev_iret rfl ?_
    exact hQ1 (by omega)
theorem pub_feed {xs : am_R} {d n : Nat} {mem : am_M} {Q : am_P} (hI : Inv xs mem) (a : Int32) (b : Int32) (c : Int32) (hQ : ∀ (rv : Int32) (m1 : am_M), RefA xs (d + 200) n 183 [.ref 221, .int a, .int b, .int c] rv m1 → Q (some (.int rv)) (am_SK n) m1) : am_ex (d + 200) 98 [.ref 29, .int a, .int b, .int c] (am_SK n) mem Q := by
  obtain ⟨tl, htl, h1, h2, hk⟩ := hI.2.2.2.1
  refine c_X11_feed tl htl h1 a b c (fun h0 => hQ _ _ (fun Q2 g2 => ?_)) (fun h0 m1 f1 f2 f3 f4 => hQ _ _ (fun Q2 g2 => ?_))
  · exact c_X12_feed tl htl h2 a b c (fun _ => g2 _ hI) (fun z => absurd h0 (by omega))
  · refine c_X12_feed tl htl (by rw [f1 221 (by decide) (by decide)]; exact h2) a b c (fun z => absurd z (by omega)) (fun _ m2 k1 k2 k3 k4 k5 => g2 _ ?_)
    refine Inv_tp_fr hI (fun q hq => by rw [k1 q (by omega) (by omega), f1 q (by omega) (by omega)]) (fun k hk => by rw [k5 k (by omega), f1 221 (by decide) (by decide)]) ?_
    refine ⟨tl + 12, by omega, by rw [k1 62 (by decide) (by decide)]; exact f2, k4, fun k hk2 => ?_⟩
    rw [k1 63 (by decide) (by decide)]
    by_cases e : k < tl
    · rw [f3 k e, k3 k e, f1 226 (by decide) (by decide)]; exact hk k e
    · have e4 := f4 (k - tl) (by omega)
      have e2 := k2 (k - tl) (by omega)
      rw [show tl + (k - tl) = k by omega] at e4 e2
      rw [e4, e2]
      exact ⟨rfl, and255 _⟩
