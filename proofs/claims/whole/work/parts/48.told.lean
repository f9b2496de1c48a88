/-! what is told of cabinets, joints, lamps; both sides -/
def S_jT (R : am_R) (j : Nat) : Nat → Int32
  | 0 => R (41 + 3 * j)
  | 1 => R (41 + 3 * j + 1)
  | 2 => nI (S_cab R j)
  | 3 => R (41 + 3 * j + 2)
  | _ => S_sumF (S_at R (nI j)) (nn (R 5)) 0 (nI 0)
def X_jTold (R : am_R) (p w : Int32) : Int32 := if P_i p (R 4) ∧ (nI 0 ≤ w ∧ w ≤ nI 4) then S_jT R (nn p) (nn w) else S_BAD
def S_lT (R : am_R) (l : Nat) : Nat → Int32
  | 6 => ob (S_fed R l)
  | 7 => ob (S_should R l)
  | 8 => ob (S_burns R l)
  | 9 => S_draw R l
  | 10 => S_wear (R (77 + 7 * l))
  | 11 => S_life R l
  | 12 => R (77 + 7 * l + 6)
  | w => R (77 + 7 * l + w)
def X_told (R : am_R) (p w : Int32) : Int32 := if P_i p (R 5) ∧ (nI 0 ≤ w ∧ w ≤ nI 12) then S_lT R (nn p) (nn w) else S_BAD
def X_textTold (R : am_R) (p w : Int32) : Int32 := if P_i p (R 6) ∧ (nI 0 ≤ w ∧ w ≤ nI 1) then (if nn w = 0 then nI (S_key R (nn p)) else R (190 + 2 * nn p)) else S_BAD
def X_why (R : am_R) (k : Int32) : Int32 := if nI 0 ≤ k ∧ k ≤ nI 3 then S_cntN (S_cnt R (nn k) (nn (R 6))) else S_BAD
def S_ct (R : am_R) (wt tp : Int32) : Nat → Int32
  | 0 => R 3
  | 1 => R 4
  | 2 => R 5
  | 3 => S_sumF (S_out R) (nn (R 5)) 0 (nI 0)
  | 4 => S_sumF (S_jbk R) (nn (R 4)) 0 (S_sumF (S_cbk R) (nn (R 3)) 0 (nI 0))
  | 5 => R 6
  | 6 => R 7
  | 7 => R 8
  | 8 => S_sumF (S_drk R) (nn (R 5)) 0 (nI 0)
  | 9 => R 0
  | 10 => R 1
  | 11 => wt
  | _ => tp
def X_count (R : am_R) (wt tp w : Int32) : Int32 := if nI 0 ≤ w ∧ w ≤ nI 12 then S_ct R wt tp (nn w) else S_BAD
theorem l_X12_bm2 {d n : Nat} {Q : am_P} {R : am_R} (hw : wfR R) (hT : wfTs R) (r : Nat) : ∀ (mem : am_M) (hR : mem 222 = R) (k : Nat) (sum : Int32) (hk : k + r = nn (R 4)) (hQ : ∀ m2 : am_M, FrR mem m2 → m2 222 = R → Q (some (.int (S_sumF (S_jbk R) r k sum))) (am_SK n) m2), am_ev kc_X12_brokenMany (d + 2) 31 [some (.ref 221), some (.int sum), some (.int (nI k))] [] (am_SK n) mem Q := by
  induction r with
  | zero =>
    intro mem hR k sum hk hQ
    have hb := wb_all hw
    refine ev_iload rfl rfl ?_
    refine ev_aload rfl rfl ?_
    refine ev_getR (c := 12) (j := 0) rfl ?_ (hq := k_221 n)
    refine ev_iconst (x := nI 4) rfl rfl ?_
    refine ev_ialdN rfl rfl ?_ (hq := k_222 n)
    rw [show mem 222 (4) = nI (nn (R 4)) by rw [hR]; (repeat rw [upd_ne (by omega)]); exact wr4 hw]
    refine ev_icmp_geN (p2 := 56) rfl rfl (fun cnd38 => ?_) (fun cnd38 => ?_)
    · skip
      refine ev_iload rfl rfl ?_
      refine ev_iret rfl ?_
      exact hQ mem (FrR_refl _) hR
    · omega
  | succ r ih =>
    intro mem hR k sum hk hQ
    have hb := wb_all hw
    refine ev_iload rfl rfl ?_
    refine ev_aload rfl rfl ?_
    refine ev_getR (c := 12) (j := 0) rfl ?_ (hq := k_221 n)
    refine ev_iconst (x := nI 4) rfl rfl ?_
    refine ev_ialdN rfl rfl ?_ (hq := k_222 n)
    rw [show mem 222 (4) = nI (nn (R 4)) by rw [hR]; (repeat rw [upd_ne (by omega)]); exact wr4 hw]
    refine ev_icmp_geN (p2 := 56) rfl rfl (fun cnd38 => ?_) (fun cnd38 => ?_)
    · omega
    · skip
      refine ev_iload rfl rfl ?_
      refine ev_aload rfl rfl ?_
      refine ev_iload rfl rfl ?_
      refine ev_iconst (x := nI 2) rfl rfl ?_
      refine ev_call rfl rfl ?_
      refine r_joint3 hR k 2 (by omega) rfl ?_
      change am_ev _ _ _ _ (_ :: _) _ _ _
      refine ev_iadd rfl ?_
      refine ev_istore rfl rfl (Nat.le_of_ble_eq_true rfl) ?_
      refine ev_iincN rfl rfl rfl ?_
      refine ev_goto (p2 := 31) rfl rfl ?_
      exact ih _ hR (k + 1) _ (by omega) hQ
theorem l_X12_bm1 {d n : Nat} {Q : am_P} {R : am_R} (hw : wfR R) (hT : wfTs R) (r : Nat) : ∀ (mem : am_M) (hR : mem 222 = R) (k : Nat) (sum : Int32) (hk : k + r = nn (R 3)) (hQ : ∀ m2 : am_M, FrR mem m2 → m2 222 = R → Q (some (.int (S_sumF (S_jbk R) (nn (R 4)) 0 (S_sumF (S_cbk R) r k sum)))) (am_SK n) m2), am_ev kc_X12_brokenMany (d + 2) 4 [some (.ref 221), some (.int sum), some (.int (nI k))] [] (am_SK n) mem Q := by
  induction r with
  | zero =>
    intro mem hR k sum hk hQ
    have hb := wb_all hw
    refine ev_iload rfl rfl ?_
    refine ev_aload rfl rfl ?_
    refine ev_getR (c := 12) (j := 0) rfl ?_ (hq := k_221 n)
    refine ev_iconst (x := nI 3) rfl rfl ?_
    refine ev_ialdN rfl rfl ?_ (hq := k_222 n)
    rw [show mem 222 (3) = nI (nn (R 3)) by rw [hR]; (repeat rw [upd_ne (by omega)]); exact wr3 hw]
    refine ev_icmp_geN (p2 := 29) rfl rfl (fun cnd11 => ?_) (fun cnd11 => ?_)
    · skip
      refine ev_iconst (x := nI 0) rfl rfl ?_
      refine ev_istore rfl rfl (Nat.le_of_ble_eq_true rfl) ?_
      exact l_X12_bm2 hw hT _ mem hR 0 _ (Nat.zero_add _) hQ
    · omega
  | succ r ih =>
    intro mem hR k sum hk hQ
    have hb := wb_all hw
    refine ev_iload rfl rfl ?_
    refine ev_aload rfl rfl ?_
    refine ev_getR (c := 12) (j := 0) rfl ?_ (hq := k_221 n)
    refine ev_iconst (x := nI 3) rfl rfl ?_
    refine ev_ialdN rfl rfl ?_ (hq := k_222 n)
    rw [show mem 222 (3) = nI (nn (R 3)) by rw [hR]; (repeat rw [upd_ne (by omega)]); exact wr3 hw]
    refine ev_icmp_geN (p2 := 29) rfl rfl (fun cnd11 => ?_) (fun cnd11 => ?_)
    · omega
    · skip
      refine ev_iload rfl rfl ?_
      refine ev_aload rfl rfl ?_
      refine ev_iload rfl rfl ?_
      refine ev_iconst (x := nI 4) rfl rfl ?_
      refine ev_call rfl rfl ?_
      refine r_cab6 hR k 4 (by omega) rfl ?_
      change am_ev _ _ _ _ (_ :: _) _ _ _
      refine ev_iadd rfl ?_
      refine ev_istore rfl rfl (Nat.le_of_ble_eq_true rfl) ?_
      refine ev_iincN rfl rfl rfl ?_
      refine ev_goto (p2 := 4) rfl rfl ?_
      exact ih _ hR (k + 1) _ (by omega) hQ
theorem c_X12_brokenMany {d n : Nat} {mem : am_M} {Q : am_P} {R : am_R} (hR : mem 222 = R) (hw : wfR R) (hT : wfTs R) (hQ : ∀ m2 : am_M, FrR mem m2 → m2 222 = R → Q (some (.int (S_sumF (S_jbk R) (nn (R 4)) 0 (S_sumF (S_cbk R) (nn (R 3)) 0 (nI 0))))) (am_SK n) m2) : am_ex (d + 3) 234 [.ref 221] (am_SK n) mem Q := by
  refine ex_in (c0 := kc_X12_brokenMany) rfl (L := [some (.ref 221), none, none]) rfl ?_
  refine ev_iconst (x := nI 0) rfl rfl ?_
  refine ev_istore rfl rfl (Nat.le_of_ble_eq_true rfl) ?_
  refine ev_iconst (x := nI 0) rfl rfl ?_
  refine ev_istore rfl rfl (Nat.le_of_ble_eq_true rfl) ?_
  exact l_X12_bm1 hw hT _ mem hR 0 (nI 0) (Nat.zero_add _) hQ
theorem l_X12_jT {d n : Nat} {Q : am_P} {R : am_R} (hw : wfR R) (c : Nat) (hc : c < 1000) (x : Option Value) (r : Nat) : ∀ (mem : am_M) (hR : mem 222 = R) (k : Nat) (sum : Int32) (hk : k + r = nn (R 5)) (hQ : ∀ m2 : am_M, FrR mem m2 → m2 222 = R → Q (some (.int (S_sumF (S_at R (nI c)) r k sum))) (am_SK n) m2), am_ev kc_X12_jointTold (d + 2) 62 [some (.ref 221), some (.int (nI c)), x, some (.int sum), some (.int (nI k))] [] (am_SK n) mem Q := by
  induction r with
  | zero =>
    intro mem hR k sum hk hQ
    have hb := wb_all hw
    refine ev_iload rfl rfl ?_
    refine ev_aload rfl rfl ?_
    refine ev_getR (c := 12) (j := 0) rfl ?_ (hq := k_221 n)
    refine ev_iconst (x := nI 5) rfl rfl ?_
    refine ev_ialdN rfl rfl ?_ (hq := k_222 n)
    rw [show mem 222 (5) = nI (nn (R 5)) by rw [hR]; (repeat rw [upd_ne (by omega)]); exact wr5 hw]
    refine ev_icmp_geN (p2 := 98) rfl rfl (fun cnd70 => ?_) (fun cnd70 => ?_)
    · skip
      refine ev_iload rfl rfl ?_
      refine ev_iret rfl ?_
      exact hQ mem (FrR_refl _) hR
    · omega
  | succ r ih =>
    intro mem hR k sum hk hQ
    have hb := wb_all hw
    have hj2 := (hw.2.2.2.2.1 k (by omega)).2.1
    have hj3 := hj2.2
    refine ev_iload rfl rfl ?_
    refine ev_aload rfl rfl ?_
    refine ev_getR (c := 12) (j := 0) rfl ?_ (hq := k_221 n)
    refine ev_iconst (x := nI 5) rfl rfl ?_
    refine ev_ialdN rfl rfl ?_ (hq := k_222 n)
    rw [show mem 222 (5) = nI (nn (R 5)) by rw [hR]; (repeat rw [upd_ne (by omega)]); exact wr5 hw]
    refine ev_icmp_geN (p2 := 98) rfl rfl (fun cnd70 => ?_) (fun cnd70 => ?_)
    · omega
    · skip
      refine ev_iload rfl rfl ?_
      refine ev_aload rfl rfl ?_
      refine ev_iload rfl rfl ?_
      refine ev_iconst (x := nI 1) rfl rfl ?_
      refine ev_call rfl rfl ?_
      refine r_lamp7 hR k 1 (by omega) ((hw.2.2.2.2.1 k (by omega)).2.1.1) ?_
      change am_ev _ _ _ _ (_ :: _) _ _ _
      refine ev_iload rfl rfl ?_
      refine ev_icmp_neN (p2 := 89) rfl rfl (fun cnd82 => ?_) (fun cnd82 => ?_)
      · skip
        refine ev_iconst (x := nI 0) rfl rfl ?_
        refine ev_iadd rfl ?_
        refine ev_istore rfl rfl (Nat.le_of_ble_eq_true rfl) ?_
        refine ev_iincN rfl rfl rfl ?_
        refine ev_goto (p2 := 62) rfl rfl ?_
        first
        | (rw [show S_sumF (S_at R (nI c)) (r + 1) k sum = S_sumF (S_at R (nI c)) r (k + 1) (sum + nI 1) from congrArg (fun z => S_sumF (S_at R (nI c)) r (k + 1) (sum + z)) (if_pos (by rw [hj2.1, cnd82]))] at hQ
           exact ih _ hR (k + 1) _ (by omega) hQ)
        | (rw [show S_sumF (S_at R (nI c)) (r + 1) k sum = S_sumF (S_at R (nI c)) r (k + 1) (sum + nI 0) from congrArg (fun z => S_sumF (S_at R (nI c)) r (k + 1) (sum + z)) (if_neg (by rw [hj2.1]; exact fun z => cnd82 ((nI_eq (by omega) (by omega)).mp z)))] at hQ
           exact ih _ hR (k + 1) _ (by omega) hQ)
      · skip
        refine ev_iconst (x := nI 1) rfl rfl ?_
        refine ev_goto (p2 := 90) rfl rfl ?_
        refine ev_iadd rfl ?_
        refine ev_istore rfl rfl (Nat.le_of_ble_eq_true rfl) ?_
        refine ev_iincN rfl rfl rfl ?_
        refine ev_goto (p2 := 62) rfl rfl ?_
        first
        | (rw [show S_sumF (S_at R (nI c)) (r + 1) k sum = S_sumF (S_at R (nI c)) r (k + 1) (sum + nI 1) from congrArg (fun z => S_sumF (S_at R (nI c)) r (k + 1) (sum + z)) (if_pos (by rw [hj2.1, cnd82]))] at hQ
           exact ih _ hR (k + 1) _ (by omega) hQ)
        | (rw [show S_sumF (S_at R (nI c)) (r + 1) k sum = S_sumF (S_at R (nI c)) r (k + 1) (sum + nI 0) from congrArg (fun z => S_sumF (S_at R (nI c)) r (k + 1) (sum + z)) (if_neg (by rw [hj2.1]; exact fun z => cnd82 ((nI_eq (by omega) (by omega)).mp z)))] at hQ
           exact ih _ hR (k + 1) _ (by omega) hQ)
theorem c_X12_jointTold {d n : Nat} {mem : am_M} {Q : am_P} {R : am_R} (hR : mem 222 = R) (hw : wfR R) (hT : wfTs R) (p w : Int32) (hQ : ∀ m2 : am_M, FrR mem m2 → m2 222 = R → Q (some (.int (X_jTold R p w))) (am_SK n) m2) : am_ex (d + 3) 167 [.ref 221, .int p, .int w] (am_SK n) mem Q := by
  have hb := wb_all hw
  have hfr := Hfr0 mem
  unfold X_jTold at hQ
  refine ex_in (c0 := kc_X12_jointTold) rfl (L := [some (.ref 221), some (.int p), some (.int w), none, none]) rfl ?_
  refine ev_aload rfl rfl ?_
  refine ev_iload rfl rfl ?_
  refine ev_call rfl rfl ?_
  refine r_isJoint hR _ ?_
  change am_ev _ _ _ _ (_ :: _) _ _ _
  refine ev_if_eqB (p2 := 17) rfl rfl (fun cnd5 => ?_) (fun cnd5 => ?_)
  · skip
    refine ev_iconst (x := (-1000000001)) rfl rfl ?_
    refine ev_iret rfl ?_
    first
    | (rw [if_neg (fun z => cnd5 z.1)] at hQ; exact hQ mem (FrR_refl _) hR)
    | (rw [if_neg (fun z => cnd14 z.2)] at hQ; exact hQ mem (FrR_refl _) hR)
  · skip
    refine ev_iload rfl rfl ?_
    refine ev_iconst (x := nI 0) rfl rfl ?_
    refine ev_iconst (x := nI 4) rfl rfl ?_
    refine ev_call rfl rfl ?_
    refine c_X12_in _ _ _ ?_
    change am_ev _ _ _ _ (_ :: _) _ _ _
    refine ev_if_neB (p2 := 20) rfl rfl (fun cnd14 => ?_) (fun cnd14 => ?_)
    · skip
      rw [if_pos (And.intro cnd5 cnd14)] at hQ
      obtain ⟨ep, hp⟩ := am_idx (wr4 hw) (by omega) cnd5
      obtain ⟨ew, hw9⟩ := am_rng (by decide) cnd14
      clear cnd5 cnd14
      generalize nn p = c at ep hp hQ
      generalize nn w = a at ew hw9 hQ
      subst ep
      subst ew
      rcases (show a = 0 ∨ a = 1 ∨ a = 2 ∨ a = 3 ∨ a = 4 by omega) with rfl | rfl | rfl | rfl | rfl
      · skip
        refine ev_iload rfl rfl ?_
        refine ev_iconst (x := nI 2) rfl rfl ?_
        refine ev_icmp_geN (p2 := 32) rfl rfl (fun zz => absurd zz (by decide)) (fun _ => ?_)
        refine ev_aload rfl rfl ?_
        refine ev_iload rfl rfl ?_
        refine ev_iload rfl rfl ?_
        refine ev_call rfl rfl ?_
        refine r_joint3 hR c 0 (by omega) rfl ?_
        change am_ev _ _ _ _ (_ :: _) _ _ _
        refine ev_iret rfl ?_
        exact hQ mem (FrR_refl _) hR
      · skip
        refine ev_iload rfl rfl ?_
        refine ev_iconst (x := nI 2) rfl rfl ?_
        refine ev_icmp_geN (p2 := 32) rfl rfl (fun zz => absurd zz (by decide)) (fun _ => ?_)
        refine ev_aload rfl rfl ?_
        refine ev_iload rfl rfl ?_
        refine ev_iload rfl rfl ?_
        refine ev_call rfl rfl ?_
        refine r_joint3 hR c 1 (by omega) rfl ?_
        change am_ev _ _ _ _ (_ :: _) _ _ _
        refine ev_iret rfl ?_
        exact hQ mem (FrR_refl _) hR
      · skip
        refine ev_iload rfl rfl ?_
        refine ev_iconst (x := nI 2) rfl rfl ?_
        refine ev_icmp_geN (p2 := 32) rfl rfl (fun _ => ?_) (fun zz => absurd zz (by decide))
        refine ev_iload rfl rfl ?_
        refine ev_iconst (x := nI 4) rfl rfl ?_
        refine ev_icmp_geN (p2 := 57) rfl rfl (fun zz => absurd zz (by decide)) (fun _ => ?_)
        refine ev_iload rfl rfl ?_
        refine ev_iconst (x := nI 2) rfl rfl ?_
        refine ev_icmp_neN (p2 := 50) rfl rfl (fun zz => absurd zz (by decide)) (fun _ => ?_)
        refine ev_aload rfl rfl ?_
        refine ev_iload rfl rfl ?_
        refine ev_call rfl rfl ?_
        refine r_cabOf hR hw c (by omega) ?_
        change am_ev _ _ _ _ (_ :: _) _ _ _
        refine ev_goto (p2 := 56) rfl rfl ?_
        refine ev_iret rfl ?_
        exact hQ mem (FrR_refl _) hR
      · skip
        refine ev_iload rfl rfl ?_
        refine ev_iconst (x := nI 2) rfl rfl ?_
        refine ev_icmp_geN (p2 := 32) rfl rfl (fun _ => ?_) (fun zz => absurd zz (by decide))
        refine ev_iload rfl rfl ?_
        refine ev_iconst (x := nI 4) rfl rfl ?_
        refine ev_icmp_geN (p2 := 57) rfl rfl (fun zz => absurd zz (by decide)) (fun _ => ?_)
        refine ev_iload rfl rfl ?_
        refine ev_iconst (x := nI 2) rfl rfl ?_
        refine ev_icmp_neN (p2 := 50) rfl rfl (fun _ => ?_) (fun zz => absurd zz (by decide))
        refine ev_aload rfl rfl ?_
        refine ev_iload rfl rfl ?_
        refine ev_iconst (x := nI 2) rfl rfl ?_
        refine ev_call rfl rfl ?_
        refine r_joint3 hR c 2 (by omega) rfl ?_
        change am_ev _ _ _ _ (_ :: _) _ _ _
        refine ev_iret rfl ?_
        exact hQ mem (FrR_refl _) hR
      · skip
        refine ev_iload rfl rfl ?_
        refine ev_iconst (x := nI 2) rfl rfl ?_
        refine ev_icmp_geN (p2 := 32) rfl rfl (fun _ => ?_) (fun zz => absurd zz (by decide))
        refine ev_iload rfl rfl ?_
        refine ev_iconst (x := nI 4) rfl rfl ?_
        refine ev_icmp_geN (p2 := 57) rfl rfl (fun _ => ?_) (fun zz => absurd zz (by decide))
        refine ev_iconst (x := nI 0) rfl rfl ?_
        refine ev_istore rfl rfl (Nat.le_of_ble_eq_true rfl) ?_
        refine ev_iconst (x := nI 0) rfl rfl ?_
        refine ev_istore rfl rfl (Nat.le_of_ble_eq_true rfl) ?_
        exact l_X12_jT hw c (by omega) _ _ mem hR 0 (nI 0) (Nat.zero_add _) hQ
    · skip
      refine ev_iconst (x := (-1000000001)) rfl rfl ?_
      refine ev_iret rfl ?_
      first
      | (rw [if_neg (fun z => cnd5 z.1)] at hQ; exact hQ mem (FrR_refl _) hR)
      | (rw [if_neg (fun z => cnd14 z.2)] at hQ; exact hQ mem (FrR_refl _) hR)
theorem c_X12_told {d n : Nat} {mem : am_M} {Q : am_P} {R : am_R} (hR : mem 222 = R) (hw : wfR R) (hT : wfTs R) (p w : Int32) (hQ : ∀ m2 : am_M, FrR mem m2 → m2 222 = R → Q (some (.int (X_told R p w))) (am_SK n) m2) : am_ex (d + 6) 169 [.ref 221, .int p, .int w] (am_SK n) mem Q := by
  have hb := wb_all hw
  have hfr := Hfr0 mem
  unfold X_told at hQ
  refine ex_in (c0 := kc_X12_told) rfl (L := [some (.ref 221), some (.int p), some (.int w)]) rfl ?_
  refine ev_aload rfl rfl ?_
  refine ev_iload rfl rfl ?_
  refine ev_call rfl rfl ?_
  refine r_isLamp hR _ ?_
  change am_ev _ _ _ _ (_ :: _) _ _ _
  refine ev_if_eqB (p2 := 18) rfl rfl (fun cnd5 => ?_) (fun cnd5 => ?_)
  · skip
    refine ev_iconst (x := (-1000000001)) rfl rfl ?_
    refine ev_iret rfl ?_
    first
    | (rw [if_neg (fun z => cnd5 z.1)] at hQ; exact hQ mem (FrR_refl _) hR)
    | (rw [if_neg (fun z => cnd15 z.2)] at hQ; exact hQ mem (FrR_refl _) hR)
  · skip
    refine ev_iload rfl rfl ?_
    refine ev_iconst (x := nI 0) rfl rfl ?_
    refine ev_iconst (x := nI 12) rfl rfl ?_
    refine ev_call rfl rfl ?_
    refine c_X12_in _ _ _ ?_
    change am_ev _ _ _ _ (_ :: _) _ _ _
    refine ev_if_neB (p2 := 21) rfl rfl (fun cnd15 => ?_) (fun cnd15 => ?_)
    · skip
      rw [if_pos (And.intro cnd5 cnd15)] at hQ
      obtain ⟨ep, hp⟩ := am_idx (wr5 hw) (by omega) cnd5
      obtain ⟨ew, hw9⟩ := am_rng (by decide) cnd15
      clear cnd5 cnd15
      generalize nn p = c at ep hp hQ
      generalize nn w = a at ew hw9 hQ
      subst ep
      subst ew
      rcases (show a = 0 ∨ a = 1 ∨ a = 2 ∨ a = 3 ∨ a = 4 ∨ a = 5 ∨ a = 6 ∨ a = 7 ∨ a = 8 ∨ a = 9 ∨ a = 10 ∨ a = 11 ∨ a = 12 by omega) with rfl | rfl | rfl | rfl | rfl | rfl | rfl | rfl | rfl | rfl | rfl | rfl | rfl
      · refine ev_iload rfl rfl ?_
        refine ev_tswC (p2 := 136) rfl (by first | rfl | decide) rfl ?_
        refine ev_aload rfl rfl ?_
        refine ev_iload rfl rfl ?_
        refine ev_iload rfl rfl ?_
        refine ev_call rfl rfl ?_
        refine r_lamp7 hR c 0 (by omega) rfl ?_
        change am_ev _ _ _ _ (_ :: _) _ _ _
        refine ev_iret rfl ?_
        exact hQ mem (FrR_refl _) hR
      · refine ev_iload rfl rfl ?_
        refine ev_tswC (p2 := 136) rfl (by first | rfl | decide) rfl ?_
        refine ev_aload rfl rfl ?_
        refine ev_iload rfl rfl ?_
        refine ev_iload rfl rfl ?_
        refine ev_call rfl rfl ?_
        refine r_lamp7 hR c 1 (by omega) rfl ?_
        change am_ev _ _ _ _ (_ :: _) _ _ _
        refine ev_iret rfl ?_
        exact hQ mem (FrR_refl _) hR
      · refine ev_iload rfl rfl ?_
        refine ev_tswC (p2 := 136) rfl (by first | rfl | decide) rfl ?_
        refine ev_aload rfl rfl ?_
        refine ev_iload rfl rfl ?_
        refine ev_iload rfl rfl ?_
        refine ev_call rfl rfl ?_
        refine r_lamp7 hR c 2 (by omega) rfl ?_
        change am_ev _ _ _ _ (_ :: _) _ _ _
        refine ev_iret rfl ?_
        exact hQ mem (FrR_refl _) hR
      · refine ev_iload rfl rfl ?_
        refine ev_tswC (p2 := 136) rfl (by first | rfl | decide) rfl ?_
        refine ev_aload rfl rfl ?_
        refine ev_iload rfl rfl ?_
        refine ev_iload rfl rfl ?_
        refine ev_call rfl rfl ?_
        refine r_lamp7 hR c 3 (by omega) rfl ?_
        change am_ev _ _ _ _ (_ :: _) _ _ _
        refine ev_iret rfl ?_
        exact hQ mem (FrR_refl _) hR
      · refine ev_iload rfl rfl ?_
        refine ev_tswC (p2 := 136) rfl (by first | rfl | decide) rfl ?_
        refine ev_aload rfl rfl ?_
        refine ev_iload rfl rfl ?_
        refine ev_iload rfl rfl ?_
        refine ev_call rfl rfl ?_
        refine r_lamp7 hR c 4 (by omega) rfl ?_
        change am_ev _ _ _ _ (_ :: _) _ _ _
        refine ev_iret rfl ?_
        exact hQ mem (FrR_refl _) hR
      · refine ev_iload rfl rfl ?_
        refine ev_tswC (p2 := 136) rfl (by first | rfl | decide) rfl ?_
        refine ev_aload rfl rfl ?_
        refine ev_iload rfl rfl ?_
        refine ev_iload rfl rfl ?_
        refine ev_call rfl rfl ?_
        refine r_lamp7 hR c 5 (by omega) rfl ?_
        change am_ev _ _ _ _ (_ :: _) _ _ _
        refine ev_iret rfl ?_
        exact hQ mem (FrR_refl _) hR
      · refine ev_iload rfl rfl ?_
        refine ev_tswC (p2 := 64) rfl (by first | rfl | decide) rfl ?_
        refine ev_aload rfl rfl ?_
        refine ev_iload rfl rfl ?_
        refine ev_call rfl rfl ?_
        refine r_isFed hR hw c (by omega) ?_
        change am_ev _ _ _ _ (_ :: _) _ _ _
        refine ev_if_eqO (p2 := 76) rfl rfl (fun cnd69 => ?_) (fun cnd69 => ?_)
        · skip
          refine ev_iconst (x := nI 0) rfl rfl ?_
          refine ev_iret rfl ?_
          have hz := hQ mem (FrR_refl _) hR
          change Q (some (.int (ob (S_fed R c)))) _ _ at hz
          rw [cnd69] at hz
          exact hz
        · skip
          refine ev_iconst (x := nI 1) rfl rfl ?_
          refine ev_goto (p2 := 77) rfl rfl ?_
          refine ev_iret rfl ?_
          have hz := hQ mem (FrR_refl _) hR
          change Q (some (.int (ob (S_fed R c)))) _ _ at hz
          rw [cnd69] at hz
          exact hz
      · refine ev_iload rfl rfl ?_
        refine ev_tswC (p2 := 78) rfl (by first | rfl | decide) rfl ?_
        refine ev_aload rfl rfl ?_
        refine ev_iload rfl rfl ?_
        refine ev_call rfl rfl ?_
        refine r_shouldBurn hR hw c (by omega) ?_
        change am_ev _ _ _ _ (_ :: _) _ _ _
        refine ev_if_eqO (p2 := 90) rfl rfl (fun cnd83 => ?_) (fun cnd83 => ?_)
        · skip
          refine ev_iconst (x := nI 0) rfl rfl ?_
          refine ev_iret rfl ?_
          have hz := hQ mem (FrR_refl _) hR
          change Q (some (.int (ob (S_should R c)))) _ _ at hz
          rw [cnd83] at hz
          exact hz
        · skip
          refine ev_iconst (x := nI 1) rfl rfl ?_
          refine ev_goto (p2 := 91) rfl rfl ?_
          refine ev_iret rfl ?_
          have hz := hQ mem (FrR_refl _) hR
          change Q (some (.int (ob (S_should R c)))) _ _ at hz
          rw [cnd83] at hz
          exact hz
      · refine ev_iload rfl rfl ?_
        refine ev_tswC (p2 := 92) rfl (by first | rfl | decide) rfl ?_
        refine ev_aload rfl rfl ?_
        refine ev_iload rfl rfl ?_
        refine ev_call rfl rfl ?_
        refine r_burns hR hw c (by omega) ?_
        change am_ev _ _ _ _ (_ :: _) _ _ _
        refine ev_if_eqO (p2 := 104) rfl rfl (fun cnd97 => ?_) (fun cnd97 => ?_)
        · skip
          refine ev_iconst (x := nI 0) rfl rfl ?_
          refine ev_iret rfl ?_
          have hz := hQ mem (FrR_refl _) hR
          change Q (some (.int (ob (S_burns R c)))) _ _ at hz
          rw [cnd97] at hz
          exact hz
        · skip
          refine ev_iconst (x := nI 1) rfl rfl ?_
          refine ev_goto (p2 := 105) rfl rfl ?_
          refine ev_iret rfl ?_
          have hz := hQ mem (FrR_refl _) hR
          change Q (some (.int (ob (S_burns R c)))) _ _ at hz
          rw [cnd97] at hz
          exact hz
      · refine ev_iload rfl rfl ?_
        refine ev_tswC (p2 := 106) rfl (by first | rfl | decide) rfl ?_
        refine ev_aload rfl rfl ?_
        refine ev_iload rfl rfl ?_
        refine ev_call rfl rfl ?_
        refine r_draws hR hw hT c (by omega) (fun mem2 h2 => ?_)
        have hR := (h2 222 (by decide) (by decide)).trans hR
        change am_ev _ _ _ _ (_ :: _) _ _ _
        refine ev_iret rfl ?_
        exact hQ _ (FrR_sc h2) hR
      · refine ev_iload rfl rfl ?_
        refine ev_tswC (p2 := 112) rfl (by first | rfl | decide) rfl ?_
        refine ev_aload rfl rfl ?_
        refine ev_iload rfl rfl ?_
        refine ev_iconst (x := nI 0) rfl rfl ?_
        refine ev_call rfl rfl ?_
        refine r_lamp7 hR c 0 (by omega) rfl ?_
        change am_ev _ _ _ _ (_ :: _) _ _ _
        refine ev_call rfl rfl ?_
        refine c_X12_wearBy _ ?_
        change am_ev _ _ _ _ (_ :: _) _ _ _
        refine ev_iret rfl ?_
        exact hQ mem (FrR_refl _) hR
      · refine ev_iload rfl rfl ?_
        refine ev_tswC (p2 := 122) rfl (by first | rfl | decide) rfl ?_
        refine ev_aload rfl rfl ?_
        refine ev_iload rfl rfl ?_
        refine ev_call rfl rfl ?_
        refine r_lifeOf hR hw hT c (by omega) (fun mem2 h2 => ?_)
        have hR := (h2 222 (by decide) (by decide)).trans hR
        change am_ev _ _ _ _ (_ :: _) _ _ _
        refine ev_iret rfl ?_
        exact hQ _ (FrR_sc h2) hR
      · refine ev_iload rfl rfl ?_
        refine ev_tswC (p2 := 128) rfl (by first | rfl | decide) rfl ?_
        refine ev_aload rfl rfl ?_
        refine ev_iload rfl rfl ?_
        refine ev_iconst (x := nI 6) rfl rfl ?_
        refine ev_call rfl rfl ?_
        refine r_lamp7 hR c 6 (by omega) rfl ?_
        change am_ev _ _ _ _ (_ :: _) _ _ _
        refine ev_iret rfl ?_
        exact hQ mem (FrR_refl _) hR
    · skip
      refine ev_iconst (x := (-1000000001)) rfl rfl ?_
      refine ev_iret rfl ?_
      first
      | (rw [if_neg (fun z => cnd5 z.1)] at hQ; exact hQ mem (FrR_refl _) hR)
      | (rw [if_neg (fun z => cnd15 z.2)] at hQ; exact hQ mem (FrR_refl _) hR)
theorem c_X12_textTold {d n : Nat} {mem : am_M} {Q : am_P} {R : am_R} (hR : mem 222 = R) (hw : wfR R) (hT : wfTs R) (p w : Int32) (hQ : ∀ m2 : am_M, FrR mem m2 → m2 222 = R → Q (some (.int (X_textTold R p w))) (am_SK n) m2) : am_ex (d + 2) 197 [.ref 221, .int p, .int w] (am_SK n) mem Q := by
  have hb := wb_all hw
  have hfr := Hfr0 mem
  unfold X_textTold at hQ
  refine ex_in (c0 := kc_X12_textTold) rfl (L := [some (.ref 221), some (.int p), some (.int w)]) rfl ?_
  refine ev_iload rfl rfl ?_
  refine ev_iconst (x := nI 0) rfl rfl ?_
  refine ev_aload rfl rfl ?_
  refine ev_getR (c := 12) (j := 0) rfl ?_ (hq := k_221 n)
  refine ev_iconst (x := nI 6) rfl rfl ?_
  refine ev_ialdN rfl rfl ?_ (hq := k_222 n)
  rw [show mem 222 (6) = nI (nn (R 6)) by rw [hR]; (repeat rw [upd_ne (by omega)]); exact wr6 hw]
  refine ev_iconst (x := nI 1) rfl rfl ?_
  refine ev_isub rfl ?_
  refine ev_call rfl rfl ?_
  refine c_X12_in _ _ _ ?_
  change am_ev _ _ _ _ (_ :: _) _ _ _
  refine ev_if_eqB (p2 := 26) rfl rfl (fun cnd14 => ?_) (fun cnd14 => ?_)
  · skip
    try (have hP6 : ¬ P_i p (R 6) := by rw [wr6 hw]; exact cnd14)
    refine ev_iconst (x := (-1000000001)) rfl rfl ?_
    refine ev_iret rfl ?_
    first
    | (rw [if_neg (fun z => hP6 z.1)] at hQ; exact hQ mem (FrR_refl _) hR)
    | (rw [if_neg (fun z => cnd23 z.2)] at hQ; exact hQ mem (FrR_refl _) hR)
  · skip
    have hP6 : P_i p (R 6) := by rw [wr6 hw]; exact cnd14
    refine ev_iload rfl rfl ?_
    refine ev_iconst (x := nI 0) rfl rfl ?_
    refine ev_iconst (x := nI 1) rfl rfl ?_
    refine ev_call rfl rfl ?_
    refine c_X12_in _ _ _ ?_
    change am_ev _ _ _ _ (_ :: _) _ _ _
    refine ev_if_neB (p2 := 29) rfl rfl (fun cnd23 => ?_) (fun cnd23 => ?_)
    · skip
      rw [if_pos (And.intro hP6 cnd23)] at hQ
      obtain ⟨ep, hp⟩ := am_idx (wr6 hw) (by omega) hP6
      obtain ⟨ew, hw9⟩ := am_rng (by decide) cnd23
      generalize nn p = c at ep hp hQ
      generalize nn w = a at ew hw9 hQ
      subst ep
      subst ew
      have hh := (hT c hp).1
      rcases (show a = 0 ∨ a = 1 by omega) with rfl | rfl
      · skip
        refine ev_iload rfl rfl ?_
        refine ev_if_neN (p2 := 52) rfl rfl (fun zz => absurd zz (by decide)) (fun _ => ?_)
        refine ev_aload rfl rfl ?_
        refine ev_getR (c := 12) (j := 0) rfl ?_ (hq := k_221 n)
        refine ev_iconst (x := nI 189) rfl rfl ?_
        refine ev_iconst (x := nI 2) rfl rfl ?_
        refine ev_iload rfl rfl ?_
        refine ev_imulN rfl ?_
        refine ev_iaddN rfl ?_
        refine ev_ialdN rfl rfl ?_ (hq := k_222 n)
        rw [show mem 222 (189 + 2 * c) = nI (nn (R (189 + 2 * c))) by rw [hR]; exact hh.1]
        have hh2 := hh.2
        refine ev_iconst (x := nI 1000) rfl rfl ?_
        refine ev_idivN rfl ?_
        refine ev_goto (p2 := 66) rfl rfl ?_
        refine ev_iret rfl ?_
        exact hQ mem (FrR_refl _) hR
      · skip
        refine ev_iload rfl rfl ?_
        refine ev_if_neN (p2 := 52) rfl rfl (fun _ => ?_) (fun zz => absurd zz (by decide))
        refine ev_aload rfl rfl ?_
        refine ev_getR (c := 12) (j := 0) rfl ?_ (hq := k_221 n)
        refine ev_iconst (x := nI 189) rfl rfl ?_
        refine ev_iconst (x := nI 2) rfl rfl ?_
        refine ev_iload rfl rfl ?_
        refine ev_imulN rfl ?_
        refine ev_iaddN rfl ?_
        refine ev_iconst (x := nI 1) rfl rfl ?_
        refine ev_iaddN rfl ?_
        refine ev_ialdN rfl rfl ?_ (hq := k_222 n)
        rw [show mem 222 (189 + (2 * c) + 1) = R (189 + (2 * c) + 1) by first | exact congrFun hR _ | (rw [hR]; repeat rw [upd_ne (by omega)])]
        refine ev_iret rfl ?_
        rw [show 190 + 2 * c = 189 + 2 * c + 1 by omega] at hQ
        exact hQ mem (FrR_refl _) hR
    · skip
      try (have hP6 : ¬ P_i p (R 6) := by rw [wr6 hw]; exact cnd14)
      refine ev_iconst (x := (-1000000001)) rfl rfl ?_
      refine ev_iret rfl ?_
      first
      | (rw [if_neg (fun z => hP6 z.1)] at hQ; exact hQ mem (FrR_refl _) hR)
      | (rw [if_neg (fun z => cnd23 z.2)] at hQ; exact hQ mem (FrR_refl _) hR)
theorem c_X12_why {d n : Nat} {mem : am_M} {Q : am_P} {R : am_R} (hR : mem 222 = R) (hw : wfR R) (hT : wfTs R) (k : Int32) (hQ : ∀ m2 : am_M, FrR mem m2 → m2 222 = R → Q (some (.int (X_why R k))) (am_SK n) m2) : am_ex (d + 3) 199 [.ref 221, .int k] (am_SK n) mem Q := by
  have hb := wb_all hw
  have hfr := Hfr0 mem
  unfold X_why at hQ
  refine ex_in (c0 := kc_X12_why) rfl (L := [some (.ref 221), some (.int k), none]) rfl ?_
  refine ev_iload rfl rfl ?_
  refine ev_iconst (x := nI 0) rfl rfl ?_
  refine ev_iconst (x := nI 3) rfl rfl ?_
  refine ev_call rfl rfl ?_
  refine c_X12_in _ _ _ ?_
  change am_ev _ _ _ _ (_ :: _) _ _ _
  refine ev_if_neB (p2 := 12) rfl rfl (fun cnd6 => ?_) (fun cnd6 => ?_)
  · skip
    rw [if_pos cnd6] at hQ
    obtain ⟨ep, hp⟩ := am_rng (by decide) cnd6
    clear cnd6
    generalize nn k = c at ep hp hQ
    subst ep
    refine ev_aload rfl rfl ?_
    refine ev_iload rfl rfl ?_
    refine ev_call rfl rfl ?_
    refine r_counts hR hw hT c (by omega) ?_
    cases ho : S_cnt R c (nn (R 6)) with
    | none =>
      rw [ho] at hQ
      change am_ev _ _ _ _ (.int (-1) :: _) _ _ _
      refine ev_istore rfl rfl (Nat.le_of_ble_eq_true rfl) ?_
      refine ev_iload rfl rfl ?_
      refine ev_if_ge (p2 := 28) rfl rfl (fun zz => absurd zz (by decide)) (fun _ => ?_)
      refine ev_iconst (x := (-1000000005)) rfl rfl ?_
      refine ev_goto (p2 := 29) rfl rfl ?_
      refine ev_iret rfl ?_
      exact hQ mem (FrR_refl _) hR
    | some u =>
    rw [ho] at hQ
    have hu := S_cnt_lt ho
    change am_ev _ _ _ _ (.int (nI u) :: _) _ _ _
    change am_ev _ _ _ _ (_ :: _) _ _ _
    refine ev_istore rfl rfl (Nat.le_of_ble_eq_true rfl) ?_
    refine ev_iload rfl rfl ?_
    refine ev_if_geN (p2 := 28) rfl rfl ?_
    refine ev_iload rfl rfl ?_
    refine ev_iret rfl ?_
    exact hQ mem (FrR_refl _) hR
  · skip
    refine ev_iconst (x := (-1000000001)) rfl rfl ?_
    refine ev_iret rfl ?_
    rw [if_neg cnd6] at hQ; exact hQ mem (FrR_refl _) hR
theorem c_X12_count {d n : Nat} {mem : am_M} {Q : am_P} {R : am_R} (hR : mem 222 = R) (hw : wfR R) (hT : wfTs R) (w : Int32) (hQ : ∀ m2 : am_M, FrR mem m2 → m2 222 = R → Q (some (.int (X_count R (mem 221 43) (mem 221 6) w))) (am_SK n) m2) : am_ex (d + 4) 236 [.ref 221, .int w] (am_SK n) mem Q := by
  have hb := wb_all hw
  have hfr := Hfr0 mem
  unfold X_count at hQ
  refine ex_in (c0 := kc_X12_count) rfl (L := [some (.ref 221), some (.int w)]) rfl ?_
  refine ev_iload rfl rfl ?_
  by_cases hsw : nI 0 ≤ w ∧ w ≤ nI 12
  · rw [if_pos hsw] at hQ
    obtain ⟨ew, hw9⟩ := am_rng (by decide) hsw
    generalize nn w = a at ew hw9 hQ
    subst ew
    rcases (show a = 0 ∨ a = 1 ∨ a = 2 ∨ a = 3 ∨ a = 4 ∨ a = 5 ∨ a = 6 ∨ a = 7 ∨ a = 8 ∨ a = 9 ∨ a = 10 ∨ a = 11 ∨ a = 12 by omega) with rfl | rfl | rfl | rfl | rfl | rfl | rfl | rfl | rfl | rfl | rfl | rfl | rfl
    · refine ev_tswC (p2 := 68) rfl (by first | rfl | decide) rfl ?_
      refine ev_aload rfl rfl ?_
      refine ev_getR (c := 12) (j := 0) rfl ?_ (hq := k_221 n)
      refine ev_iconst (x := nI 3) rfl rfl ?_
      refine ev_ialdN rfl rfl ?_ (hq := k_222 n)
      rw [show mem 222 (3) = nI (nn (R 3)) by rw [hR]; (repeat rw [upd_ne (by omega)]); exact wr3 hw]
      refine ev_iret rfl ?_
      have hz := hQ mem (FrR_refl _) hR
      change Q (some (.int (R 3))) _ _ at hz
      rw [wr3 hw] at hz
      exact hz
    · refine ev_tswC (p2 := 75) rfl (by first | rfl | decide) rfl ?_
      refine ev_aload rfl rfl ?_
      refine ev_getR (c := 12) (j := 0) rfl ?_ (hq := k_221 n)
      refine ev_iconst (x := nI 4) rfl rfl ?_
      refine ev_ialdN rfl rfl ?_ (hq := k_222 n)
      rw [show mem 222 (4) = nI (nn (R 4)) by rw [hR]; (repeat rw [upd_ne (by omega)]); exact wr4 hw]
      refine ev_iret rfl ?_
      have hz := hQ mem (FrR_refl _) hR
      change Q (some (.int (R 4))) _ _ at hz
      rw [wr4 hw] at hz
      exact hz
    · refine ev_tswC (p2 := 82) rfl (by first | rfl | decide) rfl ?_
      refine ev_aload rfl rfl ?_
      refine ev_getR (c := 12) (j := 0) rfl ?_ (hq := k_221 n)
      refine ev_iconst (x := nI 5) rfl rfl ?_
      refine ev_ialdN rfl rfl ?_ (hq := k_222 n)
      rw [show mem 222 (5) = nI (nn (R 5)) by rw [hR]; (repeat rw [upd_ne (by omega)]); exact wr5 hw]
      refine ev_iret rfl ?_
      have hz := hQ mem (FrR_refl _) hR
      change Q (some (.int (R 5))) _ _ at hz
      rw [wr5 hw] at hz
      exact hz
    · refine ev_tswC (p2 := 89) rfl (by first | rfl | decide) rfl ?_
      refine ev_aload rfl rfl ?_
      refine ev_call rfl rfl ?_
      refine r_outMany hR hw hT (fun mem2 h2 => ?_)
      have hR := (h2 222 (by decide) (by decide)).trans hR
      change am_ev _ _ _ _ (_ :: _) _ _ _
      refine ev_iret rfl ?_
      exact hQ _ (FrR_sc h2) hR
    · refine ev_tswC (p2 := 94) rfl (by first | rfl | decide) rfl ?_
      refine ev_aload rfl rfl ?_
      refine ev_call rfl rfl ?_
      refine c_X12_brokenMany hR hw hT (fun mem2 h2 hR => ?_)
      change am_ev _ _ _ _ (_ :: _) _ _ _
      refine ev_iret rfl ?_
      exact hQ _ h2 hR
    · refine ev_tswC (p2 := 99) rfl (by first | rfl | decide) rfl ?_
      refine ev_aload rfl rfl ?_
      refine ev_getR (c := 12) (j := 0) rfl ?_ (hq := k_221 n)
      refine ev_iconst (x := nI 6) rfl rfl ?_
      refine ev_ialdN rfl rfl ?_ (hq := k_222 n)
      rw [show mem 222 (6) = nI (nn (R 6)) by rw [hR]; (repeat rw [upd_ne (by omega)]); exact wr6 hw]
      refine ev_iret rfl ?_
      have hz := hQ mem (FrR_refl _) hR
      change Q (some (.int (R 6))) _ _ at hz
      rw [wr6 hw] at hz
      exact hz
    · refine ev_tswC (p2 := 107) rfl (by first | rfl | decide) rfl ?_
      refine ev_aload rfl rfl ?_
      refine ev_getR (c := 12) (j := 0) rfl ?_ (hq := k_221 n)
      refine ev_iconst (x := nI 7) rfl rfl ?_
      refine ev_ialdN rfl rfl ?_ (hq := k_222 n)
      rw [show mem 222 (7) = nI (nn (R 7)) by rw [hR]; (repeat rw [upd_ne (by omega)]); exact wr7 hw]
      refine ev_iret rfl ?_
      have hz := hQ mem (FrR_refl _) hR
      change Q (some (.int (R 7))) _ _ at hz
      rw [wr7 hw] at hz
      exact hz
    · refine ev_tswC (p2 := 115) rfl (by first | rfl | decide) rfl ?_
      refine ev_aload rfl rfl ?_
      refine ev_getR (c := 12) (j := 0) rfl ?_ (hq := k_221 n)
      refine ev_iconst (x := nI 8) rfl rfl ?_
      refine ev_ialdN rfl rfl ?_ (hq := k_222 n)
      rw [show mem 222 (8) = nI (nn (R 8)) by rw [hR]; (repeat rw [upd_ne (by omega)]); exact wr8 hw]
      refine ev_iret rfl ?_
      have hz := hQ mem (FrR_refl _) hR
      change Q (some (.int (R 8))) _ _ at hz
      rw [wr8 hw] at hz
      exact hz
    · refine ev_tswC (p2 := 123) rfl (by first | rfl | decide) rfl ?_
      refine ev_aload rfl rfl ?_
      refine ev_call rfl rfl ?_
      refine r_darkMany hR hw hT (fun mem2 h2 => ?_)
      have hR := (h2 222 (by decide) (by decide)).trans hR
      change am_ev _ _ _ _ (_ :: _) _ _ _
      refine ev_iret rfl ?_
      exact hQ _ (FrR_sc h2) hR
    · refine ev_tswC (p2 := 128) rfl (by first | rfl | decide) rfl ?_
      refine ev_aload rfl rfl ?_
      refine ev_getR (c := 12) (j := 0) rfl ?_ (hq := k_221 n)
      refine ev_iconst (x := nI 0) rfl rfl ?_
      refine ev_ialdN rfl rfl ?_ (hq := k_222 n)
      rw [show mem 222 (0) = nI (nn (R 0)) by rw [hR]; (repeat rw [upd_ne (by omega)]); exact wr0 hw]
      refine ev_iret rfl ?_
      have hz := hQ mem (FrR_refl _) hR
      change Q (some (.int (R 0))) _ _ at hz
      rw [wr0 hw] at hz
      exact hz
    · refine ev_tswC (p2 := 135) rfl (by first | rfl | decide) rfl ?_
      refine ev_aload rfl rfl ?_
      refine ev_getR (c := 12) (j := 0) rfl ?_ (hq := k_221 n)
      refine ev_iconst (x := nI 1) rfl rfl ?_
      refine ev_ialdN rfl rfl ?_ (hq := k_222 n)
      rw [show mem 222 (1) = nI (nn (R 1)) by rw [hR]; (repeat rw [upd_ne (by omega)]); exact wr1 hw]
      refine ev_iret rfl ?_
      have hz := hQ mem (FrR_refl _) hR
      change Q (some (.int (R 1))) _ _ at hz
      rw [wr1 hw] at hz
      exact hz
    · refine ev_tswC (p2 := 142) rfl (by first | rfl | decide) rfl ?_
      refine ev_aload rfl rfl ?_
      refine ev_getI (c := 12) (j := 43) rfl ?_ (hq := k_221 n)
      refine ev_iret rfl ?_
      exact hQ mem (FrR_refl _) hR
    · refine ev_tswC (p2 := 147) rfl (by first | rfl | decide) rfl ?_
      refine ev_aload rfl rfl ?_
      refine ev_getI (c := 12) (j := 6) rfl ?_ (hq := k_221 n)
      refine ev_iret rfl ?_
      exact hQ mem (FrR_refl _) hR
  refine ev_tswC (p2 := 152) rfl (by rw [if_pos (show w.toInt < 0 ∨ 12 < w.toInt from am_nrng (by decide) hsw)]) rfl ?_
  refine ev_iconst (x := (-1000000001)) rfl rfl ?_
  refine ev_iret rfl ?_
  rw [if_neg hsw] at hQ; exact hQ mem (FrR_refl _) hR
