/-! the reference: an hour, hours -/
section ES
variable {code : am_C} {d pc nx : Nat} {L : am_L} {st : List Value} {sk : am_K} {mem : am_M} {Q : am_P}
theorem ev_zastS {q N m : Nat} {x : Int32} {rs : List (Option Nat)} (hc : am_at code pc = some (.bastore, nx)) (k : ∀ mem' : am_M, mem' = am_up mem q m x → am_ev code d nx L st sk mem' Q) (hx : x = 0 ∨ x = 1) (hq : sk[q]? = some (21, N, rs)) (hm : m < N := by omega) (hN : N < 2 ^ 31 := by decide) (h29 : 29 ≤ q := by first | decide | omega) : am_ev code d pc L (.int x :: .int (nI m) :: .ref q :: st) sk mem Q := ev_zastN hc rfl (k _ rfl) hx hq hm hN h29
theorem ev_iastS {q N m : Nat} {x : Int32} {rs : List (Option Nat)} (hc : am_at code pc = some (.iastore, nx)) (k : ∀ mem' : am_M, mem' = am_up mem q m x → am_ev code d nx L st sk mem' Q) (hq : sk[q]? = some (20, N, rs)) (hm : m < N := by omega) (hN : N < 2 ^ 31 := by decide) (h29 : 29 ≤ q := by first | decide | omega) : am_ev code d pc L (.int x :: .int (nI m) :: .ref q :: st) sk mem Q := ev_iastN hc rfl (k _ rfl) hq hm hN h29
theorem ev_putS {c j q N : Nat} {x : Int32} {rs : List (Option Nat)} (hc : am_at code pc = some (.putfield (64 * c + j), nx)) (k : ∀ mem' : am_M, mem' = am_up mem q j x → am_ev code d nx L st sk mem' Q) (hq : sk[q]? = some (c, N, rs)) (h29 : 29 ≤ q := by first | decide | omega) (h : j < 64 ∧ j < N ∧ am_ft c j = 0 := by exact ⟨by decide, by decide, by decide⟩) : am_ev code d pc L (.int x :: .ref q :: st) sk mem Q := ev_put hc (k _ rfl) hq h29 h
theorem ev_putBS {c j q N : Nat} {x : Int32} {rs : List (Option Nat)} (hc : am_at code pc = some (.putfield (64 * c + j), nx)) (k : ∀ mem' : am_M, mem' = am_up mem q j x → am_ev code d nx L st sk mem' Q) (hx : x = 0 ∨ x = 1) (hq : sk[q]? = some (c, N, rs)) (h29 : 29 ≤ q := by first | decide | omega) (h : j < 64 ∧ j < N ∧ am_ft c j = 1 := by exact ⟨by decide, by decide, by decide⟩) : am_ev code d pc L (.int x :: .ref q :: st) sk mem Q := ev_putB hc (k _ rfl) hx hq h29 h
theorem FrR_one {mem' : am_M} {q m : Nat} {x : Int32} (hq : q = 225 ∨ (229 ≤ q ∧ q ≤ 244) ∨ q = 251) (h : mem' = am_up mem q m x) : FrR mem mem' := by
  subst h
  exact ⟨fun p hp => am_up_ne (by omega), fun i hi => by rw [am_up_ne (by omega)]⟩
theorem ev_iastF {R : am_R} {m : Nat} {x : Int32} {mem0 : am_M} {rs : List (Option Nat)} (hc : am_at code pc = some (.iastore, nx)) (hR : mem 222 = R) (hf : FrR mem0 mem) (k : ∀ mem' : am_M, FrR mem0 mem' → mem' 222 = upd R m x → (∀ q, q ≠ 222 → mem' q = mem q) → am_ev code d nx L st sk mem' Q) (hq : sk[222]? = some (20, 1561, rs)) (hm : m < 1561 := by first | omega | assumption) : am_ev code d pc L (.int x :: .int (nI m) :: .ref 222 :: st) sk mem Q :=
  ev_iastN hc rfl (k _ (FrR_tr hf (FrR_up hm)) (by rw [am_up_row, hR]) (fun q h => am_up_ne h)) hq hm (by decide) (by decide)
end ES
set_option maxRecDepth 8000 in
theorem l_anHour3 {d n : Nat} {mem0 : am_M} {Q : am_P} {R : am_R} {mem : am_M} (hR : mem 222 = R) (hw : wfR R) (hf : FrR mem0 mem) (x1 x2 x3 x4 : Option Value) (hQ : ∀ m2 : am_M, FrR mem0 m2 → m2 222 = S_tick R → Q none (am_SK n) m2) : am_ev kc_X12_anHour d 241 [some (.ref 221), x1, x2, x3, x4] [] (am_SK n) mem Q := by
  have hb := wb_all hw
  unfold S_tick at hQ
  refine ev_aload rfl rfl ?_
  refine ev_getR (c := 12) (j := 0) rfl ?_ (hq := k_221 n)
  refine ev_iconst (x := nI 0) rfl rfl ?_
  refine ev_dup2 rfl ?_
  refine ev_ialdN rfl rfl ?_ (hq := k_222 n)
  rw [show mem 222 (0) = nI (nn (R 0)) by rw [hR]; (repeat rw [upd_ne (by omega)]); exact wr0 hw]
  refine ev_iconst (x := nI 1) rfl rfl ?_
  refine ev_iaddN rfl ?_
  refine ev_iastF rfl hR hf (fun mem hf hR hq9 => ?_) (hq := k_222 n)
  refine ev_aload rfl rfl ?_
  refine ev_getR (c := 12) (j := 0) rfl ?_ (hq := k_221 n)
  refine ev_iconst (x := nI 0) rfl rfl ?_
  refine ev_ialdN rfl rfl ?_ (hq := k_222 n)
  rw [show mem 222 0 = nI (nn (R 0) + 1) by rw [hR, upd_eq]]
  refine ev_iconst (x := nI 24) rfl rfl ?_
  refine ev_icmp_neN (p2 := 279) rfl rfl (fun cnd259 => ?_) (fun cnd259 => ?_)
  · skip
    refine ev_vret rfl ?_
    first
    | (rw [if_neg cnd259] at hQ; exact hQ _ hf hR)
    | (rw [if_pos cnd259] at hQ; exact hQ _ hf hR)
  · skip
    refine ev_aload rfl rfl ?_
    refine ev_getR (c := 12) (j := 0) rfl ?_ (hq := k_221 n)
    refine ev_iconst (x := nI 0) rfl rfl ?_
    refine ev_iconst (x := nI 0) rfl rfl ?_
    refine ev_iastF rfl hR hf (fun mem hf hR hq9 => ?_) (hq := k_222 n)
    refine ev_aload rfl rfl ?_
    refine ev_getR (c := 12) (j := 0) rfl ?_ (hq := k_221 n)
    refine ev_iconst (x := nI 1) rfl rfl ?_
    refine ev_dup2 rfl ?_
    refine ev_ialdN rfl rfl ?_ (hq := k_222 n)
    rw [show mem 222 (1) = nI (nn (R 1)) by rw [hR]; (repeat rw [upd_ne (by omega)]); exact wr1 hw]
    refine ev_iconst (x := nI 1) rfl rfl ?_
    refine ev_iaddN rfl ?_
    refine ev_iastF rfl hR hf (fun mem hf hR hq9 => ?_) (hq := k_222 n)
    refine ev_vret rfl ?_
    first
    | (rw [if_neg cnd259] at hQ; exact hQ _ hf hR)
    | (rw [if_pos cnd259] at hQ; exact hQ _ hf hR)
theorem l_anHour2 {d n : Nat} {mem0 : am_M} {Q : am_P} {R0 : am_R} (hw0 : wfR R0) (x1 x2 : Option Value) (r : Nat) : ∀ (mem : am_M) (R : am_R) (k : Nat) (hR : mem 222 = R) (hG : HG R0 R k) (hk : k + r = nn (R0 5)) (hf : FrR mem0 mem) (hbn : ∀ l, l < nn (R0 5) → mem 225 l = ob (S_burns R0 l)) (x4 : Option Value) (hQ : ∀ m2 : am_M, FrR mem0 m2 → m2 222 = S_tick (flB R0 r k R) → Q none (am_SK n) m2), am_ev kc_X12_anHour (d + 4) 140 [some (.ref 221), x1, x2, some (.int (nI k)), x4] [] (am_SK n) mem Q := by
  induction r with
  | zero =>
    intro mem R k hR hG hk hf hbn x4 hQ
    have hw := hG.1
    have hT := hG.2.1
    have hA := hG.2.2
    have hb := wb_all hw0
    have hb2 := wb_all hw
    have e5 := congrArg nn (Ag_lo hA (show 5 < 23 by decide))
    refine ev_iload rfl rfl ?_
    refine ev_aload rfl rfl ?_
    refine ev_getR (c := 12) (j := 0) rfl ?_ (hq := k_221 n)
    refine ev_iconst (x := nI 5) rfl rfl ?_
    refine ev_ialdN rfl rfl ?_ (hq := k_222 n)
    rw [show mem 222 (5) = nI (nn (R 5)) by rw [hR]; (repeat rw [upd_ne (by omega)]); exact wr5 hw]
    refine ev_icmp_geN (p2 := 241) rfl rfl (fun cnd147 => ?_) (fun cnd147 => ?_)
    · skip
      exact l_anHour3 hR hw hf _ _ _ _ hQ
    · omega
  | succ r ih =>
    intro mem R k hR hG hk hf hbn x4 hQ
    have hw := hG.1
    have hT := hG.2.1
    have hA := hG.2.2
    have hb := wb_all hw0
    have hb2 := wb_all hw
    have e5 := congrArg nn (Ag_lo hA (show 5 < 23 by decide))
    have hbr : (if R (77 + 7 * k + 4) + S_wear (R (77 + 7 * k)) < nI 0 then nI 0 else if nI 30000 < R (77 + 7 * k + 4) + S_wear (R (77 + 7 * k)) then nI 30000 else R (77 + 7 * k + 4) + S_wear (R (77 + 7 * k))) = brn R0 k := by
      unfold brn S_clp
      rw [hA (77 + 7 * k + 4) (by omega) (by omega), hA (77 + 7 * k) (by omega) (by omega)]
    refine ev_iload rfl rfl ?_
    refine ev_aload rfl rfl ?_
    refine ev_getR (c := 12) (j := 0) rfl ?_ (hq := k_221 n)
    refine ev_iconst (x := nI 5) rfl rfl ?_
    refine ev_ialdN rfl rfl ?_ (hq := k_222 n)
    rw [show mem 222 (5) = nI (nn (R 5)) by rw [hR]; (repeat rw [upd_ne (by omega)]); exact wr5 hw]
    refine ev_icmp_geN (p2 := 241) rfl rfl (fun cnd147 => ?_) (fun cnd147 => ?_)
    · omega
    · skip
      refine ev_iconst (x := nI 77) rfl rfl ?_
      refine ev_iconst (x := nI 7) rfl rfl ?_
      refine ev_iload rfl rfl ?_
      refine ev_imulN rfl ?_
      refine ev_iaddN rfl ?_
      refine ev_istore rfl rfl (Nat.le_of_ble_eq_true rfl) ?_
      refine ev_aload rfl rfl ?_
      refine ev_getR (c := 12) (j := 4) rfl ?_ (hq := k_221 n)
      refine ev_iload rfl rfl ?_
      refine ev_zaldN rfl rfl ?_ (hq := k_225 n)
      rw [hbn k (by omega)]
      refine ev_if_eqO (p2 := 235) rfl rfl (fun cnd165 => ?_) (fun cnd165 => ?_)
      · skip
        refine ev_iincN rfl rfl rfl ?_
        refine ev_goto (p2 := 140) rfl rfl ?_
        first
        | (have hst : stB R0 k R = upd (upd R (77 + 7 * k + 4) (brn R0 k)) (77 + 7 * k + 5) (ob (decide (S_life R0 k ≤ brn R0 k))) := if_pos cnd165
           first
           | (rw [show decide (S_life R0 k ≤ brn R0 k) = false from decide_eq_false (nle_lt cnd226)] at hst
              exact ih mem _ (k + 1) hR (by have hz := HG_B hw0 (show k < nn (R0 5) by omega) hG; rw [hst] at hz; exact hz) (by omega) hf hbn _ (by unfold flB at hQ; rw [hst] at hQ; exact hQ))
           | (rw [show decide (S_life R0 k ≤ brn R0 k) = true from decide_eq_true (le_nlt cnd226)] at hst
              exact ih mem _ (k + 1) hR (by have hz := HG_B hw0 (show k < nn (R0 5) by omega) hG; rw [hst] at hz; exact hz) (by omega) hf hbn _ (by unfold flB at hQ; rw [hst] at hQ; exact hQ)))
        | (have hst : stB R0 k R = R := if_neg (by rw [cnd165]; decide)
           exact ih mem R (k + 1) hR (by have hz := HG_B hw0 (show k < nn (R0 5) by omega) hG; rw [hst] at hz; exact hz) (by omega) hf hbn _ (by unfold flB at hQ; rw [hst] at hQ; exact hQ))
      · skip
        refine ev_aload rfl rfl ?_
        refine ev_getR (c := 12) (j := 0) rfl ?_ (hq := k_221 n)
        refine ev_iload rfl rfl ?_
        refine ev_iconst (x := nI 4) rfl rfl ?_
        refine ev_iaddN rfl ?_
        refine ev_aload rfl rfl ?_
        refine ev_getR (c := 12) (j := 0) rfl ?_ (hq := k_221 n)
        refine ev_iload rfl rfl ?_
        refine ev_iconst (x := nI 4) rfl rfl ?_
        refine ev_iaddN rfl ?_
        refine ev_ialdN rfl rfl ?_ (hq := k_222 n)
        rw [show mem 222 (77 + (7 * k) + 4) = R (77 + (7 * k) + 4) by first | exact congrFun hR _ | (rw [hR]; repeat rw [upd_ne (by omega)])]
        refine ev_aload rfl rfl ?_
        refine ev_getR (c := 12) (j := 0) rfl ?_ (hq := k_221 n)
        refine ev_iload rfl rfl ?_
        refine ev_ialdN rfl rfl ?_ (hq := k_222 n)
        rw [show mem 222 (77 + (7 * k)) = R (77 + (7 * k)) by first | exact congrFun hR _ | (rw [hR]; repeat rw [upd_ne (by omega)])]
        refine ev_call rfl rfl ?_
        refine c_X12_wearBy _ ?_
        change am_ev _ _ _ _ (_ :: _) _ _ _
        refine ev_iadd rfl ?_
        refine ev_iconst (x := nI 0) rfl rfl ?_
        refine ev_iconst (x := nI 30000) rfl rfl ?_
        refine ev_call rfl rfl ?_
        refine c_X12_within _ _ _ ?_
        rw [hbr]
        change am_ev _ _ _ _ (_ :: _) _ _ _
        refine ev_iastF rfl hR hf (fun mem hf hR hq9 => ?_) (hq := k_222 n)
        have hbn : ∀ l, l < nn (R0 5) → mem 225 l = ob (S_burns R0 l) := fun l hl => (congrFun (hq9 225 (by decide)) l).trans (hbn l hl)
        have hlG : k < nn (R 5) := by omega
        have hw := wfR_lset hw hlG (fun i hi => upd_ne (by omega)) (wfL4 (hw.2.2.2.2.1 k hlG) (brn_w hw0 (show k < nn (R0 5) by omega)))
        have hT := wfTs_cg (R' := upd R (77 + 7 * k + 4) (brn R0 k)) (upd_ne (by omega)) (fun i hi => upd_ne (by omega)) hT
        have hA2 : Ag R0 (upd R (77 + 7 * k + 4) (brn R0 k)) (k + 1) := fun i h1 h2 => (upd_ne (by omega)).trans (hA i h1 (by omega))
        refine ev_aload rfl rfl ?_
        refine ev_getR (c := 12) (j := 0) rfl ?_ (hq := k_221 n)
        refine ev_iload rfl rfl ?_
        refine ev_iconst (x := nI 5) rfl rfl ?_
        refine ev_iaddN rfl ?_
        refine ev_aload rfl rfl ?_
        refine ev_getR (c := 12) (j := 0) rfl ?_ (hq := k_221 n)
        refine ev_iload rfl rfl ?_
        refine ev_iconst (x := nI 4) rfl rfl ?_
        refine ev_iaddN rfl ?_
        refine ev_ialdN rfl rfl ?_ (hq := k_222 n)
        rw [show mem 222 (77 + 7 * k + 4) = brn R0 k by rw [hR, upd_eq]]
        refine ev_aload rfl rfl ?_
        refine ev_iload rfl rfl ?_
        refine ev_call rfl rfl ?_
        refine r_lifeOf hR hw hT k (by omega) (fun mem h2 => ?_)
        have hR := (h2 222 (by decide) (by decide)).trans hR
        have hf := FrR_tr hf (FrR_sc h2)
        have hbn : ∀ l, l < nn (R0 5) → mem 225 l = ob (S_burns R0 l) := fun l hl => (congrFun (h2 225 (by decide) (by decide)) l).trans (hbn l hl)
        rw [Ag_life hA2 (by omega) (show k < 16 by omega)]
        change am_ev _ _ _ _ (_ :: _) _ _ _
        refine ev_icmp_lt (p2 := 233) rfl rfl (fun cnd226 => ?_) (fun cnd226 => ?_)
        · skip
          refine ev_iconst (x := nI 0) rfl rfl ?_
          refine ev_iastF rfl hR hf (fun mem hf hR hq9 => ?_) (hq := k_222 n)
          have hbn : ∀ l, l < nn (R0 5) → mem 225 l = ob (S_burns R0 l) := fun l hl => (congrFun (hq9 225 (by decide)) l).trans (hbn l hl)
          refine ev_iincN rfl rfl rfl ?_
          refine ev_goto (p2 := 140) rfl rfl ?_
          first
          | (have hst : stB R0 k R = upd (upd R (77 + 7 * k + 4) (brn R0 k)) (77 + 7 * k + 5) (ob (decide (S_life R0 k ≤ brn R0 k))) := if_pos cnd165
             first
             | (rw [show decide (S_life R0 k ≤ brn R0 k) = false from decide_eq_false (nle_lt cnd226)] at hst
                exact ih mem _ (k + 1) hR (by have hz := HG_B hw0 (show k < nn (R0 5) by omega) hG; rw [hst] at hz; exact hz) (by omega) hf hbn _ (by unfold flB at hQ; rw [hst] at hQ; exact hQ))
             | (rw [show decide (S_life R0 k ≤ brn R0 k) = true from decide_eq_true (le_nlt cnd226)] at hst
                exact ih mem _ (k + 1) hR (by have hz := HG_B hw0 (show k < nn (R0 5) by omega) hG; rw [hst] at hz; exact hz) (by omega) hf hbn _ (by unfold flB at hQ; rw [hst] at hQ; exact hQ)))
          | (have hst : stB R0 k R = R := if_neg (by rw [cnd165]; decide)
             exact ih mem R (k + 1) hR (by have hz := HG_B hw0 (show k < nn (R0 5) by omega) hG; rw [hst] at hz; exact hz) (by omega) hf hbn _ (by unfold flB at hQ; rw [hst] at hQ; exact hQ))
        · skip
          refine ev_iconst (x := nI 1) rfl rfl ?_
          refine ev_goto (p2 := 234) rfl rfl ?_
          refine ev_iastF rfl hR hf (fun mem hf hR hq9 => ?_) (hq := k_222 n)
          have hbn : ∀ l, l < nn (R0 5) → mem 225 l = ob (S_burns R0 l) := fun l hl => (congrFun (hq9 225 (by decide)) l).trans (hbn l hl)
          refine ev_iincN rfl rfl rfl ?_
          refine ev_goto (p2 := 140) rfl rfl ?_
          first
          | (have hst : stB R0 k R = upd (upd R (77 + 7 * k + 4) (brn R0 k)) (77 + 7 * k + 5) (ob (decide (S_life R0 k ≤ brn R0 k))) := if_pos cnd165
             first
             | (rw [show decide (S_life R0 k ≤ brn R0 k) = false from decide_eq_false (nle_lt cnd226)] at hst
                exact ih mem _ (k + 1) hR (by have hz := HG_B hw0 (show k < nn (R0 5) by omega) hG; rw [hst] at hz; exact hz) (by omega) hf hbn _ (by unfold flB at hQ; rw [hst] at hQ; exact hQ))
             | (rw [show decide (S_life R0 k ≤ brn R0 k) = true from decide_eq_true (le_nlt cnd226)] at hst
                exact ih mem _ (k + 1) hR (by have hz := HG_B hw0 (show k < nn (R0 5) by omega) hG; rw [hst] at hz; exact hz) (by omega) hf hbn _ (by unfold flB at hQ; rw [hst] at hQ; exact hQ)))
          | (have hst : stB R0 k R = R := if_neg (by rw [cnd165]; decide)
             exact ih mem R (k + 1) hR (by have hz := HG_B hw0 (show k < nn (R0 5) by omega) hG; rw [hst] at hz; exact hz) (by omega) hf hbn _ (by unfold flB at hQ; rw [hst] at hQ; exact hQ))
theorem l_anHour1 {d n : Nat} {mem0 : am_M} {Q : am_P} {R0 : am_R} (hw0 : wfR R0) (x1 : Option Value) (r : Nat) : ∀ (mem : am_M) (R : am_R) (k : Nat) (hR : mem 222 = R) (hG : HG R0 R 0) (hk : k + r = nn (R0 5)) (hf : FrR mem0 mem) (hbn : ∀ l, l < k → mem 225 l = ob (S_burns R0 l)) (x4 : Option Value) (hQ : ∀ m2 : am_M, FrR mem0 m2 → m2 222 = S_tick (flB R0 (nn (R0 5)) 0 (flA R0 (S_price R0) r k R)) → Q none (am_SK n) m2), am_ev kc_X12_anHour (d + 5) 54 [some (.ref 221), x1, some (.int (S_price R0)), some (.int (nI k)), x4] [] (am_SK n) mem Q := by
  induction r with
  | zero =>
    intro mem R k hR hG hk hf hbn x4 hQ
    have hw := hG.1
    have hT := hG.2.1
    have hA := hG.2.2
    have hb := wb_all hw0
    have hb2 := wb_all hw
    have e5 := congrArg nn (Ag_lo hA (show 5 < 23 by decide))
    refine ev_iload rfl rfl ?_
    refine ev_aload rfl rfl ?_
    refine ev_getR (c := 12) (j := 0) rfl ?_ (hq := k_221 n)
    refine ev_iconst (x := nI 5) rfl rfl ?_
    refine ev_ialdN rfl rfl ?_ (hq := k_222 n)
    rw [show mem 222 (5) = nI (nn (R 5)) by rw [hR]; (repeat rw [upd_ne (by omega)]); exact wr5 hw]
    refine ev_icmp_geN (p2 := 138) rfl rfl (fun cnd61 => ?_) (fun cnd61 => ?_)
    · skip
      refine ev_iconst (x := nI 0) rfl rfl ?_
      refine ev_istore rfl rfl (Nat.le_of_ble_eq_true rfl) ?_
      have hkk : k = nn (R0 5) := by omega
      subst hkk
      exact l_anHour2 hw0 _ _ _ mem R 0 hR hG (Nat.zero_add _) hf hbn _ hQ
    · omega
  | succ r ih =>
    intro mem R k hR hG hk hf hbn x4 hQ
    have hw := hG.1
    have hT := hG.2.1
    have hA := hG.2.2
    have hb := wb_all hw0
    have hb2 := wb_all hw
    have e5 := congrArg nn (Ag_lo hA (show 5 < 23 by decide))
    have hj := (hw.2.2.2.2.1 k (by omega)).2.1.2
    have hcb := S_cab_lt hw _ hj
    have hj0 := (hw0.2.2.2.2.1 k (by omega)).2.1.2
    refine ev_iload rfl rfl ?_
    refine ev_aload rfl rfl ?_
    refine ev_getR (c := 12) (j := 0) rfl ?_ (hq := k_221 n)
    refine ev_iconst (x := nI 5) rfl rfl ?_
    refine ev_ialdN rfl rfl ?_ (hq := k_222 n)
    rw [show mem 222 (5) = nI (nn (R 5)) by rw [hR]; (repeat rw [upd_ne (by omega)]); exact wr5 hw]
    refine ev_icmp_geN (p2 := 138) rfl rfl (fun cnd61 => ?_) (fun cnd61 => ?_)
    · omega
    · skip
      refine ev_aload rfl rfl ?_
      refine ev_getR (c := 12) (j := 4) rfl ?_ (hq := k_221 n)
      refine ev_iload rfl rfl ?_
      refine ev_aload rfl rfl ?_
      refine ev_iload rfl rfl ?_
      refine ev_call rfl rfl ?_
      refine r_burns hR hw k (by omega) ?_
      change am_ev _ _ _ _ (_ :: _) _ _ _
      refine ev_zastS rfl (fun mem hm => ?_) (ob01 _) (hq := k_225 n)
      have hR : mem 222 = R := by rw [hm, am_up_ne (by decide)]; exact hR
      have hf := FrR_tr hf (FrR_one (by decide) hm)
      have hbe := Ag_burns hw0 hA (show k < nn (R0 5) by omega) (Nat.zero_le k)
      have hbn : ∀ l, l < k + 1 → mem 225 l = ob (S_burns R0 l) := by
        intro l hl
        rw [hm]
        by_cases e : l = k
        · rw [e, am_up_eq, hbe]
        · rw [am_up_nk e]; exact hbn l (by omega)
      refine ev_aload rfl rfl ?_
      refine ev_getR (c := 12) (j := 4) rfl ?_ (hq := k_221 n)
      refine ev_iload rfl rfl ?_
      refine ev_zaldN rfl rfl ?_ (hq := k_225 n)
      rw [show mem 225 k = ob (S_burns R k) by rw [hm]; exact am_up_eq]
      refine ev_if_eqO (p2 := 132) rfl rfl (fun cnd81 => ?_) (fun cnd81 => ?_)
      · skip
        refine ev_iincN rfl rfl rfl ?_
        refine ev_goto (p2 := 54) rfl rfl ?_
        first
        | (have hst : stA R0 (S_price R0) k R = upd R (23 + 6 * S_cab R (nn (R (77 + 7 * k + 1))) + 5) (S_clp (R (23 + 6 * S_cab R (nn (R (77 + 7 * k + 1))) + 5) + S_draw R k * S_price R0) (nI 0) (nI 99999999)) := by
             unfold stA pdv
             rw [if_pos (by rw [← hbe]; exact cnd81), Ag_draw hA (show k < 16 by omega) (Nat.zero_le k), hA (77 + 7 * k + 1) (by omega) (by omega), Ag_cab hA _ (by omega)]
           exact ih mem _ (k + 1) hR (by have hz := HG_A hw0 (show k < nn (R0 5) by omega) (by decide) hG; rw [hst] at hz; exact hz) (by omega) hf hbn _ (by unfold flA at hQ; rw [hst] at hQ; exact hQ))
        | (have hst : stA R0 (S_price R0) k R = R := if_neg (by rw [← hbe, cnd81]; decide)
           exact ih mem R (k + 1) hR hG (by omega) hf hbn _ (by unfold flA at hQ; rw [hst] at hQ; exact hQ))
      · skip
        refine ev_iconst (x := nI 23) rfl rfl ?_
        refine ev_iconst (x := nI 6) rfl rfl ?_
        refine ev_aload rfl rfl ?_
        refine ev_aload rfl rfl ?_
        refine ev_iload rfl rfl ?_
        refine ev_iconst (x := nI 1) rfl rfl ?_
        refine ev_call rfl rfl ?_
        refine r_lamp7 hR k 1 (by omega) ((hw.2.2.2.2.1 k (by omega)).2.1.1) ?_
        change am_ev _ _ _ _ (_ :: _) _ _ _
        refine ev_call rfl rfl ?_
        refine r_cabOf hR hw (nn (R (77 + 7 * k + 1))) (by omega) ?_
        change am_ev _ _ _ _ (_ :: _) _ _ _
        refine ev_imulN rfl ?_
        refine ev_iaddN rfl ?_
        refine ev_iconst (x := nI 5) rfl rfl ?_
        refine ev_iaddN rfl ?_
        refine ev_istore rfl rfl (Nat.le_of_ble_eq_true rfl) ?_
        refine ev_aload rfl rfl ?_
        refine ev_getR (c := 12) (j := 0) rfl ?_ (hq := k_221 n)
        refine ev_iload rfl rfl ?_
        refine ev_aload rfl rfl ?_
        refine ev_getR (c := 12) (j := 0) rfl ?_ (hq := k_221 n)
        refine ev_iload rfl rfl ?_
        refine ev_ialdN rfl rfl ?_ (hq := k_222 n)
        rw [show mem 222 (23 + (6 * (S_cab R (nn (R (77 + 7 * k + 1))))) + 5) = R (23 + (6 * (S_cab R (nn (R (77 + 7 * k + 1))))) + 5) by first | exact congrFun hR _ | (rw [hR]; repeat rw [upd_ne (by omega)])]
        refine ev_aload rfl rfl ?_
        refine ev_iload rfl rfl ?_
        refine ev_call rfl rfl ?_
        refine r_draws hR hw hT k (by omega) (fun mem h2 => ?_)
        have hR := (h2 222 (by decide) (by decide)).trans hR
        have hf := FrR_tr hf (FrR_sc h2)
        have hbn : ∀ l, l < k + 1 → mem 225 l = ob (S_burns R0 l) := fun l hl => (congrFun (h2 225 (by decide) (by decide)) l).trans (hbn l hl)
        change am_ev _ _ _ _ (_ :: _) _ _ _
        refine ev_iload rfl rfl ?_
        refine ev_imul rfl ?_
        refine ev_iadd rfl ?_
        refine ev_iconst (x := nI 0) rfl rfl ?_
        refine ev_iconst (x := nI 99999999) rfl rfl ?_
        refine ev_call rfl rfl ?_
        refine c_X12_within _ _ _ ?_
        change am_ev _ _ _ _ (_ :: _) _ _ _
        refine ev_iastF rfl hR hf (fun mem hf hR hq9 => ?_) (hq := k_222 n)
        have hbn : ∀ l, l < k + 1 → mem 225 l = ob (S_burns R0 l) := fun l hl => (congrFun (hq9 225 (by decide)) l).trans (hbn l hl)
        refine ev_iincN rfl rfl rfl ?_
        refine ev_goto (p2 := 54) rfl rfl ?_
        first
        | (have hst : stA R0 (S_price R0) k R = upd R (23 + 6 * S_cab R (nn (R (77 + 7 * k + 1))) + 5) (S_clp (R (23 + 6 * S_cab R (nn (R (77 + 7 * k + 1))) + 5) + S_draw R k * S_price R0) (nI 0) (nI 99999999)) := by
             unfold stA pdv
             rw [if_pos (by rw [← hbe]; exact cnd81), Ag_draw hA (show k < 16 by omega) (Nat.zero_le k), hA (77 + 7 * k + 1) (by omega) (by omega), Ag_cab hA _ (by omega)]
           exact ih mem _ (k + 1) hR (by have hz := HG_A hw0 (show k < nn (R0 5) by omega) (by decide) hG; rw [hst] at hz; exact hz) (by omega) hf hbn _ (by unfold flA at hQ; rw [hst] at hQ; exact hQ))
        | (have hst : stA R0 (S_price R0) k R = R := if_neg (by rw [← hbe, cnd81]; decide)
           exact ih mem R (k + 1) hR hG (by omega) hf hbn _ (by unfold flA at hQ; rw [hst] at hQ; exact hQ))
theorem c_X12_anHour {d n : Nat} {mem : am_M} {Q : am_P} {R : am_R} (hR : mem 222 = R) (hw : wfR R) (hT : wfTs R) (hQ : ∀ m2 : am_M, FrR mem m2 → m2 222 = S_hour R → Q none (am_SK n) m2) : am_ex (d + 6) 177 [.ref 221] (am_SK n) mem Q := by
  have hb := wb_all hw
  have hf := FrR_refl mem
  unfold S_hour at hQ
  have hpr : S_price R = S_price R := rfl
  cases ho : S_cnt R 2 (nn (R 6)) with
  | none =>
    refine ex_in (c0 := kc_X12_anHour) rfl (L := [some (.ref 221), none, none, none, none]) rfl ?_
    refine ev_aload rfl rfl ?_
    refine ev_iconst (x := nI 2) rfl rfl ?_
    refine ev_call rfl rfl ?_
    refine r_counts hR hw hT 2 (by decide) ?_
    rw [ho]
    change am_ev _ _ _ _ (.int (-1) :: _) _ _ _
    change am_ev _ _ _ _ (_ :: _) _ _ _
    refine ev_istore rfl rfl (Nat.le_of_ble_eq_true rfl) ?_
    refine ev_aload rfl rfl ?_
    refine ev_getR (c := 12) (j := 22) rfl ?_ (hq := k_221 n)
    refine ev_iconst (x := nI 0) rfl rfl ?_
    refine ev_aload rfl rfl ?_
    refine ev_getR (c := 12) (j := 0) rfl ?_ (hq := k_221 n)
    refine ev_iconst (x := nI 0) rfl rfl ?_
    refine ev_ialdN rfl rfl ?_ (hq := k_222 n)
    rw [show mem 222 (0) = nI (nn (R 0)) by rw [hR]; (repeat rw [upd_ne (by omega)]); exact wr0 hw]
    refine ev_iastS rfl (fun mem hm => ?_) (hq := k_233 n)
    have hR : mem 222 = R := by rw [hm, am_up_ne (by decide)]; exact hR
    have hf := FrR_tr hf (FrR_one (by decide) hm)
    have hF0 : mem 233 0 = nI (nn (R 0)) := by rw [hm, am_up_eq]
    refine ev_aload rfl rfl ?_
    refine ev_getR (c := 12) (j := 22) rfl ?_ (hq := k_221 n)
    refine ev_iconst (x := nI 1) rfl rfl ?_
    refine ev_aload rfl rfl ?_
    refine ev_getR (c := 12) (j := 0) rfl ?_ (hq := k_221 n)
    refine ev_iconst (x := nI 1) rfl rfl ?_
    refine ev_ialdN rfl rfl ?_ (hq := k_222 n)
    rw [show mem 222 (1) = nI (nn (R 1)) by rw [hR]; (repeat rw [upd_ne (by omega)]); exact wr1 hw]
    refine ev_iastS rfl (fun mem hm => ?_) (hq := k_233 n)
    have hR : mem 222 = R := by rw [hm, am_up_ne (by decide)]; exact hR
    have hf := FrR_tr hf (FrR_one (by decide) hm)
    have hF0 : mem 233 0 = nI (nn (R 0)) := by rw [hm, am_up_nk (by decide)]; exact hF0
    have hF1 : mem 233 1 = nI (nn (R 1)) := by rw [hm, am_up_eq]
    refine ev_iload rfl rfl ?_
    refine ev_if_ge (p2 := 39) rfl rfl (fun cnd31 => ?_) (fun cnd31 => ?_)
    · exact absurd cnd31 (by decide)
    · skip
      refine ev_iconst (x := nI 10) rfl rfl ?_
      refine ev_goto (p2 := 51) rfl rfl ?_
      refine ev_istore rfl rfl (Nat.le_of_ble_eq_true rfl) ?_
      refine ev_iconst (x := nI 0) rfl rfl ?_
      refine ev_istore rfl rfl (Nat.le_of_ble_eq_true rfl) ?_
      rw [show nI 10 = S_price R by unfold S_price; rw [ho]]
      exact l_anHour1 hw _ _ mem R 0 hR (HG0 hw hT) (Nat.zero_add _) hf (fun l hl => absurd hl (Nat.not_lt_zero l)) _ hQ
  | some u =>
    have hu := S_cnt_lt ho
    refine ex_in (c0 := kc_X12_anHour) rfl (L := [some (.ref 221), none, none, none, none]) rfl ?_
    refine ev_aload rfl rfl ?_
    refine ev_iconst (x := nI 2) rfl rfl ?_
    refine ev_call rfl rfl ?_
    refine r_counts hR hw hT 2 (by decide) ?_
    rw [ho]
    change am_ev _ _ _ _ (.int (nI u) :: _) _ _ _
    change am_ev _ _ _ _ (_ :: _) _ _ _
    refine ev_istore rfl rfl (Nat.le_of_ble_eq_true rfl) ?_
    refine ev_aload rfl rfl ?_
    refine ev_getR (c := 12) (j := 22) rfl ?_ (hq := k_221 n)
    refine ev_iconst (x := nI 0) rfl rfl ?_
    refine ev_aload rfl rfl ?_
    refine ev_getR (c := 12) (j := 0) rfl ?_ (hq := k_221 n)
    refine ev_iconst (x := nI 0) rfl rfl ?_
    refine ev_ialdN rfl rfl ?_ (hq := k_222 n)
    rw [show mem 222 (0) = nI (nn (R 0)) by rw [hR]; (repeat rw [upd_ne (by omega)]); exact wr0 hw]
    refine ev_iastS rfl (fun mem hm => ?_) (hq := k_233 n)
    have hR : mem 222 = R := by rw [hm, am_up_ne (by decide)]; exact hR
    have hf := FrR_tr hf (FrR_one (by decide) hm)
    have hF0 : mem 233 0 = nI (nn (R 0)) := by rw [hm, am_up_eq]
    refine ev_aload rfl rfl ?_
    refine ev_getR (c := 12) (j := 22) rfl ?_ (hq := k_221 n)
    refine ev_iconst (x := nI 1) rfl rfl ?_
    refine ev_aload rfl rfl ?_
    refine ev_getR (c := 12) (j := 0) rfl ?_ (hq := k_221 n)
    refine ev_iconst (x := nI 1) rfl rfl ?_
    refine ev_ialdN rfl rfl ?_ (hq := k_222 n)
    rw [show mem 222 (1) = nI (nn (R 1)) by rw [hR]; (repeat rw [upd_ne (by omega)]); exact wr1 hw]
    refine ev_iastS rfl (fun mem hm => ?_) (hq := k_233 n)
    have hR : mem 222 = R := by rw [hm, am_up_ne (by decide)]; exact hR
    have hf := FrR_tr hf (FrR_one (by decide) hm)
    have hF0 : mem 233 0 = nI (nn (R 0)) := by rw [hm, am_up_nk (by decide)]; exact hF0
    have hF1 : mem 233 1 = nI (nn (R 1)) := by rw [hm, am_up_eq]
    refine ev_iload rfl rfl ?_
    refine ev_if_geN (p2 := 39) rfl rfl ?_
    refine ev_aload rfl rfl ?_
    refine ev_iload rfl rfl ?_
    refine ev_call rfl rfl ?_
    refine c_worksOutG (R := R) (G := S_F (R 0) (R 1) 0) hR u (by omega) (hT u hu) ?_ (fun mem h2 => ?_)
    · rw [S_cnt_key ho]; intro i hi; match i, hi with | 0, _ => exact hF0.trans (wr0 hw).symm | 1, _ => exact hF1.trans (wr1 hw).symm
    have hR := (h2 222 (by decide)).trans hR
    have hf := FrR_tr hf (FrR_sc (fun q h1 _ => h2 q h1))
    change am_ev _ _ _ _ (_ :: _) _ _ _
    refine ev_iconst (x := nI 0) rfl rfl ?_
    refine ev_iconst (x := nI 999) rfl rfl ?_
    refine ev_call rfl rfl ?_
    refine c_X12_within _ _ _ ?_
    change am_ev _ _ _ _ (_ :: _) _ _ _
    refine ev_istore rfl rfl (Nat.le_of_ble_eq_true rfl) ?_
    refine ev_iconst (x := nI 0) rfl rfl ?_
    refine ev_istore rfl rfl (Nat.le_of_ble_eq_true rfl) ?_
    rw [show (if S_val R (S_F (R 0) (R 1) 0) u < nI 0 then nI 0 else if nI 999 < S_val R (S_F (R 0) (R 1) 0) u then nI 999 else S_val R (S_F (R 0) (R 1) 0) u) = S_price R by unfold S_price; rw [ho]; rfl]
    exact l_anHour1 hw _ _ mem R 0 hR (HG0 hw hT) (Nat.zero_add _) hf (fun l hl => absurd hl (Nat.not_lt_zero l)) _ hQ
def S_hrs : Nat → am_R → am_R
  | 0, R => R
  | r + 1, R => S_hrs r (S_hour R)
abbrev P_hr (v : Int32) : Prop := nI 1 ≤ v ∧ v ≤ nI 60
def O_hours (R : am_R) (v : Int32) : Int32 × am_R := if P_hr v then (if nn (R 1) + (nn (R 0) + nn v) / 24 ≤ 999 then (S_hrs (nn v) R 0, S_hrs (nn v) R) else (S_FULL, R)) else (S_BAD, R)
theorem P_hr_n {v : Int32} (h : P_hr v) : v = nI (nn v) ∧ 1 ≤ nn v ∧ nn v ≤ 60 := by
  have t1 : (nI 1).toInt = 1 := rfl
  have t0 : (nI 0).toInt = 0 := rfl
  obtain ⟨h1, h2⟩ := h
  have h0 : nI 0 ≤ v := by rw [Int32.le_iff_toInt_le] at h1 ⊢; omega
  obtain ⟨e, h9⟩ := am_rng (by decide) (And.intro h0 h2)
  refine ⟨e, ?_, h9⟩
  rw [e, nI_leI (by decide) (by omega)] at h1
  exact h1
theorem hd_step {R : am_R} (hw : wfR R) (hT : wfTs R) {r : Nat} (hr : r ≤ 60) (h : nn (R 1) + (nn (R 0) + (r + 1)) / 24 ≤ 999) : nn (S_hour R 1) + (nn (S_hour R 0) + r) / 24 ≤ 999 := by
  have hb := wb_all hw
  rcases S_hour_hd hw hT (by omega) with h1 | h1
  · omega
  · omega
theorem l_X12_hours {d n : Nat} {mem0 : am_M} {Q : am_P} (m : Nat) (hm60 : m ≤ 60) (r : Nat) : ∀ (mem : am_M) (R : am_R) (k : Nat) (hR : mem 222 = R) (hw : wfR R) (hT : wfTs R) (hd : nn (R 1) + (nn (R 0) + r) / 24 ≤ 999) (hk : k + r = m) (hf : FrR mem0 mem) (hQ : ∀ m2 : am_M, FrR mem0 m2 → m2 222 = S_hrs r R → Q (some (.int (S_hrs r R 0))) (am_SK n) m2), am_ev kc_X12_hours (d + 6) 42 [some (.ref 221), some (.int (nI m)), some (.int (nI k))] [] (am_SK n) mem Q := by
  induction r with
  | zero =>
    intro mem R k hR hw hT hd hk hf hQ
    have hb := wb_all hw
    refine ev_iload rfl rfl ?_
    refine ev_iload rfl rfl ?_
    refine ev_icmp_geN (p2 := 57) rfl rfl (fun cnd44 => ?_) (fun cnd44 => ?_)
    · skip
      refine ev_aload rfl rfl ?_
      refine ev_getR (c := 12) (j := 0) rfl ?_ (hq := k_221 n)
      refine ev_iconst (x := nI 0) rfl rfl ?_
      refine ev_ialdN rfl rfl ?_ (hq := k_222 n)
      rw [show mem 222 (0) = nI (nn (R 0)) by rw [hR]; (repeat rw [upd_ne (by omega)]); exact wr0 hw]
      refine ev_iret rfl ?_
      have hz := hQ _ hf hR
      change Q (some (.int (R 0))) _ _ at hz
      rw [wr0 hw] at hz
      exact hz
    · omega
  | succ r ih =>
    intro mem R k hR hw hT hd hk hf hQ
    have hb := wb_all hw
    refine ev_iload rfl rfl ?_
    refine ev_iload rfl rfl ?_
    refine ev_icmp_geN (p2 := 57) rfl rfl (fun cnd44 => ?_) (fun cnd44 => ?_)
    · omega
    · skip
      refine ev_aload rfl rfl ?_
      refine ev_call rfl rfl ?_
      refine c_X12_anHour hR hw hT (fun mem h2 hR => ?_)
      have hf := FrR_tr hf h2
      have hwf := wf_hour hw hT (by omega)
      change am_ev _ _ _ _ _ _ _ _
      refine ev_iincN rfl rfl rfl ?_
      refine ev_goto (p2 := 42) rfl rfl ?_
      exact ih mem _ (k + 1) hR hwf.1 hwf.2 (hd_step hw hT (by omega) hd) (by omega) hf hQ
theorem c_X12_hours {d n : Nat} {mem : am_M} {Q : am_P} {R : am_R} (hR : mem 222 = R) (hw : wfR R) (hT : wfTs R) (v : Int32) (hQ : ∀ m2 : am_M, FrR mem m2 → m2 222 = (O_hours R v).2 → Q (some (.int (O_hours R v).1)) (am_SK n) m2) : am_ex (d + 7) 178 [.ref 221, .int v] (am_SK n) mem Q := by
  have hb := wb_all hw
  have hfr := Hfr0 mem
  unfold O_hours at hQ
  refine ex_in (c0 := kc_X12_hours) rfl (L := [some (.ref 221), some (.int v), none]) rfl ?_
  refine ev_iload rfl rfl ?_
  refine ev_iconst (x := nI 1) rfl rfl ?_
  refine ev_iconst (x := nI 60) rfl rfl ?_
  refine ev_call rfl rfl ?_
  refine c_X12_in _ _ _ ?_
  change am_ev _ _ _ _ (_ :: _) _ _ _
  refine ev_if_neB (p2 := 13) rfl rfl (fun cnd7 => ?_) (fun cnd7 => ?_)
  · skip
    have hP : P_hr v := cnd7
    rw [if_pos hP] at hQ
    obtain ⟨ev, h1, h60⟩ := P_hr_n hP
    clear cnd7 hP
    generalize nn v = m at ev h1 h60 hQ
    subst ev
    refine ev_aload rfl rfl ?_
    refine ev_getR (c := 12) (j := 0) rfl ?_ (hq := k_221 n)
    refine ev_iconst (x := nI 1) rfl rfl ?_
    refine ev_ialdN rfl rfl ?_ (hq := k_222 n)
    rw [show mem 222 (1) = nI (nn (R 1)) by rw [hR]; (repeat rw [upd_ne (by omega)]); exact wr1 hw]
    refine ev_aload rfl rfl ?_
    refine ev_getR (c := 12) (j := 0) rfl ?_ (hq := k_221 n)
    refine ev_iconst (x := nI 0) rfl rfl ?_
    refine ev_ialdN rfl rfl ?_ (hq := k_222 n)
    rw [show mem 222 (0) = nI (nn (R 0)) by rw [hR]; (repeat rw [upd_ne (by omega)]); exact wr0 hw]
    refine ev_iload rfl rfl ?_
    refine ev_iaddN rfl ?_
    refine ev_iconst (x := nI 24) rfl rfl ?_
    refine ev_idivN rfl ?_
    refine ev_iaddN rfl ?_
    refine ev_iconst (x := nI 999) rfl rfl ?_
    refine ev_icmp_leN (p2 := 40) rfl rfl (fun cnd34 => ?_) (fun cnd34 => ?_)
    · skip
      refine ev_iconst (x := nI 0) rfl rfl ?_
      refine ev_istore rfl rfl (Nat.le_of_ble_eq_true rfl) ?_
      rw [if_pos cnd34] at hQ
      exact l_X12_hours m h60 m mem R 0 hR hw hT cnd34 (Nat.zero_add _) (FrR_refl _) hQ
    · skip
      refine ev_iconst (x := (-1000000003)) rfl rfl ?_
      refine ev_iret rfl ?_
      rw [if_neg (by omega)] at hQ; exact hQ mem (FrR_refl _) hR
  · skip
    refine ev_iconst (x := (-1000000001)) rfl rfl ?_
    refine ev_iret rfl ?_
    rw [if_neg cnd7] at hQ; exact hQ mem (FrR_refl _) hR
