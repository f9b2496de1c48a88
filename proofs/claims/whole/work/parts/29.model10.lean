/-! the reference: which classes are too dark -/
def S_dkF (R : am_R) (t k : Nat) : Int32 := if S_val R (S_F (R 0) (nI k) (nI 0)) t ≤ S_light R (nI k) then nI 0 else nI 1 <<< (nI k &&& 31)
def S_dk (R : am_R) (t : Nat) : Nat → Nat → Int32 → Int32
  | 0, _, s => s
  | r + 1, k, s => S_dk R t r (k + 1) (s ||| S_dkF R t k)
def X_tooDark (R : am_R) : Int32 := match S_cnt R 3 (nn (R 6)) with
  | none => nI 0
  | some t => S_dk R t 4 0 (nI 0)
theorem l_X12_tooDark {d n : Nat} {mem : am_M} {Q : am_P} (R : am_R) (hw : wfR R) (hT : wfTs R) (t : Nat) (ht : t < 14) (hwt : wfT R t) (hkey : S_key R t = 3) (r k : Nat) (set : Int32) (hR : mem 222 = R) (hk : k + r = 4) (x : Option Value) (hQ : ∀ m2 : am_M, (∀ q, q ≠ 232 → q ≠ 233 → m2 q = mem q) → Q (some (.int (S_dk R t r k set))) (am_SK n) m2) : am_ev kc_X12_tooDark (d + 7) 10 [some (.ref 221), some (.int set), some (.int (nI t)), some (.int (nI k)), x] [] (am_SK n) mem Q := by
  induction r generalizing k set mem x with
  | zero =>
    have hk4 : k = 4 := by omega
    subst hk4
    refine ev_iload rfl rfl ?_
    refine ev_iconst (x := nI 4) rfl rfl ?_
    refine ev_icmp_ge (p2 := 71) rfl rfl (fun cnd12 => ?_) (fun cnd12 => ?_)
    · skip
      refine ev_iload rfl rfl ?_
      refine ev_iret rfl ?_
      exact hQ mem (fun _ _ _ => rfl)
    · exact absurd (Int32.le_refl _) cnd12
  | succ r ih =>
    subst hR
    unfold S_dk at hQ
    refine ev_iload rfl rfl ?_
    refine ev_iconst (x := nI 4) rfl rfl ?_
    refine ev_icmp_ge (p2 := 71) rfl rfl (fun cnd12 => ?_) (fun cnd12 => ?_)
    · exact absurd ((nI_leI (by decide) (by omega)).mp cnd12) (by omega)
    · skip
      refine ev_iload rfl rfl ?_
      refine ev_if_lt (p2 := 71) rfl rfl (fun cnd16 => ?_) (fun cnd16 => ?_)
      · exact absurd cnd16 (nI_pos (by omega))
      · skip
        refine ev_aload rfl rfl ?_
        refine ev_iload rfl rfl ?_
        refine ev_call rfl rfl ?_
        refine c_X12_lightOf hw hT (nI k) (fun m2 h2 => ?_)
        have e222 : m2 222 = mem 222 := h2 222 (by decide) (by decide)
        change am_ev _ _ _ _ (_ :: _) _ _ _
        refine ev_istore rfl rfl (Nat.le_of_ble_eq_true rfl) ?_
        refine ev_aload rfl rfl ?_
        refine ev_getR (c := 12) (j := 22) rfl ?_ (hq := k_221 n)
        refine ev_iconst (x := nI 0) rfl rfl ?_
        refine ev_aload rfl rfl ?_
        refine ev_getR (c := 12) (j := 0) rfl ?_ (hq := k_221 n)
        refine ev_iconst (x := nI 0) rfl rfl ?_
        refine ev_ialdN rfl (m := 0) (rfl) ?_ (hq := k_222 n)
        refine ev_iastN rfl (m := 0) (rfl) ?_ (hq := k_233 n)
        refine ev_aload rfl rfl ?_
        refine ev_getR (c := 12) (j := 22) rfl ?_ (hq := k_221 n)
        refine ev_iconst (x := nI 1) rfl rfl ?_
        refine ev_iload rfl rfl ?_
        refine ev_iastN rfl (m := 1) (rfl) ?_ (hq := k_233 n)
        refine ev_iload rfl rfl ?_
        refine ev_iload rfl rfl ?_
        refine ev_aload rfl rfl ?_
        refine ev_iload rfl rfl ?_
        refine ev_call rfl rfl ?_
        refine c_worksOutG (R := mem 222) (G := S_F (mem 222 0) (nI k) (nI 0)) ?_ t ht hwt ?_ (fun m4 h4 => ?_)
        · exact (am_up_ne (by decide)).trans ((am_up_ne (by decide)).trans e222)
        · rw [hkey]; intro i hi; match i, hi with | 0, _ => exact congrFun e222 0 | 1, _ => rfl
        change am_ev _ _ _ _ (_ :: _) _ _ _
        refine ev_icmp_ge (p2 := 62) rfl rfl (fun cnd53 => ?_) (fun cnd53 => ?_)
        · skip
          refine ev_iconst (x := nI 0) rfl rfl ?_
          refine ev_ior rfl ?_
          refine ev_istore rfl rfl (Nat.le_of_ble_eq_true rfl) ?_
          refine ev_iinc rfl rfl rfl rfl ?_
          refine ev_goto (p2 := 10) rfl rfl ?_
          first
          | (rw [show S_dkF (mem 222) t k = nI 0 from (if_pos cnd53)] at hQ
             change am_ev _ _ _ [some (.ref 221), some (.int (set ||| nI 0)), some (.int (nI t)), some (.int (nI k + Int32.ofInt 1)), _] _ _ _ _
             rw [nI_inc1]
             refine ih _ _ ?_ ?_ _ (fun m5 h5 => ?_)
             · exact (h4 222 (by decide)).trans ((am_up_ne (by decide)).trans ((am_up_ne (by decide)).trans e222))
             · omega
             · refine hQ m5 (fun q hq1 hq2 => ?_)
               rw [h5 q hq1 hq2, h4 q hq1, am_up_ne hq2, am_up_ne hq2, h2 q hq1 hq2])
          | (rw [show S_dkF (mem 222) t k = (nI 1 <<< (nI k &&& 31)) from (if_neg cnd53)] at hQ
             change am_ev _ _ _ [some (.ref 221), some (.int (set ||| (nI 1 <<< (nI k &&& 31)))), some (.int (nI t)), some (.int (nI k + Int32.ofInt 1)), _] _ _ _ _
             rw [nI_inc1]
             refine ih _ _ ?_ ?_ _ (fun m5 h5 => ?_)
             · exact (h4 222 (by decide)).trans ((am_up_ne (by decide)).trans ((am_up_ne (by decide)).trans e222))
             · omega
             · refine hQ m5 (fun q hq1 hq2 => ?_)
               rw [h5 q hq1 hq2, h4 q hq1, am_up_ne hq2, am_up_ne hq2, h2 q hq1 hq2])
        · skip
          refine ev_iconst (x := nI 1) rfl rfl ?_
          refine ev_iload rfl rfl ?_
          refine ev_ishl rfl ?_
          refine ev_goto (p2 := 63) rfl rfl ?_
          refine ev_ior rfl ?_
          refine ev_istore rfl rfl (Nat.le_of_ble_eq_true rfl) ?_
          refine ev_iinc rfl rfl rfl rfl ?_
          refine ev_goto (p2 := 10) rfl rfl ?_
          first
          | (rw [show S_dkF (mem 222) t k = nI 0 from (if_pos cnd53)] at hQ
             change am_ev _ _ _ [some (.ref 221), some (.int (set ||| nI 0)), some (.int (nI t)), some (.int (nI k + Int32.ofInt 1)), _] _ _ _ _
             rw [nI_inc1]
             refine ih _ _ ?_ ?_ _ (fun m5 h5 => ?_)
             · exact (h4 222 (by decide)).trans ((am_up_ne (by decide)).trans ((am_up_ne (by decide)).trans e222))
             · omega
             · refine hQ m5 (fun q hq1 hq2 => ?_)
               rw [h5 q hq1 hq2, h4 q hq1, am_up_ne hq2, am_up_ne hq2, h2 q hq1 hq2])
          | (rw [show S_dkF (mem 222) t k = (nI 1 <<< (nI k &&& 31)) from (if_neg cnd53)] at hQ
             change am_ev _ _ _ [some (.ref 221), some (.int (set ||| (nI 1 <<< (nI k &&& 31)))), some (.int (nI t)), some (.int (nI k + Int32.ofInt 1)), _] _ _ _ _
             rw [nI_inc1]
             refine ih _ _ ?_ ?_ _ (fun m5 h5 => ?_)
             · exact (h4 222 (by decide)).trans ((am_up_ne (by decide)).trans ((am_up_ne (by decide)).trans e222))
             · omega
             · refine hQ m5 (fun q hq1 hq2 => ?_)
               rw [h5 q hq1 hq2, h4 q hq1, am_up_ne hq2, am_up_ne hq2, h2 q hq1 hq2])
theorem c_X12_tooDark {d n : Nat} {mem : am_M} {Q : am_P} (hw : wfR (mem 222)) (hT : wfTs (mem 222)) (hQ : ∀ m2 : am_M, (∀ q, q ≠ 232 → q ≠ 233 → m2 q = mem q) → Q (some (.int (X_tooDark (mem 222)))) (am_SK n) m2) : am_ex (d + 8) 182 [.ref 221] (am_SK n) mem Q := by
  have hr6 : nn (mem 222 6) < 15 := hw.2.1.2.2.2.1.2
  unfold X_tooDark at hQ
  refine ex_in (c0 := kc_X12_tooDark) rfl (L := [some (.ref 221), none, none, none, none]) rfl ?_
  cases ho : S_cnt (mem 222) 3 (nn (mem 222 6)) with
  | none =>
    simp only [ho] at hQ
    refine ev_iconst (x := nI 0) rfl rfl ?_
    refine ev_istore rfl rfl (Nat.le_of_ble_eq_true rfl) ?_
    refine ev_aload rfl rfl ?_
    refine ev_iconst (x := nI 3) rfl rfl ?_
    refine ev_call rfl rfl ?_
    refine c_X12_counts hw (wfTs_H hT) 3 (by decide) ?_
    rw [ho]
    change am_ev _ _ _ _ (_ :: _) _ _ _
    refine ev_istore rfl rfl (Nat.le_of_ble_eq_true rfl) ?_
    refine ev_iconst (x := nI 0) rfl rfl ?_
    refine ev_istore rfl rfl (Nat.le_of_ble_eq_true rfl) ?_
    refine ev_iload rfl rfl ?_
    refine ev_iconst (x := nI 4) rfl rfl ?_
    refine ev_icmp_ge (p2 := 71) rfl rfl (fun cnd12 => ?_) (fun cnd12 => ?_)
    · exact absurd cnd12 (by decide)
    · skip
      refine ev_iload rfl rfl ?_
      refine ev_if_lt (p2 := 71) rfl rfl (fun cnd16 => ?_) (fun cnd16 => ?_)
      · skip
        refine ev_iload rfl rfl ?_
        refine ev_iret rfl ?_
        exact hQ mem (fun _ _ _ => rfl)
      · exact absurd (by decide) cnd16
  | some t =>
    simp only [ho] at hQ
    have ht := S_cnt_lt ho
    refine ev_iconst (x := nI 0) rfl rfl ?_
    refine ev_istore rfl rfl (Nat.le_of_ble_eq_true rfl) ?_
    refine ev_aload rfl rfl ?_
    refine ev_iconst (x := nI 3) rfl rfl ?_
    refine ev_call rfl rfl ?_
    refine c_X12_counts hw (wfTs_H hT) 3 (by decide) ?_
    rw [ho]
    change am_ev _ _ _ _ (_ :: _) _ _ _
    refine ev_istore rfl rfl (Nat.le_of_ble_eq_true rfl) ?_
    refine ev_iconst (x := nI 0) rfl rfl ?_
    refine ev_istore rfl rfl (Nat.le_of_ble_eq_true rfl) ?_
    exact l_X12_tooDark (mem 222) hw hT t (by omega) (hT t ht) (S_cnt_key ho) 4 0 (nI 0) rfl rfl _ hQ
