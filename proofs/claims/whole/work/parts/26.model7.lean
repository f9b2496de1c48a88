/-! the reference: sums over the lamps -/
def S_sumF (f : Nat → Int32) : Nat → Nat → Int32 → Int32
  | 0, _, s => s
  | r + 1, k, s => S_sumF f r (k + 1) (s + f k)
def S_lt (R : am_R) (ofc : Int32) (l : Nat) : Int32 := if R (77 + 7 * l + 3) = ofc ∧ S_burns R l = true then S_draw R l else nI 0
def S_light (R : am_R) (ofc : Int32) : Int32 := S_sumF (S_lt R ofc) (nn (R 5)) 0 (nI 0)
def S_dr (R : am_R) (cab bu : Int32) (l : Nat) : Int32 := if nI (S_cab R (nn (R (77 + 7 * l + 1)))) = cab ∧ S_should R l = true ∧ (bu = 0 ∨ S_fed R l = true) then S_draw R l else nI 0
def S_drawn (R : am_R) (cab bu : Int32) : Int32 := S_sumF (S_dr R cab bu) (nn (R 5)) 0 (nI 0)
theorem l_X12_lightOf {d n : Nat} {mem : am_M} {Q : am_P} (R : am_R) (hw : wfR R) (hT : wfTs R) (ofc : Int32) (r k : Nat) (sum : Int32) (hR : mem 222 = R) (hk : k + r = nn (R 5)) (hQ : ∀ m2 : am_M, (∀ q, q ≠ 232 → q ≠ 233 → m2 q = mem q) → Q (some (.int (S_sumF (S_lt R ofc) r k sum))) (am_SK n) m2) : am_ev kc_X12_lightOf (d + 6) 4 [some (.ref 221), some (.int ofc), some (.int sum), some (.int (nI k))] [] (am_SK n) mem Q := by
  induction r generalizing k sum mem with
  | zero =>
    subst hR
    have h5 := hw.2.1.2.2.1.1
    have hkn : k = nn (mem 222 5) := by omega
    refine ev_iload rfl rfl ?_
    refine ev_aload rfl rfl ?_
    refine ev_getR (c := 12) (j := 0) rfl ?_ (hq := k_221 n)
    refine ev_iconst (x := nI 5) rfl rfl ?_
    refine ev_ialdN rfl (m := 5) (rfl) ?_ (hq := k_222 n)
    rw [h5]
    refine ev_icmp_ge (p2 := 50) rfl rfl (fun cnd11 => ?_) (fun cnd11 => ?_)
    · skip
      refine ev_iload rfl rfl ?_
      refine ev_iret rfl ?_
      exact hQ mem (fun _ _ _ => rfl)
    · exact absurd (by rw [hkn]; exact Int32.le_refl _) cnd11
  | succ r ih =>
    subst hR
    have h5 := hw.2.1.2.2.1.1
    have hr5 : nn (mem 222 5) < 17 := hw.2.1.2.2.1.2
    have hl : k < nn (mem 222 5) := by omega
    obtain ⟨-, ⟨e2, g2⟩, -⟩ := hw.2.2.2.2.1 k hl
    unfold S_sumF at hQ
    refine ev_iload rfl rfl ?_
    refine ev_aload rfl rfl ?_
    refine ev_getR (c := 12) (j := 0) rfl ?_ (hq := k_221 n)
    refine ev_iconst (x := nI 5) rfl rfl ?_
    refine ev_ialdN rfl (m := 5) (rfl) ?_ (hq := k_222 n)
    rw [h5]
    refine ev_icmp_ge (p2 := 50) rfl rfl (fun cnd11 => ?_) (fun cnd11 => ?_)
    · exact absurd ((nI_leI (by omega) (by omega)).mp cnd11) (by omega)
    · skip
      refine ev_iload rfl rfl ?_
      refine ev_aload rfl rfl ?_
      refine ev_iload rfl rfl ?_
      refine ev_iconst (x := nI 3) rfl rfl ?_
      refine ev_call rfl rfl ?_
      refine c_X12_lamp7 (a := k) (w := 3) (by omega) ?_
      change am_ev _ _ _ _ (_ :: _) _ _ _
      refine ev_iload rfl rfl ?_
      refine ev_icmp_ne (p2 := 41) rfl rfl (fun cnd22 => ?_) (fun cnd22 => ?_)
      · skip
        refine ev_iconst (x := nI 0) rfl rfl ?_
        refine ev_iadd rfl ?_
        refine ev_istore rfl rfl (Nat.le_of_ble_eq_true rfl) ?_
        refine ev_iinc rfl rfl rfl rfl ?_
        refine ev_goto (p2 := 4) rfl rfl ?_
        first
        | (rw [show S_lt (mem 222) ofc k = S_draw (mem 222) k from (if_pos ⟨cnd22, obn0.mp cnd30⟩)] at hQ
           change am_ev _ _ _ [some (.ref 221), some (.int ofc), some (.int (sum + S_draw (mem 222) k)), some (.int (nI k + Int32.ofInt 1))] _ _ _ _
           rw [nI_inc1]
           refine ih _ _ ?_ ?_ (fun m3 h3 => ?_)
           · exact h2 222 (by decide) (by decide)
           · omega
           · refine hQ m3 (fun q hq1 hq2 => ?_)
             rw [h3 q hq1 hq2, h2 q hq1 hq2])
        | (rw [show S_lt (mem 222) ofc k = nI 0 from (if_neg (fun z => cnd22 z.1))] at hQ
           change am_ev _ _ _ [some (.ref 221), some (.int ofc), some (.int (sum + nI 0)), some (.int (nI k + Int32.ofInt 1))] _ _ _ _
           rw [nI_inc1]
           refine ih _ _ ?_ ?_ (fun m3 h3 => ?_)
           · rfl
           · omega
           · refine hQ m3 (fun q hq1 hq2 => ?_)
             rw [h3 q hq1 hq2])
        | (rw [show S_lt (mem 222) ofc k = nI 0 from (if_neg (fun z => obn0.mpr z.2 cnd30))] at hQ
           change am_ev _ _ _ [some (.ref 221), some (.int ofc), some (.int (sum + nI 0)), some (.int (nI k + Int32.ofInt 1))] _ _ _ _
           rw [nI_inc1]
           refine ih _ _ ?_ ?_ (fun m3 h3 => ?_)
           · rfl
           · omega
           · refine hQ m3 (fun q hq1 hq2 => ?_)
             rw [h3 q hq1 hq2])
      · skip
        refine ev_aload rfl rfl ?_
        refine ev_iload rfl rfl ?_
        refine ev_call rfl rfl ?_
        refine c_X12_burns hw k hl ?_
        change am_ev _ _ _ _ (_ :: _) _ _ _
        refine ev_if_eq (p2 := 41) rfl rfl (fun cnd30 => ?_) (fun cnd30 => ?_)
        · skip
          refine ev_iconst (x := nI 0) rfl rfl ?_
          refine ev_iadd rfl ?_
          refine ev_istore rfl rfl (Nat.le_of_ble_eq_true rfl) ?_
          refine ev_iinc rfl rfl rfl rfl ?_
          refine ev_goto (p2 := 4) rfl rfl ?_
          first
          | (rw [show S_lt (mem 222) ofc k = S_draw (mem 222) k from (if_pos ⟨cnd22, obn0.mp cnd30⟩)] at hQ
             change am_ev _ _ _ [some (.ref 221), some (.int ofc), some (.int (sum + S_draw (mem 222) k)), some (.int (nI k + Int32.ofInt 1))] _ _ _ _
             rw [nI_inc1]
             refine ih _ _ ?_ ?_ (fun m3 h3 => ?_)
             · exact h2 222 (by decide) (by decide)
             · omega
             · refine hQ m3 (fun q hq1 hq2 => ?_)
               rw [h3 q hq1 hq2, h2 q hq1 hq2])
          | (rw [show S_lt (mem 222) ofc k = nI 0 from (if_neg (fun z => cnd22 z.1))] at hQ
             change am_ev _ _ _ [some (.ref 221), some (.int ofc), some (.int (sum + nI 0)), some (.int (nI k + Int32.ofInt 1))] _ _ _ _
             rw [nI_inc1]
             refine ih _ _ ?_ ?_ (fun m3 h3 => ?_)
             · rfl
             · omega
             · refine hQ m3 (fun q hq1 hq2 => ?_)
               rw [h3 q hq1 hq2])
          | (rw [show S_lt (mem 222) ofc k = nI 0 from (if_neg (fun z => obn0.mpr z.2 cnd30))] at hQ
             change am_ev _ _ _ [some (.ref 221), some (.int ofc), some (.int (sum + nI 0)), some (.int (nI k + Int32.ofInt 1))] _ _ _ _
             rw [nI_inc1]
             refine ih _ _ ?_ ?_ (fun m3 h3 => ?_)
             · rfl
             · omega
             · refine hQ m3 (fun q hq1 hq2 => ?_)
               rw [h3 q hq1 hq2])
        · skip
          refine ev_aload rfl rfl ?_
          refine ev_iload rfl rfl ?_
          refine ev_call rfl rfl ?_
          refine c_X12_draws hw hT k hl (fun m2 h2 => ?_)
          change am_ev _ _ _ _ (_ :: _) _ _ _
          refine ev_goto (p2 := 42) rfl rfl ?_
          refine ev_iadd rfl ?_
          refine ev_istore rfl rfl (Nat.le_of_ble_eq_true rfl) ?_
          refine ev_iinc rfl rfl rfl rfl ?_
          refine ev_goto (p2 := 4) rfl rfl ?_
          first
          | (rw [show S_lt (mem 222) ofc k = S_draw (mem 222) k from (if_pos ⟨cnd22, obn0.mp cnd30⟩)] at hQ
             change am_ev _ _ _ [some (.ref 221), some (.int ofc), some (.int (sum + S_draw (mem 222) k)), some (.int (nI k + Int32.ofInt 1))] _ _ _ _
             rw [nI_inc1]
             refine ih _ _ ?_ ?_ (fun m3 h3 => ?_)
             · exact h2 222 (by decide) (by decide)
             · omega
             · refine hQ m3 (fun q hq1 hq2 => ?_)
               rw [h3 q hq1 hq2, h2 q hq1 hq2])
          | (rw [show S_lt (mem 222) ofc k = nI 0 from (if_neg (fun z => cnd22 z.1))] at hQ
             change am_ev _ _ _ [some (.ref 221), some (.int ofc), some (.int (sum + nI 0)), some (.int (nI k + Int32.ofInt 1))] _ _ _ _
             rw [nI_inc1]
             refine ih _ _ ?_ ?_ (fun m3 h3 => ?_)
             · rfl
             · omega
             · refine hQ m3 (fun q hq1 hq2 => ?_)
               rw [h3 q hq1 hq2])
          | (rw [show S_lt (mem 222) ofc k = nI 0 from (if_neg (fun z => obn0.mpr z.2 cnd30))] at hQ
             change am_ev _ _ _ [some (.ref 221), some (.int ofc), some (.int (sum + nI 0)), some (.int (nI k + Int32.ofInt 1))] _ _ _ _
             rw [nI_inc1]
             refine ih _ _ ?_ ?_ (fun m3 h3 => ?_)
             · rfl
             · omega
             · refine hQ m3 (fun q hq1 hq2 => ?_)
               rw [h3 q hq1 hq2])
theorem c_X12_lightOf {d n : Nat} {mem : am_M} {Q : am_P} (hw : wfR (mem 222)) (hT : wfTs (mem 222)) (ofc : Int32) (hQ : ∀ m2 : am_M, (∀ q, q ≠ 232 → q ≠ 233 → m2 q = mem q) → Q (some (.int (S_light (mem 222) ofc))) (am_SK n) m2) : am_ex (d + 7) 180 [.ref 221, .int ofc] (am_SK n) mem Q := by
  refine ex_in (c0 := kc_X12_lightOf) rfl (L := [some (.ref 221), some (.int ofc), none, none]) rfl ?_
  refine ev_iconst (x := nI 0) rfl rfl ?_
  refine ev_istore rfl rfl (Nat.le_of_ble_eq_true rfl) ?_
  refine ev_iconst (x := nI 0) rfl rfl ?_
  refine ev_istore rfl rfl (Nat.le_of_ble_eq_true rfl) ?_
  exact l_X12_lightOf (mem 222) hw hT ofc _ 0 (nI 0) rfl (Nat.zero_add _) hQ
