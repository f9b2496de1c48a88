/-! the reference: what a cabinet's lamps draw -/
theorem l_X12_drawnBy {d n : Nat} {mem : am_M} {Q : am_P} (R : am_R) (hw : wfR R) (hT : wfTs R) (cab : Int32) (bu : Int32) (r k : Nat) (sum : Int32) (hR : mem 222 = R) (hk : k + r = nn (R 5)) (x : Option Value) (hQ : ∀ m2 : am_M, (∀ q, q ≠ 232 → q ≠ 233 → m2 q = mem q) → Q (some (.int (S_sumF (S_dr R cab bu) r k sum))) (am_SK n) m2) : am_ev kc_X12_drawnBy (d + 6) 5 [some (.ref 221), some (.int cab), some (.int bu), some (.int sum), some (.int (nI k)), x] [] (am_SK n) mem Q := by
  induction r generalizing k sum mem x with
  | zero =>
    subst hR
    have h5 := hw.2.1.2.2.1.1
    have hkn : k = nn (mem 222 5) := by omega
    refine ev_iload rfl rfl ?_
    refine ev_aload rfl rfl ?_
    refine ev_getR (c := 12) (j := 0) rfl ?_ (hq := k_221 n)
    refine ev_iconst (x := nI 5) rfl rfl ?_
    refine ev_ialdN rfl (m := 5) (rfl) ?_ (hq := k_222 n)
    rw [h5]
    refine ev_icmp_ge (p2 := 84) rfl rfl (fun cnd13 => ?_) (fun cnd13 => ?_)
    · skip
      refine ev_iload rfl rfl ?_
      refine ev_iret rfl ?_
      exact hQ mem (fun _ _ _ => rfl)
    · exact absurd (by rw [hkn]; exact Int32.le_refl _) cnd13
  | succ r ih =>
    subst hR
    have h5 := hw.2.1.2.2.1.1
    have hr5 : nn (mem 222 5) < 17 := hw.2.1.2.2.1.2
    have hl : k < nn (mem 222 5) := by omega
    obtain ⟨-, ⟨e2, g2⟩, -⟩ := hw.2.2.2.2.1 k hl
    unfold S_sumF at hQ
    refine ev_iload rfl rfl ?_
    refine ev_aload rfl rfl ?_
    refine ev_getR (c := 12) (j := 0) rfl ?_ (hq := k_221 n)
    refine ev_iconst (x := nI 5) rfl rfl ?_
    refine ev_ialdN rfl (m := 5) (rfl) ?_ (hq := k_222 n)
    rw [h5]
    refine ev_icmp_ge (p2 := 84) rfl rfl (fun cnd13 => ?_) (fun cnd13 => ?_)
    · exact absurd ((nI_leI (by omega) (by omega)).mp cnd13) (by omega)
    · skip
      refine ev_aload rfl rfl ?_
      refine ev_aload rfl rfl ?_
      refine ev_iload rfl rfl ?_
      refine ev_iconst (x := nI 1) rfl rfl ?_
      refine ev_call rfl rfl ?_
      refine c_X12_lamp7 (a := k) (w := 1) (by omega) ?_
      rw [e2]
      change am_ev _ _ _ _ (_ :: _) _ _ _
      refine ev_call rfl rfl ?_
      refine c_X12_cabOf hw _ g2 ?_
      change am_ev _ _ _ _ (_ :: _) _ _ _
      refine ev_iload rfl rfl ?_
      refine ev_icmp_ne (p2 := 57) rfl rfl (fun cnd28 => ?_) (fun cnd28 => ?_)
      · skip
        refine ev_iconst (x := nI 0) rfl rfl ?_
        refine ev_istore rfl rfl (Nat.le_of_ble_eq_true rfl) ?_
        refine ev_iload rfl rfl ?_
        refine ev_iload rfl rfl ?_
        refine ev_if_eq (p2 := 75) rfl rfl (fun cnd63 => ?_) (fun cnd63 => ?_)
        · skip
          refine ev_iconst (x := nI 0) rfl rfl ?_
          refine ev_iadd rfl ?_
          refine ev_istore rfl rfl (Nat.le_of_ble_eq_true rfl) ?_
          refine ev_iinc rfl rfl rfl rfl ?_
          refine ev_goto (p2 := 5) rfl rfl ?_
          first
          | exact absurd cnd63 (by decide)
          | exact absurd (by decide) cnd63
          | (rw [show S_dr (mem 222) cab bu k = S_draw (mem 222) k from (if_pos (And.intro cnd28 (And.intro (obn0.mp cnd37) (by first | exact Or.inl cnd41 | exact Or.inr (obn0.mp cnd50)))))] at hQ
             change am_ev _ _ _ [some (.ref 221), some (.int cab), some (.int bu), some (.int (sum + S_draw (mem 222) k)), some (.int (nI k + Int32.ofInt 1)), _] _ _ _ _
             rw [nI_inc1]
             refine ih _ _ ?_ ?_ _ (fun m3 h3 => ?_)
             · exact h2 222 (by decide) (by decide)
             · omega
             · refine hQ m3 (fun q hq1 hq2 => ?_)
               rw [h3 q hq1 hq2, h2 q hq1 hq2])
          | (rw [show S_dr (mem 222) cab bu k = nI 0 from (if_neg (fun z => cnd28 z.1))] at hQ
             change am_ev _ _ _ [some (.ref 221), some (.int cab), some (.int bu), some (.int (sum + nI 0)), some (.int (nI k + Int32.ofInt 1)), _] _ _ _ _
             rw [nI_inc1]
             refine ih _ _ ?_ ?_ _ (fun m3 h3 => ?_)
             · rfl
             · omega
             · refine hQ m3 (fun q hq1 hq2 => ?_)
               rw [h3 q hq1 hq2])
          | (rw [show S_dr (mem 222) cab bu k = nI 0 from (if_neg (fun z => obn0.mpr z.2.1 cnd37))] at hQ
             change am_ev _ _ _ [some (.ref 221), some (.int cab), some (.int bu), some (.int (sum + nI 0)), some (.int (nI k + Int32.ofInt 1)), _] _ _ _ _
             rw [nI_inc1]
             refine ih _ _ ?_ ?_ _ (fun m3 h3 => ?_)
             · rfl
             · omega
             · refine hQ m3 (fun q hq1 hq2 => ?_)
               rw [h3 q hq1 hq2])
          | (rw [show S_dr (mem 222) cab bu k = nI 0 from (if_neg (fun z => z.2.2.elim cnd41 (fun y => obn0.mpr y cnd50)))] at hQ
             change am_ev _ _ _ [some (.ref 221), some (.int cab), some (.int bu), some (.int (sum + nI 0)), some (.int (nI k + Int32.ofInt 1)), _] _ _ _ _
             rw [nI_inc1]
             refine ih _ _ ?_ ?_ _ (fun m3 h3 => ?_)
             · rfl
             · omega
             · refine hQ m3 (fun q hq1 hq2 => ?_)
               rw [h3 q hq1 hq2])
        · skip
          refine ev_aload rfl rfl ?_
          refine ev_iload rfl rfl ?_
          refine ev_call rfl rfl ?_
          refine c_X12_draws hw hT k hl (fun m2 h2 => ?_)
          change am_ev _ _ _ _ (_ :: _) _ _ _
          refine ev_goto (p2 := 76) rfl rfl ?_
          refine ev_iadd rfl ?_
          refine ev_istore rfl rfl (Nat.le_of_ble_eq_true rfl) ?_
          refine ev_iinc rfl rfl rfl rfl ?_
          refine ev_goto (p2 := 5) rfl rfl ?_
          first
          | exact absurd cnd63 (by decide)
          | exact absurd (by decide) cnd63
          | (rw [show S_dr (mem 222) cab bu k = S_draw (mem 222) k from (if_pos (And.intro cnd28 (And.intro (obn0.mp cnd37) (by first | exact Or.inl cnd41 | exact Or.inr (obn0.mp cnd50)))))] at hQ
             change am_ev _ _ _ [some (.ref 221), some (.int cab), some (.int bu), some (.int (sum + S_draw (mem 222) k)), some (.int (nI k + Int32.ofInt 1)), _] _ _ _ _
             rw [nI_inc1]
             refine ih _ _ ?_ ?_ _ (fun m3 h3 => ?_)
             · exact h2 222 (by decide) (by decide)
             · omega
             · refine hQ m3 (fun q hq1 hq2 => ?_)
               rw [h3 q hq1 hq2, h2 q hq1 hq2])
          | (rw [show S_dr (mem 222) cab bu k = nI 0 from (if_neg (fun z => cnd28 z.1))] at hQ
             change am_ev _ _ _ [some (.ref 221), some (.int cab), some (.int bu), some (.int (sum + nI 0)), some (.int (nI k + Int32.ofInt 1)), _] _ _ _ _
             rw [nI_inc1]
             refine ih _ _ ?_ ?_ _ (fun m3 h3 => ?_)
             · rfl
             · omega
             · refine hQ m3 (fun q hq1 hq2 => ?_)
               rw [h3 q hq1 hq2])
          | (rw [show S_dr (mem 222) cab bu k = nI 0 from (if_neg (fun z => obn0.mpr z.2.1 cnd37))] at hQ
             change am_ev _ _ _ [some (.ref 221), some (.int cab), some (.int bu), some (.int (sum + nI 0)), some (.int (nI k + Int32.ofInt 1)), _] _ _ _ _
             rw [nI_inc1]
             refine ih _ _ ?_ ?_ _ (fun m3 h3 => ?_)
             · rfl
             · omega
             · refine hQ m3 (fun q hq1 hq2 => ?_)
               rw [h3 q hq1 hq2])
          | (rw [show S_dr (mem 222) cab bu k = nI 0 from (if_neg (fun z => z.2.2.elim cnd41 (fun y => obn0.mpr y cnd50)))] at hQ
             change am_ev _ _ _ [some (.ref 221), some (.int cab), some (.int bu), some (.int (sum + nI 0)), some (.int (nI k + Int32.ofInt 1)), _] _ _ _ _
             rw [nI_inc1]
             refine ih _ _ ?_ ?_ _ (fun m3 h3 => ?_)
             · rfl
             · omega
             · refine hQ m3 (fun q hq1 hq2 => ?_)
               rw [h3 q hq1 hq2])
      · skip
        refine ev_aload rfl rfl ?_
        refine ev_iload rfl rfl ?_
        refine ev_call rfl rfl ?_
        refine c_X12_shouldBurn hw k hl ?_
        change am_ev _ _ _ _ (_ :: _) _ _ _
        refine ev_if_eq (p2 := 57) rfl rfl (fun cnd37 => ?_) (fun cnd37 => ?_)
        · skip
          refine ev_iconst (x := nI 0) rfl rfl ?_
          refine ev_istore rfl rfl (Nat.le_of_ble_eq_true rfl) ?_
          refine ev_iload rfl rfl ?_
          refine ev_iload rfl rfl ?_
          refine ev_if_eq (p2 := 75) rfl rfl (fun cnd63 => ?_) (fun cnd63 => ?_)
          · skip
            refine ev_iconst (x := nI 0) rfl rfl ?_
            refine ev_iadd rfl ?_
            refine ev_istore rfl rfl (Nat.le_of_ble_eq_true rfl) ?_
            refine ev_iinc rfl rfl rfl rfl ?_
            refine ev_goto (p2 := 5) rfl rfl ?_
            first
            | exact absurd cnd63 (by decide)
            | exact absurd (by decide) cnd63
            | (rw [show S_dr (mem 222) cab bu k = S_draw (mem 222) k from (if_pos (And.intro cnd28 (And.intro (obn0.mp cnd37) (by first | exact Or.inl cnd41 | exact Or.inr (obn0.mp cnd50)))))] at hQ
               change am_ev _ _ _ [some (.ref 221), some (.int cab), some (.int bu), some (.int (sum + S_draw (mem 222) k)), some (.int (nI k + Int32.ofInt 1)), _] _ _ _ _
               rw [nI_inc1]
               refine ih _ _ ?_ ?_ _ (fun m3 h3 => ?_)
               · exact h2 222 (by decide) (by decide)
               · omega
               · refine hQ m3 (fun q hq1 hq2 => ?_)
                 rw [h3 q hq1 hq2, h2 q hq1 hq2])
            | (rw [show S_dr (mem 222) cab bu k = nI 0 from (if_neg (fun z => cnd28 z.1))] at hQ
               change am_ev _ _ _ [some (.ref 221), some (.int cab), some (.int bu), some (.int (sum + nI 0)), some (.int (nI k + Int32.ofInt 1)), _] _ _ _ _
               rw [nI_inc1]
               refine ih _ _ ?_ ?_ _ (fun m3 h3 => ?_)
               · rfl
               · omega
               · refine hQ m3 (fun q hq1 hq2 => ?_)
                 rw [h3 q hq1 hq2])
            | (rw [show S_dr (mem 222) cab bu k = nI 0 from (if_neg (fun z => obn0.mpr z.2.1 cnd37))] at hQ
               change am_ev _ _ _ [some (.ref 221), some (.int cab), some (.int bu), some (.int (sum + nI 0)), some (.int (nI k + Int32.ofInt 1)), _] _ _ _ _
               rw [nI_inc1]
               refine ih _ _ ?_ ?_ _ (fun m3 h3 => ?_)
               · rfl
               · omega
               · refine hQ m3 (fun q hq1 hq2 => ?_)
                 rw [h3 q hq1 hq2])
            | (rw [show S_dr (mem 222) cab bu k = nI 0 from (if_neg (fun z => z.2.2.elim cnd41 (fun y => obn0.mpr y cnd50)))] at hQ
               change am_ev _ _ _ [some (.ref 221), some (.int cab), some (.int bu), some (.int (sum + nI 0)), some (.int (nI k + Int32.ofInt 1)), _] _ _ _ _
               rw [nI_inc1]
               refine ih _ _ ?_ ?_ _ (fun m3 h3 => ?_)
               · rfl
               · omega
               · refine hQ m3 (fun q hq1 hq2 => ?_)
                 rw [h3 q hq1 hq2])
          · skip
            refine ev_aload rfl rfl ?_
            refine ev_iload rfl rfl ?_
            refine ev_call rfl rfl ?_
            refine c_X12_draws hw hT k hl (fun m2 h2 => ?_)
            change am_ev _ _ _ _ (_ :: _) _ _ _
            refine ev_goto (p2 := 76) rfl rfl ?_
            refine ev_iadd rfl ?_
            refine ev_istore rfl rfl (Nat.le_of_ble_eq_true rfl) ?_
            refine ev_iinc rfl rfl rfl rfl ?_
            refine ev_goto (p2 := 5) rfl rfl ?_
            first
            | exact absurd cnd63 (by decide)
            | exact absurd (by decide) cnd63
            | (rw [show S_dr (mem 222) cab bu k = S_draw (mem 222) k from (if_pos (And.intro cnd28 (And.intro (obn0.mp cnd37) (by first | exact Or.inl cnd41 | exact Or.inr (obn0.mp cnd50)))))] at hQ
               change am_ev _ _ _ [some (.ref 221), some (.int cab), some (.int bu), some (.int (sum + S_draw (mem 222) k)), some (.int (nI k + Int32.ofInt 1)), _] _ _ _ _
               rw [nI_inc1]
               refine ih _ _ ?_ ?_ _ (fun m3 h3 => ?_)
               · exact h2 222 (by decide) (by decide)
               · omega
               · refine hQ m3 (fun q hq1 hq2 => ?_)
                 rw [h3 q hq1 hq2, h2 q hq1 hq2])
            | (rw [show S_dr (mem 222) cab bu k = nI 0 from (if_neg (fun z => cnd28 z.1))] at hQ
               change am_ev _ _ _ [some (.ref 221), some (.int cab), some (.int bu), some (.int (sum + nI 0)), some (.int (nI k + Int32.ofInt 1)), _] _ _ _ _
               rw [nI_inc1]
               refine ih _ _ ?_ ?_ _ (fun m3 h3 => ?_)
               · rfl
               · omega
               · refine hQ m3 (fun q hq1 hq2 => ?_)
                 rw [h3 q hq1 hq2])
            | (rw [show S_dr (mem 222) cab bu k = nI 0 from (if_neg (fun z => obn0.mpr z.2.1 cnd37))] at hQ
               change am_ev _ _ _ [some (.ref 221), some (.int cab), some (.int bu), some (.int (sum + nI 0)), some (.int (nI k + Int32.ofInt 1)), _] _ _ _ _
               rw [nI_inc1]
               refine ih _ _ ?_ ?_ _ (fun m3 h3 => ?_)
               · rfl
               · omega
               · refine hQ m3 (fun q hq1 hq2 => ?_)
                 rw [h3 q hq1 hq2])
            | (rw [show S_dr (mem 222) cab bu k = nI 0 from (if_neg (fun z => z.2.2.elim cnd41 (fun y => obn0.mpr y cnd50)))] at hQ
               change am_ev _ _ _ [some (.ref 221), some (.int cab), some (.int bu), some (.int (sum + nI 0)), some (.int (nI k + Int32.ofInt 1)), _] _ _ _ _
               rw [nI_inc1]
               refine ih _ _ ?_ ?_ _ (fun m3 h3 => ?_)
               · rfl
               · omega
               · refine hQ m3 (fun q hq1 hq2 => ?_)
                 rw [h3 q hq1 hq2])
        · skip
          refine ev_iload rfl rfl ?_
          refine ev_if_eq (p2 := 53) rfl rfl (fun cnd41 => ?_) (fun cnd41 => ?_)
          · skip
            refine ev_iconst (x := nI 1) rfl rfl ?_
            refine ev_goto (p2 := 58) rfl rfl ?_
            refine ev_istore rfl rfl (Nat.le_of_ble_eq_true rfl) ?_
            refine ev_iload rfl rfl ?_
            refine ev_iload rfl rfl ?_
            refine ev_if_eq (p2 := 75) rfl rfl (fun cnd63 => ?_) (fun cnd63 => ?_)
            · skip
              refine ev_iconst (x := nI 0) rfl rfl ?_
              refine ev_iadd rfl ?_
              refine ev_istore rfl rfl (Nat.le_of_ble_eq_true rfl) ?_
              refine ev_iinc rfl rfl rfl rfl ?_
              refine ev_goto (p2 := 5) rfl rfl ?_
              first
              | exact absurd cnd63 (by decide)
              | exact absurd (by decide) cnd63
              | (rw [show S_dr (mem 222) cab bu k = S_draw (mem 222) k from (if_pos (And.intro cnd28 (And.intro (obn0.mp cnd37) (by first | exact Or.inl cnd41 | exact Or.inr (obn0.mp cnd50)))))] at hQ
                 change am_ev _ _ _ [some (.ref 221), some (.int cab), some (.int bu), some (.int (sum + S_draw (mem 222) k)), some (.int (nI k + Int32.ofInt 1)), _] _ _ _ _
                 rw [nI_inc1]
                 refine ih _ _ ?_ ?_ _ (fun m3 h3 => ?_)
                 · exact h2 222 (by decide) (by decide)
                 · omega
                 · refine hQ m3 (fun q hq1 hq2 => ?_)
                   rw [h3 q hq1 hq2, h2 q hq1 hq2])
              | (rw [show S_dr (mem 222) cab bu k = nI 0 from (if_neg (fun z => cnd28 z.1))] at hQ
                 change am_ev _ _ _ [some (.ref 221), some (.int cab), some (.int bu), some (.int (sum + nI 0)), some (.int (nI k + Int32.ofInt 1)), _] _ _ _ _
                 rw [nI_inc1]
                 refine ih _ _ ?_ ?_ _ (fun m3 h3 => ?_)
                 · rfl
                 · omega
                 · refine hQ m3 (fun q hq1 hq2 => ?_)
                   rw [h3 q hq1 hq2])
              | (rw [show S_dr (mem 222) cab bu k = nI 0 from (if_neg (fun z => obn0.mpr z.2.1 cnd37))] at hQ
                 change am_ev _ _ _ [some (.ref 221), some (.int cab), some (.int bu), some (.int (sum + nI 0)), some (.int (nI k + Int32.ofInt 1)), _] _ _ _ _
                 rw [nI_inc1]
                 refine ih _ _ ?_ ?_ _ (fun m3 h3 => ?_)
                 · rfl
                 · omega
                 · refine hQ m3 (fun q hq1 hq2 => ?_)
                   rw [h3 q hq1 hq2])
              | (rw [show S_dr (mem 222) cab bu k = nI 0 from (if_neg (fun z => z.2.2.elim cnd41 (fun y => obn0.mpr y cnd50)))] at hQ
                 change am_ev _ _ _ [some (.ref 221), some (.int cab), some (.int bu), some (.int (sum + nI 0)), some (.int (nI k + Int32.ofInt 1)), _] _ _ _ _
                 rw [nI_inc1]
                 refine ih _ _ ?_ ?_ _ (fun m3 h3 => ?_)
                 · rfl
                 · omega
                 · refine hQ m3 (fun q hq1 hq2 => ?_)
                   rw [h3 q hq1 hq2])
            · skip
              refine ev_aload rfl rfl ?_
              refine ev_iload rfl rfl ?_
              refine ev_call rfl rfl ?_
              refine c_X12_draws hw hT k hl (fun m2 h2 => ?_)
              change am_ev _ _ _ _ (_ :: _) _ _ _
              refine ev_goto (p2 := 76) rfl rfl ?_
              refine ev_iadd rfl ?_
              refine ev_istore rfl rfl (Nat.le_of_ble_eq_true rfl) ?_
              refine ev_iinc rfl rfl rfl rfl ?_
              refine ev_goto (p2 := 5) rfl rfl ?_
              first
              | exact absurd cnd63 (by decide)
              | exact absurd (by decide) cnd63
              | (rw [show S_dr (mem 222) cab bu k = S_draw (mem 222) k from (if_pos (And.intro cnd28 (And.intro (obn0.mp cnd37) (by first | exact Or.inl cnd41 | exact Or.inr (obn0.mp cnd50)))))] at hQ
                 change am_ev _ _ _ [some (.ref 221), some (.int cab), some (.int bu), some (.int (sum + S_draw (mem 222) k)), some (.int (nI k + Int32.ofInt 1)), _] _ _ _ _
                 rw [nI_inc1]
                 refine ih _ _ ?_ ?_ _ (fun m3 h3 => ?_)
                 · exact h2 222 (by decide) (by decide)
                 · omega
                 · refine hQ m3 (fun q hq1 hq2 => ?_)
                   rw [h3 q hq1 hq2, h2 q hq1 hq2])
              | (rw [show S_dr (mem 222) cab bu k = nI 0 from (if_neg (fun z => cnd28 z.1))] at hQ
                 change am_ev _ _ _ [some (.ref 221), some (.int cab), some (.int bu), some (.int (sum + nI 0)), some (.int (nI k + Int32.ofInt 1)), _] _ _ _ _
                 rw [nI_inc1]
                 refine ih _ _ ?_ ?_ _ (fun m3 h3 => ?_)
                 · rfl
                 · omega
                 · refine hQ m3 (fun q hq1 hq2 => ?_)
                   rw [h3 q hq1 hq2])
              | (rw [show S_dr (mem 222) cab bu k = nI 0 from (if_neg (fun z => obn0.mpr z.2.1 cnd37))] at hQ
                 change am_ev _ _ _ [some (.ref 221), some (.int cab), some (.int bu), some (.int (sum + nI 0)), some (.int (nI k + Int32.ofInt 1)), _] _ _ _ _
                 rw [nI_inc1]
                 refine ih _ _ ?_ ?_ _ (fun m3 h3 => ?_)
                 · rfl
                 · omega
                 · refine hQ m3 (fun q hq1 hq2 => ?_)
                   rw [h3 q hq1 hq2])
              | (rw [show S_dr (mem 222) cab bu k = nI 0 from (if_neg (fun z => z.2.2.elim cnd41 (fun y => obn0.mpr y cnd50)))] at hQ
                 change am_ev _ _ _ [some (.ref 221), some (.int cab), some (.int bu), some (.int (sum + nI 0)), some (.int (nI k + Int32.ofInt 1)), _] _ _ _ _
                 rw [nI_inc1]
                 refine ih _ _ ?_ ?_ _ (fun m3 h3 => ?_)
                 · rfl
                 · omega
                 · refine hQ m3 (fun q hq1 hq2 => ?_)
                   rw [h3 q hq1 hq2])
          · skip
            refine ev_aload rfl rfl ?_
            refine ev_iload rfl rfl ?_
            refine ev_call rfl rfl ?_
            refine c_X12_isFed hw k hl ?_
            change am_ev _ _ _ _ (_ :: _) _ _ _
            refine ev_if_eq (p2 := 57) rfl rfl (fun cnd50 => ?_) (fun cnd50 => ?_)
            · skip
              refine ev_iconst (x := nI 0) rfl rfl ?_
              refine ev_istore rfl rfl (Nat.le_of_ble_eq_true rfl) ?_
              refine ev_iload rfl rfl ?_
              refine ev_iload rfl rfl ?_
              refine ev_if_eq (p2 := 75) rfl rfl (fun cnd63 => ?_) (fun cnd63 => ?_)
              · skip
                refine ev_iconst (x := nI 0) rfl rfl ?_
                refine ev_iadd rfl ?_
                refine ev_istore rfl rfl (Nat.le_of_ble_eq_true rfl) ?_
                refine ev_iinc rfl rfl rfl rfl ?_
                refine ev_goto (p2 := 5) rfl rfl ?_
                first
                | exact absurd cnd63 (by decide)
                | exact absurd (by decide) cnd63
                | (rw [show S_dr (mem 222) cab bu k = S_draw (mem 222) k from (if_pos (And.intro cnd28 (And.intro (obn0.mp cnd37) (by first | exact Or.inl cnd41 | exact Or.inr (obn0.mp cnd50)))))] at hQ
                   change am_ev _ _ _ [some (.ref 221), some (.int cab), some (.int bu), some (.int (sum + S_draw (mem 222) k)), some (.int (nI k + Int32.ofInt 1)), _] _ _ _ _
                   rw [nI_inc1]
                   refine ih _ _ ?_ ?_ _ (fun m3 h3 => ?_)
                   · exact h2 222 (by decide) (by decide)
                   · omega
                   · refine hQ m3 (fun q hq1 hq2 => ?_)
                     rw [h3 q hq1 hq2, h2 q hq1 hq2])
                | (rw [show S_dr (mem 222) cab bu k = nI 0 from (if_neg (fun z => cnd28 z.1))] at hQ
                   change am_ev _ _ _ [some (.ref 221), some (.int cab), some (.int bu), some (.int (sum + nI 0)), some (.int (nI k + Int32.ofInt 1)), _] _ _ _ _
                   rw [nI_inc1]
                   refine ih _ _ ?_ ?_ _ (fun m3 h3 => ?_)
                   · rfl
                   · omega
                   · refine hQ m3 (fun q hq1 hq2 => ?_)
                     rw [h3 q hq1 hq2])
                | (rw [show S_dr (mem 222) cab bu k = nI 0 from (if_neg (fun z => obn0.mpr z.2.1 cnd37))] at hQ
                   change am_ev _ _ _ [some (.ref 221), some (.int cab), some (.int bu), some (.int (sum + nI 0)), some (.int (nI k + Int32.ofInt 1)), _] _ _ _ _
                   rw [nI_inc1]
                   refine ih _ _ ?_ ?_ _ (fun m3 h3 => ?_)
                   · rfl
                   · omega
                   · refine hQ m3 (fun q hq1 hq2 => ?_)
                     rw [h3 q hq1 hq2])
                | (rw [show S_dr (mem 222) cab bu k = nI 0 from (if_neg (fun z => z.2.2.elim cnd41 (fun y => obn0.mpr y cnd50)))] at hQ
                   change am_ev _ _ _ [some (.ref 221), some (.int cab), some (.int bu), some (.int (sum + nI 0)), some (.int (nI k + Int32.ofInt 1)), _] _ _ _ _
                   rw [nI_inc1]
                   refine ih _ _ ?_ ?_ _ (fun m3 h3 => ?_)
                   · rfl
                   · omega
                   · refine hQ m3 (fun q hq1 hq2 => ?_)
                     rw [h3 q hq1 hq2])
              · skip
                refine ev_aload rfl rfl ?_
                refine ev_iload rfl rfl ?_
                refine ev_call rfl rfl ?_
                refine c_X12_draws hw hT k hl (fun m2 h2 => ?_)
                change am_ev _ _ _ _ (_ :: _) _ _ _
                refine ev_goto (p2 := 76) rfl rfl ?_
                refine ev_iadd rfl ?_
                refine ev_istore rfl rfl (Nat.le_of_ble_eq_true rfl) ?_
                refine ev_iinc rfl rfl rfl rfl ?_
                refine ev_goto (p2 := 5) rfl rfl ?_
                first
                | exact absurd cnd63 (by decide)
                | exact absurd (by decide) cnd63
                | (rw [show S_dr (mem 222) cab bu k = S_draw (mem 222) k from (if_pos (And.intro cnd28 (And.intro (obn0.mp cnd37) (by first | exact Or.inl cnd41 | exact Or.inr (obn0.mp cnd50)))))] at hQ
                   change am_ev _ _ _ [some (.ref 221), some (.int cab), some (.int bu), some (.int (sum + S_draw (mem 222) k)), some (.int (nI k + Int32.ofInt 1)), _] _ _ _ _
                   rw [nI_inc1]
                   refine ih _ _ ?_ ?_ _ (fun m3 h3 => ?_)
                   · exact h2 222 (by decide) (by decide)
                   · omega
                   · refine hQ m3 (fun q hq1 hq2 => ?_)
                     rw [h3 q hq1 hq2, h2 q hq1 hq2])
                | (rw [show S_dr (mem 222) cab bu k = nI 0 from (if_neg (fun z => cnd28 z.1))] at hQ
                   change am_ev _ _ _ [some (.ref 221), some (.int cab), some (.int bu), some (.int (sum + nI 0)), some (.int (nI k + Int32.ofInt 1)), _] _ _ _ _
                   rw [nI_inc1]
                   refine ih _ _ ?_ ?_ _ (fun m3 h3 => ?_)
                   · rfl
                   · omega
                   · refine hQ m3 (fun q hq1 hq2 => ?_)
                     rw [h3 q hq1 hq2])
                | (rw [show S_dr (mem 222) cab bu k = nI 0 from (if_neg (fun z => obn0.mpr z.2.1 cnd37))] at hQ
                   change am_ev _ _ _ [some (.ref 221), some (.int cab), some (.int bu), some (.int (sum + nI 0)), some (.int (nI k + Int32.ofInt 1)), _] _ _ _ _
                   rw [nI_inc1]
                   refine ih _ _ ?_ ?_ _ (fun m3 h3 => ?_)
                   · rfl
                   · omega
                   · refine hQ m3 (fun q hq1 hq2 => ?_)
                     rw [h3 q hq1 hq2])
                | (rw [show S_dr (mem 222) cab bu k = nI 0 from (if_neg (fun z => z.2.2.elim cnd41 (fun y => obn0.mpr y cnd50)))] at hQ
                   change am_ev _ _ _ [some (.ref 221), some (.int cab), some (.int bu), some (.int (sum + nI 0)), some (.int (nI k + Int32.ofInt 1)), _] _ _ _ _
                   rw [nI_inc1]
                   refine ih _ _ ?_ ?_ _ (fun m3 h3 => ?_)
                   · rfl
                   · omega
                   · refine hQ m3 (fun q hq1 hq2 => ?_)
                     rw [h3 q hq1 hq2])
            · skip
              refine ev_iconst (x := nI 1) rfl rfl ?_
              refine ev_goto (p2 := 58) rfl rfl ?_
              refine ev_istore rfl rfl (Nat.le_of_ble_eq_true rfl) ?_
              refine ev_iload rfl rfl ?_
              refine ev_iload rfl rfl ?_
              refine ev_if_eq (p2 := 75) rfl rfl (fun cnd63 => ?_) (fun cnd63 => ?_)
              · skip
                refine ev_iconst (x := nI 0) rfl rfl ?_
                refine ev_iadd rfl ?_
                refine ev_istore rfl rfl (Nat.le_of_ble_eq_true rfl) ?_
                refine ev_iinc rfl rfl rfl rfl ?_
                refine ev_goto (p2 := 5) rfl rfl ?_
                first
                | exact absurd cnd63 (by decide)
                | exact absurd (by decide) cnd63
                | (rw [show S_dr (mem 222) cab bu k = S_draw (mem 222) k from (if_pos (And.intro cnd28 (And.intro (obn0.mp cnd37) (by first | exact Or.inl cnd41 | exact Or.inr (obn0.mp cnd50)))))] at hQ
                   change am_ev _ _ _ [some (.ref 221), some (.int cab), some (.int bu), some (.int (sum + S_draw (mem 222) k)), some (.int (nI k + Int32.ofInt 1)), _] _ _ _ _
                   rw [nI_inc1]
                   refine ih _ _ ?_ ?_ _ (fun m3 h3 => ?_)
                   · exact h2 222 (by decide) (by decide)
                   · omega
                   · refine hQ m3 (fun q hq1 hq2 => ?_)
                     rw [h3 q hq1 hq2, h2 q hq1 hq2])
                | (rw [show S_dr (mem 222) cab bu k = nI 0 from (if_neg (fun z => cnd28 z.1))] at hQ
                   change am_ev _ _ _ [some (.ref 221), some (.int cab), some (.int bu), some (.int (sum + nI 0)), some (.int (nI k + Int32.ofInt 1)), _] _ _ _ _
                   rw [nI_inc1]
                   refine ih _ _ ?_ ?_ _ (fun m3 h3 => ?_)
                   · rfl
                   · omega
                   · refine hQ m3 (fun q hq1 hq2 => ?_)
                     rw [h3 q hq1 hq2])
                | (rw [show S_dr (mem 222) cab bu k = nI 0 from (if_neg (fun z => obn0.mpr z.2.1 cnd37))] at hQ
                   change am_ev _ _ _ [some (.ref 221), some (.int cab), some (.int bu), some (.int (sum + nI 0)), some (.int (nI k + Int32.ofInt 1)), _] _ _ _ _
                   rw [nI_inc1]
                   refine ih _ _ ?_ ?_ _ (fun m3 h3 => ?_)
                   · rfl
                   · omega
                   · refine hQ m3 (fun q hq1 hq2 => ?_)
                     rw [h3 q hq1 hq2])
                | (rw [show S_dr (mem 222) cab bu k = nI 0 from (if_neg (fun z => z.2.2.elim cnd41 (fun y => obn0.mpr y cnd50)))] at hQ
                   change am_ev _ _ _ [some (.ref 221), some (.int cab), some (.int bu), some (.int (sum + nI 0)), some (.int (nI k + Int32.ofInt 1)), _] _ _ _ _
                   rw [nI_inc1]
                   refine ih _ _ ?_ ?_ _ (fun m3 h3 => ?_)
                   · rfl
                   · omega
                   · refine hQ m3 (fun q hq1 hq2 => ?_)
                     rw [h3 q hq1 hq2])
              · skip
                refine ev_aload rfl rfl ?_
                refine ev_iload rfl rfl ?_
                refine ev_call rfl rfl ?_
                refine c_X12_draws hw hT k hl (fun m2 h2 => ?_)
                change am_ev _ _ _ _ (_ :: _) _ _ _
                refine ev_goto (p2 := 76) rfl rfl ?_
                refine ev_iadd rfl ?_
                refine ev_istore rfl rfl (Nat.le_of_ble_eq_true rfl) ?_
                refine ev_iinc rfl rfl rfl rfl ?_
                refine ev_goto (p2 := 5) rfl rfl ?_
                first
                | exact absurd cnd63 (by decide)
                | exact absurd (by decide) cnd63
                | (rw [show S_dr (mem 222) cab bu k = S_draw (mem 222) k from (if_pos (And.intro cnd28 (And.intro (obn0.mp cnd37) (by first | exact Or.inl cnd41 | exact Or.inr (obn0.mp cnd50)))))] at hQ
                   change am_ev _ _ _ [some (.ref 221), some (.int cab), some (.int bu), some (.int (sum + S_draw (mem 222) k)), some (.int (nI k + Int32.ofInt 1)), _] _ _ _ _
                   rw [nI_inc1]
                   refine ih _ _ ?_ ?_ _ (fun m3 h3 => ?_)
                   · exact h2 222 (by decide) (by decide)
                   · omega
                   · refine hQ m3 (fun q hq1 hq2 => ?_)
                     rw [h3 q hq1 hq2, h2 q hq1 hq2])
                | (rw [show S_dr (mem 222) cab bu k = nI 0 from (if_neg (fun z => cnd28 z.1))] at hQ
                   change am_ev _ _ _ [some (.ref 221), some (.int cab), some (.int bu), some (.int (sum + nI 0)), some (.int (nI k + Int32.ofInt 1)), _] _ _ _ _
                   rw [nI_inc1]
                   refine ih _ _ ?_ ?_ _ (fun m3 h3 => ?_)
                   · rfl
                   · omega
                   · refine hQ m3 (fun q hq1 hq2 => ?_)
                     rw [h3 q hq1 hq2])
                | (rw [show S_dr (mem 222) cab bu k = nI 0 from (if_neg (fun z => obn0.mpr z.2.1 cnd37))] at hQ
                   change am_ev _ _ _ [some (.ref 221), some (.int cab), some (.int bu), some (.int (sum + nI 0)), some (.int (nI k + Int32.ofInt 1)), _] _ _ _ _
                   rw [nI_inc1]
                   refine ih _ _ ?_ ?_ _ (fun m3 h3 => ?_)
                   · rfl
                   · omega
                   · refine hQ m3 (fun q hq1 hq2 => ?_)
                     rw [h3 q hq1 hq2])
                | (rw [show S_dr (mem 222) cab bu k = nI 0 from (if_neg (fun z => z.2.2.elim cnd41 (fun y => obn0.mpr y cnd50)))] at hQ
                   change am_ev _ _ _ [some (.ref 221), some (.int cab), some (.int bu), some (.int (sum + nI 0)), some (.int (nI k + Int32.ofInt 1)), _] _ _ _ _
                   rw [nI_inc1]
                   refine ih _ _ ?_ ?_ _ (fun m3 h3 => ?_)
                   · rfl
                   · omega
                   · refine hQ m3 (fun q hq1 hq2 => ?_)
                     rw [h3 q hq1 hq2])
theorem c_X12_drawnBy {d n : Nat} {mem : am_M} {Q : am_P} (hw : wfR (mem 222)) (hT : wfTs (mem 222)) (cab bu : Int32) (hQ : ∀ m2 : am_M, (∀ q, q ≠ 232 → q ≠ 233 → m2 q = mem q) → Q (some (.int (S_drawn (mem 222) cab bu))) (am_SK n) m2) : am_ex (d + 7) 163 [.ref 221, .int cab, .int bu] (am_SK n) mem Q := by
  refine ex_in (c0 := kc_X12_drawnBy) rfl (L := [some (.ref 221), some (.int cab), some (.int bu), none, none, none]) rfl ?_
  refine ev_iconst (x := nI 0) rfl rfl ?_
  refine ev_istore rfl rfl (Nat.le_of_ble_eq_true rfl) ?_
  refine ev_iconst (x := nI 0) rfl rfl ?_
  refine ev_istore rfl rfl (Nat.le_of_ble_eq_true rfl) ?_
  exact l_X12_drawnBy (mem 222) hw hT cab bu _ 0 (nI 0) rfl (Nat.zero_add _) _ hQ
