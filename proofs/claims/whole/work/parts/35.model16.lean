/-! the reference: clear, home, how many are out or dark -/
def S_out (R : am_R) (l : Nat) : Int32 := R (77 + 7 * l + 5)
def S_drk (R : am_R) (l : Nat) : Int32 := R (77 + 7 * l + 6)
theorem c_X12_clear {d n : Nat} {mem : am_M} {Q : am_P}  (hQ : Q (some (.int (mem 222 7))) (am_SK n) (am_up mem 222 7 (nI 0))) : am_ex (d + 1) 208 [.ref 221] (am_SK n) mem Q := by
  refine ex_in (c0 := kc_X12_clear) rfl (L := [some (.ref 221), none]) rfl ?_
  refine ev_aload rfl rfl ?_
  refine ev_getR (c := 12) (j := 0) rfl ?_ (hq := k_221 n)
  refine ev_iconst (x := nI 7) rfl rfl ?_
  refine ev_ialdN rfl (m := 7) (rfl) ?_ (hq := k_222 n)
  refine ev_istore rfl rfl (Nat.le_of_ble_eq_true rfl) ?_
  refine ev_aload rfl rfl ?_
  refine ev_getR (c := 12) (j := 0) rfl ?_ (hq := k_221 n)
  refine ev_iconst (x := nI 7) rfl rfl ?_
  refine ev_iconst (x := nI 0) rfl rfl ?_
  refine ev_iastN rfl (m := 7) (rfl) ?_ (hq := k_222 n)
  refine ev_iload rfl rfl ?_
  refine ev_iret rfl ?_
  exact hQ
theorem c_X12_home {d n : Nat} {mem : am_M} {Q : am_P}  (hQ : Q (some (.int (mem 222 8))) (am_SK n) (am_up mem 222 8 (nI 0))) : am_ex (d + 1) 213 [.ref 221] (am_SK n) mem Q := by
  refine ex_in (c0 := kc_X12_home) rfl (L := [some (.ref 221), none]) rfl ?_
  refine ev_aload rfl rfl ?_
  refine ev_getR (c := 12) (j := 0) rfl ?_ (hq := k_221 n)
  refine ev_iconst (x := nI 8) rfl rfl ?_
  refine ev_ialdN rfl (m := 8) (rfl) ?_ (hq := k_222 n)
  refine ev_istore rfl rfl (Nat.le_of_ble_eq_true rfl) ?_
  refine ev_aload rfl rfl ?_
  refine ev_getR (c := 12) (j := 0) rfl ?_ (hq := k_221 n)
  refine ev_iconst (x := nI 8) rfl rfl ?_
  refine ev_iconst (x := nI 0) rfl rfl ?_
  refine ev_iastN rfl (m := 8) (rfl) ?_ (hq := k_222 n)
  refine ev_iload rfl rfl ?_
  refine ev_iret rfl ?_
  exact hQ
theorem l_X12_outMany {d n : Nat} {mem : am_M} {Q : am_P} (R : am_R) (hw : wfR R) (hT : wfTs R) (r k : Nat) (sum : Int32) (hR : mem 222 = R) (hk : k + r = nn (R 5)) (hQ : ∀ m2 : am_M, (∀ q, q ≠ 232 → q ≠ 233 → m2 q = mem q) → Q (some (.int (S_sumF (S_out R) r k sum))) (am_SK n) m2) : am_ev kc_X12_outMany (d + 2) 4 [some (.ref 221), some (.int sum), some (.int (nI k))] [] (am_SK n) mem Q := by
  induction r generalizing k sum mem with
  | zero =>
    subst hR
    have h5 := hw.2.1.2.2.1.1
    have hkn : k = nn (mem 222 5) := by omega
    refine ev_iload rfl rfl ?_
    refine ev_aload rfl rfl ?_
    refine ev_getR (c := 12) (j := 0) rfl ?_ (hq := k_221 n)
    refine ev_iconst (x := nI 5) rfl rfl ?_
    refine ev_ialdN rfl (m := 5) (rfl) ?_ (hq := k_222 n)
    rw [h5]
    refine ev_icmp_ge (p2 := 29) rfl rfl (fun cnd11 => ?_) (fun cnd11 => ?_)
    · skip
      refine ev_iload rfl rfl ?_
      refine ev_iret rfl ?_
      exact hQ mem (fun _ _ _ => rfl)
    · exact absurd (by rw [hkn]; exact Int32.le_refl _) cnd11
  | succ r ih =>
    subst hR
    have h5 := hw.2.1.2.2.1.1
    have hr5 : nn (mem 222 5) < 17 := hw.2.1.2.2.1.2
    have hl : k < nn (mem 222 5) := by omega
    obtain ⟨-, ⟨e2, g2⟩, -⟩ := hw.2.2.2.2.1 k hl
    unfold S_sumF at hQ
    refine ev_iload rfl rfl ?_
    refine ev_aload rfl rfl ?_
    refine ev_getR (c := 12) (j := 0) rfl ?_ (hq := k_221 n)
    refine ev_iconst (x := nI 5) rfl rfl ?_
    refine ev_ialdN rfl (m := 5) (rfl) ?_ (hq := k_222 n)
    rw [h5]
    refine ev_icmp_ge (p2 := 29) rfl rfl (fun cnd11 => ?_) (fun cnd11 => ?_)
    · exact absurd ((nI_leI (by omega) (by omega)).mp cnd11) (by omega)
    · skip
      refine ev_iload rfl rfl ?_
      refine ev_aload rfl rfl ?_
      refine ev_iload rfl rfl ?_
      refine ev_iconst (x := nI 5) rfl rfl ?_
      refine ev_call rfl rfl ?_
      refine c_X12_lamp7 (a := k) (w := 5) (by omega) ?_
      change am_ev _ _ _ _ (_ :: _) _ _ _
      refine ev_iadd rfl ?_
      refine ev_istore rfl rfl (Nat.le_of_ble_eq_true rfl) ?_
      refine ev_iinc rfl rfl rfl rfl ?_
      refine ev_goto (p2 := 4) rfl rfl ?_
      (rw [show S_out (mem 222) k = mem 222 (77 + 7 * k + 5) from rfl] at hQ
       change am_ev _ _ _ [some (.ref 221), some (.int (sum + mem 222 (77 + 7 * k + 5))), some (.int (nI k + Int32.ofInt 1))] _ _ _ _
       rw [nI_inc1]
       refine ih _ _ ?_ ?_ (fun m3 h3 => ?_)
       · rfl
       · omega
       · refine hQ m3 (fun q hq1 hq2 => ?_)
         rw [h3 q hq1 hq2])
theorem c_X12_outMany {d n : Nat} {mem : am_M} {Q : am_P} (hw : wfR (mem 222)) (hT : wfTs (mem 222)) (hQ : ∀ m2 : am_M, (∀ q, q ≠ 232 → q ≠ 233 → m2 q = mem q) → Q (some (.int (S_sumF (S_out (mem 222)) (nn (mem 222 5)) 0 (nI 0)))) (am_SK n) m2) : am_ex (d + 3) 230 [.ref 221] (am_SK n) mem Q := by
  refine ex_in (c0 := kc_X12_outMany) rfl (L := [some (.ref 221), none, none]) rfl ?_
  refine ev_iconst (x := nI 0) rfl rfl ?_
  refine ev_istore rfl rfl (Nat.le_of_ble_eq_true rfl) ?_
  refine ev_iconst (x := nI 0) rfl rfl ?_
  refine ev_istore rfl rfl (Nat.le_of_ble_eq_true rfl) ?_
  exact l_X12_outMany (mem 222) hw hT _ 0 (nI 0) rfl (Nat.zero_add _) hQ
theorem l_X12_darkMany {d n : Nat} {mem : am_M} {Q : am_P} (R : am_R) (hw : wfR R) (hT : wfTs R) (r k : Nat) (sum : Int32) (hR : mem 222 = R) (hk : k + r = nn (R 5)) (hQ : ∀ m2 : am_M, (∀ q, q ≠ 232 → q ≠ 233 → m2 q = mem q) → Q (some (.int (S_sumF (S_drk R) r k sum))) (am_SK n) m2) : am_ev kc_X12_darkMany (d + 2) 4 [some (.ref 221), some (.int sum), some (.int (nI k))] [] (am_SK n) mem Q := by
  induction r generalizing k sum mem with
  | zero =>
    subst hR
    have h5 := hw.2.1.2.2.1.1
    have hkn : k = nn (mem 222 5) := by omega
    refine ev_iload rfl rfl ?_
    refine ev_aload rfl rfl ?_
    refine ev_getR (c := 12) (j := 0) rfl ?_ (hq := k_221 n)
    refine ev_iconst (x := nI 5) rfl rfl ?_
    refine ev_ialdN rfl (m := 5) (rfl) ?_ (hq := k_222 n)
    rw [h5]
    refine ev_icmp_ge (p2 := 30) rfl rfl (fun cnd11 => ?_) (fun cnd11 => ?_)
    · skip
      refine ev_iload rfl rfl ?_
      refine ev_iret rfl ?_
      exact hQ mem (fun _ _ _ => rfl)
    · exact absurd (by rw [hkn]; exact Int32.le_refl _) cnd11
  | succ r ih =>
    subst hR
    have h5 := hw.2.1.2.2.1.1
    have hr5 : nn (mem 222 5) < 17 := hw.2.1.2.2.1.2
    have hl : k < nn (mem 222 5) := by omega
    obtain ⟨-, ⟨e2, g2⟩, -⟩ := hw.2.2.2.2.1 k hl
    unfold S_sumF at hQ
    refine ev_iload rfl rfl ?_
    refine ev_aload rfl rfl ?_
    refine ev_getR (c := 12) (j := 0) rfl ?_ (hq := k_221 n)
    refine ev_iconst (x := nI 5) rfl rfl ?_
    refine ev_ialdN rfl (m := 5) (rfl) ?_ (hq := k_222 n)
    rw [h5]
    refine ev_icmp_ge (p2 := 30) rfl rfl (fun cnd11 => ?_) (fun cnd11 => ?_)
    · exact absurd ((nI_leI (by omega) (by omega)).mp cnd11) (by omega)
    · skip
      refine ev_iload rfl rfl ?_
      refine ev_aload rfl rfl ?_
      refine ev_iload rfl rfl ?_
      refine ev_iconst (x := nI 6) rfl rfl ?_
      refine ev_call rfl rfl ?_
      refine c_X12_lamp7 (a := k) (w := 6) (by omega) ?_
      change am_ev _ _ _ _ (_ :: _) _ _ _
      refine ev_iadd rfl ?_
      refine ev_istore rfl rfl (Nat.le_of_ble_eq_true rfl) ?_
      refine ev_iinc rfl rfl rfl rfl ?_
      refine ev_goto (p2 := 4) rfl rfl ?_
      (rw [show S_drk (mem 222) k = mem 222 (77 + 7 * k + 6) from rfl] at hQ
       change am_ev _ _ _ [some (.ref 221), some (.int (sum + mem 222 (77 + 7 * k + 6))), some (.int (nI k + Int32.ofInt 1))] _ _ _ _
       rw [nI_inc1]
       refine ih _ _ ?_ ?_ (fun m3 h3 => ?_)
       · rfl
       · omega
       · refine hQ m3 (fun q hq1 hq2 => ?_)
         rw [h3 q hq1 hq2])
theorem c_X12_darkMany {d n : Nat} {mem : am_M} {Q : am_P} (hw : wfR (mem 222)) (hT : wfTs (mem 222)) (hQ : ∀ m2 : am_M, (∀ q, q ≠ 232 → q ≠ 233 → m2 q = mem q) → Q (some (.int (S_sumF (S_drk (mem 222)) (nn (mem 222 5)) 0 (nI 0)))) (am_SK n) m2) : am_ex (d + 3) 235 [.ref 221] (am_SK n) mem Q := by
  refine ex_in (c0 := kc_X12_darkMany) rfl (L := [some (.ref 221), none, none]) rfl ?_
  refine ev_iconst (x := nI 0) rfl rfl ?_
  refine ev_istore rfl rfl (Nat.le_of_ble_eq_true rfl) ?_
  refine ev_iconst (x := nI 0) rfl rfl ?_
  refine ev_istore rfl rfl (Nat.le_of_ble_eq_true rfl) ?_
  exact l_X12_darkMany (mem 222) hw hT _ 0 (nI 0) rfl (Nat.zero_add _) hQ
