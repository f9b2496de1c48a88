/-! both sides: lay -/
def O_lay (x5 : Int32) (S H : am_R) (sl th k : Int32) : Int32 × Option Nat := if P_sl sl ∧ (nI 0 ≤ th ∧ th ≤ nI 3) ∧ (th = nI 1 → P_i k x5) ∧ (th = nI 2 → P_sh k) then (if th = nI 2 ∧ S (nn k) = -1 then (S_NOTH, none) else (H (nn sl), some (nn th))) else (S_BAD, none)
def LayC (R Z C : am_R) (mem m2 : am_M) (c a : Nat) (k : Int32) : Prop := (∀ q, q ≠ 206 + 3 * c → q ≠ 207 + 3 * c → q ≠ 208 + 3 * c → m2 q = mem q) ∧ m2 (206 + 3 * c) 0 = nI a ∧ (a = 1 → m2 (206 + 3 * c) 1 = R (77 + 7 * nn k)) ∧ (a = 2 → m2 (207 + 3 * c) 1 = Z (nn k) ∧ ∀ j, j < 24 → m2 (208 + 3 * c) j = C (24 * nn k + j)) ∧ (a = 3 → m2 (206 + 3 * c) 2 = k)
def LayR (R Z C : am_R) (mem m2 : am_M) (c a : Nat) (k : Int32) : Prop := (∀ q, q ≠ 248 → q ≠ 249 → q ≠ 250 → m2 q = mem q) ∧ m2 248 = upd (mem 248) c (nI a) ∧ (∀ i, i ≠ c → m2 249 i = mem 249 i) ∧ (a = 1 → m2 249 c = R (77 + 7 * nn k)) ∧ (a = 2 → m2 249 c = Z (nn k) ∧ ∀ j, j < 24 → m2 250 (24 * c + j) = C (24 * nn k + j)) ∧ (a = 3 → m2 249 c = k) ∧ (∀ i, ¬ (24 * c ≤ i ∧ i < 24 * c + 24) → m2 250 i = mem 250 i)
theorem c_X6_becomeR {d n : Nat} {mem : am_M} {Q : am_P} (c k : Nat) (hc : c < 5) (hk : k < 4) (hQ : ∀ m2 : am_M, (∀ q, q ≠ 207 + 3 * c → q ≠ 208 + 3 * c → m2 q = mem q) → m2 (207 + 3 * c) 1 = mem (198 + 2 * k) 1 → (∀ j, j < 24 → m2 (208 + 3 * c) j = mem (199 + 2 * k) j) → Q none (am_SK n) m2) : am_ex (d + 1) 40 [.ref (207 + 3 * c), .ref (198 + 2 * k)] (am_SK n) mem Q := by
  refine ex_in (c0 := kc_X6_become) rfl (L := [some (.ref (207 + 3 * c)), some (.ref (198 + 2 * k))]) rfl ?_
  refine ev_aload rfl rfl ?_
  refine ev_aload rfl rfl ?_
  refine ev_getI (c := 6) (j := 0) rfl ?_ (hq := ks_sheet n (by omega))
  refine ev_put (c := 6) (j := 0) rfl ?_ (hq := ks_row n (by omega))
  refine ev_aload rfl rfl ?_
  refine ev_aload rfl rfl ?_
  refine ev_getI (c := 6) (j := 1) rfl ?_ (hq := ks_sheet n (by omega))
  refine ev_put (c := 6) (j := 1) rfl ?_ (hq := ks_row n (by omega))
  refine ev_aload rfl rfl ?_
  refine ev_getR (c := 6) (j := 2) rfl ?_ (hq := ks_sheet n (by omega))
  refine ev_iconst (x := nI 0) rfl rfl ?_
  refine ev_aload rfl rfl ?_
  refine ev_getR (c := 6) (j := 2) rfl ?_ (hq := ks_row n (by omega))
  refine ev_iconst (x := nI 0) rfl rfl ?_
  refine ev_iconst (x := nI 24) rfl rfl ?_
  refine ev_copyN rfl ?_ (ks_vals n (by omega)) (ks_rvals n (by omega))
  refine ev_vret rfl ?_
  refine hQ _ (fun q h1 h2 => ?_) ?_ (fun j hj => ?_)
  · rw [am_cp_ne h2, am_up_ne h1, am_up_ne h1]
  · rw [am_cp_ne (by omega), am_up_eq, am_up_ne (by omega)]
  · rw [am_cp_in hj, am_up_ne (by omega), am_up_ne (by omega)]
theorem c_X11_lay {d n : Nat} {mem : am_M} {Q : am_P} {x5 : Int32} {R : am_R} (hC : CplT 66 R mem) (ex5 : R 5 = x5) (hsh : I_sh mem) (hsl : I_sl mem) (sl th k : Int32) (hQ1 : (O_lay x5 (mem 245) (mem 248) sl th k).2 = none → Q (some (.int (O_lay x5 (mem 245) (mem 248) sl th k).1)) (am_SK n) mem) (hQ : ∀ a, (O_lay x5 (mem 245) (mem 248) sl th k).2 = some a → ∀ m2 : am_M, LayC R (mem 246) (mem 247) mem m2 (nn sl) a k → Q (some (.int (O_lay x5 (mem 245) (mem 248) sl th k).1)) (am_SK n) m2) : am_ex (d + 2) 117 [.ref 29, .int sl, .int th, .int k] (am_SK n) mem Q := by
  unfold O_lay at hQ hQ1
  unfold LayC at hQ
  have hb := wb_all (cp_w hC)
  have e5 : x5 = nI (nn (R 5)) := by rw [← ex5]; exact wr5 (cp_w hC)
  refine ex_in (c0 := kc_X11_lay) rfl (L := [some (.ref 29), some (.int sl), some (.int th), some (.int k), none, none]) rfl ?_
  refine ev_iload rfl rfl ?_
  refine ev_call rfl rfl ?_
  refine c_X11_isSlot _ ?_
  change am_ev _ _ _ _ [_] _ _ _
  refine ev_if_eqB (p2 := 16) rfl rfl (fun cnd4 => ?_) (fun cnd4 => ?_)
  · skip
    refine ev_iconst (x := (-1000000001)) rfl rfl ?_
    refine ev_iret rfl ?_
    first
    | (rw [if_neg (by rintro ⟨z1, ⟨z2, z3⟩, z4, z5⟩; first | exact cnd4 z1 | exact nlt_le z2 cnd8 | exact cnd13 z3)] at hQ1; exact hQ1 rfl)
  · skip
    refine ev_iload rfl rfl ?_
    refine ev_if_lt (p2 := 16) rfl rfl (fun cnd8 => ?_) (fun cnd8 => ?_)
    · skip
      refine ev_iconst (x := (-1000000001)) rfl rfl ?_
      refine ev_iret rfl ?_
      first
      | (rw [if_neg (by rintro ⟨z1, ⟨z2, z3⟩, z4, z5⟩; first | exact cnd4 z1 | exact nlt_le z2 cnd8 | exact cnd13 z3)] at hQ1; exact hQ1 rfl)
    · skip
      refine ev_iload rfl rfl ?_
      refine ev_iconst (x := nI 3) rfl rfl ?_
      refine ev_icmp_le (p2 := 19) rfl rfl (fun cnd13 => ?_) (fun cnd13 => ?_)
      · skip
        have hth : nI 0 ≤ th ∧ th ≤ nI 3 := And.intro (le_nlt cnd8) cnd13
        obtain ⟨ep, hp⟩ := am_rng (by decide) cnd4
        generalize nn sl = c at ep hp hQ hQ1
        subst ep
        obtain ⟨ea, ha⟩ := am_rng (by decide) hth
        generalize nn th = a at ea ha hQ hQ1
        subst ea
        have hP4 := cnd4
        rcases (show a = 0 ∨ a = 1 ∨ a = 2 ∨ a = 3 by omega) with rfl | rfl | rfl | rfl
        · skip
          refine ev_iload rfl rfl ?_
          refine ev_iconst (x := nI 1) rfl rfl ?_
          refine ev_icmp_neN (p2 := 35) rfl rfl (fun _ => ?_) (fun zz => absurd zz (by decide))
          refine ev_iload rfl rfl ?_
          refine ev_iconst (x := nI 2) rfl rfl ?_
          refine ev_icmp_neN (p2 := 50) rfl rfl (fun _ => ?_) (fun zz => absurd zz (by decide))
          refine ev_iload rfl rfl ?_
          refine ev_iconst (x := nI 2) rfl rfl ?_
          refine ev_icmp_neN (p2 := 71) rfl rfl (fun _ => ?_) (fun zz => absurd zz (by decide))
          refine ev_aload rfl rfl ?_
          refine ev_getR (c := 11) (j := 9) rfl ?_ (hq := k_29 n)
          refine ev_iload rfl rfl ?_
          refine ev_aldN rfl rfl ?_ (kr_slot (by omega)) (hq := k_194 n)
          refine ev_astore rfl rfl (Nat.le_of_ble_eq_true rfl) ?_
          refine ev_aload rfl rfl ?_
          refine ev_getI (c := 7) (j := 0) rfl ?_ (hq := ks_slot n (by omega))
          rw [(hsl c (by omega)).1.1]
          refine ev_istore rfl rfl (Nat.le_of_ble_eq_true rfl) ?_
          refine ev_aload rfl rfl ?_
          refine ev_iload rfl rfl ?_
          refine ev_put (c := 7) (j := 0) rfl ?_ (hq := ks_slot n (by omega))
          refine ev_iload rfl rfl ?_
          refine ev_iconst (x := nI 1) rfl rfl ?_
          refine ev_icmp_neN (p2 := 117) rfl rfl (fun _ => ?_) (fun zz => absurd zz (by decide))
          refine ev_iload rfl rfl ?_
          refine ev_iconst (x := nI 2) rfl rfl ?_
          refine ev_icmp_neN (p2 := 139) rfl rfl (fun _ => ?_) (fun zz => absurd zz (by decide))
          refine ev_iload rfl rfl ?_
          refine ev_iconst (x := nI 3) rfl rfl ?_
          refine ev_icmp_neN (p2 := 150) rfl rfl (fun _ => ?_) (fun zz => absurd zz (by decide))
          refine ev_iload rfl rfl ?_
          refine ev_iret rfl ?_
          rw [if_pos (show P_sl (nI c) ∧ (nI 0 ≤ nI 0 ∧ nI 0 ≤ nI 3) ∧ (nI 0 = nI 1 → P_i k x5) ∧ (nI 0 = nI 2 → P_sh k) from ⟨hP4, by decide, fun z => absurd z (by decide), fun z => absurd z (by decide)⟩)] at hQ
          rw [if_neg (fun z => absurd z.1 (by decide))] at hQ
          refine hQ 0 rfl _ ⟨fun q h1 h2 h3 => am_up_ne h1, am_up_eq, fun z => absurd z (by decide), fun z => absurd z (by decide), fun z => absurd z (by decide)⟩
        · skip
          refine ev_iload rfl rfl ?_
          refine ev_iconst (x := nI 1) rfl rfl ?_
          refine ev_icmp_neN (p2 := 35) rfl rfl (fun zz => absurd zz (by decide)) (fun _ => ?_)
          refine ev_aload rfl rfl ?_
          refine ev_getR (c := 11) (j := 2) rfl ?_ (hq := k_29 n)
          refine ev_iload rfl rfl ?_
          refine ev_callV rfl rfl rfl rfl (Nat.le_of_ble_eq_true rfl) (Nat.le_of_ble_eq_true rfl) ?_ (hq := kt_0 n am_T66)
          refine c_X9_hasLamp am_T66 hC _ ?_
          change am_ev _ _ _ _ [_] _ _ _
          refine ev_if_eqB (p2 := 47) rfl rfl (fun cnd32 => ?_) (fun cnd32 => ?_)
          · skip
            refine ev_iconst (x := (-1000000001)) rfl rfl ?_
            refine ev_iret rfl ?_
            rw [if_neg (fun z => cnd32 (by rw [ex5]; exact z.2.2.1 rfl))] at hQ1; exact hQ1 rfl
          · skip
            have hk5 : P_i k x5 := by rw [← ex5]; exact cnd32
            refine ev_iload rfl rfl ?_
            refine ev_iconst (x := nI 2) rfl rfl ?_
            refine ev_icmp_neN (p2 := 50) rfl rfl (fun _ => ?_) (fun zz => absurd zz (by decide))
            refine ev_iload rfl rfl ?_
            refine ev_iconst (x := nI 2) rfl rfl ?_
            refine ev_icmp_neN (p2 := 71) rfl rfl (fun _ => ?_) (fun zz => absurd zz (by decide))
            rw [if_pos (show P_sl (nI c) ∧ (nI 0 ≤ nI 1 ∧ nI 1 ≤ nI 3) ∧ (nI 1 = nI 1 → P_i k x5) ∧ (nI 1 = nI 2 → P_sh k) from ⟨hP4, by decide, fun _ => hk5, fun z => absurd z (by decide)⟩)] at hQ
            rw [if_neg (fun z => absurd z.1 (by decide))] at hQ
            obtain ⟨ek, hk⟩ := am_idx e5 (by omega) hk5
            clear cnd32 hk5
            generalize nn k = k9 at ek hk hQ
            subst ek
            refine ev_aload rfl rfl ?_
            refine ev_getR (c := 11) (j := 9) rfl ?_ (hq := k_29 n)
            refine ev_iload rfl rfl ?_
            refine ev_aldN rfl rfl ?_ (kr_slot (by omega)) (hq := k_194 n)
            refine ev_astore rfl rfl (Nat.le_of_ble_eq_true rfl) ?_
            refine ev_aload rfl rfl ?_
            refine ev_getI (c := 7) (j := 0) rfl ?_ (hq := ks_slot n (by omega))
            rw [(hsl c (by omega)).1.1]
            refine ev_istore rfl rfl (Nat.le_of_ble_eq_true rfl) ?_
            refine ev_aload rfl rfl ?_
            refine ev_iload rfl rfl ?_
            refine ev_put (c := 7) (j := 0) rfl ?_ (hq := ks_slot n (by omega))
            refine ev_iload rfl rfl ?_
            refine ev_iconst (x := nI 1) rfl rfl ?_
            refine ev_icmp_neN (p2 := 117) rfl rfl (fun zz => absurd zz (by decide)) (fun _ => ?_)
            refine ev_aload rfl rfl ?_
            refine ev_aload rfl rfl ?_
            refine ev_getR (c := 11) (j := 2) rfl ?_ (hq := k_29 n)
            refine ev_getR (c := 9) (j := 5) rfl ?_ (hq := kt_0 n am_T66)
            refine ev_iload rfl rfl ?_
            refine ev_aldN rfl rfl ?_ (kr_lamp (by omega)) (hq := kt_3 n am_T66)
            refine ev_getI (c := 4) (j := 0) rfl ?_ (hq := kt_lamp n am_T66 (by omega))
            rw [am_up_ne (show 66 + 22 + k9 ≠ 206 + 3 * c by omega), cp_l0 hC (l := k9) hk]
            refine ev_put (c := 7) (j := 1) rfl ?_ (hq := ks_slot n (by omega))
            refine ev_goto (p2 := 150) rfl rfl ?_
            refine ev_iload rfl rfl ?_
            refine ev_iret rfl ?_
            refine hQ 1 rfl _ ⟨fun q h1 h2 h3 => by rw [am_up_ne h1, am_up_ne h1], by rw [am_up_nk (by decide), am_up_eq], fun _ => ?_, fun z => absurd z (by decide), fun z => absurd z (by decide)⟩
            rw [am_up_eq]
            exact ((cp_w hC).2.2.2.2.1 k9 hk).1.1.symm
        · skip
          refine ev_iload rfl rfl ?_
          refine ev_iconst (x := nI 1) rfl rfl ?_
          refine ev_icmp_neN (p2 := 35) rfl rfl (fun _ => ?_) (fun zz => absurd zz (by decide))
          refine ev_iload rfl rfl ?_
          refine ev_iconst (x := nI 2) rfl rfl ?_
          refine ev_icmp_neN (p2 := 50) rfl rfl (fun zz => absurd zz (by decide)) (fun _ => ?_)
          refine ev_iload rfl rfl ?_
          refine ev_call rfl rfl ?_
          refine c_X11_isSheet _ ?_
          change am_ev _ _ _ _ [_] _ _ _
          refine ev_if_neB (p2 := 50) rfl rfl (fun cnd44 => ?_) (fun cnd44 => ?_)
          · skip
            obtain ⟨ek, hk⟩ := am_rng (by decide) cnd44
            have hkS := cnd44
            clear cnd44
            generalize hk9 : nn k = k9 at ek hk hQ hQ1
            subst ek
            obtain ⟨⟨eS, hS3⟩, ⟨eZ, hZ9⟩, hcells⟩ := hsh k9 (by omega)
            rw [if_pos (show P_sl (nI c) ∧ (nI 0 ≤ nI 2 ∧ nI 2 ≤ nI 3) ∧ (nI 2 = nI 1 → P_i (nI k9) x5) ∧ (nI 2 = nI 2 → P_sh (nI k9)) from ⟨hP4, by decide, fun z => absurd z (by decide), fun _ => hkS⟩)] at hQ hQ1
            refine ev_iload rfl rfl ?_
            refine ev_iconst (x := nI 2) rfl rfl ?_
            refine ev_icmp_neN (p2 := 71) rfl rfl (fun zz => absurd zz (by decide)) (fun _ => ?_)
            refine ev_aload rfl rfl ?_
            refine ev_getR (c := 11) (j := 8) rfl ?_ (hq := k_29 n)
            refine ev_iload rfl rfl ?_
            refine ev_aldN rfl rfl ?_ (kr_sheet (by omega)) (hq := k_193 n)
            refine ev_callV rfl rfl rfl rfl (Nat.le_of_ble_eq_true rfl) (Nat.le_of_ble_eq_true rfl) ?_ (hq := ks_sheet n (by omega))
            refine c_X6_isMissing k9 (by omega) eS ?_
            change am_ev _ _ _ _ [_] _ _ _
            refine ev_if_eqB (p2 := 71) rfl rfl (fun cnd64 => ?_) (fun cnd64 => ?_)
            · skip
              refine ev_aload rfl rfl ?_
              refine ev_getR (c := 11) (j := 9) rfl ?_ (hq := k_29 n)
              refine ev_iload rfl rfl ?_
              refine ev_aldN rfl rfl ?_ (kr_slot (by omega)) (hq := k_194 n)
              refine ev_astore rfl rfl (Nat.le_of_ble_eq_true rfl) ?_
              refine ev_aload rfl rfl ?_
              refine ev_getI (c := 7) (j := 0) rfl ?_ (hq := ks_slot n (by omega))
              rw [(hsl c (by omega)).1.1]
              refine ev_istore rfl rfl (Nat.le_of_ble_eq_true rfl) ?_
              refine ev_aload rfl rfl ?_
              refine ev_iload rfl rfl ?_
              refine ev_put (c := 7) (j := 0) rfl ?_ (hq := ks_slot n (by omega))
              refine ev_iload rfl rfl ?_
              refine ev_iconst (x := nI 1) rfl rfl ?_
              refine ev_icmp_neN (p2 := 117) rfl rfl (fun _ => ?_) (fun zz => absurd zz (by decide))
              refine ev_iload rfl rfl ?_
              refine ev_iconst (x := nI 2) rfl rfl ?_
              refine ev_icmp_neN (p2 := 139) rfl rfl (fun zz => absurd zz (by decide)) (fun _ => ?_)
              refine ev_aload rfl rfl ?_
              refine ev_getR (c := 7) (j := 3) rfl ?_ (hq := ks_slot n (by omega))
              refine ev_aload rfl rfl ?_
              refine ev_getR (c := 11) (j := 8) rfl ?_ (hq := k_29 n)
              refine ev_iload rfl rfl ?_
              refine ev_aldN rfl rfl ?_ (kr_sheet (by omega)) (hq := k_193 n)
              refine ev_callV rfl rfl rfl rfl (Nat.le_of_ble_eq_true rfl) (Nat.le_of_ble_eq_true rfl) ?_ (hq := ks_row n (by omega))
              refine c_X6_becomeR c k9 (by omega) (by omega) (fun m2 f1 f2 f3 => ?_)
              change am_ev _ _ _ _ [] _ _ _
              refine ev_goto (p2 := 150) rfl rfl ?_
              refine ev_iload rfl rfl ?_
              refine ev_iret rfl ?_
              rw [if_neg (fun z => cnd64 z.2)] at hQ
              refine hQ 2 rfl _ ⟨fun q h1 h2 h3 => by rw [f1 q h2 h3, am_up_ne h1], by rw [f1 _ (by omega) (by omega), am_up_eq], fun z => absurd z (by decide), fun _ => ⟨?_, fun j hj => ?_⟩, fun z => absurd z (by decide)⟩
              · rw [f2, am_up_ne (by omega)]; exact eZ
              · rw [f3 j hj, am_up_ne (by omega)]; exact hcells j hj
            · skip
              refine ev_iconst (x := (-1000000011)) rfl rfl ?_
              refine ev_iret rfl ?_
              rw [if_pos (And.intro rfl cnd64)] at hQ1; exact hQ1 rfl
          · skip
            refine ev_iconst (x := (-1000000001)) rfl rfl ?_
            refine ev_iret rfl ?_
            rw [if_neg (fun z => cnd44 (z.2.2.2 rfl))] at hQ1; exact hQ1 rfl
        · skip
          refine ev_iload rfl rfl ?_
          refine ev_iconst (x := nI 1) rfl rfl ?_
          refine ev_icmp_neN (p2 := 35) rfl rfl (fun _ => ?_) (fun zz => absurd zz (by decide))
          refine ev_iload rfl rfl ?_
          refine ev_iconst (x := nI 2) rfl rfl ?_
          refine ev_icmp_neN (p2 := 50) rfl rfl (fun _ => ?_) (fun zz => absurd zz (by decide))
          refine ev_iload rfl rfl ?_
          refine ev_iconst (x := nI 2) rfl rfl ?_
          refine ev_icmp_neN (p2 := 71) rfl rfl (fun _ => ?_) (fun zz => absurd zz (by decide))
          refine ev_aload rfl rfl ?_
          refine ev_getR (c := 11) (j := 9) rfl ?_ (hq := k_29 n)
          refine ev_iload rfl rfl ?_
          refine ev_aldN rfl rfl ?_ (kr_slot (by omega)) (hq := k_194 n)
          refine ev_astore rfl rfl (Nat.le_of_ble_eq_true rfl) ?_
          refine ev_aload rfl rfl ?_
          refine ev_getI (c := 7) (j := 0) rfl ?_ (hq := ks_slot n (by omega))
          rw [(hsl c (by omega)).1.1]
          refine ev_istore rfl rfl (Nat.le_of_ble_eq_true rfl) ?_
          refine ev_aload rfl rfl ?_
          refine ev_iload rfl rfl ?_
          refine ev_put (c := 7) (j := 0) rfl ?_ (hq := ks_slot n (by omega))
          refine ev_iload rfl rfl ?_
          refine ev_iconst (x := nI 1) rfl rfl ?_
          refine ev_icmp_neN (p2 := 117) rfl rfl (fun _ => ?_) (fun zz => absurd zz (by decide))
          refine ev_iload rfl rfl ?_
          refine ev_iconst (x := nI 2) rfl rfl ?_
          refine ev_icmp_neN (p2 := 139) rfl rfl (fun _ => ?_) (fun zz => absurd zz (by decide))
          refine ev_iload rfl rfl ?_
          refine ev_iconst (x := nI 3) rfl rfl ?_
          refine ev_icmp_neN (p2 := 150) rfl rfl (fun zz => absurd zz (by decide)) (fun _ => ?_)
          refine ev_aload rfl rfl ?_
          refine ev_iload rfl rfl ?_
          refine ev_put (c := 7) (j := 2) rfl ?_ (hq := ks_slot n (by omega))
          refine ev_iload rfl rfl ?_
          refine ev_iret rfl ?_
          rw [if_pos (show P_sl (nI c) ∧ (nI 0 ≤ nI 3 ∧ nI 3 ≤ nI 3) ∧ (nI 3 = nI 1 → P_i k x5) ∧ (nI 3 = nI 2 → P_sh k) from ⟨hP4, by decide, fun z => absurd z (by decide), fun z => absurd z (by decide)⟩)] at hQ
          rw [if_neg (fun z => absurd z.1 (by decide))] at hQ
          refine hQ 3 rfl _ ⟨fun q h1 h2 h3 => by rw [am_up_ne h1, am_up_ne h1], by rw [am_up_nk (by decide), am_up_eq], fun z => absurd z (by decide), fun z => absurd z (by decide), fun _ => am_up_eq⟩
      · skip
        refine ev_iconst (x := (-1000000001)) rfl rfl ?_
        refine ev_iret rfl ?_
        first
        | (rw [if_neg (by rintro ⟨z1, ⟨z2, z3⟩, z4, z5⟩; first | exact cnd4 z1 | exact nlt_le z2 cnd8 | exact cnd13 z3)] at hQ1; exact hQ1 rfl)
theorem l_X12_lay {d n : Nat} {mem0 : am_M} {Q : am_P} (c k9 : Nat) (hc : c < 5) (hk9 : k9 < 4) (w : Int32) (r : Nat) : ∀ (mem : am_M) (k : Nat) (hk : k + r = 24) (hf : ∀ q, q ≠ 250 → mem q = mem0 q) (hz : ∀ j, j < k → mem 250 (24 * c + j) = mem0 247 (24 * k9 + j)) (ho : ∀ i, ¬ (24 * c ≤ i ∧ i < 24 * c + 24) → mem 250 i = mem0 250 i) (hQ : ∀ m2 : am_M, (∀ q, q ≠ 250 → m2 q = mem0 q) → (∀ j, j < 24 → m2 250 (24 * c + j) = mem0 247 (24 * k9 + j)) → (∀ i, ¬ (24 * c ≤ i ∧ i < 24 * c + 24) → m2 250 i = mem0 250 i) → Q (some (.int w)) (am_SK n) m2), am_ev kc_X12_lay d 115 [some (.ref 221), some (.int (nI c)), some (.int (nI 2)), some (.int (nI k9)), some (.int w), some (.int (nI k))] [] (am_SK n) mem Q := by
  induction r with
  | zero =>
    intro mem k hk hf hz ho hQ
    refine ev_iload rfl rfl ?_
    refine ev_iconst (x := nI 24) rfl rfl ?_
    refine ev_icmp_geN (p2 := 157) rfl rfl (fun cnd119 => ?_) (fun cnd119 => ?_)
    · skip
      refine ev_iload rfl rfl ?_
      refine ev_iret rfl ?_
      exact hQ mem hf (fun j hj => hz j (by omega)) ho
    · omega
  | succ r ih =>
    intro mem k hk hf hz ho hQ
    refine ev_iload rfl rfl ?_
    refine ev_iconst (x := nI 24) rfl rfl ?_
    refine ev_icmp_geN (p2 := 157) rfl rfl (fun cnd119 => ?_) (fun cnd119 => ?_)
    · omega
    · skip
      refine ev_iload rfl rfl ?_
      refine ev_iconst (x := nI 2) rfl rfl ?_
      refine ev_icmp_neN (p2 := 157) rfl rfl (fun zz => absurd zz (by decide)) (fun _ => ?_)
      refine ev_aload rfl rfl ?_
      refine ev_getR (c := 12) (j := 40) rfl ?_ (hq := k_221 n)
      refine ev_iconst (x := nI 24) rfl rfl ?_
      refine ev_iload rfl rfl ?_
      refine ev_imulN rfl ?_
      refine ev_iload rfl rfl ?_
      refine ev_iaddN rfl ?_
      refine ev_aload rfl rfl ?_
      refine ev_getR (c := 12) (j := 37) rfl ?_ (hq := k_221 n)
      refine ev_iconst (x := nI 24) rfl rfl ?_
      refine ev_iload rfl rfl ?_
      refine ev_imulN rfl ?_
      refine ev_iload rfl rfl ?_
      refine ev_iaddN rfl ?_
      refine ev_ialdN rfl rfl ?_ (hq := k_247 n)
      rw [show mem 247 (24 * k9 + k) = mem0 247 (24 * k9 + k) from congrFun (hf 247 (by decide)) _]
      refine ev_iastS rfl (fun mem2 hm => ?_) (hq := k_250 n)
      refine ev_iincN rfl rfl rfl ?_
      refine ev_goto (p2 := 115) rfl rfl ?_
      refine ih mem2 (k + 1) (by omega) (fun q hq => by rw [hm, am_up_ne hq]; exact hf q hq) (fun j hj => ?_) (fun i hi => ?_) hQ
      · rw [hm]
        by_cases e : j = k
        · rw [e, am_up_eq]
        · rw [am_up_nk (by omega)]; exact hz j (by omega)
      · rw [hm, am_up_nk (by omega)]; exact ho i hi
theorem c_X12_lay {d n : Nat} {mem : am_M} {Q : am_P} {R S : am_R} (hR : mem 222 = R) (hw : wfR R) (hS : mem 245 = S) (h3 : ∀ c, c < 4 → (S c = -1 ∨ S c = 0 ∨ S c = 1)) (sl th k : Int32) (hQ1 : (O_lay (R 5) S (mem 248) sl th k).2 = none → Q (some (.int (O_lay (R 5) S (mem 248) sl th k).1)) (am_SK n) mem) (hQ : ∀ a, (O_lay (R 5) S (mem 248) sl th k).2 = some a → ∀ m2 : am_M, LayR R (mem 246) (mem 247) mem m2 (nn sl) a k → Q (some (.int (O_lay (R 5) S (mem 248) sl th k).1)) (am_SK n) m2) : am_ex (d + 3) 225 [.ref 221, .int sl, .int th, .int k] (am_SK n) mem Q := by
  unfold O_lay at hQ hQ1
  unfold LayR at hQ
  have hb := wb_all hw
  refine ex_in (c0 := kc_X12_lay) rfl (L := [some (.ref 221), some (.int sl), some (.int th), some (.int k), none, none]) rfl ?_
  refine ev_iload rfl rfl ?_
  refine ev_call rfl rfl ?_
  refine c_X12_isSlot _ ?_
  change am_ev _ _ _ _ [_] _ _ _
  refine ev_if_eqB (p2 := 41) rfl rfl (fun cnd4 => ?_) (fun cnd4 => ?_)
  · skip
    refine ev_iconst (x := (-1000000001)) rfl rfl ?_
    refine ev_iret rfl ?_
    first
    | (rw [if_neg (by rintro ⟨z1, z2, z4, z5⟩; first | exact cnd4 z1 | exact cnd13 z2)] at hQ1; exact hQ1 rfl)
  · skip
    refine ev_iload rfl rfl ?_
    refine ev_iconst (x := nI 0) rfl rfl ?_
    refine ev_iconst (x := nI 3) rfl rfl ?_
    refine ev_call rfl rfl ?_
    refine c_X12_in _ _ _ ?_
    change am_ev _ _ _ _ [_] _ _ _
    refine ev_if_eqB (p2 := 41) rfl rfl (fun cnd13 => ?_) (fun cnd13 => ?_)
    · skip
      refine ev_iconst (x := (-1000000001)) rfl rfl ?_
      refine ev_iret rfl ?_
      first
      | (rw [if_neg (by rintro ⟨z1, z2, z4, z5⟩; first | exact cnd4 z1 | exact cnd13 z2)] at hQ1; exact hQ1 rfl)
    · skip
      have hth := cnd13
      obtain ⟨ep, hp⟩ := am_rng (by decide) cnd4
      generalize nn sl = c at ep hp hQ hQ1
      subst ep
      obtain ⟨ea, ha⟩ := am_rng (by decide) hth
      generalize nn th = a at ea ha hQ hQ1
      subst ea
      have hP4 := cnd4
      rcases (show a = 0 ∨ a = 1 ∨ a = 2 ∨ a = 3 by omega) with rfl | rfl | rfl | rfl
      · skip
        refine ev_iload rfl rfl ?_
        refine ev_iconst (x := nI 1) rfl rfl ?_
        refine ev_icmp_neN (p2 := 29) rfl rfl (fun _ => ?_) (fun zz => absurd zz (by decide))
        refine ev_iload rfl rfl ?_
        refine ev_iconst (x := nI 2) rfl rfl ?_
        refine ev_icmp_neN (p2 := 44) rfl rfl (fun _ => ?_) (fun zz => absurd zz (by decide))
        refine ev_iload rfl rfl ?_
        refine ev_iconst (x := nI 2) rfl rfl ?_
        refine ev_icmp_neN (p2 := 62) rfl rfl (fun _ => ?_) (fun zz => absurd zz (by decide))
        refine ev_aload rfl rfl ?_
        refine ev_getR (c := 12) (j := 38) rfl ?_ (hq := k_221 n)
        refine ev_iload rfl rfl ?_
        refine ev_ialdN rfl rfl ?_ (hq := k_248 n)
        refine ev_istore rfl rfl (Nat.le_of_ble_eq_true rfl) ?_
        refine ev_aload rfl rfl ?_
        refine ev_getR (c := 12) (j := 38) rfl ?_ (hq := k_221 n)
        refine ev_iload rfl rfl ?_
        refine ev_iload rfl rfl ?_
        refine ev_iastN rfl rfl ?_ (hq := k_248 n)
        refine ev_aload rfl rfl ?_
        refine ev_getR (c := 12) (j := 39) rfl ?_ (hq := k_221 n)
        refine ev_iload rfl rfl ?_
        refine ev_iload rfl rfl ?_
        refine ev_iconst (x := nI 1) rfl rfl ?_
        refine ev_icmp_neN (p2 := 96) rfl rfl (fun _ => ?_) (fun zz => absurd zz (by decide))
        refine ev_iload rfl rfl ?_
        refine ev_iconst (x := nI 2) rfl rfl ?_
        refine ev_icmp_neN (p2 := 110) rfl rfl (fun _ => ?_) (fun zz => absurd zz (by decide))
        refine ev_iload rfl rfl ?_
        refine ev_iastN rfl rfl ?_ (hq := k_249 n)
        refine ev_iconst (x := nI 0) rfl rfl ?_
        refine ev_istore rfl rfl (Nat.le_of_ble_eq_true rfl) ?_
        refine ev_iload rfl rfl ?_
        refine ev_iconst (x := nI 24) rfl rfl ?_
        refine ev_icmp_geN (p2 := 157) rfl rfl (fun zz => absurd zz (by decide)) (fun _ => ?_)
        refine ev_iload rfl rfl ?_
        refine ev_iconst (x := nI 2) rfl rfl ?_
        refine ev_icmp_neN (p2 := 157) rfl rfl (fun _ => ?_) (fun zz => absurd zz (by decide))
        refine ev_iload rfl rfl ?_
        refine ev_iret rfl ?_
        rw [if_pos (show P_sl (nI c) ∧ (nI 0 ≤ nI 0 ∧ nI 0 ≤ nI 3) ∧ (nI 0 = nI 1 → P_i k (R 5)) ∧ (nI 0 = nI 2 → P_sh k) from ⟨hP4, by decide, fun z => absurd z (by decide), fun z => absurd z (by decide)⟩)] at hQ
        rw [if_neg (fun z => absurd z.1 (by decide))] at hQ
        exact hQ 0 rfl _ ⟨fun q h1 h2 h3 => by rw [am_up_ne h2, am_up_ne h1], by rw [am_up_ne (by decide), am_up_row], fun i hi => by rw [am_up_nk hi, am_up_ne (by decide)], fun z => absurd z (by decide), fun z => absurd z (by decide), fun z => absurd z (by decide), fun i _ => by rw [am_up_ne (by decide), am_up_ne (by decide)]⟩
      · skip
        refine ev_iload rfl rfl ?_
        refine ev_iconst (x := nI 1) rfl rfl ?_
        refine ev_icmp_neN (p2 := 29) rfl rfl (fun zz => absurd zz (by decide)) (fun _ => ?_)
        refine ev_aload rfl rfl ?_
        refine ev_iload rfl rfl ?_
        refine ev_call rfl rfl ?_
        refine r_isLamp hR _ ?_
        change am_ev _ _ _ _ [_] _ _ _
        refine ev_if_eqB (p2 := 41) rfl rfl (fun cnd26 => ?_) (fun cnd26 => ?_)
        · skip
          refine ev_iconst (x := (-1000000001)) rfl rfl ?_
          refine ev_iret rfl ?_
          rw [if_neg (fun z => cnd26 (z.2.2.1 rfl))] at hQ1; exact hQ1 rfl
        · skip
          refine ev_iload rfl rfl ?_
          refine ev_iconst (x := nI 2) rfl rfl ?_
          refine ev_icmp_neN (p2 := 44) rfl rfl (fun _ => ?_) (fun zz => absurd zz (by decide))
          rw [if_pos (show P_sl (nI c) ∧ (nI 0 ≤ nI 1 ∧ nI 1 ≤ nI 3) ∧ (nI 1 = nI 1 → P_i k (R 5)) ∧ (nI 1 = nI 2 → P_sh k) from ⟨hP4, by decide, fun _ => cnd26, fun z => absurd z (by decide)⟩)] at hQ
          rw [if_neg (fun z => absurd z.1 (by decide))] at hQ
          obtain ⟨ek, hk⟩ := am_idx (wr5 hw) (by omega) cnd26
          clear cnd26
          generalize nn k = k9 at ek hk hQ
          subst ek
          refine ev_iload rfl rfl ?_
          refine ev_iconst (x := nI 2) rfl rfl ?_
          refine ev_icmp_neN (p2 := 62) rfl rfl (fun _ => ?_) (fun zz => absurd zz (by decide))
          refine ev_aload rfl rfl ?_
          refine ev_getR (c := 12) (j := 38) rfl ?_ (hq := k_221 n)
          refine ev_iload rfl rfl ?_
          refine ev_ialdN rfl rfl ?_ (hq := k_248 n)
          refine ev_istore rfl rfl (Nat.le_of_ble_eq_true rfl) ?_
          refine ev_aload rfl rfl ?_
          refine ev_getR (c := 12) (j := 38) rfl ?_ (hq := k_221 n)
          refine ev_iload rfl rfl ?_
          refine ev_iload rfl rfl ?_
          refine ev_iastN rfl rfl ?_ (hq := k_248 n)
          refine ev_aload rfl rfl ?_
          refine ev_getR (c := 12) (j := 39) rfl ?_ (hq := k_221 n)
          refine ev_iload rfl rfl ?_
          refine ev_iload rfl rfl ?_
          refine ev_iconst (x := nI 1) rfl rfl ?_
          refine ev_icmp_neN (p2 := 96) rfl rfl (fun zz => absurd zz (by decide)) (fun _ => ?_)
          refine ev_aload rfl rfl ?_
          refine ev_iload rfl rfl ?_
          refine ev_iconst (x := nI 0) rfl rfl ?_
          refine ev_call rfl rfl ?_
          refine r_lamp7 (R := R) (by rw [am_up_ne (by decide)]; exact hR) k9 0 (by omega) rfl ?_
          change am_ev _ _ _ _ [_, _, _] _ _ _
          refine ev_goto (p2 := 111) rfl rfl ?_
          refine ev_iastN rfl rfl ?_ (hq := k_249 n)
          refine ev_iconst (x := nI 0) rfl rfl ?_
          refine ev_istore rfl rfl (Nat.le_of_ble_eq_true rfl) ?_
          refine ev_iload rfl rfl ?_
          refine ev_iconst (x := nI 24) rfl rfl ?_
          refine ev_icmp_geN (p2 := 157) rfl rfl (fun zz => absurd zz (by decide)) (fun _ => ?_)
          refine ev_iload rfl rfl ?_
          refine ev_iconst (x := nI 2) rfl rfl ?_
          refine ev_icmp_neN (p2 := 157) rfl rfl (fun _ => ?_) (fun zz => absurd zz (by decide))
          refine ev_iload rfl rfl ?_
          refine ev_iret rfl ?_
          exact hQ 1 rfl _ ⟨fun q h1 h2 h3 => by rw [am_up_ne h2, am_up_ne h1], by rw [am_up_ne (by decide), am_up_row], fun i hi => by rw [am_up_nk hi, am_up_ne (by decide)], fun _ => am_up_eq, fun z => absurd z (by decide), fun z => absurd z (by decide), fun i _ => by rw [am_up_ne (by decide), am_up_ne (by decide)]⟩
      · skip
        refine ev_iload rfl rfl ?_
        refine ev_iconst (x := nI 1) rfl rfl ?_
        refine ev_icmp_neN (p2 := 29) rfl rfl (fun _ => ?_) (fun zz => absurd zz (by decide))
        refine ev_iload rfl rfl ?_
        refine ev_iconst (x := nI 2) rfl rfl ?_
        refine ev_icmp_neN (p2 := 44) rfl rfl (fun zz => absurd zz (by decide)) (fun _ => ?_)
        refine ev_iload rfl rfl ?_
        refine ev_call rfl rfl ?_
        refine c_X12_isSheet _ ?_
        change am_ev _ _ _ _ [_] _ _ _
        refine ev_if_neB (p2 := 44) rfl rfl (fun cnd38 => ?_) (fun cnd38 => ?_)
        · skip
          obtain ⟨ek, hk⟩ := am_rng (by decide) cnd38
          have hkS := cnd38
          clear cnd38
          generalize hk9 : nn k = k9 at ek hk hQ hQ1
          subst ek
          rw [if_pos (show P_sl (nI c) ∧ (nI 0 ≤ nI 2 ∧ nI 2 ≤ nI 3) ∧ (nI 2 = nI 1 → P_i (nI k9) (R 5)) ∧ (nI 2 = nI 2 → P_sh (nI k9)) from ⟨hP4, by decide, fun z => absurd z (by decide), fun _ => hkS⟩)] at hQ hQ1
          refine ev_iload rfl rfl ?_
          refine ev_iconst (x := nI 2) rfl rfl ?_
          refine ev_icmp_neN (p2 := 62) rfl rfl (fun zz => absurd zz (by decide)) (fun _ => ?_)
          refine ev_aload rfl rfl ?_
          refine ev_getR (c := 12) (j := 35) rfl ?_ (hq := k_221 n)
          refine ev_iload rfl rfl ?_
          refine ev_ialdN rfl rfl ?_ (hq := k_245 n)
          rw [congrFun hS k9]
          refine ev_if_ge (p2 := 62) rfl rfl (fun cnd55 => ?_) (fun cnd55 => ?_)
          · skip
            refine ev_aload rfl rfl ?_
            refine ev_getR (c := 12) (j := 38) rfl ?_ (hq := k_221 n)
            refine ev_iload rfl rfl ?_
            refine ev_ialdN rfl rfl ?_ (hq := k_248 n)
            refine ev_istore rfl rfl (Nat.le_of_ble_eq_true rfl) ?_
            refine ev_aload rfl rfl ?_
            refine ev_getR (c := 12) (j := 38) rfl ?_ (hq := k_221 n)
            refine ev_iload rfl rfl ?_
            refine ev_iload rfl rfl ?_
            refine ev_iastN rfl rfl ?_ (hq := k_248 n)
            refine ev_aload rfl rfl ?_
            refine ev_getR (c := 12) (j := 39) rfl ?_ (hq := k_221 n)
            refine ev_iload rfl rfl ?_
            refine ev_iload rfl rfl ?_
            refine ev_iconst (x := nI 1) rfl rfl ?_
            refine ev_icmp_neN (p2 := 96) rfl rfl (fun _ => ?_) (fun zz => absurd zz (by decide))
            refine ev_iload rfl rfl ?_
            refine ev_iconst (x := nI 2) rfl rfl ?_
            refine ev_icmp_neN (p2 := 110) rfl rfl (fun zz => absurd zz (by decide)) (fun _ => ?_)
            refine ev_aload rfl rfl ?_
            refine ev_getR (c := 12) (j := 36) rfl ?_ (hq := k_221 n)
            refine ev_iload rfl rfl ?_
            refine ev_ialdN rfl rfl ?_ (hq := k_246 n)
            rw [am_up_ne (show (246 : Nat) ≠ 248 by decide)]
            refine ev_goto (p2 := 111) rfl rfl ?_
            refine ev_iastN rfl rfl ?_ (hq := k_249 n)
            refine ev_iconst (x := nI 0) rfl rfl ?_
            refine ev_istore rfl rfl (Nat.le_of_ble_eq_true rfl) ?_
            rw [if_neg (fun z => (s3_ge (h3 k9 (by omega))).mp cnd55 z.2)] at hQ
            refine l_X12_lay c k9 (by omega) (by omega) _ 24 _ 0 rfl (fun _ _ => rfl) (fun j hj => absurd hj (Nat.not_lt_zero j)) (fun _ _ => rfl) (fun m2 f1 f2 f3 => ?_)
            refine hQ 2 rfl m2 ⟨fun q h1 h2 h3 => by rw [f1 q h3, am_up_ne h2, am_up_ne h1], by rw [f1 248 (by decide), am_up_ne (by decide), am_up_row], fun i hi => by rw [f1 249 (by decide), am_up_nk hi, am_up_ne (by decide)], fun z => absurd z (by decide), fun _ => ⟨?_, fun j hj => ?_⟩, fun z => absurd z (by decide), fun i hi => by rw [f3 i hi, am_up_ne (by decide), am_up_ne (by decide)]⟩
            · rw [f1 249 (by decide), am_up_eq]
            · rw [f2 j hj, am_up_ne (by decide), am_up_ne (by decide)]
          · skip
            refine ev_iconst (x := (-1000000011)) rfl rfl ?_
            refine ev_iret rfl ?_
            rw [if_pos (And.intro rfl (Decidable.not_not.mp (fun z => cnd55 ((s3_ge (h3 k9 (by omega))).mpr z))))] at hQ1; exact hQ1 rfl
        · skip
          refine ev_iconst (x := (-1000000001)) rfl rfl ?_
          refine ev_iret rfl ?_
          rw [if_neg (fun z => cnd38 (z.2.2.2 rfl))] at hQ1; exact hQ1 rfl
      · skip
        refine ev_iload rfl rfl ?_
        refine ev_iconst (x := nI 1) rfl rfl ?_
        refine ev_icmp_neN (p2 := 29) rfl rfl (fun _ => ?_) (fun zz => absurd zz (by decide))
        refine ev_iload rfl rfl ?_
        refine ev_iconst (x := nI 2) rfl rfl ?_
        refine ev_icmp_neN (p2 := 44) rfl rfl (fun _ => ?_) (fun zz => absurd zz (by decide))
        refine ev_iload rfl rfl ?_
        refine ev_iconst (x := nI 2) rfl rfl ?_
        refine ev_icmp_neN (p2 := 62) rfl rfl (fun _ => ?_) (fun zz => absurd zz (by decide))
        refine ev_aload rfl rfl ?_
        refine ev_getR (c := 12) (j := 38) rfl ?_ (hq := k_221 n)
        refine ev_iload rfl rfl ?_
        refine ev_ialdN rfl rfl ?_ (hq := k_248 n)
        refine ev_istore rfl rfl (Nat.le_of_ble_eq_true rfl) ?_
        refine ev_aload rfl rfl ?_
        refine ev_getR (c := 12) (j := 38) rfl ?_ (hq := k_221 n)
        refine ev_iload rfl rfl ?_
        refine ev_iload rfl rfl ?_
        refine ev_iastN rfl rfl ?_ (hq := k_248 n)
        refine ev_aload rfl rfl ?_
        refine ev_getR (c := 12) (j := 39) rfl ?_ (hq := k_221 n)
        refine ev_iload rfl rfl ?_
        refine ev_iload rfl rfl ?_
        refine ev_iconst (x := nI 1) rfl rfl ?_
        refine ev_icmp_neN (p2 := 96) rfl rfl (fun _ => ?_) (fun zz => absurd zz (by decide))
        refine ev_iload rfl rfl ?_
        refine ev_iconst (x := nI 2) rfl rfl ?_
        refine ev_icmp_neN (p2 := 110) rfl rfl (fun _ => ?_) (fun zz => absurd zz (by decide))
        refine ev_iload rfl rfl ?_
        refine ev_iastN rfl rfl ?_ (hq := k_249 n)
        refine ev_iconst (x := nI 0) rfl rfl ?_
        refine ev_istore rfl rfl (Nat.le_of_ble_eq_true rfl) ?_
        refine ev_iload rfl rfl ?_
        refine ev_iconst (x := nI 24) rfl rfl ?_
        refine ev_icmp_geN (p2 := 157) rfl rfl (fun zz => absurd zz (by decide)) (fun _ => ?_)
        refine ev_iload rfl rfl ?_
        refine ev_iconst (x := nI 2) rfl rfl ?_
        refine ev_icmp_neN (p2 := 157) rfl rfl (fun _ => ?_) (fun zz => absurd zz (by decide))
        refine ev_iload rfl rfl ?_
        refine ev_iret rfl ?_
        rw [if_pos (show P_sl (nI c) ∧ (nI 0 ≤ nI 3 ∧ nI 3 ≤ nI 3) ∧ (nI 3 = nI 1 → P_i k (R 5)) ∧ (nI 3 = nI 2 → P_sh k) from ⟨hP4, by decide, fun z => absurd z (by decide), fun z => absurd z (by decide)⟩)] at hQ
        rw [if_neg (fun z => absurd z.1 (by decide))] at hQ
        exact hQ 3 rfl _ ⟨fun q h1 h2 h3 => by rw [am_up_ne h2, am_up_ne h1], by rw [am_up_ne (by decide), am_up_row], fun i hi => by rw [am_up_nk hi, am_up_ne (by decide)], fun z => absurd z (by decide), fun z => absurd z (by decide), fun _ => am_up_eq, fun i _ => by rw [am_up_ne (by decide), am_up_ne (by decide)]⟩
theorem O_lay_b {x5 : Int32} {S H : am_R} {sl th k : Int32} {a : Nat} (h : (O_lay x5 S H sl th k).2 = some a) : nn sl < 5 ∧ a < 4 ∧ (a = 1 → P_i k x5) ∧ (a = 2 → P_sh k) := by
  unfold O_lay at h
  split at h
  · rename_i hP
    have hn := am_rng (by decide) hP.1
    have hn2 := am_rng (by decide) hP.2.1
    split at h
    · cases h
    · have e : nn th = a := by injection h
      subst e
      refine ⟨by omega, by omega, fun z => hP.2.2.1 (by rw [hn2.1, z]), fun z => hP.2.2.2 (by rw [hn2.1, z])⟩
  · cases h
theorem pub_lay {xs : am_R} {d n : Nat} {mem : am_M} {Q : am_P} (hI : Inv xs mem) (sl : Int32) (th : Int32) (k : Int32) (hQ : ∀ (rv : Int32) (m1 : am_M), RefA xs (d + 200) n 225 [.ref 221, .int sl, .int th, .int k] rv m1 → Q (some (.int rv)) (am_SK n) m1) : am_ex (d + 200) 117 [.ref 29, .int sl, .int th, .int k] (am_SK n) mem Q := by
  have hsh := hI.2.2.2.2.1
  have hsl := hI.2.2.2.2.2.1
  have hC := hI.2.1.1
  have hw := cp_w hC
  have hb5 := wb_all hw
  have h3 : ∀ c, c < 4 → (mem 245 c = -1 ∨ mem 245 c = 0 ∨ mem 245 c = 1) := fun c hc => (hsh c hc).1.2
  refine c_X11_lay hC rfl hsh hsl sl th k (fun h0 => hQ _ _ (fun Q2 h2 => ?_)) (fun a h0 m1 f1 => hQ _ _ (fun Q2 h2 => ?_))
  · exact c_X12_lay rfl hw rfl h3 sl th k (fun _ => h2 _ hI) (fun a h => absurd (h0.symm.trans h) (by intro z; cases z))
  · have hb := O_lay_b h0
    obtain ⟨f0, fa, fb, fc, fd⟩ := f1
    have e248 := f0 248 (by omega) (by omega) (by omega)
    refine c_X12_lay (f0 222 (by omega) (by omega) (by omega)) hw (f0 245 (by omega) (by omega) (by omega)) h3 sl th k (fun h => ?_) (fun a2 h m2 g1 => ?_)
    · rw [e248] at h; exact absurd (h0.symm.trans h) (by intro z; cases z)
    rw [e248] at h ⊢
    have ea : a = a2 := by have z := h0.symm.trans h; injection z
    subst ea
    obtain ⟨g0, ga, gb, gc, gd, ge, gf⟩ := g1
    rw [e248] at ga
    rw [f0 246 (by omega) (by omega) (by omega), f0 247 (by omega) (by omega) (by omega)] at gd
    refine h2 _ (Inv_sl_fr hI (fun q hq => (g0 q (by omega) (by omega) (by omega)).trans (f0 q (by omega) (by omega) (by omega))) (fun u hu => ?_))
    rw [ga, g0 (206 + 3 * u) (by omega) (by omega) (by omega), g0 (207 + 3 * u) (by omega) (by omega) (by omega), g0 (208 + 3 * u) (by omega) (by omega) (by omega)]
    by_cases eu : u = nn sl
    · subst eu
      rw [upd_eq]
      refine ⟨⟨fa, isN_lt hb.2.1 (by decide)⟩, fun z => ?_, fun z => ?_, fun z => ?_⟩
      · have ha : a = 1 := (nI_eq (by omega) (by decide)).mp z
        have hk5 := am_idx (wr5 hw) (by omega) (hb.2.2.1 ha)
        rw [fb ha, gc ha]
        exact ⟨rfl, (hw.2.2.2.2.1 _ hk5.2).1⟩
      · have ha : a = 2 := (nI_eq (by omega) (by decide)).mp z
        have hk4 := am_rng (by decide) (hb.2.2.2 ha)
        rw [(fc ha).1, (gd ha).1]
        refine ⟨rfl, (hsh (nn k) (by omega)).2.1.2, fun j hj => ?_⟩
        rw [(fc ha).2 j hj, (gd ha).2 j hj]
      · have ha : a = 3 := (nI_eq (by omega) (by decide)).mp z
        rw [fd ha, ge ha]
    · rw [upd_ne eu, gb u eu, f0 249 (by omega) (by omega) (by omega), f0 (206 + 3 * u) (by omega) (by omega) (by omega), f0 (207 + 3 * u) (by omega) (by omega) (by omega), f0 (208 + 3 * u) (by omega) (by omega) (by omega)]
      obtain ⟨q1, q2, q3, q4⟩ := hsl u hu
      refine ⟨q1, q2, fun z => ?_, q4⟩
      obtain ⟨r1, r2, r3⟩ := q3 z
      refine ⟨r1, r2, fun j hj => ?_⟩
      rw [gf _ (by omega), f0 250 (by omega) (by omega) (by omega)]
      exact r3 j hj
