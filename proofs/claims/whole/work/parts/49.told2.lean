/-! the class: what is told -/
theorem nI_pb {w : Int32} {b : Nat} (hb : b + 1 < 2 ^ 31) : (nI 0 ≤ w ∧ w ≤ nI b) ↔ (¬ w < 0 ∧ w < nI (b + 1)) := by
  have e0 : (nI 0).toInt = 0 := rfl
  have e1 : (0 : Int32).toInt = 0 := rfl
  have eb : (nI b).toInt = (b : Int) := nI_toInt (by omega)
  have eb1 : (nI (b + 1)).toInt = ((b + 1 : Nat) : Int) := nI_toInt hb
  rw [Int32.le_iff_toInt_le, Int32.le_iff_toInt_le, Int32.lt_iff_toInt_lt, Int32.lt_iff_toInt_lt, e0, e1, eb, eb1]
  omega
theorem c_X11_wearOf {d n : Nat} {mem : am_M} {Q : am_P} (k : Nat) (hk : k < 6) (hQ : Q (some (.int (S_wear (nI k)))) (am_SK n) mem) : am_ex (d + 1) 136 [.int (nI k)] (am_SK n) mem Q := by
  rcases (show k = 0 ∨ k = 1 ∨ k = 2 ∨ k = 3 ∨ k = 4 ∨ k = 5 by omega) with rfl | rfl | rfl | rfl | rfl | rfl
  · refine ex_in (c0 := kc_X11_wearOf) rfl (L := [some (.int (nI 0)), none]) rfl ?_
    refine ev_iconst (x := nI 1) rfl rfl ?_
    refine ev_istore rfl rfl (Nat.le_of_ble_eq_true rfl) ?_
    refine ev_iload rfl rfl ?_
    refine ev_lswC (p2 := 36) rfl (by first | rfl | decide) rfl ?_
    refine ev_iload rfl rfl ?_
    refine ev_iret rfl ?_
    exact hQ
  · refine ex_in (c0 := kc_X11_wearOf) rfl (L := [some (.int (nI 1)), none]) rfl ?_
    refine ev_iconst (x := nI 1) rfl rfl ?_
    refine ev_istore rfl rfl (Nat.le_of_ble_eq_true rfl) ?_
    refine ev_iload rfl rfl ?_
    refine ev_lswC (p2 := 36) rfl (by first | rfl | decide) rfl ?_
    refine ev_iload rfl rfl ?_
    refine ev_iret rfl ?_
    exact hQ
  · refine ex_in (c0 := kc_X11_wearOf) rfl (L := [some (.int (nI 2)), none]) rfl ?_
    refine ev_iconst (x := nI 1) rfl rfl ?_
    refine ev_istore rfl rfl (Nat.le_of_ble_eq_true rfl) ?_
    refine ev_iload rfl rfl ?_
    refine ev_lswC (p2 := 36) rfl (by first | rfl | decide) rfl ?_
    refine ev_iload rfl rfl ?_
    refine ev_iret rfl ?_
    exact hQ
  · refine ex_in (c0 := kc_X11_wearOf) rfl (L := [some (.int (nI 3)), none]) rfl ?_
    refine ev_iconst (x := nI 1) rfl rfl ?_
    refine ev_istore rfl rfl (Nat.le_of_ble_eq_true rfl) ?_
    refine ev_iload rfl rfl ?_
    refine ev_lswC (p2 := 36) rfl (by first | rfl | decide) rfl ?_
    refine ev_iload rfl rfl ?_
    refine ev_iret rfl ?_
    exact hQ
  · refine ex_in (c0 := kc_X11_wearOf) rfl (L := [some (.int (nI 4)), none]) rfl ?_
    refine ev_iconst (x := nI 1) rfl rfl ?_
    refine ev_istore rfl rfl (Nat.le_of_ble_eq_true rfl) ?_
    refine ev_iload rfl rfl ?_
    refine ev_lswC (p2 := 28) rfl (by first | rfl | decide) rfl ?_
    refine ev_iload rfl rfl ?_
    refine ev_iconst (x := nI 1) rfl rfl ?_
    refine ev_iaddN rfl ?_
    refine ev_iret rfl ?_
    exact hQ
  · refine ex_in (c0 := kc_X11_wearOf) rfl (L := [some (.int (nI 5)), none]) rfl ?_
    refine ev_iconst (x := nI 1) rfl rfl ?_
    refine ev_istore rfl rfl (Nat.le_of_ble_eq_true rfl) ?_
    refine ev_iload rfl rfl ?_
    refine ev_lswC (p2 := 32) rfl (by first | rfl | decide) rfl ?_
    refine ev_iconst (x := nI 2) rfl rfl ?_
    refine ev_iload rfl rfl ?_
    refine ev_imulN rfl ?_
    refine ev_iret rfl ?_
    exact hQ
def P_und (a b : Int32) : Prop := b = 0 ∨ a = b ∨ (b = nI 1 ∧ a = nI 3) ∨ (b = nI 2 ∧ a = nI 4)
def Kab (mem : am_M) : Prop := mem 0 0 = -1 ∧ mem 0 1 = nI 0 ∧ mem 0 2 = nI 0 ∧ mem 0 3 = nI 1 ∧ mem 0 4 = nI 2 ∧ mem 0 5 = nI 0
theorem c_X11_isOfKind {d n : Nat} {mem : am_M} {Q : am_P} (hK : Kab mem) (k : Nat) (hk : k < 6) (b : Int32) (hQ : Q (some (.int (am_b (b = 0 ∨ nI k = b ∨ (b = nI 1 ∧ nI k = nI 3) ∨ (b = nI 2 ∧ nI k = nI 4))))) (am_SK n) mem) : am_ex (d + 2) 135 [.int (nI k), .int b] (am_SK n) mem Q := by
  obtain ⟨k0, k1, k2, k3, k4, k5⟩ := hK
  rcases (show k = 0 ∨ k = 1 ∨ k = 2 ∨ k = 3 ∨ k = 4 ∨ k = 5 by omega) with rfl | rfl | rfl | rfl | rfl | rfl
  · refine ex_in (c0 := kc_X11_isOfKind) rfl (L := [some (.int (nI 0)), some (.int b), none, none]) rfl ?_
    refine ev_iload rfl rfl ?_
    refine ev_istore rfl rfl (Nat.le_of_ble_eq_true rfl) ?_
    refine ev_iconst (x := nI 0) rfl rfl ?_
    refine ev_istore rfl rfl (Nat.le_of_ble_eq_true rfl) ?_
    refine ev_iload rfl rfl ?_
    refine ev_iconst (x := nI 6) rfl rfl ?_
    refine ev_icmp_geN (p2 := 36) rfl rfl (fun zz => absurd zz (by decide)) (fun _ => ?_)
    refine ev_iload rfl rfl ?_
    refine ev_call rfl rfl ?_
    refine c_X11_isKind _ ?_
    change am_ev _ _ _ _ (_ :: _) _ _ _
    refine ev_if_eqB (p2 := 36) rfl rfl (fun zz => absurd (by decide) zz) (fun _ => ?_)
    refine ev_iload rfl rfl ?_
    refine ev_iload rfl rfl ?_
    by_cases hb0 : nI 0 = b
    · refine ev_icmp_ne (p2 := 24) rfl rfl (fun zz => absurd hb0 zz) (fun _ => ?_)
      refine ev_iconst (x := nI 1) rfl rfl ?_
      refine ev_zret rfl ?_
      subst hb0
      exact am_leaf hQ (am_bt (by decide)).symm
    refine ev_icmp_ne (p2 := 24) rfl rfl (fun _ => ?_) (fun zz => absurd zz hb0)
    refine ev_gets rfl rfl ?_
    refine ev_iload rfl rfl ?_
    refine ev_ialdN rfl rfl ?_ (hq := k_0 n)
    rw [k0]
    refine ev_istore rfl rfl (Nat.le_of_ble_eq_true rfl) ?_
    refine ev_iincN rfl rfl rfl ?_
    refine ev_goto (p2 := 4) rfl rfl ?_
    refine ev_iload rfl rfl ?_
    refine ev_iconst (x := nI 6) rfl rfl ?_
    refine ev_icmp_geN (p2 := 36) rfl rfl (fun zz => absurd zz (by decide)) (fun _ => ?_)
    refine ev_iload rfl rfl ?_
    refine ev_call rfl rfl ?_
    refine c_X11_isKind _ ?_
    change am_ev _ _ _ _ (_ :: _) _ _ _
    refine ev_if_eqB (p2 := 36) rfl rfl (fun _ => ?_) (fun zz => absurd zz (by decide))
    refine ev_iconst (x := nI 0) rfl rfl ?_
    refine ev_zret rfl ?_
    refine am_leaf hQ (am_bf ?_).symm
    rintro (z | z | ⟨z, y⟩ | ⟨z, y⟩)
    · exact hb0 z.symm
    · exact hb0 z
    · exact absurd y (by decide)
    · exact absurd y (by decide)
  · refine ex_in (c0 := kc_X11_isOfKind) rfl (L := [some (.int (nI 1)), some (.int b), none, none]) rfl ?_
    refine ev_iload rfl rfl ?_
    refine ev_istore rfl rfl (Nat.le_of_ble_eq_true rfl) ?_
    refine ev_iconst (x := nI 0) rfl rfl ?_
    refine ev_istore rfl rfl (Nat.le_of_ble_eq_true rfl) ?_
    refine ev_iload rfl rfl ?_
    refine ev_iconst (x := nI 6) rfl rfl ?_
    refine ev_icmp_geN (p2 := 36) rfl rfl (fun zz => absurd zz (by decide)) (fun _ => ?_)
    refine ev_iload rfl rfl ?_
    refine ev_call rfl rfl ?_
    refine c_X11_isKind _ ?_
    change am_ev _ _ _ _ (_ :: _) _ _ _
    refine ev_if_eqB (p2 := 36) rfl rfl (fun zz => absurd (by decide) zz) (fun _ => ?_)
    refine ev_iload rfl rfl ?_
    refine ev_iload rfl rfl ?_
    by_cases hb0 : nI 1 = b
    · refine ev_icmp_ne (p2 := 24) rfl rfl (fun zz => absurd hb0 zz) (fun _ => ?_)
      refine ev_iconst (x := nI 1) rfl rfl ?_
      refine ev_zret rfl ?_
      subst hb0
      exact am_leaf hQ (am_bt (by decide)).symm
    refine ev_icmp_ne (p2 := 24) rfl rfl (fun _ => ?_) (fun zz => absurd zz hb0)
    refine ev_gets rfl rfl ?_
    refine ev_iload rfl rfl ?_
    refine ev_ialdN rfl rfl ?_ (hq := k_0 n)
    rw [k1]
    refine ev_istore rfl rfl (Nat.le_of_ble_eq_true rfl) ?_
    refine ev_iincN rfl rfl rfl ?_
    refine ev_goto (p2 := 4) rfl rfl ?_
    refine ev_iload rfl rfl ?_
    refine ev_iconst (x := nI 6) rfl rfl ?_
    refine ev_icmp_geN (p2 := 36) rfl rfl (fun zz => absurd zz (by decide)) (fun _ => ?_)
    refine ev_iload rfl rfl ?_
    refine ev_call rfl rfl ?_
    refine c_X11_isKind _ ?_
    change am_ev _ _ _ _ (_ :: _) _ _ _
    refine ev_if_eqB (p2 := 36) rfl rfl (fun zz => absurd (by decide) zz) (fun _ => ?_)
    refine ev_iload rfl rfl ?_
    refine ev_iload rfl rfl ?_
    by_cases hb1 : nI 0 = b
    · refine ev_icmp_ne (p2 := 24) rfl rfl (fun zz => absurd hb1 zz) (fun _ => ?_)
      refine ev_iconst (x := nI 1) rfl rfl ?_
      refine ev_zret rfl ?_
      subst hb1
      exact am_leaf hQ (am_bt (by decide)).symm
    refine ev_icmp_ne (p2 := 24) rfl rfl (fun _ => ?_) (fun zz => absurd zz hb1)
    refine ev_gets rfl rfl ?_
    refine ev_iload rfl rfl ?_
    refine ev_ialdN rfl rfl ?_ (hq := k_0 n)
    rw [k0]
    refine ev_istore rfl rfl (Nat.le_of_ble_eq_true rfl) ?_
    refine ev_iincN rfl rfl rfl ?_
    refine ev_goto (p2 := 4) rfl rfl ?_
    refine ev_iload rfl rfl ?_
    refine ev_iconst (x := nI 6) rfl rfl ?_
    refine ev_icmp_geN (p2 := 36) rfl rfl (fun zz => absurd zz (by decide)) (fun _ => ?_)
    refine ev_iload rfl rfl ?_
    refine ev_call rfl rfl ?_
    refine c_X11_isKind _ ?_
    change am_ev _ _ _ _ (_ :: _) _ _ _
    refine ev_if_eqB (p2 := 36) rfl rfl (fun _ => ?_) (fun zz => absurd zz (by decide))
    refine ev_iconst (x := nI 0) rfl rfl ?_
    refine ev_zret rfl ?_
    refine am_leaf hQ (am_bf ?_).symm
    rintro (z | z | ⟨z, y⟩ | ⟨z, y⟩)
    · exact hb1 z.symm
    · exact hb0 z
    · exact absurd y (by decide)
    · exact absurd y (by decide)
  · refine ex_in (c0 := kc_X11_isOfKind) rfl (L := [some (.int (nI 2)), some (.int b), none, none]) rfl ?_
    refine ev_iload rfl rfl ?_
    refine ev_istore rfl rfl (Nat.le_of_ble_eq_true rfl) ?_
    refine ev_iconst (x := nI 0) rfl rfl ?_
    refine ev_istore rfl rfl (Nat.le_of_ble_eq_true rfl) ?_
    refine ev_iload rfl rfl ?_
    refine ev_iconst (x := nI 6) rfl rfl ?_
    refine ev_icmp_geN (p2 := 36) rfl rfl (fun zz => absurd zz (by decide)) (fun _ => ?_)
    refine ev_iload rfl rfl ?_
    refine ev_call rfl rfl ?_
    refine c_X11_isKind _ ?_
    change am_ev _ _ _ _ (_ :: _) _ _ _
    refine ev_if_eqB (p2 := 36) rfl rfl (fun zz => absurd (by decide) zz) (fun _ => ?_)
    refine ev_iload rfl rfl ?_
    refine ev_iload rfl rfl ?_
    by_cases hb0 : nI 2 = b
    · refine ev_icmp_ne (p2 := 24) rfl rfl (fun zz => absurd hb0 zz) (fun _ => ?_)
      refine ev_iconst (x := nI 1) rfl rfl ?_
      refine ev_zret rfl ?_
      subst hb0
      exact am_leaf hQ (am_bt (by decide)).symm
    refine ev_icmp_ne (p2 := 24) rfl rfl (fun _ => ?_) (fun zz => absurd zz hb0)
    refine ev_gets rfl rfl ?_
    refine ev_iload rfl rfl ?_
    refine ev_ialdN rfl rfl ?_ (hq := k_0 n)
    rw [k2]
    refine ev_istore rfl rfl (Nat.le_of_ble_eq_true rfl) ?_
    refine ev_iincN rfl rfl rfl ?_
    refine ev_goto (p2 := 4) rfl rfl ?_
    refine ev_iload rfl rfl ?_
    refine ev_iconst (x := nI 6) rfl rfl ?_
    refine ev_icmp_geN (p2 := 36) rfl rfl (fun zz => absurd zz (by decide)) (fun _ => ?_)
    refine ev_iload rfl rfl ?_
    refine ev_call rfl rfl ?_
    refine c_X11_isKind _ ?_
    change am_ev _ _ _ _ (_ :: _) _ _ _
    refine ev_if_eqB (p2 := 36) rfl rfl (fun zz => absurd (by decide) zz) (fun _ => ?_)
    refine ev_iload rfl rfl ?_
    refine ev_iload rfl rfl ?_
    by_cases hb1 : nI 0 = b
    · refine ev_icmp_ne (p2 := 24) rfl rfl (fun zz => absurd hb1 zz) (fun _ => ?_)
      refine ev_iconst (x := nI 1) rfl rfl ?_
      refine ev_zret rfl ?_
      subst hb1
      exact am_leaf hQ (am_bt (by decide)).symm
    refine ev_icmp_ne (p2 := 24) rfl rfl (fun _ => ?_) (fun zz => absurd zz hb1)
    refine ev_gets rfl rfl ?_
    refine ev_iload rfl rfl ?_
    refine ev_ialdN rfl rfl ?_ (hq := k_0 n)
    rw [k0]
    refine ev_istore rfl rfl (Nat.le_of_ble_eq_true rfl) ?_
    refine ev_iincN rfl rfl rfl ?_
    refine ev_goto (p2 := 4) rfl rfl ?_
    refine ev_iload rfl rfl ?_
    refine ev_iconst (x := nI 6) rfl rfl ?_
    refine ev_icmp_geN (p2 := 36) rfl rfl (fun zz => absurd zz (by decide)) (fun _ => ?_)
    refine ev_iload rfl rfl ?_
    refine ev_call rfl rfl ?_
    refine c_X11_isKind _ ?_
    change am_ev _ _ _ _ (_ :: _) _ _ _
    refine ev_if_eqB (p2 := 36) rfl rfl (fun _ => ?_) (fun zz => absurd zz (by decide))
    refine ev_iconst (x := nI 0) rfl rfl ?_
    refine ev_zret rfl ?_
    refine am_leaf hQ (am_bf ?_).symm
    rintro (z | z | ⟨z, y⟩ | ⟨z, y⟩)
    · exact hb1 z.symm
    · exact hb0 z
    · exact absurd y (by decide)
    · exact absurd y (by decide)
  · refine ex_in (c0 := kc_X11_isOfKind) rfl (L := [some (.int (nI 3)), some (.int b), none, none]) rfl ?_
    refine ev_iload rfl rfl ?_
    refine ev_istore rfl rfl (Nat.le_of_ble_eq_true rfl) ?_
    refine ev_iconst (x := nI 0) rfl rfl ?_
    refine ev_istore rfl rfl (Nat.le_of_ble_eq_true rfl) ?_
    refine ev_iload rfl rfl ?_
    refine ev_iconst (x := nI 6) rfl rfl ?_
    refine ev_icmp_geN (p2 := 36) rfl rfl (fun zz => absurd zz (by decide)) (fun _ => ?_)
    refine ev_iload rfl rfl ?_
    refine ev_call rfl rfl ?_
    refine c_X11_isKind _ ?_
    change am_ev _ _ _ _ (_ :: _) _ _ _
    refine ev_if_eqB (p2 := 36) rfl rfl (fun zz => absurd (by decide) zz) (fun _ => ?_)
    refine ev_iload rfl rfl ?_
    refine ev_iload rfl rfl ?_
    by_cases hb0 : nI 3 = b
    · refine ev_icmp_ne (p2 := 24) rfl rfl (fun zz => absurd hb0 zz) (fun _ => ?_)
      refine ev_iconst (x := nI 1) rfl rfl ?_
      refine ev_zret rfl ?_
      subst hb0
      exact am_leaf hQ (am_bt (by decide)).symm
    refine ev_icmp_ne (p2 := 24) rfl rfl (fun _ => ?_) (fun zz => absurd zz hb0)
    refine ev_gets rfl rfl ?_
    refine ev_iload rfl rfl ?_
    refine ev_ialdN rfl rfl ?_ (hq := k_0 n)
    rw [k3]
    refine ev_istore rfl rfl (Nat.le_of_ble_eq_true rfl) ?_
    refine ev_iincN rfl rfl rfl ?_
    refine ev_goto (p2 := 4) rfl rfl ?_
    refine ev_iload rfl rfl ?_
    refine ev_iconst (x := nI 6) rfl rfl ?_
    refine ev_icmp_geN (p2 := 36) rfl rfl (fun zz => absurd zz (by decide)) (fun _ => ?_)
    refine ev_iload rfl rfl ?_
    refine ev_call rfl rfl ?_
    refine c_X11_isKind _ ?_
    change am_ev _ _ _ _ (_ :: _) _ _ _
    refine ev_if_eqB (p2 := 36) rfl rfl (fun zz => absurd (by decide) zz) (fun _ => ?_)
    refine ev_iload rfl rfl ?_
    refine ev_iload rfl rfl ?_
    by_cases hb1 : nI 1 = b
    · refine ev_icmp_ne (p2 := 24) rfl rfl (fun zz => absurd hb1 zz) (fun _ => ?_)
      refine ev_iconst (x := nI 1) rfl rfl ?_
      refine ev_zret rfl ?_
      subst hb1
      exact am_leaf hQ (am_bt (by decide)).symm
    refine ev_icmp_ne (p2 := 24) rfl rfl (fun _ => ?_) (fun zz => absurd zz hb1)
    refine ev_gets rfl rfl ?_
    refine ev_iload rfl rfl ?_
    refine ev_ialdN rfl rfl ?_ (hq := k_0 n)
    rw [k1]
    refine ev_istore rfl rfl (Nat.le_of_ble_eq_true rfl) ?_
    refine ev_iincN rfl rfl rfl ?_
    refine ev_goto (p2 := 4) rfl rfl ?_
    refine ev_iload rfl rfl ?_
    refine ev_iconst (x := nI 6) rfl rfl ?_
    refine ev_icmp_geN (p2 := 36) rfl rfl (fun zz => absurd zz (by decide)) (fun _ => ?_)
    refine ev_iload rfl rfl ?_
    refine ev_call rfl rfl ?_
    refine c_X11_isKind _ ?_
    change am_ev _ _ _ _ (_ :: _) _ _ _
    refine ev_if_eqB (p2 := 36) rfl rfl (fun zz => absurd (by decide) zz) (fun _ => ?_)
    refine ev_iload rfl rfl ?_
    refine ev_iload rfl rfl ?_
    by_cases hb2 : nI 0 = b
    · refine ev_icmp_ne (p2 := 24) rfl rfl (fun zz => absurd hb2 zz) (fun _ => ?_)
      refine ev_iconst (x := nI 1) rfl rfl ?_
      refine ev_zret rfl ?_
      subst hb2
      exact am_leaf hQ (am_bt (by decide)).symm
    refine ev_icmp_ne (p2 := 24) rfl rfl (fun _ => ?_) (fun zz => absurd zz hb2)
    refine ev_gets rfl rfl ?_
    refine ev_iload rfl rfl ?_
    refine ev_ialdN rfl rfl ?_ (hq := k_0 n)
    rw [k0]
    refine ev_istore rfl rfl (Nat.le_of_ble_eq_true rfl) ?_
    refine ev_iincN rfl rfl rfl ?_
    refine ev_goto (p2 := 4) rfl rfl ?_
    refine ev_iload rfl rfl ?_
    refine ev_iconst (x := nI 6) rfl rfl ?_
    refine ev_icmp_geN (p2 := 36) rfl rfl (fun zz => absurd zz (by decide)) (fun _ => ?_)
    refine ev_iload rfl rfl ?_
    refine ev_call rfl rfl ?_
    refine c_X11_isKind _ ?_
    change am_ev _ _ _ _ (_ :: _) _ _ _
    refine ev_if_eqB (p2 := 36) rfl rfl (fun _ => ?_) (fun zz => absurd zz (by decide))
    refine ev_iconst (x := nI 0) rfl rfl ?_
    refine ev_zret rfl ?_
    refine am_leaf hQ (am_bf ?_).symm
    rintro (z | z | ⟨z, y⟩ | ⟨z, y⟩)
    · exact hb2 z.symm
    · exact hb0 z
    · exact hb1 z.symm
    · exact absurd y (by decide)
  · refine ex_in (c0 := kc_X11_isOfKind) rfl (L := [some (.int (nI 4)), some (.int b), none, none]) rfl ?_
    refine ev_iload rfl rfl ?_
    refine ev_istore rfl rfl (Nat.le_of_ble_eq_true rfl) ?_
    refine ev_iconst (x := nI 0) rfl rfl ?_
    refine ev_istore rfl rfl (Nat.le_of_ble_eq_true rfl) ?_
    refine ev_iload rfl rfl ?_
    refine ev_iconst (x := nI 6) rfl rfl ?_
    refine ev_icmp_geN (p2 := 36) rfl rfl (fun zz => absurd zz (by decide)) (fun _ => ?_)
    refine ev_iload rfl rfl ?_
    refine ev_call rfl rfl ?_
    refine c_X11_isKind _ ?_
    change am_ev _ _ _ _ (_ :: _) _ _ _
    refine ev_if_eqB (p2 := 36) rfl rfl (fun zz => absurd (by decide) zz) (fun _ => ?_)
    refine ev_iload rfl rfl ?_
    refine ev_iload rfl rfl ?_
    by_cases hb0 : nI 4 = b
    · refine ev_icmp_ne (p2 := 24) rfl rfl (fun zz => absurd hb0 zz) (fun _ => ?_)
      refine ev_iconst (x := nI 1) rfl rfl ?_
      refine ev_zret rfl ?_
      subst hb0
      exact am_leaf hQ (am_bt (by decide)).symm
    refine ev_icmp_ne (p2 := 24) rfl rfl (fun _ => ?_) (fun zz => absurd zz hb0)
    refine ev_gets rfl rfl ?_
    refine ev_iload rfl rfl ?_
    refine ev_ialdN rfl rfl ?_ (hq := k_0 n)
    rw [k4]
    refine ev_istore rfl rfl (Nat.le_of_ble_eq_true rfl) ?_
    refine ev_iincN rfl rfl rfl ?_
    refine ev_goto (p2 := 4) rfl rfl ?_
    refine ev_iload rfl rfl ?_
    refine ev_iconst (x := nI 6) rfl rfl ?_
    refine ev_icmp_geN (p2 := 36) rfl rfl (fun zz => absurd zz (by decide)) (fun _ => ?_)
    refine ev_iload rfl rfl ?_
    refine ev_call rfl rfl ?_
    refine c_X11_isKind _ ?_
    change am_ev _ _ _ _ (_ :: _) _ _ _
    refine ev_if_eqB (p2 := 36) rfl rfl (fun zz => absurd (by decide) zz) (fun _ => ?_)
    refine ev_iload rfl rfl ?_
    refine ev_iload rfl rfl ?_
    by_cases hb1 : nI 2 = b
    · refine ev_icmp_ne (p2 := 24) rfl rfl (fun zz => absurd hb1 zz) (fun _ => ?_)
      refine ev_iconst (x := nI 1) rfl rfl ?_
      refine ev_zret rfl ?_
      subst hb1
      exact am_leaf hQ (am_bt (by decide)).symm
    refine ev_icmp_ne (p2 := 24) rfl rfl (fun _ => ?_) (fun zz => absurd zz hb1)
    refine ev_gets rfl rfl ?_
    refine ev_iload rfl rfl ?_
    refine ev_ialdN rfl rfl ?_ (hq := k_0 n)
    rw [k2]
    refine ev_istore rfl rfl (Nat.le_of_ble_eq_true rfl) ?_
    refine ev_iincN rfl rfl rfl ?_
    refine ev_goto (p2 := 4) rfl rfl ?_
    refine ev_iload rfl rfl ?_
    refine ev_iconst (x := nI 6) rfl rfl ?_
    refine ev_icmp_geN (p2 := 36) rfl rfl (fun zz => absurd zz (by decide)) (fun _ => ?_)
    refine ev_iload rfl rfl ?_
    refine ev_call rfl rfl ?_
    refine c_X11_isKind _ ?_
    change am_ev _ _ _ _ (_ :: _) _ _ _
    refine ev_if_eqB (p2 := 36) rfl rfl (fun zz => absurd (by decide) zz) (fun _ => ?_)
    refine ev_iload rfl rfl ?_
    refine ev_iload rfl rfl ?_
    by_cases hb2 : nI 0 = b
    · refine ev_icmp_ne (p2 := 24) rfl rfl (fun zz => absurd hb2 zz) (fun _ => ?_)
      refine ev_iconst (x := nI 1) rfl rfl ?_
      refine ev_zret rfl ?_
      subst hb2
      exact am_leaf hQ (am_bt (by decide)).symm
    refine ev_icmp_ne (p2 := 24) rfl rfl (fun _ => ?_) (fun zz => absurd zz hb2)
    refine ev_gets rfl rfl ?_
    refine ev_iload rfl rfl ?_
    refine ev_ialdN rfl rfl ?_ (hq := k_0 n)
    rw [k0]
    refine ev_istore rfl rfl (Nat.le_of_ble_eq_true rfl) ?_
    refine ev_iincN rfl rfl rfl ?_
    refine ev_goto (p2 := 4) rfl rfl ?_
    refine ev_iload rfl rfl ?_
    refine ev_iconst (x := nI 6) rfl rfl ?_
    refine ev_icmp_geN (p2 := 36) rfl rfl (fun zz => absurd zz (by decide)) (fun _ => ?_)
    refine ev_iload rfl rfl ?_
    refine ev_call rfl rfl ?_
    refine c_X11_isKind _ ?_
    change am_ev _ _ _ _ (_ :: _) _ _ _
    refine ev_if_eqB (p2 := 36) rfl rfl (fun _ => ?_) (fun zz => absurd zz (by decide))
    refine ev_iconst (x := nI 0) rfl rfl ?_
    refine ev_zret rfl ?_
    refine am_leaf hQ (am_bf ?_).symm
    rintro (z | z | ⟨z, y⟩ | ⟨z, y⟩)
    · exact hb2 z.symm
    · exact hb0 z
    · exact absurd y (by decide)
    · exact hb1 z.symm
  · refine ex_in (c0 := kc_X11_isOfKind) rfl (L := [some (.int (nI 5)), some (.int b), none, none]) rfl ?_
    refine ev_iload rfl rfl ?_
    refine ev_istore rfl rfl (Nat.le_of_ble_eq_true rfl) ?_
    refine ev_iconst (x := nI 0) rfl rfl ?_
    refine ev_istore rfl rfl (Nat.le_of_ble_eq_true rfl) ?_
    refine ev_iload rfl rfl ?_
    refine ev_iconst (x := nI 6) rfl rfl ?_
    refine ev_icmp_geN (p2 := 36) rfl rfl (fun zz => absurd zz (by decide)) (fun _ => ?_)
    refine ev_iload rfl rfl ?_
    refine ev_call rfl rfl ?_
    refine c_X11_isKind _ ?_
    change am_ev _ _ _ _ (_ :: _) _ _ _
    refine ev_if_eqB (p2 := 36) rfl rfl (fun zz => absurd (by decide) zz) (fun _ => ?_)
    refine ev_iload rfl rfl ?_
    refine ev_iload rfl rfl ?_
    by_cases hb0 : nI 5 = b
    · refine ev_icmp_ne (p2 := 24) rfl rfl (fun zz => absurd hb0 zz) (fun _ => ?_)
      refine ev_iconst (x := nI 1) rfl rfl ?_
      refine ev_zret rfl ?_
      subst hb0
      exact am_leaf hQ (am_bt (by decide)).symm
    refine ev_icmp_ne (p2 := 24) rfl rfl (fun _ => ?_) (fun zz => absurd zz hb0)
    refine ev_gets rfl rfl ?_
    refine ev_iload rfl rfl ?_
    refine ev_ialdN rfl rfl ?_ (hq := k_0 n)
    rw [k5]
    refine ev_istore rfl rfl (Nat.le_of_ble_eq_true rfl) ?_
    refine ev_iincN rfl rfl rfl ?_
    refine ev_goto (p2 := 4) rfl rfl ?_
    refine ev_iload rfl rfl ?_
    refine ev_iconst (x := nI 6) rfl rfl ?_
    refine ev_icmp_geN (p2 := 36) rfl rfl (fun zz => absurd zz (by decide)) (fun _ => ?_)
    refine ev_iload rfl rfl ?_
    refine ev_call rfl rfl ?_
    refine c_X11_isKind _ ?_
    change am_ev _ _ _ _ (_ :: _) _ _ _
    refine ev_if_eqB (p2 := 36) rfl rfl (fun zz => absurd (by decide) zz) (fun _ => ?_)
    refine ev_iload rfl rfl ?_
    refine ev_iload rfl rfl ?_
    by_cases hb1 : nI 0 = b
    · refine ev_icmp_ne (p2 := 24) rfl rfl (fun zz => absurd hb1 zz) (fun _ => ?_)
      refine ev_iconst (x := nI 1) rfl rfl ?_
      refine ev_zret rfl ?_
      subst hb1
      exact am_leaf hQ (am_bt (by decide)).symm
    refine ev_icmp_ne (p2 := 24) rfl rfl (fun _ => ?_) (fun zz => absurd zz hb1)
    refine ev_gets rfl rfl ?_
    refine ev_iload rfl rfl ?_
    refine ev_ialdN rfl rfl ?_ (hq := k_0 n)
    rw [k0]
    refine ev_istore rfl rfl (Nat.le_of_ble_eq_true rfl) ?_
    refine ev_iincN rfl rfl rfl ?_
    refine ev_goto (p2 := 4) rfl rfl ?_
    refine ev_iload rfl rfl ?_
    refine ev_iconst (x := nI 6) rfl rfl ?_
    refine ev_icmp_geN (p2 := 36) rfl rfl (fun zz => absurd zz (by decide)) (fun _ => ?_)
    refine ev_iload rfl rfl ?_
    refine ev_call rfl rfl ?_
    refine c_X11_isKind _ ?_
    change am_ev _ _ _ _ (_ :: _) _ _ _
    refine ev_if_eqB (p2 := 36) rfl rfl (fun _ => ?_) (fun zz => absurd zz (by decide))
    refine ev_iconst (x := nI 0) rfl rfl ?_
    refine ev_zret rfl ?_
    refine am_leaf hQ (am_bf ?_).symm
    rintro (z | z | ⟨z, y⟩ | ⟨z, y⟩)
    · exact hb1 z.symm
    · exact hb0 z
    · exact absurd y (by decide)
    · exact absurd y (by decide)
theorem c_X11_as {d n : Nat} {mem : am_M} {Q : am_P} {R : am_R} (hC : CplT 66 R mem) (hK : Kab mem) (p w : Int32) (hQ : ∀ m2 : am_M, FrC mem m2 → CplT 66 R m2 → Q (some (.int (X_as R p w))) (am_SK n) m2) : am_ex (d + 3) 89 [.ref 29, .int p, .int w] (am_SK n) mem Q := by
  have hb := wb_all (cp_w hC)
  unfold X_as at hQ
  refine ex_in (c0 := kc_X11_as) rfl (L := [some (.ref 29), some (.int p), some (.int w), none]) rfl ?_
  refine ev_aload rfl rfl ?_
  refine ev_getR (c := 11) (j := 2) rfl ?_ (hq := k_29 n)
  refine ev_iload rfl rfl ?_
  refine ev_callV rfl rfl rfl rfl (Nat.le_of_ble_eq_true rfl) (Nat.le_of_ble_eq_true rfl) ?_ (hq := kt_0 n am_T66)
  refine c_X9_hasLamp am_T66 hC _ ?_
  change am_ev _ _ _ _ (_ :: _) _ _ _
  refine ev_if_eqB (p2 := 18) rfl rfl (fun cnd8 => ?_) (fun cnd8 => ?_)
  · skip
    refine ev_iconst (x := (-1000000001)) rfl rfl ?_
    refine ev_iret rfl ?_
    first
    | (rw [if_neg (fun z => cnd8 z.1)] at hQ; exact hQ mem (FrC_refl _) hC)
    | (rw [if_neg (fun z => cnd15 z.2)] at hQ; exact hQ mem (FrC_refl _) hC)
  · skip
    refine ev_iload rfl rfl ?_
    refine ev_call rfl rfl ?_
    refine c_X11_isKind _ ?_
    change am_ev _ _ _ _ (_ :: _) _ _ _
    refine ev_if_neB (p2 := 21) rfl rfl (fun cnd15 => ?_) (fun cnd15 => ?_)
    · skip
      rw [if_pos (And.intro cnd8 cnd15)] at hQ
      obtain ⟨ep, hp⟩ := am_idx (wr5 (cp_w hC)) (by omega) cnd8
      clear cnd8
      generalize nn p = c at ep hp hQ
      subst ep
      have ek := (cp_w hC).2.2.2.2.1 c hp
      have ek2 := ek.1.2
      rw [ek.1.1] at hQ
      refine ev_aload rfl rfl ?_
      refine ev_getR (c := 11) (j := 2) rfl ?_ (hq := k_29 n)
      refine ev_getR (c := 9) (j := 5) rfl ?_ (hq := kt_0 n am_T66)
      refine ev_iload rfl rfl ?_
      refine ev_aldN rfl rfl ?_ (kr_lamp (by omega)) (hq := kt_3 n am_T66)
      refine ev_astore rfl rfl (Nat.le_of_ble_eq_true rfl) ?_
      refine ev_aload rfl rfl ?_
      refine ev_getI (c := 4) (j := 0) rfl ?_ (hq := kt_lamp n am_T66 (by omega))
      rw [cp_l0 hC (l := c) (by omega)]
      refine ev_iload rfl rfl ?_
      refine ev_call rfl rfl ?_
      refine c_X11_isOfKind hK _ (by omega) _ ?_
      change am_ev _ _ _ _ (_ :: _) _ _ _
      refine ev_if_eqB (p2 := 49) rfl rfl (fun cnd39 => ?_) (fun cnd39 => ?_)
      · skip
        refine ev_iconst (x := (-1000000012)) rfl rfl ?_
        refine ev_iret rfl ?_
        first
        | (rw [if_pos cnd39] at hQ; exact hQ mem (FrC_refl _) hC)
        | (rw [if_neg cnd39] at hQ; exact hQ mem (FrC_refl _) hC)
      · skip
        refine ev_aload rfl rfl ?_
        refine ev_getI (c := 4) (j := 4) rfl ?_ (hq := kt_lamp n am_T66 (by omega))
        rw [cp_l (k := 4) (l := c) hC (by omega) (by decide)]
        refine ev_goto (p2 := 51) rfl rfl ?_
        refine ev_iret rfl ?_
        first
        | (rw [if_pos cnd39] at hQ; exact hQ mem (FrC_refl _) hC)
        | (rw [if_neg cnd39] at hQ; exact hQ mem (FrC_refl _) hC)
    · skip
      refine ev_iconst (x := (-1000000001)) rfl rfl ?_
      refine ev_iret rfl ?_
      first
      | (rw [if_neg (fun z => cnd8 z.1)] at hQ; exact hQ mem (FrC_refl _) hC)
      | (rw [if_neg (fun z => cnd15 z.2)] at hQ; exact hQ mem (FrC_refl _) hC)
theorem c_X11_cabinetTold {d n : Nat} {mem : am_M} {Q : am_P} {R : am_R} (hC : CplT 66 R mem) (p w : Int32) (hQ : ∀ m2 : am_M, FrC mem m2 → CplT 66 R m2 → Q (some (.int (X_cabTold R p w))) (am_SK n) m2) : am_ex (d + 8) 83 [.ref 29, .int p, .int w] (am_SK n) mem Q := by
  have hb := wb_all (cp_w hC)
  unfold X_cabTold at hQ
  refine ex_in (c0 := kc_X11_cabinetTold) rfl (L := [some (.ref 29), some (.int p), some (.int w), none]) rfl ?_
  refine ev_aload rfl rfl ?_
  refine ev_getR (c := 11) (j := 2) rfl ?_ (hq := k_29 n)
  refine ev_iload rfl rfl ?_
  refine ev_callV rfl rfl rfl rfl (Nat.le_of_ble_eq_true rfl) (Nat.le_of_ble_eq_true rfl) ?_ (hq := kt_0 n am_T66)
  refine c_X9_hasCabinet am_T66 hC _ ?_
  change am_ev _ _ _ _ (_ :: _) _ _ _
  refine ev_if_neB (p2 := 14) rfl rfl (fun cnd8 => ?_) (fun cnd8 => ?_)
  · skip
    have hP := cnd8
    obtain ⟨ep, hp⟩ := am_idx (wr3 (cp_w hC)) (by omega) cnd8
    clear cnd8
    generalize nn p = c at ep hp
    subst ep
    refine ev_aload rfl rfl ?_
    refine ev_getR (c := 11) (j := 2) rfl ?_ (hq := k_29 n)
    refine ev_getR (c := 9) (j := 1) rfl ?_ (hq := kt_0 n am_T66)
    refine ev_iload rfl rfl ?_
    refine ev_aldN rfl rfl ?_ (kr_cab (by omega)) (hq := kt_1 n am_T66)
    refine ev_astore rfl rfl (Nat.le_of_ble_eq_true rfl) ?_
    refine ev_iload rfl rfl ?_
    by_cases hsw : nI 0 ≤ w ∧ w ≤ nI 8
    · rw [if_pos (And.intro hP hsw), nn_nI (by omega)] at hQ
      obtain ⟨ew, hw9⟩ := am_rng (by decide) hsw
      generalize nn w = a at ew hw9 hQ
      subst ew
      rcases (show a = 0 ∨ a = 1 ∨ a = 2 ∨ a = 3 ∨ a = 4 ∨ a = 5 ∨ a = 6 ∨ a = 7 ∨ a = 8 by omega) with rfl | rfl | rfl | rfl | rfl | rfl | rfl | rfl | rfl
      · refine ev_tswC (p2 := 76) rfl (by first | rfl | decide) rfl ?_
        refine ev_aload rfl rfl ?_
        refine ev_getI (c := 1) (j := 0) rfl ?_ (hq := kt_cab n am_T66 (by omega))
        rw [cp_c (k := 0) (c := c) hC (by omega) (by decide)]
        refine ev_iret rfl ?_
        exact hQ mem (FrC_refl _) hC
      · refine ev_tswC (p2 := 81) rfl (by first | rfl | decide) rfl ?_
        refine ev_aload rfl rfl ?_
        refine ev_getI (c := 1) (j := 1) rfl ?_ (hq := kt_cab n am_T66 (by omega))
        rw [cp_c1 hC (c := c) (by omega)]
        refine ev_iret rfl ?_
        have hz := hQ mem (FrC_refl _) hC
        change Q (some (.int (R (23 + 6 * c + 1)))) _ _ at hz
        rw [((cp_w hC).2.2.1 c hp).2.1.1] at hz
        exact hz
      · refine ev_tswC (p2 := 86) rfl (by first | rfl | decide) rfl ?_
        refine ev_aload rfl rfl ?_
        refine ev_getI (c := 1) (j := 2) rfl ?_ (hq := kt_cab n am_T66 (by omega))
        rw [cp_c2 hC (c := c) (by omega)]
        refine ev_iret rfl ?_
        have hz := hQ mem (FrC_refl _) hC
        change Q (some (.int (R (23 + 6 * c + 2)))) _ _ at hz
        rw [((cp_w hC).2.2.1 c hp).2.2.1.1] at hz
        exact hz
      · refine ev_tswC (p2 := 91) rfl (by first | rfl | decide) rfl ?_
        refine ev_aload rfl rfl ?_
        refine ev_getI (c := 1) (j := 3) rfl ?_ (hq := kt_cab n am_T66 (by omega))
        rw [cp_c (k := 3) (c := c) hC (by omega) (by decide)]
        refine ev_iret rfl ?_
        exact hQ mem (FrC_refl _) hC
      · refine ev_tswC (p2 := 96) rfl (by first | rfl | decide) rfl ?_
        refine ev_aload rfl rfl ?_
        refine ev_aload rfl rfl ?_
        refine ev_getR (c := 11) (j := 2) rfl ?_ (hq := k_29 n)
        refine ev_getI (c := 9) (j := 7) rfl ?_ (hq := kt_0 n am_T66)
        rw [cp_t7 hC]
        refine ev_callV rfl rfl rfl rfl (Nat.le_of_ble_eq_true rfl) (Nat.le_of_ble_eq_true rfl) ?_ (hq := kt_cab n am_T66 (by omega))
        refine c_X1_isNight am_T66 hC c hp ?_
        change am_ev _ _ _ _ [.int (ob (S_night R c))] _ _ _
        change am_ev _ _ _ _ (_ :: _) _ _ _
        refine ev_call rfl rfl ?_
        refine c_X11_bit _ (ob01 _) ?_
        change am_ev _ _ _ _ (_ :: _) _ _ _
        refine ev_iret rfl ?_
        exact hQ mem (FrC_refl _) hC
      · refine ev_tswC (p2 := 111) rfl (by first | rfl | decide) rfl ?_
        refine ev_aload rfl rfl ?_
        refine ev_getI (c := 1) (j := 4) rfl ?_ (hq := kt_cab n am_T66 (by omega))
        rw [cp_c (k := 4) (c := c) hC (by omega) (by decide)]
        refine ev_call rfl rfl ?_
        refine c_X11_bit _ (is01 ((cp_w hC).2.2.1 c hp).2.2.2.2.1) ?_
        change am_ev _ _ _ _ (_ :: _) _ _ _
        refine ev_iret rfl ?_
        exact hQ mem (FrC_refl _) hC
      · refine ev_tswC (p2 := 119) rfl (by first | rfl | decide) rfl ?_
        refine ev_aload rfl rfl ?_
        refine ev_getR (c := 11) (j := 2) rfl ?_ (hq := k_29 n)
        refine ev_iload rfl rfl ?_
        refine ev_callV rfl rfl rfl rfl (Nat.le_of_ble_eq_true rfl) (Nat.le_of_ble_eq_true rfl) ?_ (hq := kt_0 n am_T66)
        refine c_X9_due am_T66 hC _ (fun m2 h2 => ?_)
        have hC := cp_fr2 hC am_T66 h2
        change am_ev _ _ _ _ (_ :: _) _ _ _
        refine ev_iret rfl ?_
        have hz := hQ _ (FrC_sc h2) hC
        change Q (some (.int (S_drawn R (nI c) (nI 0)))) _ _ at hz
        unfold S_drawn at hz
        exact hz
      · refine ev_tswC (p2 := 128) rfl (by first | rfl | decide) rfl ?_
        refine ev_aload rfl rfl ?_
        refine ev_getR (c := 11) (j := 2) rfl ?_ (hq := k_29 n)
        refine ev_iload rfl rfl ?_
        refine ev_callV rfl rfl rfl rfl (Nat.le_of_ble_eq_true rfl) (Nat.le_of_ble_eq_true rfl) ?_ (hq := kt_0 n am_T66)
        refine c_X9_drawn am_T66 hC _ (fun m2 h2 => ?_)
        have hC := cp_fr2 hC am_T66 h2
        change am_ev _ _ _ _ (_ :: _) _ _ _
        refine ev_iret rfl ?_
        have hz := hQ _ (FrC_sc h2) hC
        change Q (some (.int (S_drawn R (nI c) (nI 1)))) _ _ at hz
        unfold S_drawn at hz
        exact hz
      · refine ev_tswC (p2 := 137) rfl (by first | rfl | decide) rfl ?_
        refine ev_aload rfl rfl ?_
        refine ev_getI (c := 1) (j := 5) rfl ?_ (hq := kt_cab n am_T66 (by omega))
        rw [cp_c (k := 5) (c := c) hC (by omega) (by decide)]
        refine ev_iret rfl ?_
        exact hQ mem (FrC_refl _) hC
    refine ev_tswC (p2 := 142) rfl (by rw [if_pos (show w.toInt < 0 ∨ 8 < w.toInt from am_nrng (by decide) hsw)]) rfl ?_
    refine ev_iconst (x := (-1000000001)) rfl rfl ?_
    refine ev_iret rfl ?_
    rw [if_neg (fun z => hsw z.2)] at hQ; exact hQ mem (FrC_refl _) hC
  · skip
    refine ev_iconst (x := (-1000000001)) rfl rfl ?_
    refine ev_iret rfl ?_
    rw [if_neg (fun z => cnd8 z.1)] at hQ; exact hQ mem (FrC_refl _) hC
theorem c_X11_jointTold {d n : Nat} {mem : am_M} {Q : am_P} {R : am_R} (hC : CplT 66 R mem) (p w : Int32) (hQ : ∀ m2 : am_M, FrC mem m2 → CplT 66 R m2 → Q (some (.int (X_jTold R p w))) (am_SK n) m2) : am_ex (d + 3) 86 [.ref 29, .int p, .int w] (am_SK n) mem Q := by
  have hb := wb_all (cp_w hC)
  unfold X_jTold at hQ
  refine ex_in (c0 := kc_X11_jointTold) rfl (L := [some (.ref 29), some (.int p), some (.int w), none]) rfl ?_
  refine ev_aload rfl rfl ?_
  refine ev_getR (c := 11) (j := 2) rfl ?_ (hq := k_29 n)
  refine ev_iload rfl rfl ?_
  refine ev_callV rfl rfl rfl rfl (Nat.le_of_ble_eq_true rfl) (Nat.le_of_ble_eq_true rfl) ?_ (hq := kt_0 n am_T66)
  refine c_X9_hasJoint am_T66 hC _ ?_
  change am_ev _ _ _ _ (_ :: _) _ _ _
  refine ev_if_neB (p2 := 14) rfl rfl (fun cnd8 => ?_) (fun cnd8 => ?_)
  · skip
    have hP := cnd8
    obtain ⟨ep, hp⟩ := am_idx (wr4 (cp_w hC)) (by omega) cnd8
    clear cnd8
    generalize nn p = c at ep hp
    subst ep
    refine ev_aload rfl rfl ?_
    refine ev_getR (c := 11) (j := 2) rfl ?_ (hq := k_29 n)
    refine ev_getR (c := 9) (j := 3) rfl ?_ (hq := kt_0 n am_T66)
    refine ev_iload rfl rfl ?_
    refine ev_aldN rfl rfl ?_ (kr_joint (by omega)) (hq := kt_2 n am_T66)
    refine ev_astore rfl rfl (Nat.le_of_ble_eq_true rfl) ?_
    refine ev_iload rfl rfl ?_
    by_cases hsw : nI 0 ≤ w ∧ w ≤ nI 4
    · rw [if_pos (And.intro hP hsw), nn_nI (by omega)] at hQ
      obtain ⟨ew, hw9⟩ := am_rng (by decide) hsw
      generalize nn w = a at ew hw9 hQ
      subst ew
      rcases (show a = 0 ∨ a = 1 ∨ a = 2 ∨ a = 3 ∨ a = 4 by omega) with rfl | rfl | rfl | rfl | rfl
      · refine ev_tswC (p2 := 60) rfl (by first | rfl | decide) rfl ?_
        refine ev_aload rfl rfl ?_
        refine ev_getI (c := 3) (j := 0) rfl ?_ (hq := kt_joint n am_T66 (by omega))
        rw [cp_j0 hC (j := c) (by omega)]
        refine ev_iret rfl ?_
        have hz := hQ mem (FrC_refl _) hC
        change Q (some (.int (R (41 + 3 * c)))) _ _ at hz
        rw [((cp_w hC).2.2.2.1 c hp).1.1] at hz
        exact hz
      · refine ev_tswC (p2 := 65) rfl (by first | rfl | decide) rfl ?_
        refine ev_aload rfl rfl ?_
        refine ev_getI (c := 3) (j := 1) rfl ?_ (hq := kt_joint n am_T66 (by omega))
        rw [cp_j1 hC (j := c) (by omega)]
        refine ev_iret rfl ?_
        exact hQ mem (FrC_refl _) hC
      · refine ev_tswC (p2 := 70) rfl (by first | rfl | decide) rfl ?_
        refine ev_aload rfl rfl ?_
        refine ev_getI (c := 3) (j := 2) rfl ?_ (hq := kt_joint n am_T66 (by omega))
        rw [cp_j2 hC (j := c) (by omega)]
        refine ev_iret rfl ?_
        exact hQ mem (FrC_refl _) hC
      · refine ev_tswC (p2 := 75) rfl (by first | rfl | decide) rfl ?_
        refine ev_aload rfl rfl ?_
        refine ev_getI (c := 3) (j := 3) rfl ?_ (hq := kt_joint n am_T66 (by omega))
        rw [cp_j3 hC (j := c) (by omega)]
        refine ev_call rfl rfl ?_
        refine c_X11_bit _ (is01 ((cp_w hC).2.2.2.1 c hp).2.2) ?_
        change am_ev _ _ _ _ (_ :: _) _ _ _
        refine ev_iret rfl ?_
        exact hQ mem (FrC_refl _) hC
      · refine ev_tswC (p2 := 83) rfl (by first | rfl | decide) rfl ?_
        refine ev_aload rfl rfl ?_
        refine ev_getR (c := 11) (j := 2) rfl ?_ (hq := k_29 n)
        refine ev_iload rfl rfl ?_
        refine ev_callV rfl rfl rfl rfl (Nat.le_of_ble_eq_true rfl) (Nat.le_of_ble_eq_true rfl) ?_ (hq := kt_0 n am_T66)
        refine c_X9_lampsAt am_T66 hC _ (fun m2 h2 => ?_)
        have hC := cp_fr2 hC am_T66 h2
        change am_ev _ _ _ _ (_ :: _) _ _ _
        refine ev_iret rfl ?_
        exact hQ _ (FrC_sc h2) hC
    refine ev_tswC (p2 := 92) rfl (by rw [if_pos (show w.toInt < 0 ∨ 4 < w.toInt from am_nrng (by decide) hsw)]) rfl ?_
    refine ev_iconst (x := (-1000000001)) rfl rfl ?_
    refine ev_iret rfl ?_
    rw [if_neg (fun z => hsw z.2)] at hQ; exact hQ mem (FrC_refl _) hC
  · skip
    refine ev_iconst (x := (-1000000001)) rfl rfl ?_
    refine ev_iret rfl ?_
    rw [if_neg (fun z => cnd8 z.1)] at hQ; exact hQ mem (FrC_refl _) hC
theorem c_X11_told {d n : Nat} {mem : am_M} {Q : am_P} {R : am_R} (hC : CplT 66 R mem) (p w : Int32) (hQ : ∀ m2 : am_M, FrC mem m2 → CplT 66 R m2 → Q (some (.int (X_told R p w))) (am_SK n) m2) : am_ex (d + 6) 88 [.ref 29, .int p, .int w] (am_SK n) mem Q := by
  have hb := wb_all (cp_w hC)
  unfold X_told at hQ
  refine ex_in (c0 := kc_X11_told) rfl (L := [some (.ref 29), some (.int p), some (.int w), none]) rfl ?_
  refine ev_aload rfl rfl ?_
  refine ev_getR (c := 11) (j := 2) rfl ?_ (hq := k_29 n)
  refine ev_iload rfl rfl ?_
  refine ev_callV rfl rfl rfl rfl (Nat.le_of_ble_eq_true rfl) (Nat.le_of_ble_eq_true rfl) ?_ (hq := kt_0 n am_T66)
  refine c_X9_hasLamp am_T66 hC _ ?_
  change am_ev _ _ _ _ (_ :: _) _ _ _
  refine ev_if_neB (p2 := 14) rfl rfl (fun cnd8 => ?_) (fun cnd8 => ?_)
  · skip
    have hP := cnd8
    obtain ⟨ep, hp⟩ := am_idx (wr5 (cp_w hC)) (by omega) cnd8
    clear cnd8
    generalize nn p = c at ep hp
    subst ep
    refine ev_aload rfl rfl ?_
    refine ev_getR (c := 11) (j := 2) rfl ?_ (hq := k_29 n)
    refine ev_getR (c := 9) (j := 5) rfl ?_ (hq := kt_0 n am_T66)
    refine ev_iload rfl rfl ?_
    refine ev_aldN rfl rfl ?_ (kr_lamp (by omega)) (hq := kt_3 n am_T66)
    refine ev_astore rfl rfl (Nat.le_of_ble_eq_true rfl) ?_
    refine ev_iload rfl rfl ?_
    by_cases hsw : nI 0 ≤ w ∧ w ≤ nI 12
    · rw [if_pos (And.intro hP hsw), nn_nI (by omega)] at hQ
      obtain ⟨ew, hw9⟩ := am_rng (by decide) hsw
      generalize nn w = a at ew hw9 hQ
      subst ew
      rcases (show a = 0 ∨ a = 1 ∨ a = 2 ∨ a = 3 ∨ a = 4 ∨ a = 5 ∨ a = 6 ∨ a = 7 ∨ a = 8 ∨ a = 9 ∨ a = 10 ∨ a = 11 ∨ a = 12 by omega) with rfl | rfl | rfl | rfl | rfl | rfl | rfl | rfl | rfl | rfl | rfl | rfl | rfl
      · refine ev_tswC (p2 := 92) rfl (by first | rfl | decide) rfl ?_
        refine ev_aload rfl rfl ?_
        refine ev_getI (c := 4) (j := 0) rfl ?_ (hq := kt_lamp n am_T66 (by omega))
        rw [cp_l0 hC (l := c) (by omega)]
        refine ev_iret rfl ?_
        have hz := hQ mem (FrC_refl _) hC
        change Q (some (.int (R (77 + 7 * c)))) _ _ at hz
        rw [((cp_w hC).2.2.2.2.1 c hp).1.1] at hz
        exact hz
      · refine ev_tswC (p2 := 97) rfl (by first | rfl | decide) rfl ?_
        refine ev_aload rfl rfl ?_
        refine ev_getI (c := 4) (j := 1) rfl ?_ (hq := kt_lamp n am_T66 (by omega))
        rw [cp_l1 hC (l := c) (by omega)]
        refine ev_iret rfl ?_
        have hz := hQ mem (FrC_refl _) hC
        change Q (some (.int (R (77 + 7 * c + 1)))) _ _ at hz
        rw [((cp_w hC).2.2.2.2.1 c hp).2.1.1] at hz
        exact hz
      · refine ev_tswC (p2 := 102) rfl (by first | rfl | decide) rfl ?_
        refine ev_aload rfl rfl ?_
        refine ev_getI (c := 4) (j := 2) rfl ?_ (hq := kt_lamp n am_T66 (by omega))
        rw [cp_l (k := 2) (l := c) hC (by omega) (by decide)]
        refine ev_iret rfl ?_
        exact hQ mem (FrC_refl _) hC
      · refine ev_tswC (p2 := 107) rfl (by first | rfl | decide) rfl ?_
        refine ev_aload rfl rfl ?_
        refine ev_getI (c := 4) (j := 3) rfl ?_ (hq := kt_lamp n am_T66 (by omega))
        rw [cp_l (k := 3) (l := c) hC (by omega) (by decide)]
        refine ev_iret rfl ?_
        exact hQ mem (FrC_refl _) hC
      · refine ev_tswC (p2 := 112) rfl (by first | rfl | decide) rfl ?_
        refine ev_aload rfl rfl ?_
        refine ev_getI (c := 4) (j := 4) rfl ?_ (hq := kt_lamp n am_T66 (by omega))
        rw [cp_l (k := 4) (l := c) hC (by omega) (by decide)]
        refine ev_iret rfl ?_
        exact hQ mem (FrC_refl _) hC
      · refine ev_tswC (p2 := 117) rfl (by first | rfl | decide) rfl ?_
        refine ev_aload rfl rfl ?_
        refine ev_getI (c := 4) (j := 5) rfl ?_ (hq := kt_lamp n am_T66 (by omega))
        rw [cp_l (k := 5) (l := c) hC (by omega) (by decide)]
        refine ev_call rfl rfl ?_
        refine c_X11_bit _ (is01 ((cp_w hC).2.2.2.2.1 c hp).2.2.2.2.2.1) ?_
        change am_ev _ _ _ _ (_ :: _) _ _ _
        refine ev_iret rfl ?_
        exact hQ mem (FrC_refl _) hC
      · refine ev_tswC (p2 := 125) rfl (by first | rfl | decide) rfl ?_
        refine ev_aload rfl rfl ?_
        refine ev_getR (c := 11) (j := 2) rfl ?_ (hq := k_29 n)
        refine ev_aload rfl rfl ?_
        refine ev_callV rfl rfl rfl rfl (Nat.le_of_ble_eq_true rfl) (Nat.le_of_ble_eq_true rfl) ?_ (hq := kt_0 n am_T66)
        refine c_X9_isFed am_T66 hC c (by omega) ?_
        change am_ev _ _ _ _ (_ :: _) _ _ _
        refine ev_call rfl rfl ?_
        refine c_X11_bit _ (ob01 _) ?_
        change am_ev _ _ _ _ (_ :: _) _ _ _
        refine ev_iret rfl ?_
        exact hQ mem (FrC_refl _) hC
      · refine ev_tswC (p2 := 137) rfl (by first | rfl | decide) rfl ?_
        refine ev_aload rfl rfl ?_
        refine ev_getR (c := 11) (j := 2) rfl ?_ (hq := k_29 n)
        refine ev_aload rfl rfl ?_
        refine ev_callV rfl rfl rfl rfl (Nat.le_of_ble_eq_true rfl) (Nat.le_of_ble_eq_true rfl) ?_ (hq := kt_0 n am_T66)
        refine c_X9_should am_T66 hC c (by omega) ?_
        change am_ev _ _ _ _ (_ :: _) _ _ _
        refine ev_call rfl rfl ?_
        refine c_X11_bit _ (ob01 _) ?_
        change am_ev _ _ _ _ (_ :: _) _ _ _
        refine ev_iret rfl ?_
        exact hQ mem (FrC_refl _) hC
      · refine ev_tswC (p2 := 149) rfl (by first | rfl | decide) rfl ?_
        refine ev_aload rfl rfl ?_
        refine ev_getR (c := 11) (j := 2) rfl ?_ (hq := k_29 n)
        refine ev_aload rfl rfl ?_
        refine ev_callV rfl rfl rfl rfl (Nat.le_of_ble_eq_true rfl) (Nat.le_of_ble_eq_true rfl) ?_ (hq := kt_0 n am_T66)
        refine c_X9_burns am_T66 hC c (by omega) ?_
        change am_ev _ _ _ _ (_ :: _) _ _ _
        refine ev_call rfl rfl ?_
        refine c_X11_bit _ (ob01 _) ?_
        change am_ev _ _ _ _ (_ :: _) _ _ _
        refine ev_iret rfl ?_
        exact hQ mem (FrC_refl _) hC
      · refine ev_tswC (p2 := 161) rfl (by first | rfl | decide) rfl ?_
        refine ev_aload rfl rfl ?_
        refine ev_getR (c := 11) (j := 2) rfl ?_ (hq := k_29 n)
        refine ev_aload rfl rfl ?_
        refine ev_callV rfl rfl rfl rfl (Nat.le_of_ble_eq_true rfl) (Nat.le_of_ble_eq_true rfl) ?_ (hq := kt_0 n am_T66)
        refine c_X9_draws am_T66 hC c (by omega) (fun m2 h2 => ?_)
        have hC := cp_fr2 hC am_T66 h2
        change am_ev _ _ _ _ (_ :: _) _ _ _
        refine ev_iret rfl ?_
        exact hQ _ (FrC_sc h2) hC
      · refine ev_tswC (p2 := 170) rfl (by first | rfl | decide) rfl ?_
        refine ev_aload rfl rfl ?_
        refine ev_getI (c := 4) (j := 0) rfl ?_ (hq := kt_lamp n am_T66 (by omega))
        rw [cp_l0 hC (l := c) (by omega)]
        refine ev_call rfl rfl ?_
        refine c_X11_wearOf _ ((cp_w hC).2.2.2.2.1 c hp).1.2 ?_
        change am_ev _ _ _ _ (_ :: _) _ _ _
        refine ev_iret rfl ?_
        have hz := hQ mem (FrC_refl _) hC
        change Q (some (.int (S_wear (R (77 + 7 * c))))) _ _ at hz
        rw [((cp_w hC).2.2.2.2.1 c hp).1.1] at hz
        exact hz
      · refine ev_tswC (p2 := 178) rfl (by first | rfl | decide) rfl ?_
        refine ev_aload rfl rfl ?_
        refine ev_getR (c := 11) (j := 2) rfl ?_ (hq := k_29 n)
        refine ev_aload rfl rfl ?_
        refine ev_callV rfl rfl rfl rfl (Nat.le_of_ble_eq_true rfl) (Nat.le_of_ble_eq_true rfl) ?_ (hq := kt_0 n am_T66)
        refine c_X9_life am_T66 hC c (by omega) (fun m2 h2 => ?_)
        have hC := cp_fr2 hC am_T66 h2
        change am_ev _ _ _ _ (_ :: _) _ _ _
        refine ev_iret rfl ?_
        exact hQ _ (FrC_sc h2) hC
      · refine ev_tswC (p2 := 187) rfl (by first | rfl | decide) rfl ?_
        refine ev_aload rfl rfl ?_
        refine ev_getI (c := 4) (j := 6) rfl ?_ (hq := kt_lamp n am_T66 (by omega))
        rw [cp_l (k := 6) (l := c) hC (by omega) (by decide)]
        refine ev_call rfl rfl ?_
        refine c_X11_bit _ (is01 ((cp_w hC).2.2.2.2.1 c hp).2.2.2.2.2.2) ?_
        change am_ev _ _ _ _ (_ :: _) _ _ _
        refine ev_iret rfl ?_
        exact hQ mem (FrC_refl _) hC
    refine ev_tswC (p2 := 195) rfl (by rw [if_pos (show w.toInt < 0 ∨ 12 < w.toInt from am_nrng (by decide) hsw)]) rfl ?_
    refine ev_iconst (x := (-1000000001)) rfl rfl ?_
    refine ev_iret rfl ?_
    rw [if_neg (fun z => hsw z.2)] at hQ; exact hQ mem (FrC_refl _) hC
  · skip
    refine ev_iconst (x := (-1000000001)) rfl rfl ?_
    refine ev_iret rfl ?_
    rw [if_neg (fun z => cnd8 z.1)] at hQ; exact hQ mem (FrC_refl _) hC
theorem c_X11_light {d n : Nat} {mem : am_M} {Q : am_P} {R : am_R} (hC : CplT 66 R mem) (p : Int32) (hQ : ∀ m2 : am_M, FrC mem m2 → CplT 66 R m2 → Q (some (.int (X_light R p))) (am_SK n) m2) : am_ex (d + 8) 96 [.ref 29, .int p] (am_SK n) mem Q := by
  have hb := wb_all (cp_w hC)
  unfold X_light at hQ
  refine ex_in (c0 := kc_X11_light) rfl (L := [some (.ref 29), some (.int p)]) rfl ?_
  refine ev_iload rfl rfl ?_
  refine ev_if_lt (p2 := 20) rfl rfl (fun cnd1 => ?_) (fun cnd1 => ?_)
  · skip
    refine ev_iconst (x := (-1000000001)) rfl rfl ?_
    refine ev_iret rfl ?_
    first
    | (rw [if_pos ((nI_pb (b := 3) (by decide)).mpr (And.intro cnd1 (lt_nle cnd6)))] at hQ; exact hQ _ (FrC_sc h2) hC)
    | (rw [if_neg (fun z => nlt_le cnd6 ((nI_pb (b := 3) (by decide)).mp z).2)] at hQ; exact hQ mem (FrC_refl _) hC)
    | (rw [if_neg (fun z => ((nI_pb (b := 3) (by decide)).mp z).1 cnd1)] at hQ; exact hQ mem (FrC_refl _) hC)
  · skip
    refine ev_iload rfl rfl ?_
    refine ev_iconst (x := nI 4) rfl rfl ?_
    refine ev_icmp_ge (p2 := 20) rfl rfl (fun cnd6 => ?_) (fun cnd6 => ?_)
    · skip
      refine ev_iconst (x := (-1000000001)) rfl rfl ?_
      refine ev_iret rfl ?_
      first
      | (rw [if_pos ((nI_pb (b := 3) (by decide)).mpr (And.intro cnd1 (lt_nle cnd6)))] at hQ; exact hQ _ (FrC_sc h2) hC)
      | (rw [if_neg (fun z => nlt_le cnd6 ((nI_pb (b := 3) (by decide)).mp z).2)] at hQ; exact hQ mem (FrC_refl _) hC)
      | (rw [if_neg (fun z => ((nI_pb (b := 3) (by decide)).mp z).1 cnd1)] at hQ; exact hQ mem (FrC_refl _) hC)
    · skip
      refine ev_aload rfl rfl ?_
      refine ev_getR (c := 11) (j := 2) rfl ?_ (hq := k_29 n)
      refine ev_iload rfl rfl ?_
      refine ev_callV rfl rfl rfl rfl (Nat.le_of_ble_eq_true rfl) (Nat.le_of_ble_eq_true rfl) ?_ (hq := kt_0 n am_T66)
      refine c_X9_lightOf am_T66 hC _ (fun m2 h2 => ?_)
      have hC := cp_fr2 hC am_T66 h2
      change am_ev _ _ _ _ (_ :: _) _ _ _
      refine ev_goto (p2 := 22) rfl rfl ?_
      refine ev_iret rfl ?_
      first
      | (rw [if_pos ((nI_pb (b := 3) (by decide)).mpr (And.intro cnd1 (lt_nle cnd6)))] at hQ; exact hQ _ (FrC_sc h2) hC)
      | (rw [if_neg (fun z => nlt_le cnd6 ((nI_pb (b := 3) (by decide)).mp z).2)] at hQ; exact hQ mem (FrC_refl _) hC)
      | (rw [if_neg (fun z => ((nI_pb (b := 3) (by decide)).mp z).1 cnd1)] at hQ; exact hQ mem (FrC_refl _) hC)
theorem c_X11_why {d n : Nat} {mem : am_M} {Q : am_P} {R : am_R} (hC : CplT 66 R mem) (k : Int32) (hQ : ∀ m2 : am_M, FrC mem m2 → CplT 66 R m2 → Q (some (.int (X_why R k))) (am_SK n) m2) : am_ex (d + 1) 102 [.ref 29, .int k] (am_SK n) mem Q := by
  have hb := wb_all (cp_w hC)
  unfold X_why at hQ
  refine ex_in (c0 := kc_X11_why) rfl (L := [some (.ref 29), some (.int k)]) rfl ?_
  refine ev_iload rfl rfl ?_
  refine ev_if_lt (p2 := 21) rfl rfl (fun cnd1 => ?_) (fun cnd1 => ?_)
  · skip
    refine ev_iconst (x := (-1000000001)) rfl rfl ?_
    refine ev_iret rfl ?_
    first
    | (rw [if_neg (fun z => nlt_le cnd6 ((nI_pb (b := 3) (by decide)).mp z).2)] at hQ; exact hQ mem (FrC_refl _) hC)
    | (rw [if_neg (fun z => ((nI_pb (b := 3) (by decide)).mp z).1 cnd1)] at hQ; exact hQ mem (FrC_refl _) hC)
    | exact hQ mem (FrC_refl _) hC
  · skip
    refine ev_iload rfl rfl ?_
    refine ev_iconst (x := nI 4) rfl rfl ?_
    refine ev_icmp_ge (p2 := 21) rfl rfl (fun cnd6 => ?_) (fun cnd6 => ?_)
    · skip
      refine ev_iconst (x := (-1000000001)) rfl rfl ?_
      refine ev_iret rfl ?_
      first
      | (rw [if_neg (fun z => nlt_le cnd6 ((nI_pb (b := 3) (by decide)).mp z).2)] at hQ; exact hQ mem (FrC_refl _) hC)
      | (rw [if_neg (fun z => ((nI_pb (b := 3) (by decide)).mp z).1 cnd1)] at hQ; exact hQ mem (FrC_refl _) hC)
      | exact hQ mem (FrC_refl _) hC
    · skip
      have hP := (nI_pb (b := 3) (by decide)).mpr (And.intro cnd1 (lt_nle cnd6))
      rw [if_pos hP] at hQ
      obtain ⟨ep, hp⟩ := am_rng (by decide) hP
      clear cnd1 cnd6
      generalize nn k = c at ep hp hQ
      subst ep
      refine ev_aload rfl rfl ?_
      refine ev_getR (c := 11) (j := 2) rfl ?_ (hq := k_29 n)
      refine ev_getR (c := 9) (j := 15) rfl ?_ (hq := kt_0 n am_T66)
      refine ev_iload rfl rfl ?_
      refine ev_ialdN rfl rfl ?_ (hq := kt_6 n am_T66)
      rw [cp_k hC (key := c) (by omega)]
      refine ev_goto (p2 := 23) rfl rfl ?_
      refine ev_iret rfl ?_
      first
      | (rw [if_neg (fun z => nlt_le cnd6 ((nI_pb (b := 3) (by decide)).mp z).2)] at hQ; exact hQ mem (FrC_refl _) hC)
      | (rw [if_neg (fun z => ((nI_pb (b := 3) (by decide)).mp z).1 cnd1)] at hQ; exact hQ mem (FrC_refl _) hC)
      | exact hQ mem (FrC_refl _) hC
theorem c_X11_textTold {d n : Nat} {mem : am_M} {Q : am_P} {R : am_R} (hC : CplT 66 R mem) (p w : Int32) (hQ : ∀ m2 : am_M, FrC mem m2 → CplT 66 R m2 → Q (some (.int (X_textTold R p w))) (am_SK n) m2) : am_ex (d + 1) 101 [.ref 29, .int p, .int w] (am_SK n) mem Q := by
  have hb := wb_all (cp_w hC)
  unfold X_textTold at hQ
  refine ex_in (c0 := kc_X11_textTold) rfl (L := [some (.ref 29), some (.int p), some (.int w)]) rfl ?_
  refine ev_iload rfl rfl ?_
  refine ev_if_lt (p2 := 15) rfl rfl (fun cnd1 => ?_) (fun cnd1 => ?_)
  · skip
    refine ev_iconst (x := (-1000000001)) rfl rfl ?_
    refine ev_iret rfl ?_
    first
    | (rw [if_neg (fun z => nlt_le z.1.1 cnd1)] at hQ; exact hQ mem (FrC_refl _) hC)
    | (rw [if_neg (fun z => cnd12 ((am_pred (wr6 (cp_w hC)) (by omega)).mp z.1.2))] at hQ; exact hQ mem (FrC_refl _) hC)
  · skip
    refine ev_iload rfl rfl ?_
    refine ev_aload rfl rfl ?_
    refine ev_getR (c := 11) (j := 2) rfl ?_ (hq := k_29 n)
    refine ev_getI (c := 9) (j := 14) rfl ?_ (hq := kt_0 n am_T66)
    rw [cp_t14 hC]
    refine ev_icmp_lt (p2 := 18) rfl rfl (fun cnd12 => ?_) (fun cnd12 => ?_)
    · skip
      have hP : P_i p (R 6) := And.intro (le_nlt cnd1) ((am_pred (wr6 (cp_w hC)) (by omega)).mpr cnd12)
      obtain ⟨ep, hp⟩ := am_idx (wr6 (cp_w hC)) (by omega) hP
      clear cnd1 cnd12
      generalize nn p = c at ep hp
      subst ep
      have hB := cp_b hC hp
      refine ev_iload rfl rfl ?_
      by_cases hsw : nI 0 ≤ w ∧ w ≤ nI 1
      · rw [if_pos (And.intro hP hsw), nn_nI (by omega)] at hQ
        obtain ⟨ew, hw9⟩ := am_rng (by decide) hsw
        generalize nn w = a at ew hw9 hQ
        subst ew
        rcases (show a = 0 ∨ a = 1 by omega) with rfl | rfl
        · refine ev_lswC (p2 := 44) rfl (by first | rfl | decide) rfl ?_
          refine ev_aload rfl rfl ?_
          refine ev_getR (c := 11) (j := 0) rfl ?_ (hq := k_29 n)
          refine ev_getR (c := 0) (j := 0) rfl ?_ (hq := k_30 n)
          refine ev_iload rfl rfl ?_
          refine ev_aldN rfl rfl ?_ (kr_text (by omega)) (hq := k_31 n)
          refine ev_getI (c := 8) (j := 0) rfl ?_ (hq := kb_text n (by omega))
          rw [hB.1]
          refine ev_iret rfl ?_
          exact hQ mem (FrC_refl _) hC
        · refine ev_lswC (p2 := 57) rfl (by first | rfl | decide) rfl ?_
          refine ev_aload rfl rfl ?_
          refine ev_getR (c := 11) (j := 0) rfl ?_ (hq := k_29 n)
          refine ev_getR (c := 0) (j := 0) rfl ?_ (hq := k_30 n)
          refine ev_iload rfl rfl ?_
          refine ev_aldN rfl rfl ?_ (kr_text (by omega)) (hq := k_31 n)
          refine ev_getI (c := 8) (j := 1) rfl ?_ (hq := kb_text n (by omega))
          rw [hB.2.1]
          refine ev_iret rfl ?_
          exact hQ mem (FrC_refl _) hC
      have hd := am_nrng (b := 1) (by decide) hsw
      refine ev_lswC (p2 := 70) rfl (show (if (0 : Int) = w.toInt then (44 : Int) else if (1 : Int) = w.toInt then 57 else 70) = 70 by rw [if_neg (by omega), if_neg (by omega)]) rfl ?_
      refine ev_iconst (x := (-1000000001)) rfl rfl ?_
      refine ev_iret rfl ?_
      rw [if_neg (fun z => hsw z.2)] at hQ; exact hQ mem (FrC_refl _) hC
    · skip
      refine ev_iconst (x := (-1000000001)) rfl rfl ?_
      refine ev_iret rfl ?_
      first
      | (rw [if_neg (fun z => nlt_le z.1.1 cnd1)] at hQ; exact hQ mem (FrC_refl _) hC)
      | (rw [if_neg (fun z => cnd12 ((am_pred (wr6 (cp_w hC)) (by omega)).mp z.1.2))] at hQ; exact hQ mem (FrC_refl _) hC)
theorem c_X11_count {d n : Nat} {mem : am_M} {Q : am_P} {R : am_R} (hC : CplT 66 R mem) (w : Int32) (hQ : ∀ m2 : am_M, FrC mem m2 → CplT 66 R m2 → Q (some (.int (X_count R (mem 29 11) (mem 62 1) w))) (am_SK n) m2) : am_ex (d + 4) 125 [.ref 29, .int w] (am_SK n) mem Q := by
  have hb := wb_all (cp_w hC)
  unfold X_count at hQ
  refine ex_in (c0 := kc_X11_count) rfl (L := [some (.ref 29), some (.int w)]) rfl ?_
  refine ev_iload rfl rfl ?_
  by_cases hsw : nI 0 ≤ w ∧ w ≤ nI 12
  · rw [if_pos hsw] at hQ
    obtain ⟨ew, hw9⟩ := am_rng (by decide) hsw
    generalize nn w = a at ew hw9 hQ
    subst ew
    rcases (show a = 0 ∨ a = 1 ∨ a = 2 ∨ a = 3 ∨ a = 4 ∨ a = 5 ∨ a = 6 ∨ a = 7 ∨ a = 8 ∨ a = 9 ∨ a = 10 ∨ a = 11 ∨ a = 12 by omega) with rfl | rfl | rfl | rfl | rfl | rfl | rfl | rfl | rfl | rfl | rfl | rfl | rfl
    · refine ev_tswC (p2 := 68) rfl (by first | rfl | decide) rfl ?_
      refine ev_aload rfl rfl ?_
      refine ev_getR (c := 11) (j := 2) rfl ?_ (hq := k_29 n)
      refine ev_getI (c := 9) (j := 2) rfl ?_ (hq := kt_0 n am_T66)
      rw [cp_t2 hC]
      refine ev_iret rfl ?_
      have hz := hQ mem (FrC_refl _) hC
      change Q (some (.int (R 3))) _ _ at hz
      rw [wr3 (cp_w hC)] at hz
      exact hz
    · refine ev_tswC (p2 := 76) rfl (by first | rfl | decide) rfl ?_
      refine ev_aload rfl rfl ?_
      refine ev_getR (c := 11) (j := 2) rfl ?_ (hq := k_29 n)
      refine ev_getI (c := 9) (j := 4) rfl ?_ (hq := kt_0 n am_T66)
      rw [cp_t4 hC]
      refine ev_iret rfl ?_
      have hz := hQ mem (FrC_refl _) hC
      change Q (some (.int (R 4))) _ _ at hz
      rw [wr4 (cp_w hC)] at hz
      exact hz
    · refine ev_tswC (p2 := 84) rfl (by first | rfl | decide) rfl ?_
      refine ev_aload rfl rfl ?_
      refine ev_getR (c := 11) (j := 2) rfl ?_ (hq := k_29 n)
      refine ev_getI (c := 9) (j := 6) rfl ?_ (hq := kt_0 n am_T66)
      rw [cp_t6 hC]
      refine ev_iret rfl ?_
      have hz := hQ mem (FrC_refl _) hC
      change Q (some (.int (R 5))) _ _ at hz
      rw [wr5 (cp_w hC)] at hz
      exact hz
    · refine ev_tswC (p2 := 92) rfl (by first | rfl | decide) rfl ?_
      refine ev_aload rfl rfl ?_
      refine ev_getR (c := 11) (j := 2) rfl ?_ (hq := k_29 n)
      refine ev_callV rfl rfl rfl rfl (Nat.le_of_ble_eq_true rfl) (Nat.le_of_ble_eq_true rfl) ?_ (hq := kt_0 n am_T66)
      refine c_X9_lampsOut am_T66 hC  (fun m2 h2 => ?_)
      have hC := cp_fr2 hC am_T66 h2
      change am_ev _ _ _ _ (_ :: _) _ _ _
      refine ev_iret rfl ?_
      exact hQ _ (FrC_sc h2) hC
    · refine ev_tswC (p2 := 100) rfl (by first | rfl | decide) rfl ?_
      refine ev_aload rfl rfl ?_
      refine ev_getR (c := 11) (j := 2) rfl ?_ (hq := k_29 n)
      refine ev_callV rfl rfl rfl rfl (Nat.le_of_ble_eq_true rfl) (Nat.le_of_ble_eq_true rfl) ?_ (hq := kt_0 n am_T66)
      refine c_X9_brokenThings am_T66 hC  (fun m2 h2 => ?_)
      have hC := cp_fr2 hC am_T66 h2
      change am_ev _ _ _ _ (_ :: _) _ _ _
      refine ev_iret rfl ?_
      exact hQ _ (FrC_sc h2) hC
    · refine ev_tswC (p2 := 108) rfl (by first | rfl | decide) rfl ?_
      refine ev_aload rfl rfl ?_
      refine ev_getR (c := 11) (j := 2) rfl ?_ (hq := k_29 n)
      refine ev_getI (c := 9) (j := 14) rfl ?_ (hq := kt_0 n am_T66)
      rw [cp_t14 hC]
      refine ev_iret rfl ?_
      have hz := hQ mem (FrC_refl _) hC
      change Q (some (.int (R 6))) _ _ at hz
      rw [wr6 (cp_w hC)] at hz
      exact hz
    · refine ev_tswC (p2 := 116) rfl (by first | rfl | decide) rfl ?_
      refine ev_aload rfl rfl ?_
      refine ev_getR (c := 11) (j := 2) rfl ?_ (hq := k_29 n)
      refine ev_getI (c := 9) (j := 11) rfl ?_ (hq := kt_0 n am_T66)
      rw [cp_t11 hC]
      refine ev_iret rfl ?_
      have hz := hQ mem (FrC_refl _) hC
      change Q (some (.int (R 7))) _ _ at hz
      rw [wr7 (cp_w hC)] at hz
      exact hz
    · refine ev_tswC (p2 := 124) rfl (by first | rfl | decide) rfl ?_
      refine ev_aload rfl rfl ?_
      refine ev_getR (c := 11) (j := 2) rfl ?_ (hq := k_29 n)
      refine ev_getI (c := 9) (j := 13) rfl ?_ (hq := kt_0 n am_T66)
      rw [cp_t13 hC]
      refine ev_iret rfl ?_
      have hz := hQ mem (FrC_refl _) hC
      change Q (some (.int (R 8))) _ _ at hz
      rw [wr8 (cp_w hC)] at hz
      exact hz
    · refine ev_tswC (p2 := 132) rfl (by first | rfl | decide) rfl ?_
      refine ev_aload rfl rfl ?_
      refine ev_getR (c := 11) (j := 2) rfl ?_ (hq := k_29 n)
      refine ev_callV rfl rfl rfl rfl (Nat.le_of_ble_eq_true rfl) (Nat.le_of_ble_eq_true rfl) ?_ (hq := kt_0 n am_T66)
      refine c_X9_lampsToldDark am_T66 hC  (fun m2 h2 => ?_)
      have hC := cp_fr2 hC am_T66 h2
      change am_ev _ _ _ _ (_ :: _) _ _ _
      refine ev_iret rfl ?_
      exact hQ _ (FrC_sc h2) hC
    · refine ev_tswC (p2 := 140) rfl (by first | rfl | decide) rfl ?_
      refine ev_aload rfl rfl ?_
      refine ev_getR (c := 11) (j := 2) rfl ?_ (hq := k_29 n)
      refine ev_getI (c := 9) (j := 7) rfl ?_ (hq := kt_0 n am_T66)
      rw [cp_t7 hC]
      refine ev_iret rfl ?_
      have hz := hQ mem (FrC_refl _) hC
      change Q (some (.int (R 0))) _ _ at hz
      rw [wr0 (cp_w hC)] at hz
      exact hz
    · refine ev_tswC (p2 := 148) rfl (by first | rfl | decide) rfl ?_
      refine ev_aload rfl rfl ?_
      refine ev_getR (c := 11) (j := 2) rfl ?_ (hq := k_29 n)
      refine ev_getI (c := 9) (j := 8) rfl ?_ (hq := kt_0 n am_T66)
      rw [cp_t8 hC]
      refine ev_iret rfl ?_
      have hz := hQ mem (FrC_refl _) hC
      change Q (some (.int (R 1))) _ _ at hz
      rw [wr1 (cp_w hC)] at hz
      exact hz
    · refine ev_tswC (p2 := 156) rfl (by first | rfl | decide) rfl ?_
      refine ev_aload rfl rfl ?_
      refine ev_getI (c := 11) (j := 11) rfl ?_ (hq := k_29 n)
      refine ev_iret rfl ?_
      exact hQ mem (FrC_refl _) hC
    · refine ev_tswC (p2 := 161) rfl (by first | rfl | decide) rfl ?_
      refine ev_aload rfl rfl ?_
      refine ev_getR (c := 11) (j := 1) rfl ?_ (hq := k_29 n)
      refine ev_getI (c := 5) (j := 1) rfl ?_ (hq := k_62 n)
      refine ev_iret rfl ?_
      exact hQ mem (FrC_refl _) hC
  refine ev_tswC (p2 := 169) rfl (by rw [if_pos (show w.toInt < 0 ∨ 12 < w.toInt from am_nrng (by decide) hsw)]) rfl ?_
  refine ev_iconst (x := (-1000000001)) rfl rfl ?_
  refine ev_iret rfl ?_
  rw [if_neg hsw] at hQ; exact hQ mem (FrC_refl _) hC
theorem S_dk_eq {R : am_R} {t : Nat} (h : S_cnt R 3 (nn (R 6)) = some t) (k : Nat) : S_law R k = S_val R (S_F (R 0) (nI k) (nI 0)) t := by
  unfold S_law S_giv
  rw [h]
  rfl
def S_dj (R : am_R) : Nat → Nat → Int32 → Int32
  | 0, _, s => s
  | r + 1, k, s => S_dj R r (k + 1) (if S_law R k ≤ S_light R (nI k) then s else s ||| (nI 1 <<< (nI k &&& 31)))
theorem S_dj_some {R : am_R} {t : Nat} (h : S_cnt R 3 (nn (R 6)) = some t) : ∀ r k s, S_dj R r k s = S_dk R t r k s := by
  intro r
  induction r with
  | zero => intro k s; rfl
  | succ r ih =>
    intro k s
    unfold S_dj S_dk
    rw [ih]
    unfold S_dkF
    rw [S_dk_eq h]
    split
    · rw [show s ||| nI 0 = s from Int32.or_zero]
    · rfl
theorem l_X11_tooDark {d n : Nat} {Q : am_P} {R : am_R} (r : Nat) : ∀ (mem : am_M) (hC : CplT 66 R mem) (k : Nat) (sum : Int32) (hk : k + r = 4) (hQ : ∀ m2 : am_M, FrC mem m2 → CplT 66 R m2 → Q (some (.int (S_dj R r k sum))) (am_SK n) m2), am_ev kc_X11_tooDark (d + 7) 4 [some (.ref 29), some (.int sum), some (.int (nI k))] [] (am_SK n) mem Q := by
  induction r with
  | zero =>
    intro mem hC k sum hk hQ
    have hb := wb_all (cp_w hC)
    refine ev_iload rfl rfl ?_
    refine ev_iconst (x := nI 4) rfl rfl ?_
    refine ev_icmp_geN (p2 := 40) rfl rfl (fun cnd6 => ?_) (fun cnd6 => ?_)
    · skip
      refine ev_iload rfl rfl ?_
      refine ev_iret rfl ?_
      exact hQ mem (FrC_refl _) hC
    · omega
  | succ r ih =>
    intro mem hC k sum hk hQ
    have hb := wb_all (cp_w hC)
    unfold S_dj at hQ
    refine ev_iload rfl rfl ?_
    refine ev_iconst (x := nI 4) rfl rfl ?_
    refine ev_icmp_geN (p2 := 40) rfl rfl (fun cnd6 => ?_) (fun cnd6 => ?_)
    · omega
    · skip
      refine ev_aload rfl rfl ?_
      refine ev_getR (c := 11) (j := 2) rfl ?_ (hq := k_29 n)
      refine ev_iload rfl rfl ?_
      refine ev_callV rfl rfl rfl rfl (Nat.le_of_ble_eq_true rfl) (Nat.le_of_ble_eq_true rfl) ?_ (hq := kt_0 n am_T66)
      refine c_X9_lightOf am_T66 hC _ (fun m2 h2 => ?_)
      have hC := cp_fr2 hC am_T66 h2
      change am_ev _ _ _ _ (_ :: _) _ _ _
      refine ev_aload rfl rfl ?_
      refine ev_getR (c := 11) (j := 2) rfl ?_ (hq := k_29 n)
      refine ev_iload rfl rfl ?_
      refine ev_callV rfl rfl rfl rfl (Nat.le_of_ble_eq_true rfl) (Nat.le_of_ble_eq_true rfl) ?_ (hq := kt_0 n am_T66)
      refine c_X9_law am_T66 hC k (fun m3 h3 => ?_)
      have hC := cp_fr2 hC am_T66 h3
      change am_ev _ _ _ _ (_ :: _) _ _ _
      refine ev_icmp_ge (p2 := 34) rfl rfl (fun cnd25 => ?_) (fun cnd25 => ?_)
      · skip
        refine ev_iincN rfl rfl rfl ?_
        refine ev_goto (p2 := 4) rfl rfl ?_
        first
        | (rw [if_pos (show S_law R k ≤ S_light R (nI k) from cnd25)] at hQ; exact ih _ hC (k + 1) _ (by omega) (fun m4 h4 h5 => hQ m4 (FrC_tr (FrC_tr (FrC_sc h2) (FrC_sc h3)) h4) h5))
        | (rw [if_neg (show ¬ S_law R k ≤ S_light R (nI k) from cnd25)] at hQ; exact ih _ hC (k + 1) _ (by omega) (fun m4 h4 h5 => hQ m4 (FrC_tr (FrC_tr (FrC_sc h2) (FrC_sc h3)) h4) h5))
      · skip
        refine ev_iload rfl rfl ?_
        refine ev_iconst (x := nI 1) rfl rfl ?_
        refine ev_iload rfl rfl ?_
        refine ev_ishl rfl ?_
        refine ev_ior rfl ?_
        refine ev_istore rfl rfl (Nat.le_of_ble_eq_true rfl) ?_
        refine ev_iincN rfl rfl rfl ?_
        refine ev_goto (p2 := 4) rfl rfl ?_
        first
        | (rw [if_pos (show S_law R k ≤ S_light R (nI k) from cnd25)] at hQ; exact ih _ hC (k + 1) _ (by omega) (fun m4 h4 h5 => hQ m4 (FrC_tr (FrC_tr (FrC_sc h2) (FrC_sc h3)) h4) h5))
        | (rw [if_neg (show ¬ S_law R k ≤ S_light R (nI k) from cnd25)] at hQ; exact ih _ hC (k + 1) _ (by omega) (fun m4 h4 h5 => hQ m4 (FrC_tr (FrC_tr (FrC_sc h2) (FrC_sc h3)) h4) h5))
theorem c_X11_tooDark {d n : Nat} {mem : am_M} {Q : am_P} {R : am_R} (hC : CplT 66 R mem) (hQ : ∀ m2 : am_M, FrC mem m2 → CplT 66 R m2 → Q (some (.int (S_dj R 4 0 (nI 0)))) (am_SK n) m2) : am_ex (d + 8) 97 [.ref 29] (am_SK n) mem Q := by
  refine ex_in (c0 := kc_X11_tooDark) rfl (L := [some (.ref 29), none, none]) rfl ?_
  refine ev_iconst (x := nI 0) rfl rfl ?_
  refine ev_istore rfl rfl (Nat.le_of_ble_eq_true rfl) ?_
  refine ev_iconst (x := nI 0) rfl rfl ?_
  refine ev_istore rfl rfl (Nat.le_of_ble_eq_true rfl) ?_
  exact l_X11_tooDark 4 mem hC 0 (nI 0) rfl hQ
