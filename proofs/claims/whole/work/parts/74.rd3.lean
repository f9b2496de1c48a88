/-! the round: the reference -/
def gR (R : am_R) (x : Nat) : Nat := if x < nn (R 8) then nn (R (41 + 3 * nn (R (17 + x)) + 1)) else 0
theorem gR_eq {R : am_R} {x : Nat} (hx : x < nn (R 8)) : gR R x = nn (R (41 + 3 * nn (R (17 + x)) + 1)) := by
  unfold gR
  rw [if_pos hx]
theorem stb {R : am_R} (hw : wfR R) {x : Nat} (hx : x < nn (R 8)) : R (17 + x) = nI (nn (R (17 + x))) ∧ nn (R (17 + x)) < nn (R 4) := hw.2.2.2.2.2.2 x hx
theorem gR_lt {R : am_R} (hw : wfR R) (x : Nat) : gR R x < 3031 := by
  unfold gR
  split
  · exact (hw.2.2.2.1 _ (stb hw (by assumption)).2).2.1.2
  · omega
theorem gR_R {R : am_R} (hw : wfR R) {x : Nat} (hx : x < nn (R 8)) : R (41 + 3 * nn (R (17 + x)) + 1) = nI (gR R x) := by
  rw [gR_eq hx]
  exact (hw.2.2.2.1 _ (stb hw hx).2).2.1.1
theorem gf_drop {p : List Nat} {k : Nat} (h : k < p.length) : p.drop k = gf p k :: p.drop (k + 1) := by
  rw [List.drop_eq_getElem_cons h]
  show p[k] :: p.drop (k + 1) = (p[k]?).getD 0 :: p.drop (k + 1)
  rw [List.getElem?_eq_getElem h]
  rfl
theorem l_wor {d n : Nat} {Q : am_P} {R : am_R} {mem : am_M} {p : List Nat} {h : Nat} (hR : mem 222 = R) (hw : wfR R) (hF : ∀ j, j < nn (R 8) → mem 243 j = nI (gf p j)) (hp : p.length = nn (R 8)) (hP : ∀ j, j < nn (R 8) → gf p j < nn (R 8)) (hh : h < 3031) (r : Nat) : ∀ (k a y : Nat) (hk : k + r = nn (R 8)) (ha : a < 3031) (x5 : Option Value) (hQ : Q (some (.int (nI (y + wl (gR R) h a (p.drop k))))) (am_SK n) mem), am_ev kc_X12_wayOfRow (d + 1) 7 [some (.ref 221), some (.int (nI h)), some (.int (nI a)), some (.int (nI y)), some (.int (nI k)), x5] [] (am_SK n) mem Q := by
  induction r with
  | zero =>
    intro k a y hk ha x5 hQ
    have hb := wb_all hw
    have hkk : k = nn (R 8) := by omega
    subst hkk
    rw [← hp, List.drop_length] at hQ
    refine ev_iload rfl rfl ?_
    refine ev_aload rfl rfl ?_
    refine ev_getR (c := 12) (j := 0) rfl ?_ (hq := k_221 n)
    refine ev_iconst (x := nI 8) rfl rfl ?_
    refine ev_ialdN rfl rfl ?_ (hq := k_222 n)
    rw [show mem 222 (8) = nI (nn (R 8)) by rw [hR]; (repeat rw [upd_ne (by omega)]); exact wr8 hw]
    refine ev_icmp_geN (p2 := 59) rfl rfl (fun cnd16 => ?_) (fun cnd16 => ?_)
    · skip
      refine ev_iload rfl rfl ?_
      refine ev_iload rfl rfl ?_
      refine ev_iload rfl rfl ?_
      refine ev_call rfl rfl ?_
      refine c_X12_wayBetween (by omega) (by omega) ?_
      change am_ev _ _ _ _ [_, _] _ _ _
      refine ev_iaddN rfl ?_
      refine ev_iret rfl ?_
      exact hQ
    · omega
  | succ r ih =>
    intro k a y hk ha x5 hQ
    have hb := wb_all hw
    have hk2 : k < nn (R 8) := by omega
    have hx := hP k hk2
    have hs := stb hw hx
    have hg := gR_R hw hx
    have hl := gR_lt hw (gf p k)
    rw [gf_drop (show k < p.length by omega)] at hQ
    have e : y + wl (gR R) h a (gf p k :: p.drop (k + 1)) = y + wy a (gR R (gf p k)) + wl (gR R) h (gR R (gf p k)) (p.drop (k + 1)) := by
      show y + (wy a (gR R (gf p k)) + wl (gR R) h (gR R (gf p k)) (p.drop (k + 1))) = _
      omega
    rw [e] at hQ
    refine ev_iload rfl rfl ?_
    refine ev_aload rfl rfl ?_
    refine ev_getR (c := 12) (j := 0) rfl ?_ (hq := k_221 n)
    refine ev_iconst (x := nI 8) rfl rfl ?_
    refine ev_ialdN rfl rfl ?_ (hq := k_222 n)
    rw [show mem 222 (8) = nI (nn (R 8)) by rw [hR]; (repeat rw [upd_ne (by omega)]); exact wr8 hw]
    refine ev_icmp_geN (p2 := 59) rfl rfl (fun cnd16 => ?_) (fun cnd16 => ?_)
    · omega
    · skip
      refine ev_aload rfl rfl ?_
      refine ev_aload rfl rfl ?_
      refine ev_getR (c := 12) (j := 0) rfl ?_ (hq := k_221 n)
      refine ev_iconst (x := nI 17) rfl rfl ?_
      refine ev_aload rfl rfl ?_
      refine ev_getR (c := 12) (j := 32) rfl ?_ (hq := k_221 n)
      refine ev_iload rfl rfl ?_
      refine ev_ialdN rfl rfl ?_ (hq := k_243 n)
      rw [hF k hk2]
      refine ev_iaddN rfl ?_
      refine ev_ialdN rfl rfl ?_ (hq := k_222 n)
      rw [show mem 222 (17 + gf p k) = nI (nn (R (17 + gf p k))) from (congrFun hR _).trans hs.1]
      refine ev_iconst (x := nI 1) rfl rfl ?_
      refine ev_call rfl rfl ?_
      refine r_joint3 hR (nn (R (17 + gf p k))) 1 (by omega) hg ?_
      change am_ev _ _ _ _ [_] _ _ _
      refine ev_istore rfl rfl (Nat.le_of_ble_eq_true rfl) ?_
      refine ev_iload rfl rfl ?_
      refine ev_iload rfl rfl ?_
      refine ev_iload rfl rfl ?_
      refine ev_call rfl rfl ?_
      refine c_X12_wayBetween (by omega) (by omega) ?_
      change am_ev _ _ _ _ [_, _] _ _ _
      refine ev_iaddN rfl ?_
      refine ev_istore rfl rfl (Nat.le_of_ble_eq_true rfl) ?_
      refine ev_iload rfl rfl ?_
      refine ev_istore rfl rfl (Nat.le_of_ble_eq_true rfl) ?_
      refine ev_iincN rfl rfl rfl ?_
      refine ev_goto (p2 := 7) rfl rfl ?_
      exact ih (k + 1) (gR R (gf p k)) (y + wy a (gR R (gf p k))) (by omega) hl _ hQ
theorem c_X12_wayOfRow {d n : Nat} {mem : am_M} {Q : am_P} {R : am_R} {p : List Nat} {h : Nat} (hR : mem 222 = R) (hw : wfR R) (hF : ∀ j, j < nn (R 8) → mem 243 j = nI (gf p j)) (hp : p.length = nn (R 8)) (hP : ∀ j, j < nn (R 8) → gf p j < nn (R 8)) (hh : h < 3031) (hQ : Q (some (.int (nI (wl (gR R) h h p)))) (am_SK n) mem) : am_ex (d + 2) 215 [.ref 221, .int (nI h)] (am_SK n) mem Q := by
  refine ex_in (c0 := kc_X12_wayOfRow) rfl (L := [some (.ref 221), some (.int (nI h)), none, none, none, none]) rfl ?_
  refine ev_iload rfl rfl ?_
  refine ev_istore rfl rfl (Nat.le_of_ble_eq_true rfl) ?_
  refine ev_iconst (x := nI 0) rfl rfl ?_
  refine ev_istore rfl rfl (Nat.le_of_ble_eq_true rfl) ?_
  refine ev_iconst (x := nI 0) rfl rfl ?_
  refine ev_istore rfl rfl (Nat.le_of_ble_eq_true rfl) ?_
  exact l_wor hR hw hF hp hP hh _ 0 h 0 (Nat.zero_add _) hh _ (by rw [Nat.zero_add]; exact hQ)
def FrQ (mem m2 : am_M) : Prop := ∀ q k, q ≠ 243 → q ≠ 244 → ¬ (q = 221 ∧ k = 34) → m2 q k = mem q k
theorem FrQ_refl (mem : am_M) : FrQ mem mem := fun _ _ _ _ _ => rfl
theorem FrQ_tr {a b c : am_M} (h1 : FrQ a b) (h2 : FrQ b c) : FrQ a c := fun q k e1 e2 e3 => (h2 q k e1 e2 e3).trans (h1 q k e1 e2 e3)
theorem FrQ_row {a b : am_M} (h : FrQ a b) {q : Nat} (h1 : q ≠ 243) (h2 : q ≠ 244) (h3 : q ≠ 221) : b q = a q := funext fun k => h q k h1 h2 (fun z => h3 z.1)
theorem FrQ_up {a b : am_M} {q k : Nat} {x : Int32} (h : b = am_up a q k x) (hq : q = 243 ∨ q = 244 ∨ (q = 221 ∧ k = 34)) : FrQ a b := by
  intro q2 k2 e1 e2 e3
  subst h
  unfold am_up
  split
  · rename_i e
    subst e
    rcases hq with e | e | e
    · exact absurd e e1
    · exact absurd e e2
    · rw [e.2, upd_ne (fun z => e3 ⟨e.1, z⟩)]
  · rfl
