/-! the reference: what a lamp draws -/
def S_drawK (R : am_R) (l : Nat) (p : Int32) : Nat → Int32
  | 1 => p * S_dim R (R (77 + 7 * l + 3)) / nI 100
  | 2 => p / nI 2
  | 3 => p * S_dim R (R (77 + 7 * l + 3)) / nI 100 - p * S_dim R (R (77 + 7 * l + 3)) / nI 100 / nI 3
  | 4 => nI 3 * (p / nI 2)
  | 5 => p + R (77 + 7 * l + 4) / nI 1000
  | _ => p
def S_draw (R : am_R) (l : Nat) : Int32 := S_drawK R l (R (77 + 7 * l + 2)) (nn (R (77 + 7 * l)))
theorem c_X12_draws {d n : Nat} {mem : am_M} {Q : am_P} (hw : wfR (mem 222)) (hT : wfTs (mem 222)) (l : Nat) (hl : l < nn (mem 222 5)) (hQ : ∀ m2 : am_M, (∀ q, q ≠ 232 → q ≠ 233 → m2 q = mem q) → Q (some (.int (S_draw (mem 222) l))) (am_SK n) m2) : am_ex (d + 5) 160 [.ref 221, .int (nI l)] (am_SK n) mem Q := by
  have hr5 : nn (mem 222 5) < 17 := hw.2.1.2.2.1.2
  obtain ⟨⟨e1, g1⟩, -⟩ := hw.2.2.2.2.1 l hl
  unfold S_draw at hQ
  generalize nn (mem 222 (77 + 7 * l)) = kd at e1 g1 hQ
  refine ex_in (c0 := kc_X12_draws) rfl (L := [some (.ref 221), some (.int (nI l)), none, none]) rfl ?_
  refine ev_aload rfl rfl ?_
  refine ev_iload rfl rfl ?_
  refine ev_iconst (x := nI 2) rfl rfl ?_
  refine ev_call rfl rfl ?_
  refine c_X12_lamp7 (a := l) (w := 2) (by omega) ?_
  change am_ev _ _ _ _ (_ :: _) _ _ _
  refine ev_istore rfl rfl (Nat.le_of_ble_eq_true rfl) ?_
  refine ev_aload rfl rfl ?_
  refine ev_iload rfl rfl ?_
  refine ev_iconst (x := nI 0) rfl rfl ?_
  refine ev_call rfl rfl ?_
  refine c_X12_lamp7 (a := l) (w := 0) (by omega) ?_
  rw [show mem 222 (77 + 7 * l + 0) = nI kd from e1]
  change am_ev _ _ _ _ (_ :: _) _ _ _
  rcases (show kd = 0 ∨ kd = 1 ∨ kd = 2 ∨ kd = 3 ∨ kd = 4 ∨ kd = 5 by omega) with rfl | rfl | rfl | rfl | rfl | rfl
  · refine ev_tswC (p2 := 109) rfl (by first | rfl | decide) rfl ?_
    refine ev_iload rfl rfl ?_
    refine ev_iret rfl ?_
    exact hQ mem (fun _ _ _ => rfl)
  · refine ev_tswC (p2 := 48) rfl (by first | rfl | decide) rfl ?_
    refine ev_iload rfl rfl ?_
    refine ev_aload rfl rfl ?_
    refine ev_aload rfl rfl ?_
    refine ev_iload rfl rfl ?_
    refine ev_iconst (x := nI 3) rfl rfl ?_
    refine ev_call rfl rfl ?_
    refine c_X12_lamp7 (a := l) (w := 3) (by omega) ?_
    change am_ev _ _ _ _ (_ :: _) _ _ _
    refine ev_call rfl rfl ?_
    refine c_X12_dimBy hw hT _ (fun m2 h2 => ?_)
    change am_ev _ _ _ _ (_ :: _) _ _ _
    refine ev_imul rfl ?_
    refine ev_iconst (x := nI 100) rfl rfl ?_
    refine ev_idiv rfl ?_
    refine ev_iret rfl ?_
    exact hQ m2 h2
  · refine ev_tswC (p2 := 64) rfl (by first | rfl | decide) rfl ?_
    refine ev_iload rfl rfl ?_
    refine ev_iconst (x := nI 2) rfl rfl ?_
    refine ev_idiv rfl ?_
    refine ev_iret rfl ?_
    exact hQ mem (fun _ _ _ => rfl)
  · refine ev_tswC (p2 := 68) rfl (by first | rfl | decide) rfl ?_
    refine ev_iload rfl rfl ?_
    refine ev_aload rfl rfl ?_
    refine ev_aload rfl rfl ?_
    refine ev_iload rfl rfl ?_
    refine ev_iconst (x := nI 3) rfl rfl ?_
    refine ev_call rfl rfl ?_
    refine c_X12_lamp7 (a := l) (w := 3) (by omega) ?_
    change am_ev _ _ _ _ (_ :: _) _ _ _
    refine ev_call rfl rfl ?_
    refine c_X12_dimBy hw hT _ (fun m2 h2 => ?_)
    change am_ev _ _ _ _ (_ :: _) _ _ _
    refine ev_imul rfl ?_
    refine ev_iconst (x := nI 100) rfl rfl ?_
    refine ev_idiv rfl ?_
    refine ev_istore rfl rfl (Nat.le_of_ble_eq_true rfl) ?_
    refine ev_iload rfl rfl ?_
    refine ev_iload rfl rfl ?_
    refine ev_iconst (x := nI 3) rfl rfl ?_
    refine ev_idiv rfl ?_
    refine ev_isub rfl ?_
    refine ev_iret rfl ?_
    exact hQ m2 h2
  · refine ev_tswC (p2 := 90) rfl (by first | rfl | decide) rfl ?_
    refine ev_iconst (x := nI 3) rfl rfl ?_
    refine ev_iload rfl rfl ?_
    refine ev_iconst (x := nI 2) rfl rfl ?_
    refine ev_idiv rfl ?_
    refine ev_imul rfl ?_
    refine ev_iret rfl ?_
    exact hQ mem (fun _ _ _ => rfl)
  · refine ev_tswC (p2 := 96) rfl (by first | rfl | decide) rfl ?_
    refine ev_iload rfl rfl ?_
    refine ev_aload rfl rfl ?_
    refine ev_iload rfl rfl ?_
    refine ev_iconst (x := nI 4) rfl rfl ?_
    refine ev_call rfl rfl ?_
    refine c_X12_lamp7 (a := l) (w := 4) (by omega) ?_
    change am_ev _ _ _ _ (_ :: _) _ _ _
    refine ev_iconst (x := nI 1000) rfl rfl ?_
    refine ev_idiv rfl ?_
    refine ev_iadd rfl ?_
    refine ev_iret rfl ?_
    exact hQ mem (fun _ _ _ => rfl)
