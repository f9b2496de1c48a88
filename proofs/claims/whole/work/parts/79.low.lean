/-! what lies below 29 is never written -/
def am_ok (mem : am_M) : Option am_N → Prop
  | some (.inl (_, _, _, sk', mem')) => 29 ≤ sk'.length ∧ ∀ q, q < 29 → mem' q = mem q
  | _ => True
theorem am_ok_go {nx : Nat} {L : am_L} {st : List Value} {sk' : am_K} {mem m2 : am_M} (h : 29 ≤ sk'.length) (hm : ∀ q, q < 29 → m2 q = mem q) : am_ok mem (am_go nx L st sk' m2) := ⟨h, hm⟩
theorem lo_up {mem : am_M} {q k : Nat} {x : Int32} (h : 29 ≤ q) : ∀ q2, q2 < 29 → am_up mem q k x q2 = mem q2 := by
  intro q2 h2
  unfold am_up
  rw [if_neg (by omega)]
theorem lo_z {mem : am_M} {q : Nat} (h : 29 ≤ q) : ∀ q2, q2 < 29 → am_z mem q q2 = mem q2 := by
  intro q2 h2
  unfold am_z
  rw [if_neg (by omega)]
theorem lo_cp {mem : am_M} {a b sp dp m : Nat} (h : 29 ≤ b) : ∀ q2, q2 < 29 → am_cp mem a b sp dp m q2 = mem q2 := fun q2 h2 => am_cp_ne (by omega)
section LO
variable {nx : Nat} {L : am_L} {st : List Value} {sk : am_K} {mem : am_M}
theorem ok_am_i1 (f : Int32 → Int32) (hs : 29 ≤ sk.length) : am_ok mem (am_i1 f nx L st sk mem) := by
  unfold am_i1
  (repeat' split) <;> first
    | trivial
    | exact am_ok_go hs (fun _ _ => rfl)
theorem ok_am_i2 (f : Int32 → Int32 → Int32) (hs : 29 ≤ sk.length) : am_ok mem (am_i2 f nx L st sk mem) := by
  unfold am_i2
  (repeat' split) <;> first
    | trivial
    | exact am_ok_go hs (fun _ _ => rfl)
theorem ok_am_i2z (f : Int32 → Int32 → Int32) (hs : 29 ≤ sk.length) : am_ok mem (am_i2z f nx L st sk mem) := by
  unfold am_i2z
  (repeat' split) <;> first
    | trivial
    | exact am_ok_go hs (fun _ _ => rfl)
theorem ok_am_ild (k : Nat) (hs : 29 ≤ sk.length) : am_ok mem (am_ild k nx L st sk mem) := by
  unfold am_ild
  (repeat' split) <;> first
    | trivial
    | exact am_ok_go hs (fun _ _ => rfl)
theorem ok_am_ist (k : Nat) (hs : 29 ≤ sk.length) : am_ok mem (am_ist k nx L st sk mem) := by
  unfold am_ist
  (repeat' split) <;> first
    | trivial
    | exact am_ok_go hs (fun _ _ => rfl)
    | exact am_ok_go hs (lo_up (by rename_i hh _; exact hh.2.1))
    | exact am_ok_go hs (lo_up (by rename_i hh; exact hh.2.2.1))
    | exact am_ok_go hs (lo_up (by omega))
theorem ok_am_ald  (hs : 29 ≤ sk.length) : am_ok mem (am_ald nx L st sk mem) := by
  unfold am_ald
  (repeat' split) <;> first
    | trivial
    | exact am_ok_go hs (fun _ _ => rfl)
theorem ok_am_ast  (hs : 29 ≤ sk.length) : am_ok mem (am_ast nx L st sk mem) := by
  unfold am_ast
  (repeat' split) <;> first
    | trivial
    | exact am_ok_go hs (fun _ _ => rfl)
    | exact am_ok_go (by rw [List.length_set]; exact hs) (fun _ _ => rfl)
theorem ok_am_get (f : Nat) (hs : 29 ≤ sk.length) : am_ok mem (am_get f nx L st sk mem) := by
  unfold am_get
  (repeat' split) <;> first
    | trivial
    | exact am_ok_go hs (fun _ _ => rfl)
theorem ok_am_put (f : Nat) (hs : 29 ≤ sk.length) : am_ok mem (am_put f nx L st sk mem) := by
  unfold am_put
  (repeat' split) <;> first
    | trivial
    | exact am_ok_go hs (fun _ _ => rfl)
    | exact am_ok_go hs (lo_up (by rename_i hh _; exact hh.2.1))
    | exact am_ok_go hs (lo_up (by rename_i hh; exact hh.2.2.1))
    | exact am_ok_go hs (lo_up (by omega))
theorem ok_am_putR (f : Nat) (hs : 29 ≤ sk.length) : am_ok mem (am_putR f nx L st sk mem) := by
  unfold am_putR
  (repeat' split) <;> first
    | trivial
    | exact am_ok_go hs (fun _ _ => rfl)
    | exact am_ok_go (by rw [List.length_set]; exact hs) (fun _ _ => rfl)
theorem ok_am_alen  (hs : 29 ≤ sk.length) : am_ok mem (am_alen nx L st sk mem) := by
  unfold am_alen
  (repeat' split) <;> first
    | trivial
    | exact am_ok_go hs (fun _ _ => rfl)
theorem ok_am_new (c : Nat) (hs : 29 ≤ sk.length) : am_ok mem (am_new c nx L st sk mem) := by
  unfold am_new
  (repeat' split) <;> first
    | trivial
    | exact am_ok_go hs (fun _ _ => rfl)
    | exact am_ok_go (by rw [List.length_append]; omega) (lo_z hs)
theorem ok_am_newa (c : Nat) (hs : 29 ≤ sk.length) : am_ok mem (am_newa c nx L st sk mem) := by
  unfold am_newa
  (repeat' split) <;> first
    | trivial
    | exact am_ok_go hs (fun _ _ => rfl)
    | exact am_ok_go (by rw [List.length_append]; omega) (lo_z hs)
theorem ok_am_newq (c : Nat) (hs : 29 ≤ sk.length) : am_ok mem (am_newq c nx L st sk mem) := by
  unfold am_newq
  (repeat' split) <;> first
    | trivial
    | exact am_ok_go hs (fun _ _ => rfl)
    | exact am_ok_go (by rw [List.length_append]; omega) (lo_z hs)
theorem ok_am_inv (k : Nat) : am_ok mem (am_inv k st) := by
  unfold am_inv
  (repeat' split) <;> trivial
theorem ok_am_invV (k : Nat) : am_ok mem (am_invV k st sk) := by
  unfold am_invV
  (repeat' split) <;> first
    | trivial
    | exact ok_am_inv _
theorem ok_am_copy  (hs : 29 ≤ sk.length) : am_ok mem (am_copy nx L st sk mem) := by
  unfold am_copy
  (repeat' split) <;> first
    | trivial
    | exact am_ok_go hs (fun _ _ => rfl)
    | exact am_ok_go hs (lo_cp (by rename_i hh; exact hh.2.2.2.1))
theorem ok_am_ilo (i : Nat) (hs : 29 ≤ sk.length) : am_ok mem (am_ilo i nx L st sk mem) := by
  unfold am_ilo
  (repeat' split) <;> first
    | trivial
    | exact am_ok_go hs (fun _ _ => rfl)
theorem ok_am_alo (i : Nat) (hs : 29 ≤ sk.length) : am_ok mem (am_alo i nx L st sk mem) := by
  unfold am_alo
  (repeat' split) <;> first
    | trivial
    | exact am_ok_go hs (fun _ _ => rfl)
theorem ok_am_iso (i : Nat) (hs : 29 ≤ sk.length) : am_ok mem (am_iso i nx L st sk mem) := by
  unfold am_iso
  (repeat' split) <;> first
    | trivial
    | exact am_ok_go hs (fun _ _ => rfl)
theorem ok_am_aso (i : Nat) (hs : 29 ≤ sk.length) : am_ok mem (am_aso i nx L st sk mem) := by
  unfold am_aso
  (repeat' split) <;> first
    | trivial
    | exact am_ok_go hs (fun _ _ => rfl)
theorem ok_am_inc (i : Nat) (c : Int) (hs : 29 ≤ sk.length) : am_ok mem (am_inc i c nx L st sk mem) := by
  unfold am_inc
  (repeat' split) <;> first
    | trivial
    | exact am_ok_go hs (fun _ _ => rfl)
theorem ok_am_if1 (c : ClassFile.Cond) (t : Int) (hs : 29 ≤ sk.length) : am_ok mem (am_if1 c t nx L st sk mem) := by
  unfold am_if1
  split
  · exact am_ok_go hs (fun _ _ => rfl)
  · trivial
theorem ok_am_if2 (c : ClassFile.Cond) (t : Int) (hs : 29 ≤ sk.length) : am_ok mem (am_if2 c t nx L st sk mem) := by
  unfold am_if2
  split
  · exact am_ok_go hs (fun _ _ => rfl)
  · trivial
theorem ok_am_tsw (d lo hi : Int) (ts : Array Int) (hs : 29 ≤ sk.length) : am_ok mem (am_tsw d lo hi ts L st sk mem) := by
  unfold am_tsw
  (repeat' split) <;> first
    | trivial
    | exact am_ok_go hs (fun _ _ => rfl)
theorem ok_am_lsw (d : Int) (ps : Array (Int × Int)) (hs : 29 ≤ sk.length) : am_ok mem (am_lsw d ps L st sk mem) := by
  unfold am_lsw
  (repeat' split) <;> first
    | trivial
    | exact am_ok_go hs (fun _ _ => rfl)
theorem ok_stp (ins : Instr) (hs : 29 ≤ sk.length) : am_ok mem (am_stp ins nx L st sk mem) := by
  unfold am_stp
  split <;> first
    | trivial
    | exact am_ok_go hs (fun _ _ => rfl)
    | exact ok_am_i2 _ hs
    | exact ok_am_i1 _ hs
    | exact ok_am_i2z _ hs
    | exact ok_am_ilo _ hs
    | exact ok_am_alo _ hs
    | exact ok_am_iso _ hs
    | exact ok_am_aso _ hs
    | exact ok_am_inc _ _ hs
    | exact ok_am_get _ hs
    | exact ok_am_put _ hs
    | exact ok_am_putR _ hs
    | exact ok_am_ild _ hs
    | exact ok_am_ist _ hs
    | exact ok_am_ald hs
    | exact ok_am_ast hs
    | exact ok_am_alen hs
    | exact ok_am_new _ hs
    | exact ok_am_newq _ hs
    | exact ok_am_inv _
    | exact ok_am_invV _
    | exact ok_am_copy hs
    | exact ok_am_if1 _ _ hs
    | exact ok_am_if2 _ _ hs
    | exact ok_am_tsw _ _ _ _ hs
    | exact ok_am_lsw _ _ hs
    | ((repeat' split) <;> first | trivial | exact am_ok_go hs (fun _ _ => rfl) | exact ok_am_newa _ hs)
end LO
def am_lowC (call : am_CT) : Prop := ∀ k as sk mem (Q : am_P), 29 ≤ sk.length → call k as sk mem Q → call k as sk mem (fun v a b => Q v a b ∧ 29 ≤ a.length ∧ ∀ q, q < 29 → b q = mem q)
theorem am_run_low {code : am_C} {call : am_CT} (hm : am_monoC call) (hc : am_lowC call) {Q : am_P} : ∀ (n pc : Nat) (L : am_L) (st : List Value) (sk : am_K) (mem : am_M), 29 ≤ sk.length → am_run code call n pc L st sk mem Q → am_run code call n pc L st sk mem (fun v a b => Q v a b ∧ 29 ≤ a.length ∧ ∀ q, q < 29 → b q = mem q)
  | 0, _, _, _, _, _, _, h => h
  | n + 1, pc, L, st, sk, mem, hs, h => by
    unfold am_run at h ⊢
    split at h
    · exact h.elim
    · rename_i ins nx hat
      have hok := ok_stp (nx := nx) (L := L) (st := st) (mem := mem) ins hs
      split at h
      · exact h.elim
      · rename_i hst
        rw [hst] at hok
        exact am_run_mono hm (fun v a b h2 => ⟨h2.1, h2.2.1, fun q hq => (h2.2.2 q hq).trans (hok.2 q hq)⟩) n _ _ _ _ _ (am_run_low hm hc n _ _ _ _ _ hok.1 h)
      · refine hm _ _ _ _ _ _ (fun v a b h2 => ?_) (hc _ _ _ _ _ hs h)
        exact am_run_mono hm (fun v a b h3 => ⟨h3.1, h3.2.1, fun q hq => (h3.2.2 q hq).trans (h2.2.2 q hq)⟩) n _ _ _ _ _ (am_run_low hm hc n _ _ _ _ _ h2.2.1 h2.1)
      · exact ⟨h, hs, fun _ _ => rfl⟩
theorem am_ex_low : ∀ d, am_lowC (am_ex d)
  | 0 => fun _ _ _ _ _ _ h => h
  | d + 1 => fun k as sk mem Q hs h => by
    obtain ⟨n, h⟩ := h
    exact ⟨n, am_run_low (am_ex_mono d) (am_ex_low d) n _ _ _ _ _ hs h⟩
theorem pub_use {xs : am_R} {d n kc kr : Nat} {mem : am_M} {Q : am_P} {ac ar : List Value} (hp : ∀ Q : am_P, (∀ (rv : Int32) (m1 : am_M), RefA xs d n kr ar rv m1 → Q (some (.int rv)) (am_SK n) m1) → am_ex d kc ac (am_SK n) mem Q) (hQ : ∀ (rv : Int32) (m1 : am_M), m1 1 = mem 1 → RefA xs d n kr ar rv m1 → Q (some (.int rv)) (am_SK n) m1) : am_ex d kc ac (am_SK n) mem Q := by
  have h := am_ex_low d _ _ _ _ _ (show 29 ≤ (am_SK n).length from Nat.le_trans (show 29 ≤ 223 by decide) (List.getElem?_eq_some_iff.mp (k_222 n)).1) (hp (fun v a b => ∃ rv, v = some (.int rv) ∧ a = am_SK n ∧ RefA xs d n kr ar rv b) (fun rv m1 h => ⟨rv, rfl, rfl, h⟩))
  refine am_ex_mono d _ _ _ _ _ _ (fun v a b h2 => ?_) h
  obtain ⟨⟨rv, rfl, rfl, h3⟩, _, h4⟩ := h2
  exact hQ rv b (h4 1 (by decide)) h3
