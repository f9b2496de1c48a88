/-! RULES OF THE SMALL MACHINE: one instruction each, goal first -/
def am_ev (code : am_C) (d pc : Nat) (L : am_L) (st : List Value) (sk : am_K) (mem : am_M) (Q : am_P) : Prop := ∃ n, am_run code (am_ex d) n pc L st sk mem Q
def am_b (p : Prop) [Decidable p] : Int32 := if p then 1 else 0
theorem am_b01 (p : Prop) [Decidable p] : am_b p = 0 ∨ am_b p = 1 := by
  unfold am_b
  split
  · exact Or.inr rfl
  · exact Or.inl rfl
theorem am_b_eq {p q : Prop} [Decidable p] [Decidable q] (h : p ↔ q) : am_b p = am_b q := by
  unfold am_b
  by_cases hp : p
  · rw [if_pos hp, if_pos (h.mp hp)]
  · rw [if_neg hp, if_neg (fun z => hp (h.mpr z))]
theorem am_b0 {p : Prop} [Decidable p] : am_b p = 0 ↔ ¬ p := by
  unfold am_b
  split
  · exact ⟨fun h => absurd h (by decide), fun h => absurd (by assumption) h⟩
  · exact ⟨fun _ => by assumption, fun _ => rfl⟩
theorem am_bn0 {p : Prop} [Decidable p] : ¬ am_b p = 0 ↔ p := by
  rw [am_b0]
  exact Decidable.not_not
theorem am_bt {p : Prop} [Decidable p] (h : p) : am_b p = 1 := if_pos h
theorem am_bf {p : Prop} [Decidable p] (h : ¬ p) : am_b p = 0 := if_neg h
theorem am_leaf {Q : am_P} {v v' : Int32} {sk : am_K} {mem : am_M} (h : Q (some (.int v)) sk mem) (e : v' = v) : Q (some (.int v')) sk mem := e ▸ h
theorem am_leaf2 {Q : am_P} {v v' : Int32} {sk : am_K} {mem mem' : am_M} (h : Q (some (.int v)) sk mem) (e : v' = v) (e2 : mem' = mem) : Q (some (.int v')) sk mem' := e ▸ e2 ▸ h
section EV
variable {code : am_C} {d pc nx : Nat} {L : am_L} {st : List Value} {sk : am_K} {mem : am_M} {Q : am_P}
theorem ev_go {ins : Instr} {pc' : Nat} {L' : am_L} {st' : List Value} {sk' : am_K} {mem' : am_M} (hc : am_at code pc = some (ins, nx)) (hs : am_stp ins nx L st sk mem = some (.inl (pc', L', st', sk', mem'))) (k : am_ev code d pc' L' st' sk' mem' Q) : am_ev code d pc L st sk mem Q := by
  obtain ⟨n, h⟩ := k
  refine ⟨n + 1, ?_⟩
  unfold am_run
  simp only [hc, hs]
  exact h
theorem ev_ret {ins : Instr} {v : Option Value} (hc : am_at code pc = some (ins, nx)) (hs : am_stp ins nx L st sk mem = some (.inr (.inr v))) (h : Q v sk mem) : am_ev code d pc L st sk mem Q := by
  refine ⟨1, ?_⟩
  unfold am_run
  simp only [hc, hs]
  exact h
theorem ev_call {ins : Instr} {k : Nat} {as r : List Value} (hc : am_at code pc = some (ins, nx)) (hs : am_stp ins nx L st sk mem = some (.inr (.inl (k, as, r)))) (h : am_ex d k as sk mem (fun v sk' mem' => am_ev code d nx L (v.toList ++ r) sk' mem' Q)) : am_ev code d pc L st sk mem Q := by
  obtain ⟨v, sk', mem', ⟨n, h1⟩, h2⟩ := am_ex_det d _ _ _ _ _ h
  refine ⟨n + 1, ?_⟩
  unfold am_run
  simp only [hc, hs]
  refine am_ex_mono d _ _ _ _ _ _ (fun v' a b e => ?_) h2
  obtain ⟨rfl, rfl, rfl⟩ := e
  exact h1
theorem ex_in {k : Nat} {as : List Value} {c0 : am_C} (hc : am_code k = c0) (hL : am_L0 k as = L) (h : am_ev c0 d 0 L [] sk mem Q) : am_ex (d + 1) k as sk mem Q := by
  obtain ⟨n, h⟩ := h
  refine ⟨n, ?_⟩
  rw [hc, hL]
  exact h
theorem ev_mono {Q' : am_P} (h : am_ev code d pc L st sk mem Q) (hQ : ∀ v a b, Q v a b → Q' v a b) : am_ev code d pc L st sk mem Q' := by
  obtain ⟨n, h⟩ := h
  exact ⟨n, am_run_mono (am_ex_mono d) hQ n _ _ _ _ _ h⟩
theorem ev_iconst {v : Int} {x : Int32} (hc : am_at code pc = some (.iconst v, nx)) (hv : Int32.ofInt v = x) (k : am_ev code d nx L (.int x :: st) sk mem Q) : am_ev code d pc L st sk mem Q := by
  subst hv
  exact ev_go hc rfl k
theorem ev_iload {i : Nat} {x : Int32} (hc : am_at code pc = some (.iload i, nx)) (hl : L[i]? = some (some (.int x))) (k : am_ev code d nx L (.int x :: st) sk mem Q) : am_ev code d pc L st sk mem Q := ev_go hc (by simp only [am_stp, am_ilo, hl, am_go]) k
theorem ev_aload {i q : Nat} (hc : am_at code pc = some (.aload i, nx)) (hl : L[i]? = some (some (.ref q))) (k : am_ev code d nx L (.ref q :: st) sk mem Q) (hq : q ≠ 28 := by first | decide | omega) : am_ev code d pc L st sk mem Q := ev_go hc (by simp only [am_stp, am_alo, hl, am_go, if_neg hq]) k
theorem ev_istore {i : Nat} {x : Int32} {L' : am_L} (hc : am_at code pc = some (.istore i, nx)) (hl : L.set i (some (.int x)) = L') (hi : i < L.length) (k : am_ev code d nx L' st sk mem Q) : am_ev code d pc L (.int x :: st) sk mem Q := by
  subst hl
  exact ev_go hc (by simp only [am_stp, am_iso, am_go, if_pos hi]) k
theorem ev_astore {i q : Nat} {L' : am_L} (hc : am_at code pc = some (.astore i, nx)) (hl : L.set i (some (.ref q)) = L') (hi : i < L.length) (k : am_ev code d nx L' st sk mem Q) (hq : q ≠ 28 := by first | decide | omega) : am_ev code d pc L (.ref q :: st) sk mem Q := by
  subst hl
  exact ev_go hc (by simp only [am_stp, am_aso, am_go, if_pos (And.intro hi hq)]) k
theorem ev_iinc {i : Nat} {c : Int} {x y : Int32} {L' : am_L} (hc : am_at code pc = some (.iinc i c, nx)) (hx : L[i]? = some (some (.int x))) (hy : x + Int32.ofInt c = y) (hl : L.set i (some (.int y)) = L') (k : am_ev code d nx L' st sk mem Q) : am_ev code d pc L st sk mem Q := by
  subst hy; subst hl
  exact ev_go hc (by simp only [am_stp, am_inc, hx, am_go]) k
theorem ev_iadd {x y : Int32} (hc : am_at code pc = some (.iadd, nx)) (k : am_ev code d nx L (.int (x + y) :: st) sk mem Q) : am_ev code d pc L (.int y :: .int x :: st) sk mem Q := ev_go hc rfl k
theorem ev_isub {x y : Int32} (hc : am_at code pc = some (.isub, nx)) (k : am_ev code d nx L (.int (x - y) :: st) sk mem Q) : am_ev code d pc L (.int y :: .int x :: st) sk mem Q := ev_go hc rfl k
theorem ev_imul {x y : Int32} (hc : am_at code pc = some (.imul, nx)) (k : am_ev code d nx L (.int (x * y) :: st) sk mem Q) : am_ev code d pc L (.int y :: .int x :: st) sk mem Q := ev_go hc rfl k
theorem ev_iand {x y : Int32} (hc : am_at code pc = some (.iand, nx)) (k : am_ev code d nx L (.int (x &&& y) :: st) sk mem Q) : am_ev code d pc L (.int y :: .int x :: st) sk mem Q := ev_go hc rfl k
theorem ev_ior {x y : Int32} (hc : am_at code pc = some (.ior, nx)) (k : am_ev code d nx L (.int (x ||| y) :: st) sk mem Q) : am_ev code d pc L (.int y :: .int x :: st) sk mem Q := ev_go hc rfl k
theorem ev_ixor {x y : Int32} (hc : am_at code pc = some (.ixor, nx)) (k : am_ev code d nx L (.int (x ^^^ y) :: st) sk mem Q) : am_ev code d pc L (.int y :: .int x :: st) sk mem Q := ev_go hc rfl k
theorem ev_ishl {x y : Int32} (hc : am_at code pc = some (.ishl, nx)) (k : am_ev code d nx L (.int (x <<< (y &&& 31)) :: st) sk mem Q) : am_ev code d pc L (.int y :: .int x :: st) sk mem Q := ev_go hc rfl k
theorem ev_ishr {x y : Int32} (hc : am_at code pc = some (.ishr, nx)) (k : am_ev code d nx L (.int (x >>> (y &&& 31)) :: st) sk mem Q) : am_ev code d pc L (.int y :: .int x :: st) sk mem Q := ev_go hc rfl k
theorem ev_iushr {x y : Int32} (hc : am_at code pc = some (.iushr, nx)) (k : am_ev code d nx L (.int ((x.toUInt32 >>> (y.toUInt32 &&& Int32.toUInt32 31)).toInt32) :: st) sk mem Q) : am_ev code d pc L (.int y :: .int x :: st) sk mem Q := ev_go hc rfl k
theorem ev_idiv {x y : Int32} (hc : am_at code pc = some (.idiv, nx)) (k : am_ev code d nx L (.int (x / y) :: st) sk mem Q) (hy : ¬ y = 0 := by first | decide | assumption) : am_ev code d pc L (.int y :: .int x :: st) sk mem Q := ev_go hc (by simp only [am_stp, am_i2z, if_neg hy, am_go]) k
theorem ev_irem {x y : Int32} (hc : am_at code pc = some (.irem, nx)) (k : am_ev code d nx L (.int (x - x / y * y) :: st) sk mem Q) (hy : ¬ y = 0 := by first | decide | assumption) : am_ev code d pc L (.int y :: .int x :: st) sk mem Q := ev_go hc (by simp only [am_stp, am_i2z, if_neg hy, am_go]) k
theorem ev_ineg {x : Int32} (hc : am_at code pc = some (.ineg, nx)) (k : am_ev code d nx L (.int (-x) :: st) sk mem Q) : am_ev code d pc L (.int x :: st) sk mem Q := ev_go hc rfl k
theorem ev_i2s {x : Int32} (hc : am_at code pc = some (.i2s, nx)) (k : am_ev code d nx L (.int (x.toInt16.toInt32) :: st) sk mem Q) : am_ev code d pc L (.int x :: st) sk mem Q := ev_go hc rfl k
theorem ev_i2b {x : Int32} (hc : am_at code pc = some (.i2b, nx)) (k : am_ev code d nx L (.int (x.toInt8.toInt32) :: st) sk mem Q) : am_ev code d pc L (.int x :: st) sk mem Q := ev_go hc rfl k
theorem ev_i2c {x : Int32} (hc : am_at code pc = some (.i2c, nx)) (k : am_ev code d nx L (.int ((x.toUInt32 % 65536).toInt32) :: st) sk mem Q) : am_ev code d pc L (.int x :: st) sk mem Q := ev_go hc rfl k
theorem ev_dupR {q : Nat} (hc : am_at code pc = some (.dup, nx)) (k : am_ev code d nx L (.ref q :: .ref q :: st) sk mem Q) : am_ev code d pc L (.ref q :: st) sk mem Q := ev_go hc rfl k
theorem ev_dupI {x : Int32} (hc : am_at code pc = some (.dup, nx)) (k : am_ev code d nx L (.int x :: .int x :: st) sk mem Q) : am_ev code d pc L (.int x :: st) sk mem Q := ev_go hc rfl k
theorem ev_dup2 {q : Nat} {x : Int32} (hc : am_at code pc = some (.dup2, nx)) (k : am_ev code d nx L (.int x :: .ref q :: .int x :: .ref q :: st) sk mem Q) : am_ev code d pc L (.int x :: .ref q :: st) sk mem Q := ev_go hc rfl k
theorem ev_pop {x : Int32} (hc : am_at code pc = some (.pop, nx)) (k : am_ev code d nx L st sk mem Q) : am_ev code d pc L (.int x :: st) sk mem Q := ev_go hc rfl k
theorem ev_pop2 {q : Nat} (hc : am_at code pc = some (.pop2, nx)) (k : am_ev code d nx L st sk mem Q) (hl : st.length ≤ 8 ∧ q ≠ 28 := by exact ⟨by decide, by omega⟩) : am_ev code d pc L (.ref q :: st) sk mem Q := ev_go hc (by simp only [am_stp, am_go, if_pos hl]) k
theorem ev_ldc {i : Nat} (hc : am_at code pc = some (.ldc i, nx)) (k : am_ev code d nx L (.ref (2 + i) :: st) sk mem Q) (hi : i < 13 := by decide) : am_ev code d pc L st sk mem Q := ev_go hc (by simp only [am_stp, am_go, if_pos hi]) k
theorem ev_gets {i : Nat} {v : Value} (hc : am_at code pc = some (.getstatic i, nx)) (hv : am_gsv i = v) (k : am_ev code d nx L (v :: st) sk mem Q) : am_ev code d pc L st sk mem Q := by
  subst hv
  exact ev_go hc rfl k
theorem ev_goto {t : Int} {p2 : Nat} (hc : am_at code pc = some (.goto t, nx)) (ht : t.toNat = p2) (k : am_ev code d p2 L st sk mem Q) : am_ev code d pc L st sk mem Q := by
  subst ht
  exact ev_go hc rfl k
theorem ev_getI {c j q N : Nat} {rs : List (Option Nat)} (hc : am_at code pc = some (.getfield (64 * c + j), nx)) (k : am_ev code d nx L (.int (mem q j) :: st) sk mem Q) (hq : sk[q]? = some (c, N, rs) := by assumption) (h : j < 64 ∧ j < N ∧ ¬ am_ft c j = 2 := by exact ⟨by decide, by decide, by decide⟩) : am_ev code d pc L (.ref q :: st) sk mem Q := ev_go hc (by
  have h1 : (64 * c + j) / 64 = c := by omega
  have h2 : (64 * c + j) % 64 = j := by omega
  simp only [am_stp, am_get, hq, h1, h2, h.2.1, and_self, if_pos, if_neg h.2.2, am_go]) k
theorem ev_getR {c j q N y : Nat} {rs : List (Option Nat)} (hc : am_at code pc = some (.getfield (64 * c + j), nx)) (k : am_ev code d nx L (.ref y :: st) sk mem Q) (hq : sk[q]? = some (c, N, rs) := by assumption) (hy : rs[j]? = some (some y) := by rfl) (h : j < 64 ∧ j < N ∧ am_ft c j = 2 := by exact ⟨by decide, by decide, by decide⟩) : am_ev code d pc L (.ref q :: st) sk mem Q := ev_go hc (by
  have h1 : (64 * c + j) / 64 = c := by omega
  have h2 : (64 * c + j) % 64 = j := by omega
  simp only [am_stp, am_get, hq, h1, h2, h.2.1, and_self, if_pos, h.2.2, hy, am_go]) k
theorem ev_put {c j q N : Nat} {x : Int32} {rs : List (Option Nat)} (hc : am_at code pc = some (.putfield (64 * c + j), nx)) (k : am_ev code d nx L st sk (am_up mem q j x) Q) (hq : sk[q]? = some (c, N, rs) := by assumption) (h29 : 29 ≤ q := by first | decide | omega) (h : j < 64 ∧ j < N ∧ am_ft c j = 0 := by exact ⟨by decide, by decide, by decide⟩) : am_ev code d pc L (.int x :: .ref q :: st) sk mem Q := ev_go hc (by
  have h1 : (64 * c + j) / 64 = c := by omega
  have h2 : (64 * c + j) % 64 = j := by omega
  simp only [am_stp, am_put, hq, h1, h2, h.2.1, h29, h.2.2, true_or, and_self, if_pos, am_go]) k
theorem ev_putB {c j q N : Nat} {x : Int32} {rs : List (Option Nat)} (hc : am_at code pc = some (.putfield (64 * c + j), nx)) (k : am_ev code d nx L st sk (am_up mem q j x) Q) (hx : x = 0 ∨ x = 1 := by first | assumption | exact am_b01 _ | decide) (hq : sk[q]? = some (c, N, rs) := by assumption) (h29 : 29 ≤ q := by first | decide | omega) (h : j < 64 ∧ j < N ∧ am_ft c j = 1 := by exact ⟨by decide, by decide, by decide⟩) : am_ev code d pc L (.int x :: .ref q :: st) sk mem Q := ev_go hc (by
  have h1 : (64 * c + j) / 64 = c := by omega
  have h2 : (64 * c + j) % 64 = j := by omega
  simp only [am_stp, am_put, hq, h1, h2, h.2.1, h29, h.2.2, hx, and_self, or_true, if_pos, am_go]) k
theorem ev_putR {c j q N y : Nat} {rs : List (Option Nat)} {sk' : am_K} (hc : am_at code pc = some (.putstatic (64 * c + j), nx)) (hq : sk[q]? = some (c, N, rs)) (hs : sk.set q (c, N, rs.set j (some y)) = sk') (k : am_ev code d nx L st sk' mem Q) (h29 : 29 ≤ q ∧ 29 ≤ y ∧ y < sk.length) (hr : rs.length = N) (h : j < 64 ∧ j < N ∧ am_ft c j = 2 := by exact ⟨by decide, by decide, by decide⟩) : am_ev code d pc L (.ref y :: .ref q :: st) sk mem Q := by
  subst hs
  exact ev_go hc (by
    have h1 : (64 * c + j) / 64 = c := by omega
    have h2 : (64 * c + j) % 64 = j := by omega
    simp only [am_stp, am_putR, hq, h1, h2, h.2.1, h29.1, h29.2.1, h29.2.2, h.2.2, hr, and_self, if_pos, am_go]) k
theorem ev_iald {q N : Nat} {i : Int32} {rs : List (Option Nat)} (hc : am_at code pc = some (.iaload, nx)) (k : am_ev code d nx L (.int (mem q i.toNatClampNeg) :: st) sk mem Q) (hq : sk[q]? = some (20, N, rs) := by assumption) (hin : ¬ (i < 0 ∨ N ≤ i.toNatClampNeg) := by first | decide | assumption) : am_ev code d pc L (.int i :: .ref q :: st) sk mem Q := ev_go hc (by simp only [am_stp, am_ild, hq, if_pos, if_neg hin, am_go]) k
theorem ev_zald {q N : Nat} {i : Int32} {rs : List (Option Nat)} (hc : am_at code pc = some (.baload, nx)) (k : am_ev code d nx L (.int (mem q i.toNatClampNeg) :: st) sk mem Q) (hq : sk[q]? = some (21, N, rs) := by assumption) (hin : ¬ (i < 0 ∨ N ≤ i.toNatClampNeg) := by first | decide | assumption) : am_ev code d pc L (.int i :: .ref q :: st) sk mem Q := ev_go hc (by simp only [am_stp, am_ild, hq, if_pos, if_neg hin, am_go]) k
theorem ev_cald {q N : Nat} {i : Int32} {rs : List (Option Nat)} (hc : am_at code pc = some (.caload, nx)) (k : am_ev code d nx L (.int (mem q i.toNatClampNeg) :: st) sk mem Q) (hq : sk[q]? = some (22, N, rs) := by assumption) (hin : ¬ (i < 0 ∨ N ≤ i.toNatClampNeg) := by first | decide | assumption) : am_ev code d pc L (.int i :: .ref q :: st) sk mem Q := ev_go hc (by simp only [am_stp, am_ild, hq, if_pos, if_neg hin, am_go]) k
theorem ev_bald {q N : Nat} {i : Int32} {rs : List (Option Nat)} (hc : am_at code pc = some (.saload, nx)) (k : am_ev code d nx L (.int (mem q i.toNatClampNeg) :: st) sk mem Q) (hq : sk[q]? = some (23, N, rs) := by assumption) (hin : ¬ (i < 0 ∨ N ≤ i.toNatClampNeg) := by first | decide | assumption) : am_ev code d pc L (.int i :: .ref q :: st) sk mem Q := ev_go hc (by simp only [am_stp, am_ild, hq, if_pos, if_neg hin, am_go]) k
theorem ev_iast {q N : Nat} {i x : Int32} {rs : List (Option Nat)} (hc : am_at code pc = some (.iastore, nx)) (k : am_ev code d nx L st sk (am_up mem q i.toNatClampNeg x) Q) (hq : sk[q]? = some (20, N, rs) := by assumption) (hin : ¬ (i < 0 ∨ N ≤ i.toNatClampNeg) := by first | decide | assumption) (h29 : 29 ≤ q := by first | decide | omega) : am_ev code d pc L (.int x :: .int i :: .ref q :: st) sk mem Q := ev_go hc (by simp only [am_stp, am_ist, hq, h29, am_fit, show ¬ (20 : Nat) = 21 by decide, show ¬ (20 : Nat) = 22 by decide, if_false, true_and, and_self, if_true, if_neg hin, am_go]) k
theorem ev_zast {q N : Nat} {i x : Int32} {rs : List (Option Nat)} (hc : am_at code pc = some (.bastore, nx)) (k : am_ev code d nx L st sk (am_up mem q i.toNatClampNeg x) Q) (hx : x = 0 ∨ x = 1 := by first | assumption | exact am_b01 _ | decide) (hq : sk[q]? = some (21, N, rs) := by assumption) (hin : ¬ (i < 0 ∨ N ≤ i.toNatClampNeg) := by first | decide | assumption) (h29 : 29 ≤ q := by first | decide | omega) : am_ev code d pc L (.int x :: .int i :: .ref q :: st) sk mem Q := ev_go hc (by simp only [am_stp, am_ist, hq, h29, am_fit, hx, decide_true, and_self, if_true, if_neg hin, am_go]) k
theorem ev_ald {q kd N y : Nat} {i : Int32} {rs : List (Option Nat)} (hc : am_at code pc = some (.aaload, nx)) (k : am_ev code d nx L (.ref y :: st) sk mem Q) (hq : sk[q]? = some (kd, N, rs) := by assumption) (hin : ¬ (i < 0 ∨ N ≤ i.toNatClampNeg) := by first | decide | assumption) (hy : rs[i.toNatClampNeg]? = some (some y) := by first | rfl | assumption) (h : 30 ≤ kd ∧ 29 ≤ q := by exact ⟨by decide, by first | decide | omega⟩) : am_ev code d pc L (.int i :: .ref q :: st) sk mem Q := ev_go hc (by simp only [am_stp, am_ald, hq, h.1, h.2, and_self, if_true, if_neg hin, hy, am_go]) k
theorem ev_alen {q kd N : Nat} {rs : List (Option Nat)} (hc : am_at code pc = some (.arraylength, nx)) (k : am_ev code d nx L (.int (Int32.ofNat N) :: st) sk mem Q) (hq : sk[q]? = some (kd, N, rs) := by assumption) (h : 20 ≤ kd ∧ kd < 90 := by exact ⟨by decide, by decide⟩) : am_ev code d pc L (.ref q :: st) sk mem Q := ev_go hc (by simp only [am_stp, am_alen, hq, h.1, h.2, and_self, if_true, am_go]) k
theorem ev_copy {j a b na nb : Nat} {n dp sp : Int32} {ra rb : List (Option Nat)} (hc : am_at code pc = some (.invokedynamic j, nx)) (k : am_ev code d nx L st sk (am_cp mem a b sp.toNatClampNeg dp.toNatClampNeg n.toNatClampNeg) Q) (ha : sk[a]? = some (20, na, ra)) (hb : sk[b]? = some (20, nb, rb)) (h29 : 29 ≤ a ∧ 29 ≤ b) (h1 : ¬ sp < 0) (h2 : ¬ dp < 0) (h3 : ¬ n < 0) (h4 : sp.toNatClampNeg + n.toNatClampNeg ≤ na) (h5 : dp.toNatClampNeg + n.toNatClampNeg ≤ nb) (h6 : st.length ≤ 8) : am_ev code d pc L (.int n :: .int dp :: .ref b :: .int sp :: .ref a :: st) sk mem Q := ev_go hc (by
  simp only [am_stp, am_copy, ha, hb]
  rw [if_pos ⟨trivial, trivial, h29.1, h29.2, h1, h2, h3, h4, h5, h6⟩]
  rfl) k
theorem ev_if_eq {t : Int} {p2 : Nat} {x : Int32} (hc : am_at code pc = some (.ifCond .eq t, nx)) (ht : t.toNat = p2) (k1 : x = 0 → am_ev code d p2 L st sk mem Q) (k2 : ¬ x = 0 → am_ev code d nx L st sk mem Q) : am_ev code d pc L (.int x :: st) sk mem Q := by
  subst ht
  refine ev_go hc (by rfl) ?_
  by_cases h : x = 0
  · rw [show am_cd .eq x 0 = true from decide_eq_true h]; exact k1 h
  · rw [show am_cd .eq x 0 = false from decide_eq_false h]; exact k2 h
theorem ev_if_ne {t : Int} {p2 : Nat} {x : Int32} (hc : am_at code pc = some (.ifCond .ne t, nx)) (ht : t.toNat = p2) (k1 : ¬ x = 0 → am_ev code d p2 L st sk mem Q) (k2 : x = 0 → am_ev code d nx L st sk mem Q) : am_ev code d pc L (.int x :: st) sk mem Q := by
  subst ht
  refine ev_go hc (by rfl) ?_
  by_cases h : x = 0
  · rw [show am_cd .ne x 0 = false by simp [am_cd, h]]; exact k2 h
  · rw [show am_cd .ne x 0 = true by simp [am_cd, h]]; exact k1 h
theorem ev_if_lt {t : Int} {p2 : Nat} {x : Int32} (hc : am_at code pc = some (.ifCond .lt t, nx)) (ht : t.toNat = p2) (k1 : x < 0 → am_ev code d p2 L st sk mem Q) (k2 : ¬ x < 0 → am_ev code d nx L st sk mem Q) : am_ev code d pc L (.int x :: st) sk mem Q := by
  subst ht
  refine ev_go hc (by rfl) ?_
  by_cases h : x < 0
  · rw [show am_cd .lt x 0 = true from decide_eq_true h]; exact k1 h
  · rw [show am_cd .lt x 0 = false from decide_eq_false h]; exact k2 h
theorem ev_if_ge {t : Int} {p2 : Nat} {x : Int32} (hc : am_at code pc = some (.ifCond .ge t, nx)) (ht : t.toNat = p2) (k1 : 0 ≤ x → am_ev code d p2 L st sk mem Q) (k2 : ¬ 0 ≤ x → am_ev code d nx L st sk mem Q) : am_ev code d pc L (.int x :: st) sk mem Q := by
  subst ht
  refine ev_go hc (by rfl) ?_
  by_cases h : 0 ≤ x
  · rw [show am_cd .ge x 0 = true from decide_eq_true h]; exact k1 h
  · rw [show am_cd .ge x 0 = false from decide_eq_false h]; exact k2 h
theorem ev_if_gt {t : Int} {p2 : Nat} {x : Int32} (hc : am_at code pc = some (.ifCond .gt t, nx)) (ht : t.toNat = p2) (k1 : 0 < x → am_ev code d p2 L st sk mem Q) (k2 : ¬ 0 < x → am_ev code d nx L st sk mem Q) : am_ev code d pc L (.int x :: st) sk mem Q := by
  subst ht
  refine ev_go hc (by rfl) ?_
  by_cases h : 0 < x
  · rw [show am_cd .gt x 0 = true from decide_eq_true h]; exact k1 h
  · rw [show am_cd .gt x 0 = false from decide_eq_false h]; exact k2 h
theorem ev_if_le {t : Int} {p2 : Nat} {x : Int32} (hc : am_at code pc = some (.ifCond .le t, nx)) (ht : t.toNat = p2) (k1 : x ≤ 0 → am_ev code d p2 L st sk mem Q) (k2 : ¬ x ≤ 0 → am_ev code d nx L st sk mem Q) : am_ev code d pc L (.int x :: st) sk mem Q := by
  subst ht
  refine ev_go hc (by rfl) ?_
  by_cases h : x ≤ 0
  · rw [show am_cd .le x 0 = true from decide_eq_true h]; exact k1 h
  · rw [show am_cd .le x 0 = false from decide_eq_false h]; exact k2 h
theorem ev_icmp_eq {t : Int} {p2 : Nat} {x y : Int32} (hc : am_at code pc = some (.if_icmp .eq t, nx)) (ht : t.toNat = p2) (k1 : x = y → am_ev code d p2 L st sk mem Q) (k2 : ¬ x = y → am_ev code d nx L st sk mem Q) : am_ev code d pc L (.int y :: .int x :: st) sk mem Q := by
  subst ht
  refine ev_go hc (by rfl) ?_
  by_cases h : x = y
  · rw [show am_cd .eq x y = true from decide_eq_true h]; exact k1 h
  · rw [show am_cd .eq x y = false from decide_eq_false h]; exact k2 h
theorem ev_icmp_ne {t : Int} {p2 : Nat} {x y : Int32} (hc : am_at code pc = some (.if_icmp .ne t, nx)) (ht : t.toNat = p2) (k1 : ¬ x = y → am_ev code d p2 L st sk mem Q) (k2 : x = y → am_ev code d nx L st sk mem Q) : am_ev code d pc L (.int y :: .int x :: st) sk mem Q := by
  subst ht
  refine ev_go hc (by rfl) ?_
  by_cases h : x = y
  · rw [show am_cd .ne x y = false by simp [am_cd, h]]; exact k2 h
  · rw [show am_cd .ne x y = true by simp [am_cd, h]]; exact k1 h
theorem ev_icmp_lt {t : Int} {p2 : Nat} {x y : Int32} (hc : am_at code pc = some (.if_icmp .lt t, nx)) (ht : t.toNat = p2) (k1 : x < y → am_ev code d p2 L st sk mem Q) (k2 : ¬ x < y → am_ev code d nx L st sk mem Q) : am_ev code d pc L (.int y :: .int x :: st) sk mem Q := by
  subst ht
  refine ev_go hc (by rfl) ?_
  by_cases h : x < y
  · rw [show am_cd .lt x y = true from decide_eq_true h]; exact k1 h
  · rw [show am_cd .lt x y = false from decide_eq_false h]; exact k2 h
theorem ev_icmp_ge {t : Int} {p2 : Nat} {x y : Int32} (hc : am_at code pc = some (.if_icmp .ge t, nx)) (ht : t.toNat = p2) (k1 : y ≤ x → am_ev code d p2 L st sk mem Q) (k2 : ¬ y ≤ x → am_ev code d nx L st sk mem Q) : am_ev code d pc L (.int y :: .int x :: st) sk mem Q := by
  subst ht
  refine ev_go hc (by rfl) ?_
  by_cases h : y ≤ x
  · rw [show am_cd .ge x y = true from decide_eq_true h]; exact k1 h
  · rw [show am_cd .ge x y = false from decide_eq_false h]; exact k2 h
theorem ev_icmp_gt {t : Int} {p2 : Nat} {x y : Int32} (hc : am_at code pc = some (.if_icmp .gt t, nx)) (ht : t.toNat = p2) (k1 : y < x → am_ev code d p2 L st sk mem Q) (k2 : ¬ y < x → am_ev code d nx L st sk mem Q) : am_ev code d pc L (.int y :: .int x :: st) sk mem Q := by
  subst ht
  refine ev_go hc (by rfl) ?_
  by_cases h : y < x
  · rw [show am_cd .gt x y = true from decide_eq_true h]; exact k1 h
  · rw [show am_cd .gt x y = false from decide_eq_false h]; exact k2 h
theorem ev_icmp_le {t : Int} {p2 : Nat} {x y : Int32} (hc : am_at code pc = some (.if_icmp .le t, nx)) (ht : t.toNat = p2) (k1 : x ≤ y → am_ev code d p2 L st sk mem Q) (k2 : ¬ x ≤ y → am_ev code d nx L st sk mem Q) : am_ev code d pc L (.int y :: .int x :: st) sk mem Q := by
  subst ht
  refine ev_go hc (by rfl) ?_
  by_cases h : x ≤ y
  · rw [show am_cd .le x y = true from decide_eq_true h]; exact k1 h
  · rw [show am_cd .le x y = false from decide_eq_false h]; exact k2 h
theorem ev_iret {x : Int32} (hc : am_at code pc = some (.ireturn, nx)) (h : Q (some (.int x)) sk mem) : am_ev code d pc L [.int x] sk mem Q := ev_ret hc rfl h
theorem ev_zret {x : Int32} (hc : am_at code pc = some (.freturn, nx)) (h : Q (some (.int x)) sk mem) (hx : x = 0 ∨ x = 1 := by first | assumption | exact am_b01 _ | decide) : am_ev code d pc L [.int x] sk mem Q := ev_ret hc (by simp only [am_stp, if_pos hx]) h
theorem ev_aret {q : Nat} (hc : am_at code pc = some (.areturn, nx)) (h : Q (some (.ref q)) sk mem) (hq : q ≠ 28 := by first | decide | omega) : am_ev code d pc L [.ref q] sk mem Q := ev_ret hc (by simp only [am_stp, if_neg hq]) h
theorem ev_vret (hc : am_at code pc = some (.return_, nx)) (h : Q none sk mem) : am_ev code d pc L [] sk mem Q := ev_ret hc rfl h
end EV
