/-! one step of the small machine, done by the real one -/
def am_K1 (p : Program) (l : Launch) (e : Env) (R : Room) (s : State) (m : MethodId) (args : Array Value) (below : List Frame) (meth : Method) (c : Code) (Qf : State → Prop) (D : va_G) (fm : Value) (n : Nat) (xs : Nat → Int32) (A : Nat → Prop) (pc : Nat) (L : am_L) (st : List Value) (sk : am_K) (mem : am_M) (ad : Nat → Nat) (aC : Nat → ClassId) (cells slots : Nat) : Prop :=
  ∀ (H : Heap) (locs : List Loc) (ls : Array Slot), am_At D fm n xs A s ad aC sk mem H → am_Fx fm n xs ad A s s.heap → am_lh ad fm L ls → va_S A s.heap H locs → W p l e R s m args below meth c H locs cells slots Qf (F0 m pc ls (st.map (am_re ad fm)))
def am_Me (p : Program) (s : State) (m : MethodId) (args : Array Value) (meth : Method) (c : Code) (D : va_G) (fm : Value) (A : Nat → Prop) (cc : ByteArray) (own : String) (init : Bool) (nL : Nat) : Prop :=
  p.tables.exec = Jvm.exec ∧ c.code = cc ∧ s.vm.findClass own = some m.cls ∧ (∀ w ∈ am_tb, w.before args s = true) ∧ (init = true → meth.name = "<init>") ∧ va_K D vwCl [] s ∧ (∀ q, s.heap.size ≤ q → A q) ∧ fm.category = 1 ∧ c.maxLocals = nL
theorem am_i1_inv {f : Int32 → Int32} {nx : Nat} {L : am_L} {st : List Value} {sk : am_K} {mem : am_M} {z : am_N} (h : am_i1 f nx L st sk mem = some z) : ∃ x r, st = .int x :: r ∧ z = .inl (nx, L, .int (f x) :: r, sk, mem) := by
  unfold am_i1 am_go at h
  split at h <;> cases h
  exact ⟨_, _, rfl, rfl⟩
theorem am_i2_inv {f : Int32 → Int32 → Int32} {nx : Nat} {L : am_L} {st : List Value} {sk : am_K} {mem : am_M} {z : am_N} (h : am_i2 f nx L st sk mem = some z) : ∃ x y r, st = .int y :: .int x :: r ∧ z = .inl (nx, L, .int (f x y) :: r, sk, mem) := by
  unfold am_i2 am_go at h
  split at h <;> cases h
  exact ⟨_, _, _, rfl, rfl⟩
theorem am_i2z_inv {f : Int32 → Int32 → Int32} {nx : Nat} {L : am_L} {st : List Value} {sk : am_K} {mem : am_M} {z : am_N} (h : am_i2z f nx L st sk mem = some z) : ∃ x y r, st = .int y :: .int x :: r ∧ ¬ y = 0 ∧ z = .inl (nx, L, .int (f x y) :: r, sk, mem) := by
  unfold am_i2z am_go at h
  split at h
  · split at h <;> cases h
    exact ⟨_, _, _, rfl, by assumption, rfl⟩
  · cases h
theorem am_ild_inv {kd nx : Nat} {L : am_L} {st : List Value} {sk : am_K} {mem : am_M} {z : am_N} (h : am_ild kd nx L st sk mem = some z) : ∃ i q r N rs, st = .int i :: .ref q :: r ∧ sk[q]? = some (kd, N, rs) ∧ vp_in i N ∧ z = .inl (nx, L, .int (mem q i.toNatClampNeg) :: r, sk, mem) := by
  unfold am_ild am_go at h
  split at h
  · split at h
    · split at h
      · split at h <;> cases h
        rename_i e1 e2 e3
        subst e2
        exact ⟨_, _, _, _, _, rfl, e1, e3, rfl⟩
      · cases h
    · cases h
  · cases h
theorem am_ist_inv {kd nx : Nat} {L : am_L} {st : List Value} {sk : am_K} {mem : am_M} {z : am_N} (h : am_ist kd nx L st sk mem = some z) : ∃ x i q r N rs, st = .int x :: .int i :: .ref q :: r ∧ sk[q]? = some (kd, N, rs) ∧ 29 ≤ q ∧ am_fit kd x = true ∧ vp_in i N ∧ z = .inl (nx, L, r, sk, am_up mem q i.toNatClampNeg x) := by
  unfold am_ist am_go at h
  split at h
  · split at h
    · split at h
      · split at h <;> cases h
        rename_i e1 e2 e5
        obtain ⟨e2, e3, e4⟩ := e2
        subst e2
        exact ⟨_, _, _, _, _, _, rfl, e1, e3, e4, e5, rfl⟩
      · cases h
    · cases h
  · cases h
theorem am_ald_inv {nx : Nat} {L : am_L} {st : List Value} {sk : am_K} {mem : am_M} {z : am_N} (h : am_ald nx L st sk mem = some z) : ∃ i q r k N rs y, st = .int i :: .ref q :: r ∧ sk[q]? = some (k, N, rs) ∧ 30 ≤ k ∧ 29 ≤ q ∧ vp_in i N ∧ rs[i.toNatClampNeg]? = some (some y) ∧ z = .inl (nx, L, .ref y :: r, sk, mem) := by
  unfold am_ald am_go at h
  split at h
  · split at h
    · split at h
      · split at h
        · cases h
        · split at h <;> cases h
          rename_i e1 e2 e4 _ _ e3
          exact ⟨_, _, _, _, _, _, _, rfl, e1, e2.1, e2.2, e4, e3, rfl⟩
      · cases h
    · cases h
  · cases h
theorem am_ast_inv {nx : Nat} {L : am_L} {st : List Value} {sk : am_K} {mem : am_M} {z : am_N} (h : am_ast nx L st sk mem = some z) : ∃ y i q r N rs kz a b, st = .ref y :: .int i :: .ref q :: r ∧ sk[q]? = some (kz + 30, N, rs) ∧ sk[y]? = some (kz, a, b) ∧ 29 ≤ q ∧ 29 ≤ y ∧ rs.length = N ∧ kz < 13 ∧ vp_in i N ∧ z = .inl (nx, L, r, sk.set q (kz + 30, N, rs.set i.toNatClampNeg (some y)), mem) := by
  unfold am_ast am_go at h
  split at h
  · split at h
    · split at h
      · split at h <;> cases h
        rename_i e1 e3 e2 e9
        obtain ⟨e2, e4, e5, e6, e7⟩ := e2
        subst e2
        exact ⟨_, _, _, _, _, _, _, _, _, rfl, e1, e3, e4, e5, e6, e7, e9, rfl⟩
      · cases h
    · cases h
  · cases h
theorem am_get_inv {f nx : Nat} {L : am_L} {st : List Value} {sk : am_K} {mem : am_M} {z : am_N} (h : am_get f nx L st sk mem = some z) : ∃ q r N rs, st = .ref q :: r ∧ sk[q]? = some (f / 64, N, rs) ∧ f % 64 < N ∧ ((am_ft (f / 64) (f % 64) = 2 ∧ ∃ y, rs[f % 64]? = some (some y) ∧ z = .inl (nx, L, .ref y :: r, sk, mem)) ∨ (¬ am_ft (f / 64) (f % 64) = 2 ∧ z = .inl (nx, L, .int (mem q (f % 64)) :: r, sk, mem))) := by
  unfold am_get am_go at h
  split at h
  · split at h
    · split at h
      · rename_i e1 e2
        obtain ⟨e2, e3⟩ := e2
        subst e2
        split at h
        · split at h <;> cases h
          rename_i e5 _ _ e4
          exact ⟨_, _, _, _, rfl, e1, e3, Or.inl ⟨e5, _, e4, rfl⟩⟩
        · cases h
          exact ⟨_, _, _, _, rfl, e1, e3, Or.inr ⟨by assumption, rfl⟩⟩
      · cases h
    · cases h
  · cases h
theorem am_put_inv {f nx : Nat} {L : am_L} {st : List Value} {sk : am_K} {mem : am_M} {z : am_N} (h : am_put f nx L st sk mem = some z) : ∃ x q r N rs, st = .int x :: .ref q :: r ∧ sk[q]? = some (f / 64, N, rs) ∧ f % 64 < N ∧ 29 ≤ q ∧ (am_ft (f / 64) (f % 64) = 0 ∨ am_ft (f / 64) (f % 64) = 1 ∧ (x = 0 ∨ x = 1)) ∧ z = .inl (nx, L, r, sk, am_up mem q (f % 64) x) := by
  unfold am_put am_go at h
  split at h
  · split at h
    · split at h <;> cases h
      rename_i e1 e2
      obtain ⟨e2, e3, e4, e5⟩ := e2
      subst e2
      exact ⟨_, _, _, _, _, rfl, e1, e3, e4, e5, rfl⟩
    · cases h
  · cases h
theorem am_putR_inv {f nx : Nat} {L : am_L} {st : List Value} {sk : am_K} {mem : am_M} {z : am_N} (h : am_putR f nx L st sk mem = some z) : ∃ y q r N rs, st = .ref y :: .ref q :: r ∧ sk[q]? = some (f / 64, N, rs) ∧ f % 64 < N ∧ 29 ≤ q ∧ 29 ≤ y ∧ y < sk.length ∧ am_ft (f / 64) (f % 64) = 2 ∧ rs.length = N ∧ z = .inl (nx, L, r, sk.set q (f / 64, N, rs.set (f % 64) (some y)), mem) := by
  unfold am_putR am_go at h
  split at h
  · split at h
    · split at h <;> cases h
      rename_i e1 e2
      obtain ⟨e2, e3, e4, e5, e6, e7, e8⟩ := e2
      subst e2
      exact ⟨_, _, _, _, _, rfl, e1, e3, e4, e5, e6, e7, e8, rfl⟩
    · cases h
  · cases h
theorem am_alen_inv {nx : Nat} {L : am_L} {st : List Value} {sk : am_K} {mem : am_M} {z : am_N} (h : am_alen nx L st sk mem = some z) : ∃ q r k N rs, st = .ref q :: r ∧ sk[q]? = some (k, N, rs) ∧ 20 ≤ k ∧ k < 90 ∧ z = .inl (nx, L, .int (Int32.ofNat N) :: r, sk, mem) := by
  unfold am_alen am_go at h
  split at h
  · split at h
    · split at h <;> cases h
      rename_i e1 e2
      exact ⟨_, _, _, _, _, rfl, e1, e2.1, e2.2, rfl⟩
    · cases h
  · cases h
theorem am_new_inv {k nx : Nat} {L : am_L} {st : List Value} {sk : am_K} {mem : am_M} {z : am_N} (h : am_new k nx L st sk mem = some z) : ∃ N, am_NS[k]? = some N ∧ z = .inl (nx, L, .ref sk.length :: st, sk ++ [(k, N, List.replicate N none)], am_z mem sk.length) := by
  unfold am_new am_go at h
  split at h <;> cases h
  exact ⟨_, by assumption, rfl⟩
theorem am_newa_inv {kd nx : Nat} {L : am_L} {st : List Value} {sk : am_K} {mem : am_M} {z : am_N} (h : am_newa kd nx L st sk mem = some z) : ∃ i r, st = .int i :: r ∧ ¬ i < 0 ∧ i.toNatClampNeg ≤ 100000 ∧ z = .inl (nx, L, .ref sk.length :: r, sk ++ [(kd, i.toNatClampNeg, [])], am_z mem sk.length) := by
  unfold am_newa am_go at h
  split at h
  · split at h <;> cases h
    rename_i e1
    exact ⟨_, _, rfl, fun q => e1 (Or.inl q), by omega, rfl⟩
  · cases h
theorem am_newq_inv {k nx : Nat} {L : am_L} {st : List Value} {sk : am_K} {mem : am_M} {z : am_N} (h : am_newq k nx L st sk mem = some z) : ∃ i r, st = .int i :: r ∧ ¬ i < 0 ∧ i.toNatClampNeg ≤ 100000 ∧ z = .inl (nx, L, .ref sk.length :: r, sk ++ [(30 + k, i.toNatClampNeg, List.replicate i.toNatClampNeg none)], am_z mem sk.length) := by
  unfold am_newq am_go at h
  split at h
  · split at h <;> cases h
    rename_i e1
    exact ⟨_, _, rfl, fun q => e1 (Or.inl q), by omega, rfl⟩
  · cases h
theorem am_inv_inv {k : Nat} {st : List Value} {z : am_N} (h : am_inv k st = some z) : ∃ a, am_AR[k]? = some a ∧ a ≤ st.length ∧ st.length ≤ a + 8 ∧ z = .inr (.inl (k, (st.take a).reverse, st.drop a)) := by
  unfold am_inv at h
  split at h
  · split at h <;> cases h
    rename_i e1 e2
    exact ⟨_, e1, e2.1, e2.2, rfl⟩
  · cases h
theorem am_invV_inv {k : Nat} {st : List Value} {sk : am_K} {z : am_N} (h : am_invV k st sk = some z) : ∃ a q r kd N rs, am_AR[k]? = some a ∧ a ≤ st.length ∧ st.length ≤ a + 8 ∧ (st.take a).reverse = .ref q :: r ∧ sk[q]? = some (kd, N, rs) ∧ am_RC[k]? = some kd ∧ z = .inr (.inl (k, (st.take a).reverse, st.drop a)) := by
  unfold am_invV at h
  split at h
  · split at h
    · split at h
      · split at h
        · rename_i e1 _ _ _ e2 _ _ _ _ e3 e4
          obtain ⟨b, g1, g2, g3, g4⟩ := am_inv_inv h
          have e5 := Option.some.inj (e1.symm.trans g1)
          subst e5
          exact ⟨_, _, _, _, _, _, g1, g2, g3, e2, e3, e4, g4⟩
        · cases h
      · cases h
    · cases h
  · cases h
theorem am_copy_inv {nx : Nat} {L : am_L} {st : List Value} {sk : am_K} {mem : am_M} {z : am_N} (h : am_copy nx L st sk mem = some z) : ∃ i dp b sp a r na nb ra rb, st = .int i :: .int dp :: .ref b :: .int sp :: .ref a :: r ∧ sk[a]? = some (20, na, ra) ∧ sk[b]? = some (20, nb, rb) ∧ 29 ≤ a ∧ 29 ≤ b ∧ ¬ sp < 0 ∧ ¬ dp < 0 ∧ ¬ i < 0 ∧ sp.toNatClampNeg + i.toNatClampNeg ≤ na ∧ dp.toNatClampNeg + i.toNatClampNeg ≤ nb ∧ r.length ≤ 8 ∧ z = .inl (nx, L, r, sk, am_cp mem a b sp.toNatClampNeg dp.toNatClampNeg i.toNatClampNeg) := by
  unfold am_copy am_go at h
  split at h
  · split at h
    · split at h <;> cases h
      rename_i e1 e2 e3
      obtain ⟨f1, f2, f3, f4, f5, f6, f7, f8, f9, f10⟩ := e3
      subst f1; subst f2
      exact ⟨_, _, _, _, _, _, _, _, _, _, rfl, e1, e2, f3, f4, f5, f6, f7, f8, f9, f10, rfl⟩
    · cases h
  · cases h
theorem am_ilo_inv {i nx : Nat} {L : am_L} {st : List Value} {sk : am_K} {mem : am_M} {z : am_N} (h : am_ilo i nx L st sk mem = some z) : ∃ x, L[i]? = some (some (.int x)) ∧ z = .inl (nx, L, .int x :: st, sk, mem) := by
  unfold am_ilo am_go at h
  split at h <;> cases h
  exact ⟨_, by assumption, rfl⟩
theorem am_alo_inv {i nx : Nat} {L : am_L} {st : List Value} {sk : am_K} {mem : am_M} {z : am_N} (h : am_alo i nx L st sk mem = some z) : ∃ x, L[i]? = some (some (.ref x)) ∧ x ≠ 28 ∧ z = .inl (nx, L, .ref x :: st, sk, mem) := by
  unfold am_alo am_go at h
  split at h
  · split at h <;> cases h
    exact ⟨_, by assumption, by assumption, rfl⟩
  · cases h
theorem am_iso_inv {i nx : Nat} {L : am_L} {st : List Value} {sk : am_K} {mem : am_M} {z : am_N} (h : am_iso i nx L st sk mem = some z) : ∃ x r, st = .int x :: r ∧ i < L.length ∧ z = .inl (nx, L.set i (some (.int x)), r, sk, mem) := by
  unfold am_iso am_go at h
  split at h
  · split at h <;> cases h
    exact ⟨_, _, rfl, by assumption, rfl⟩
  · cases h
theorem am_aso_inv {i nx : Nat} {L : am_L} {st : List Value} {sk : am_K} {mem : am_M} {z : am_N} (h : am_aso i nx L st sk mem = some z) : ∃ x r, st = .ref x :: r ∧ i < L.length ∧ x ≠ 28 ∧ z = .inl (nx, L.set i (some (.ref x)), r, sk, mem) := by
  unfold am_aso am_go at h
  split at h
  · split at h <;> cases h
    rename_i e1
    exact ⟨_, _, rfl, e1.1, e1.2, rfl⟩
  · cases h
theorem am_inc_inv {i nx : Nat} {k : Int} {L : am_L} {st : List Value} {sk : am_K} {mem : am_M} {z : am_N} (h : am_inc i k nx L st sk mem = some z) : ∃ x, L[i]? = some (some (.int x)) ∧ z = .inl (nx, L.set i (some (.int (x + Int32.ofInt k))), st, sk, mem) := by
  unfold am_inc am_go at h
  split at h <;> cases h
  exact ⟨_, by assumption, rfl⟩
theorem am_if1_inv {k : ClassFile.Cond} {t : Int} {nx : Nat} {L : am_L} {st : List Value} {sk : am_K} {mem : am_M} {z : am_N} (h : am_if1 k t nx L st sk mem = some z) : ∃ x r, st = .int x :: r ∧ z = .inl (if am_cd k x 0 = true then t.toNat else nx, L, r, sk, mem) := by
  unfold am_if1 am_go at h
  split at h <;> cases h
  exact ⟨_, _, rfl, rfl⟩
theorem am_if2_inv {k : ClassFile.Cond} {t : Int} {nx : Nat} {L : am_L} {st : List Value} {sk : am_K} {mem : am_M} {z : am_N} (h : am_if2 k t nx L st sk mem = some z) : ∃ x y r, st = .int y :: .int x :: r ∧ z = .inl (if am_cd k x y = true then t.toNat else nx, L, r, sk, mem) := by
  unfold am_if2 am_go at h
  split at h <;> cases h
  exact ⟨_, _, _, rfl, rfl⟩
theorem am_tsw_inv {d lo hi : Int} {ts : Array Int} {L : am_L} {st : List Value} {sk : am_K} {mem : am_M} {z : am_N} (h : am_tsw d lo hi ts L st sk mem = some z) : ∃ x r, st = .int x :: r ∧ (((x.toInt < lo ∨ hi < x.toInt) ∧ z = .inl (d.toNat, L, r, sk, mem)) ∨ (¬ (x.toInt < lo ∨ hi < x.toInt) ∧ ∃ t, ts[(x.toInt - lo).toNat]? = some t ∧ z = .inl (t.toNat, L, r, sk, mem))) := by
  unfold am_tsw am_go at h
  split at h
  · split at h
    · cases h
      exact ⟨_, _, rfl, Or.inl ⟨by assumption, rfl⟩⟩
    · split at h <;> cases h
      exact ⟨_, _, rfl, Or.inr ⟨by assumption, _, by assumption, rfl⟩⟩
  · cases h
theorem am_lsw_inv {d : Int} {ps : Array (Int × Int)} {L : am_L} {st : List Value} {sk : am_K} {mem : am_M} {z : am_N} (h : am_lsw d ps L st sk mem = some z) : ∃ x r, st = .int x :: r ∧ z = .inl ((Op.lookupswitch.offset ps.toList d x.toInt).toNat, L, r, sk, mem) := by
  unfold am_lsw am_go at h
  split at h <;> cases h
  exact ⟨_, _, rfl, rfl⟩
