/-! a run that can be computed -/
abbrev am_XR : Type := Option (Option Value × am_K × am_M)
def am_xrun (code : am_C) (call : Nat → List Value → am_K → am_M → am_XR) : Nat → Nat → am_L → List Value → am_K → am_M → am_XR
  | 0, _, _, _, _, _ => none
  | n + 1, pc, L, st, sk, mem => match am_at code pc with
    | none => none
    | some (ins, nx) => match am_stp ins nx L st sk mem with
      | none => none
      | some (.inl (pc', L', st', sk', mem')) => am_xrun code call n pc' L' st' sk' mem'
      | some (.inr (.inl (k, as, r))) => match call k as sk mem with
        | none => none
        | some (v, sk', mem') => am_xrun code call n nx L (v.toList ++ r) sk' mem'
      | some (.inr (.inr v)) => some (v, sk, mem)
def am_xex (f : Nat) : Nat → Nat → List Value → am_K → am_M → am_XR
  | 0, _, _, _, _ => none
  | d + 1, k, as, sk, mem => am_xrun (am_code k) (am_xex f d) f 0 (am_L0 k as) [] sk mem
def am_xok (xc : Nat → List Value → am_K → am_M → am_XR) (call : am_CT) : Prop := ∀ k as sk mem v a b, xc k as sk mem = some (v, a, b) → call k as sk mem (am_eq v a b)
theorem am_xrun_s {code : am_C} {xc : Nat → List Value → am_K → am_M → am_XR} {call : am_CT} (hm : am_monoC call) (hc : am_xok xc call) {v : Option Value} {a : am_K} {b : am_M} : ∀ (n pc : Nat) (L : am_L) (st : List Value) (sk : am_K) (mem : am_M), am_xrun code xc n pc L st sk mem = some (v, a, b) → am_run code call n pc L st sk mem (am_eq v a b)
  | 0, _, _, _, _, _, h => by
    unfold am_xrun at h
    exact absurd h (by simp)
  | n + 1, pc, L, st, sk, mem, h => by
    unfold am_xrun at h
    unfold am_run
    split at h
    · exact absurd h (by simp)
    · rename_i ins nx hat
      split at h
      · exact absurd h (by simp)
      · rename_i hst
        simp only [hat, hst]
        exact am_xrun_s hm hc n _ _ _ _ _ h
      · rename_i hst
        simp only [hat, hst]
        split at h
        · exact absurd h (by simp)
        · rename_i w a2 b2 hcall
          refine hm _ _ _ _ _ _ (fun v' a' b' e => ?_) (hc _ _ _ _ _ _ _ hcall)
          obtain ⟨rfl, rfl, rfl⟩ := e
          exact am_xrun_s hm hc n _ _ _ _ _ h
      · rename_i hst
        simp only [hat, hst]
        have h2 := Option.some.inj h
        rw [Prod.mk.injEq, Prod.mk.injEq] at h2
        exact ⟨h2.1, h2.2.1, h2.2.2⟩
theorem am_xex_s (f : Nat) : ∀ d, am_xok (am_xex f d) (am_ex d)
  | 0 => fun k as sk mem v a b h => by
    unfold am_xex at h
    exact absurd h (by simp)
  | d + 1 => fun k as sk mem v a b h => by
    unfold am_xex at h
    exact ⟨f, am_xrun_s (am_ex_mono d) (am_xex_s f d) f _ _ _ _ _ h⟩
