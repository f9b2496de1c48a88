/-! runs -/
def am_L0 (k : Nat) (as : List Value) : am_L := as.map some ++ List.replicate ((am_ML[k]?).getD 0 - as.length) none
def am_code (k : Nat) : am_C := (am_cs[k]?).getD []
/-- method k with these arguments, calls going at most d deep: it comes to Q -/
def am_ex : Nat → Nat → List Value → am_K → am_M → am_P → Prop
  | 0, _, _, _, _, _ => False
  | d + 1, k, as, sk, mem, Q => ∃ n, am_run (am_code k) (am_ex d) n 0 (am_L0 k as) [] sk mem Q
def am_eq (v : Option Value) (sk : am_K) (mem : am_M) : am_P := fun a b c => a = v ∧ b = sk ∧ c = mem
abbrev am_CT : Type := Nat → List Value → am_K → am_M → am_P → Prop
def am_monoC (call : am_CT) : Prop := ∀ k as sk mem (Q Q' : am_P), (∀ v a b, Q v a b → Q' v a b) → call k as sk mem Q → call k as sk mem Q'
def am_detC (call : am_CT) : Prop := ∀ k as sk mem (Q : am_P), call k as sk mem Q → ∃ v sk' mem', Q v sk' mem' ∧ call k as sk mem (am_eq v sk' mem')
theorem am_run_mono {code : am_C} {call : am_CT} (hc : am_monoC call) {Q Q' : am_P} (hQ : ∀ v a b, Q v a b → Q' v a b) : ∀ (n pc : Nat) (L : am_L) (st : List Value) (sk : am_K) (mem : am_M), am_run code call n pc L st sk mem Q → am_run code call n pc L st sk mem Q'
  | 0, _, _, _, _, _, h => h
  | n + 1, pc, L, st, sk, mem, h => by
    unfold am_run at h ⊢
    split at h
    · exact h.elim
    · split at h
      · exact h.elim
      · exact am_run_mono hc hQ n _ _ _ _ _ h
      · exact hc _ _ _ _ _ _ (fun v a b h2 => am_run_mono hc hQ n _ _ _ _ _ h2) h
      · exact hQ _ _ _ h
theorem am_run_det {code : am_C} {call : am_CT} (hm : am_monoC call) (hd : am_detC call) {Q : am_P} : ∀ (n pc : Nat) (L : am_L) (st : List Value) (sk : am_K) (mem : am_M), am_run code call n pc L st sk mem Q → ∃ v sk' mem', Q v sk' mem' ∧ am_run code call n pc L st sk mem (am_eq v sk' mem')
  | 0, _, _, _, _, _, h => h.elim
  | n + 1, pc, L, st, sk, mem, h => by
    unfold am_run at h
    split at h
    · exact h.elim
    · rename_i ins nx hat
      split at h
      · exact h.elim
      · rename_i hs
        obtain ⟨v, a, b, h1, h2⟩ := am_run_det hm hd n _ _ _ _ _ h
        refine ⟨v, a, b, h1, ?_⟩
        unfold am_run
        simp only [hat, hs]
        exact h2
      · rename_i hs
        obtain ⟨w, a, b, h1, h2⟩ := hd _ _ _ _ _ h
        obtain ⟨v, a2, b2, h3, h4⟩ := am_run_det hm hd n _ _ _ _ _ h1
        refine ⟨v, a2, b2, h3, ?_⟩
        unfold am_run
        simp only [hat, hs]
        refine hm _ _ _ _ _ _ (fun v' a' b' e => ?_) h2
        obtain ⟨rfl, rfl, rfl⟩ := e
        exact h4
      · rename_i hs
        refine ⟨_, _, _, h, ?_⟩
        unfold am_run
        simp only [hat, hs]
        exact ⟨rfl, rfl, rfl⟩
theorem am_ex_mono : ∀ d, am_monoC (am_ex d)
  | 0 => fun _ _ _ _ _ _ _ h => h
  | d + 1 => fun k as sk mem Q Q' hQ h => by
    obtain ⟨n, h⟩ := h
    exact ⟨n, am_run_mono (am_ex_mono d) hQ n _ _ _ _ _ h⟩
theorem am_ex_det : ∀ d, am_detC (am_ex d)
  | 0 => fun _ _ _ _ _ h => h.elim
  | d + 1 => fun k as sk mem Q h => by
    obtain ⟨n, h⟩ := h
    obtain ⟨v, a, b, h1, h2⟩ := am_run_det (am_ex_mono d) (am_ex_det d) n _ _ _ _ _ h
    exact ⟨v, a, b, h1, n, h2⟩
/-- deeper is no less -/
theorem am_run_call {code : am_C} {call call' : am_CT} (hc : ∀ k as sk mem Q, call k as sk mem Q → call' k as sk mem Q) (hm : am_monoC call') {Q : am_P} : ∀ (n pc : Nat) (L : am_L) (st : List Value) (sk : am_K) (mem : am_M), am_run code call n pc L st sk mem Q → am_run code call' n pc L st sk mem Q
  | 0, _, _, _, _, _, h => h
  | n + 1, pc, L, st, sk, mem, h => by
    unfold am_run at h ⊢
    split at h
    · exact h.elim
    · split at h
      · exact h.elim
      · exact am_run_call hc hm n _ _ _ _ _ h
      · exact hm _ _ _ _ _ _ (fun v a b h2 => am_run_call hc hm n _ _ _ _ _ h2) (hc _ _ _ _ _ h)
      · exact h
theorem am_ex_up1 : ∀ d k as sk mem Q, am_ex d k as sk mem Q → am_ex (d + 1) k as sk mem Q
  | 0, _, _, _, _, _, h => h.elim
  | d + 1, k, as, sk, mem, Q, h => by
    obtain ⟨n, h⟩ := h
    exact ⟨n, am_run_call (am_ex_up1 d) (am_ex_mono (d + 1)) n _ _ _ _ _ h⟩
theorem am_ex_up {d d' : Nat} (hd : d ≤ d') {k : Nat} {as : List Value} {sk : am_K} {mem : am_M} {Q : am_P} (h : am_ex d k as sk mem Q) : am_ex d' k as sk mem Q := by
  induction hd with
  | refl => exact h
  | step _ ih => exact am_ex_up1 _ _ _ _ _ _ ih
/-- what a run keeps -/
def am_ret (sk : am_K) (v : Option Value) (sk' : am_K) : Prop := sk.length ≤ sk'.length ∧ am_sz sk ≤ am_sz sk' ∧ am_wf sk' ∧ ∀ x, v = some x → am_okv sk'.length x
def am_goodC (call : am_CT) : Prop := ∀ k as sk mem v sk' mem', am_wf sk → 29 ≤ sk.length → am_okS sk.length as → am_AR[k]? = some as.length → call k as sk mem (am_eq v sk' mem') → am_ret sk v sk'
theorem am_rev_ok {N a : Nat} {st : List Value} (h : am_okS N st) : am_okS N (st.take a).reverse := fun v hv => h v (List.mem_of_mem_take (List.mem_reverse.mp hv))
theorem am_drop_ok {N a : Nat} {st : List Value} (h : am_okS N st) : am_okS N (st.drop a) := fun v hv => h v (List.mem_of_mem_drop hv)
theorem am_push_ok {N : Nat} {v : Option Value} {r : List Value} (hv : ∀ x, v = some x → am_okv N x) (h : am_okS N r) : am_okS N (v.toList ++ r) := fun w hw => by
  rcases List.mem_append.mp hw with hw | hw
  · cases v with
    | none => simp at hw
    | some x =>
      simp only [Option.toList_some, List.mem_singleton] at hw
      subst hw
      exact hv _ rfl
  · exact h w hw
theorem am_stp_retv {norm : Instr} {nx : Nat} {L : am_L} {st : List Value} {sk : am_K} {mem : am_M} {v : Option Value} (hstp : am_stp norm nx L st sk mem = some (.inr (.inr v))) : st = v.toList := by
  cases norm
  case ireturn =>
    simp only [am_stp] at hstp
    split at hstp <;> cases hstp
    rfl
  case freturn =>
    simp only [am_stp] at hstp
    split at hstp
    · split at hstp <;> cases hstp
      rfl
    · cases hstp
  case lreturn =>
    simp only [am_stp] at hstp
    split at hstp
    · split at hstp <;> cases hstp
      rfl
    · cases hstp
  case dreturn =>
    simp only [am_stp] at hstp
    split at hstp
    · split at hstp <;> cases hstp
      rfl
    · cases hstp
  case areturn =>
    simp only [am_stp] at hstp
    split at hstp
    · split at hstp <;> cases hstp
      rfl
    · cases hstp
  case return_ =>
    simp only [am_stp] at hstp
    split at hstp <;> cases hstp
    rfl
  all_goals exfalso
  all_goals (simp only [am_stp, am_go, am_i1, am_i2, am_i2z, am_ild, am_ist, am_ald, am_ast, am_get, am_put, am_putR, am_alen, am_new, am_newa, am_newq, am_copy, am_inv, am_invV, am_ilo, am_alo, am_iso, am_aso, am_inc, am_if1, am_if2, am_tsw, am_lsw] at hstp)
  all_goals (repeat' (split at hstp))
  all_goals first | (cases hstp; done) | (simp at hstp; done)
theorem am_run_good {code : am_C} {call : am_CT} (hm : am_monoC call) (hd : am_detC call) (hg : am_goodC call) {v1 : Option Value} {sk1 : am_K} {mem1 : am_M} : ∀ (n pc : Nat) (L : am_L) (st : List Value) (sk : am_K) (mem : am_M), am_wf sk → 29 ≤ sk.length → am_okS sk.length st → am_okL sk.length L → am_run code call n pc L st sk mem (am_eq v1 sk1 mem1) → am_ret sk v1 sk1
  | 0, _, _, _, _, _, _, _, _, _, h => h.elim
  | n + 1, pc, L, st, sk, mem, hwf, h29, hst, hL, h => by
    unfold am_run at h
    split at h
    · exact h.elim
    · rename_i ins nx hat
      split at h
      · exact h.elim
      · rename_i hs
        obtain ⟨k1, k2, k3, k4, k5, k6⟩ := am_stp_ok hs hwf h29 hst hL
        obtain ⟨r1, r2, r3, r4⟩ := am_run_good hm hd hg n _ _ _ _ _ k6 (by omega) k1 k2 h
        exact ⟨by omega, by omega, r3, r4⟩
      · rename_i k as r hs
        obtain ⟨a, g1, g2, g3, rfl, rfl, -⟩ := am_stp_call hs
        obtain ⟨w, a1, b1, h1, h2⟩ := hd _ _ _ _ _ h
        have has : ((st.take a).reverse).length = a := by simp; omega
        obtain ⟨q1, q2, q3, q4⟩ := hg _ _ _ _ _ _ _ hwf h29 (am_rev_ok hst) (by rw [has]; exact g1) h2
        obtain ⟨r1, r2, r3, r4⟩ := am_run_good hm hd hg n _ _ _ _ _ q3 (by omega) (am_push_ok q4 ((am_drop_ok hst).up q1)) (hL.up q1) h1
        exact ⟨by omega, by omega, r3, r4⟩
      · rename_i hs
        obtain ⟨rfl, rfl, rfl⟩ := h
        have hv := am_stp_retv hs
        refine ⟨Nat.le_refl _, Nat.le_refl _, hwf, fun x hx => ?_⟩
        subst hx
        rw [hv] at hst
        exact hst x (by simp)
theorem am_L0_ok {k N : Nat} {as : List Value} (h : am_okS N as) : am_okL N (am_L0 k as) := by
  intro i v hv
  unfold am_L0 at hv
  by_cases hi : i < as.length
  · rw [List.getElem?_append_left (by simpa using hi), List.getElem?_map] at hv
    cases ha : as[i]? with
    | none => rw [ha] at hv; cases hv
    | some w =>
      rw [ha] at hv
      cases hv
      exact h _ (List.mem_of_getElem? ha)
  · rw [List.getElem?_append_right (by simpa using hi)] at hv
    have := List.mem_of_getElem? hv
    simp at this
theorem am_ex_good : ∀ d, am_goodC (am_ex d)
  | 0 => fun _ _ _ _ _ _ _ _ _ _ _ h => h.elim
  | d + 1 => fun k as sk mem v sk' mem' hwf h29 has _ h => by
    obtain ⟨n, h⟩ := h
    exact am_run_good (am_ex_mono d) (am_ex_det d) (am_ex_good d) n _ _ _ _ _ hwf h29 (fun _ hv => by cases hv) (am_L0_ok has) h
