/-! what every step keeps; the run is one run; depth -/
theorem am_okS.tl {N : Nat} {v : Value} {r : List Value} (h : am_okS N (v :: r)) : am_okS N r := fun w hw => h w (List.mem_cons_of_mem _ hw)
theorem am_okS.hd {N : Nat} {v : Value} {r : List Value} (h : am_okS N (v :: r)) : am_okv N v := h v List.mem_cons_self
theorem am_okS.cons {N : Nat} {v : Value} {r : List Value} (hv : am_okv N v) (h : am_okS N r) : am_okS N (v :: r) := fun w hw => by
  rcases List.mem_cons.mp hw with rfl | hw
  · exact hv
  · exact h w hw
theorem am_okS.up {N M : Nat} {r : List Value} (h : am_okS N r) (hN : N ≤ M) : am_okS M r := fun w hw => (h w hw).up hN
theorem am_okL.up {N M : Nat} {L : am_L} (h : am_okL N L) (hN : N ≤ M) : am_okL M L := fun i v hv => (h i v hv).up hN
def am_kp (sk : am_K) (L L' : am_L) (st' : List Value) (sk' : am_K) : Prop := am_okS sk'.length st' ∧ am_okL sk'.length L' ∧ L'.length = L.length ∧ sk.length ≤ sk'.length ∧ am_sz sk ≤ am_sz sk' ∧ am_wf sk'
theorem am_kp0 {sk : am_K} {L L' : am_L} {st' : List Value} (hwf : am_wf sk) (h1 : am_okS sk.length st') (h2 : am_okL sk.length L') (h3 : L'.length = L.length) : am_kp sk L L' st' sk := ⟨h1, h2, h3, Nat.le_refl _, Nat.le_refl _, hwf⟩
theorem am_kp1 {sk : am_K} {L : am_L} {st : List Value} {e : am_E} (hwf : am_wf sk) (h29 : 29 ≤ sk.length) (hn : ∀ z, some z ∉ e.2.2) (h23 : e.1 ≠ 13 ∧ e.1 ≠ 23) (h1 : am_okS sk.length st) (h2 : am_okL sk.length L) : am_kp sk L L (.ref sk.length :: st) (sk ++ [e]) := by
  have hl : (sk ++ [e]).length = sk.length + 1 := by simp
  refine ⟨am_okS.cons (by show sk.length < _; omega) (h1.up (by omega)), h2.up (by omega), rfl, by omega, by rw [am_sz_app]; omega, fun a y hy z hz => ?_, fun a y ha hy => ?_⟩
  · by_cases hal : a < sk.length
    · rw [List.getElem?_append_left hal] at hy
      have := hwf.1 a y hy z hz
      exact ⟨by omega, this.2⟩
    · have hal2 : a = sk.length := by
        have := (List.getElem?_eq_some_iff.mp hy).1
        omega
      subst hal2
      rw [List.getElem?_append_right (Nat.le_refl _), Nat.sub_self] at hy
      cases hy
      exact absurd hz (hn z)
  · by_cases hal : a < sk.length
    · rw [List.getElem?_append_left hal] at hy
      exact hwf.2 a y ha hy
    · have hal2 : a = sk.length := by
        have := (List.getElem?_eq_some_iff.mp hy).1
        omega
      subst hal2
      rw [List.getElem?_append_right (Nat.le_refl _), Nat.sub_self] at hy
      cases hy
      exact h23
set_option maxHeartbeats 4000000 in
theorem am_stp_ok {norm : Instr} {nx pc' : Nat} {L L' : am_L} {st st' : List Value} {sk sk' : am_K} {mem mem' : am_M} (hstp : am_stp norm nx L st sk mem = some (.inl (pc', L', st', sk', mem'))) (hwf : am_wf sk) (h29 : 29 ≤ sk.length) (hst : am_okS sk.length st) (hL : am_okL sk.length L) : am_kp sk L L' st' sk' := by
  cases norm
  case iadd =>
    obtain ⟨x, y, r, rfl, hz⟩ := am_i2_inv (show am_i2 (fun x y => x + y) nx L st sk mem = some _ from hstp)
    cases hz
    exact am_kp0 hwf (am_okS.cons trivial hst.tl.tl) hL rfl
  case isub =>
    obtain ⟨x, y, r, rfl, hz⟩ := am_i2_inv (show am_i2 (fun x y => x - y) nx L st sk mem = some _ from hstp)
    cases hz
    exact am_kp0 hwf (am_okS.cons trivial hst.tl.tl) hL rfl
  case imul =>
    obtain ⟨x, y, r, rfl, hz⟩ := am_i2_inv (show am_i2 (fun x y => x * y) nx L st sk mem = some _ from hstp)
    cases hz
    exact am_kp0 hwf (am_okS.cons trivial hst.tl.tl) hL rfl
  case iand =>
    obtain ⟨x, y, r, rfl, hz⟩ := am_i2_inv (show am_i2 (fun x y => x &&& y) nx L st sk mem = some _ from hstp)
    cases hz
    exact am_kp0 hwf (am_okS.cons trivial hst.tl.tl) hL rfl
  case ior =>
    obtain ⟨x, y, r, rfl, hz⟩ := am_i2_inv (show am_i2 (fun x y => x ||| y) nx L st sk mem = some _ from hstp)
    cases hz
    exact am_kp0 hwf (am_okS.cons trivial hst.tl.tl) hL rfl
  case ixor =>
    obtain ⟨x, y, r, rfl, hz⟩ := am_i2_inv (show am_i2 (fun x y => x ^^^ y) nx L st sk mem = some _ from hstp)
    cases hz
    exact am_kp0 hwf (am_okS.cons trivial hst.tl.tl) hL rfl
  case ishl =>
    obtain ⟨x, y, r, rfl, hz⟩ := am_i2_inv (show am_i2 (fun x y => x <<< (y &&& 31)) nx L st sk mem = some _ from hstp)
    cases hz
    exact am_kp0 hwf (am_okS.cons trivial hst.tl.tl) hL rfl
  case ishr =>
    obtain ⟨x, y, r, rfl, hz⟩ := am_i2_inv (show am_i2 (fun x y => x >>> (y &&& 31)) nx L st sk mem = some _ from hstp)
    cases hz
    exact am_kp0 hwf (am_okS.cons trivial hst.tl.tl) hL rfl
  case iushr =>
    obtain ⟨x, y, r, rfl, hz⟩ := am_i2_inv (show am_i2 (fun x y => (x.toUInt32 >>> (y.toUInt32 &&& Int32.toUInt32 31)).toInt32) nx L st sk mem = some _ from hstp)
    cases hz
    exact am_kp0 hwf (am_okS.cons trivial hst.tl.tl) hL rfl
  case idiv =>
    obtain ⟨x, y, r, rfl, hy, hz⟩ := am_i2z_inv (show am_i2z (fun x y => x / y) nx L st sk mem = some _ from hstp)
    cases hz
    exact am_kp0 hwf (am_okS.cons trivial hst.tl.tl) hL rfl
  case irem =>
    obtain ⟨x, y, r, rfl, hy, hz⟩ := am_i2z_inv (show am_i2z (fun x y => x - x / y * y) nx L st sk mem = some _ from hstp)
    cases hz
    exact am_kp0 hwf (am_okS.cons trivial hst.tl.tl) hL rfl
  case ineg =>
    obtain ⟨x, r, rfl, hz⟩ := am_i1_inv (show am_i1 (fun x => -x) nx L st sk mem = some _ from hstp)
    cases hz
    exact am_kp0 hwf (am_okS.cons trivial hst.tl) hL rfl
  case i2s =>
    obtain ⟨x, r, rfl, hz⟩ := am_i1_inv (show am_i1 (fun x => x.toInt16.toInt32) nx L st sk mem = some _ from hstp)
    cases hz
    exact am_kp0 hwf (am_okS.cons trivial hst.tl) hL rfl
  case i2b =>
    obtain ⟨x, r, rfl, hz⟩ := am_i1_inv (show am_i1 (fun x => x.toInt8.toInt32) nx L st sk mem = some _ from hstp)
    cases hz
    exact am_kp0 hwf (am_okS.cons trivial hst.tl) hL rfl
  case i2c =>
    obtain ⟨x, r, rfl, hz⟩ := am_i1_inv (show am_i1 (fun x => (x.toUInt32 % 65536).toInt32) nx L st sk mem = some _ from hstp)
    cases hz
    exact am_kp0 hwf (am_okS.cons trivial hst.tl) hL rfl
  case iconst v =>
    cases (show am_go nx L (.int (Int32.ofInt v) :: st) sk mem = some _ from hstp)
    exact am_kp0 hwf (am_okS.cons trivial hst) hL rfl
  case iload i =>
    obtain ⟨x, hi, hz⟩ := am_ilo_inv (show am_ilo i nx L st sk mem = some _ from hstp)
    cases hz
    exact am_kp0 hwf (am_okS.cons trivial hst) hL rfl
  case aload i =>
    obtain ⟨x, hi, hx, hz⟩ := am_alo_inv (show am_alo i nx L st sk mem = some _ from hstp)
    cases hz
    exact am_kp0 hwf (am_okS.cons (hL i _ hi) hst) hL rfl
  case istore i =>
    obtain ⟨x, r, rfl, hi, hz⟩ := am_iso_inv (show am_iso i nx L st sk mem = some _ from hstp)
    cases hz
    exact am_kp0 hwf hst.tl (hL.set hst.hd) List.length_set
  case astore i =>
    obtain ⟨x, r, rfl, hi, hx, hz⟩ := am_aso_inv (show am_aso i nx L st sk mem = some _ from hstp)
    cases hz
    exact am_kp0 hwf hst.tl (hL.set hst.hd) List.length_set
  case iinc i k =>
    obtain ⟨x, hi, hz⟩ := am_inc_inv (show am_inc i k nx L st sk mem = some _ from hstp)
    cases hz
    exact am_kp0 hwf hst (hL.set trivial) List.length_set
  case dup =>
    cases st with
    | nil => exact nomatch (show (none : Option am_N) = some _ from hstp)
    | cons v r =>
      have h2 : (if v.category = 1 then am_go nx L (v :: v :: r) sk mem else none) = some (.inl (pc', L', st', sk', mem')) := hstp
      rw [if_pos hst.hd.cat] at h2
      cases h2
      exact am_kp0 hwf (am_okS.cons hst.hd hst) hL rfl
  case dup2 =>
    cases st with
    | nil => exact nomatch (show (none : Option am_N) = some _ from hstp)
    | cons v r =>
      cases r with
      | nil => exact nomatch (show (none : Option am_N) = some _ from hstp)
      | cons w r =>
        have h2 : (if v.category = 1 ∧ w.category = 1 then am_go nx L (v :: w :: v :: w :: r) sk mem else none) = some (.inl (pc', L', st', sk', mem')) := hstp
        rw [if_pos ⟨hst.hd.cat, hst.tl.hd.cat⟩] at h2
        cases h2
        exact am_kp0 hwf (am_okS.cons hst.hd (am_okS.cons hst.tl.hd hst)) hL rfl
  case pop =>
    cases st with
    | nil => exact nomatch (show (none : Option am_N) = some _ from hstp)
    | cons v r =>
      cases v with
      | int x =>
        cases (show am_go nx L r sk mem = some _ from hstp)
        exact am_kp0 hwf hst.tl hL rfl
      | _ => exact nomatch (show (none : Option am_N) = some _ from hstp)
  case pop2 =>
    cases st with
    | nil => exact nomatch (show (none : Option am_N) = some _ from hstp)
    | cons v r =>
      cases v with
      | ref q =>
        have h2 : (if r.length ≤ 8 ∧ q ≠ 28 then am_go nx L r sk mem else none) = some (.inl (pc', L', st', sk', mem')) := hstp
        split at h2
        · cases h2
          exact am_kp0 hwf hst.tl hL rfl
        · cases h2
      | _ => exact nomatch (show (none : Option am_N) = some _ from hstp)
  case ldc i =>
    have h2 : (if i < 13 then am_go nx L (.ref (2 + i) :: st) sk mem else none) = some (.inl (pc', L', st', sk', mem')) := hstp
    split at h2
    · cases h2
      exact am_kp0 hwf (am_okS.cons (by show 2 + i < sk.length; omega) hst) hL rfl
    · cases h2
  case getstatic i =>
    have h2 : am_go nx L (am_gsv i :: st) sk mem = some (.inl (pc', L', st', sk', mem')) := hstp
    cases h2
    refine am_kp0 hwf (am_okS.cons ?_ hst) hL rfl
    match i with
    | 0 => show 0 < sk.length; omega
    | 1 => exact trivial
    | _ + 2 => show 28 < sk.length; omega
  case getfield f =>
    obtain ⟨q, r, N, rs, rfl, h1, h2, h3⟩ := am_get_inv (show am_get f nx L st sk mem = some _ from hstp)
    rcases h3 with ⟨h3, y, hy, hz⟩ | ⟨h3, hz⟩
    · cases hz
      exact am_kp0 hwf (am_okS.cons (hwf.1 q _ h1 y (List.mem_of_getElem? hy)).1 hst.tl) hL rfl
    · cases hz
      exact am_kp0 hwf (am_okS.cons trivial hst.tl) hL rfl
  case putfield f =>
    obtain ⟨x, q, r, N, rs, rfl, h1, h2, h3, h4, hz⟩ := am_put_inv (show am_put f nx L st sk mem = some _ from hstp)
    cases hz
    exact am_kp0 hwf hst.tl.tl hL rfl
  case putstatic f =>
    obtain ⟨y, q, r, N, rs, rfl, h1, h2, h3, h4, h5, h6, h7, hz⟩ := am_putR_inv (show am_putR f nx L st sk mem = some _ from hstp)
    cases hz
    have hl : (sk.set q (f / 64, N, rs.set (f % 64) (some y))).length = sk.length := List.length_set
    refine ⟨by rw [hl]; exact hst.tl.tl, by rw [hl]; exact hL, rfl, by omega, Nat.le_of_eq (Eq.symm (am_sz_set h1 (by rfl))), am_wf.set hwf h1 rfl (fun z hz => ?_)⟩
    rcases List.mem_or_eq_of_mem_set hz with h | h
    · exact Or.inl h
    · cases h; exact Or.inr ⟨h5, fun e => by rw [e] at h4; exact absurd h4 (by decide)⟩
  case iaload =>
    obtain ⟨i, q, r, N, rs, rfl, h1, h2, hz⟩ := am_ild_inv (show am_ild 20 nx L st sk mem = some _ from hstp)
    cases hz
    exact am_kp0 hwf (am_okS.cons trivial hst.tl.tl) hL rfl
  case baload =>
    obtain ⟨i, q, r, N, rs, rfl, h1, h2, hz⟩ := am_ild_inv (show am_ild 21 nx L st sk mem = some _ from hstp)
    cases hz
    exact am_kp0 hwf (am_okS.cons trivial hst.tl.tl) hL rfl
  case caload =>
    obtain ⟨i, q, r, N, rs, rfl, h1, h2, hz⟩ := am_ild_inv (show am_ild 22 nx L st sk mem = some _ from hstp)
    cases hz
    exact am_kp0 hwf (am_okS.cons trivial hst.tl.tl) hL rfl
  case saload =>
    obtain ⟨i, q, r, N, rs, rfl, h1, h2, hz⟩ := am_ild_inv (show am_ild 23 nx L st sk mem = some _ from hstp)
    cases hz
    exact am_kp0 hwf (am_okS.cons trivial hst.tl.tl) hL rfl
  case iastore =>
    obtain ⟨y, i, q, r, N, rs, rfl, h1, h2, h3, h4, hz⟩ := am_ist_inv (show am_ist 20 nx L st sk mem = some _ from hstp)
    cases hz
    exact am_kp0 hwf hst.tl.tl.tl hL rfl
  case bastore =>
    obtain ⟨y, i, q, r, N, rs, rfl, h1, h2, h3, h4, hz⟩ := am_ist_inv (show am_ist 21 nx L st sk mem = some _ from hstp)
    cases hz
    exact am_kp0 hwf hst.tl.tl.tl hL rfl
  case castore =>
    obtain ⟨y, i, q, r, N, rs, rfl, h1, h2, h3, h4, hz⟩ := am_ist_inv (show am_ist 22 nx L st sk mem = some _ from hstp)
    cases hz
    exact am_kp0 hwf hst.tl.tl.tl hL rfl
  case aaload =>
    obtain ⟨i, q, r, k, N, rs, y, rfl, h1, h2, h3, h4, h5, hz⟩ := am_ald_inv (show am_ald nx L st sk mem = some _ from hstp)
    cases hz
    exact am_kp0 hwf (am_okS.cons (hwf.1 q _ h1 y (List.mem_of_getElem? h5)).1 hst.tl.tl) hL rfl
  case aastore =>
    obtain ⟨y, i, q, r, N, rs, kz, a, b, rfl, h1, h2, h3, h4, h5, h6, h7, hz⟩ := am_ast_inv (show am_ast nx L st sk mem = some _ from hstp)
    cases hz
    have hl : (sk.set q (kz + 30, N, rs.set i.toNatClampNeg (some y))).length = sk.length := List.length_set
    have hy := (List.getElem?_eq_some_iff.mp h2).1
    refine ⟨by rw [hl]; exact hst.tl.tl.tl, by rw [hl]; exact hL, rfl, by omega, Nat.le_of_eq (Eq.symm (am_sz_set h1 (by rfl))), am_wf.set hwf h1 rfl (fun z hz => ?_)⟩
    rcases List.mem_or_eq_of_mem_set hz with h | h
    · exact Or.inl h
    · cases h; exact Or.inr ⟨hy, fun e => by rw [e] at h4; exact absurd h4 (by decide)⟩
  case arraylength =>
    obtain ⟨q, r, k, N, rs, rfl, h1, h2, h3, hz⟩ := am_alen_inv (show am_alen nx L st sk mem = some _ from hstp)
    cases hz
    exact am_kp0 hwf (am_okS.cons trivial hst.tl) hL rfl
  case new k =>
    obtain ⟨N, h1, hz⟩ := am_new_inv (show am_new k nx L st sk mem = some _ from hstp)
    cases hz
    have hk : k < 13 := (List.getElem?_eq_some_iff.mp h1).1
    exact am_kp1 hwf h29 (fun z hz => by simp at hz) ⟨by show k ≠ 13; omega, by show k ≠ 23; omega⟩ hst hL
  case newarray t =>
    cases t
    · obtain ⟨i, r, rfl, h1, h2, hz⟩ := am_newa_inv (show am_newa 21 nx L st sk mem = some _ from hstp)
      cases hz
      exact am_kp1 hwf h29 (fun z hz => by simp at hz) ⟨Nat.ne_of_beq_eq_false rfl, Nat.ne_of_beq_eq_false rfl⟩ hst.tl hL
    · obtain ⟨i, r, rfl, h1, h2, hz⟩ := am_newa_inv (show am_newa 22 nx L st sk mem = some _ from hstp)
      cases hz
      exact am_kp1 hwf h29 (fun z hz => by simp at hz) ⟨Nat.ne_of_beq_eq_false rfl, Nat.ne_of_beq_eq_false rfl⟩ hst.tl hL
    · exact nomatch (show (none : Option am_N) = some _ from hstp)
    · exact nomatch (show (none : Option am_N) = some _ from hstp)
    · exact nomatch (show (none : Option am_N) = some _ from hstp)
    · exact nomatch (show (none : Option am_N) = some _ from hstp)
    · obtain ⟨i, r, rfl, h1, h2, hz⟩ := am_newa_inv (show am_newa 20 nx L st sk mem = some _ from hstp)
      cases hz
      exact am_kp1 hwf h29 (fun z hz => by simp at hz) ⟨Nat.ne_of_beq_eq_false rfl, Nat.ne_of_beq_eq_false rfl⟩ hst.tl hL
    · exact nomatch (show (none : Option am_N) = some _ from hstp)
  case anewarray k =>
    obtain ⟨i, r, rfl, h1, h2, hz⟩ := am_newq_inv (show am_newq k nx L st sk mem = some _ from hstp)
    cases hz
    exact am_kp1 hwf h29 (fun z hz => by simp at hz) ⟨by show 30 + k ≠ 13; omega, by show 30 + k ≠ 23; omega⟩ hst.tl hL
  case invokestatic k =>
    obtain ⟨a, -, -, -, hz⟩ := am_inv_inv (show am_inv k st = some _ from hstp)
    cases hz
  case invokespecial k =>
    obtain ⟨a, q, r, kd, N, rs, -, -, -, -, -, -, hz⟩ := am_invV_inv (show am_invV k st sk = some _ from hstp)
    cases hz
  case invokevirtual k =>
    obtain ⟨a, q, r, kd, N, rs, -, -, -, -, -, -, hz⟩ := am_invV_inv (show am_invV k st sk = some _ from hstp)
    cases hz
  case invokedynamic k =>
    obtain ⟨i, dp, b, sp, a, r, na, nb, ra, rb, rfl, h1, h2, h3, h4, h5, h6, h7, h8, h9, h10, hz⟩ := am_copy_inv (show am_copy nx L st sk mem = some _ from hstp)
    cases hz
    exact am_kp0 hwf hst.tl.tl.tl.tl.tl hL rfl
  case ifCond k t =>
    obtain ⟨x, r, rfl, hz⟩ := am_if1_inv (show am_if1 k t nx L st sk mem = some _ from hstp)
    cases hz
    exact am_kp0 hwf hst.tl hL rfl
  case if_icmp k t =>
    obtain ⟨x, y, r, rfl, hz⟩ := am_if2_inv (show am_if2 k t nx L st sk mem = some _ from hstp)
    cases hz
    exact am_kp0 hwf hst.tl.tl hL rfl
  case goto t =>
    cases (show am_go t.toNat L st sk mem = some _ from hstp)
    exact am_kp0 hwf hst hL rfl
  case tableswitch d lo hi ts =>
    obtain ⟨x, r, rfl, hz⟩ := am_tsw_inv (show am_tsw d lo hi ts L st sk mem = some _ from hstp)
    rcases hz with ⟨h1, hz⟩ | ⟨h1, t, ht, hz⟩
    · cases hz
      exact am_kp0 hwf hst.tl hL rfl
    · cases hz
      exact am_kp0 hwf hst.tl hL rfl
  case lookupswitch d ps =>
    obtain ⟨x, r, rfl, hz⟩ := am_lsw_inv (show am_lsw d ps L st sk mem = some _ from hstp)
    cases hz
    exact am_kp0 hwf hst.tl hL rfl
  case ireturn =>
    simp only [am_stp] at hstp
    repeat' (split at hstp)
    all_goals cases hstp
  case freturn =>
    simp only [am_stp] at hstp
    repeat' (split at hstp)
    all_goals cases hstp
  case lreturn =>
    simp only [am_stp] at hstp
    repeat' (split at hstp)
    all_goals cases hstp
  case dreturn =>
    simp only [am_stp] at hstp
    repeat' (split at hstp)
    all_goals cases hstp
  case areturn =>
    simp only [am_stp] at hstp
    repeat' (split at hstp)
    all_goals cases hstp
  case return_ =>
    simp only [am_stp] at hstp
    repeat' (split at hstp)
    all_goals cases hstp
  all_goals exact nomatch (show (none : Option am_N) = some _ from hstp)
/-- a call: which instruction it is -/
theorem am_stp_call {norm : Instr} {nx k : Nat} {L : am_L} {st as r : List Value} {sk : am_K} {mem : am_M} (hstp : am_stp norm nx L st sk mem = some (.inr (.inl (k, as, r)))) : ∃ a, am_AR[k]? = some a ∧ a ≤ st.length ∧ st.length ≤ a + 8 ∧ as = (st.take a).reverse ∧ r = st.drop a ∧ (norm = .invokestatic k ∨ ((norm = .invokespecial k ∨ norm = .invokevirtual k) ∧ ∃ q w kd N rs, as = .ref q :: w ∧ sk[q]? = some (kd, N, rs) ∧ am_RC[k]? = some kd)) := by
  cases norm
  case invokestatic k2 =>
    obtain ⟨a, h1, h2, h3, hz⟩ := am_inv_inv (show am_inv k2 st = some _ from hstp)
    cases hz
    exact ⟨a, h1, h2, h3, rfl, rfl, Or.inl rfl⟩
  case invokespecial k2 =>
    obtain ⟨a, q, w, kd, N, rs, h1, h2, h3, h4, h5, h6, hz⟩ := am_invV_inv (show am_invV k2 st sk = some _ from hstp)
    cases hz
    exact ⟨a, h1, h2, h3, rfl, rfl, Or.inr ⟨Or.inl rfl, q, w, kd, N, rs, h4, h5, h6⟩⟩
  case invokevirtual k2 =>
    obtain ⟨a, q, w, kd, N, rs, h1, h2, h3, h4, h5, h6, hz⟩ := am_invV_inv (show am_invV k2 st sk = some _ from hstp)
    cases hz
    exact ⟨a, h1, h2, h3, rfl, rfl, Or.inr ⟨Or.inr rfl, q, w, kd, N, rs, h4, h5, h6⟩⟩
  all_goals exfalso
  all_goals (simp only [am_stp, am_go, am_i1, am_i2, am_i2z, am_ild, am_ist, am_ald, am_ast, am_get, am_put, am_putR, am_alen, am_new, am_newa, am_newq, am_copy, am_ilo, am_alo, am_iso, am_aso, am_inc, am_if1, am_if2, am_tsw, am_lsw] at hstp)
  all_goals (repeat' (split at hstp))
  all_goals first | (cases hstp; done) | (simp at hstp; done)
def am_isret (raw : Instr) (ret : Option FieldType) (v : Option Value) : Prop := (raw = .ireturn ∧ ∃ (x : Int32) (ty : FieldType), v = some (.int x) ∧ ret = some ty ∧ narrow ty (.int x) = .int x) ∨ (raw = .areturn ∧ ∃ (q : Nat) (C : String), v = some (.ref q) ∧ ret = some (.object C) ∧ q ≠ 28) ∨ (raw = .return_ ∧ v = none ∧ ret = none)
theorem am_stp_ret {norm raw : Instr} {pc nx pl : Nat} {own : String} {init : Bool} {ret : Option FieldType} {cc : ByteArray} {L : am_L} {st : List Value} {sk : am_K} {mem : am_M} {v : Option Value} (hrow : am_rowok own init ret cc (pc, norm, nx) (raw, pl) = true) (hstp : am_stp norm nx L st sk mem = some (.inr (.inr v))) : decode cc pc = .ok (raw, 1) ∧ am_isret raw ret v ∧ st = v.toList := by
  obtain ⟨h1, h2, h3⟩ := am_row_dec hrow
  cases norm
  case ireturn =>
    simp only [am_lk, decide_eq_true_eq] at h3
    obtain ⟨rfl, rfl, rfl⟩ := h3
    rw [show pc + 1 - pc = 1 by omega] at h1
    simp only [am_stp] at hstp
    split at hstp <;> cases hstp
    exact ⟨h1, Or.inl ⟨rfl, _, _, rfl, rfl, rfl⟩, rfl⟩
  case freturn =>
    simp only [am_lk, decide_eq_true_eq] at h3
    obtain ⟨rfl, rfl, rfl⟩ := h3
    rw [show pc + 1 - pc = 1 by omega] at h1
    simp only [am_stp] at hstp
    split at hstp
    · split at hstp <;> cases hstp
      rename_i x hx
      exact ⟨h1, Or.inl ⟨rfl, x, _, rfl, rfl, by rcases hx with rfl | rfl <;> rfl⟩, rfl⟩
    · cases hstp
  case lreturn =>
    simp only [am_lk, decide_eq_true_eq] at h3
    obtain ⟨rfl, rfl, rfl⟩ := h3
    rw [show pc + 1 - pc = 1 by omega] at h1
    simp only [am_stp] at hstp
    split at hstp
    · split at hstp <;> cases hstp
      rename_i x hx
      exact ⟨h1, Or.inl ⟨rfl, x, _, rfl, rfl, congrArg Value.int hx⟩, rfl⟩
    · cases hstp
  case dreturn =>
    simp only [am_lk, decide_eq_true_eq] at h3
    obtain ⟨rfl, rfl, rfl⟩ := h3
    rw [show pc + 1 - pc = 1 by omega] at h1
    simp only [am_stp] at hstp
    split at hstp
    · split at hstp <;> cases hstp
      rename_i x hx
      exact ⟨h1, Or.inl ⟨rfl, x, _, rfl, rfl, congrArg Value.int hx⟩, rfl⟩
    · cases hstp
  case areturn =>
    simp only [am_lk, Bool.and_eq_true, decide_eq_true_eq] at h3
    obtain ⟨⟨rfl, rfl⟩, h4⟩ := h3
    rw [show pc + 1 - pc = 1 by omega] at h1
    simp only [am_stp] at hstp
    split at hstp
    · split at hstp <;> cases hstp
      rename_i q hq
      split at h4
      · exact ⟨h1, Or.inr (Or.inl ⟨rfl, q, _, rfl, rfl, hq⟩), rfl⟩
      · cases h4
    · cases hstp
  case return_ =>
    simp only [am_lk, decide_eq_true_eq] at h3
    obtain ⟨rfl, rfl, rfl⟩ := h3
    rw [show pc + 1 - pc = 1 by omega] at h1
    simp only [am_stp] at hstp
    split at hstp <;> cases hstp
    exact ⟨h1, Or.inr (Or.inr ⟨rfl, rfl, rfl⟩), rfl⟩
  all_goals exfalso
  all_goals (simp only [am_stp, am_go, am_i1, am_i2, am_i2z, am_ild, am_ist, am_ald, am_ast, am_get, am_put, am_putR, am_alen, am_new, am_newa, am_newq, am_copy, am_inv, am_invV, am_ilo, am_alo, am_iso, am_aso, am_inc, am_if1, am_if2, am_tsw, am_lsw] at hstp)
  all_goals (repeat' (split at hstp))
  all_goals first | (cases hstp; done) | (simp at hstp; done)
