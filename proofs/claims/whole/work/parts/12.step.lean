/-! one step, whatever the instruction -/
section AMT
variable {p : Program} {l : Launch} {e : Env} {R : Room} {s : State} {m : MethodId} {args : Array Value} {below : List Frame} {meth : Method} {c : Code} {Qf : State → Prop} {D : va_G} {fm : Value} {n : Nat} {xs : Nat → Int32} {A : Nat → Prop} {cc : ByteArray} {own : String} {init : Bool} {ret : Option FieldType} {nL : Nat}
variable {pc nx : Nat} {L : am_L} {st : List Value} {sk : am_K} {mem : am_M} {ad : Nat → Nat} {aC : Nat → ClassId} {cells slots : Nat} {raw norm : Instr} {pl : Nat}
set_option maxHeartbeats 4000000 in
theorem am_step {pc' : Nat} {L' : am_L} {st' : List Value} {sk' : am_K} {mem' : am_M} (hm : am_Me p s m args meth c D fm A cc own init nL) (hrow : am_rowok own init ret cc (pc, norm, nx) (raw, pl) = true) (hstp : am_stp norm nx L st sk mem = some (.inl (pc', L', st', sk', mem'))) (hst : am_okS sk.length st) (hL : am_okL sk.length L) (hLn : L.length = nL) (hRf : 1 ≤ R.frames) (hRl : 64 ≤ R.locals) (hc : cells + (sk'.length - sk.length) ≤ R.cells) (hs : slots + (am_sz sk' - am_sz sk) ≤ R.slots)
    (kk : ∀ (ad' : Nat → Nat) (aC' : Nat → ClassId), (∀ o, o < sk.length → ad' o = ad o ∧ aC' o = aC o) → am_K1 p l e R s m args below meth c Qf D fm n xs A pc' L' st' sk' mem' ad' aC' (cells + (sk'.length - sk.length)) (slots + (am_sz sk' - am_sz sk))) : am_K1 p l e R s m args below meth c Qf D fm n xs A pc L st sk mem ad aC cells slots := by
  cases norm
  case iadd =>
    obtain ⟨x, y, r, rfl, hz⟩ := am_i2_inv (show am_i2 (fun x y => x + y) nx L st sk mem = some _ from hstp)
    cases hz
    exact am_x_iadd hm hrow (am_keep kk)
  case isub =>
    obtain ⟨x, y, r, rfl, hz⟩ := am_i2_inv (show am_i2 (fun x y => x - y) nx L st sk mem = some _ from hstp)
    cases hz
    exact am_x_isub hm hrow (am_keep kk)
  case imul =>
    obtain ⟨x, y, r, rfl, hz⟩ := am_i2_inv (show am_i2 (fun x y => x * y) nx L st sk mem = some _ from hstp)
    cases hz
    exact am_x_imul hm hrow (am_keep kk)
  case iand =>
    obtain ⟨x, y, r, rfl, hz⟩ := am_i2_inv (show am_i2 (fun x y => x &&& y) nx L st sk mem = some _ from hstp)
    cases hz
    exact am_x_iand hm hrow (am_keep kk)
  case ior =>
    obtain ⟨x, y, r, rfl, hz⟩ := am_i2_inv (show am_i2 (fun x y => x ||| y) nx L st sk mem = some _ from hstp)
    cases hz
    exact am_x_ior hm hrow (am_keep kk)
  case ixor =>
    obtain ⟨x, y, r, rfl, hz⟩ := am_i2_inv (show am_i2 (fun x y => x ^^^ y) nx L st sk mem = some _ from hstp)
    cases hz
    exact am_x_ixor hm hrow (am_keep kk)
  case ishl =>
    obtain ⟨x, y, r, rfl, hz⟩ := am_i2_inv (show am_i2 (fun x y => x <<< (y &&& 31)) nx L st sk mem = some _ from hstp)
    cases hz
    exact am_x_ishl hm hrow (am_keep kk)
  case ishr =>
    obtain ⟨x, y, r, rfl, hz⟩ := am_i2_inv (show am_i2 (fun x y => x >>> (y &&& 31)) nx L st sk mem = some _ from hstp)
    cases hz
    exact am_x_ishr hm hrow (am_keep kk)
  case iushr =>
    obtain ⟨x, y, r, rfl, hz⟩ := am_i2_inv (show am_i2 (fun x y => (x.toUInt32 >>> (y.toUInt32 &&& Int32.toUInt32 31)).toInt32) nx L st sk mem = some _ from hstp)
    cases hz
    exact am_x_iushr hm hrow (am_keep kk)
  case idiv =>
    obtain ⟨x, y, r, rfl, hy, hz⟩ := am_i2z_inv (show am_i2z (fun x y => x / y) nx L st sk mem = some _ from hstp)
    cases hz
    exact am_x_idiv hm hrow hy (am_keep kk)
  case irem =>
    obtain ⟨x, y, r, rfl, hy, hz⟩ := am_i2z_inv (show am_i2z (fun x y => x - x / y * y) nx L st sk mem = some _ from hstp)
    cases hz
    exact am_x_irem hm hrow hy (am_keep kk)
  case ineg =>
    obtain ⟨x, r, rfl, hz⟩ := am_i1_inv (show am_i1 (fun x => -x) nx L st sk mem = some _ from hstp)
    cases hz
    exact am_x_ineg hm hrow (am_keep kk)
  case i2s =>
    obtain ⟨x, r, rfl, hz⟩ := am_i1_inv (show am_i1 (fun x => x.toInt16.toInt32) nx L st sk mem = some _ from hstp)
    cases hz
    exact am_x_i2s hm hrow (am_keep kk)
  case i2b =>
    obtain ⟨x, r, rfl, hz⟩ := am_i1_inv (show am_i1 (fun x => x.toInt8.toInt32) nx L st sk mem = some _ from hstp)
    cases hz
    exact am_x_i2b hm hrow (am_keep kk)
  case i2c =>
    obtain ⟨x, r, rfl, hz⟩ := am_i1_inv (show am_i1 (fun x => (x.toUInt32 % 65536).toInt32) nx L st sk mem = some _ from hstp)
    cases hz
    exact am_x_i2c hm hrow (am_keep kk)
  case iconst v =>
    cases (show am_go nx L (.int (Int32.ofInt v) :: st) sk mem = some _ from hstp)
    exact am_x_iconst hm hrow (am_keep kk)
  case iload i =>
    obtain ⟨x, hi, hz⟩ := am_ilo_inv (show am_ilo i nx L st sk mem = some _ from hstp)
    cases hz
    exact am_x_iload hm hrow hi (am_keep kk)
  case aload i =>
    obtain ⟨x, hi, hx, hz⟩ := am_alo_inv (show am_alo i nx L st sk mem = some _ from hstp)
    cases hz
    exact am_x_aload hm hrow hi hx (am_keep kk)
  case istore i =>
    obtain ⟨x, r, rfl, hi, hz⟩ := am_iso_inv (show am_iso i nx L st sk mem = some _ from hstp)
    cases hz
    exact am_x_istore hm hrow hi hL (am_keep kk)
  case astore i =>
    obtain ⟨x, r, rfl, hi, hx, hz⟩ := am_aso_inv (show am_aso i nx L st sk mem = some _ from hstp)
    cases hz
    exact am_x_astore hm hrow hx hi hL (am_keep kk)
  case iinc i k =>
    obtain ⟨x, hi, hz⟩ := am_inc_inv (show am_inc i k nx L st sk mem = some _ from hstp)
    cases hz
    exact am_x_iinc hm hrow hi hL (am_keep kk)
  case dup =>
    cases st with
    | nil => exact nomatch (show (none : Option am_N) = some _ from hstp)
    | cons v r =>
      have hv := (hst v List.mem_cons_self).cat
      have h2 : (if v.category = 1 then am_go nx L (v :: v :: r) sk mem else none) = some (.inl (pc', L', st', sk', mem')) := hstp
      rw [if_pos hv] at h2
      cases h2
      exact am_x_dup hm hrow hv (am_keep kk)
  case dup2 =>
    cases st with
    | nil => exact nomatch (show (none : Option am_N) = some _ from hstp)
    | cons v r =>
      cases r with
      | nil => exact nomatch (show (none : Option am_N) = some _ from hstp)
      | cons w r =>
        have hv := (hst v List.mem_cons_self).cat
        have hw := (hst w (List.mem_cons_of_mem _ List.mem_cons_self)).cat
        have h2 : (if v.category = 1 ∧ w.category = 1 then am_go nx L (v :: w :: v :: w :: r) sk mem else none) = some (.inl (pc', L', st', sk', mem')) := hstp
        rw [if_pos ⟨hv, hw⟩] at h2
        cases h2
        exact am_x_dup2 hm hrow hv hw (am_keep kk)
  case pop =>
    cases st with
    | nil => exact nomatch (show (none : Option am_N) = some _ from hstp)
    | cons v r =>
      cases v with
      | int x =>
        cases (show am_go nx L r sk mem = some _ from hstp)
        exact am_x_pop hm hrow (am_keep kk)
      | _ => exact nomatch (show (none : Option am_N) = some _ from hstp)
  case pop2 =>
    cases st with
    | nil => exact nomatch (show (none : Option am_N) = some _ from hstp)
    | cons v r =>
      cases v with
      | ref q =>
        have h2 : (if r.length ≤ 8 ∧ q ≠ 28 then am_go nx L r sk mem else none) = some (.inl (pc', L', st', sk', mem')) := hstp
        split at h2
        · rename_i h3
          cases h2
          exact am_x_pop2 hm hrow h3.2 (fun w hw => hst w (List.mem_cons_of_mem _ hw)) h3.1 hLn hRf hRl (am_keep kk)
        · cases h2
      | _ => exact nomatch (show (none : Option am_N) = some _ from hstp)
  case ldc i =>
    have h2 : (if i < 13 then am_go nx L (.ref (2 + i) :: st) sk mem else none) = some (.inl (pc', L', st', sk', mem')) := hstp
    split at h2
    · rename_i h3
      cases h2
      exact am_x_ldc hm hrow h3 (am_keep kk)
    · cases h2
  case getstatic i =>
    have h2 : am_go nx L (am_gsv i :: st) sk mem = some (.inl (pc', L', st', sk', mem')) := hstp
    cases h2
    exact am_x_gets hm hrow (am_keep kk)
  case getfield f =>
    obtain ⟨q, r, N, rs, rfl, h1, h2, h3⟩ := am_get_inv (show am_get f nx L st sk mem = some _ from hstp)
    rcases h3 with ⟨h3, y, hy, hz⟩ | ⟨h3, hz⟩
    · cases hz
      exact am_x_get hm hrow h1 h2 (Or.inl ⟨h3, y, hy, rfl⟩) (am_keep kk)
    · cases hz
      exact am_x_get hm hrow h1 h2 (Or.inr ⟨h3, rfl⟩) (am_keep kk)
  case putfield f =>
    obtain ⟨x, q, r, N, rs, rfl, h1, h2, h3, h4, hz⟩ := am_put_inv (show am_put f nx L st sk mem = some _ from hstp)
    cases hz
    exact am_x_put hm hrow h1 h2 h3 h4 (am_keep kk)
  case putstatic f =>
    obtain ⟨y, q, r, N, rs, rfl, h1, h2, h3, h4, h5, h6, h7, hz⟩ := am_putR_inv (show am_putR f nx L st sk mem = some _ from hstp)
    cases hz
    exact am_x_putR hm hrow h1 h2 h3 h4 h5 h6 h7 (am_keep2 List.length_set (am_sz_set h1 rfl) kk)
  case iaload =>
    obtain ⟨i, q, r, N, rs, rfl, h1, h2, hz⟩ := am_ild_inv (show am_ild 20 nx L st sk mem = some _ from hstp)
    cases hz
    exact am_x_iald hm hrow h1 h2 (am_keep kk)
  case baload =>
    obtain ⟨i, q, r, N, rs, rfl, h1, h2, hz⟩ := am_ild_inv (show am_ild 21 nx L st sk mem = some _ from hstp)
    cases hz
    exact am_x_zald hm hrow h1 h2 (am_keep kk)
  case caload =>
    obtain ⟨i, q, r, N, rs, rfl, h1, h2, hz⟩ := am_ild_inv (show am_ild 22 nx L st sk mem = some _ from hstp)
    cases hz
    exact am_x_cald hm hrow h1 h2 (am_keep kk)
  case saload =>
    obtain ⟨i, q, r, N, rs, rfl, h1, h2, hz⟩ := am_ild_inv (show am_ild 23 nx L st sk mem = some _ from hstp)
    cases hz
    exact am_x_bald hm hrow h1 h2 (am_keep kk)
  case iastore =>
    obtain ⟨y, i, q, r, N, rs, rfl, h1, h2, h3, h4, hz⟩ := am_ist_inv (show am_ist 20 nx L st sk mem = some _ from hstp)
    cases hz
    exact am_x_iast hm hrow h1 h2 h3 h4 (am_keep kk)
  case bastore =>
    obtain ⟨y, i, q, r, N, rs, rfl, h1, h2, h3, h4, hz⟩ := am_ist_inv (show am_ist 21 nx L st sk mem = some _ from hstp)
    cases hz
    exact am_x_zast hm hrow h1 h2 h3 h4 (am_keep kk)
  case castore =>
    obtain ⟨y, i, q, r, N, rs, rfl, h1, h2, h3, h4, hz⟩ := am_ist_inv (show am_ist 22 nx L st sk mem = some _ from hstp)
    cases hz
    exact am_x_cast hm hrow h1 h2 h3 h4 (am_keep kk)
  case aaload =>
    obtain ⟨i, q, r, k, N, rs, y, rfl, h1, h2, h3, h4, h5, hz⟩ := am_ald_inv (show am_ald nx L st sk mem = some _ from hstp)
    cases hz
    exact am_x_ald hm hrow h1 h2 h3 h4 h5 (am_keep kk)
  case aastore =>
    obtain ⟨y, i, q, r, N, rs, kz, a, b, rfl, h1, h2, h3, h4, h5, h6, h7, hz⟩ := am_ast_inv (show am_ast nx L st sk mem = some _ from hstp)
    cases hz
    exact am_x_ast hm hrow h1 h2 h3 h4 h5 h6 h7 (am_keep2 List.length_set (am_sz_set h1 rfl) kk)
  case arraylength =>
    obtain ⟨q, r, k, N, rs, rfl, h1, h2, h3, hz⟩ := am_alen_inv (show am_alen nx L st sk mem = some _ from hstp)
    cases hz
    exact am_x_alen hm hrow h1 h2 h3 (am_keep kk)
  case new k =>
    obtain ⟨N, h1, hz⟩ := am_new_inv (show am_new k nx L st sk mem = some _ from hstp)
    cases hz
    have e1 : List.length (sk ++ ([(k, N, List.replicate N (none : Option Nat))] : am_K)) - List.length sk = 1 := by simp
    have e2 : am_sz (sk ++ ([(k, N, List.replicate N (none : Option Nat))] : am_K)) - am_sz sk = N := by simp [am_sz_app, am_sz]
    exact am_x_new hm hrow h1 hst hL (by rw [e1] at hc; exact hc) (by rw [e2] at hs; exact hs) kk
  case newarray t =>
    cases t
    · obtain ⟨i, r, rfl, h1, h2, hz⟩ := am_newa_inv (show am_newa 21 nx L st sk mem = some _ from hstp)
      cases hz
      have e1 : List.length (sk ++ ([(21, i.toNatClampNeg, ([] : List (Option Nat)))] : am_K)) - List.length sk = 1 := by simp
      have e2 : am_sz (sk ++ ([(21, i.toNatClampNeg, ([] : List (Option Nat)))] : am_K)) - am_sz sk = i.toNatClampNeg := by simp [am_sz_app, am_sz]
      exact am_x_newz hm hrow h1 h2 (fun w hw => hst w (List.mem_cons_of_mem _ hw)) hL (by rw [e1] at hc; exact hc) (by rw [e2] at hs; exact hs) kk
    · obtain ⟨i, r, rfl, h1, h2, hz⟩ := am_newa_inv (show am_newa 22 nx L st sk mem = some _ from hstp)
      cases hz
      have e1 : List.length (sk ++ ([(22, i.toNatClampNeg, ([] : List (Option Nat)))] : am_K)) - List.length sk = 1 := by simp
      have e2 : am_sz (sk ++ ([(22, i.toNatClampNeg, ([] : List (Option Nat)))] : am_K)) - am_sz sk = i.toNatClampNeg := by simp [am_sz_app, am_sz]
      exact am_x_newc hm hrow h1 h2 (fun w hw => hst w (List.mem_cons_of_mem _ hw)) hL (by rw [e1] at hc; exact hc) (by rw [e2] at hs; exact hs) kk
    · exact nomatch (show (none : Option am_N) = some _ from hstp)
    · exact nomatch (show (none : Option am_N) = some _ from hstp)
    · exact nomatch (show (none : Option am_N) = some _ from hstp)
    · exact nomatch (show (none : Option am_N) = some _ from hstp)
    · obtain ⟨i, r, rfl, h1, h2, hz⟩ := am_newa_inv (show am_newa 20 nx L st sk mem = some _ from hstp)
      cases hz
      have e1 : List.length (sk ++ ([(20, i.toNatClampNeg, ([] : List (Option Nat)))] : am_K)) - List.length sk = 1 := by simp
      have e2 : am_sz (sk ++ ([(20, i.toNatClampNeg, ([] : List (Option Nat)))] : am_K)) - am_sz sk = i.toNatClampNeg := by simp [am_sz_app, am_sz]
      exact am_x_newi hm hrow h1 h2 (fun w hw => hst w (List.mem_cons_of_mem _ hw)) hL (by rw [e1] at hc; exact hc) (by rw [e2] at hs; exact hs) kk
    · exact nomatch (show (none : Option am_N) = some _ from hstp)
  case anewarray k =>
    obtain ⟨i, r, rfl, h1, h2, hz⟩ := am_newq_inv (show am_newq k nx L st sk mem = some _ from hstp)
    cases hz
    have e1 : List.length (sk ++ ([(30 + k, i.toNatClampNeg, List.replicate i.toNatClampNeg (none : Option Nat))] : am_K)) - List.length sk = 1 := by simp
    have e2 : am_sz (sk ++ ([(30 + k, i.toNatClampNeg, List.replicate i.toNatClampNeg (none : Option Nat))] : am_K)) - am_sz sk = i.toNatClampNeg := by simp [am_sz_app, am_sz]
    exact am_x_newq hm hrow h1 h2 (fun w hw => hst w (List.mem_cons_of_mem _ hw)) hL (by rw [e1] at hc; exact hc) (by rw [e2] at hs; exact hs) kk
  case invokestatic k =>
    obtain ⟨a, -, -, -, hz⟩ := am_inv_inv (show am_inv k st = some _ from hstp)
    cases hz
  case invokespecial k =>
    obtain ⟨a, q, r, kd, N, rs, -, -, -, -, -, -, hz⟩ := am_invV_inv (show am_invV k st sk = some _ from hstp)
    cases hz
  case invokevirtual k =>
    obtain ⟨a, q, r, kd, N, rs, -, -, -, -, -, -, hz⟩ := am_invV_inv (show am_invV k st sk = some _ from hstp)
    cases hz
  case invokedynamic k =>
    obtain ⟨i, dp, b, sp, a, r, na, nb, ra, rb, rfl, h1, h2, h3, h4, h5, h6, h7, h8, h9, h10, hz⟩ := am_copy_inv (show am_copy nx L st sk mem = some _ from hstp)
    cases hz
    exact am_x_copy hm hrow h1 h2 h3 h4 h5 h6 h7 h8 h9 (fun w hw => hst w (List.mem_cons_of_mem _ (List.mem_cons_of_mem _ (List.mem_cons_of_mem _ (List.mem_cons_of_mem _ (List.mem_cons_of_mem _ hw)))))) h10 hLn hRf hRl (am_keep kk)
  case ifCond k t =>
    obtain ⟨x, r, rfl, hz⟩ := am_if1_inv (show am_if1 k t nx L st sk mem = some _ from hstp)
    cases hz
    exact am_x_if1 (y := 0) hm hrow (am_keep kk)
  case if_icmp k t =>
    obtain ⟨x, y, r, rfl, hz⟩ := am_if2_inv (show am_if2 k t nx L st sk mem = some _ from hstp)
    cases hz
    exact am_x_if2 hm hrow (am_keep kk)
  case goto t =>
    cases (show am_go t.toNat L st sk mem = some _ from hstp)
    exact am_x_goto hm hrow (am_keep kk)
  case tableswitch d lo hi ts =>
    obtain ⟨x, r, rfl, hz⟩ := am_tsw_inv (show am_tsw d lo hi ts L st sk mem = some _ from hstp)
    rcases hz with ⟨h1, hz⟩ | ⟨h1, t, ht, hz⟩
    · cases hz
      exact am_x_tsw hm hrow (Or.inl ⟨h1, am_keep kk⟩)
    · cases hz
      exact am_x_tsw hm hrow (Or.inr ⟨h1, t, ht, am_keep kk⟩)
  case lookupswitch d ps =>
    obtain ⟨x, r, rfl, hz⟩ := am_lsw_inv (show am_lsw d ps L st sk mem = some _ from hstp)
    cases hz
    exact am_x_lsw hm hrow (am_keep kk)
  case ireturn =>
    simp only [am_stp] at hstp
    repeat' (split at hstp)
    all_goals cases hstp
  case freturn =>
    simp only [am_stp] at hstp
    repeat' (split at hstp)
    all_goals cases hstp
  case lreturn =>
    simp only [am_stp] at hstp
    repeat' (split at hstp)
    all_goals cases hstp
  case dreturn =>
    simp only [am_stp] at hstp
    repeat' (split at hstp)
    all_goals cases hstp
  case areturn =>
    simp only [am_stp] at hstp
    repeat' (split at hstp)
    all_goals cases hstp
  case return_ =>
    simp only [am_stp] at hstp
    repeat' (split at hstp)
    all_goals cases hstp
  all_goals exact nomatch (show (none : Option am_N) = some _ from hstp)
end AMT
