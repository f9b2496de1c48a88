/-! THE SMALL MACHINE: ints in a memory of (object, place), references in a list that hardly ever changes; instructions are linked -/
abbrev am_E : Type := Nat × Nat × List (Option Nat)
abbrev am_K : Type := List am_E
abbrev am_M : Type := Nat → Nat → Int32
abbrev am_L : Type := List (Option Value)
abbrev am_P : Type := Option Value → am_K → am_M → Prop
abbrev am_N : Type := (Nat × am_L × List Value × am_K × am_M) ⊕ ((Nat × List Value × List Value) ⊕ Option Value)
def am_up (mem : am_M) (o k : Nat) (v : Int32) : am_M := fun a => if a = o then upd (mem a) k v else mem a
def am_z (mem : am_M) (o : Nat) : am_M := fun a => if a = o then (fun _ => 0) else mem a
def am_cp (mem : am_M) (a b sp dp n : Nat) : am_M := fun q => if q = b then va_cpy (mem a) (mem b) sp dp n else mem q
def am_go (nx : Nat) (L : am_L) (st : List Value) (sk : am_K) (mem : am_M) : Option am_N := some (.inl (nx, L, st, sk, mem))
def am_i1 (f : Int32 → Int32) (nx : Nat) (L : am_L) (st : List Value) (sk : am_K) (mem : am_M) : Option am_N := match st with
  | .int x :: r => am_go nx L (.int (f x) :: r) sk mem
  | _ => none
def am_i2 (f : Int32 → Int32 → Int32) (nx : Nat) (L : am_L) (st : List Value) (sk : am_K) (mem : am_M) : Option am_N := match st with
  | .int y :: .int x :: r => am_go nx L (.int (f x y) :: r) sk mem
  | _ => none
def am_i2z (f : Int32 → Int32 → Int32) (nx : Nat) (L : am_L) (st : List Value) (sk : am_K) (mem : am_M) : Option am_N := match st with
  | .int y :: .int x :: r => if y = 0 then none else am_go nx L (.int (f x y) :: r) sk mem
  | _ => none
def am_ild (kd nx : Nat) (L : am_L) (st : List Value) (sk : am_K) (mem : am_M) : Option am_N := match st with
  | .int i :: .ref q :: r => match sk[q]? with
    | some (k, n, _) => if k = kd then (if i < 0 ∨ n ≤ i.toNatClampNeg then none else am_go nx L (.int (mem q i.toNatClampNeg) :: r) sk mem) else none
    | none => none
  | _ => none
def am_fit (kd : Nat) (x : Int32) : Bool := if kd = 21 then decide (x = 0 ∨ x = 1) else if kd = 22 then decide (vp_nar .char x = x) else true
def am_ist (kd nx : Nat) (L : am_L) (st : List Value) (sk : am_K) (mem : am_M) : Option am_N := match st with
  | .int x :: .int i :: .ref q :: r => match sk[q]? with
    | some (k, n, _) => if k = kd ∧ 29 ≤ q ∧ am_fit kd x = true then (if i < 0 ∨ n ≤ i.toNatClampNeg then none else am_go nx L r sk (am_up mem q i.toNatClampNeg x)) else none
    | none => none
  | _ => none
def am_ald (nx : Nat) (L : am_L) (st : List Value) (sk : am_K) (mem : am_M) : Option am_N := match st with
  | .int i :: .ref q :: r => match sk[q]? with
    | some (k, n, rs) => if 30 ≤ k ∧ 29 ≤ q then (if i < 0 ∨ n ≤ i.toNatClampNeg then none else match rs[i.toNatClampNeg]? with
      | some (some z) => am_go nx L (.ref z :: r) sk mem
      | _ => none) else none
    | none => none
  | _ => none
def am_ast (nx : Nat) (L : am_L) (st : List Value) (sk : am_K) (mem : am_M) : Option am_N := match st with
  | .ref z :: .int i :: .ref q :: r => match sk[q]?, sk[z]? with
    | some (k, n, rs), some (kz, _, _) => if k = kz + 30 ∧ 29 ≤ q ∧ 29 ≤ z ∧ rs.length = n ∧ kz < 13 then (if i < 0 ∨ n ≤ i.toNatClampNeg then none else am_go nx L r (sk.set q (k, n, rs.set i.toNatClampNeg (some z))) mem) else none
    | _, _ => none
  | _ => none
def am_get (f nx : Nat) (L : am_L) (st : List Value) (sk : am_K) (mem : am_M) : Option am_N := match st with
  | .ref q :: r => match sk[q]? with
    | some (k, n, rs) => if k = f / 64 ∧ f % 64 < n then (if am_ft k (f % 64) = 2 then (match rs[f % 64]? with
      | some (some z) => am_go nx L (.ref z :: r) sk mem
      | _ => none) else am_go nx L (.int (mem q (f % 64)) :: r) sk mem) else none
    | none => none
  | _ => none
def am_put (f nx : Nat) (L : am_L) (st : List Value) (sk : am_K) (mem : am_M) : Option am_N := match st with
  | .int x :: .ref q :: r => match sk[q]? with
    | some (k, n, _) => if k = f / 64 ∧ f % 64 < n ∧ 29 ≤ q ∧ (am_ft k (f % 64) = 0 ∨ am_ft k (f % 64) = 1 ∧ (x = 0 ∨ x = 1)) then am_go nx L r sk (am_up mem q (f % 64) x) else none
    | none => none
  | _ => none
def am_putR (f nx : Nat) (L : am_L) (st : List Value) (sk : am_K) (mem : am_M) : Option am_N := match st with
  | .ref z :: .ref q :: r => match sk[q]? with
    | some (k, n, rs) => if k = f / 64 ∧ f % 64 < n ∧ 29 ≤ q ∧ 29 ≤ z ∧ z < sk.length ∧ am_ft k (f % 64) = 2 ∧ rs.length = n then am_go nx L r (sk.set q (k, n, rs.set (f % 64) (some z))) mem else none
    | none => none
  | _ => none
def am_alen (nx : Nat) (L : am_L) (st : List Value) (sk : am_K) (mem : am_M) : Option am_N := match st with
  | .ref q :: r => match sk[q]? with
    | some (k, n, _) => if 20 ≤ k ∧ k < 90 then am_go nx L (.int (Int32.ofNat n) :: r) sk mem else none
    | none => none
  | _ => none
def am_new (c nx : Nat) (L : am_L) (st : List Value) (sk : am_K) (mem : am_M) : Option am_N := match am_NS[c]? with
  | some n => am_go nx L (.ref sk.length :: st) (sk ++ [(c, n, List.replicate n none)]) (am_z mem sk.length)
  | none => none
def am_newa (kd nx : Nat) (L : am_L) (st : List Value) (sk : am_K) (mem : am_M) : Option am_N := match st with
  | .int n :: r => if n < 0 ∨ 100000 < n.toNatClampNeg then none else am_go nx L (.ref sk.length :: r) (sk ++ [(kd, n.toNatClampNeg, [])]) (am_z mem sk.length)
  | _ => none
def am_newq (c nx : Nat) (L : am_L) (st : List Value) (sk : am_K) (mem : am_M) : Option am_N := match st with
  | .int n :: r => if n < 0 ∨ 100000 < n.toNatClampNeg then none else am_go nx L (.ref sk.length :: r) (sk ++ [(30 + c, n.toNatClampNeg, List.replicate n.toNatClampNeg none)]) (am_z mem sk.length)
  | _ => none
def am_inv (k : Nat) (st : List Value) : Option am_N := match am_AR[k]? with
  | some a => if a ≤ st.length ∧ st.length ≤ a + 8 then some (.inr (.inl (k, (st.take a).reverse, st.drop a))) else none
  | none => none
def am_invV (k : Nat) (st : List Value) (sk : am_K) : Option am_N := match am_AR[k]? with
  | some a => match (st.take a).reverse with
    | .ref q :: _ => match sk[q]? with
      | some (kd, _, _) => if am_RC[k]? = some kd then am_inv k st else none
      | none => none
    | _ => none
  | none => none
def am_copy (nx : Nat) (L : am_L) (st : List Value) (sk : am_K) (mem : am_M) : Option am_N := match st with
  | .int n :: .int dp :: .ref b :: .int sp :: .ref a :: r => match sk[a]?, sk[b]? with
    | some (ka, na, _), some (kb, nb, _) => if ka = 20 ∧ kb = 20 ∧ 29 ≤ a ∧ 29 ≤ b ∧ ¬ sp < 0 ∧ ¬ dp < 0 ∧ ¬ n < 0 ∧ sp.toNatClampNeg + n.toNatClampNeg ≤ na ∧ dp.toNatClampNeg + n.toNatClampNeg ≤ nb ∧ r.length ≤ 8 then am_go nx L r sk (am_cp mem a b sp.toNatClampNeg dp.toNatClampNeg n.toNatClampNeg) else none
    | _, _ => none
  | _ => none
def am_ilo (i nx : Nat) (L : am_L) (st : List Value) (sk : am_K) (mem : am_M) : Option am_N := match L[i]? with
  | some (some (.int x)) => am_go nx L (.int x :: st) sk mem
  | _ => none
def am_alo (i nx : Nat) (L : am_L) (st : List Value) (sk : am_K) (mem : am_M) : Option am_N := match L[i]? with
  | some (some (.ref x)) => if x = 28 then none else am_go nx L (.ref x :: st) sk mem
  | _ => none
def am_iso (i nx : Nat) (L : am_L) (st : List Value) (sk : am_K) (mem : am_M) : Option am_N := match st with
  | .int x :: r => if i < L.length then am_go nx (L.set i (some (.int x))) r sk mem else none
  | _ => none
def am_aso (i nx : Nat) (L : am_L) (st : List Value) (sk : am_K) (mem : am_M) : Option am_N := match st with
  | .ref x :: r => if i < L.length ∧ x ≠ 28 then am_go nx (L.set i (some (.ref x))) r sk mem else none
  | _ => none
def am_inc (i : Nat) (c : Int) (nx : Nat) (L : am_L) (st : List Value) (sk : am_K) (mem : am_M) : Option am_N := match L[i]? with
  | some (some (.int x)) => am_go nx (L.set i (some (.int (x + Int32.ofInt c)))) st sk mem
  | _ => none
def am_cd (c : ClassFile.Cond) (x y : Int32) : Bool := match c with
  | .eq => decide (x = y)
  | .ne => !decide (x = y)
  | .lt => decide (x < y)
  | .ge => decide (y ≤ x)
  | .gt => decide (y < x)
  | .le => decide (x ≤ y)
def am_if1 (c : ClassFile.Cond) (t : Int) (nx : Nat) (L : am_L) (st : List Value) (sk : am_K) (mem : am_M) : Option am_N := match st with
  | .int x :: r => am_go (if am_cd c x 0 = true then t.toNat else nx) L r sk mem
  | _ => none
def am_if2 (c : ClassFile.Cond) (t : Int) (nx : Nat) (L : am_L) (st : List Value) (sk : am_K) (mem : am_M) : Option am_N := match st with
  | .int y :: .int x :: r => am_go (if am_cd c x y = true then t.toNat else nx) L r sk mem
  | _ => none
def am_tsw (d lo hi : Int) (ts : Array Int) (L : am_L) (st : List Value) (sk : am_K) (mem : am_M) : Option am_N := match st with
  | .int x :: r => if x.toInt < lo ∨ hi < x.toInt then am_go d.toNat L r sk mem else match ts[(x.toInt - lo).toNat]? with
    | some t => am_go t.toNat L r sk mem
    | none => none
  | _ => none
def am_lsw (d : Int) (ps : Array (Int × Int)) (L : am_L) (st : List Value) (sk : am_K) (mem : am_M) : Option am_N := match st with
  | .int x :: r => am_go (Op.lookupswitch.offset ps.toList d x.toInt).toNat L r sk mem
  | _ => none
def am_gsv : Nat → Value
  | 0 => .ref 0
  | 1 => .int 1
  | _ => .ref 28
def am_stp (ins : Instr) (nx : Nat) (L : am_L) (st : List Value) (sk : am_K) (mem : am_M) : Option am_N := match ins with
  | .iconst v => am_go nx L (.int (Int32.ofInt v) :: st) sk mem
  | .iload i => am_ilo i nx L st sk mem
  | .aload i => am_alo i nx L st sk mem
  | .istore i => am_iso i nx L st sk mem
  | .astore i => am_aso i nx L st sk mem
  | .iinc i c => am_inc i c nx L st sk mem
  | .iadd => am_i2 (fun x y => x + y) nx L st sk mem
  | .isub => am_i2 (fun x y => x - y) nx L st sk mem
  | .imul => am_i2 (fun x y => x * y) nx L st sk mem
  | .iand => am_i2 (fun x y => x &&& y) nx L st sk mem
  | .ior => am_i2 (fun x y => x ||| y) nx L st sk mem
  | .ixor => am_i2 (fun x y => x ^^^ y) nx L st sk mem
  | .ishl => am_i2 (fun x y => x <<< (y &&& 31)) nx L st sk mem
  | .ishr => am_i2 (fun x y => x >>> (y &&& 31)) nx L st sk mem
  | .iushr => am_i2 (fun x y => (x.toUInt32 >>> (y.toUInt32 &&& Int32.toUInt32 31)).toInt32) nx L st sk mem
  | .idiv => am_i2z (fun x y => x / y) nx L st sk mem
  | .irem => am_i2z (fun x y => x - x / y * y) nx L st sk mem
  | .ineg => am_i1 (fun x => -x) nx L st sk mem
  | .i2s => am_i1 (fun x => x.toInt16.toInt32) nx L st sk mem
  | .i2b => am_i1 (fun x => x.toInt8.toInt32) nx L st sk mem
  | .i2c => am_i1 (fun x => (x.toUInt32 % 65536).toInt32) nx L st sk mem
  | .dup => match st with
    | v :: r => if v.category = 1 then am_go nx L (v :: v :: r) sk mem else none
    | _ => none
  | .dup2 => match st with
    | v :: w :: r => if v.category = 1 ∧ w.category = 1 then am_go nx L (v :: w :: v :: w :: r) sk mem else none
    | _ => none
  | .pop => match st with
    | .int _ :: r => am_go nx L r sk mem
    | _ => none
  | .pop2 => match st with
    | .ref q :: r => if r.length ≤ 8 ∧ q ≠ 28 then am_go nx L r sk mem else none
    | _ => none
  | .ldc i => if i < 13 then am_go nx L (.ref (2 + i) :: st) sk mem else none
  | .getstatic i => am_go nx L (am_gsv i :: st) sk mem
  | .getfield f => am_get f nx L st sk mem
  | .putfield f => am_put f nx L st sk mem
  | .putstatic f => am_putR f nx L st sk mem
  | .iaload => am_ild 20 nx L st sk mem
  | .baload => am_ild 21 nx L st sk mem
  | .caload => am_ild 22 nx L st sk mem
  | .saload => am_ild 23 nx L st sk mem
  | .iastore => am_ist 20 nx L st sk mem
  | .bastore => am_ist 21 nx L st sk mem
  | .castore => am_ist 22 nx L st sk mem
  | .aaload => am_ald nx L st sk mem
  | .aastore => am_ast nx L st sk mem
  | .arraylength => am_alen nx L st sk mem
  | .new c => am_new c nx L st sk mem
  | .newarray t => match t with
    | .int => am_newa 20 nx L st sk mem
    | .boolean => am_newa 21 nx L st sk mem
    | .char => am_newa 22 nx L st sk mem
    | _ => none
  | .anewarray c => am_newq c nx L st sk mem
  | .invokestatic k => am_inv k st
  | .invokespecial k => am_invV k st sk
  | .invokevirtual k => am_invV k st sk
  | .invokedynamic _ => am_copy nx L st sk mem
  | .ifCond c t => am_if1 c t nx L st sk mem
  | .if_icmp c t => am_if2 c t nx L st sk mem
  | .goto t => am_go t.toNat L st sk mem
  | .tableswitch d lo hi ts => am_tsw d lo hi ts L st sk mem
  | .lookupswitch d ps => am_lsw d ps L st sk mem
  | .ireturn => match st with
    | [.int x] => some (.inr (.inr (some (.int x))))
    | _ => none
  | .freturn => match st with
    | [.int x] => if x = 0 ∨ x = 1 then some (.inr (.inr (some (.int x)))) else none
    | _ => none
  | .lreturn => match st with
    | [.int x] => if vp_nar .char x = x then some (.inr (.inr (some (.int x)))) else none
    | _ => none
  | .dreturn => match st with
    | [.int x] => if vp_nar .byte x = x then some (.inr (.inr (some (.int x)))) else none
    | _ => none
  | .areturn => match st with
    | [.ref x] => if x = 28 then none else some (.inr (.inr (some (.ref x))))
    | _ => none
  | .return_ => match st with
    | [] => some (.inr (.inr none))
    | _ => none
  | _ => none
def am_at : am_C → Nat → Option (Instr × Nat)
  | [], _ => none
  | (q, i, n) :: l, pc => if q = pc then some (i, n) else am_at l pc
/-- what must hold from here on that the run ends in Q -/
def am_run (code : am_C) (call : Nat → List Value → am_K → am_M → am_P → Prop) : Nat → Nat → am_L → List Value → am_K → am_M → am_P → Prop
  | 0, _, _, _, _, _, _ => False
  | n + 1, pc, L, st, sk, mem, Q => match am_at code pc with
    | none => False
    | some (ins, nx) => match am_stp ins nx L st sk mem with
      | none => False
      | some (.inl (pc', L', st', sk', mem')) => am_run code call n pc' L' st' sk' mem' Q
      | some (.inr (.inl (k, as, r))) => call k as sk mem (fun v sk' mem' => am_run code call n nx L (v.toList ++ r) sk' mem' Q)
      | some (.inr (.inr v)) => Q v sk mem
