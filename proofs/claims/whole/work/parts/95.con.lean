/-! constructors: rules over a list that begins with something unknown -/
section CO
variable {code : am_C} {d pc nx : Nat} {L : am_L} {st : List Value} {A l l2 l3 : am_K} {mem : am_M} {Q : am_P} {a : Nat}
theorem at_app (hA : A.length = a) (i : Nat) : (A ++ l)[a + i]? = l[i]? := by
  subst hA
  rw [List.getElem?_append_right (Nat.le_add_right _ _), Nat.add_sub_cancel_left]
theorem set_app (hA : A.length = a) (i : Nat) (x : am_E) : (A ++ l).set (a + i) x = A ++ l.set i x := by
  subst hA
  rw [List.set_append_right _ _ (Nat.le_add_right _ _), Nat.add_sub_cancel_left]
theorem ev_newA {c N k : Nat} (hA : A.length = a) (hc : am_at code pc = some (.new c, nx)) (hn : am_NS[c]? = some N) (hl : l.length = k) (h2 : l ++ [(c, N, List.replicate N none)] = l2) (h : am_ev code d nx L (.ref (a + k) :: st) (A ++ l2) (am_z mem (a + k)) Q) : am_ev code d pc L st (A ++ l) mem Q := by
  subst h2
  refine ev_go hc ?_ h
  simp only [am_stp, am_new, hn, am_go, List.length_append, hA, hl, List.append_assoc]
theorem ev_naA {t : ClassFile.ArrayType} {kd N k : Nat} (hA : A.length = a) (hc : am_at code pc = some (.newarray t, nx)) (ht : ∀ (nx : Nat) (L : am_L) (st : List Value) (sk : am_K) (mem : am_M), am_stp (.newarray t) nx L st sk mem = am_newa kd nx L st sk mem) (hl : l.length = k) (h2 : l ++ [(kd, N, [])] = l2) (h : am_ev code d nx L (.ref (a + k) :: st) (A ++ l2) (am_z mem (a + k)) Q) (hN : N ≤ 100000 := by decide) : am_ev code d pc L (.int (nI N) :: st) (A ++ l) mem Q := by
  subst h2
  refine ev_go hc ?_ h
  have e : (nI N).toNatClampNeg = N := nI_clamp (by omega)
  have h0 : ¬ (nI N < 0 ∨ 100000 < (nI N).toNatClampNeg) := by
    rw [e]
    intro z
    rcases z with z | z
    · exact nI_pos (by omega) z
    · omega
  rw [ht]
  rw [e] at h0
  simp only [am_newa, am_go, List.length_append, hA, hl, List.append_assoc, e, if_neg h0]
theorem ev_nqA {c N k : Nat} (hA : A.length = a) (hc : am_at code pc = some (.anewarray c, nx)) (hl : l.length = k) (h2 : l ++ [(30 + c, N, List.replicate N none)] = l2) (h : am_ev code d nx L (.ref (a + k) :: st) (A ++ l2) (am_z mem (a + k)) Q) (hN : N ≤ 100000 := by decide) : am_ev code d pc L (.int (nI N) :: st) (A ++ l) mem Q := by
  subst h2
  refine ev_go hc ?_ h
  have e : (nI N).toNatClampNeg = N := nI_clamp (by omega)
  have h0 : ¬ (nI N < 0 ∨ 100000 < (nI N).toNatClampNeg) := by
    rw [e]
    intro z
    rcases z with z | z
    · exact nI_pos (by omega) z
    · omega
  rw [e] at h0
  simp only [am_stp, am_newq, am_go, List.length_append, hA, hl, List.append_assoc, e, if_neg h0]
theorem ev_putRA {c j i N y : Nat} {rs : List (Option Nat)} (hA : A.length = a) (hc : am_at code pc = some (.putstatic (64 * c + j), nx)) (hi : l[i]? = some (c, N, rs)) (h2 : l.set i (c, N, rs.set j (some y)) = l2) (hy : 29 ≤ a + i ∧ 29 ≤ y ∧ y < a + l.length) (hr : rs.length = N) (h : am_ev code d nx L st (A ++ l2) mem Q) (hj : j < 64 ∧ j < N ∧ am_ft c j = 2 := by exact ⟨by decide, by decide, by decide⟩) : am_ev code d pc L (.ref y :: .ref (a + i) :: st) (A ++ l) mem Q := by
  subst h2
  exact ev_putR hc ((at_app hA i).trans hi) (set_app hA i _) h (by rw [List.length_append, hA]; exact hy) hr hj
theorem ev_putA {c j i N : Nat} {x : Int32} {rs : List (Option Nat)} (hA : A.length = a) (hc : am_at code pc = some (.putfield (64 * c + j), nx)) (hi : l[i]? = some (c, N, rs)) (ha : 29 ≤ a + i) (h : am_ev code d nx L st (A ++ l) (am_up mem (a + i) j x) Q) (hj : j < 64 ∧ j < N ∧ am_ft c j = 0 := by exact ⟨by decide, by decide, by decide⟩) : am_ev code d pc L (.int x :: .ref (a + i) :: st) (A ++ l) mem Q := ev_put hc h ((at_app hA i).trans hi) ha hj
theorem ev_putBA {c j i N : Nat} {x : Int32} {rs : List (Option Nat)} (hA : A.length = a) (hc : am_at code pc = some (.putfield (64 * c + j), nx)) (hi : l[i]? = some (c, N, rs)) (ha : 29 ≤ a + i) (h : am_ev code d nx L st (A ++ l) (am_up mem (a + i) j x) Q) (hx : x = 0 ∨ x = 1 := by decide) (hj : j < 64 ∧ j < N ∧ am_ft c j = 1 := by exact ⟨by decide, by decide, by decide⟩) : am_ev code d pc L (.int x :: .ref (a + i) :: st) (A ++ l) mem Q := ev_putB hc h hx ((at_app hA i).trans hi) ha hj
theorem ev_getRA {c j i N y : Nat} {rs : List (Option Nat)} (hA : A.length = a) (hc : am_at code pc = some (.getfield (64 * c + j), nx)) (hi : l[i]? = some (c, N, rs)) (hy : rs[j]? = some (some y)) (h : am_ev code d nx L (.ref y :: st) (A ++ l) mem Q) (hj : j < 64 ∧ j < N ∧ am_ft c j = 2 := by exact ⟨by decide, by decide, by decide⟩) : am_ev code d pc L (.ref (a + i) :: st) (A ++ l) mem Q := ev_getR hc h ((at_app hA i).trans hi) hy hj
theorem ev_iastA {i N m : Nat} {x : Int32} {rs : List (Option Nat)} (hA : A.length = a) (hc : am_at code pc = some (.iastore, nx)) (hi : l[i]? = some (20, N, rs)) (ha : 29 ≤ a + i) (hm : m < N) (hN : N < 2 ^ 31) (h : am_ev code d nx L st (A ++ l) (am_up mem (a + i) m x) Q) : am_ev code d pc L (.int x :: .int (nI m) :: .ref (a + i) :: st) (A ++ l) mem Q := ev_iastN hc rfl h ((at_app hA i).trans hi) hm hN ha
theorem ev_castA {i N m : Nat} {x : Int32} {rs : List (Option Nat)} (hA : A.length = a) (hc : am_at code pc = some (.castore, nx)) (hi : l[i]? = some (22, N, rs)) (ha : 29 ≤ a + i) (hm : m < N) (hN : N < 2 ^ 31) (hx : vp_nar .char x = x) (h : am_ev code d nx L st (A ++ l) (am_up mem (a + i) m x) Q) : am_ev code d pc L (.int x :: .int (nI m) :: .ref (a + i) :: st) (A ++ l) mem Q := by
  have e : (nI m).toNatClampNeg = m := nI_clamp (by omega)
  have h0 : ¬ (nI m < 0 ∨ N ≤ (nI m).toNatClampNeg) := by
    rw [e]
    intro z
    rcases z with z | z
    · exact nI_pos (by omega) z
    · omega
  have hf : am_fit 22 x = true := by
    unfold am_fit
    rw [if_neg (by decide), if_pos rfl]
    exact decide_eq_true hx
  refine ev_go hc ?_ h
  rw [e] at h0
  simp only [am_stp, am_ist, (at_app (l := l) hA i).trans hi, ha, hf, and_self, if_true, am_go, e, if_neg h0]
theorem ev_aastA {i z kz k N Nz m : Nat} {rs rz : List (Option Nat)} (hA : A.length = a) (hc : am_at code pc = some (.aastore, nx)) (hi : l[i]? = some (k, N, rs)) (hz : l[z]? = some (kz, Nz, rz)) (h2 : l.set i (k, N, rs.set m (some (a + z))) = l2) (hk : k = kz + 30 ∧ kz < 13) (ha : 29 ≤ a + i ∧ 29 ≤ a + z) (hr : rs.length = N) (hm : m < N) (hN : N < 2 ^ 31) (h : am_ev code d nx L st (A ++ l2) mem Q) : am_ev code d pc L (.ref (a + z) :: .int (nI m) :: .ref (a + i) :: st) (A ++ l) mem Q := by
  subst h2
  have e : (nI m).toNatClampNeg = m := nI_clamp (by omega)
  have h0 : ¬ (nI m < 0 ∨ N ≤ (nI m).toNatClampNeg) := by
    rw [e]
    intro z
    rcases z with z | z
    · exact nI_pos (by omega) z
    · omega
  have hh : k = kz + 30 ∧ 29 ≤ a + i ∧ 29 ≤ a + z ∧ rs.length = N ∧ kz < 13 := ⟨hk.1, ha.1, ha.2, hr, hk.2⟩
  refine ev_go hc ?_ h
  rw [e] at h0
  simp only [am_stp, am_ast, (at_app (l := l) hA i).trans hi, (at_app (l := l) hA z).trans hz, if_pos hh, am_go, e, set_app hA, if_neg h0]
theorem ev_callA {k ar i kd N : Nat} {as : List Value} {rs : List (Option Nat)} (hA : A.length = a) (hc : am_at code pc = some (.invokespecial k, nx)) (har : am_AR[k]? = some ar) (hst : (st.take ar).reverse = .ref (a + i) :: as) (hi : l[i]? = some (kd, N, rs)) (hr : am_RC[k]? = some kd) (h1 : ar ≤ st.length) (h2 : st.length ≤ ar + 8) (h : am_ex d k (.ref (a + i) :: as) (A ++ l) mem (fun v sk' mem' => am_ev code d nx L (v.toList ++ st.drop ar) sk' mem' Q)) : am_ev code d pc L st (A ++ l) mem Q := ev_call hc (am_callV har hst ((at_app hA i).trans hi) hr h1 h2) h
theorem adp {k i : Nat} {f : Nat → am_K} {g : Nat → am_M → am_M} {cell : am_E} (hm : ∀ (A : am_K) (a : Nat) (mem : am_M) (Q : am_P), A.length = a → 29 ≤ a → Q none (A ++ f a) (g a mem) → am_ex d k [.ref (a + 0)] (A ++ [cell]) mem Q) (hA : A.length = a) (ha : 29 ≤ a) (hl : l.length = i) (h2 : l ++ [cell] = l2) (h3 : l ++ f (a + i) = l3) (hQ : Q none (A ++ l3) (g (a + i) mem)) : am_ex d k [.ref (a + i)] (A ++ l2) mem Q := by
  subst h2 h3
  rw [← List.append_assoc] at hQ ⊢
  exact hm (A ++ l) (a + i) mem Q (by rw [List.length_append, hA, hl]) (by omega) hQ
theorem adp2 {k i b : Nat} {f : Nat → Nat → am_K} {g : Nat → am_M → am_M} {cell : am_E} (hm : ∀ (A : am_K) (a b : Nat) (mem : am_M) (Q : am_P), A.length = a → 29 ≤ a → 29 ≤ b → b < a → Q none (A ++ f a b) (g a mem) → am_ex d k [.ref (a + 0), .ref b] (A ++ [cell]) mem Q) (hA : A.length = a) (ha : 29 ≤ a) (hb : 29 ≤ b) (hb2 : b < a + i) (hl : l.length = i) (h2 : l ++ [cell] = l2) (h3 : l ++ f (a + i) b = l3) (hQ : Q none (A ++ l3) (g (a + i) mem)) : am_ex d k [.ref (a + i), .ref b] (A ++ l2) mem Q := by
  subst h2 h3
  rw [← List.append_assoc] at hQ ⊢
  exact hm (A ++ l) (a + i) b mem Q (by rw [List.length_append, hA, hl]) (by omega) hb (by omega) hQ
end CO
def kX8 (a : Nat) : am_K := [(8, 4, [none, none, none, some (a + 1)]), (20, 96, [])]
def mX8 (a : Nat) (mem : am_M) : am_M := (am_z (am_up (am_up (am_up mem (a + 0) 0 (nI 0)) (a + 0) 1 (nI 0)) (a + 0) 2 (nI 0)) (a + 1))
set_option maxRecDepth 8000 in
theorem i_X8_init {d : Nat} (A : am_K) (a : Nat) (mem : am_M) (Q : am_P) (hA : A.length = a) (ha : 29 ≤ a) (hQ : Q none (A ++ kX8 a) (mX8 a mem)) : am_ex (d + 1) 47 [.ref (a + 0)] (A ++ [(8, 4, List.replicate 4 none)]) mem Q := by
  refine ex_in (c0 := kc_X8_init) rfl (L := [some (.ref (a + 0))]) rfl ?_
  refine ev_aload rfl rfl ?_
  refine ev_pop2 rfl ?_
  refine ev_aload rfl rfl ?_
  refine ev_iconst (x := nI 0) rfl rfl ?_
  refine ev_putA (c := 8) (j := 0) (i := 0) hA rfl rfl (by omega) ?_
  refine ev_aload rfl rfl ?_
  refine ev_iconst (x := nI 0) rfl rfl ?_
  refine ev_putA (c := 8) (j := 1) (i := 0) hA rfl rfl (by omega) ?_
  refine ev_aload rfl rfl ?_
  refine ev_iconst (x := nI 0) rfl rfl ?_
  refine ev_putA (c := 8) (j := 2) (i := 0) hA rfl rfl (by omega) ?_
  refine ev_aload rfl rfl ?_
  refine ev_iconst (x := nI 96) rfl rfl ?_
  refine ev_naA hA rfl (fun _ _ _ _ _ => rfl) rfl (l2 := [(8, 4, List.replicate 4 none), (20, 96, [])]) rfl ?_
  refine ev_putRA (c := 8) (j := 3) (i := 0) hA rfl rfl (l2 := [(8, 4, [none, none, none, some (a + 1)]), (20, 96, [])]) rfl (by simp only [List.length_cons, List.length_nil]; omega) rfl ?_
  refine ev_vret rfl ?_
  exact hQ
def kX1 (a : Nat) : am_K := [(1, 6, List.replicate 6 none)]
def mX1 (_a : Nat) (mem : am_M) : am_M := mem
set_option maxRecDepth 8000 in
theorem i_X1_init {d : Nat} (A : am_K) (a : Nat) (mem : am_M) (Q : am_P) (hA : A.length = a) (ha : 29 ≤ a) (hQ : Q none (A ++ kX1 a) (mX1 a mem)) : am_ex (d + 1) 4 [.ref (a + 0)] (A ++ [(1, 6, List.replicate 6 none)]) mem Q := by
  refine ex_in (c0 := kc_X1_init) rfl (L := [some (.ref (a + 0))]) rfl ?_
  refine ev_aload rfl rfl ?_
  refine ev_pop2 rfl ?_
  refine ev_vret rfl ?_
  exact hQ
def kX3 (a : Nat) : am_K := [(3, 4, List.replicate 4 none)]
def mX3 (_a : Nat) (mem : am_M) : am_M := mem
set_option maxRecDepth 8000 in
theorem i_X3_init {d : Nat} (A : am_K) (a : Nat) (mem : am_M) (Q : am_P) (hA : A.length = a) (ha : 29 ≤ a) (hQ : Q none (A ++ kX3 a) (mX3 a mem)) : am_ex (d + 1) 16 [.ref (a + 0)] (A ++ [(3, 4, List.replicate 4 none)]) mem Q := by
  refine ex_in (c0 := kc_X3_init) rfl (L := [some (.ref (a + 0))]) rfl ?_
  refine ev_aload rfl rfl ?_
  refine ev_pop2 rfl ?_
  refine ev_vret rfl ?_
  exact hQ
def kX4 (a : Nat) : am_K := [(4, 7, List.replicate 7 none)]
def mX4 (_a : Nat) (mem : am_M) : am_M := mem
set_option maxRecDepth 8000 in
theorem i_X4_init {d : Nat} (A : am_K) (a : Nat) (mem : am_M) (Q : am_P) (hA : A.length = a) (ha : 29 ≤ a) (hQ : Q none (A ++ kX4 a) (mX4 a mem)) : am_ex (d + 1) 19 [.ref (a + 0)] (A ++ [(4, 7, List.replicate 7 none)]) mem Q := by
  refine ex_in (c0 := kc_X4_init) rfl (L := [some (.ref (a + 0))]) rfl ?_
  refine ev_aload rfl rfl ?_
  refine ev_pop2 rfl ?_
  refine ev_vret rfl ?_
  exact hQ
def kX6 (a : Nat) : am_K := [(6, 3, [none, none, some (a + 1)]), (20, 24, [])]
def mX6 (a : Nat) (mem : am_M) : am_M := (am_z (am_up (am_up mem (a + 0) 0 (-1)) (a + 0) 1 (nI 0)) (a + 1))
set_option maxRecDepth 8000 in
theorem i_X6_init {d : Nat} (A : am_K) (a : Nat) (mem : am_M) (Q : am_P) (hA : A.length = a) (ha : 29 ≤ a) (hQ : Q none (A ++ kX6 a) (mX6 a mem)) : am_ex (d + 1) 38 [.ref (a + 0)] (A ++ [(6, 3, List.replicate 3 none)]) mem Q := by
  refine ex_in (c0 := kc_X6_init) rfl (L := [some (.ref (a + 0))]) rfl ?_
  refine ev_aload rfl rfl ?_
  refine ev_pop2 rfl ?_
  refine ev_aload rfl rfl ?_
  refine ev_iconst (x := -1) rfl rfl ?_
  refine ev_putA (c := 6) (j := 0) (i := 0) hA rfl rfl (by omega) ?_
  refine ev_aload rfl rfl ?_
  refine ev_iconst (x := nI 0) rfl rfl ?_
  refine ev_putA (c := 6) (j := 1) (i := 0) hA rfl rfl (by omega) ?_
  refine ev_aload rfl rfl ?_
  refine ev_iconst (x := nI 24) rfl rfl ?_
  refine ev_naA hA rfl (fun _ _ _ _ _ => rfl) rfl (l2 := [(6, 3, List.replicate 3 none), (20, 24, [])]) rfl ?_
  refine ev_putRA (c := 6) (j := 2) (i := 0) hA rfl rfl (l2 := [(6, 3, [none, none, some (a + 1)]), (20, 24, [])]) rfl (by simp only [List.length_cons, List.length_nil]; omega) rfl ?_
  refine ev_vret rfl ?_
  exact hQ
def kX7 (a : Nat) : am_K := [(7, 4, [none, none, none, some (a + 1)]), (6, 3, [none, none, some (a + 2)]), (20, 24, [])]
def mX7 (a : Nat) (mem : am_M) : am_M := (mX6 (a + 1) (am_z (am_up (am_up (am_up mem (a + 0) 0 (nI 0)) (a + 0) 1 (nI 0)) (a + 0) 2 (nI 0)) (a + 1)))
set_option maxRecDepth 8000 in
theorem i_X7_init {d : Nat} (A : am_K) (a : Nat) (mem : am_M) (Q : am_P) (hA : A.length = a) (ha : 29 ≤ a) (hQ : Q none (A ++ kX7 a) (mX7 a mem)) : am_ex (d + 2) 45 [.ref (a + 0)] (A ++ [(7, 4, List.replicate 4 none)]) mem Q := by
  refine ex_in (c0 := kc_X7_init) rfl (L := [some (.ref (a + 0))]) rfl ?_
  refine ev_aload rfl rfl ?_
  refine ev_pop2 rfl ?_
  refine ev_aload rfl rfl ?_
  refine ev_iconst (x := nI 0) rfl rfl ?_
  refine ev_putA (c := 7) (j := 0) (i := 0) hA rfl rfl (by omega) ?_
  refine ev_aload rfl rfl ?_
  refine ev_iconst (x := nI 0) rfl rfl ?_
  refine ev_putA (c := 7) (j := 1) (i := 0) hA rfl rfl (by omega) ?_
  refine ev_aload rfl rfl ?_
  refine ev_iconst (x := nI 0) rfl rfl ?_
  refine ev_putA (c := 7) (j := 2) (i := 0) hA rfl rfl (by omega) ?_
  refine ev_aload rfl rfl ?_
  refine ev_newA hA rfl rfl rfl (l2 := [(7, 4, List.replicate 4 none), (6, 3, List.replicate 3 none)]) rfl ?_
  refine ev_dupR rfl ?_
  refine ev_callA (i := 1) hA rfl rfl rfl rfl rfl (Nat.le_of_ble_eq_true rfl) (Nat.le_of_ble_eq_true rfl) ?_
  refine adp (f := kX6) (g := mX6) (fun A a mem Q => i_X6_init A a mem Q) hA ha (l := [(7, 4, List.replicate 4 none)]) rfl rfl (l3 := [(7, 4, List.replicate 4 none), (6, 3, [none, none, some (a + 2)]), (20, 24, [])]) rfl ?_
  change am_ev _ _ _ _ [_, _] _ _ _
  refine ev_putRA (c := 7) (j := 3) (i := 0) hA rfl rfl (l2 := [(7, 4, [none, none, none, some (a + 1)]), (6, 3, [none, none, some (a + 2)]), (20, 24, [])]) rfl (by simp only [List.length_cons, List.length_nil]; omega) rfl ?_
  refine ev_vret rfl ?_
  exact hQ
def kX10 (a : Nat) : am_K := [(10, 6, [some (a + 1), some (a + 2), some (a + 3), none, none, none]), (20, 6, []), (20, 6, []), (20, 6, [])]
def mX10 (a : Nat) (mem : am_M) : am_M := (am_up (am_up (am_up (am_z (am_z (am_z mem (a + 1)) (a + 2)) (a + 3)) (a + 0) 3 (nI 0)) (a + 0) 4 (nI 0)) (a + 0) 5 (nI 0))
set_option maxRecDepth 8000 in
theorem i_X10_init {d : Nat} (A : am_K) (a : Nat) (mem : am_M) (Q : am_P) (hA : A.length = a) (ha : 29 ≤ a) (hQ : Q none (A ++ kX10 a) (mX10 a mem)) : am_ex (d + 1) 77 [.ref (a + 0)] (A ++ [(10, 6, List.replicate 6 none)]) mem Q := by
  refine ex_in (c0 := kc_X10_init) rfl (L := [some (.ref (a + 0))]) rfl ?_
  refine ev_aload rfl rfl ?_
  refine ev_pop2 rfl ?_
  refine ev_aload rfl rfl ?_
  refine ev_iconst (x := nI 6) rfl rfl ?_
  refine ev_naA hA rfl (fun _ _ _ _ _ => rfl) rfl (l2 := [(10, 6, List.replicate 6 none), (20, 6, [])]) rfl ?_
  refine ev_putRA (c := 10) (j := 0) (i := 0) hA rfl rfl (l2 := [(10, 6, [some (a + 1), none, none, none, none, none]), (20, 6, [])]) rfl (by simp only [List.length_cons, List.length_nil]; omega) rfl ?_
  refine ev_aload rfl rfl ?_
  refine ev_iconst (x := nI 6) rfl rfl ?_
  refine ev_naA hA rfl (fun _ _ _ _ _ => rfl) rfl (l2 := [(10, 6, [some (a + 1), none, none, none, none, none]), (20, 6, []), (20, 6, [])]) rfl ?_
  refine ev_putRA (c := 10) (j := 1) (i := 0) hA rfl rfl (l2 := [(10, 6, [some (a + 1), some (a + 2), none, none, none, none]), (20, 6, []), (20, 6, [])]) rfl (by simp only [List.length_cons, List.length_nil]; omega) rfl ?_
  refine ev_aload rfl rfl ?_
  refine ev_iconst (x := nI 6) rfl rfl ?_
  refine ev_naA hA rfl (fun _ _ _ _ _ => rfl) rfl (l2 := [(10, 6, [some (a + 1), some (a + 2), none, none, none, none]), (20, 6, []), (20, 6, []), (20, 6, [])]) rfl ?_
  refine ev_putRA (c := 10) (j := 2) (i := 0) hA rfl rfl (l2 := [(10, 6, [some (a + 1), some (a + 2), some (a + 3), none, none, none]), (20, 6, []), (20, 6, []), (20, 6, [])]) rfl (by simp only [List.length_cons, List.length_nil]; omega) rfl ?_
  refine ev_aload rfl rfl ?_
  refine ev_iconst (x := nI 0) rfl rfl ?_
  refine ev_putA (c := 10) (j := 3) (i := 0) hA rfl rfl (by omega) ?_
  refine ev_aload rfl rfl ?_
  refine ev_iconst (x := nI 0) rfl rfl ?_
  refine ev_putA (c := 10) (j := 4) (i := 0) hA rfl rfl (by omega) ?_
  refine ev_aload rfl rfl ?_
  refine ev_iconst (x := nI 0) rfl rfl ?_
  refine ev_putA (c := 10) (j := 5) (i := 0) hA rfl rfl (by omega) ?_
  refine ev_vret rfl ?_
  exact hQ
def kX2 (a : Nat) : am_K := [(2, 9, [some (a + 1), some (a + 2), some (a + 3), some (a + 4), some (a + 5), some (a + 6), some (a + 7), some (a + 8), none]), (20, 3, []), (20, 3, []), (20, 12, []), (20, 12, []), (21, 3, []), (21, 12, []), (21, 12, []), (21, 16, [])]
def mX2 (a : Nat) (mem : am_M) : am_M := (am_up (am_z (am_z (am_z (am_z (am_z (am_z (am_z (am_z mem (a + 1)) (a + 2)) (a + 3)) (a + 4)) (a + 5)) (a + 6)) (a + 7)) (a + 8)) (a + 0) 8 (nI 0))
set_option maxRecDepth 8000 in
theorem i_X2_init {d : Nat} (A : am_K) (a : Nat) (mem : am_M) (Q : am_P) (hA : A.length = a) (ha : 29 ≤ a) (hQ : Q none (A ++ kX2 a) (mX2 a mem)) : am_ex (d + 1) 8 [.ref (a + 0)] (A ++ [(2, 9, List.replicate 9 none)]) mem Q := by
  refine ex_in (c0 := kc_X2_init) rfl (L := [some (.ref (a + 0))]) rfl ?_
  refine ev_aload rfl rfl ?_
  refine ev_pop2 rfl ?_
  refine ev_aload rfl rfl ?_
  refine ev_iconst (x := nI 3) rfl rfl ?_
  refine ev_naA hA rfl (fun _ _ _ _ _ => rfl) rfl (l2 := [(2, 9, List.replicate 9 none), (20, 3, [])]) rfl ?_
  refine ev_putRA (c := 2) (j := 0) (i := 0) hA rfl rfl (l2 := [(2, 9, [some (a + 1), none, none, none, none, none, none, none, none]), (20, 3, [])]) rfl (by simp only [List.length_cons, List.length_nil]; omega) rfl ?_
  refine ev_aload rfl rfl ?_
  refine ev_iconst (x := nI 3) rfl rfl ?_
  refine ev_naA hA rfl (fun _ _ _ _ _ => rfl) rfl (l2 := [(2, 9, [some (a + 1), none, none, none, none, none, none, none, none]), (20, 3, []), (20, 3, [])]) rfl ?_
  refine ev_putRA (c := 2) (j := 1) (i := 0) hA rfl rfl (l2 := [(2, 9, [some (a + 1), some (a + 2), none, none, none, none, none, none, none]), (20, 3, []), (20, 3, [])]) rfl (by simp only [List.length_cons, List.length_nil]; omega) rfl ?_
  refine ev_aload rfl rfl ?_
  refine ev_iconst (x := nI 12) rfl rfl ?_
  refine ev_naA hA rfl (fun _ _ _ _ _ => rfl) rfl (l2 := [(2, 9, [some (a + 1), some (a + 2), none, none, none, none, none, none, none]), (20, 3, []), (20, 3, []), (20, 12, [])]) rfl ?_
  refine ev_putRA (c := 2) (j := 2) (i := 0) hA rfl rfl (l2 := [(2, 9, [some (a + 1), some (a + 2), some (a + 3), none, none, none, none, none, none]), (20, 3, []), (20, 3, []), (20, 12, [])]) rfl (by simp only [List.length_cons, List.length_nil]; omega) rfl ?_
  refine ev_aload rfl rfl ?_
  refine ev_iconst (x := nI 12) rfl rfl ?_
  refine ev_naA hA rfl (fun _ _ _ _ _ => rfl) rfl (l2 := [(2, 9, [some (a + 1), some (a + 2), some (a + 3), none, none, none, none, none, none]), (20, 3, []), (20, 3, []), (20, 12, []), (20, 12, [])]) rfl ?_
  refine ev_putRA (c := 2) (j := 3) (i := 0) hA rfl rfl (l2 := [(2, 9, [some (a + 1), some (a + 2), some (a + 3), some (a + 4), none, none, none, none, none]), (20, 3, []), (20, 3, []), (20, 12, []), (20, 12, [])]) rfl (by simp only [List.length_cons, List.length_nil]; omega) rfl ?_
  refine ev_aload rfl rfl ?_
  refine ev_iconst (x := nI 3) rfl rfl ?_
  refine ev_naA hA rfl (fun _ _ _ _ _ => rfl) rfl (l2 := [(2, 9, [some (a + 1), some (a + 2), some (a + 3), some (a + 4), none, none, none, none, none]), (20, 3, []), (20, 3, []), (20, 12, []), (20, 12, []), (21, 3, [])]) rfl ?_
  refine ev_putRA (c := 2) (j := 4) (i := 0) hA rfl rfl (l2 := [(2, 9, [some (a + 1), some (a + 2), some (a + 3), some (a + 4), some (a + 5), none, none, none, none]), (20, 3, []), (20, 3, []), (20, 12, []), (20, 12, []), (21, 3, [])]) rfl (by simp only [List.length_cons, List.length_nil]; omega) rfl ?_
  refine ev_aload rfl rfl ?_
  refine ev_iconst (x := nI 12) rfl rfl ?_
  refine ev_naA hA rfl (fun _ _ _ _ _ => rfl) rfl (l2 := [(2, 9, [some (a + 1), some (a + 2), some (a + 3), some (a + 4), some (a + 5), none, none, none, none]), (20, 3, []), (20, 3, []), (20, 12, []), (20, 12, []), (21, 3, []), (21, 12, [])]) rfl ?_
  refine ev_putRA (c := 2) (j := 5) (i := 0) hA rfl rfl (l2 := [(2, 9, [some (a + 1), some (a + 2), some (a + 3), some (a + 4), some (a + 5), some (a + 6), none, none, none]), (20, 3, []), (20, 3, []), (20, 12, []), (20, 12, []), (21, 3, []), (21, 12, [])]) rfl (by simp only [List.length_cons, List.length_nil]; omega) rfl ?_
  refine ev_aload rfl rfl ?_
  refine ev_iconst (x := nI 12) rfl rfl ?_
  refine ev_naA hA rfl (fun _ _ _ _ _ => rfl) rfl (l2 := [(2, 9, [some (a + 1), some (a + 2), some (a + 3), some (a + 4), some (a + 5), some (a + 6), none, none, none]), (20, 3, []), (20, 3, []), (20, 12, []), (20, 12, []), (21, 3, []), (21, 12, []), (21, 12, [])]) rfl ?_
  refine ev_putRA (c := 2) (j := 6) (i := 0) hA rfl rfl (l2 := [(2, 9, [some (a + 1), some (a + 2), some (a + 3), some (a + 4), some (a + 5), some (a + 6), some (a + 7), none, none]), (20, 3, []), (20, 3, []), (20, 12, []), (20, 12, []), (21, 3, []), (21, 12, []), (21, 12, [])]) rfl (by simp only [List.length_cons, List.length_nil]; omega) rfl ?_
  refine ev_aload rfl rfl ?_
  refine ev_iconst (x := nI 16) rfl rfl ?_
  refine ev_naA hA rfl (fun _ _ _ _ _ => rfl) rfl (l2 := [(2, 9, [some (a + 1), some (a + 2), some (a + 3), some (a + 4), some (a + 5), some (a + 6), some (a + 7), none, none]), (20, 3, []), (20, 3, []), (20, 12, []), (20, 12, []), (21, 3, []), (21, 12, []), (21, 12, []), (21, 16, [])]) rfl ?_
  refine ev_putRA (c := 2) (j := 7) (i := 0) hA rfl rfl (l2 := [(2, 9, [some (a + 1), some (a + 2), some (a + 3), some (a + 4), some (a + 5), some (a + 6), some (a + 7), some (a + 8), none]), (20, 3, []), (20, 3, []), (20, 12, []), (20, 12, []), (21, 3, []), (21, 12, []), (21, 12, []), (21, 16, [])]) rfl (by simp only [List.length_cons, List.length_nil]; omega) rfl ?_
  refine ev_aload rfl rfl ?_
  refine ev_iconst (x := nI 0) rfl rfl ?_
  refine ev_putA (c := 2) (j := 8) (i := 0) hA rfl rfl (by omega) ?_
  refine ev_vret rfl ?_
  exact hQ
def kX5 (a : Nat) : am_K := [(5, 7, [some (a + 1), none, some (a + 2), none, none, none, none]), (20, 96, []), (8, 4, [none, none, none, some (a + 3)]), (20, 96, [])]
def mX5 (a : Nat) (mem : am_M) : am_M := (am_up (am_up (am_up (am_up (mX8 (a + 2) (am_z (am_up (am_z mem (a + 1)) (a + 0) 1 (nI 0)) (a + 2))) (a + 0) 3 (nI 0)) (a + 0) 4 (nI 0)) (a + 0) 5 (nI 0)) (a + 0) 6 (nI 0))
set_option maxRecDepth 8000 in
theorem i_X5_init {d : Nat} (A : am_K) (a : Nat) (mem : am_M) (Q : am_P) (hA : A.length = a) (ha : 29 ≤ a) (hQ : Q none (A ++ kX5 a) (mX5 a mem)) : am_ex (d + 2) 22 [.ref (a + 0)] (A ++ [(5, 7, List.replicate 7 none)]) mem Q := by
  refine ex_in (c0 := kc_X5_init) rfl (L := [some (.ref (a + 0))]) rfl ?_
  refine ev_aload rfl rfl ?_
  refine ev_pop2 rfl ?_
  refine ev_aload rfl rfl ?_
  refine ev_iconst (x := nI 96) rfl rfl ?_
  refine ev_naA hA rfl (fun _ _ _ _ _ => rfl) rfl (l2 := [(5, 7, List.replicate 7 none), (20, 96, [])]) rfl ?_
  refine ev_putRA (c := 5) (j := 0) (i := 0) hA rfl rfl (l2 := [(5, 7, [some (a + 1), none, none, none, none, none, none]), (20, 96, [])]) rfl (by simp only [List.length_cons, List.length_nil]; omega) rfl ?_
  refine ev_aload rfl rfl ?_
  refine ev_iconst (x := nI 0) rfl rfl ?_
  refine ev_putA (c := 5) (j := 1) (i := 0) hA rfl rfl (by omega) ?_
  refine ev_aload rfl rfl ?_
  refine ev_newA hA rfl rfl rfl (l2 := [(5, 7, [some (a + 1), none, none, none, none, none, none]), (20, 96, []), (8, 4, List.replicate 4 none)]) rfl ?_
  refine ev_dupR rfl ?_
  refine ev_callA (i := 2) hA rfl rfl rfl rfl rfl (Nat.le_of_ble_eq_true rfl) (Nat.le_of_ble_eq_true rfl) ?_
  refine adp (f := kX8) (g := mX8) (fun A a mem Q => i_X8_init A a mem Q) hA ha (l := [(5, 7, [some (a + 1), none, none, none, none, none, none]), (20, 96, [])]) rfl rfl (l3 := [(5, 7, [some (a + 1), none, none, none, none, none, none]), (20, 96, []), (8, 4, [none, none, none, some (a + 3)]), (20, 96, [])]) rfl ?_
  change am_ev _ _ _ _ [_, _] _ _ _
  refine ev_putRA (c := 5) (j := 2) (i := 0) hA rfl rfl (l2 := [(5, 7, [some (a + 1), none, some (a + 2), none, none, none, none]), (20, 96, []), (8, 4, [none, none, none, some (a + 3)]), (20, 96, [])]) rfl (by simp only [List.length_cons, List.length_nil]; omega) rfl ?_
  refine ev_aload rfl rfl ?_
  refine ev_iconst (x := nI 0) rfl rfl ?_
  refine ev_putA (c := 5) (j := 3) (i := 0) hA rfl rfl (by omega) ?_
  refine ev_aload rfl rfl ?_
  refine ev_iconst (x := nI 0) rfl rfl ?_
  refine ev_putA (c := 5) (j := 4) (i := 0) hA rfl rfl (by omega) ?_
  refine ev_aload rfl rfl ?_
  refine ev_iconst (x := nI 0) rfl rfl ?_
  refine ev_putA (c := 5) (j := 5) (i := 0) hA rfl rfl (by omega) ?_
  refine ev_aload rfl rfl ?_
  refine ev_iconst (x := nI 0) rfl rfl ?_
  refine ev_putBA (c := 5) (j := 6) (i := 0) hA rfl rfl (by omega) ?_
  refine ev_vret rfl ?_
  exact hQ
