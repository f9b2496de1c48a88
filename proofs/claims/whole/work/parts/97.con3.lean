/-! constructors: the class, piece by piece; what was made before is not looked at -/
section CP
variable {code : am_C} {d pc nx : Nat} {L : am_L} {st : List Value} {A B S ln : am_K} {mem : am_M} {Q : am_P} {a m : Nat} {c : am_E}
theorem len_mid (hA : A.length = a) (hB : B.length = m) : (A ++ c :: B).length = a + 1 + m := by rw [List.length_append, List.length_cons, hA, hB]; omega
theorem at_mid (hA : A.length = a) : ((A ++ c :: B) ++ ln)[a + 0]? = some c := by
  rw [List.append_assoc, at_app hA]
  rfl
theorem at_mid0 (hA : A.length = a) : (A ++ c :: B)[a + 0]? = some c := by
  rw [at_app hA]
  rfl
theorem set_mid (hA : A.length = a) (x : am_E) : ((A ++ c :: B) ++ ln).set (a + 0) x = A ++ x :: (B ++ ln) := by
  rw [List.append_assoc, set_app hA]
  rfl
theorem ev_newP {cl N k : Nat} (hS : S.length = k) (hc : am_at code pc = some (.new cl, nx)) (hn : am_NS[cl]? = some N) (h : am_ev code d nx L (.ref (k + 0) :: st) (S ++ [(cl, N, List.replicate N none)]) (am_z mem (k + 0)) Q) : am_ev code d pc L st S mem Q := by
  refine ev_go hc ?_ h
  simp only [am_stp, am_new, hn, am_go, hS, Nat.add_zero]
theorem ev_naP {t : ClassFile.ArrayType} {kd N k : Nat} (hS : S.length = k) (hc : am_at code pc = some (.newarray t, nx)) (ht : ∀ (nx : Nat) (L : am_L) (st : List Value) (sk : am_K) (mem : am_M), am_stp (.newarray t) nx L st sk mem = am_newa kd nx L st sk mem) (h : am_ev code d nx L (.ref (k + 0) :: st) (S ++ [(kd, N, [])]) (am_z mem (k + 0)) Q) (hN : N ≤ 100000 := by decide) : am_ev code d pc L (.int (nI N) :: st) S mem Q := by
  have e := ev_naA (l := []) (A := S) (a := k) (k := 0) hS hc ht rfl rfl h hN
  rw [List.append_nil] at e
  exact e
theorem ev_nqP {cl N k : Nat} (hS : S.length = k) (hc : am_at code pc = some (.anewarray cl, nx)) (h : am_ev code d nx L (.ref (k + 0) :: st) (S ++ [(30 + cl, N, List.replicate N none)]) (am_z mem (k + 0)) Q) (hN : N ≤ 100000 := by decide) : am_ev code d pc L (.int (nI N) :: st) S mem Q := by
  have e := ev_nqA (l := []) (A := S) (a := k) (k := 0) hS hc rfl rfl h hN
  rw [List.append_nil] at e
  exact e
theorem ev_putRM {cl j N y : Nat} {rs : List (Option Nat)} (hA : A.length = a) (hc : am_at code pc = some (.putstatic (64 * cl + j), nx)) (hy : 29 ≤ a ∧ 29 ≤ y ∧ y < ((A ++ (cl, N, rs) :: B) ++ ln).length) (hr : rs.length = N) (h : am_ev code d nx L st (A ++ (cl, N, rs.set j (some y)) :: (B ++ ln)) mem Q) (hj : j < 64 ∧ j < N ∧ am_ft cl j = 2) : am_ev code d pc L (.ref y :: .ref (a + 0) :: st) ((A ++ (cl, N, rs) :: B) ++ ln) mem Q := ev_putR hc (at_mid hA) (set_mid hA _) h ⟨hy.1, hy.2⟩ hr hj
end CP
set_option maxRecDepth 4000 in
theorem g_0 {d : Nat} {A B : am_K} {a m : Nat} {mem : am_M} {Q : am_P} {rs : List (Option Nat)} (hA : A.length = a) (ha : 29 ≤ a) (hB : B.length = m) (hr : rs.length = 14) (x1 : Option Value) (h : am_ev kc_X11_init (d + 3) 15 [some (.ref (a + 0)), x1] [] (A ++ (11, 14, rs.set 0 (some (a + 1 + m + 0))) :: (B ++ kX0 (a + 1 + m))) (mX0 (a + 1 + m) (am_z mem (a + 1 + m + 0))) Q) : am_ev kc_X11_init (d + 3) 4 [some (.ref (a + 0)), x1] [] (A ++ (11, 14, rs) :: B) mem Q := by
  have hS : (A ++ ((11, 14, rs) : am_E) :: B).length = a + 1 + m := len_mid hA hB
  refine ev_aload rfl rfl ?_
  refine ev_newP hS rfl rfl ?_
  refine ev_dupR rfl ?_
  refine ev_callA (i := 0) (A := A ++ (11, 14, rs) :: B) hS rfl rfl rfl rfl rfl (Nat.le_of_ble_eq_true rfl) (Nat.le_of_ble_eq_true rfl) ?_
  refine i_X0_init _ (a + 1 + m) _ _ hS (by omega) ?_
  change am_ev _ _ _ _ [_, _] _ _ _
  refine ev_putRM (cl := 11) (j := 0) hA rfl ⟨ha, by omega, by rw [List.length_append, hS]; show _ < a + 1 + m + 32; omega⟩ hr ?_ ⟨by decide, by decide, by decide⟩
  exact h
set_option maxRecDepth 4000 in
theorem g_1 {d : Nat} {A B : am_K} {a m : Nat} {mem : am_M} {Q : am_P} {rs : List (Option Nat)} (hA : A.length = a) (ha : 29 ≤ a) (hB : B.length = m) (hr : rs.length = 14) (x1 : Option Value) (h : am_ev kc_X11_init (d + 3) 26 [some (.ref (a + 0)), x1] [] (A ++ (11, 14, rs.set 1 (some (a + 1 + m + 0))) :: (B ++ kX5 (a + 1 + m))) (mX5 (a + 1 + m) (am_z mem (a + 1 + m + 0))) Q) : am_ev kc_X11_init (d + 3) 15 [some (.ref (a + 0)), x1] [] (A ++ (11, 14, rs) :: B) mem Q := by
  have hS : (A ++ ((11, 14, rs) : am_E) :: B).length = a + 1 + m := len_mid hA hB
  refine ev_aload rfl rfl ?_
  refine ev_newP hS rfl rfl ?_
  refine ev_dupR rfl ?_
  refine ev_callA (i := 0) (A := A ++ (11, 14, rs) :: B) hS rfl rfl rfl rfl rfl (Nat.le_of_ble_eq_true rfl) (Nat.le_of_ble_eq_true rfl) ?_
  refine i_X5_init _ (a + 1 + m) _ _ hS (by omega) ?_
  change am_ev _ _ _ _ [_, _] _ _ _
  refine ev_putRM (cl := 11) (j := 1) hA rfl ⟨ha, by omega, by rw [List.length_append, hS]; show _ < a + 1 + m + 4; omega⟩ hr ?_ ⟨by decide, by decide, by decide⟩
  exact h
set_option maxRecDepth 4000 in
theorem g_2 {d : Nat} {A B : am_K} {a m : Nat} {mem : am_M} {Q : am_P} {rs : List (Option Nat)} (hA : A.length = a) (ha : 29 ≤ a) (hB : B.length = m) (hr : rs.length = 14) (x1 : Option Value) {b : Nat} (hb : rs[0]? = some (some b)) (hb1 : 29 ≤ b) (hb2 : b < a + 1 + m) (h : am_ev kc_X11_init (d + 3) 41 [some (.ref (a + 0)), x1] [] (A ++ (11, 14, rs.set 2 (some (a + 1 + m + 0))) :: (B ++ kX9 (a + 1 + m) b)) (mX9 (a + 1 + m) (am_z mem (a + 1 + m + 0))) Q) : am_ev kc_X11_init (d + 3) 26 [some (.ref (a + 0)), x1] [] (A ++ (11, 14, rs) :: B) mem Q := by
  have hS : (A ++ ((11, 14, rs) : am_E) :: B).length = a + 1 + m := len_mid hA hB
  refine ev_aload rfl rfl ?_
  refine ev_newP hS rfl rfl ?_
  refine ev_dupR rfl ?_
  refine ev_aload rfl rfl ?_
  refine ev_getR (c := 11) (j := 0) rfl ?_ (hq := at_mid hA) (hy := hb)
  refine ev_callA (i := 0) (A := A ++ (11, 14, rs) :: B) hS rfl rfl rfl rfl rfl (Nat.le_of_ble_eq_true rfl) (Nat.le_of_ble_eq_true rfl) ?_
  refine i_X9_init _ (a + 1 + m) b _ _ hS (by omega) hb1 hb2 ?_
  change am_ev _ _ _ _ [_, _] _ _ _
  refine ev_putRM (cl := 11) (j := 2) hA rfl ⟨ha, by omega, by rw [List.length_append, hS]; show _ < a + 1 + m + 38; omega⟩ hr ?_ ⟨by decide, by decide, by decide⟩
  exact h
set_option maxRecDepth 4000 in
theorem g_3 {d : Nat} {A B : am_K} {a m : Nat} {mem : am_M} {Q : am_P} {rs : List (Option Nat)} (hA : A.length = a) (ha : 29 ≤ a) (hB : B.length = m) (hr : rs.length = 14) (x1 : Option Value) {b : Nat} (hb : rs[0]? = some (some b)) (hb1 : 29 ≤ b) (hb2 : b < a + 1 + m) (h : am_ev kc_X11_init (d + 3) 56 [some (.ref (a + 0)), x1] [] (A ++ (11, 14, rs.set 3 (some (a + 1 + m + 0))) :: (B ++ kX9 (a + 1 + m) b)) (mX9 (a + 1 + m) (am_z mem (a + 1 + m + 0))) Q) : am_ev kc_X11_init (d + 3) 41 [some (.ref (a + 0)), x1] [] (A ++ (11, 14, rs) :: B) mem Q := by
  have hS : (A ++ ((11, 14, rs) : am_E) :: B).length = a + 1 + m := len_mid hA hB
  refine ev_aload rfl rfl ?_
  refine ev_newP hS rfl rfl ?_
  refine ev_dupR rfl ?_
  refine ev_aload rfl rfl ?_
  refine ev_getR (c := 11) (j := 0) rfl ?_ (hq := at_mid hA) (hy := hb)
  refine ev_callA (i := 0) (A := A ++ (11, 14, rs) :: B) hS rfl rfl rfl rfl rfl (Nat.le_of_ble_eq_true rfl) (Nat.le_of_ble_eq_true rfl) ?_
  refine i_X9_init _ (a + 1 + m) b _ _ hS (by omega) hb1 hb2 ?_
  change am_ev _ _ _ _ [_, _] _ _ _
  refine ev_putRM (cl := 11) (j := 3) hA rfl ⟨ha, by omega, by rw [List.length_append, hS]; show _ < a + 1 + m + 38; omega⟩ hr ?_ ⟨by decide, by decide, by decide⟩
  exact h
set_option maxRecDepth 4000 in
theorem g_4 {d : Nat} {A B : am_K} {a m : Nat} {mem : am_M} {Q : am_P} {rs : List (Option Nat)} (hA : A.length = a) (ha : 29 ≤ a) (hB : B.length = m) (hr : rs.length = 14) (x1 : Option Value) {b : Nat} (hb : rs[0]? = some (some b)) (hb1 : 29 ≤ b) (hb2 : b < a + 1 + m) (h : am_ev kc_X11_init (d + 3) 71 [some (.ref (a + 0)), x1] [] (A ++ (11, 14, rs.set 4 (some (a + 1 + m + 0))) :: (B ++ kX9 (a + 1 + m) b)) (mX9 (a + 1 + m) (am_z mem (a + 1 + m + 0))) Q) : am_ev kc_X11_init (d + 3) 56 [some (.ref (a + 0)), x1] [] (A ++ (11, 14, rs) :: B) mem Q := by
  have hS : (A ++ ((11, 14, rs) : am_E) :: B).length = a + 1 + m := len_mid hA hB
  refine ev_aload rfl rfl ?_
  refine ev_newP hS rfl rfl ?_
  refine ev_dupR rfl ?_
  refine ev_aload rfl rfl ?_
  refine ev_getR (c := 11) (j := 0) rfl ?_ (hq := at_mid hA) (hy := hb)
  refine ev_callA (i := 0) (A := A ++ (11, 14, rs) :: B) hS rfl rfl rfl rfl rfl (Nat.le_of_ble_eq_true rfl) (Nat.le_of_ble_eq_true rfl) ?_
  refine i_X9_init _ (a + 1 + m) b _ _ hS (by omega) hb1 hb2 ?_
  change am_ev _ _ _ _ [_, _] _ _ _
  refine ev_putRM (cl := 11) (j := 4) hA rfl ⟨ha, by omega, by rw [List.length_append, hS]; show _ < a + 1 + m + 38; omega⟩ hr ?_ ⟨by decide, by decide, by decide⟩
  exact h
theorem g_5 {d : Nat} {A B : am_K} {a m : Nat} {mem : am_M} {Q : am_P} {rs : List (Option Nat)} (hA : A.length = a) (ha : 29 ≤ a) (hB : B.length = m) (hr : rs.length = 14) (x1 : Option Value) (h : am_ev kc_X11_init (d + 3) 76 [some (.ref (a + 0)), x1] [] (A ++ (11, 14, rs) :: B) (am_up mem (a + 0) 5 (nI 0)) Q) : am_ev kc_X11_init (d + 3) 71 [some (.ref (a + 0)), x1] [] (A ++ (11, 14, rs) :: B) mem Q := by
  refine ev_aload rfl rfl ?_
  refine ev_iconst (x := nI 0) rfl rfl ?_
  refine ev_putB (c := 11) (j := 5) rfl ?_ (hx := by decide) (hq := at_mid0 hA) (h29 := by omega) (h := ⟨by decide, by decide, by decide⟩)
  exact h
set_option maxRecDepth 4000 in
theorem g_6 {d : Nat} {A B : am_K} {a m : Nat} {mem : am_M} {Q : am_P} {rs : List (Option Nat)} (hA : A.length = a) (ha : 29 ≤ a) (hB : B.length = m) (hr : rs.length = 14) (x1 : Option Value) (h : am_ev kc_X11_init (d + 3) 87 [some (.ref (a + 0)), x1] [] (A ++ (11, 14, rs.set 6 (some (a + 1 + m + 0))) :: (B ++ kX2 (a + 1 + m))) (mX2 (a + 1 + m) (am_z mem (a + 1 + m + 0))) Q) : am_ev kc_X11_init (d + 3) 76 [some (.ref (a + 0)), x1] [] (A ++ (11, 14, rs) :: B) mem Q := by
  have hS : (A ++ ((11, 14, rs) : am_E) :: B).length = a + 1 + m := len_mid hA hB
  refine ev_aload rfl rfl ?_
  refine ev_newP hS rfl rfl ?_
  refine ev_dupR rfl ?_
  refine ev_callA (i := 0) (A := A ++ (11, 14, rs) :: B) hS rfl rfl rfl rfl rfl (Nat.le_of_ble_eq_true rfl) (Nat.le_of_ble_eq_true rfl) ?_
  refine i_X2_init _ (a + 1 + m) _ _ hS (by omega) ?_
  change am_ev _ _ _ _ [_, _] _ _ _
  refine ev_putRM (cl := 11) (j := 6) hA rfl ⟨ha, by omega, by rw [List.length_append, hS]; show _ < a + 1 + m + 9; omega⟩ hr ?_ ⟨by decide, by decide, by decide⟩
  exact h
set_option maxRecDepth 4000 in
theorem g_7 {d : Nat} {A B : am_K} {a m : Nat} {mem : am_M} {Q : am_P} {rs : List (Option Nat)} (hA : A.length = a) (ha : 29 ≤ a) (hB : B.length = m) (hr : rs.length = 14) (x1 : Option Value) (h : am_ev kc_X11_init (d + 3) 98 [some (.ref (a + 0)), x1] [] (A ++ (11, 14, rs.set 7 (some (a + 1 + m + 0))) :: (B ++ kX10 (a + 1 + m))) (mX10 (a + 1 + m) (am_z mem (a + 1 + m + 0))) Q) : am_ev kc_X11_init (d + 3) 87 [some (.ref (a + 0)), x1] [] (A ++ (11, 14, rs) :: B) mem Q := by
  have hS : (A ++ ((11, 14, rs) : am_E) :: B).length = a + 1 + m := len_mid hA hB
  refine ev_aload rfl rfl ?_
  refine ev_newP hS rfl rfl ?_
  refine ev_dupR rfl ?_
  refine ev_callA (i := 0) (A := A ++ (11, 14, rs) :: B) hS rfl rfl rfl rfl rfl (Nat.le_of_ble_eq_true rfl) (Nat.le_of_ble_eq_true rfl) ?_
  refine i_X10_init _ (a + 1 + m) _ _ hS (by omega) ?_
  change am_ev _ _ _ _ [_, _] _ _ _
  refine ev_putRM (cl := 11) (j := 7) hA rfl ⟨ha, by omega, by rw [List.length_append, hS]; show _ < a + 1 + m + 4; omega⟩ hr ?_ ⟨by decide, by decide, by decide⟩
  exact h
set_option maxRecDepth 4000 in
theorem g_8 {d : Nat} {A B : am_K} {a m : Nat} {mem : am_M} {Q : am_P} {rs : List (Option Nat)} (hA : A.length = a) (ha : 29 ≤ a) (hB : B.length = m) (hr : rs.length = 14) (x1 : Option Value) (h : am_ev kc_X11_init (d + 3) 106 [some (.ref (a + 0)), x1] [] (A ++ (11, 14, rs.set 8 (some (a + 1 + m + 0))) :: (B ++ [(36, 4, List.replicate 4 none)])) (am_z mem (a + 1 + m + 0)) Q) : am_ev kc_X11_init (d + 3) 98 [some (.ref (a + 0)), x1] [] (A ++ (11, 14, rs) :: B) mem Q := by
  have hS : (A ++ ((11, 14, rs) : am_E) :: B).length = a + 1 + m := len_mid hA hB
  refine ev_aload rfl rfl ?_
  refine ev_iconst (x := nI 4) rfl rfl ?_
  refine ev_nqP hS rfl ?_
  refine ev_putRM (cl := 11) (j := 8) hA rfl ⟨ha, by omega, by rw [List.length_append, hS]; show _ < a + 1 + m + 1; omega⟩ hr ?_ ⟨by decide, by decide, by decide⟩
  exact h
set_option maxRecDepth 4000 in
theorem g_9 {d : Nat} {A B : am_K} {a m : Nat} {mem : am_M} {Q : am_P} {rs : List (Option Nat)} (hA : A.length = a) (ha : 29 ≤ a) (hB : B.length = m) (hr : rs.length = 14) (x1 : Option Value) (h : am_ev kc_X11_init (d + 3) 114 [some (.ref (a + 0)), x1] [] (A ++ (11, 14, rs.set 9 (some (a + 1 + m + 0))) :: (B ++ [(37, 5, List.replicate 5 none)])) (am_z mem (a + 1 + m + 0)) Q) : am_ev kc_X11_init (d + 3) 106 [some (.ref (a + 0)), x1] [] (A ++ (11, 14, rs) :: B) mem Q := by
  have hS : (A ++ ((11, 14, rs) : am_E) :: B).length = a + 1 + m := len_mid hA hB
  refine ev_aload rfl rfl ?_
  refine ev_iconst (x := nI 5) rfl rfl ?_
  refine ev_nqP hS rfl ?_
  refine ev_putRM (cl := 11) (j := 9) hA rfl ⟨ha, by omega, by rw [List.length_append, hS]; show _ < a + 1 + m + 1; omega⟩ hr ?_ ⟨by decide, by decide, by decide⟩
  exact h
set_option maxRecDepth 4000 in
theorem g_10 {d : Nat} {A B : am_K} {a m : Nat} {mem : am_M} {Q : am_P} {rs : List (Option Nat)} (hA : A.length = a) (ha : 29 ≤ a) (hB : B.length = m) (hr : rs.length = 14) (x1 : Option Value) (h : am_ev kc_X11_init (d + 3) 122 [some (.ref (a + 0)), x1] [] (A ++ (11, 14, rs.set 10 (some (a + 1 + m + 0))) :: (B ++ [(20, 60, [])])) (am_z mem (a + 1 + m + 0)) Q) : am_ev kc_X11_init (d + 3) 114 [some (.ref (a + 0)), x1] [] (A ++ (11, 14, rs) :: B) mem Q := by
  have hS : (A ++ ((11, 14, rs) : am_E) :: B).length = a + 1 + m := len_mid hA hB
  refine ev_aload rfl rfl ?_
  refine ev_iconst (x := nI 60) rfl rfl ?_
  refine ev_naP hS rfl (fun _ _ _ _ _ => rfl) ?_
  refine ev_putRM (cl := 11) (j := 10) hA rfl ⟨ha, by omega, by rw [List.length_append, hS]; show _ < a + 1 + m + 1; omega⟩ hr ?_ ⟨by decide, by decide, by decide⟩
  exact h
theorem g_11 {d : Nat} {A B : am_K} {a m : Nat} {mem : am_M} {Q : am_P} {rs : List (Option Nat)} (hA : A.length = a) (ha : 29 ≤ a) (hB : B.length = m) (hr : rs.length = 14) (x1 : Option Value) (h : am_ev kc_X11_init (d + 3) 127 [some (.ref (a + 0)), x1] [] (A ++ (11, 14, rs) :: B) (am_up mem (a + 0) 11 (nI 0)) Q) : am_ev kc_X11_init (d + 3) 122 [some (.ref (a + 0)), x1] [] (A ++ (11, 14, rs) :: B) mem Q := by
  refine ev_aload rfl rfl ?_
  refine ev_iconst (x := nI 0) rfl rfl ?_
  refine ev_put (c := 11) (j := 11) rfl ?_ (hq := at_mid0 hA) (h29 := by omega) (h := ⟨by decide, by decide, by decide⟩)
  exact h
set_option maxRecDepth 4000 in
theorem g_12 {d : Nat} {A B : am_K} {a m : Nat} {mem : am_M} {Q : am_P} {rs : List (Option Nat)} (hA : A.length = a) (ha : 29 ≤ a) (hB : B.length = m) (hr : rs.length = 14) (x1 : Option Value) (h : am_ev kc_X11_init (d + 3) 135 [some (.ref (a + 0)), x1] [] (A ++ (11, 14, rs.set 12 (some (a + 1 + m + 0))) :: (B ++ [(20, 8, [])])) (am_z mem (a + 1 + m + 0)) Q) : am_ev kc_X11_init (d + 3) 127 [some (.ref (a + 0)), x1] [] (A ++ (11, 14, rs) :: B) mem Q := by
  have hS : (A ++ ((11, 14, rs) : am_E) :: B).length = a + 1 + m := len_mid hA hB
  refine ev_aload rfl rfl ?_
  refine ev_iconst (x := nI 8) rfl rfl ?_
  refine ev_naP hS rfl (fun _ _ _ _ _ => rfl) ?_
  refine ev_putRM (cl := 11) (j := 12) hA rfl ⟨ha, by omega, by rw [List.length_append, hS]; show _ < a + 1 + m + 1; omega⟩ hr ?_ ⟨by decide, by decide, by decide⟩
  exact h
set_option maxRecDepth 4000 in
theorem g_13 {d : Nat} {A B : am_K} {a m : Nat} {mem : am_M} {Q : am_P} {rs : List (Option Nat)} (hA : A.length = a) (ha : 29 ≤ a) (hB : B.length = m) (hr : rs.length = 14) (x1 : Option Value) (h : am_ev kc_X11_init (d + 3) 143 [some (.ref (a + 0)), x1] [] (A ++ (11, 14, rs.set 13 (some (a + 1 + m + 0))) :: (B ++ [(20, 16, [])])) (am_z mem (a + 1 + m + 0)) Q) : am_ev kc_X11_init (d + 3) 135 [some (.ref (a + 0)), x1] [] (A ++ (11, 14, rs) :: B) mem Q := by
  have hS : (A ++ ((11, 14, rs) : am_E) :: B).length = a + 1 + m := len_mid hA hB
  refine ev_aload rfl rfl ?_
  refine ev_iconst (x := nI 16) rfl rfl ?_
  refine ev_naP hS rfl (fun _ _ _ _ _ => rfl) ?_
  refine ev_putRM (cl := 11) (j := 13) hA rfl ⟨ha, by omega, by rw [List.length_append, hS]; show _ < a + 1 + m + 1; omega⟩ hr ?_ ⟨by decide, by decide, by decide⟩
  exact h
def kLp (a : Nat) : am_K := [(36, 4, [some (a + 5), some (a + 7), some (a + 9), some (a + 11)]), (37, 5, [some (a + 13), some (a + 16), some (a + 19), some (a + 22), some (a + 25)]), (20, 60, []), (20, 8, []), (20, 16, []), (6, 3, [none, none, some (a + 6)]), (20, 24, []), (6, 3, [none, none, some (a + 8)]), (20, 24, []), (6, 3, [none, none, some (a + 10)]), (20, 24, []), (6, 3, [none, none, some (a + 12)]), (20, 24, []), (7, 4, [none, none, none, some (a + 14)]), (6, 3, [none, none, some (a + 15)]), (20, 24, []), (7, 4, [none, none, none, some (a + 17)]), (6, 3, [none, none, some (a + 18)]), (20, 24, []), (7, 4, [none, none, none, some (a + 20)]), (6, 3, [none, none, some (a + 21)]), (20, 24, []), (7, 4, [none, none, none, some (a + 23)]), (6, 3, [none, none, some (a + 24)]), (20, 24, []), (7, 4, [none, none, none, some (a + 26)]), (6, 3, [none, none, some (a + 27)]), (20, 24, [])]
def mLp (a : Nat) (mem : am_M) : am_M := (mX7 (a + 25) (am_z (mX7 (a + 22) (am_z (mX7 (a + 19) (am_z (mX7 (a + 16) (am_z (mX7 (a + 13) (am_z (mX6 (a + 11) (am_z (mX6 (a + 9) (am_z (mX6 (a + 7) (am_z (mX6 (a + 5) (am_z mem (a + 5))) (a + 7))) (a + 9))) (a + 11))) (a + 13))) (a + 16))) (a + 19))) (a + 22))) (a + 25)))
set_option maxRecDepth 8000 in
theorem g_lp {d t : Nat} {A : am_K} {a : Nat} {mem : am_M} {Q : am_P} {rs : List (Option Nat)} (hA : A.length = a) (ha : 29 ≤ a) (ht2 : t < A.length) (ht28 : t ≠ 28) (ht : A[t]? = some (11, 14, rs)) (h8 : rs[8]? = some (some (a + 0))) (h9 : rs[9]? = some (some (a + 1))) (x1 : Option Value) (hQ : Q none (A ++ kLp a) (mLp a mem)) : am_ev kc_X11_init (d + 3) 143 [some (.ref t), x1] [] (A ++ [(36, 4, List.replicate 4 none), (37, 5, List.replicate 5 none), (20, 60, []), (20, 8, []), (20, 16, [])]) mem Q := by
  refine ev_iconst (x := nI 0) rfl rfl ?_
  refine ev_istore rfl rfl (Nat.le_of_ble_eq_true rfl) ?_
  refine ev_iload rfl rfl ?_
  refine ev_iconst (x := nI 4) rfl rfl ?_
  refine ev_icmp_geN (p2 := 169) rfl rfl (fun zz => absurd zz (by decide)) (fun _ => ?_)
  refine ev_aload rfl rfl ?_
  refine ev_getR (c := 11) (j := 8) rfl ?_ (hq := (List.getElem?_append_left ht2).trans ht) (hy := h8)
  refine ev_iload rfl rfl ?_
  refine ev_newA hA rfl rfl rfl (l2 := [(36, 4, List.replicate 4 none), (37, 5, List.replicate 5 none), (20, 60, []), (20, 8, []), (20, 16, []), (6, 3, List.replicate 3 none)]) rfl ?_
  refine ev_dupR rfl ?_
  refine ev_callA (i := 5) hA rfl rfl rfl rfl rfl (Nat.le_of_ble_eq_true rfl) (Nat.le_of_ble_eq_true rfl) ?_
  refine adp (f := kX6) (g := mX6) (fun A a mem Q => i_X6_init A a mem Q) hA ha (l := [(36, 4, List.replicate 4 none), (37, 5, List.replicate 5 none), (20, 60, []), (20, 8, []), (20, 16, [])]) rfl rfl (l3 := [(36, 4, List.replicate 4 none), (37, 5, List.replicate 5 none), (20, 60, []), (20, 8, []), (20, 16, []), (6, 3, [none, none, some (a + 6)]), (20, 24, [])]) rfl ?_
  change am_ev _ _ _ _ [_, _, _] _ _ _
  refine ev_aastA (i := 0) (z := 5) hA rfl rfl rfl (l2 := [(36, 4, [some (a + 5), none, none, none]), (37, 5, List.replicate 5 none), (20, 60, []), (20, 8, []), (20, 16, []), (6, 3, [none, none, some (a + 6)]), (20, 24, [])]) rfl (by decide) (by omega) rfl (by decide) (by decide) ?_
  refine ev_iincN rfl rfl rfl ?_
  change am_ev _ _ _ [_, some (.int (nI 1))] _ _ _ _
  refine ev_goto (p2 := 145) rfl rfl ?_
  refine ev_iload rfl rfl ?_
  refine ev_iconst (x := nI 4) rfl rfl ?_
  refine ev_icmp_geN (p2 := 169) rfl rfl (fun zz => absurd zz (by decide)) (fun _ => ?_)
  refine ev_aload rfl rfl ?_
  refine ev_getR (c := 11) (j := 8) rfl ?_ (hq := (List.getElem?_append_left ht2).trans ht) (hy := h8)
  refine ev_iload rfl rfl ?_
  refine ev_newA hA rfl rfl rfl (l2 := [(36, 4, [some (a + 5), none, none, none]), (37, 5, List.replicate 5 none), (20, 60, []), (20, 8, []), (20, 16, []), (6, 3, [none, none, some (a + 6)]), (20, 24, []), (6, 3, List.replicate 3 none)]) rfl ?_
  refine ev_dupR rfl ?_
  refine ev_callA (i := 7) hA rfl rfl rfl rfl rfl (Nat.le_of_ble_eq_true rfl) (Nat.le_of_ble_eq_true rfl) ?_
  refine adp (f := kX6) (g := mX6) (fun A a mem Q => i_X6_init A a mem Q) hA ha (l := [(36, 4, [some (a + 5), none, none, none]), (37, 5, List.replicate 5 none), (20, 60, []), (20, 8, []), (20, 16, []), (6, 3, [none, none, some (a + 6)]), (20, 24, [])]) rfl rfl (l3 := [(36, 4, [some (a + 5), none, none, none]), (37, 5, List.replicate 5 none), (20, 60, []), (20, 8, []), (20, 16, []), (6, 3, [none, none, some (a + 6)]), (20, 24, []), (6, 3, [none, none, some (a + 8)]), (20, 24, [])]) rfl ?_
  change am_ev _ _ _ _ [_, _, _] _ _ _
  refine ev_aastA (i := 0) (z := 7) hA rfl rfl rfl (l2 := [(36, 4, [some (a + 5), some (a + 7), none, none]), (37, 5, List.replicate 5 none), (20, 60, []), (20, 8, []), (20, 16, []), (6, 3, [none, none, some (a + 6)]), (20, 24, []), (6, 3, [none, none, some (a + 8)]), (20, 24, [])]) rfl (by decide) (by omega) rfl (by decide) (by decide) ?_
  refine ev_iincN rfl rfl rfl ?_
  change am_ev _ _ _ [_, some (.int (nI 2))] _ _ _ _
  refine ev_goto (p2 := 145) rfl rfl ?_
  refine ev_iload rfl rfl ?_
  refine ev_iconst (x := nI 4) rfl rfl ?_
  refine ev_icmp_geN (p2 := 169) rfl rfl (fun zz => absurd zz (by decide)) (fun _ => ?_)
  refine ev_aload rfl rfl ?_
  refine ev_getR (c := 11) (j := 8) rfl ?_ (hq := (List.getElem?_append_left ht2).trans ht) (hy := h8)
  refine ev_iload rfl rfl ?_
  refine ev_newA hA rfl rfl rfl (l2 := [(36, 4, [some (a + 5), some (a + 7), none, none]), (37, 5, List.replicate 5 none), (20, 60, []), (20, 8, []), (20, 16, []), (6, 3, [none, none, some (a + 6)]), (20, 24, []), (6, 3, [none, none, some (a + 8)]), (20, 24, []), (6, 3, List.replicate 3 none)]) rfl ?_
  refine ev_dupR rfl ?_
  refine ev_callA (i := 9) hA rfl rfl rfl rfl rfl (Nat.le_of_ble_eq_true rfl) (Nat.le_of_ble_eq_true rfl) ?_
  refine adp (f := kX6) (g := mX6) (fun A a mem Q => i_X6_init A a mem Q) hA ha (l := [(36, 4, [some (a + 5), some (a + 7), none, none]), (37, 5, List.replicate 5 none), (20, 60, []), (20, 8, []), (20, 16, []), (6, 3, [none, none, some (a + 6)]), (20, 24, []), (6, 3, [none, none, some (a + 8)]), (20, 24, [])]) rfl rfl (l3 := [(36, 4, [some (a + 5), some (a + 7), none, none]), (37, 5, List.replicate 5 none), (20, 60, []), (20, 8, []), (20, 16, []), (6, 3, [none, none, some (a + 6)]), (20, 24, []), (6, 3, [none, none, some (a + 8)]), (20, 24, []), (6, 3, [none, none, some (a + 10)]), (20, 24, [])]) rfl ?_
  change am_ev _ _ _ _ [_, _, _] _ _ _
  refine ev_aastA (i := 0) (z := 9) hA rfl rfl rfl (l2 := [(36, 4, [some (a + 5), some (a + 7), some (a + 9), none]), (37, 5, List.replicate 5 none), (20, 60, []), (20, 8, []), (20, 16, []), (6, 3, [none, none, some (a + 6)]), (20, 24, []), (6, 3, [none, none, some (a + 8)]), (20, 24, []), (6, 3, [none, none, some (a + 10)]), (20, 24, [])]) rfl (by decide) (by omega) rfl (by decide) (by decide) ?_
  refine ev_iincN rfl rfl rfl ?_
  change am_ev _ _ _ [_, some (.int (nI 3))] _ _ _ _
  refine ev_goto (p2 := 145) rfl rfl ?_
  refine ev_iload rfl rfl ?_
  refine ev_iconst (x := nI 4) rfl rfl ?_
  refine ev_icmp_geN (p2 := 169) rfl rfl (fun zz => absurd zz (by decide)) (fun _ => ?_)
  refine ev_aload rfl rfl ?_
  refine ev_getR (c := 11) (j := 8) rfl ?_ (hq := (List.getElem?_append_left ht2).trans ht) (hy := h8)
  refine ev_iload rfl rfl ?_
  refine ev_newA hA rfl rfl rfl (l2 := [(36, 4, [some (a + 5), some (a + 7), some (a + 9), none]), (37, 5, List.replicate 5 none), (20, 60, []), (20, 8, []), (20, 16, []), (6, 3, [none, none, some (a + 6)]), (20, 24, []), (6, 3, [none, none, some (a + 8)]), (20, 24, []), (6, 3, [none, none, some (a + 10)]), (20, 24, []), (6, 3, List.replicate 3 none)]) rfl ?_
  refine ev_dupR rfl ?_
  refine ev_callA (i := 11) hA rfl rfl rfl rfl rfl (Nat.le_of_ble_eq_true rfl) (Nat.le_of_ble_eq_true rfl) ?_
  refine adp (f := kX6) (g := mX6) (fun A a mem Q => i_X6_init A a mem Q) hA ha (l := [(36, 4, [some (a + 5), some (a + 7), some (a + 9), none]), (37, 5, List.replicate 5 none), (20, 60, []), (20, 8, []), (20, 16, []), (6, 3, [none, none, some (a + 6)]), (20, 24, []), (6, 3, [none, none, some (a + 8)]), (20, 24, []), (6, 3, [none, none, some (a + 10)]), (20, 24, [])]) rfl rfl (l3 := [(36, 4, [some (a + 5), some (a + 7), some (a + 9), none]), (37, 5, List.replicate 5 none), (20, 60, []), (20, 8, []), (20, 16, []), (6, 3, [none, none, some (a + 6)]), (20, 24, []), (6, 3, [none, none, some (a + 8)]), (20, 24, []), (6, 3, [none, none, some (a + 10)]), (20, 24, []), (6, 3, [none, none, some (a + 12)]), (20, 24, [])]) rfl ?_
  change am_ev _ _ _ _ [_, _, _] _ _ _
  refine ev_aastA (i := 0) (z := 11) hA rfl rfl rfl (l2 := [(36, 4, [some (a + 5), some (a + 7), some (a + 9), some (a + 11)]), (37, 5, List.replicate 5 none), (20, 60, []), (20, 8, []), (20, 16, []), (6, 3, [none, none, some (a + 6)]), (20, 24, []), (6, 3, [none, none, some (a + 8)]), (20, 24, []), (6, 3, [none, none, some (a + 10)]), (20, 24, []), (6, 3, [none, none, some (a + 12)]), (20, 24, [])]) rfl (by decide) (by omega) rfl (by decide) (by decide) ?_
  refine ev_iincN rfl rfl rfl ?_
  change am_ev _ _ _ [_, some (.int (nI 4))] _ _ _ _
  refine ev_goto (p2 := 145) rfl rfl ?_
  refine ev_iload rfl rfl ?_
  refine ev_iconst (x := nI 4) rfl rfl ?_
  refine ev_icmp_geN (p2 := 169) rfl rfl (fun _ => ?_) (fun zz => absurd zz (by decide))
  refine ev_iconst (x := nI 0) rfl rfl ?_
  refine ev_istore rfl rfl (Nat.le_of_ble_eq_true rfl) ?_
  refine ev_iload rfl rfl ?_
  refine ev_iconst (x := nI 5) rfl rfl ?_
  refine ev_icmp_geN (p2 := 195) rfl rfl (fun zz => absurd zz (by decide)) (fun _ => ?_)
  refine ev_aload rfl rfl ?_
  refine ev_getR (c := 11) (j := 9) rfl ?_ (hq := (List.getElem?_append_left ht2).trans ht) (hy := h9)
  refine ev_iload rfl rfl ?_
  refine ev_newA hA rfl rfl rfl (l2 := [(36, 4, [some (a + 5), some (a + 7), some (a + 9), some (a + 11)]), (37, 5, List.replicate 5 none), (20, 60, []), (20, 8, []), (20, 16, []), (6, 3, [none, none, some (a + 6)]), (20, 24, []), (6, 3, [none, none, some (a + 8)]), (20, 24, []), (6, 3, [none, none, some (a + 10)]), (20, 24, []), (6, 3, [none, none, some (a + 12)]), (20, 24, []), (7, 4, List.replicate 4 none)]) rfl ?_
  refine ev_dupR rfl ?_
  refine ev_callA (i := 13) hA rfl rfl rfl rfl rfl (Nat.le_of_ble_eq_true rfl) (Nat.le_of_ble_eq_true rfl) ?_
  refine adp (f := kX7) (g := mX7) (fun A a mem Q => i_X7_init A a mem Q) hA ha (l := [(36, 4, [some (a + 5), some (a + 7), some (a + 9), some (a + 11)]), (37, 5, List.replicate 5 none), (20, 60, []), (20, 8, []), (20, 16, []), (6, 3, [none, none, some (a + 6)]), (20, 24, []), (6, 3, [none, none, some (a + 8)]), (20, 24, []), (6, 3, [none, none, some (a + 10)]), (20, 24, []), (6, 3, [none, none, some (a + 12)]), (20, 24, [])]) rfl rfl (l3 := [(36, 4, [some (a + 5), some (a + 7), some (a + 9), some (a + 11)]), (37, 5, List.replicate 5 none), (20, 60, []), (20, 8, []), (20, 16, []), (6, 3, [none, none, some (a + 6)]), (20, 24, []), (6, 3, [none, none, some (a + 8)]), (20, 24, []), (6, 3, [none, none, some (a + 10)]), (20, 24, []), (6, 3, [none, none, some (a + 12)]), (20, 24, []), (7, 4, [none, none, none, some (a + 14)]), (6, 3, [none, none, some (a + 15)]), (20, 24, [])]) rfl ?_
  change am_ev _ _ _ _ [_, _, _] _ _ _
  refine ev_aastA (i := 1) (z := 13) hA rfl rfl rfl (l2 := [(36, 4, [some (a + 5), some (a + 7), some (a + 9), some (a + 11)]), (37, 5, [some (a + 13), none, none, none, none]), (20, 60, []), (20, 8, []), (20, 16, []), (6, 3, [none, none, some (a + 6)]), (20, 24, []), (6, 3, [none, none, some (a + 8)]), (20, 24, []), (6, 3, [none, none, some (a + 10)]), (20, 24, []), (6, 3, [none, none, some (a + 12)]), (20, 24, []), (7, 4, [none, none, none, some (a + 14)]), (6, 3, [none, none, some (a + 15)]), (20, 24, [])]) rfl (by decide) (by omega) rfl (by decide) (by decide) ?_
  refine ev_iincN rfl rfl rfl ?_
  change am_ev _ _ _ [_, some (.int (nI 1))] _ _ _ _
  refine ev_goto (p2 := 171) rfl rfl ?_
  refine ev_iload rfl rfl ?_
  refine ev_iconst (x := nI 5) rfl rfl ?_
  refine ev_icmp_geN (p2 := 195) rfl rfl (fun zz => absurd zz (by decide)) (fun _ => ?_)
  refine ev_aload rfl rfl ?_
  refine ev_getR (c := 11) (j := 9) rfl ?_ (hq := (List.getElem?_append_left ht2).trans ht) (hy := h9)
  refine ev_iload rfl rfl ?_
  refine ev_newA hA rfl rfl rfl (l2 := [(36, 4, [some (a + 5), some (a + 7), some (a + 9), some (a + 11)]), (37, 5, [some (a + 13), none, none, none, none]), (20, 60, []), (20, 8, []), (20, 16, []), (6, 3, [none, none, some (a + 6)]), (20, 24, []), (6, 3, [none, none, some (a + 8)]), (20, 24, []), (6, 3, [none, none, some (a + 10)]), (20, 24, []), (6, 3, [none, none, some (a + 12)]), (20, 24, []), (7, 4, [none, none, none, some (a + 14)]), (6, 3, [none, none, some (a + 15)]), (20, 24, []), (7, 4, List.replicate 4 none)]) rfl ?_
  refine ev_dupR rfl ?_
  refine ev_callA (i := 16) hA rfl rfl rfl rfl rfl (Nat.le_of_ble_eq_true rfl) (Nat.le_of_ble_eq_true rfl) ?_
  refine adp (f := kX7) (g := mX7) (fun A a mem Q => i_X7_init A a mem Q) hA ha (l := [(36, 4, [some (a + 5), some (a + 7), some (a + 9), some (a + 11)]), (37, 5, [some (a + 13), none, none, none, none]), (20, 60, []), (20, 8, []), (20, 16, []), (6, 3, [none, none, some (a + 6)]), (20, 24, []), (6, 3, [none, none, some (a + 8)]), (20, 24, []), (6, 3, [none, none, some (a + 10)]), (20, 24, []), (6, 3, [none, none, some (a + 12)]), (20, 24, []), (7, 4, [none, none, none, some (a + 14)]), (6, 3, [none, none, some (a + 15)]), (20, 24, [])]) rfl rfl (l3 := [(36, 4, [some (a + 5), some (a + 7), some (a + 9), some (a + 11)]), (37, 5, [some (a + 13), none, none, none, none]), (20, 60, []), (20, 8, []), (20, 16, []), (6, 3, [none, none, some (a + 6)]), (20, 24, []), (6, 3, [none, none, some (a + 8)]), (20, 24, []), (6, 3, [none, none, some (a + 10)]), (20, 24, []), (6, 3, [none, none, some (a + 12)]), (20, 24, []), (7, 4, [none, none, none, some (a + 14)]), (6, 3, [none, none, some (a + 15)]), (20, 24, []), (7, 4, [none, none, none, some (a + 17)]), (6, 3, [none, none, some (a + 18)]), (20, 24, [])]) rfl ?_
  change am_ev _ _ _ _ [_, _, _] _ _ _
  refine ev_aastA (i := 1) (z := 16) hA rfl rfl rfl (l2 := [(36, 4, [some (a + 5), some (a + 7), some (a + 9), some (a + 11)]), (37, 5, [some (a + 13), some (a + 16), none, none, none]), (20, 60, []), (20, 8, []), (20, 16, []), (6, 3, [none, none, some (a + 6)]), (20, 24, []), (6, 3, [none, none, some (a + 8)]), (20, 24, []), (6, 3, [none, none, some (a + 10)]), (20, 24, []), (6, 3, [none, none, some (a + 12)]), (20, 24, []), (7, 4, [none, none, none, some (a + 14)]), (6, 3, [none, none, some (a + 15)]), (20, 24, []), (7, 4, [none, none, none, some (a + 17)]), (6, 3, [none, none, some (a + 18)]), (20, 24, [])]) rfl (by decide) (by omega) rfl (by decide) (by decide) ?_
  refine ev_iincN rfl rfl rfl ?_
  change am_ev _ _ _ [_, some (.int (nI 2))] _ _ _ _
  refine ev_goto (p2 := 171) rfl rfl ?_
  refine ev_iload rfl rfl ?_
  refine ev_iconst (x := nI 5) rfl rfl ?_
  refine ev_icmp_geN (p2 := 195) rfl rfl (fun zz => absurd zz (by decide)) (fun _ => ?_)
  refine ev_aload rfl rfl ?_
  refine ev_getR (c := 11) (j := 9) rfl ?_ (hq := (List.getElem?_append_left ht2).trans ht) (hy := h9)
  refine ev_iload rfl rfl ?_
  refine ev_newA hA rfl rfl rfl (l2 := [(36, 4, [some (a + 5), some (a + 7), some (a + 9), some (a + 11)]), (37, 5, [some (a + 13), some (a + 16), none, none, none]), (20, 60, []), (20, 8, []), (20, 16, []), (6, 3, [none, none, some (a + 6)]), (20, 24, []), (6, 3, [none, none, some (a + 8)]), (20, 24, []), (6, 3, [none, none, some (a + 10)]), (20, 24, []), (6, 3, [none, none, some (a + 12)]), (20, 24, []), (7, 4, [none, none, none, some (a + 14)]), (6, 3, [none, none, some (a + 15)]), (20, 24, []), (7, 4, [none, none, none, some (a + 17)]), (6, 3, [none, none, some (a + 18)]), (20, 24, []), (7, 4, List.replicate 4 none)]) rfl ?_
  refine ev_dupR rfl ?_
  refine ev_callA (i := 19) hA rfl rfl rfl rfl rfl (Nat.le_of_ble_eq_true rfl) (Nat.le_of_ble_eq_true rfl) ?_
  refine adp (f := kX7) (g := mX7) (fun A a mem Q => i_X7_init A a mem Q) hA ha (l := [(36, 4, [some (a + 5), some (a + 7), some (a + 9), some (a + 11)]), (37, 5, [some (a + 13), some (a + 16), none, none, none]), (20, 60, []), (20, 8, []), (20, 16, []), (6, 3, [none, none, some (a + 6)]), (20, 24, []), (6, 3, [none, none, some (a + 8)]), (20, 24, []), (6, 3, [none, none, some (a + 10)]), (20, 24, []), (6, 3, [none, none, some (a + 12)]), (20, 24, []), (7, 4, [none, none, none, some (a + 14)]), (6, 3, [none, none, some (a + 15)]), (20, 24, []), (7, 4, [none, none, none, some (a + 17)]), (6, 3, [none, none, some (a + 18)]), (20, 24, [])]) rfl rfl (l3 := [(36, 4, [some (a + 5), some (a + 7), some (a + 9), some (a + 11)]), (37, 5, [some (a + 13), some (a + 16), none, none, none]), (20, 60, []), (20, 8, []), (20, 16, []), (6, 3, [none, none, some (a + 6)]), (20, 24, []), (6, 3, [none, none, some (a + 8)]), (20, 24, []), (6, 3, [none, none, some (a + 10)]), (20, 24, []), (6, 3, [none, none, some (a + 12)]), (20, 24, []), (7, 4, [none, none, none, some (a + 14)]), (6, 3, [none, none, some (a + 15)]), (20, 24, []), (7, 4, [none, none, none, some (a + 17)]), (6, 3, [none, none, some (a + 18)]), (20, 24, []), (7, 4, [none, none, none, some (a + 20)]), (6, 3, [none, none, some (a + 21)]), (20, 24, [])]) rfl ?_
  change am_ev _ _ _ _ [_, _, _] _ _ _
  refine ev_aastA (i := 1) (z := 19) hA rfl rfl rfl (l2 := [(36, 4, [some (a + 5), some (a + 7), some (a + 9), some (a + 11)]), (37, 5, [some (a + 13), some (a + 16), some (a + 19), none, none]), (20, 60, []), (20, 8, []), (20, 16, []), (6, 3, [none, none, some (a + 6)]), (20, 24, []), (6, 3, [none, none, some (a + 8)]), (20, 24, []), (6, 3, [none, none, some (a + 10)]), (20, 24, []), (6, 3, [none, none, some (a + 12)]), (20, 24, []), (7, 4, [none, none, none, some (a + 14)]), (6, 3, [none, none, some (a + 15)]), (20, 24, []), (7, 4, [none, none, none, some (a + 17)]), (6, 3, [none, none, some (a + 18)]), (20, 24, []), (7, 4, [none, none, none, some (a + 20)]), (6, 3, [none, none, some (a + 21)]), (20, 24, [])]) rfl (by decide) (by omega) rfl (by decide) (by decide) ?_
  refine ev_iincN rfl rfl rfl ?_
  change am_ev _ _ _ [_, some (.int (nI 3))] _ _ _ _
  refine ev_goto (p2 := 171) rfl rfl ?_
  refine ev_iload rfl rfl ?_
  refine ev_iconst (x := nI 5) rfl rfl ?_
  refine ev_icmp_geN (p2 := 195) rfl rfl (fun zz => absurd zz (by decide)) (fun _ => ?_)
  refine ev_aload rfl rfl ?_
  refine ev_getR (c := 11) (j := 9) rfl ?_ (hq := (List.getElem?_append_left ht2).trans ht) (hy := h9)
  refine ev_iload rfl rfl ?_
  refine ev_newA hA rfl rfl rfl (l2 := [(36, 4, [some (a + 5), some (a + 7), some (a + 9), some (a + 11)]), (37, 5, [some (a + 13), some (a + 16), some (a + 19), none, none]), (20, 60, []), (20, 8, []), (20, 16, []), (6, 3, [none, none, some (a + 6)]), (20, 24, []), (6, 3, [none, none, some (a + 8)]), (20, 24, []), (6, 3, [none, none, some (a + 10)]), (20, 24, []), (6, 3, [none, none, some (a + 12)]), (20, 24, []), (7, 4, [none, none, none, some (a + 14)]), (6, 3, [none, none, some (a + 15)]), (20, 24, []), (7, 4, [none, none, none, some (a + 17)]), (6, 3, [none, none, some (a + 18)]), (20, 24, []), (7, 4, [none, none, none, some (a + 20)]), (6, 3, [none, none, some (a + 21)]), (20, 24, []), (7, 4, List.replicate 4 none)]) rfl ?_
  refine ev_dupR rfl ?_
  refine ev_callA (i := 22) hA rfl rfl rfl rfl rfl (Nat.le_of_ble_eq_true rfl) (Nat.le_of_ble_eq_true rfl) ?_
  refine adp (f := kX7) (g := mX7) (fun A a mem Q => i_X7_init A a mem Q) hA ha (l := [(36, 4, [some (a + 5), some (a + 7), some (a + 9), some (a + 11)]), (37, 5, [some (a + 13), some (a + 16), some (a + 19), none, none]), (20, 60, []), (20, 8, []), (20, 16, []), (6, 3, [none, none, some (a + 6)]), (20, 24, []), (6, 3, [none, none, some (a + 8)]), (20, 24, []), (6, 3, [none, none, some (a + 10)]), (20, 24, []), (6, 3, [none, none, some (a + 12)]), (20, 24, []), (7, 4, [none, none, none, some (a + 14)]), (6, 3, [none, none, some (a + 15)]), (20, 24, []), (7, 4, [none, none, none, some (a + 17)]), (6, 3, [none, none, some (a + 18)]), (20, 24, []), (7, 4, [none, none, none, some (a + 20)]), (6, 3, [none, none, some (a + 21)]), (20, 24, [])]) rfl rfl (l3 := [(36, 4, [some (a + 5), some (a + 7), some (a + 9), some (a + 11)]), (37, 5, [some (a + 13), some (a + 16), some (a + 19), none, none]), (20, 60, []), (20, 8, []), (20, 16, []), (6, 3, [none, none, some (a + 6)]), (20, 24, []), (6, 3, [none, none, some (a + 8)]), (20, 24, []), (6, 3, [none, none, some (a + 10)]), (20, 24, []), (6, 3, [none, none, some (a + 12)]), (20, 24, []), (7, 4, [none, none, none, some (a + 14)]), (6, 3, [none, none, some (a + 15)]), (20, 24, []), (7, 4, [none, none, none, some (a + 17)]), (6, 3, [none, none, some (a + 18)]), (20, 24, []), (7, 4, [none, none, none, some (a + 20)]), (6, 3, [none, none, some (a + 21)]), (20, 24, []), (7, 4, [none, none, none, some (a + 23)]), (6, 3, [none, none, some (a + 24)]), (20, 24, [])]) rfl ?_
  change am_ev _ _ _ _ [_, _, _] _ _ _
  refine ev_aastA (i := 1) (z := 22) hA rfl rfl rfl (l2 := [(36, 4, [some (a + 5), some (a + 7), some (a + 9), some (a + 11)]), (37, 5, [some (a + 13), some (a + 16), some (a + 19), some (a + 22), none]), (20, 60, []), (20, 8, []), (20, 16, []), (6, 3, [none, none, some (a + 6)]), (20, 24, []), (6, 3, [none, none, some (a + 8)]), (20, 24, []), (6, 3, [none, none, some (a + 10)]), (20, 24, []), (6, 3, [none, none, some (a + 12)]), (20, 24, []), (7, 4, [none, none, none, some (a + 14)]), (6, 3, [none, none, some (a + 15)]), (20, 24, []), (7, 4, [none, none, none, some (a + 17)]), (6, 3, [none, none, some (a + 18)]), (20, 24, []), (7, 4, [none, none, none, some (a + 20)]), (6, 3, [none, none, some (a + 21)]), (20, 24, []), (7, 4, [none, none, none, some (a + 23)]), (6, 3, [none, none, some (a + 24)]), (20, 24, [])]) rfl (by decide) (by omega) rfl (by decide) (by decide) ?_
  refine ev_iincN rfl rfl rfl ?_
  change am_ev _ _ _ [_, some (.int (nI 4))] _ _ _ _
  refine ev_goto (p2 := 171) rfl rfl ?_
  refine ev_iload rfl rfl ?_
  refine ev_iconst (x := nI 5) rfl rfl ?_
  refine ev_icmp_geN (p2 := 195) rfl rfl (fun zz => absurd zz (by decide)) (fun _ => ?_)
  refine ev_aload rfl rfl ?_
  refine ev_getR (c := 11) (j := 9) rfl ?_ (hq := (List.getElem?_append_left ht2).trans ht) (hy := h9)
  refine ev_iload rfl rfl ?_
  refine ev_newA hA rfl rfl rfl (l2 := [(36, 4, [some (a + 5), some (a + 7), some (a + 9), some (a + 11)]), (37, 5, [some (a + 13), some (a + 16), some (a + 19), some (a + 22), none]), (20, 60, []), (20, 8, []), (20, 16, []), (6, 3, [none, none, some (a + 6)]), (20, 24, []), (6, 3, [none, none, some (a + 8)]), (20, 24, []), (6, 3, [none, none, some (a + 10)]), (20, 24, []), (6, 3, [none, none, some (a + 12)]), (20, 24, []), (7, 4, [none, none, none, some (a + 14)]), (6, 3, [none, none, some (a + 15)]), (20, 24, []), (7, 4, [none, none, none, some (a + 17)]), (6, 3, [none, none, some (a + 18)]), (20, 24, []), (7, 4, [none, none, none, some (a + 20)]), (6, 3, [none, none, some (a + 21)]), (20, 24, []), (7, 4, [none, none, none, some (a + 23)]), (6, 3, [none, none, some (a + 24)]), (20, 24, []), (7, 4, List.replicate 4 none)]) rfl ?_
  refine ev_dupR rfl ?_
  refine ev_callA (i := 25) hA rfl rfl rfl rfl rfl (Nat.le_of_ble_eq_true rfl) (Nat.le_of_ble_eq_true rfl) ?_
  refine adp (f := kX7) (g := mX7) (fun A a mem Q => i_X7_init A a mem Q) hA ha (l := [(36, 4, [some (a + 5), some (a + 7), some (a + 9), some (a + 11)]), (37, 5, [some (a + 13), some (a + 16), some (a + 19), some (a + 22), none]), (20, 60, []), (20, 8, []), (20, 16, []), (6, 3, [none, none, some (a + 6)]), (20, 24, []), (6, 3, [none, none, some (a + 8)]), (20, 24, []), (6, 3, [none, none, some (a + 10)]), (20, 24, []), (6, 3, [none, none, some (a + 12)]), (20, 24, []), (7, 4, [none, none, none, some (a + 14)]), (6, 3, [none, none, some (a + 15)]), (20, 24, []), (7, 4, [none, none, none, some (a + 17)]), (6, 3, [none, none, some (a + 18)]), (20, 24, []), (7, 4, [none, none, none, some (a + 20)]), (6, 3, [none, none, some (a + 21)]), (20, 24, []), (7, 4, [none, none, none, some (a + 23)]), (6, 3, [none, none, some (a + 24)]), (20, 24, [])]) rfl rfl (l3 := [(36, 4, [some (a + 5), some (a + 7), some (a + 9), some (a + 11)]), (37, 5, [some (a + 13), some (a + 16), some (a + 19), some (a + 22), none]), (20, 60, []), (20, 8, []), (20, 16, []), (6, 3, [none, none, some (a + 6)]), (20, 24, []), (6, 3, [none, none, some (a + 8)]), (20, 24, []), (6, 3, [none, none, some (a + 10)]), (20, 24, []), (6, 3, [none, none, some (a + 12)]), (20, 24, []), (7, 4, [none, none, none, some (a + 14)]), (6, 3, [none, none, some (a + 15)]), (20, 24, []), (7, 4, [none, none, none, some (a + 17)]), (6, 3, [none, none, some (a + 18)]), (20, 24, []), (7, 4, [none, none, none, some (a + 20)]), (6, 3, [none, none, some (a + 21)]), (20, 24, []), (7, 4, [none, none, none, some (a + 23)]), (6, 3, [none, none, some (a + 24)]), (20, 24, []), (7, 4, [none, none, none, some (a + 26)]), (6, 3, [none, none, some (a + 27)]), (20, 24, [])]) rfl ?_
  change am_ev _ _ _ _ [_, _, _] _ _ _
  refine ev_aastA (i := 1) (z := 25) hA rfl rfl rfl (l2 := [(36, 4, [some (a + 5), some (a + 7), some (a + 9), some (a + 11)]), (37, 5, [some (a + 13), some (a + 16), some (a + 19), some (a + 22), some (a + 25)]), (20, 60, []), (20, 8, []), (20, 16, []), (6, 3, [none, none, some (a + 6)]), (20, 24, []), (6, 3, [none, none, some (a + 8)]), (20, 24, []), (6, 3, [none, none, some (a + 10)]), (20, 24, []), (6, 3, [none, none, some (a + 12)]), (20, 24, []), (7, 4, [none, none, none, some (a + 14)]), (6, 3, [none, none, some (a + 15)]), (20, 24, []), (7, 4, [none, none, none, some (a + 17)]), (6, 3, [none, none, some (a + 18)]), (20, 24, []), (7, 4, [none, none, none, some (a + 20)]), (6, 3, [none, none, some (a + 21)]), (20, 24, []), (7, 4, [none, none, none, some (a + 23)]), (6, 3, [none, none, some (a + 24)]), (20, 24, []), (7, 4, [none, none, none, some (a + 26)]), (6, 3, [none, none, some (a + 27)]), (20, 24, [])]) rfl (by decide) (by omega) rfl (by decide) (by decide) ?_
  refine ev_iincN rfl rfl rfl ?_
  change am_ev _ _ _ [_, some (.int (nI 5))] _ _ _ _
  refine ev_goto (p2 := 171) rfl rfl ?_
  refine ev_iload rfl rfl ?_
  refine ev_iconst (x := nI 5) rfl rfl ?_
  refine ev_icmp_geN (p2 := 195) rfl rfl (fun _ => ?_) (fun zz => absurd zz (by decide))
  refine ev_vret rfl ?_
  exact hQ
