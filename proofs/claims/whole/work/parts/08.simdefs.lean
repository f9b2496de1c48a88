/-! THE SMALL MACHINE AND THE REAL ONE: what ties a small heap to a real one -/
def am_re (ad : Nat → Nat) (fm : Value) : Value → Value
  | .ref k => if k = 28 then fm else .ref (ad k)
  | v => v
theorem am_re_ref {ad : Nat → Nat} {fm : Value} {k : Nat} (h : k ≠ 28) : am_re ad fm (.ref k) = .ref (ad k) := by simp [am_re, h]
theorem am_re_cat {ad : Nat → Nat} {fm v : Value} (hf : fm.category = 1) (h : v.category = 1) : (am_re ad fm v).category = 1 := by
  cases v <;> first | exact h | skip
  rename_i k
  show (if k = 28 then fm else Value.ref (ad k)).category = 1
  split
  · exact hf
  · rfl
def am_lv (ad : Nat → Nat) (fm : Value) (L : am_L) : List (Nat × Value) := (List.range L.length).filterMap (fun i => match L[i]? with
  | some (some v) => some (i, am_re ad fm v)
  | _ => none)
theorem am_lv_mem {ad : Nat → Nat} {fm : Value} {L : am_L} {i : Nat} {w : Value} : (i, w) ∈ am_lv ad fm L ↔ ∃ v, L[i]? = some (some v) ∧ w = am_re ad fm v := by
  constructor
  · intro h
    obtain ⟨j, -, hj⟩ := List.mem_filterMap.mp h
    split at hj
    · rename_i v hv
      cases hj
      exact ⟨v, hv, rfl⟩
    · cases hj
  · rintro ⟨v, hv, rfl⟩
    refine List.mem_filterMap.mpr ⟨i, List.mem_range.mpr (List.getElem?_eq_some_iff.mp hv).1, ?_⟩
    simp [hv]
abbrev am_lh (ad : Nat → Nat) (fm : Value) (L : am_L) (ls : Array Slot) : Prop := lv_has ls L.length (am_lv ad fm L)
/-- a value that the small machine knows: an int, or a cell among the first N -/
def am_okv (N : Nat) : Value → Prop
  | .int _ => True
  | .ref z => z < N
  | _ => False
theorem am_okv.cat {N : Nat} {v : Value} (h : am_okv N v) : v.category = 1 := by
  cases v <;> first | rfl | exact h.elim
theorem am_okv.up {N M : Nat} {v : Value} (h : am_okv N v) (hN : N ≤ M) : am_okv M v := by
  cases v <;> first | exact trivial | exact h.elim | exact Nat.lt_of_lt_of_le h hN
theorem am_re_ext {ad ad' : Nat → Nat} {fm : Value} {N : Nat} (h : ∀ o, o < N → ad' o = ad o) {v : Value} (hv : am_okv N v) : am_re ad' fm v = am_re ad fm v := by
  cases v <;> first | rfl | exact hv.elim | skip
  rename_i z
  simp only [am_re, h z hv]
def am_okL (N : Nat) (L : am_L) : Prop := ∀ (i : Nat) (v : Value), L[i]? = some (some v) → am_okv N v
def am_okS (N : Nat) (st : List Value) : Prop := ∀ v ∈ st, am_okv N v
theorem am_lv_ext {ad ad' : Nat → Nat} {fm : Value} {N : Nat} (h : ∀ o, o < N → ad' o = ad o) {L : am_L} (hL : am_okL N L) : am_lv ad' fm L = am_lv ad fm L := by
  unfold am_lv
  congr 1
  funext i
  split
  · rename_i v hv
    rw [am_re_ext h (hL i v hv)]
  · rfl
theorem am_st_ext {ad ad' : Nat → Nat} {fm : Value} {N : Nat} (h : ∀ o, o < N → ad' o = ad o) {st : List Value} (hs : am_okS N st) : st.map (am_re ad' fm) = st.map (am_re ad fm) := List.map_congr_left (fun v hv => am_re_ext h (hs v hv))
theorem am_lh_get {ad : Nat → Nat} {fm : Value} {L : am_L} {ls : Array Slot} {i : Nat} {v : Value} (h : am_lh ad fm L ls) (hv : L[i]? = some (some v)) : ls[i]? = some (.val (am_re ad fm v)) := h.2.2 (i, _) (am_lv_mem.mpr ⟨v, hv, rfl⟩)
theorem am_lh_set {ad : Nat → Nat} {fm : Value} {L : am_L} {ls' : Array Slot} {i N : Nat} {v : Value} (hf : fm.category = 1) (hL : am_okL N L) (hi : i < L.length) (h' : lv_has ls' L.length ((i, am_re ad fm v) :: (am_lv ad fm L).filter (fun q => !(q.1 == i) && !(q.1 + 1 == i && q.2.category == 2)))) : am_lh ad fm (L.set i (some v)) ls' := by
  refine ⟨?_, h'.2.1, ?_⟩
  · rw [h'.1, List.length_set]
  · rintro ⟨j, w⟩ hq
    obtain ⟨u, hu, rfl⟩ := am_lv_mem.mp hq
    by_cases hj : j = i
    · subst hj
      rw [List.getElem?_set_self hi] at hu
      cases hu
      exact h'.2.2 (j, _) List.mem_cons_self
    · rw [List.getElem?_set_ne (Ne.symm hj)] at hu
      refine h'.2.2 (j, _) (List.mem_cons_of_mem _ (List.mem_filter.mpr ⟨am_lv_mem.mpr ⟨u, hu, rfl⟩, ?_⟩))
      have hc := am_re_cat (ad := ad) hf (hL j u hu).cat
      simp [hj, hc]
theorem am_okL.set {N i : Nat} {L : am_L} {v : Value} (h : am_okL N L) (hv : am_okv N v) : am_okL N (L.set i (some v)) := by
  intro j u hu
  by_cases hj : i = j
  · subst hj
    by_cases hi : i < L.length
    · rw [List.getElem?_set_self hi] at hu
      cases hu
      exact hv
    · rw [List.getElem?_eq_none (by rw [List.length_set]; omega)] at hu
      cases hu
  · rw [List.getElem?_set_ne hj] at hu
    exact h j u hu
def am_sz : am_K → Nat
  | [] => 0
  | e :: l => e.2.1 + am_sz l
theorem am_sz_app (a b : am_K) : am_sz (a ++ b) = am_sz a + am_sz b := by
  induction a with
  | nil => simp [am_sz]
  | cons e l ih => simp only [List.cons_append, am_sz, ih]; omega
theorem am_sz_set {k : am_K} {o : Nat} {e e' : am_E} (h : k[o]? = some e) (hn : e'.2.1 = e.2.1) : am_sz (k.set o e') = am_sz k := by
  induction k generalizing o with
  | nil => rfl
  | cons x l ih =>
    cases o with
    | zero =>
      simp only [List.getElem?_cons_zero, Option.some.injEq] at h
      subst h
      simp only [List.set_cons_zero, am_sz, hn]
    | succ o =>
      simp only [List.getElem?_cons_succ] at h
      simp only [List.set_cons_succ, am_sz, ih h]
def am_ty (k : Nat) : FieldType := if k = 20 then .int else if k = 21 then .boolean else if k = 22 then .char else if k = 23 then .byte else .object (vwCl.getD (k - 30) ("", fun _ => ("", "", "", false), 0)).1
def am_fv (ad : Nat → Nat) (c : Nat) (rs : List (Option Nat)) (m : Nat → Int32) (k : Nat) : Value := if am_ft c k = 2 then (match rs[k]? with
  | some (some z) => .ref (ad z)
  | _ => .null) else .int (m k)
def am_cell (ad : Nat → Nat) (aC : Nat → ClassId) (o : Nat) (e : am_E) (m : Nat → Int32) : va_E := if e.1 < 13 then .inr (e.1, (List.range e.2.1).map (am_fv ad e.1 e.2.2 m)) else if e.1 < 30 then .inl (aC o, e.2.1, .inl m) else .inl (aC o, e.2.1, .inr (.inr (.inr (.inr (fun j => match e.2.2[j]? with
  | some (some z) => some (ad z)
  | _ => none)))))
def am_w (ad : Nat → Nat) (aC : Nat → ClassId) (sk : am_K) (mem : am_M) : va_W := (List.range (sk.length - 29)).map (fun j => (ad (j + 29), am_cell ad aC (j + 29) (sk.getD (j + 29) (0, 0, [])) (mem (j + 29))))
theorem am_w_len (ad : Nat → Nat) (aC : Nat → ClassId) (sk : am_K) (mem : am_M) : (am_w ad aC sk mem).length = sk.length - 29 := by simp [am_w]
theorem am_w_get (ad : Nat → Nat) (aC : Nat → ClassId) (sk : am_K) (mem : am_M) (j : Nat) (h : j < sk.length - 29) : (am_w ad aC sk mem)[j]? = some (ad (j + 29), am_cell ad aC (j + 29) (sk.getD (j + 29) (0, 0, [])) (mem (j + 29))) := by
  simp [am_w, List.getElem?_map, List.getElem?_range h]
theorem am_w_at {ad : Nat → Nat} {aC : Nat → ClassId} {sk : am_K} {mem : am_M} {o : Nat} {e : am_E} (h : sk[o]? = some e) (ho : 29 ≤ o) : (am_w ad aC sk mem)[o - 29]? = some (ad o, am_cell ad aC o e (mem o)) := by
  have hl := (List.getElem?_eq_some_iff.mp h).1
  rw [am_w_get _ _ _ _ _ (by omega), show o - 29 + 29 = o by omega]
  simp [List.getD_eq_getElem?_getD, h]
theorem am_w_ext {ad ad' : Nat → Nat} {aC aC' : Nat → ClassId} {sk sk' : am_K} {mem mem' : am_M} (hl : sk'.length = sk.length) (h : ∀ o, 29 ≤ o → o < sk.length → ad' o = ad o ∧ am_cell ad' aC' o (sk'.getD o (0, 0, [])) (mem' o) = am_cell ad aC o (sk.getD o (0, 0, [])) (mem o)) : am_w ad' aC' sk' mem' = am_w ad aC sk mem := by
  apply List.ext_getElem?
  intro j
  by_cases hj : j < sk.length - 29
  · rw [am_w_get _ _ _ _ _ (by omega), am_w_get _ _ _ _ _ hj]
    obtain ⟨h1, h2⟩ := h (j + 29) (by omega) (by omega)
    rw [h1, h2]
  · rw [List.getElem?_eq_none (by rw [am_w_len]; omega), List.getElem?_eq_none (by rw [am_w_len]; omega)]
theorem am_w_set {ad : Nat → Nat} {aC : Nat → ClassId} {sk sk' : am_K} {mem mem' : am_M} {o : Nat} {x : va_E} (ho : 29 ≤ o) (hlt : o < sk.length) (hl : sk'.length = sk.length) (hx : am_cell ad aC o (sk'.getD o (0, 0, [])) (mem' o) = x) (h : ∀ a, a ≠ o → sk'.getD a (0, 0, []) = sk.getD a (0, 0, []) ∧ mem' a = mem a) : (am_w ad aC sk mem).set (o - 29) (ad o, x) = am_w ad aC sk' mem' := by
  apply List.ext_getElem?
  intro j
  by_cases hj : j < sk.length - 29
  · rw [am_w_get _ _ sk' _ _ (by omega)]
    by_cases hjo : j = o - 29
    · subst hjo
      rw [List.getElem?_set_self (by rw [am_w_len]; omega), show o - 29 + 29 = o by omega, hx]
    · rw [List.getElem?_set_ne (Ne.symm hjo), am_w_get _ _ _ _ _ hj]
      obtain ⟨h1, h2⟩ := h (j + 29) (by omega)
      rw [h1, h2]
  · rw [List.getElem?_eq_none (by rw [List.length_set, am_w_len]; omega), List.getElem?_eq_none (by rw [am_w_len]; omega)]
def am_byt : List (List Int32) := [[100, 105, 109], [108, 105, 102, 101], [112, 114, 105, 99, 101], [108, 97, 119], [104, 100, 99], [107, 119, 99], [104, 100], [104, 99], [124], [38], [60, 61, 62], [43, 45], [42, 47]]
def am_len : List Nat := [3, 4, 5, 3, 3, 3, 2, 2, 1, 1, 3, 2, 2]
def am_ka (j : Nat) : Int32 := ([-1, 0, 0, 1, 2, 0] : List Int32).getD j 0
def am_ro (n : Nat) : am_K := [(20, 6, []), (20, n, []), (13, 2, [some 15, none]), (13, 2, [some 16, none]), (13, 2, [some 17, none]), (13, 2, [some 18, none]), (13, 2, [some 19, none]), (13, 2, [some 20, none]), (13, 2, [some 21, none]), (13, 2, [some 22, none]), (13, 2, [some 23, none]), (13, 2, [some 24, none]), (13, 2, [some 25, none]), (13, 2, [some 26, none]), (13, 2, [some 27, none]), (23, 3, []), (23, 4, []), (23, 5, []), (23, 3, []), (23, 3, []), (23, 3, []), (23, 2, []), (23, 2, []), (23, 1, []), (23, 1, []), (23, 3, []), (23, 2, []), (23, 2, []), (91, 0, [])]
/-- the part of the small heap that nobody writes -/
def am_RO (n : Nat) (xs : Nat → Int32) (sk : am_K) (mem : am_M) : Prop := 29 ≤ sk.length ∧ (∀ o, o < 29 → sk[o]? = (am_ro n)[o]?) ∧ (∀ j, j < 6 → mem 0 j = am_ka j) ∧ (∀ j, j < n → mem 1 j = xs j) ∧ (∀ i, i < 13 → mem (2 + i) 1 = 0) ∧ ∀ i, i < 13 → ∀ j, j < am_len.getD i 0 → mem (15 + i) j = (am_byt.getD i []).getD j 0
def am_wf (sk : am_K) : Prop := (∀ (o : Nat) (e : am_E), sk[o]? = some e → ∀ z, some z ∈ e.2.2 → z < sk.length ∧ z ≠ 28) ∧ ∀ (o : Nat) (e : am_E), 29 ≤ o → sk[o]? = some e → e.1 ≠ 13 ∧ e.1 ≠ 23
def am_At (D : va_G) (fm : Value) (n : Nat) (xs : Nat → Int32) (A : Nat → Prop) (s : State) (ad : Nat → Nat) (aC : Nat → ClassId) (sk : am_K) (mem : am_M) (H : Heap) : Prop := va_P D vwCl (am_w ad aC sk mem) H ∧ va_D A (am_w ad aC sk mem) ∧ (∀ (o : Nat) (e : am_E), 29 ≤ o → sk[o]? = some e → 13 ≤ e.1 → ArrOfT s (aC o) (am_ty e.1) ∧ va_RA s (aC o) (am_ty e.1)) ∧ am_RO n xs sk mem ∧ am_wf sk
def am_Fx (fm : Value) (n : Nat) (xs : Nat → Int32) (ad : Nat → Nat) (A : Nat → Prop) (U : State) (H : Heap) : Prop :=
  (va_Z "TownLamps" "KIND_ABOVE" "[I" (.ref (ad 0)) A U H ∧ va_T .int (ad 0) 6 (fun j => .int (am_ka j)) A U H) ∧ (va_X (ad 1) n xs U H ∧ ¬ A (ad 1)) ∧ vk_S 13 am_len am_byt (fun i => ad (2 + i)) (fun i => ad (15 + i)) A U H ∧ (∀ (i : Nat) (q : Nat × String), am_str[i]? = some q → vk_R "TownLamps$Reader" q.1 q.2 (ad (2 + i)) U) ∧ va_Z "java/lang/String" "COMPACT_STRINGS" "Z" (.int 1) A U H ∧ va_Z "jdk/internal/util/Preconditions" "SIOOBE_FORMATTER" "Ljava/util/function/BiFunction;" fm A U H ∧ (∀ q ∈ am_nest, va_Nw (.methodLinkNest q.1 q.2.1 q.2.2.1 q.2.2.2) U) ∧ ∀ c ∈ [1, 3, 4, 6, 7, 8], ∀ q : vw_C, vwCl[c]? = some q → va_AO q.1 U
theorem am_Fx.go {fm : Value} {n : Nat} {xs : Nat → Int32} {ad : Nat → Nat} {A B : Nat → Prop} {s U : State} {H H1 : Heap} (hW : s.WarmedH U.vm) (hq : ∀ a : Nat, a < H.size → ¬ A a → H1[a]? = H[a]?) (hAB : ∀ q, B q → A q) (h : am_Fx fm n xs ad A s H) : am_Fx fm n xs ad B U H1 := by
  obtain ⟨⟨h1, h2⟩, ⟨h3, h3'⟩, h4, h5, h6, h7, h8, h9⟩ := h
  have hv := hW.alike
  refine ⟨⟨((h1.moved hv).kept hq).narrow hAB, ((h2.moved hv).kept hq).narrow hAB⟩, ⟨(h3.moved hv).kept ?_, fun z => h3' (hAB _ z)⟩, ((h4.moved hv).kept hq).narrow hAB, fun i q e => (h5 i q e).warm hW, ((h6.moved hv).kept hq).narrow hAB, ((h7.moved hv).kept hq).narrow hAB, fun q hm => (h8 q hm).warmM hW, fun c hc q hq => (h9 c hc q hq).moved hv⟩
  obtain ⟨scr, e1, -⟩ := h3
  exact hq _ (Array.getElem?_eq_some_iff.mp e1).1 h3'
theorem am_Fx.same {fm : Value} {n : Nat} {xs : Nat → Int32} {ad : Nat → Nat} {A : Nat → Prop} {s U : State} {H : Heap} (hv : U.vm = s.vm) (h : am_Fx fm n xs ad A s H) : am_Fx fm n xs ad A U H := by
  refine am_Fx.go (s := s) ?_ (fun _ _ _ => rfl) (fun _ z => z) h
  rw [hv]
  exact State.WarmedH.refl s
theorem am_Fx.congr {fm : Value} {n : Nat} {xs : Nat → Int32} {ad ad' : Nat → Nat} {A : Nat → Prop} {s : State} {H : Heap} (ha : ∀ o, o < 29 → ad' o = ad o) (h : am_Fx fm n xs ad A s H) : am_Fx fm n xs ad' A s H := by
  obtain ⟨⟨h1, h2⟩, ⟨h3, h3'⟩, h4, h5, h6, h7, h8, h9⟩ := h
  have a0 := ha 0 (by omega)
  have a1 := ha 1 (by omega)
  refine ⟨by rw [a0]; exact ⟨h1, h2⟩, by rw [a1]; exact ⟨h3, h3'⟩, ⟨fun i hi => ?_, fun i j hi hj e => ?_⟩, fun i q e => ?_, h6, h7, h8, h9⟩
  · show va_O "java/lang/String" (ad' (2 + i)) A s H ∧ va_OF "java/lang/String" "coder" "B" (.int 0) (ad' (2 + i)) A s H ∧ va_OF "java/lang/String" "value" "[B" (.ref (ad' (15 + i))) (ad' (2 + i)) A s H ∧ va_T .byte (ad' (15 + i)) (am_len.getD i 0) (fun j => .int ((am_byt.getD i []).getD j 0)) A s H
    rw [ha (2 + i) (by omega), ha (15 + i) (by omega)]
    exact h4.1 i hi
  · have e' : ad' (2 + i) = ad' (2 + j) := e
    rw [ha (2 + i) (by omega), ha (2 + j) (by omega)] at e'
    exact h4.2 i j hi hj e'
  · have hi : i < 13 := (List.getElem?_eq_some_iff.mp e).1
    rw [ha (2 + i) (by omega)]
    exact h5 i q e
/-- a cell of the small heap is written -/
theorem am_At.set {D : va_G} {fm : Value} {n : Nat} {xs : Nat → Int32} {A : Nat → Prop} {s : State} {ad : Nat → Nat} {aC : Nat → ClassId} {sk sk' : am_K} {mem mem' : am_M} {H H1 : Heap} {o : Nat} {x : va_E} (hA : am_At D fm n xs A s ad aC sk mem H) (ho : 29 ≤ o) (hlt : o < sk.length) (hl : sk'.length = sk.length) (hx : am_cell ad aC o (sk'.getD o (0, 0, [])) (mem' o) = x) (h : ∀ a, a ≠ o → sk'.getD a (0, 0, []) = sk.getD a (0, 0, []) ∧ mem' a = mem a) (hk : (sk'.getD o (0, 0, [])).1 = (sk.getD o (0, 0, [])).1) (hwf : am_wf sk')
    (hP : va_P D vwCl ((am_w ad aC sk mem).set (o - 29) (ad o, x)) H1) (hD : va_D A ((am_w ad aC sk mem).set (o - 29) (ad o, x))) : am_At D fm n xs A s ad aC sk' mem' H1 := by
  have e := am_w_set (ad := ad) (aC := aC) (sk := sk) (sk' := sk') (mem := mem) (mem' := mem') (x := x) ho hlt hl hx h
  rw [e] at hP hD
  obtain ⟨-, -, h3, ⟨r0, r1, r2, r3, r4, r5⟩, -⟩ := hA
  refine ⟨hP, hD, fun a q ha hq hk13 => ?_, ⟨by omega, fun a ha => ?_, fun j hj => ?_, fun j hj => ?_, fun i hi => ?_, fun i hi j hj => ?_⟩, hwf⟩
  · have hal : a < sk.length := by rw [← hl]; exact (List.getElem?_eq_some_iff.mp hq).1
    have hq2 : sk'.getD a (0, 0, []) = q := by simp [List.getD_eq_getElem?_getD, hq]
    have hs : sk[a]? = some (sk.getD a (0, 0, [])) := by simp [List.getD_eq_getElem?_getD, List.getElem?_eq_getElem hal]
    have hkk : (sk.getD a (0, 0, [])).1 = q.1 := by
      by_cases e2 : a = o
      · subst e2
        rw [← hk, hq2]
      · rw [← (h a e2).1, hq2]
    have := h3 a _ ha hs (by rw [hkk]; exact hk13)
    rw [hkk] at this
    exact this
  · have hne : a ≠ o := by omega
    have hal : a < sk.length := by omega
    have g := (h a hne).1
    simp only [List.getD_eq_getElem?_getD, List.getElem?_eq_getElem hal, List.getElem?_eq_getElem (show a < sk'.length by omega), Option.getD_some] at g
    rw [List.getElem?_eq_getElem (show a < sk'.length by omega), g, ← List.getElem?_eq_getElem hal]
    exact r1 a ha
  · rw [(h 0 (by omega)).2]; exact r2 j hj
  · rw [(h 1 (by omega)).2]; exact r3 j hj
  · rw [(h (2 + i) (by omega)).2]; exact r4 i hi
  · rw [(h (15 + i) (by omega)).2]; exact r5 i hi j hj
theorem am_cell_ext {ad ad' : Nat → Nat} {aC aC' : Nat → ClassId} {o N : Nat} {e : am_E} {m : Nat → Int32} (h : ∀ q, q < N → ad' q = ad q) (hc : aC' o = aC o) (he : ∀ z, some z ∈ e.2.2 → z < N) : am_cell ad' aC' o e m = am_cell ad aC o e m := by
  unfold am_cell
  split
  · congr 2
    apply List.map_congr_left
    intro k _
    unfold am_fv
    split
    · split
      · rename_i z hz
        rw [h z (he z (List.mem_of_getElem? hz))]
      · rfl
    · rfl
  · split
    · rw [hc]
    · rw [hc]
      have e1 : (fun (j : Nat) => match e.2.2[j]? with
          | some (some z) => some (ad' z)
          | _ => none) = (fun (j : Nat) => match e.2.2[j]? with
          | some (some z) => some (ad z)
          | _ => none) := by
        funext j
        split
        · rename_i z hz
          rw [h z (he z (List.mem_of_getElem? hz))]
        · rfl
      rw [e1]
def am_ad (ad : Nat → Nat) (N q : Nat) : Nat → Nat := fun o => if o = N then q else ad o
/-- a cell is made -/
theorem am_At.push {D : va_G} {fm : Value} {n : Nat} {xs : Nat → Int32} {A : Nat → Prop} {s : State} {ad : Nat → Nat} {aC : Nat → ClassId} {sk : am_K} {mem : am_M} {H H1 : Heap} {q cA : Nat} {x : va_E} {e : am_E} (hA : am_At D fm n xs A s ad aC sk mem H) (hn : ∀ z, some z ∉ e.2.2) (h23 : e.1 ≠ 13 ∧ e.1 ≠ 23) (hx : am_cell (am_ad ad sk.length q) (am_ad aC sk.length cA) sk.length e (fun _ => 0) = x) (hty : 13 ≤ e.1 → ArrOfT s cA (am_ty e.1) ∧ va_RA s cA (am_ty e.1))
    (hP : va_P D vwCl (am_w ad aC sk mem ++ [(q, x)]) H1) (hD : va_D A (am_w ad aC sk mem ++ [(q, x)])) : am_At D fm n xs A s (am_ad ad sk.length q) (am_ad aC sk.length cA) (sk ++ [e]) (am_z mem sk.length) H1 := by
  obtain ⟨-, -, h3, ⟨r0, r1, r2, r3, r4, r5⟩, hwf⟩ := hA
  have hE : am_w ad aC sk mem ++ [(q, x)] = am_w (am_ad ad sk.length q) (am_ad aC sk.length cA) (sk ++ [e]) (am_z mem sk.length) := by
    apply List.ext_getElem?
    intro j
    by_cases hj : j < sk.length - 29
    · rw [List.getElem?_append_left (by rw [am_w_len]; exact hj), am_w_get _ _ _ _ _ hj, am_w_get _ _ _ _ _ (by rw [List.length_append, List.length_singleton]; omega)]
      have hal : j + 29 < sk.length := by omega
      have hs : sk[j + 29]? = some (sk.getD (j + 29) (0, 0, [])) := by simp [List.getD_eq_getElem?_getD, List.getElem?_eq_getElem hal]
      have e1 : (sk ++ [e]).getD (j + 29) (0, 0, []) = sk.getD (j + 29) (0, 0, []) := by simp [List.getD_eq_getElem?_getD, List.getElem?_append_left hal]
      have e2 : am_z mem sk.length (j + 29) = mem (j + 29) := by simp only [am_z, if_neg (show ¬ j + 29 = sk.length by omega)]
      have e3 : am_ad ad sk.length q (j + 29) = ad (j + 29) := by simp only [am_ad, if_neg (show ¬ j + 29 = sk.length by omega)]
      rw [e1, e2, e3, am_cell_ext (ad := ad) (aC := aC) (ad' := am_ad ad sk.length q) (aC' := am_ad aC sk.length cA) (N := sk.length) (fun z hz => by simp only [am_ad, if_neg (show ¬ z = sk.length by omega)]) (by simp only [am_ad, if_neg (show ¬ j + 29 = sk.length by omega)]) (fun z hz => (hwf.1 _ _ hs z hz).1)]
    · by_cases hj2 : j = sk.length - 29
      · subst hj2
        rw [List.getElem?_append_right (by rw [am_w_len]; omega), am_w_len, Nat.sub_self, am_w_get _ _ _ _ _ (by rw [List.length_append, List.length_singleton]; omega), show sk.length - 29 + 29 = sk.length by omega]
        have e1 : (sk ++ [e]).getD sk.length (0, 0, []) = e := by simp [List.getD_eq_getElem?_getD]
        have e2 : am_z mem sk.length sk.length = fun _ => 0 := by simp [am_z]
        have e3 : am_ad ad sk.length q sk.length = q := by simp [am_ad]
        rw [e1, e2, e3, hx]
        rfl
      · rw [List.getElem?_eq_none (by rw [List.length_append, am_w_len, List.length_singleton]; omega), List.getElem?_eq_none (by rw [am_w_len, List.length_append, List.length_singleton]; omega)]
  rw [hE] at hP hD
  refine ⟨hP, hD, fun a y ha hy hk13 => ?_, ⟨by rw [List.length_append]; omega, fun a ha => by rw [List.getElem?_append_left (by omega)]; exact r1 a ha, fun j hj => ?_, fun j hj => ?_, fun i hi => ?_, fun i hi j hj => ?_⟩, fun a y hy z hz => ?_, fun a y ha hy => ?_⟩
  · by_cases hal : a < sk.length
    · rw [List.getElem?_append_left hal] at hy
      have := h3 a y ha hy hk13
      simp only [am_ad, if_neg (show ¬ a = sk.length by omega)]
      exact this
    · have hal2 : a = sk.length := by
        have := (List.getElem?_eq_some_iff.mp hy).1
        rw [List.length_append, List.length_singleton] at this
        omega
      subst hal2
      rw [List.getElem?_append_right (Nat.le_refl _), Nat.sub_self] at hy
      cases hy
      simp only [am_ad, if_pos]
      exact hty hk13
  · simp only [am_z, if_neg (show ¬ 0 = sk.length by omega)]; exact r2 j hj
  · simp only [am_z, if_neg (show ¬ 1 = sk.length by omega)]; exact r3 j hj
  · simp only [am_z, if_neg (show ¬ 2 + i = sk.length by omega)]; exact r4 i hi
  · simp only [am_z, if_neg (show ¬ 15 + i = sk.length by omega)]; exact r5 i hi j hj
  · by_cases hal : a < sk.length
    · rw [List.getElem?_append_left hal] at hy
      have := hwf.1 a y hy z hz
      exact ⟨by rw [List.length_append]; omega, this.2⟩
    · have hal2 : a = sk.length := by
        have := (List.getElem?_eq_some_iff.mp hy).1
        rw [List.length_append, List.length_singleton] at this
        omega
      subst hal2
      rw [List.getElem?_append_right (Nat.le_refl _), Nat.sub_self] at hy
      cases hy
      exact absurd hz (hn z)
  · by_cases hal : a < sk.length
    · rw [List.getElem?_append_left hal] at hy
      exact hwf.2 a y ha hy
    · have hal2 : a = sk.length := by
        have := (List.getElem?_eq_some_iff.mp hy).1
        rw [List.length_append, List.length_singleton] at this
        omega
      subst hal2
      rw [List.getElem?_append_right (Nat.le_refl _), Nat.sub_self] at hy
      cases hy
      exact h23
