/-! the real machine does what the small one does: instructions on the heap -/
theorem am_wf.set {sk : am_K} {o k N : Nat} {rs : List (Option Nat)} {x : am_E} (h : am_wf sk) (hq : sk[o]? = some (k, N, rs)) (hx : x.1 = k) (hr : ∀ z, some z ∈ x.2.2 → some z ∈ rs ∨ (z < sk.length ∧ z ≠ 28)) : am_wf (sk.set o x) := by
  have hlt := (List.getElem?_eq_some_iff.mp hq).1
  refine ⟨fun a e he z hz => ?_, fun a e ha he => ?_⟩
  · rw [List.length_set]
    by_cases h1 : o = a
    · subst h1
      rw [List.getElem?_set_self hlt] at he
      cases he
      rcases hr z hz with h2 | h2
      · exact h.1 o _ hq z h2
      · exact h2
    · rw [List.getElem?_set_ne h1] at he
      exact h.1 a e he z hz
  · by_cases h1 : o = a
    · subst h1
      rw [List.getElem?_set_self hlt] at he
      cases he
      rw [hx]
      exact h.2 o _ ha hq
    · rw [List.getElem?_set_ne h1] at he
      exact h.2 a e ha he
section AMH
variable {p : Program} {l : Launch} {e : Env} {R : Room} {s : State} {m : MethodId} {args : Array Value} {below : List Frame} {meth : Method} {c : Code} {Qf : State → Prop} {D : va_G} {fm : Value} {n : Nat} {xs : Nat → Int32} {A : Nat → Prop} {cc : ByteArray} {own : String} {init : Bool} {ret : Option FieldType} {nL : Nat}
variable {pc nx : Nat} {L : am_L} {st : List Value} {sk : am_K} {mem : am_M} {ad : Nat → Nat} {aC : Nat → ClassId} {cells slots : Nat} {raw norm : Instr} {pl : Nat}
theorem am_x_ldc {i : Nat} (hm : am_Me p s m args meth c D fm A cc own init nL) (hrow : am_rowok own init ret cc (pc, .ldc i, nx) (raw, pl) = true) (hi : i < 13) (kk : am_K1 p l e R s m args below meth c Qf D fm n xs A nx L (.ref (2 + i) :: st) sk mem ad aC cells slots) : am_K1 p l e R s m args below meth c Qf D fm n xs A pc L st sk mem ad aC cells slots := by
  obtain ⟨h1, h2, h3⟩ := am_row_dec hrow
  simp only [am_lk] at h3
  split at h3
  · simp only [Bool.and_eq_true, decide_eq_true_eq] at h3
    obtain ⟨⟨rfl, rfl⟩, h4⟩ := h3
    rw [show pc + 2 - pc = 2 by omega] at h1
    split at h4
    · rename_i q hq
      simp only [decide_eq_true_eq] at h4
      subst h4
      intro H locs ls hA hF hl hS
      have k2 := kk H locs ls hA hF hl hS
      rw [List.map_cons, am_re_ref (by omega)] at k2
      exact va_ldcS hm.1 hm.2.1 hm.2.2.1 (hF.2.2.2.1 i q hq) h1 k2
    · cases h4
  · cases h3
theorem am_x_gets {i : Nat} (hm : am_Me p s m args meth c D fm A cc own init nL) (hrow : am_rowok own init ret cc (pc, .getstatic i, nx) (raw, pl) = true) (kk : am_K1 p l e R s m args below meth c Qf D fm n xs A nx L (am_gsv i :: st) sk mem ad aC cells slots) : am_K1 p l e R s m args below meth c Qf D fm n xs A pc L st sk mem ad aC cells slots := by
  obtain ⟨h1, h2, h3⟩ := am_row_dec hrow
  simp only [am_lk] at h3
  split at h3
  · simp only [Bool.and_eq_true, decide_eq_true_eq] at h3
    obtain ⟨rfl, h4⟩ := h3
    rw [show pc + 3 - pc = 3 by omega] at h1
    intro H locs ls hA hF hl hS
    have k2 := kk H locs ls hA hF hl hS
    cases i with
    | zero => exact va_gets hm.1 hm.2.1 hF.1.1 hS hm.2.2.1 (am_hts hm (show am_wd pl (.fieldLink own _ "TownLamps" "KIND_ABOVE" "[I") = true from h4) rfl) (fun _ z => z) h1 k2
    | succ i =>
      cases i with
      | zero => exact va_gets hm.1 hm.2.1 hF.2.2.2.2.1 hS hm.2.2.1 (am_hts hm (show am_wd pl (.fieldLink own _ "java/lang/String" "COMPACT_STRINGS" "Z") = true from h4) rfl) (fun _ z => z) h1 k2
      | succ i => exact va_gets hm.1 hm.2.1 hF.2.2.2.2.2.1 hS hm.2.2.1 (am_hts hm (show am_wd pl (.fieldLink own _ "jdk/internal/util/Preconditions" "SIOOBE_FORMATTER" "Ljava/util/function/BiFunction;") = true from h4) rfl) (fun _ z => z) h1 k2
  · cases h3
theorem am_x_iald {i : Int32} {q N : Nat} {rs : List (Option Nat)} (hm : am_Me p s m args meth c D fm A cc own init nL) (hrow : am_rowok own init ret cc (pc, .iaload, nx) (raw, pl) = true) (hq : sk[q]? = some (20, N, rs)) (hin : vp_in i N) (kk : am_K1 p l e R s m args below meth c Qf D fm n xs A nx L (.int (mem q i.toNatClampNeg) :: st) sk mem ad aC cells slots) : am_K1 p l e R s m args below meth c Qf D fm n xs A pc L (.int i :: .ref q :: st) sk mem ad aC cells slots := by
  obtain ⟨h1, h2, h3⟩ := am_row_dec hrow
  simp only [am_lk, decide_eq_true_eq] at h3
  obtain ⟨rfl, rfl⟩ := h3
  rw [show pc + 1 - pc = 1 by omega] at h1
  intro H locs ls hA hF hl hS
  have k2 := kk H locs ls hA hF hl hS
  rw [List.map_cons] at k2
  by_cases h29 : 29 ≤ q
  · have hw := am_w_at (ad := ad) (aC := aC) (mem := mem) hq h29
    rw [show am_cell ad aC q (20, N, rs) (mem q) = .inl (aC q, N, .inl (mem q)) by simp [am_cell]] at hw
    have hT := hA.2.2.1 q _ h29 hq (Nat.le_of_ble_eq_true rfl)
    rw [List.map_cons, List.map_cons, am_re_ref (by omega)]
    exact va_iald hm.1 hm.2.1 (am_K1ty hm.2.2.2.2.2.1 hT) hA.1 (q - 29) 0 hw rfl hin h1 k2
  · have hr := hA.2.2.2.1
    rcases am_ro_kind (n := n) (by omega) ((hr.2.1 q (by omega)).symm.trans hq) with ⟨e1, e2⟩ | ⟨e1, e2⟩ | ⟨i1, -, -, e2⟩ | ⟨i1, -, -, e2⟩ | ⟨-, e2⟩
    · subst e1
      cases e2
      have hlt : i.toNatClampNeg < 6 := Nat.not_le.mp fun z => hin (Or.inr z)
      exact va_ti hm.1 hm.2.1 hF.1.2 hS hin (by rw [hr.2.2.1 _ hlt]; rfl) h1 k2
    · subst e1
      cases e2
      have hlt : i.toNatClampNeg < n := Nat.not_le.mp fun z => hin (Or.inr z)
      have k3 := k2
      rw [show am_re ad fm (.int (mem 1 i.toNatClampNeg)) = .int (xs i.toNatClampNeg) from congrArg Value.int (hr.2.2.2.1 _ hlt)] at k3
      obtain ⟨scr, e3, -⟩ := id hF.2.1.1
      exact va_sld hm.1 hm.2.1 hF.2.1.1 (Array.getElem?_eq_some_iff.mp e3).1 hF.2.1.2 hS hin h1 k3
    · cases e2
    · cases e2
    · cases e2
theorem am_x_zald {i : Int32} {q N : Nat} {rs : List (Option Nat)} (hm : am_Me p s m args meth c D fm A cc own init nL) (hrow : am_rowok own init ret cc (pc, .baload, nx) (raw, pl) = true) (hq : sk[q]? = some (21, N, rs)) (hin : vp_in i N) (kk : am_K1 p l e R s m args below meth c Qf D fm n xs A nx L (.int (mem q i.toNatClampNeg) :: st) sk mem ad aC cells slots) : am_K1 p l e R s m args below meth c Qf D fm n xs A pc L (.int i :: .ref q :: st) sk mem ad aC cells slots := by
  obtain ⟨h1, h2, h3⟩ := am_row_dec hrow
  simp only [am_lk, decide_eq_true_eq] at h3
  obtain ⟨rfl, rfl⟩ := h3
  rw [show pc + 1 - pc = 1 by omega] at h1
  intro H locs ls hA hF hl hS
  have k2 := kk H locs ls hA hF hl hS
  rw [List.map_cons] at k2
  by_cases h29 : 29 ≤ q
  · have hw := am_w_at (ad := ad) (aC := aC) (mem := mem) hq h29
    rw [show am_cell ad aC q (21, N, rs) (mem q) = .inl (aC q, N, .inl (mem q)) by simp [am_cell]] at hw
    have hT := hA.2.2.1 q _ h29 hq (Nat.le_of_ble_eq_true rfl)
    rw [List.map_cons, List.map_cons, am_re_ref (by omega)]
    exact va_zald hm.1 hm.2.1 (am_K1ty hm.2.2.2.2.2.1 hT) hA.1 (q - 29) 0 hw rfl hin h1 k2
  · have hr := hA.2.2.2.1
    rcases am_ro_kind (n := n) (by omega) ((hr.2.1 q (by omega)).symm.trans hq) with ⟨e1, e2⟩ | ⟨e1, e2⟩ | ⟨i1, -, -, e2⟩ | ⟨i1, -, -, e2⟩ | ⟨-, e2⟩ <;> cases e2
theorem am_x_cald {i : Int32} {q N : Nat} {rs : List (Option Nat)} (hm : am_Me p s m args meth c D fm A cc own init nL) (hrow : am_rowok own init ret cc (pc, .caload, nx) (raw, pl) = true) (hq : sk[q]? = some (22, N, rs)) (hin : vp_in i N) (kk : am_K1 p l e R s m args below meth c Qf D fm n xs A nx L (.int (mem q i.toNatClampNeg) :: st) sk mem ad aC cells slots) : am_K1 p l e R s m args below meth c Qf D fm n xs A pc L (.int i :: .ref q :: st) sk mem ad aC cells slots := by
  obtain ⟨h1, h2, h3⟩ := am_row_dec hrow
  simp only [am_lk, decide_eq_true_eq] at h3
  obtain ⟨rfl, rfl⟩ := h3
  rw [show pc + 1 - pc = 1 by omega] at h1
  intro H locs ls hA hF hl hS
  have k2 := kk H locs ls hA hF hl hS
  rw [List.map_cons] at k2
  by_cases h29 : 29 ≤ q
  · have hw := am_w_at (ad := ad) (aC := aC) (mem := mem) hq h29
    rw [show am_cell ad aC q (22, N, rs) (mem q) = .inl (aC q, N, .inl (mem q)) by simp [am_cell]] at hw
    have hT := hA.2.2.1 q _ h29 hq (Nat.le_of_ble_eq_true rfl)
    rw [List.map_cons, List.map_cons, am_re_ref (by omega)]
    exact va_cald hm.1 hm.2.1 (am_K1ty hm.2.2.2.2.2.1 hT) hA.1 (q - 29) 0 hw rfl hin h1 k2
  · have hr := hA.2.2.2.1
    rcases am_ro_kind (n := n) (by omega) ((hr.2.1 q (by omega)).symm.trans hq) with ⟨e1, e2⟩ | ⟨e1, e2⟩ | ⟨i1, -, -, e2⟩ | ⟨i1, -, -, e2⟩ | ⟨-, e2⟩ <;> cases e2
theorem am_x_bald {i : Int32} {q N : Nat} {rs : List (Option Nat)} (hm : am_Me p s m args meth c D fm A cc own init nL) (hrow : am_rowok own init ret cc (pc, .saload, nx) (raw, pl) = true) (hq : sk[q]? = some (23, N, rs)) (hin : vp_in i N) (kk : am_K1 p l e R s m args below meth c Qf D fm n xs A nx L (.int (mem q i.toNatClampNeg) :: st) sk mem ad aC cells slots) : am_K1 p l e R s m args below meth c Qf D fm n xs A pc L (.int i :: .ref q :: st) sk mem ad aC cells slots := by
  obtain ⟨h1, h2, h3⟩ := am_row_dec hrow
  simp only [am_lk, decide_eq_true_eq] at h3
  obtain ⟨rfl, rfl⟩ := h3
  rw [show pc + 1 - pc = 1 by omega] at h1
  intro H locs ls hA hF hl hS
  have k2 := kk H locs ls hA hF hl hS
  rw [List.map_cons] at k2
  by_cases h29 : 29 ≤ q
  · exact absurd rfl (hA.2.2.2.2.2 q _ h29 hq).2
  · have hr := hA.2.2.2.1
    rcases am_ro_kind (n := n) (by omega) ((hr.2.1 q (by omega)).symm.trans hq) with ⟨e1, e2⟩ | ⟨e1, e2⟩ | ⟨i1, -, -, e2⟩ | ⟨i1, hi1, e1, e2⟩ | ⟨-, e2⟩
    · cases e2
    · cases e2
    · cases e2
    · subst e1
      cases e2
      have hlt : i.toNatClampNeg < am_len.getD i1 0 := Nat.not_le.mp fun z => hin (Or.inr z)
      rw [List.map_cons, List.map_cons, am_re_ref (by omega)]
      exact va_tb hm.1 hm.2.1 (hF.2.2.1.1 i1 hi1).2.2.2 hS hin (by rw [hr.2.2.2.2.2 i1 hi1 _ hlt]; rfl) h1 k2
    · cases e2
theorem am_x_iast {x i : Int32} {q N : Nat} {rs : List (Option Nat)} (hm : am_Me p s m args meth c D fm A cc own init nL) (hrow : am_rowok own init ret cc (pc, .iastore, nx) (raw, pl) = true) (hq : sk[q]? = some (20, N, rs)) (h29 : 29 ≤ q) (hfit : am_fit 20 x = true) (hin : vp_in i N) (kk : am_K1 p l e R s m args below meth c Qf D fm n xs A nx L st sk (am_up mem q i.toNatClampNeg x) ad aC cells slots) : am_K1 p l e R s m args below meth c Qf D fm n xs A pc L (.int x :: .int i :: .ref q :: st) sk mem ad aC cells slots := by
  obtain ⟨h1, h2, h3⟩ := am_row_dec hrow
  simp only [am_lk, decide_eq_true_eq] at h3
  obtain ⟨rfl, rfl⟩ := h3
  rw [show pc + 1 - pc = 1 by omega] at h1
  intro H locs ls hA hF hl hS
  have hlt := (List.getElem?_eq_some_iff.mp hq).1
  have hg : sk.getD q (0, 0, []) = (20, N, rs) := by simp [List.getD_eq_getElem?_getD, hq]
  have hw := am_w_at (ad := ad) (aC := aC) (mem := mem) hq h29
  rw [show am_cell ad aC q (20, N, rs) (mem q) = .inl (aC q, N, .inl (mem q)) by simp [am_cell]] at hw
  have hT := hA.2.2.1 q _ h29 hq (Nat.le_of_ble_eq_true rfl)
  rw [List.map_cons, List.map_cons, List.map_cons, am_re_ref (by omega)]
  refine va_iast hm.1 hm.2.1 (am_K1ty hm.2.2.2.2.2.1 hT) hA.1 hA.2.1 hS (q - 29) 0 hw rfl hin h1 (fun H1 locs1 hP hD hS1 => ?_)
  have hA1 : am_At D fm n xs A s ad aC sk (am_up mem q i.toNatClampNeg x) H1 := by
    exact am_At.set hA h29 hlt rfl (by rw [hg]; simp [am_cell, am_up]) (fun a ha => ⟨rfl, by simp [am_up, ha]⟩) rfl hA.2.2.2.2 hP hD
  exact kk H1 locs1 ls hA1 hF hl hS1
theorem am_x_zast {x i : Int32} {q N : Nat} {rs : List (Option Nat)} (hm : am_Me p s m args meth c D fm A cc own init nL) (hrow : am_rowok own init ret cc (pc, .bastore, nx) (raw, pl) = true) (hq : sk[q]? = some (21, N, rs)) (h29 : 29 ≤ q) (hfit : am_fit 21 x = true) (hin : vp_in i N) (kk : am_K1 p l e R s m args below meth c Qf D fm n xs A nx L st sk (am_up mem q i.toNatClampNeg x) ad aC cells slots) : am_K1 p l e R s m args below meth c Qf D fm n xs A pc L (.int x :: .int i :: .ref q :: st) sk mem ad aC cells slots := by
  obtain ⟨h1, h2, h3⟩ := am_row_dec hrow
  simp only [am_lk, decide_eq_true_eq] at h3
  obtain ⟨rfl, rfl⟩ := h3
  rw [show pc + 1 - pc = 1 by omega] at h1
  intro H locs ls hA hF hl hS
  have hlt := (List.getElem?_eq_some_iff.mp hq).1
  have hg : sk.getD q (0, 0, []) = (21, N, rs) := by simp [List.getD_eq_getElem?_getD, hq]
  have hw := am_w_at (ad := ad) (aC := aC) (mem := mem) hq h29
  rw [show am_cell ad aC q (21, N, rs) (mem q) = .inl (aC q, N, .inl (mem q)) by simp [am_cell]] at hw
  have hT := hA.2.2.1 q _ h29 hq (Nat.le_of_ble_eq_true rfl)
  rw [List.map_cons, List.map_cons, List.map_cons, am_re_ref (by omega)]
  refine va_zast hm.1 hm.2.1 (am_K1ty hm.2.2.2.2.2.1 hT) hA.1 hA.2.1 hS (q - 29) 0 hw rfl hin h1 (fun H1 locs1 hP hD hS1 => ?_)
  have hA1 : am_At D fm n xs A s ad aC sk (am_up mem q i.toNatClampNeg x) H1 := by
    have hx : vp_nar .boolean x = x := by
      simp only [am_fit, if_pos, decide_eq_true_eq] at hfit
      rcases hfit with rfl | rfl <;> rfl
    rw [hx] at hP hD
    exact am_At.set hA h29 hlt rfl (by rw [hg]; simp [am_cell, am_up]) (fun a ha => ⟨rfl, by simp [am_up, ha]⟩) rfl hA.2.2.2.2 hP hD
  exact kk H1 locs1 ls hA1 hF hl hS1
theorem am_x_cast {x i : Int32} {q N : Nat} {rs : List (Option Nat)} (hm : am_Me p s m args meth c D fm A cc own init nL) (hrow : am_rowok own init ret cc (pc, .castore, nx) (raw, pl) = true) (hq : sk[q]? = some (22, N, rs)) (h29 : 29 ≤ q) (hfit : am_fit 22 x = true) (hin : vp_in i N) (kk : am_K1 p l e R s m args below meth c Qf D fm n xs A nx L st sk (am_up mem q i.toNatClampNeg x) ad aC cells slots) : am_K1 p l e R s m args below meth c Qf D fm n xs A pc L (.int x :: .int i :: .ref q :: st) sk mem ad aC cells slots := by
  obtain ⟨h1, h2, h3⟩ := am_row_dec hrow
  simp only [am_lk, decide_eq_true_eq] at h3
  obtain ⟨rfl, rfl⟩ := h3
  rw [show pc + 1 - pc = 1 by omega] at h1
  intro H locs ls hA hF hl hS
  have hlt := (List.getElem?_eq_some_iff.mp hq).1
  have hg : sk.getD q (0, 0, []) = (22, N, rs) := by simp [List.getD_eq_getElem?_getD, hq]
  have hw := am_w_at (ad := ad) (aC := aC) (mem := mem) hq h29
  rw [show am_cell ad aC q (22, N, rs) (mem q) = .inl (aC q, N, .inl (mem q)) by simp [am_cell]] at hw
  have hT := hA.2.2.1 q _ h29 hq (Nat.le_of_ble_eq_true rfl)
  rw [List.map_cons, List.map_cons, List.map_cons, am_re_ref (by omega)]
  refine va_cast hm.1 hm.2.1 (am_K1ty hm.2.2.2.2.2.1 hT) hA.1 hA.2.1 hS (q - 29) 0 hw rfl hin h1 (fun H1 locs1 hP hD hS1 => ?_)
  have hA1 : am_At D fm n xs A s ad aC sk (am_up mem q i.toNatClampNeg x) H1 := by
    have hx : vp_nar .char x = x := by simpa [am_fit] using hfit
    rw [hx] at hP hD
    exact am_At.set hA h29 hlt rfl (by rw [hg]; simp [am_cell, am_up]) (fun a ha => ⟨rfl, by simp [am_up, ha]⟩) rfl hA.2.2.2.2 hP hD
  exact kk H1 locs1 ls hA1 hF hl hS1
theorem am_x_ald {i : Int32} {q k N y : Nat} {rs : List (Option Nat)} (hm : am_Me p s m args meth c D fm A cc own init nL) (hrow : am_rowok own init ret cc (pc, .aaload, nx) (raw, pl) = true) (hq : sk[q]? = some (k, N, rs)) (hk : 30 ≤ k) (h29 : 29 ≤ q) (hin : vp_in i N) (hy : rs[i.toNatClampNeg]? = some (some y)) (kk : am_K1 p l e R s m args below meth c Qf D fm n xs A nx L (.ref y :: st) sk mem ad aC cells slots) : am_K1 p l e R s m args below meth c Qf D fm n xs A pc L (.int i :: .ref q :: st) sk mem ad aC cells slots := by
  obtain ⟨h1, h2, h3⟩ := am_row_dec hrow
  simp only [am_lk, decide_eq_true_eq] at h3
  obtain ⟨rfl, rfl⟩ := h3
  rw [show pc + 1 - pc = 1 by omega] at h1
  intro H locs ls hA hF hl hS
  have hy28 : y ≠ 28 := (hA.2.2.2.2.1 q _ hq y (List.mem_of_getElem? hy)).2
  have k2 := kk H locs ls hA hF hl hS
  rw [List.map_cons, am_re_ref hy28] at k2
  have hw := am_w_at (ad := ad) (aC := aC) (mem := mem) hq h29
  simp only [am_cell, if_neg (show ¬ k < 13 by omega), if_neg (show ¬ k < 30 by omega)] at hw
  have hT := hA.2.2.1 q _ h29 hq (by show 13 ≤ k; omega)
  have ht : am_ty k = .object (vwCl.getD (k - 30) ("", fun _ => ("", "", "", false), 0)).1 := by simp only [am_ty, if_neg (show ¬ k = 20 by omega), if_neg (show ¬ k = 21 by omega), if_neg (show ¬ k = 22 by omega), if_neg (show ¬ k = 23 by omega)]
  simp only [ht] at hT
  rw [List.map_cons, List.map_cons, am_re_ref (by omega)]
  refine va_aldq hm.1 hm.2.1 (am_K1ty hm.2.2.2.2.2.1 hT) hA.1 (q - 29) 0 hw rfl hin h1 ?_
  simp only [hy]
  exact k2
theorem am_x_ast {i : Int32} {q k N y a : Nat} {b rs : List (Option Nat)} (hm : am_Me p s m args meth c D fm A cc own init nL) (hrow : am_rowok own init ret cc (pc, .aastore, nx) (raw, pl) = true) (hq : sk[q]? = some (k + 30, N, rs)) (hyk : sk[y]? = some (k, a, b)) (h29 : 29 ≤ q) (hy29 : 29 ≤ y) (hrs : rs.length = N) (hk : k < 13) (hin : vp_in i N) (kk : am_K1 p l e R s m args below meth c Qf D fm n xs A nx L st (sk.set q (k + 30, N, rs.set i.toNatClampNeg (some y))) mem ad aC cells slots) : am_K1 p l e R s m args below meth c Qf D fm n xs A pc L (.ref y :: .int i :: .ref q :: st) sk mem ad aC cells slots := by
  obtain ⟨h1, h2, h3⟩ := am_row_dec hrow
  simp only [am_lk, decide_eq_true_eq] at h3
  obtain ⟨rfl, rfl⟩ := h3
  rw [show pc + 1 - pc = 1 by omega] at h1
  intro H locs ls hA hF hl hS
  have hlt := (List.getElem?_eq_some_iff.mp hq).1
  have hlty := (List.getElem?_eq_some_iff.mp hyk).1
  have hw := am_w_at (ad := ad) (aC := aC) (mem := mem) hq h29
  simp only [am_cell, if_neg (show ¬ k + 30 < 13 by omega), if_neg (show ¬ k + 30 < 30 by omega)] at hw
  have hwy := am_w_at (ad := ad) (aC := aC) (mem := mem) hyk hy29
  simp only [am_cell, if_pos hk] at hwy
  have hT := hA.2.2.1 q _ h29 hq (by show 13 ≤ k + 30; omega)
  have ht : am_ty (k + 30) = .object (vwCl.getD k ("", fun _ => ("", "", "", false), 0)).1 := by simp only [am_ty, if_neg (show ¬ k + 30 = 20 by omega), if_neg (show ¬ k + 30 = 21 by omega), if_neg (show ¬ k + 30 = 22 by omega), if_neg (show ¬ k + 30 = 23 by omega), Nat.add_sub_cancel]
  simp only [ht] at hT
  have hc : vwCl[k]? = some (vwCl.getD k ("", fun _ => ("", "", "", false), 0)) := by
    have : k < vwCl.length := hk
    simp [List.getD_eq_getElem?_getD, List.getElem?_eq_getElem this]
  rw [List.map_cons, List.map_cons, List.map_cons, am_re_ref (k := y) (by omega), am_re_ref (k := q) (by omega)]
  refine va_astq hm.1 hm.2.1 (am_K1ty hm.2.2.2.2.2.1 hT) hA.1 hA.2.1 hS (q - 29) 0 (y - 29) k hw rfl hwy hc hin h1 (fun H1 locs1 hP hD hS1 => ?_)
  have hilt : i.toNatClampNeg < N := Nat.not_le.mp fun z => hin (Or.inr z)
  have hg : (sk.set q (k + 30, N, rs.set i.toNatClampNeg (some y))).getD q (0, 0, []) = (k + 30, N, rs.set i.toNatClampNeg (some y)) := by simp [List.getD_eq_getElem?_getD, List.getElem?_set_self hlt]
  have hA1 : am_At D fm n xs A s ad aC (sk.set q (k + 30, N, rs.set i.toNatClampNeg (some y))) mem H1 := by
    refine am_At.set hA h29 hlt (List.length_set) ?_ (fun a ha => ⟨by simp [List.getD_eq_getElem?_getD, List.getElem?_set_ne (Ne.symm ha)], rfl⟩) (by rw [hg]; simp [List.getD_eq_getElem?_getD, hq]) ?_ hP hD
    · rw [hg]
      simp only [am_cell, if_neg (show ¬ k + 30 < 13 by omega), if_neg (show ¬ k + 30 < 30 by omega)]
      congr 6
      refine congrArg Sum.inr (funext fun j => ?_)
      by_cases hj : j = i.toNatClampNeg
      · subst hj
        simp [va_up, List.getElem?_set_self (show i.toNatClampNeg < rs.length by omega)]
      · simp [va_up, hj, List.getElem?_set_ne (Ne.symm hj)]
    · exact am_wf.set hA.2.2.2.2 hq rfl (fun z hz => by
        rcases List.mem_or_eq_of_mem_set hz with h | h
        · exact Or.inl h
        · cases h; exact Or.inr ⟨hlty, by omega⟩)
  exact kk H1 locs1 ls hA1 hF hl hS1
theorem am_x_get {f q N : Nat} {v : Value} {rs : List (Option Nat)} (hm : am_Me p s m args meth c D fm A cc own init nL) (hrow : am_rowok own init ret cc (pc, .getfield f, nx) (raw, pl) = true) (hq : sk[q]? = some (f / 64, N, rs)) (hk : f % 64 < N) (hv : (am_ft (f / 64) (f % 64) = 2 ∧ ∃ y, rs[f % 64]? = some (some y) ∧ v = .ref y) ∨ (¬ am_ft (f / 64) (f % 64) = 2 ∧ v = .int (mem q (f % 64)))) (kk : am_K1 p l e R s m args below meth c Qf D fm n xs A nx L (v :: st) sk mem ad aC cells slots) : am_K1 p l e R s m args below meth c Qf D fm n xs A pc L (.ref q :: st) sk mem ad aC cells slots := by
  obtain ⟨h1, h2, h3⟩ := am_row_dec hrow
  simp only [am_lk] at h3
  split at h3
  · simp only [Bool.and_eq_true, decide_eq_true_eq] at h3
    obtain ⟨rfl, h4⟩ := h3
    rw [show pc + 3 - pc = 3 by omega] at h1
    intro H locs ls hA hF hl hS
    have k2 := kk H locs ls hA hF hl hS
    split at h4
    · rename_i h13
      simp only [Bool.and_eq_true, decide_eq_true_eq] at h4
      obtain ⟨h4, h5⟩ := h4
      have hlt29 : q < 29 := by
        rcases Nat.lt_or_ge q 29 with z | z
        · exact z
        · exact absurd h13 (hA.2.2.2.2.2 q _ z hq).1
      have hr := hA.2.2.2.1
      rcases am_ro_kind (n := n) hlt29 ((hr.2.1 q hlt29).symm.trans hq) with ⟨e1, e2⟩ | ⟨e1, e2⟩ | ⟨i1, hi1, e1, e2⟩ | ⟨i1, hi1, e1, e2⟩ | ⟨-, e2⟩
      · simp [h13] at e2
      · simp [h13] at e2
      · subst e1
        simp only [Prod.mk.injEq] at e2
        obtain ⟨-, -, rfl⟩ := e2
        rw [List.map_cons, am_re_ref (by omega)]
        rcases (show f % 64 = 0 ∨ f % 64 = 1 by omega) with h0 | h0
        · rw [h0] at hv h4
          rw [h13] at hv
          rcases hv with ⟨-, y, hy, rfl⟩ | ⟨h2, -⟩
          · simp only [List.getElem?_cons_zero, Option.some.injEq] at hy
            subst hy
            rw [List.map_cons, am_re_ref (by omega)] at k2
            exact vk_getf hm.1 hm.2.1 (hF.2.2.1.1 i1 hi1).2.2.1 hS hm.2.2.1 (am_hts hm h4 rfl) (fun _ z => z) h1 k2
          · exact absurd rfl h2
        · rw [h0] at hv h4
          rw [h13] at hv
          rcases hv with ⟨h2, -⟩ | ⟨-, rfl⟩
          · cases h2
          · rw [hr.2.2.2.2.1 i1 hi1] at k2
            exact vk_getf hm.1 hm.2.1 (hF.2.2.1.1 i1 hi1).2.1 hS hm.2.2.1 (am_hts hm h4 rfl) (fun _ z => z) h1 k2
      · simp [h13] at e2
      · simp [h13] at e2
    · split at h4
      · rename_i w hw0
        simp only [Bool.and_eq_true, decide_eq_true_eq] at h4
        obtain ⟨h4, h5⟩ := h4
        obtain ⟨c13, -, cin, -, -, cf⟩ := am_cls hw0
        have h29 : 29 ≤ q := by
          rcases Nat.lt_or_ge q 29 with z | z
          · have hr := hA.2.2.2.1
            rcases am_ro_kind (n := n) z ((hr.2.1 q z).symm.trans hq) with ⟨e1, e2⟩ | ⟨e1, e2⟩ | ⟨i1, hi1, e1, e2⟩ | ⟨i1, hi1, e1, e2⟩ | ⟨-, e2⟩ <;> (have e3 := congrArg Prod.fst e2; simp only at e3; omega)
          · exact z
        have hw := am_w_at (ad := ad) (aC := aC) (mem := mem) hq h29
        simp only [am_cell, if_pos c13] at hw
        rw [List.map_cons, am_re_ref (by omega)]
        have hfv : am_fv ad (f / 64) rs (mem q) (f % 64) = am_re ad fm v := by
          rcases hv with ⟨h2, y, hy, rfl⟩ | ⟨h2, rfl⟩
          · rw [am_re_ref (hA.2.2.2.2.1 q _ hq y (List.mem_of_getElem? hy)).2]
            simp [am_fv, h2, hy]
          · simp [am_fv, h2, am_re]
        refine va_get (D := D) (ci := f / 64) (v := am_re ad fm v) (C := w.1) (T := w.2.1) (N := w.2.2) hm.1 hm.2.1 hm.2.2.2.1 cin hm.2.2.1 hm.2.2.2.2.2.1 hA.1 (q - 29) hw hw0 (f % 64) h5 (am_hts hm h4 rfl) (fun x hx => by rw [(cf _ h5).2.2.2.1] at hx; exact hx) ?_ h1 k2
        rw [List.getElem?_map, List.getElem?_range hk]
        simp [hfv]
      · cases h4
  · cases h3
theorem am_x_put {f q N : Nat} {x : Int32} {rs : List (Option Nat)} (hm : am_Me p s m args meth c D fm A cc own init nL) (hrow : am_rowok own init ret cc (pc, .putfield f, nx) (raw, pl) = true) (hq : sk[q]? = some (f / 64, N, rs)) (hk : f % 64 < N) (h29 : 29 ≤ q) (hv : am_ft (f / 64) (f % 64) = 0 ∨ am_ft (f / 64) (f % 64) = 1 ∧ (x = 0 ∨ x = 1)) (kk : am_K1 p l e R s m args below meth c Qf D fm n xs A nx L st sk (am_up mem q (f % 64) x) ad aC cells slots) : am_K1 p l e R s m args below meth c Qf D fm n xs A pc L (.int x :: .ref q :: st) sk mem ad aC cells slots := by
  obtain ⟨h1, h2, h3⟩ := am_row_dec hrow
  simp only [am_lk] at h3
  split at h3
  · simp only [Bool.and_eq_true, decide_eq_true_eq] at h3
    obtain ⟨rfl, h4⟩ := h3
    rw [show pc + 3 - pc = 3 by omega] at h1
    intro H locs ls hA hF hl hS
    split at h4
    · rename_i w hw0
      simp only [Bool.and_eq_true, decide_eq_true_eq] at h4
      obtain ⟨h4, h5, h6⟩ := h4
      obtain ⟨c13, -, cin, cnm, cty, cf⟩ := am_cls hw0
      have hlt := (List.getElem?_eq_some_iff.mp hq).1
      have hg : sk.getD q (0, 0, []) = (f / 64, N, rs) := by simp [List.getD_eq_getElem?_getD, hq]
      have hw := am_w_at (ad := ad) (aC := aC) (mem := mem) hq h29
      simp only [am_cell, if_pos c13] at hw
      have hnf : narrow (am_tyf (f / 64) (f % 64)) (.int x) = .int x ∧ fits (am_tyf (f / 64) (f % 64)) (.int x) = true := by
        rcases hv with h0 | ⟨h0, rfl | rfl⟩
        · rw [(cf _ h5).1 h0]; exact ⟨rfl, rfl⟩
        · rw [(cf _ h5).2.1 h0]; exact ⟨rfl, rfl⟩
        · rw [(cf _ h5).2.1 h0]; exact ⟨rfl, rfl⟩
      have hn2 : ¬ am_ft (f / 64) (f % 64) = 2 := by
        rcases hv with h0 | ⟨h0, -⟩ <;> omega
      rw [List.map_cons, List.map_cons, am_re_ref (by omega)]
      refine va_put (D := D) (ci := f / 64) (v := .int x) (ty := am_tyf (f / 64) (f % 64)) (C := w.1) (T := w.2.1) (N := w.2.2) hm.1 hm.2.1 hm.2.2.2.1 cin (am_tyf (f / 64)) cty cnm hm.2.2.1 hm.2.2.2.2.2.1 hA.1 hA.2.1 hS (q - 29) hw hw0 (f % 64) h5 (am_hts hm h4 rfl) (fun y hy => by rw [(cf _ h5).2.2.2.1] at hy; exact hy) h6 (cty _ h5) hnf.1 hnf.2 (by simpa using hk) h1 (fun H1 locs1 hP hD hS1 => ?_)
      rw [am_fv_int hk hn2] at hP hD
      exact kk H1 locs1 ls (am_At.set hA h29 hlt rfl (by rw [hg]; simp [am_cell, am_up, c13]) (fun a ha => ⟨rfl, by simp [am_up, ha]⟩) rfl hA.2.2.2.2 hP hD) hF hl hS1
    · cases h4
  · cases h3
theorem am_x_putR {f q N y : Nat} {rs : List (Option Nat)} (hm : am_Me p s m args meth c D fm A cc own init nL) (hrow : am_rowok own init ret cc (pc, .putstatic f, nx) (raw, pl) = true) (hq : sk[q]? = some (f / 64, N, rs)) (hk : f % 64 < N) (h29 : 29 ≤ q) (hy29 : 29 ≤ y) (hyl : y < sk.length) (hv : am_ft (f / 64) (f % 64) = 2) (hrs : rs.length = N) (kk : am_K1 p l e R s m args below meth c Qf D fm n xs A nx L st (sk.set q (f / 64, N, rs.set (f % 64) (some y))) mem ad aC cells slots) : am_K1 p l e R s m args below meth c Qf D fm n xs A pc L (.ref y :: .ref q :: st) sk mem ad aC cells slots := by
  obtain ⟨h1, h2, h3⟩ := am_row_dec hrow
  simp only [am_lk] at h3
  split at h3
  · simp only [Bool.and_eq_true, decide_eq_true_eq] at h3
    obtain ⟨⟨rfl, hini⟩, h4⟩ := h3
    rw [show pc + 3 - pc = 3 by omega] at h1
    intro H locs ls hA hF hl hS
    split at h4
    · rename_i w hw0
      simp only [Bool.and_eq_true, decide_eq_true_eq] at h4
      obtain ⟨h4, h5, h6, h7⟩ := h4
      obtain ⟨c13, -, cin, cnm, cty, cf⟩ := am_cls hw0
      have hlt := (List.getElem?_eq_some_iff.mp hq).1
      have hg : (sk.set q (f / 64, N, rs.set (f % 64) (some y))).getD q (0, 0, []) = (f / 64, N, rs.set (f % 64) (some y)) := by simp [List.getD_eq_getElem?_getD, List.getElem?_set_self hlt]
      have hw := am_w_at (ad := ad) (aC := aC) (mem := mem) hq h29
      simp only [am_cell, if_pos c13] at hw
      have hnf := ((cf _ h5).2.2.1 hv).2 (ad y)
      rw [List.map_cons, List.map_cons, am_re_ref (k := y) (by omega), am_re_ref (k := q) (by omega)]
      refine va_putF (D := D) (ci := f / 64) (v := .ref (ad y)) (ty := am_tyf (f / 64) (f % 64)) (C := w.1) (T := w.2.1) (N := w.2.2) hm.1 hm.2.1 hm.2.2.2.1 cin (am_tyf (f / 64)) cty cnm hm.2.2.1 hm.2.2.2.2.2.1 hA.1 hA.2.1 hS (q - 29) hw hw0 (f % 64) h5 (am_hts hm h4 rfl) (fun z hz => by rw [(cf _ h5).2.2.2.1] at hz; exact hz) h6 (hm.2.2.2.2.1 hini) ((cf _ h5).2.2.2.1.trans h7) (cty _ h5) hnf.1 hnf.2 (by simpa using hk) h1 (fun H1 locs1 hP hD hS1 => ?_)
      rw [am_fv_ref hk hrs hv] at hP hD
      refine kk H1 locs1 ls (am_At.set hA h29 hlt (List.length_set) (by rw [hg]; simp [am_cell, c13]) (fun a ha => ⟨by simp [List.getD_eq_getElem?_getD, List.getElem?_set_ne (Ne.symm ha)], rfl⟩) (by rw [hg]; simp [List.getD_eq_getElem?_getD, hq]) ?_ hP hD) hF hl hS1
      exact am_wf.set hA.2.2.2.2 hq rfl (fun z hz => by
        rcases List.mem_or_eq_of_mem_set hz with h | h
        · exact Or.inl h
        · cases h; exact Or.inr ⟨hyl, by omega⟩)
    · cases h4
  · cases h3
theorem am_x_alen {q k N : Nat} {rs : List (Option Nat)} (hm : am_Me p s m args meth c D fm A cc own init nL) (hrow : am_rowok own init ret cc (pc, .arraylength, nx) (raw, pl) = true) (hq : sk[q]? = some (k, N, rs)) (hk : 20 ≤ k) (hk9 : k < 90) (kk : am_K1 p l e R s m args below meth c Qf D fm n xs A nx L (.int (Int32.ofNat N) :: st) sk mem ad aC cells slots) : am_K1 p l e R s m args below meth c Qf D fm n xs A pc L (.ref q :: st) sk mem ad aC cells slots := by
  obtain ⟨h1, h2, h3⟩ := am_row_dec hrow
  simp only [am_lk, decide_eq_true_eq] at h3
  obtain ⟨rfl, rfl⟩ := h3
  rw [show pc + 1 - pc = 1 by omega] at h1
  intro H locs ls hA hF hl hS
  have k2 := kk H locs ls hA hF hl hS
  by_cases h29 : 29 ≤ q
  · have hw := am_w_at (ad := ad) (aC := aC) (mem := mem) hq h29
    have hT := hA.2.2.1 q _ h29 hq (by show 13 ≤ k; omega)
    rw [List.map_cons, am_re_ref (by omega)]
    by_cases h30 : k < 30
    · simp only [am_cell, if_neg (show ¬ k < 13 by omega), if_pos h30] at hw
      exact va_alen hm.1 hm.2.1 (am_K1ty hm.2.2.2.2.2.1 hT) hA.1 (q - 29) 0 hw rfl rfl h1 k2
    · simp only [am_cell, if_neg (show ¬ k < 13 by omega), if_neg h30] at hw
      exact va_alen hm.1 hm.2.1 (am_K1ty hm.2.2.2.2.2.1 hT) hA.1 (q - 29) 0 hw rfl rfl h1 k2
  · have hr := hA.2.2.2.1
    rcases am_ro_kind (n := n) (by omega) ((hr.2.1 q (by omega)).symm.trans hq) with ⟨e1, e2⟩ | ⟨e1, e2⟩ | ⟨i1, hi1, e1, e2⟩ | ⟨i1, hi1, e1, e2⟩ | ⟨-, e2⟩
    · subst e1
      cases e2
      exact va_tlen hm.1 hm.2.1 hF.1.2 hS rfl h1 k2
    · subst e1
      cases e2
      obtain ⟨scr, e3, -⟩ := id hF.2.1.1
      exact va_slen hm.1 hm.2.1 hF.2.1.1 (Array.getElem?_eq_some_iff.mp e3).1 hF.2.1.2 hS h1 k2
    · cases e2
      omega
    · subst e1
      cases e2
      rw [List.map_cons, am_re_ref (by omega)]
      exact va_tlen hm.1 hm.2.1 (hF.2.2.1.1 i1 hi1).2.2.2 hS rfl h1 k2
    · cases e2
      omega
theorem am_x_pop2 {q N : Nat} (hm : am_Me p s m args meth c D fm A cc own init nL) (hrow : am_rowok own init ret cc (pc, .pop2, nx) (raw, pl) = true) (hq : q ≠ 28) (hst : am_okS N st) (hr8 : st.length ≤ 8) (hLn : L.length = nL) (hRf : 1 ≤ R.frames) (hRl : 64 ≤ R.locals) (kk : am_K1 p l e R s m args below meth c Qf D fm n xs A nx L st sk mem ad aC cells slots) : am_K1 p l e R s m args below meth c Qf D fm n xs A pc L (.ref q :: st) sk mem ad aC cells slots := by
  obtain ⟨h1, h2, h3⟩ := am_row_dec hrow
  simp only [am_lk] at h3
  split at h3
  · simp only [Bool.and_eq_true, decide_eq_true_eq] at h3
    obtain ⟨rfl, h4⟩ := h3
    rw [show pc + 3 - pc = 3 by omega] at h1
    intro H locs ls hA hF hl hS
    have k2 := kk H locs ls hA hF hl hS
    have hsum := am_sum (ad := ad) (fm := fm) hm.2.2.2.2.2.2.2.1 hst
    have hroom := lv_room (m := m) (pc := pc) (ls := ls) (rest := (.ref (ad q) : Value) :: st.map (am_re ad fm)) (st := st.map (am_re ad fm)) (by rw [hsum]; exact hr8)
    rw [List.map_cons, am_re_ref hq]
    refine W.objInit hm.1 hm.2.1 hm.2.2.1 (am_hts hm h4 rfl) (hm.2.2.2.1 _ (am_tb_at 89 (w := .instanceMethod objectInit) (by decide +kernel) rfl)) (hm.2.2.2.1 _ (am_tb_at 90 (w := .code objectInit ⟨#[0xb1]⟩ 1 none) (by decide +kernel) rfl)) rfl (by show ls.size = c.maxLocals; rw [hl.1, hLn]; exact hm.2.2.2.2.2.2.2.2.symm) rfl h1 hRf ?_ k2
    exact Nat.le_trans (Nat.add_le_add_right hroom 12) (by omega)
  · cases h3
theorem am_x_copy {j : Nat} {i dp sp : Int32} {a b na nb N : Nat} {ra rb : List (Option Nat)} (hm : am_Me p s m args meth c D fm A cc own init nL) (hrow : am_rowok own init ret cc (pc, .invokedynamic j, nx) (raw, pl) = true) (hqa : sk[a]? = some (20, na, ra)) (hqb : sk[b]? = some (20, nb, rb)) (ha29 : 29 ≤ a) (hb29 : 29 ≤ b) (g1 : ¬ sp < 0) (g2 : ¬ dp < 0) (g3 : ¬ i < 0) (g4 : sp.toNatClampNeg + i.toNatClampNeg ≤ na) (g5 : dp.toNatClampNeg + i.toNatClampNeg ≤ nb) (hst : am_okS N st) (hr8 : st.length ≤ 8) (hLn : L.length = nL) (hRf : 1 ≤ R.frames) (hRl : 64 ≤ R.locals) (kk : am_K1 p l e R s m args below meth c Qf D fm n xs A nx L st sk (am_cp mem a b sp.toNatClampNeg dp.toNatClampNeg i.toNatClampNeg) ad aC cells slots) : am_K1 p l e R s m args below meth c Qf D fm n xs A pc L (.int i :: .int dp :: .ref b :: .int sp :: .ref a :: st) sk mem ad aC cells slots := by
  obtain ⟨h1, h2, h3⟩ := am_row_dec hrow
  simp only [am_lk] at h3
  split at h3
  · simp only [Bool.and_eq_true, decide_eq_true_eq] at h3
    obtain ⟨rfl, h4⟩ := h3
    rw [show pc + 3 - pc = 3 by omega] at h1
    intro H locs ls hA hF hl hS
    have hltb := (List.getElem?_eq_some_iff.mp hqb).1
    have hg : sk.getD b (0, 0, []) = (20, nb, rb) := by simp [List.getD_eq_getElem?_getD, hqb]
    have hwa := am_w_at (ad := ad) (aC := aC) (mem := mem) hqa ha29
    rw [show am_cell ad aC a (20, na, ra) (mem a) = .inl (aC a, na, .inl (mem a)) by simp [am_cell]] at hwa
    have hwb := am_w_at (ad := ad) (aC := aC) (mem := mem) hqb hb29
    rw [show am_cell ad aC b (20, nb, rb) (mem b) = .inl (aC b, nb, .inl (mem b)) by simp [am_cell]] at hwb
    have hTa := hA.2.2.1 a _ ha29 hqa (Nat.le_of_ble_eq_true rfl)
    have hTb := hA.2.2.1 b _ hb29 hqb (Nat.le_of_ble_eq_true rfl)
    have hsum := am_sum (ad := ad) (fm := fm) hm.2.2.2.2.2.2.2.1 hst
    have hnf : nativeFrameWords "java/lang/System" "arraycopy" 5 = 7 := by decide +kernel
    rw [List.map_cons, List.map_cons, List.map_cons, List.map_cons, List.map_cons, am_re_ref (k := a) (by omega), am_re_ref (k := b) (by omega)]
    refine va_copyi (ty := .int) hm.1 hm.2.1 (by rw [hl.1, hLn]; exact hm.2.2.2.2.2.2.2.2) hm.2.2.1 (am_hts hm h4 rfl) (hm.2.2.2.1 _ (am_tb_at 929 (w := .native arraycopyName) (by decide +kernel) rfl)) (hm.2.2.2.1 _ (am_tb_at 928 (w := .static arraycopyName) (by decide +kernel) rfl)) (hm.2.2.2.1 _ (am_tb_at 81 (w := .initialized "java/lang/System") (by decide +kernel) rfl)) ((am_K1ty hm.2.2.2.2.2.1 hTa).app (am_K1ty hm.2.2.2.2.2.1 hTb)) hA.1 hA.2.1 hS (a - 29) (b - 29) 0 1 hwa hwb rfl rfl rfl g1 g2 g3 g4 g5 (fun _ _ => rfl) hRf (by rw [hsum, hnf]; omega) h1 (fun H1 locs1 hP hD hS1 => ?_)
    exact kk H1 locs1 ls (am_At.set hA hb29 hltb rfl (by rw [hg]; simp [am_cell, am_cp]) (fun z hz => ⟨rfl, by simp [am_cp, hz]⟩) rfl hA.2.2.2.2 hP hD) hF hl hS1
  · cases h3
theorem am_x_new {k N : Nat} (hm : am_Me p s m args meth c D fm A cc own init nL) (hrow : am_rowok own init ret cc (pc, .new k, nx) (raw, pl) = true) (hN : am_NS[k]? = some N) (hst : am_okS sk.length st) (hL : am_okL sk.length L) (hc : cells + 1 ≤ R.cells) (hs : slots + N ≤ R.slots) (kk : (∀ (ad2 : Nat → Nat) (aC2 : Nat → ClassId), (∀ o, o < sk.length → ad2 o = ad o ∧ aC2 o = aC o) → am_K1 p l e R s m args below meth c Qf D fm n xs A nx L (.ref sk.length :: st) (sk ++ [(k, N, List.replicate N (none : Option Nat))]) (am_z mem sk.length) ad2 aC2 (cells + ((sk ++ [(k, N, List.replicate N (none : Option Nat))]).length - sk.length)) (slots + (am_sz (sk ++ [(k, N, List.replicate N (none : Option Nat))]) - am_sz sk)))) : am_K1 p l e R s m args below meth c Qf D fm n xs A pc L st sk mem ad aC cells slots := by
  obtain ⟨h1, h2, h3⟩ := am_row_dec hrow
  simp only [am_lk] at h3
  split at h3
  · simp only [Bool.and_eq_true, decide_eq_true_eq] at h3
    obtain ⟨rfl, h4⟩ := h3
    rw [show pc + 3 - pc = 3 by omega] at h1
    intro H locs ls hA hF hl hS
    split at h4
    · rename_i w cw hw0 hcw
      simp only [Bool.and_eq_true] at h4
      obtain ⟨⟨h4, h5⟩, h6⟩ := h4
      obtain ⟨c13, cN, cin, cnm, cty, cf⟩ := am_cls hw0
      have hNN : N = w.2.2 := Option.some.inj (hN.symm.trans cN)
      subst hNN
      refine va_new (ci := k) (fs := (List.range w.2.2).map (am_fv ad k (List.replicate w.2.2 none) (fun _ => 0))) (C := w.1) (T := w.2.1) (N := w.2.2) hm.1 hm.2.1 hm.2.2.2.1 cin (am_tyf k) cty hm.2.2.1 (am_hts hm h4 rfl) (am_hts hm h5 rfl) (am_hts hm h6 rfl) hm.2.2.2.2.2.1 hA.1 hA.2.1 hS hm.2.2.2.2.2.2.1 hw0 (fun j hj => ?_) hc hs h1 (fun q H1 hP hD hS1 => ?_)
      · have g1 : vp_V ((List.range w.2.2).map (am_fv ad k (List.replicate w.2.2 none) (fun _ => 0))) j = am_fv ad k (List.replicate w.2.2 none) (fun _ => 0) j := by
          simp [vp_V, List.getD_eq_getElem?_getD, List.getElem?_map, List.getElem?_range hj]
        rw [g1]
        obtain ⟨t0, t1, t2, -, t3⟩ := cf j hj
        rcases (show am_ft k j = 0 ∨ am_ft k j = 1 ∨ am_ft k j = 2 by omega) with h0 | h0 | h0
        · rw [t0 h0]; simp [am_fv, h0, defaultValue]
        · rw [t1 h0]; simp [am_fv, h0, defaultValue]
        · rw [(t2 h0).1]; simp [am_fv, h0, List.getElem?_replicate, hj]
      · have cA : ClassId := 0
        have hcell : am_cell (am_ad ad sk.length q) (am_ad aC sk.length cA) sk.length (k, w.2.2, List.replicate w.2.2 none) (fun _ => 0) = .inr (k, (List.range w.2.2).map (am_fv ad k (List.replicate w.2.2 none) (fun _ => 0))) := by
          simp only [am_cell, if_pos c13]
          congr 2
          apply List.map_congr_left
          intro j _
          unfold am_fv
          split
          · split
            · rename_i z hz
              have := List.mem_of_getElem? hz
              simp at this
            · rfl
          · rfl
        have HAT := am_At.push (fm := fm) (n := n) (xs := xs) (cA := cA) hA (e := (k, w.2.2, List.replicate w.2.2 none)) (fun z hz => by simp at hz) ⟨by show k ≠ 13; omega, by show k ≠ 23; omega⟩ hcell (fun h => absurd (show 13 ≤ k from h) (by omega)) hP hD

        have hk2 := kk (am_ad ad sk.length q) (am_ad aC sk.length cA) (fun o ho => by simp only [am_ad, if_neg (show ¬ o = sk.length by omega)]; exact ⟨trivial, trivial⟩)
        rw [show List.length (sk ++ ([(k, w.2.2, List.replicate w.2.2 (none : Option Nat))] : am_K)) - List.length sk = 1 by simp, show am_sz (sk ++ ([(k, w.2.2, List.replicate w.2.2 (none : Option Nat))] : am_K)) - am_sz sk = w.2.2 by simp [am_sz_app, am_sz]] at hk2
        have hext : ∀ o, o < sk.length → am_ad ad sk.length q o = ad o := fun o ho => by simp only [am_ad, if_neg (show ¬ o = sk.length by omega)]
        have h29 := hA.2.2.2.1.1
        have k3 := hk2 H1 locs ls HAT (hF.congr (fun o ho => hext o (by omega))) (by show lv_has ls L.length (am_lv (am_ad ad sk.length q) fm L); rw [am_lv_ext hext hL]; exact hl) hS1
        rw [List.map_cons, am_re_ref (show sk.length ≠ 28 by omega), show am_ad ad sk.length q sk.length = q by simp [am_ad], am_st_ext hext hst] at k3
        exact k3
    · cases h4
  · cases h3
theorem am_x_newi {i : Int32} (hm : am_Me p s m args meth c D fm A cc own init nL) (hrow : am_rowok own init ret cc (pc, .newarray .int, nx) (raw, pl) = true) (hi : ¬ i < 0) (hi2 : i.toNatClampNeg ≤ 100000) (hst : am_okS sk.length st) (hL : am_okL sk.length L) (hc : cells + 1 ≤ R.cells) (hs : slots + i.toNatClampNeg ≤ R.slots) (kk : (∀ (ad2 : Nat → Nat) (aC2 : Nat → ClassId), (∀ o, o < sk.length → ad2 o = ad o ∧ aC2 o = aC o) → am_K1 p l e R s m args below meth c Qf D fm n xs A nx L (.ref sk.length :: st) (sk ++ [(20, i.toNatClampNeg, ([] : List (Option Nat)))]) (am_z mem sk.length) ad2 aC2 (cells + ((sk ++ [(20, i.toNatClampNeg, ([] : List (Option Nat)))]).length - sk.length)) (slots + (am_sz (sk ++ [(20, i.toNatClampNeg, ([] : List (Option Nat)))]) - am_sz sk)))) : am_K1 p l e R s m args below meth c Qf D fm n xs A pc L (.int i :: st) sk mem ad aC cells slots := by
  obtain ⟨h1, h2, h3⟩ := am_row_dec hrow
  simp only [am_lk, decide_eq_true_eq] at h3
  obtain ⟨rfl, rfl⟩ := h3
  rw [show pc + 2 - pc = 2 by omega] at h1
  intro H locs ls hA hF hl hS
  rw [List.map_cons]
  have hcb : componentBytes .int ≤ 8 := by decide
  refine va_newa (atype := .int) (ty := .int) (a0 := (i.toNatClampNeg, .inl (fun _ => 0))) hm.1 hm.2.1 (hm.2.2.2.1 _ (am_tb_at 122 (w := .arrayClass .int) (by decide +kernel) rfl)) rfl hm.2.2.2.2.2.1 hA.1 hA.2.1 hS hm.2.2.2.2.2.2.1 (fun cA => vp_cell_i cA _ _) hi rfl (Nat.le_trans (Nat.mul_le_mul hi2 hcb) (by decide)) hc hs h1 (fun q cA H1 hK1 hP hD hS1 => ?_)
  have HT : ArrOfT s cA (am_ty 20) ∧ va_RA s cA (am_ty 20) := hK1.2 0 _ rfl
  have HAT := am_At.push (fm := fm) (n := n) (xs := xs) (cA := cA) hA (e := (20, i.toNatClampNeg, ([] : List (Option Nat)))) (fun z hz => by simp at hz) ⟨Nat.ne_of_beq_eq_false rfl, Nat.ne_of_beq_eq_false rfl⟩ (by simp [am_cell, am_ad]) (fun _ => HT) hP hD
  have hk2 := kk (am_ad ad sk.length q) (am_ad aC sk.length cA) (fun o ho => by simp only [am_ad, if_neg (show ¬ o = sk.length by omega)]; exact ⟨trivial, trivial⟩)
  rw [show List.length (sk ++ ([(20, i.toNatClampNeg, ([] : List (Option Nat)))] : am_K)) - List.length sk = 1 by simp, show am_sz (sk ++ ([(20, i.toNatClampNeg, ([] : List (Option Nat)))] : am_K)) - am_sz sk = i.toNatClampNeg by simp [am_sz_app, am_sz]] at hk2
  have hext : ∀ o, o < sk.length → am_ad ad sk.length q o = ad o := fun o ho => by simp only [am_ad, if_neg (show ¬ o = sk.length by omega)]
  have h29 := hA.2.2.2.1.1
  have k3 := hk2 H1 locs ls HAT (hF.congr (fun o ho => hext o (by omega))) (by show lv_has ls L.length (am_lv (am_ad ad sk.length q) fm L); rw [am_lv_ext hext hL]; exact hl) hS1
  rw [List.map_cons, am_re_ref (show sk.length ≠ 28 by omega), show am_ad ad sk.length q sk.length = q by simp [am_ad], am_st_ext hext hst] at k3
  exact k3
theorem am_x_newz {i : Int32} (hm : am_Me p s m args meth c D fm A cc own init nL) (hrow : am_rowok own init ret cc (pc, .newarray .boolean, nx) (raw, pl) = true) (hi : ¬ i < 0) (hi2 : i.toNatClampNeg ≤ 100000) (hst : am_okS sk.length st) (hL : am_okL sk.length L) (hc : cells + 1 ≤ R.cells) (hs : slots + i.toNatClampNeg ≤ R.slots) (kk : (∀ (ad2 : Nat → Nat) (aC2 : Nat → ClassId), (∀ o, o < sk.length → ad2 o = ad o ∧ aC2 o = aC o) → am_K1 p l e R s m args below meth c Qf D fm n xs A nx L (.ref sk.length :: st) (sk ++ [(21, i.toNatClampNeg, ([] : List (Option Nat)))]) (am_z mem sk.length) ad2 aC2 (cells + ((sk ++ [(21, i.toNatClampNeg, ([] : List (Option Nat)))]).length - sk.length)) (slots + (am_sz (sk ++ [(21, i.toNatClampNeg, ([] : List (Option Nat)))]) - am_sz sk)))) : am_K1 p l e R s m args below meth c Qf D fm n xs A pc L (.int i :: st) sk mem ad aC cells slots := by
  obtain ⟨h1, h2, h3⟩ := am_row_dec hrow
  simp only [am_lk, decide_eq_true_eq] at h3
  obtain ⟨rfl, rfl⟩ := h3
  rw [show pc + 2 - pc = 2 by omega] at h1
  intro H locs ls hA hF hl hS
  rw [List.map_cons]
  have hcb : componentBytes .boolean ≤ 8 := by decide
  refine va_newa (atype := .boolean) (ty := .boolean) (a0 := (i.toNatClampNeg, .inl (fun _ => 0))) hm.1 hm.2.1 (hm.2.2.2.1 _ (am_tb_at 393 (w := .arrayClass .boolean) (by decide +kernel) rfl)) rfl hm.2.2.2.2.2.1 hA.1 hA.2.1 hS hm.2.2.2.2.2.2.1 (fun cA => vp_cell_i cA _ _) hi rfl (Nat.le_trans (Nat.mul_le_mul hi2 hcb) (by decide)) hc hs h1 (fun q cA H1 hK1 hP hD hS1 => ?_)
  have HT : ArrOfT s cA (am_ty 21) ∧ va_RA s cA (am_ty 21) := hK1.2 0 _ rfl
  have HAT := am_At.push (fm := fm) (n := n) (xs := xs) (cA := cA) hA (e := (21, i.toNatClampNeg, ([] : List (Option Nat)))) (fun z hz => by simp at hz) ⟨Nat.ne_of_beq_eq_false rfl, Nat.ne_of_beq_eq_false rfl⟩ (by simp [am_cell, am_ad]) (fun _ => HT) hP hD
  have hk2 := kk (am_ad ad sk.length q) (am_ad aC sk.length cA) (fun o ho => by simp only [am_ad, if_neg (show ¬ o = sk.length by omega)]; exact ⟨trivial, trivial⟩)
  rw [show List.length (sk ++ ([(21, i.toNatClampNeg, ([] : List (Option Nat)))] : am_K)) - List.length sk = 1 by simp, show am_sz (sk ++ ([(21, i.toNatClampNeg, ([] : List (Option Nat)))] : am_K)) - am_sz sk = i.toNatClampNeg by simp [am_sz_app, am_sz]] at hk2
  have hext : ∀ o, o < sk.length → am_ad ad sk.length q o = ad o := fun o ho => by simp only [am_ad, if_neg (show ¬ o = sk.length by omega)]
  have h29 := hA.2.2.2.1.1
  have k3 := hk2 H1 locs ls HAT (hF.congr (fun o ho => hext o (by omega))) (by show lv_has ls L.length (am_lv (am_ad ad sk.length q) fm L); rw [am_lv_ext hext hL]; exact hl) hS1
  rw [List.map_cons, am_re_ref (show sk.length ≠ 28 by omega), show am_ad ad sk.length q sk.length = q by simp [am_ad], am_st_ext hext hst] at k3
  exact k3
theorem am_x_newc {i : Int32} (hm : am_Me p s m args meth c D fm A cc own init nL) (hrow : am_rowok own init ret cc (pc, .newarray .char, nx) (raw, pl) = true) (hi : ¬ i < 0) (hi2 : i.toNatClampNeg ≤ 100000) (hst : am_okS sk.length st) (hL : am_okL sk.length L) (hc : cells + 1 ≤ R.cells) (hs : slots + i.toNatClampNeg ≤ R.slots) (kk : (∀ (ad2 : Nat → Nat) (aC2 : Nat → ClassId), (∀ o, o < sk.length → ad2 o = ad o ∧ aC2 o = aC o) → am_K1 p l e R s m args below meth c Qf D fm n xs A nx L (.ref sk.length :: st) (sk ++ [(22, i.toNatClampNeg, ([] : List (Option Nat)))]) (am_z mem sk.length) ad2 aC2 (cells + ((sk ++ [(22, i.toNatClampNeg, ([] : List (Option Nat)))]).length - sk.length)) (slots + (am_sz (sk ++ [(22, i.toNatClampNeg, ([] : List (Option Nat)))]) - am_sz sk)))) : am_K1 p l e R s m args below meth c Qf D fm n xs A pc L (.int i :: st) sk mem ad aC cells slots := by
  obtain ⟨h1, h2, h3⟩ := am_row_dec hrow
  simp only [am_lk, decide_eq_true_eq] at h3
  obtain ⟨rfl, rfl⟩ := h3
  rw [show pc + 2 - pc = 2 by omega] at h1
  intro H locs ls hA hF hl hS
  rw [List.map_cons]
  have hcb : componentBytes .char ≤ 8 := by decide
  refine va_newa (atype := .char) (ty := .char) (a0 := (i.toNatClampNeg, .inl (fun _ => 0))) hm.1 hm.2.1 (hm.2.2.2.1 _ (am_tb_at 1324 (w := .arrayClass .char) (by decide +kernel) rfl)) rfl hm.2.2.2.2.2.1 hA.1 hA.2.1 hS hm.2.2.2.2.2.2.1 (fun cA => vp_cell_i cA _ _) hi rfl (Nat.le_trans (Nat.mul_le_mul hi2 hcb) (by decide)) hc hs h1 (fun q cA H1 hK1 hP hD hS1 => ?_)
  have HT : ArrOfT s cA (am_ty 22) ∧ va_RA s cA (am_ty 22) := hK1.2 0 _ rfl
  have HAT := am_At.push (fm := fm) (n := n) (xs := xs) (cA := cA) hA (e := (22, i.toNatClampNeg, ([] : List (Option Nat)))) (fun z hz => by simp at hz) ⟨Nat.ne_of_beq_eq_false rfl, Nat.ne_of_beq_eq_false rfl⟩ (by simp [am_cell, am_ad]) (fun _ => HT) hP hD
  have hk2 := kk (am_ad ad sk.length q) (am_ad aC sk.length cA) (fun o ho => by simp only [am_ad, if_neg (show ¬ o = sk.length by omega)]; exact ⟨trivial, trivial⟩)
  rw [show List.length (sk ++ ([(22, i.toNatClampNeg, ([] : List (Option Nat)))] : am_K)) - List.length sk = 1 by simp, show am_sz (sk ++ ([(22, i.toNatClampNeg, ([] : List (Option Nat)))] : am_K)) - am_sz sk = i.toNatClampNeg by simp [am_sz_app, am_sz]] at hk2
  have hext : ∀ o, o < sk.length → am_ad ad sk.length q o = ad o := fun o ho => by simp only [am_ad, if_neg (show ¬ o = sk.length by omega)]
  have h29 := hA.2.2.2.1.1
  have k3 := hk2 H1 locs ls HAT (hF.congr (fun o ho => hext o (by omega))) (by show lv_has ls L.length (am_lv (am_ad ad sk.length q) fm L); rw [am_lv_ext hext hL]; exact hl) hS1
  rw [List.map_cons, am_re_ref (show sk.length ≠ 28 by omega), show am_ad ad sk.length q sk.length = q by simp [am_ad], am_st_ext hext hst] at k3
  exact k3
theorem am_x_newq {k : Nat} {i : Int32} (hm : am_Me p s m args meth c D fm A cc own init nL) (hrow : am_rowok own init ret cc (pc, .anewarray k, nx) (raw, pl) = true) (hi : ¬ i < 0) (hi2 : i.toNatClampNeg ≤ 100000) (hst : am_okS sk.length st) (hL : am_okL sk.length L) (hc : cells + 1 ≤ R.cells) (hs : slots + i.toNatClampNeg ≤ R.slots) (kk : (∀ (ad2 : Nat → Nat) (aC2 : Nat → ClassId), (∀ o, o < sk.length → ad2 o = ad o ∧ aC2 o = aC o) → am_K1 p l e R s m args below meth c Qf D fm n xs A nx L (.ref sk.length :: st) (sk ++ [(30 + k, i.toNatClampNeg, List.replicate i.toNatClampNeg (none : Option Nat))]) (am_z mem sk.length) ad2 aC2 (cells + ((sk ++ [(30 + k, i.toNatClampNeg, List.replicate i.toNatClampNeg (none : Option Nat))]).length - sk.length)) (slots + (am_sz (sk ++ [(30 + k, i.toNatClampNeg, List.replicate i.toNatClampNeg (none : Option Nat))]) - am_sz sk)))) : am_K1 p l e R s m args below meth c Qf D fm n xs A pc L (.int i :: st) sk mem ad aC cells slots := by
  obtain ⟨h1, h2, h3⟩ := am_row_dec hrow
  simp only [am_lk] at h3
  split at h3
  · simp only [Bool.and_eq_true, decide_eq_true_eq] at h3
    obtain ⟨rfl, h4⟩ := h3
    rw [show pc + 3 - pc = 3 by omega] at h1
    intro H locs ls hA hF hl hS
    split at h4
    · rename_i w hw0
      simp only [Bool.and_eq_true, decide_eq_true_eq] at h4
      obtain ⟨h4, h5⟩ := h4
      obtain ⟨c13, -⟩ := am_cls hw0
      rw [List.map_cons]
      refine va_newq hm.1 hm.2.1 hm.2.2.1 (am_hts hm h4 rfl) (hF.2.2.2.2.2.2.2 k h5 w hw0) hm.2.2.2.2.2.1 hA.1 hA.2.1 hS hm.2.2.2.2.2.2.1 hi rfl (by omega) hc hs h1 (fun q cA H1 hK1 hP hD hS1 => ?_)
      have ht : am_ty (30 + k) = .object w.1 := by
        have : vwCl.getD k ("", fun _ => ("", "", "", false), 0) = w := by simp [List.getD_eq_getElem?_getD, hw0]
        simp only [am_ty, if_neg (show ¬ 30 + k = 20 by omega), if_neg (show ¬ 30 + k = 21 by omega), if_neg (show ¬ 30 + k = 22 by omega), if_neg (show ¬ 30 + k = 23 by omega), Nat.add_sub_cancel_left, this]
      have HT : ArrOfT s cA (am_ty (30 + k)) ∧ va_RA s cA (am_ty (30 + k)) := by rw [ht]; exact hK1.2 0 _ rfl
      have hcell : am_cell (am_ad ad sk.length q) (am_ad aC sk.length cA) sk.length (30 + k, i.toNatClampNeg, List.replicate i.toNatClampNeg none) (fun _ => 0) = .inl (cA, i.toNatClampNeg, .inr (.inr (.inr (.inr (fun _ => none))))) := by
        simp only [am_cell, if_neg (show ¬ 30 + k < 13 by omega), if_neg (show ¬ 30 + k < 30 by omega), show am_ad aC sk.length cA sk.length = cA by simp [am_ad]]
        congr 6
        refine congrArg Sum.inr (funext fun j => ?_)
        split
        · rename_i z hz
          have := List.mem_of_getElem? hz
          simp at this
        · rfl
      have HAT := am_At.push (fm := fm) (n := n) (xs := xs) (cA := cA) hA (e := (30 + k, i.toNatClampNeg, List.replicate i.toNatClampNeg none)) (fun z hz => by simp at hz) ⟨by show 30 + k ≠ 13; omega, by show 30 + k ≠ 23; omega⟩ hcell (fun _ => HT) hP hD
      have hk2 := kk (am_ad ad sk.length q) (am_ad aC sk.length cA) (fun o ho => by simp only [am_ad, if_neg (show ¬ o = sk.length by omega)]; exact ⟨trivial, trivial⟩)
      rw [show List.length (sk ++ ([(30 + k, i.toNatClampNeg, List.replicate i.toNatClampNeg (none : Option Nat))] : am_K)) - List.length sk = 1 by simp, show am_sz (sk ++ ([(30 + k, i.toNatClampNeg, List.replicate i.toNatClampNeg (none : Option Nat))] : am_K)) - am_sz sk = i.toNatClampNeg by simp [am_sz_app, am_sz]] at hk2
      have hext : ∀ o, o < sk.length → am_ad ad sk.length q o = ad o := fun o ho => by simp only [am_ad, if_neg (show ¬ o = sk.length by omega)]
      have h29 := hA.2.2.2.1.1
      have k3 := hk2 H1 locs ls HAT (hF.congr (fun o ho => hext o (by omega))) (by show lv_has ls L.length (am_lv (am_ad ad sk.length q) fm L); rw [am_lv_ext hext hL]; exact hl) hS1
      rw [List.map_cons, am_re_ref (show sk.length ≠ 28 by omega), show am_ad ad sk.length q sk.length = q by simp [am_ad], am_st_ext hext hst] at k3
      exact k3
    · cases h4
  · cases h3
end AMH
