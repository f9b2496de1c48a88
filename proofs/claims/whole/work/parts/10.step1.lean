/-! the real machine does what the small one does: one instruction -/
section AMS
variable {p : Program} {l : Launch} {e : Env} {R : Room} {s : State} {m : MethodId} {args : Array Value} {below : List Frame} {meth : Method} {c : Code} {Qf : State → Prop} {D : va_G} {fm : Value} {n : Nat} {xs : Nat → Int32} {A : Nat → Prop} {cc : ByteArray} {own : String} {init : Bool} {ret : Option FieldType} {nL : Nat}
variable {pc nx : Nat} {L : am_L} {st : List Value} {sk : am_K} {mem : am_M} {ad : Nat → Nat} {aC : Nat → ClassId} {cells slots : Nat} {raw norm : Instr} {pl : Nat}
theorem am_K1ty {cA : ClassId} {ty : FieldType} (h : va_K D vwCl [] s) (h2 : ArrOfT s cA ty ∧ va_RA s cA ty) : va_K D vwCl [(cA, ty)] s := ⟨h.1, fun k q hq => by
  match k, hq with
  | 0, hq => cases hq; exact h2
  | k + 1, hq => simp at hq⟩
theorem am_row_dec (h : am_rowok own init ret cc (pc, norm, nx) (raw, pl) = true) : decode cc pc = .ok (raw, nx - pc) ∧ pc < nx ∧ am_lk own init ret pc nx raw norm pl = true := by
  unfold am_rowok at h
  simp only [Bool.and_eq_true, decide_eq_true_eq] at h
  exact ⟨h.1.1, h.1.2, h.2⟩
theorem am_wd_of {w : Cond} (h : am_wd pl w = true) : lw_tbl[pl]? = some w := of_decide_eq_true h
theorem am_hts {w : Cond} (hm : am_Me p s m args meth c D fm A cc own init nL) (h : am_wd pl w = true) (g : goodWord w = true) : w.before args s = true := hm.2.2.2.1 w (am_tb_at pl (am_wd_of h) g)
theorem am_ro_kind {o : Nat} {x : am_E} (ho : o < 29) (h : (am_ro n)[o]? = some x) : (o = 0 ∧ x = (20, 6, [])) ∨ (o = 1 ∧ x = (20, n, [])) ∨ (∃ i, i < 13 ∧ o = 2 + i ∧ x = (13, 2, [some (15 + i), none])) ∨ (∃ i, i < 13 ∧ o = 15 + i ∧ x = (23, am_len.getD i 0, [])) ∨ (o = 28 ∧ x = (91, 0, [])) := by
  match o, ho, h with
  | 0, _, h => cases h; exact Or.inl ⟨rfl, rfl⟩
  | 1, _, h => cases h; exact Or.inr (Or.inl ⟨rfl, rfl⟩)
  | 2, _, h => cases h; exact Or.inr (Or.inr (Or.inl ⟨0, by decide, rfl, rfl⟩))
  | 3, _, h => cases h; exact Or.inr (Or.inr (Or.inl ⟨1, by decide, rfl, rfl⟩))
  | 4, _, h => cases h; exact Or.inr (Or.inr (Or.inl ⟨2, by decide, rfl, rfl⟩))
  | 5, _, h => cases h; exact Or.inr (Or.inr (Or.inl ⟨3, by decide, rfl, rfl⟩))
  | 6, _, h => cases h; exact Or.inr (Or.inr (Or.inl ⟨4, by decide, rfl, rfl⟩))
  | 7, _, h => cases h; exact Or.inr (Or.inr (Or.inl ⟨5, by decide, rfl, rfl⟩))
  | 8, _, h => cases h; exact Or.inr (Or.inr (Or.inl ⟨6, by decide, rfl, rfl⟩))
  | 9, _, h => cases h; exact Or.inr (Or.inr (Or.inl ⟨7, by decide, rfl, rfl⟩))
  | 10, _, h => cases h; exact Or.inr (Or.inr (Or.inl ⟨8, by decide, rfl, rfl⟩))
  | 11, _, h => cases h; exact Or.inr (Or.inr (Or.inl ⟨9, by decide, rfl, rfl⟩))
  | 12, _, h => cases h; exact Or.inr (Or.inr (Or.inl ⟨10, by decide, rfl, rfl⟩))
  | 13, _, h => cases h; exact Or.inr (Or.inr (Or.inl ⟨11, by decide, rfl, rfl⟩))
  | 14, _, h => cases h; exact Or.inr (Or.inr (Or.inl ⟨12, by decide, rfl, rfl⟩))
  | 15, _, h => cases h; exact Or.inr (Or.inr (Or.inr (Or.inl ⟨0, by decide, rfl, rfl⟩)))
  | 16, _, h => cases h; exact Or.inr (Or.inr (Or.inr (Or.inl ⟨1, by decide, rfl, rfl⟩)))
  | 17, _, h => cases h; exact Or.inr (Or.inr (Or.inr (Or.inl ⟨2, by decide, rfl, rfl⟩)))
  | 18, _, h => cases h; exact Or.inr (Or.inr (Or.inr (Or.inl ⟨3, by decide, rfl, rfl⟩)))
  | 19, _, h => cases h; exact Or.inr (Or.inr (Or.inr (Or.inl ⟨4, by decide, rfl, rfl⟩)))
  | 20, _, h => cases h; exact Or.inr (Or.inr (Or.inr (Or.inl ⟨5, by decide, rfl, rfl⟩)))
  | 21, _, h => cases h; exact Or.inr (Or.inr (Or.inr (Or.inl ⟨6, by decide, rfl, rfl⟩)))
  | 22, _, h => cases h; exact Or.inr (Or.inr (Or.inr (Or.inl ⟨7, by decide, rfl, rfl⟩)))
  | 23, _, h => cases h; exact Or.inr (Or.inr (Or.inr (Or.inl ⟨8, by decide, rfl, rfl⟩)))
  | 24, _, h => cases h; exact Or.inr (Or.inr (Or.inr (Or.inl ⟨9, by decide, rfl, rfl⟩)))
  | 25, _, h => cases h; exact Or.inr (Or.inr (Or.inr (Or.inl ⟨10, by decide, rfl, rfl⟩)))
  | 26, _, h => cases h; exact Or.inr (Or.inr (Or.inr (Or.inl ⟨11, by decide, rfl, rfl⟩)))
  | 27, _, h => cases h; exact Or.inr (Or.inr (Or.inr (Or.inl ⟨12, by decide, rfl, rfl⟩)))
  | 28, _, h => cases h; exact Or.inr (Or.inr (Or.inr (Or.inr ⟨rfl, rfl⟩)))
  | o + 29, ho, _ => omega
theorem am_sum {fm : Value} (hf : fm.category = 1) {N : Nat} {r : List Value} (hr : am_okS N r) : ((r.map (am_re ad fm)).map fun v => v.category).sum = r.length := by
  induction r with
  | nil => rfl
  | cons v r ih =>
    have h1 := am_re_cat (ad := ad) hf (hr v List.mem_cons_self).cat
    have h2 := ih (fun w hw => hr w (List.mem_cons_of_mem _ hw))
    simp only [List.map_cons, List.sum_cons, List.length_cons, h1, h2]
    omega
theorem am_fv_int {c0 N k : Nat} {rs : List (Option Nat)} {f : Nat → Int32} {x : Int32} (hk : k < N) (h2 : ¬ am_ft c0 k = 2) : ((List.range N).map (am_fv ad c0 rs f)).set k (.int x) = (List.range N).map (am_fv ad c0 rs (upd f k x)) := by
  apply List.ext_getElem?
  intro j
  by_cases hj : j < N
  · by_cases e1 : k = j
    · subst e1
      rw [List.getElem?_set_self (by simp [hk]), List.getElem?_map, List.getElem?_range hj]
      simp [am_fv, h2, upd]
    · rw [List.getElem?_set_ne e1, List.getElem?_map, List.getElem?_map, List.getElem?_range hj]
      have e2 : ¬ j = k := fun q => e1 q.symm
      simp [am_fv, upd, e2]
  · rw [List.getElem?_eq_none (by simp; omega), List.getElem?_eq_none (by simp; omega)]
theorem am_fv_ref {c0 N k y : Nat} {rs : List (Option Nat)} {f : Nat → Int32} (hk : k < N) (hl : rs.length = N) (h2 : am_ft c0 k = 2) : ((List.range N).map (am_fv ad c0 rs f)).set k (.ref (ad y)) = (List.range N).map (am_fv ad c0 (rs.set k (some y)) f) := by
  apply List.ext_getElem?
  intro j
  by_cases hj : j < N
  · by_cases e1 : k = j
    · subst e1
      rw [List.getElem?_set_self (by simp [hk]), List.getElem?_map, List.getElem?_range hj]
      simp [am_fv, h2, List.getElem?_set_self (show k < rs.length by omega)]
    · rw [List.getElem?_set_ne e1, List.getElem?_map, List.getElem?_map, List.getElem?_range hj]
      simp [am_fv, List.getElem?_set_ne e1]
  · rw [List.getElem?_eq_none (by simp; omega), List.getElem?_eq_none (by simp; omega)]
theorem am_keep {pc' : Nat} {L' : am_L} {st' : List Value} {mem' : am_M} (kk : ∀ (ad' : Nat → Nat) (aC' : Nat → ClassId), (∀ o, o < sk.length → ad' o = ad o ∧ aC' o = aC o) → am_K1 p l e R s m args below meth c Qf D fm n xs A pc' L' st' sk mem' ad' aC' (cells + (sk.length - sk.length)) (slots + (am_sz sk - am_sz sk))) : am_K1 p l e R s m args below meth c Qf D fm n xs A pc' L' st' sk mem' ad aC cells slots := by
  have h := kk ad aC (fun _ _ => ⟨rfl, rfl⟩)
  rw [Nat.sub_self, Nat.sub_self] at h
  exact h
theorem am_keep2 {sk' : am_K} {pc' : Nat} {L' : am_L} {st' : List Value} {mem' : am_M} (hl : sk'.length = sk.length) (hs : am_sz sk' = am_sz sk) (kk : ∀ (ad' : Nat → Nat) (aC' : Nat → ClassId), (∀ o, o < sk.length → ad' o = ad o ∧ aC' o = aC o) → am_K1 p l e R s m args below meth c Qf D fm n xs A pc' L' st' sk' mem' ad' aC' (cells + (sk'.length - sk.length)) (slots + (am_sz sk' - am_sz sk))) : am_K1 p l e R s m args below meth c Qf D fm n xs A pc' L' st' sk' mem' ad aC cells slots := by
  have h := kk ad aC (fun _ _ => ⟨rfl, rfl⟩)
  rw [hl, hs, Nat.sub_self, Nat.sub_self] at h
  exact h
theorem am_look {d pc' : Int} {pcn : Nat} : ∀ (ps qs : List (Int × Int)) (d' : Int) (x : Int), ps.length = qs.length → (ps.zip qs).all (fun q => decide (q.1.1 = q.2.1 ∧ (pcn : Int) + q.2.2 = (q.1.2.toNat : Int))) = true → (pcn : Int) + d' = (d.toNat : Int) → (pcn : Int) + Op.lookupswitch.offset qs d' x = ((Op.lookupswitch.offset ps d x).toNat : Int)
  | [], [], _, _, _, _, h => h
  | [], _ :: _, _, _, h, _, _ => by simp at h
  | _ :: _, [], _, _, h, _, _ => by simp at h
  | (a, o) :: ps, (b, o') :: qs, d', x, hl, ha, hd => by
    simp only [List.zip_cons_cons, List.all_cons, Bool.and_eq_true, decide_eq_true_eq] at ha
    obtain ⟨⟨h1, h2⟩, h3⟩ := ha
    rw [Op.lookupswitch.offset_cons, Op.lookupswitch.offset_cons, h1]
    split
    · exact h2
    · exact am_look (d := d) (pc' := pc') ps qs d' x (by simpa using hl) h3 hd
theorem am_x_iadd {x y : Int32} (hm : am_Me p s m args meth c D fm A cc own init nL) (hrow : am_rowok own init ret cc (pc, .iadd, nx) (raw, pl) = true) (kk : am_K1 p l e R s m args below meth c Qf D fm n xs A nx L (.int (x + y) :: st) sk mem ad aC cells slots) : am_K1 p l e R s m args below meth c Qf D fm n xs A pc L (.int y :: .int x :: st) sk mem ad aC cells slots := by
  obtain ⟨h1, h2, h3⟩ := am_row_dec hrow
  simp only [am_lk, decide_eq_true_eq] at h3
  obtain ⟨rfl, rfl⟩ := h3
  rw [show pc + 1 - pc = 1 by omega] at h1
  exact fun H locs ls hA hF hl hS => lv_iadd hm.1 hm.2.1 h1 (kk H locs ls hA hF hl hS)
theorem am_x_isub {x y : Int32} (hm : am_Me p s m args meth c D fm A cc own init nL) (hrow : am_rowok own init ret cc (pc, .isub, nx) (raw, pl) = true) (kk : am_K1 p l e R s m args below meth c Qf D fm n xs A nx L (.int (x - y) :: st) sk mem ad aC cells slots) : am_K1 p l e R s m args below meth c Qf D fm n xs A pc L (.int y :: .int x :: st) sk mem ad aC cells slots := by
  obtain ⟨h1, h2, h3⟩ := am_row_dec hrow
  simp only [am_lk, decide_eq_true_eq] at h3
  obtain ⟨rfl, rfl⟩ := h3
  rw [show pc + 1 - pc = 1 by omega] at h1
  exact fun H locs ls hA hF hl hS => lv_isub hm.1 hm.2.1 h1 (kk H locs ls hA hF hl hS)
theorem am_x_imul {x y : Int32} (hm : am_Me p s m args meth c D fm A cc own init nL) (hrow : am_rowok own init ret cc (pc, .imul, nx) (raw, pl) = true) (kk : am_K1 p l e R s m args below meth c Qf D fm n xs A nx L (.int (x * y) :: st) sk mem ad aC cells slots) : am_K1 p l e R s m args below meth c Qf D fm n xs A pc L (.int y :: .int x :: st) sk mem ad aC cells slots := by
  obtain ⟨h1, h2, h3⟩ := am_row_dec hrow
  simp only [am_lk, decide_eq_true_eq] at h3
  obtain ⟨rfl, rfl⟩ := h3
  rw [show pc + 1 - pc = 1 by omega] at h1
  exact fun H locs ls hA hF hl hS => lv_imul hm.1 hm.2.1 h1 (kk H locs ls hA hF hl hS)
theorem am_x_iand {x y : Int32} (hm : am_Me p s m args meth c D fm A cc own init nL) (hrow : am_rowok own init ret cc (pc, .iand, nx) (raw, pl) = true) (kk : am_K1 p l e R s m args below meth c Qf D fm n xs A nx L (.int (x &&& y) :: st) sk mem ad aC cells slots) : am_K1 p l e R s m args below meth c Qf D fm n xs A pc L (.int y :: .int x :: st) sk mem ad aC cells slots := by
  obtain ⟨h1, h2, h3⟩ := am_row_dec hrow
  simp only [am_lk, decide_eq_true_eq] at h3
  obtain ⟨rfl, rfl⟩ := h3
  rw [show pc + 1 - pc = 1 by omega] at h1
  exact fun H locs ls hA hF hl hS => lv_iand hm.1 hm.2.1 h1 (kk H locs ls hA hF hl hS)
theorem am_x_ior {x y : Int32} (hm : am_Me p s m args meth c D fm A cc own init nL) (hrow : am_rowok own init ret cc (pc, .ior, nx) (raw, pl) = true) (kk : am_K1 p l e R s m args below meth c Qf D fm n xs A nx L (.int (x ||| y) :: st) sk mem ad aC cells slots) : am_K1 p l e R s m args below meth c Qf D fm n xs A pc L (.int y :: .int x :: st) sk mem ad aC cells slots := by
  obtain ⟨h1, h2, h3⟩ := am_row_dec hrow
  simp only [am_lk, decide_eq_true_eq] at h3
  obtain ⟨rfl, rfl⟩ := h3
  rw [show pc + 1 - pc = 1 by omega] at h1
  exact fun H locs ls hA hF hl hS => lv_ior hm.1 hm.2.1 h1 (kk H locs ls hA hF hl hS)
theorem am_x_ixor {x y : Int32} (hm : am_Me p s m args meth c D fm A cc own init nL) (hrow : am_rowok own init ret cc (pc, .ixor, nx) (raw, pl) = true) (kk : am_K1 p l e R s m args below meth c Qf D fm n xs A nx L (.int (x ^^^ y) :: st) sk mem ad aC cells slots) : am_K1 p l e R s m args below meth c Qf D fm n xs A pc L (.int y :: .int x :: st) sk mem ad aC cells slots := by
  obtain ⟨h1, h2, h3⟩ := am_row_dec hrow
  simp only [am_lk, decide_eq_true_eq] at h3
  obtain ⟨rfl, rfl⟩ := h3
  rw [show pc + 1 - pc = 1 by omega] at h1
  exact fun H locs ls hA hF hl hS => lv_ixor hm.1 hm.2.1 h1 (kk H locs ls hA hF hl hS)
theorem am_x_ishl {x y : Int32} (hm : am_Me p s m args meth c D fm A cc own init nL) (hrow : am_rowok own init ret cc (pc, .ishl, nx) (raw, pl) = true) (kk : am_K1 p l e R s m args below meth c Qf D fm n xs A nx L (.int (x <<< (y &&& 31)) :: st) sk mem ad aC cells slots) : am_K1 p l e R s m args below meth c Qf D fm n xs A pc L (.int y :: .int x :: st) sk mem ad aC cells slots := by
  obtain ⟨h1, h2, h3⟩ := am_row_dec hrow
  simp only [am_lk, decide_eq_true_eq] at h3
  obtain ⟨rfl, rfl⟩ := h3
  rw [show pc + 1 - pc = 1 by omega] at h1
  exact fun H locs ls hA hF hl hS => lv_ishl hm.1 hm.2.1 h1 (kk H locs ls hA hF hl hS)
theorem am_x_ishr {x y : Int32} (hm : am_Me p s m args meth c D fm A cc own init nL) (hrow : am_rowok own init ret cc (pc, .ishr, nx) (raw, pl) = true) (kk : am_K1 p l e R s m args below meth c Qf D fm n xs A nx L (.int (x >>> (y &&& 31)) :: st) sk mem ad aC cells slots) : am_K1 p l e R s m args below meth c Qf D fm n xs A pc L (.int y :: .int x :: st) sk mem ad aC cells slots := by
  obtain ⟨h1, h2, h3⟩ := am_row_dec hrow
  simp only [am_lk, decide_eq_true_eq] at h3
  obtain ⟨rfl, rfl⟩ := h3
  rw [show pc + 1 - pc = 1 by omega] at h1
  exact fun H locs ls hA hF hl hS => lv_ishr hm.1 hm.2.1 h1 (kk H locs ls hA hF hl hS)
theorem am_x_iushr {x y : Int32} (hm : am_Me p s m args meth c D fm A cc own init nL) (hrow : am_rowok own init ret cc (pc, .iushr, nx) (raw, pl) = true) (kk : am_K1 p l e R s m args below meth c Qf D fm n xs A nx L (.int ((x.toUInt32 >>> (y.toUInt32 &&& Int32.toUInt32 31)).toInt32) :: st) sk mem ad aC cells slots) : am_K1 p l e R s m args below meth c Qf D fm n xs A pc L (.int y :: .int x :: st) sk mem ad aC cells slots := by
  obtain ⟨h1, h2, h3⟩ := am_row_dec hrow
  simp only [am_lk, decide_eq_true_eq] at h3
  obtain ⟨rfl, rfl⟩ := h3
  rw [show pc + 1 - pc = 1 by omega] at h1
  exact fun H locs ls hA hF hl hS => lv_iushr hm.1 hm.2.1 h1 rfl (kk H locs ls hA hF hl hS)
theorem am_x_idiv {x y : Int32} (hm : am_Me p s m args meth c D fm A cc own init nL) (hrow : am_rowok own init ret cc (pc, .idiv, nx) (raw, pl) = true) (hy : ¬ y = 0) (kk : am_K1 p l e R s m args below meth c Qf D fm n xs A nx L (.int (x / y) :: st) sk mem ad aC cells slots) : am_K1 p l e R s m args below meth c Qf D fm n xs A pc L (.int y :: .int x :: st) sk mem ad aC cells slots := by
  obtain ⟨h1, h2, h3⟩ := am_row_dec hrow
  simp only [am_lk, decide_eq_true_eq] at h3
  obtain ⟨rfl, rfl⟩ := h3
  rw [show pc + 1 - pc = 1 by omega] at h1
  exact fun H locs ls hA hF hl hS => lv_idiv hm.1 hm.2.1 h1 hy (kk H locs ls hA hF hl hS)
theorem am_x_irem {x y : Int32} (hm : am_Me p s m args meth c D fm A cc own init nL) (hrow : am_rowok own init ret cc (pc, .irem, nx) (raw, pl) = true) (hy : ¬ y = 0) (kk : am_K1 p l e R s m args below meth c Qf D fm n xs A nx L (.int (x - x / y * y) :: st) sk mem ad aC cells slots) : am_K1 p l e R s m args below meth c Qf D fm n xs A pc L (.int y :: .int x :: st) sk mem ad aC cells slots := by
  obtain ⟨h1, h2, h3⟩ := am_row_dec hrow
  simp only [am_lk, decide_eq_true_eq] at h3
  obtain ⟨rfl, rfl⟩ := h3
  rw [show pc + 1 - pc = 1 by omega] at h1
  exact fun H locs ls hA hF hl hS => lv_irem hm.1 hm.2.1 h1 hy (kk H locs ls hA hF hl hS)
theorem am_x_ineg {x : Int32} (hm : am_Me p s m args meth c D fm A cc own init nL) (hrow : am_rowok own init ret cc (pc, .ineg, nx) (raw, pl) = true) (kk : am_K1 p l e R s m args below meth c Qf D fm n xs A nx L (.int (-x) :: st) sk mem ad aC cells slots) : am_K1 p l e R s m args below meth c Qf D fm n xs A pc L (.int x :: st) sk mem ad aC cells slots := by
  obtain ⟨h1, h2, h3⟩ := am_row_dec hrow
  simp only [am_lk, decide_eq_true_eq] at h3
  obtain ⟨rfl, rfl⟩ := h3
  rw [show pc + 1 - pc = 1 by omega] at h1
  exact fun H locs ls hA hF hl hS => lv_ineg hm.1 hm.2.1 h1 (kk H locs ls hA hF hl hS)
theorem am_x_i2s {x : Int32} (hm : am_Me p s m args meth c D fm A cc own init nL) (hrow : am_rowok own init ret cc (pc, .i2s, nx) (raw, pl) = true) (kk : am_K1 p l e R s m args below meth c Qf D fm n xs A nx L (.int (x.toInt16.toInt32) :: st) sk mem ad aC cells slots) : am_K1 p l e R s m args below meth c Qf D fm n xs A pc L (.int x :: st) sk mem ad aC cells slots := by
  obtain ⟨h1, h2, h3⟩ := am_row_dec hrow
  simp only [am_lk, decide_eq_true_eq] at h3
  obtain ⟨rfl, rfl⟩ := h3
  rw [show pc + 1 - pc = 1 by omega] at h1
  exact fun H locs ls hA hF hl hS => lv_i2s hm.1 hm.2.1 h1 rfl (kk H locs ls hA hF hl hS)
theorem am_x_i2b {x : Int32} (hm : am_Me p s m args meth c D fm A cc own init nL) (hrow : am_rowok own init ret cc (pc, .i2b, nx) (raw, pl) = true) (kk : am_K1 p l e R s m args below meth c Qf D fm n xs A nx L (.int (x.toInt8.toInt32) :: st) sk mem ad aC cells slots) : am_K1 p l e R s m args below meth c Qf D fm n xs A pc L (.int x :: st) sk mem ad aC cells slots := by
  obtain ⟨h1, h2, h3⟩ := am_row_dec hrow
  simp only [am_lk, decide_eq_true_eq] at h3
  obtain ⟨rfl, rfl⟩ := h3
  rw [show pc + 1 - pc = 1 by omega] at h1
  exact fun H locs ls hA hF hl hS => lv_i2b hm.1 hm.2.1 h1 rfl (kk H locs ls hA hF hl hS)
theorem am_x_i2c {x : Int32} (hm : am_Me p s m args meth c D fm A cc own init nL) (hrow : am_rowok own init ret cc (pc, .i2c, nx) (raw, pl) = true) (kk : am_K1 p l e R s m args below meth c Qf D fm n xs A nx L (.int ((x.toUInt32 % 65536).toInt32) :: st) sk mem ad aC cells slots) : am_K1 p l e R s m args below meth c Qf D fm n xs A pc L (.int x :: st) sk mem ad aC cells slots := by
  obtain ⟨h1, h2, h3⟩ := am_row_dec hrow
  simp only [am_lk, decide_eq_true_eq] at h3
  obtain ⟨rfl, rfl⟩ := h3
  rw [show pc + 1 - pc = 1 by omega] at h1
  exact fun H locs ls hA hF hl hS => lv_i2c hm.1 hm.2.1 h1 rfl (kk H locs ls hA hF hl hS)
theorem am_x_dup {v : Value} (hm : am_Me p s m args meth c D fm A cc own init nL) (hrow : am_rowok own init ret cc (pc, .dup, nx) (raw, pl) = true) (hv : v.category = 1) (kk : am_K1 p l e R s m args below meth c Qf D fm n xs A nx L (v :: v :: st) sk mem ad aC cells slots) : am_K1 p l e R s m args below meth c Qf D fm n xs A pc L (v :: st) sk mem ad aC cells slots := by
  obtain ⟨h1, h2, h3⟩ := am_row_dec hrow
  simp only [am_lk, decide_eq_true_eq] at h3
  obtain ⟨rfl, rfl⟩ := h3
  rw [show pc + 1 - pc = 1 by omega] at h1
  exact fun H locs ls hA hF hl hS => lv_dup hm.1 hm.2.1 h1 (am_re_cat hm.2.2.2.2.2.2.2.1 hv) (kk H locs ls hA hF hl hS)
theorem am_x_dup2 {v w : Value} (hm : am_Me p s m args meth c D fm A cc own init nL) (hrow : am_rowok own init ret cc (pc, .dup2, nx) (raw, pl) = true) (hv : v.category = 1) (hw : w.category = 1) (kk : am_K1 p l e R s m args below meth c Qf D fm n xs A nx L (v :: w :: v :: w :: st) sk mem ad aC cells slots) : am_K1 p l e R s m args below meth c Qf D fm n xs A pc L (v :: w :: st) sk mem ad aC cells slots := by
  obtain ⟨h1, h2, h3⟩ := am_row_dec hrow
  simp only [am_lk, decide_eq_true_eq] at h3
  obtain ⟨rfl, rfl⟩ := h3
  rw [show pc + 1 - pc = 1 by omega] at h1
  exact fun H locs ls hA hF hl hS => lv_dup2_11 hm.1 hm.2.1 h1 (am_re_cat hm.2.2.2.2.2.2.2.1 hv) (am_re_cat hm.2.2.2.2.2.2.2.1 hw) (kk H locs ls hA hF hl hS)
theorem am_x_pop {x : Int32} (hm : am_Me p s m args meth c D fm A cc own init nL) (hrow : am_rowok own init ret cc (pc, .pop, nx) (raw, pl) = true) (kk : am_K1 p l e R s m args below meth c Qf D fm n xs A nx L st sk mem ad aC cells slots) : am_K1 p l e R s m args below meth c Qf D fm n xs A pc L (.int x :: st) sk mem ad aC cells slots := by
  obtain ⟨h1, h2, h3⟩ := am_row_dec hrow
  simp only [am_lk, decide_eq_true_eq] at h3
  obtain ⟨rfl, rfl⟩ := h3
  rw [show pc + 1 - pc = 1 by omega] at h1
  exact fun H locs ls hA hF hl hS => lv_pop hm.1 hm.2.1 h1 rfl (kk H locs ls hA hF hl hS)
theorem am_x_iconst {v : Int} (hm : am_Me p s m args meth c D fm A cc own init nL) (hrow : am_rowok own init ret cc (pc, .iconst v, nx) (raw, pl) = true) (kk : am_K1 p l e R s m args below meth c Qf D fm n xs A nx L (.int (Int32.ofInt v) :: st) sk mem ad aC cells slots) : am_K1 p l e R s m args below meth c Qf D fm n xs A pc L st sk mem ad aC cells slots := by
  obtain ⟨h1, h2, h3⟩ := am_row_dec hrow
  simp only [am_lk] at h3
  split at h3
  · simp only [decide_eq_true_eq] at h3
    obtain ⟨rfl, rfl⟩ := h3
    rw [show pc + 1 - pc = 1 by omega] at h1
    exact fun H locs ls hA hF hl hS => lv_iconst hm.1 hm.2.1 h1 rfl (kk H locs ls hA hF hl hS)
  · simp only [decide_eq_true_eq] at h3
    obtain ⟨h4, rfl⟩ := h3
    rw [show pc + 2 - pc = 2 by omega] at h1
    exact fun H locs ls hA hF hl hS => lv_bipush hm.1 hm.2.1 h1 h4 (kk H locs ls hA hF hl hS)
  · simp only [decide_eq_true_eq] at h3
    obtain ⟨h4, rfl⟩ := h3
    rw [show pc + 3 - pc = 3 by omega] at h1
    exact fun H locs ls hA hF hl hS => lv_sipush hm.1 hm.2.1 h1 h4 (kk H locs ls hA hF hl hS)
  · simp only [Bool.and_eq_true, decide_eq_true_eq] at h3
    obtain ⟨h4, rfl⟩ := h3
    rw [show pc + 2 - pc = 2 by omega] at h1
    exact fun H locs ls hA hF hl hS => lv_ldc hm.1 hm.2.1 hm.2.2.1 (am_hts hm h4 rfl) h1 (kk H locs ls hA hF hl hS)
  · simp only [Bool.and_eq_true, decide_eq_true_eq] at h3
    obtain ⟨h4, rfl⟩ := h3
    rw [show pc + 3 - pc = 3 by omega] at h1
    exact fun H locs ls hA hF hl hS => lv_ldcw hm.1 hm.2.1 hm.2.2.1 (am_hts hm h4 rfl) h1 (kk H locs ls hA hF hl hS)
  · cases h3
theorem am_x_iload {i : Nat} {x : Int32} (hm : am_Me p s m args meth c D fm A cc own init nL) (hrow : am_rowok own init ret cc (pc, .iload i, nx) (raw, pl) = true) (hi : L[i]? = some (some (.int x))) (kk : am_K1 p l e R s m args below meth c Qf D fm n xs A nx L (.int x :: st) sk mem ad aC cells slots) : am_K1 p l e R s m args below meth c Qf D fm n xs A pc L st sk mem ad aC cells slots := by
  obtain ⟨h1, h2, h3⟩ := am_row_dec hrow
  simp only [am_lk] at h3
  split at h3
  · simp only [decide_eq_true_eq] at h3
    obtain ⟨rfl, rfl⟩ := h3
    rw [show pc + 2 - pc = 2 by omega] at h1
    exact fun H locs ls hA hF hl hS => lv_iload hm.1 hm.2.1 h1 (am_lh_get hl hi) (kk H locs ls hA hF hl hS)
  · simp only [decide_eq_true_eq] at h3
    obtain ⟨h4, rfl⟩ := h3
    rw [show pc + 1 - pc = 1 by omega] at h1
    exact fun H locs ls hA hF hl hS => lv_iload_n hm.1 hm.2.1 h1 h4.symm (am_lh_get hl hi) (kk H locs ls hA hF hl hS)
  · cases h3
theorem am_x_aload {i x : Nat} (hm : am_Me p s m args meth c D fm A cc own init nL) (hrow : am_rowok own init ret cc (pc, .aload i, nx) (raw, pl) = true) (hi : L[i]? = some (some (.ref x))) (hx : x ≠ 28) (kk : am_K1 p l e R s m args below meth c Qf D fm n xs A nx L (.ref x :: st) sk mem ad aC cells slots) : am_K1 p l e R s m args below meth c Qf D fm n xs A pc L st sk mem ad aC cells slots := by
  obtain ⟨h1, h2, h3⟩ := am_row_dec hrow
  simp only [am_lk] at h3
  split at h3
  · simp only [decide_eq_true_eq] at h3
    obtain ⟨rfl, rfl⟩ := h3
    rw [show pc + 2 - pc = 2 by omega] at h1
    exact fun H locs ls hA hF hl hS => by
      have g := am_lh_get hl hi
      have k2 := kk H locs ls hA hF hl hS
      rw [List.map_cons] at k2
      rw [am_re_ref hx] at g k2
      exact lv_aload hm.1 hm.2.1 h1 g k2
  · simp only [decide_eq_true_eq] at h3
    obtain ⟨h4, rfl⟩ := h3
    rw [show pc + 1 - pc = 1 by omega] at h1
    exact fun H locs ls hA hF hl hS => by
      have g := am_lh_get hl hi
      have k2 := kk H locs ls hA hF hl hS
      rw [List.map_cons] at k2
      rw [am_re_ref hx] at g k2
      exact lv_aload_n hm.1 hm.2.1 h1 h4.symm g k2
  · cases h3
theorem am_x_istore {i N : Nat} {x : Int32} (hm : am_Me p s m args meth c D fm A cc own init nL) (hrow : am_rowok own init ret cc (pc, .istore i, nx) (raw, pl) = true) (hi : i < L.length) (hL : am_okL N L) (kk : am_K1 p l e R s m args below meth c Qf D fm n xs A nx (L.set i (some (.int x))) st sk mem ad aC cells slots) : am_K1 p l e R s m args below meth c Qf D fm n xs A pc L (.int x :: st) sk mem ad aC cells slots := by
  obtain ⟨h1, h2, h3⟩ := am_row_dec hrow
  simp only [am_lk] at h3
  split at h3
  · simp only [decide_eq_true_eq] at h3
    obtain ⟨rfl, rfl⟩ := h3
    rw [show pc + 2 - pc = 2 by omega] at h1
    exact fun H locs ls hA hF hl hS => lv_istore hm.1 hm.2.1 h1 hl hi rfl (fun ls1 hl1 => kk H locs ls1 hA hF (am_lh_set hm.2.2.2.2.2.2.2.1 hL hi hl1) hS)
  · simp only [decide_eq_true_eq] at h3
    obtain ⟨h4, rfl⟩ := h3
    rw [show pc + 1 - pc = 1 by omega] at h1
    exact fun H locs ls hA hF hl hS => lv_istore_n hm.1 hm.2.1 h1 h4.symm hl hi rfl (fun ls1 hl1 => kk H locs ls1 hA hF (am_lh_set hm.2.2.2.2.2.2.2.1 hL hi hl1) hS)
  · cases h3
theorem am_x_astore {i x N : Nat} (hm : am_Me p s m args meth c D fm A cc own init nL) (hrow : am_rowok own init ret cc (pc, .astore i, nx) (raw, pl) = true) (hx : x ≠ 28) (hi : i < L.length) (hL : am_okL N L) (kk : am_K1 p l e R s m args below meth c Qf D fm n xs A nx (L.set i (some (.ref x))) st sk mem ad aC cells slots) : am_K1 p l e R s m args below meth c Qf D fm n xs A pc L (.ref x :: st) sk mem ad aC cells slots := by
  obtain ⟨h1, h2, h3⟩ := am_row_dec hrow
  simp only [am_lk] at h3
  split at h3
  · simp only [decide_eq_true_eq] at h3
    obtain ⟨rfl, rfl⟩ := h3
    rw [show pc + 2 - pc = 2 by omega] at h1
    exact fun H locs ls hA hF hl hS => by
      rw [List.map_cons, am_re_ref hx]
      exact lv_astore hm.1 hm.2.1 h1 hl hi rfl (fun ls1 hl1 => kk H locs ls1 hA hF (am_lh_set hm.2.2.2.2.2.2.2.1 hL hi (by rw [am_re_ref hx]; exact hl1)) hS)
  · simp only [decide_eq_true_eq] at h3
    obtain ⟨h4, rfl⟩ := h3
    rw [show pc + 1 - pc = 1 by omega] at h1
    exact fun H locs ls hA hF hl hS => by
      rw [List.map_cons, am_re_ref hx]
      exact lv_astore_n hm.1 hm.2.1 h1 h4.symm hl hi rfl (fun ls1 hl1 => kk H locs ls1 hA hF (am_lh_set hm.2.2.2.2.2.2.2.1 hL hi (by rw [am_re_ref hx]; exact hl1)) hS)
  · cases h3
theorem am_x_iinc {i N : Nat} {k : Int} {x : Int32} (hm : am_Me p s m args meth c D fm A cc own init nL) (hrow : am_rowok own init ret cc (pc, .iinc i k, nx) (raw, pl) = true) (hi : L[i]? = some (some (.int x))) (hL : am_okL N L) (kk : am_K1 p l e R s m args below meth c Qf D fm n xs A nx (L.set i (some (.int (x + Int32.ofInt k)))) st sk mem ad aC cells slots) : am_K1 p l e R s m args below meth c Qf D fm n xs A pc L st sk mem ad aC cells slots := by
  obtain ⟨h1, h2, h3⟩ := am_row_dec hrow
  simp only [am_lk, decide_eq_true_eq] at h3
  obtain ⟨rfl, rfl⟩ := h3
  rw [show pc + 3 - pc = 3 by omega] at h1
  intro H locs ls hA hF hl hS
  have hlt := (List.getElem?_eq_some_iff.mp hi).1
  obtain ⟨j, hj⟩ := List.getElem?_of_mem (am_lv_mem (ad := ad) (fm := fm).mpr ⟨_, hi, rfl⟩)
  exact lv_iinc hm.1 hm.2.1 h1 hl hj rfl hlt rfl (fun ls1 hl1 => kk H locs ls1 hA hF (am_lh_set hm.2.2.2.2.2.2.2.1 hL hlt hl1) hS)
theorem am_x_goto {t : Int} (hm : am_Me p s m args meth c D fm A cc own init nL) (hrow : am_rowok own init ret cc (pc, .goto t, nx) (raw, pl) = true) (kk : am_K1 p l e R s m args below meth c Qf D fm n xs A t.toNat L st sk mem ad aC cells slots) : am_K1 p l e R s m args below meth c Qf D fm n xs A pc L st sk mem ad aC cells slots := by
  obtain ⟨h1, h2, h3⟩ := am_row_dec hrow
  simp only [am_lk] at h3
  split at h3
  · simp only [decide_eq_true_eq] at h3
    obtain ⟨h4, rfl⟩ := h3
    rw [show pc + 3 - pc = 3 by omega] at h1
    exact fun H locs ls hA hF hl hS => lv_goto hm.1 hm.2.1 h1 h4 (kk H locs ls hA hF hl hS)
  · cases h3
theorem am_x_if1 {k : ClassFile.Cond} {t : Int} {x y : Int32} (hm : am_Me p s m args meth c D fm A cc own init nL) (hrow : am_rowok own init ret cc (pc, .ifCond k t, nx) (raw, pl) = true) (kk : am_K1 p l e R s m args below meth c Qf D fm n xs A (if am_cd k x 0 = true then t.toNat else nx) L st sk mem ad aC cells slots) : am_K1 p l e R s m args below meth c Qf D fm n xs A pc L (.int x :: st) sk mem ad aC cells slots := by
  obtain ⟨h1, h2, h3⟩ := am_row_dec hrow
  simp only [am_lk] at h3
  split at h3
  · simp only [decide_eq_true_eq] at h3
    obtain ⟨rfl, h4, rfl⟩ := h3
    rw [show pc + 3 - pc = 3 by omega] at h1
    intro H locs ls hA hF hl hS
    have k2 := kk H locs ls hA hF hl hS
    cases k
    · exact lv_if_eq hm.1 hm.2.1 h1 h4 (fun q => by simpa [am_cd, q] using k2) (fun q => by simpa [am_cd, q] using k2)
    · exact lv_if_ne hm.1 hm.2.1 h1 h4 (fun q => by simpa [am_cd, q] using k2) (fun q => by simpa [am_cd, q] using k2)
    · exact lv_if_lt hm.1 hm.2.1 h1 h4 (fun q => by simpa [am_cd, q] using k2) (fun q => by simpa [am_cd, q] using k2)
    · exact lv_if_ge hm.1 hm.2.1 h1 h4 (fun q => by simpa [am_cd, q] using k2) (fun q => by simpa [am_cd, q] using k2)
    · exact lv_if_gt hm.1 hm.2.1 h1 h4 (fun q => by simpa [am_cd, q] using k2) (fun q => by simpa [am_cd, q] using k2)
    · exact lv_if_le hm.1 hm.2.1 h1 h4 (fun q => by simpa [am_cd, q] using k2) (fun q => by simpa [am_cd, q] using k2)
  · cases h3
theorem am_x_if2 {k : ClassFile.Cond} {t : Int} {x y : Int32} (hm : am_Me p s m args meth c D fm A cc own init nL) (hrow : am_rowok own init ret cc (pc, .if_icmp k t, nx) (raw, pl) = true) (kk : am_K1 p l e R s m args below meth c Qf D fm n xs A (if am_cd k x y = true then t.toNat else nx) L st sk mem ad aC cells slots) : am_K1 p l e R s m args below meth c Qf D fm n xs A pc L (.int y :: .int x :: st) sk mem ad aC cells slots := by
  obtain ⟨h1, h2, h3⟩ := am_row_dec hrow
  simp only [am_lk] at h3
  split at h3
  · simp only [decide_eq_true_eq] at h3
    obtain ⟨rfl, h4, rfl⟩ := h3
    rw [show pc + 3 - pc = 3 by omega] at h1
    intro H locs ls hA hF hl hS
    have k2 := kk H locs ls hA hF hl hS
    cases k
    · exact lv_icmp_eq hm.1 hm.2.1 h1 h4 (fun q => by simpa [am_cd, q] using k2) (fun q => by simpa [am_cd, q] using k2)
    · exact lv_icmp_ne hm.1 hm.2.1 h1 h4 (fun q => by simpa [am_cd, q] using k2) (fun q => by simpa [am_cd, q] using k2)
    · exact lv_icmp_lt hm.1 hm.2.1 h1 h4 (fun q => by simpa [am_cd, q] using k2) (fun q => by simpa [am_cd, q] using k2)
    · exact lv_icmp_ge hm.1 hm.2.1 h1 h4 (fun q => by simpa [am_cd, q] using k2) (fun q => by simpa [am_cd, q] using k2)
    · exact lv_icmp_gt hm.1 hm.2.1 h1 h4 (fun q => by simpa [am_cd, q] using k2) (fun q => by simpa [am_cd, q] using k2)
    · exact lv_icmp_le hm.1 hm.2.1 h1 h4 (fun q => by simpa [am_cd, q] using k2) (fun q => by simpa [am_cd, q] using k2)
  · cases h3
theorem am_x_tsw {d lo hi : Int} {ts : Array Int} {x : Int32} (hm : am_Me p s m args meth c D fm A cc own init nL) (hrow : am_rowok own init ret cc (pc, .tableswitch d lo hi ts, nx) (raw, pl) = true) (kk : ((x.toInt < lo ∨ hi < x.toInt) ∧ am_K1 p l e R s m args below meth c Qf D fm n xs A d.toNat L st sk mem ad aC cells slots) ∨ (¬ (x.toInt < lo ∨ hi < x.toInt) ∧ ∃ t, ts[(x.toInt - lo).toNat]? = some t ∧ am_K1 p l e R s m args below meth c Qf D fm n xs A t.toNat L st sk mem ad aC cells slots)) : am_K1 p l e R s m args below meth c Qf D fm n xs A pc L (.int x :: st) sk mem ad aC cells slots := by
  obtain ⟨h1, h2, h3⟩ := am_row_dec hrow
  simp only [am_lk] at h3
  split at h3
  · rename_i d' lo' hi' os
    simp only [Bool.and_eq_true, decide_eq_true_eq] at h3
    obtain ⟨⟨h4, rfl, rfl, h5⟩, h6⟩ := h3
    intro H locs ls hA hF hl hS
    rcases kk with ⟨q, kk⟩ | ⟨q, t, ht, kk⟩
    · exact lv_tableOut hm.1 hm.2.1 h1 q h4 (kk H locs ls hA hF hl hS)
    · have hlt : (x.toInt - lo).toNat < os.size := by
        have := (Array.getElem?_eq_some_iff.mp ht).1
        simp only [Array.length_toList] at h5
        omega
      have ho : os[(x.toInt - lo).toNat]? = some os[(x.toInt - lo).toNat] := Array.getElem?_eq_getElem hlt
      have hz : (t, os[(x.toInt - lo).toNat]) ∈ ts.toList.zip os.toList := by
        refine List.mem_of_getElem? (i := (x.toInt - lo).toNat) ?_
        rw [List.getElem?_zip_eq_some]
        exact ⟨by rw [Array.getElem?_toList]; exact ht, by rw [Array.getElem?_toList]; exact ho⟩
      have h7 := List.all_eq_true.mp h6 _ hz
      simp only [decide_eq_true_eq] at h7
      exact lv_tableIn hm.1 hm.2.1 h1 (fun z => q (Or.inl z)) (fun z => q (Or.inr z)) ho h7 (kk H locs ls hA hF hl hS)
  · cases h3
theorem am_x_lsw {d : Int} {ps : Array (Int × Int)} {x : Int32} (hm : am_Me p s m args meth c D fm A cc own init nL) (hrow : am_rowok own init ret cc (pc, .lookupswitch d ps, nx) (raw, pl) = true) (kk : am_K1 p l e R s m args below meth c Qf D fm n xs A (Op.lookupswitch.offset ps.toList d x.toInt).toNat L st sk mem ad aC cells slots) : am_K1 p l e R s m args below meth c Qf D fm n xs A pc L (.int x :: st) sk mem ad aC cells slots := by
  obtain ⟨h1, h2, h3⟩ := am_row_dec hrow
  simp only [am_lk] at h3
  split at h3
  · rename_i d' qs
    simp only [Bool.and_eq_true, decide_eq_true_eq] at h3
    obtain ⟨⟨⟨h4, h5⟩, h6⟩, h7⟩ := h3
    exact fun H locs ls hA hF hl hS => lv_lookup hm.1 hm.2.1 h1 h7 rfl (am_look (d := d) (pc' := 0) ps.toList qs.toList d' x.toInt h5 h6 h4) (kk H locs ls hA hF hl hS)
  · cases h3
end AMS
