/-! the law on the real machine, out of its run on the small one -/
/-! THE CLAIM OUT OF ONE WALK OF THE LAW'S BODY. Your part is whole_start (and what it stands on); all else here is the same for every law, but numbers. -/
def R_law : String := "TownLampsLaw"
def lw_P (b : Addr) (xs : List Int32) (args : Array Value) (s : State) : Prop := args = #[.ref b] ∧ s.IntsAt b xs ∧ xs.length ≤ 384 ∧ (Jvm.Cond.and given_1 narrow_1).before args s = true
def lw_Q (_ : Array Value) (s : State) (o : Outcome) (t : State) : Prop := o = .returned (some (.int 1)) ∧ Framed s o t [] 600000 7302250
def lw_Z (below : List Frame) (a : Array Value) (s : State) : State → Prop := fun t => ∃ o, t.status = .running ∧ Ended t below o ∧ lw_Q a s o t
/-- the law's own end, with 1 on the stack, nothing written that was there before, its room as the claim has it -/
theorem lw_ret {p : Program} {l : Launch} {e : Env} {s : State} {m : MethodId} {below : List Frame} {meth : Method} {c : Code} {b : Nat} (hx : p.tables.exec = Jvm.exec) (hb : c.code = code) (hr : meth.sig.returnType = ret) (hlocks : meth.locks = false) {pc : Nat} {H : Heap} {ls : Array Slot} (hdg : decode code pc = .ok (.ireturn, 1)) : W p l e room_1 s m #[Value.ref b] below meth c H [] 600000 7302250 (lw_Z below #[Value.ref b] s) (F0 m pc ls [.int 1]) := by
  intro T hT X
  obtain ⟨fs, hret, hrun, hended, hW, hframe⟩ := X.leave (v := some (.int 1)) (hlocks := hlocks) (fun h => by rw [hr] at h; cases h)
  have hmeth' : T.vm.method? m = some meth := X.method'
  refine ⟨T.setFrames fs, ?_, .returned (some (.int 1)), hrun, hended, rfl, ⟨_, rfl⟩, hW, hframe⟩
  jvm_step X.here [X.here.top, hx, hb, hdg, hmeth', hr, ret, narrow_b1]
  (try refine ⟨rfl, ?_⟩); (try refine ⟨rfl, ?_⟩)
  first | (intro acts; rw [hret _ acts rfl rfl rfl]) | rw [hret _ _ rfl rfl rfl]
  exact Steps.refl _
/-- what holds at the law's entry: the machine, the code, the tables' words (any of lw_tbl by 'hts w (by decide +kernel)'), the script of L ints xs at the cell b, what the Statement gives of the start (any of its parts by flat_of_before) -/
def lw_At (p : Program) (s : State) (m : MethodId) (meth : Method) (c : Code) (b L : Nat) (xs : Nat → Int32) : Prop :=
  p.tables.exec = Jvm.exec ∧ c.code = code ∧ meth.sig.returnType = ret ∧ c.maxLocals = 4 ∧ s.vm.findClass R_law = some m.cls ∧ (∀ w ∈ lw_tbl, w.before #[Value.ref b] s = true) ∧ va_X b L xs s s.heap ∧ b < s.heap.size ∧ meth.locks = false ∧ (Jvm.Cond.and given_1 narrow_1).before #[Value.ref b] s = true
def am_m0 (xs : Nat → Int32) : am_M := fun o k => if o = 0 then am_ka k else if o = 1 then xs k else if 15 ≤ o ∧ o < 28 then (am_byt.getD (o - 15) []).getD k 0 else 0
def am_tm (i : Nat) : Term := .string "TownLamps$Reader" (am_str.getD i (0, "")).1
abbrev am_nar : List Cond := flatC (Jvm.Cond.and given_1 narrow_1)
theorem am_n1 : ∀ i, i < 13 → Cond.exactly (am_tm i) "java/lang/String" ∈ am_nar := by decide +kernel
theorem am_n2 : ∀ i, i < 13 → Cond.eq (.field (am_tm i) "java/lang/String" "coder" "B") (.int 0) ∈ am_nar := by decide +kernel
theorem am_n3 : ∀ i, i < 13 → Cond.arrayOf (.field (am_tm i) "java/lang/String" "value" "[B") .byte ∈ am_nar := by decide +kernel
theorem am_n4 : ∀ i, i < 13 → Cond.eq (.length (.field (am_tm i) "java/lang/String" "value" "[B")) (.int (Int32.ofNat (am_len.getD i 0))) ∈ am_nar := by decide +kernel
theorem am_n5 : ∀ i, i < 13 → ∀ j, j < am_len.getD i 0 → Cond.eq (.elem (.field (am_tm i) "java/lang/String" "value" "[B") (.int (Int32.ofNat j))) (.int ((am_byt.getD i []).getD j 0)) ∈ am_nar := by decide +kernel
def am_pp : List (List Nat) := [[0, 111, 121, 130, 140, 151, 162, 174, 186, 199, 215, 231, 248], [0, 0, 122, 131, 141, 152, 163, 175, 187, 200, 216, 232, 249], [0, 0, 0, 132, 142, 153, 164, 176, 188, 201, 217, 233, 250], [0, 0, 0, 0, 143, 154, 165, 177, 189, 202, 218, 234, 251], [0, 0, 0, 0, 0, 155, 166, 178, 190, 203, 219, 235, 252], [0, 0, 0, 0, 0, 0, 167, 179, 191, 204, 220, 236, 253], [0, 0, 0, 0, 0, 0, 0, 180, 192, 205, 221, 237, 254], [0, 0, 0, 0, 0, 0, 0, 0, 193, 206, 222, 238, 255], [0, 0, 0, 0, 0, 0, 0, 0, 0, 207, 223, 239, 256], [0, 0, 0, 0, 0, 0, 0, 0, 0, 0, 224, 240, 257], [0, 0, 0, 0, 0, 0, 0, 0, 0, 0, 0, 241, 258], [0, 0, 0, 0, 0, 0, 0, 0, 0, 0, 0, 0, 259], [0, 0, 0, 0, 0, 0, 0, 0, 0, 0, 0, 0, 0]]
theorem am_n60 : (List.range 13).all (fun i => (List.range 13).all (fun j => !decide (i < j) || decide (am_nar[(am_pp.getD i []).getD j 0]? = some (Cond.not (Cond.eq (am_tm i) (am_tm j)))))) = true := by decide +kernel
theorem am_n61 {i j : Nat} (hi : i < 13) (hj : j < 13) (h : i < j) : Cond.not (Cond.eq (am_tm i) (am_tm j)) ∈ am_nar := by
  have h1 := List.all_eq_true.mp (List.all_eq_true.mp am_n60 i (List.mem_range.mpr hi)) j (List.mem_range.mpr hj)
  simp only [h, decide_true, Bool.not_true, Bool.false_or, decide_eq_true_eq] at h1
  exact List.mem_of_getElem? h1
theorem am_n6 : ∀ i, i < 13 → ∀ j, j < 13 → i ≠ j → Cond.not (Cond.eq (am_tm i) (am_tm j)) ∈ am_nar ∨ Cond.not (Cond.eq (am_tm j) (am_tm i)) ∈ am_nar := by
  intro i hi j hj h
  rcases Nat.lt_or_gt_of_ne h with h | h
  · exact Or.inl (am_n61 hi hj h)
  · exact Or.inr (am_n61 hj hi h)
theorem am_n7 : Cond.arrayOf (.static "TownLamps" "KIND_ABOVE" "[I") .int ∈ am_nar ∧ Cond.eq (.length (.static "TownLamps" "KIND_ABOVE" "[I")) (.int (Int32.ofNat 6)) ∈ am_nar ∧ Cond.eq (.static "java/lang/String" "COMPACT_STRINGS" "Z") (.int 1) ∈ am_nar ∧ Cond.isRef (.static "jdk/internal/util/Preconditions" "SIOOBE_FORMATTER" "Ljava/util/function/BiFunction;") ∈ am_nar := by decide +kernel
theorem am_n8 : ∀ j, j < 6 → Cond.eq (.elem (.static "TownLamps" "KIND_ABOVE" "[I") (.int (Int32.ofNat j))) (.int (am_ka j)) ∈ am_nar := by decide +kernel
theorem am_ro_wf (n : Nat) : am_wf (am_ro n) := by
  refine ⟨fun o e he z hz => ?_, fun o e ho he => ?_⟩
  · have ho : o < 29 := (List.getElem?_eq_some_iff.mp he).1
    show z < 29 ∧ z ≠ 28
    rcases am_ro_kind ho he with ⟨-, rfl⟩ | ⟨-, rfl⟩ | ⟨i, hi, -, rfl⟩ | ⟨i, hi, -, rfl⟩ | ⟨-, rfl⟩
    · simp at hz
    · simp at hz
    · simp only [List.mem_cons, Option.some.injEq, List.not_mem_nil, or_false, reduceCtorEq] at hz
      subst hz
      exact ⟨by omega, by omega⟩
    · simp at hz
    · simp at hz
  · have ho2 : o < 29 := (List.getElem?_eq_some_iff.mp he).1
    omega
theorem am_ro_RO (n : Nat) (xs : Nat → Int32) : am_RO n xs (am_ro n) (am_m0 xs) := by
  refine ⟨Nat.le_refl _, fun _ _ => rfl, fun j _ => rfl, fun j _ => rfl, fun i hi => ?_, fun i hi j hj => ?_⟩
  · simp only [am_m0, if_neg (show ¬ 2 + i = 0 by omega), if_neg (show ¬ 2 + i = 1 by omega), if_neg (show ¬ (15 ≤ 2 + i ∧ 2 + i < 28) by omega)]
  · simp only [am_m0, if_neg (show ¬ 15 + i = 0 by omega), if_neg (show ¬ 15 + i = 1 by omega), if_pos (show 15 ≤ 15 + i ∧ 15 + i < 28 by omega), Nat.add_sub_cancel_left]
set_option maxHeartbeats 4000000 in
theorem am_law_open {p : Program} {e : Env} {s : State} {m : MethodId} {below : List Frame} {meth : Method} {c : Code} (l : Launch) {b L : Nat} {xs : Nat → Int32} (d : Nat) (hd : d ≤ 1000) (hlaw : am_ex (d + 1) 254 [.ref 1] (am_ro L) (am_m0 xs) (fun v sk' _ => v = some (.int 1) ∧ sk'.length ≤ 1000 ∧ am_sz sk' ≤ 100000)) (C0 : lw_At p s m meth c b L xs) : W p l e room_1 s m #[Value.ref b] below meth c s.heap [] 0 0 (lw_Z below #[Value.ref b] s) (entryFrame m ([Value.ref b] : List Value).toArray 4) := by
  obtain ⟨hx, hb, hr, hml, hown, hts, hX, hbl, hlocks, hgv⟩ := id C0
  have hA : ∀ q : Nat, s.heap.size ≤ q → (fun q : Nat => s.heap.size ≤ q) q := fun _ h => h
  have hAn : ∀ a : Nat, a < s.heap.size → ¬ (fun q : Nat => s.heap.size ≤ q) a := fun _ h => Nat.not_le.mpr h
  have hs := flat_of_before _ hgv
  have hat : ∀ (i : Nat) (w : Cond), lw_tbl[i]? = some w → w.before #[Value.ref b] s = true := fun i w h => hts w (List.mem_of_getElem? h)
  obtain ⟨adK, adV, hSt, htm⟩ := vk_Sof (args := #[Value.ref b]) (s := s) (N := 13) (tm := am_tm) (len := am_len) (byt := am_byt) (A := fun q : Nat => s.heap.size ≤ q) (by decide) (fun i hi => hs _ (am_n1 i hi)) (fun i hi => hs _ (am_n2 i hi)) (fun i hi => hs _ (am_n3 i hi)) (fun i hi => hs _ (am_n4 i hi)) (fun i hi j hj => hs _ (am_n5 i hi j hj)) (fun i j hi hj hij => (am_n6 i hi j hj hij).imp (hs _) (hs _)) hAn
  obtain ⟨t0, ht0, hT0⟩ := va_Tof (args := #[Value.ref b]) (s := s) (tm := .static "TownLamps" "KIND_ABOVE" "[I") (ty := .int) (N := 6) (f := fun j => .int (am_ka j)) (A := fun q : Nat => s.heap.size ≤ q) (by decide) (hs _ am_n7.1) (va_eqt (hs _ am_n7.2.1)) (fun j hj => va_eqt (hs _ (am_n8 j hj))) hAn
  have hZ0 : va_Z "TownLamps" "KIND_ABOVE" "[I" (.ref t0) (fun q : Nat => s.heap.size ≤ q) s s.heap := va_Zref (hat 663 (.laysStatic "TownLamps" "KIND_ABOVE" "[I") (by decide +kernel)) (hat 62 (.initialized "TownLamps") (by decide +kernel)) ht0 hAn
  have hZ1 : va_Z "java/lang/String" "COMPACT_STRINGS" "Z" (.int 1) (fun q : Nat => s.heap.size ≤ q) s s.heap := va_Zof (hat 781 (.laysStatic "java/lang/String" "COMPACT_STRINGS" "Z") (by decide +kernel)) (hat 76 (.initialized "java/lang/String") (by decide +kernel)) (va_eqi (hs _ am_n7.2.2.1)) hAn
  have hZ2 : va_Zq "jdk/internal/util/Preconditions" "SIOOBE_FORMATTER" "Ljava/util/function/BiFunction;" (fun q : Nat => s.heap.size ≤ q) s s.heap := va_Zqof (hat 797 (.laysStatic "jdk/internal/util/Preconditions" "SIOOBE_FORMATTER" "Ljava/util/function/BiFunction;") (by decide +kernel)) (hat 78 (.initialized "jdk/internal/util/Preconditions") (by decide +kernel)) (hs _ am_n7.2.2.2) hAn
  obtain ⟨fm, hfm, hZ2⟩ : ∃ fm : Value, fm.category = 1 ∧ va_Z "jdk/internal/util/Preconditions" "SIOOBE_FORMATTER" "Ljava/util/function/BiFunction;" fm (fun q : Nat => s.heap.size ≤ q) s s.heap := by
    rcases hZ2 with h | ⟨t, h⟩
    · exact ⟨_, rfl, h⟩
    · exact ⟨_, rfl, h⟩
  obtain ⟨ad, had0, had1, had2, had3⟩ : ∃ ad : Nat → Nat, ad 0 = t0 ∧ ad 1 = b ∧ (∀ i, i < 13 → ad (2 + i) = adK i) ∧ ∀ i, i < 13 → ad (15 + i) = adV i := by
    refine ⟨fun o => if o = 0 then t0 else if o = 1 then b else if o < 15 then adK (o - 2) else adV (o - 15), rfl, rfl, fun i hi => ?_, fun i hi => ?_⟩
    · simp only [if_neg (show ¬ 2 + i = 0 by omega), if_neg (show ¬ 2 + i = 1 by omega), if_pos (show 2 + i < 15 by omega), Nat.add_sub_cancel_left]
    · simp only [if_neg (show ¬ 15 + i = 0 by omega), if_neg (show ¬ 15 + i = 1 by omega), if_neg (show ¬ 15 + i < 15 by omega), Nat.add_sub_cancel_left]
  obtain ⟨c0, iS0, hKn0⟩ := u_known (C := RX0) (T := TX0) (N := 3) (n := 3) (ws := lw_tbl) hts (fun w hw => (List.mem_filter.mp (am_inX0 w hw)).1) (hat 92 (.instantiable RX0 3) (by decide +kernel))
  obtain ⟨c1, iS1, hKn1⟩ := u_known (C := RX1) (T := TX1) (N := 6) (n := 6) (ws := lw_tbl) hts (fun w hw => (List.mem_filter.mp (am_inX1 w hw)).1) (hat 179 (.instantiable RX1 6) (by decide +kernel))
  obtain ⟨c2, iS2, hKn2⟩ := u_known (C := RX2) (T := TX2) (N := 9) (n := 9) (ws := lw_tbl) hts (fun w hw => (List.mem_filter.mp (am_inX2 w hw)).1) (hat 359 (.instantiable RX2 9) (by decide +kernel))
  obtain ⟨c3, iS3, hKn3⟩ := u_known (C := RX3) (T := TX3) (N := 4) (n := 4) (ws := lw_tbl) hts (fun w hw => (List.mem_filter.mp (am_inX3 w hw)).1) (hat 212 (.instantiable RX3 4) (by decide +kernel))
  obtain ⟨c4, iS4, hKn4⟩ := u_known (C := RX4) (T := TX4) (N := 7) (n := 7) (ws := lw_tbl) hts (fun w hw => (List.mem_filter.mp (am_inX4 w hw)).1) (hat 239 (.instantiable RX4 7) (by decide +kernel))
  obtain ⟨c5, iS5, hKn5⟩ := u_known (C := RX5) (T := TX5) (N := 7) (n := 7) (ws := lw_tbl) hts (fun w hw => (List.mem_filter.mp (am_inX5 w hw)).1) (hat 135 (.instantiable RX5 7) (by decide +kernel))
  obtain ⟨c6, iS6, hKn6⟩ := u_known (C := RX6) (T := TX6) (N := 3) (n := 3) (ws := lw_tbl) hts (fun w hw => (List.mem_filter.mp (am_inX6 w hw)).1) (hat 425 (.instantiable RX6 3) (by decide +kernel))
  obtain ⟨c7, iS7, hKn7⟩ := u_known (C := RX7) (T := TX7) (N := 4) (n := 4) (ws := lw_tbl) hts (fun w hw => (List.mem_filter.mp (am_inX7 w hw)).1) (hat 443 (.instantiable RX7 4) (by decide +kernel))
  obtain ⟨c8, iS8, hKn8⟩ := u_known (C := RX8) (T := TX8) (N := 4) (n := 4) (ws := lw_tbl) hts (fun w hw => (List.mem_filter.mp (am_inX8 w hw)).1) (hat 99 (.instantiable RX8 4) (by decide +kernel))
  obtain ⟨c9, iS9, hKn9⟩ := u_known (C := RX9) (T := TX9) (N := 16) (n := 16) (ws := lw_tbl) hts (fun w hw => (List.mem_filter.mp (am_inX9 w hw)).1) (hat 167 (.instantiable RX9 16) (by decide +kernel))
  obtain ⟨c10, iS10, hKn10⟩ := u_known (C := RX10) (T := TX10) (N := 6) (n := 6) (ws := lw_tbl) hts (fun w hw => (List.mem_filter.mp (am_inX10 w hw)).1) (hat 395 (.instantiable RX10 6) (by decide +kernel))
  obtain ⟨c11, iS11, hKn11⟩ := u_known (C := RX11) (T := TX11) (N := 14) (n := 14) (ws := lw_tbl) hts (fun w hw => (List.mem_filter.mp (am_inX11 w hw)).1) (hat 84 (.instantiable RX11 14) (by decide +kernel))
  obtain ⟨c12, iS12, hKn12⟩ := u_known (C := RX12) (T := TX12) (N := 44) (n := 44) (ws := lw_tbl) hts (fun w hw => (List.mem_filter.mp (am_inX12 w hw)).1) (hat 1186 (.instantiable RX12 44) (by decide +kernel))
  obtain ⟨dC, dI, hKc⟩ : ∃ (dC : Nat → ClassId) (dI : Nat → Nat → Nat), ∀ (k : Nat) (q : vw_C), vwCl[k]? = some q → u_Kn s q.1 q.2.1 q.2.2 (dC k) (dI k) := by
    refine ⟨fun k => match k with
      | 0 => c0
      | 1 => c1
      | 2 => c2
      | 3 => c3
      | 4 => c4
      | 5 => c5
      | 6 => c6
      | 7 => c7
      | 8 => c8
      | 9 => c9
      | 10 => c10
      | 11 => c11
      | _ => c12, fun k => match k with
      | 0 => iS0
      | 1 => iS1
      | 2 => iS2
      | 3 => iS3
      | 4 => iS4
      | 5 => iS5
      | 6 => iS6
      | 7 => iS7
      | 8 => iS8
      | 9 => iS9
      | 10 => iS10
      | 11 => iS11
      | _ => iS12, ?_⟩
    intro k q hq
    match k, hq with
    | 0, hq => cases hq; exact hKn0
    | 1, hq => cases hq; exact hKn1
    | 2, hq => cases hq; exact hKn2
    | 3, hq => cases hq; exact hKn3
    | 4, hq => cases hq; exact hKn4
    | 5, hq => cases hq; exact hKn5
    | 6, hq => cases hq; exact hKn6
    | 7, hq => cases hq; exact hKn7
    | 8, hq => cases hq; exact hKn8
    | 9, hq => cases hq; exact hKn9
    | 10, hq => cases hq; exact hKn10
    | 11, hq => cases hq; exact hKn11
    | 12, hq => cases hq; exact hKn12
    | k + 13, hq => simp [vwCl] at hq
  have hK : va_K (dC, dI) vwCl [] s := ⟨hKc, fun k q h => by simp at h⟩
  have hFx : am_Fx fm L xs ad (fun q : Nat => s.heap.size ≤ q) s s.heap := by
    refine ⟨by rw [had0]; exact ⟨hZ0, hT0⟩, by rw [had1]; exact ⟨hX, hAn b hbl⟩, ⟨fun i hi => ?_, fun i j hi hj e1 => ?_⟩, fun i q hq => ?_, hZ1, hZ2, fun q hq => ?_, fun k hk q hq => ?_⟩
    · show va_O "java/lang/String" (ad (2 + i)) _ s s.heap ∧ va_OF "java/lang/String" "coder" "B" (.int 0) (ad (2 + i)) _ s s.heap ∧ va_OF "java/lang/String" "value" "[B" (.ref (ad (15 + i))) (ad (2 + i)) _ s s.heap ∧ va_T .byte (ad (15 + i)) (am_len.getD i 0) (fun j => .int ((am_byt.getD i []).getD j 0)) _ s s.heap
      rw [had2 i hi, had3 i hi]
      exact hSt.1 i hi
    · have e2 : ad (2 + i) = ad (2 + j) := e1
      rw [had2 i hi, had2 j hj] at e2
      exact hSt.2 i j hi hj e2
    · have hi : i < 13 := (List.getElem?_eq_some_iff.mp hq).1
      rw [had2 i hi]
      have h2 := htm i hi
      match i, hq, h2 with
      | 0, hq, h2 => cases hq; exact vk_R.of (hat 764 (.stringRef "TownLamps$Reader" 68 "dim") (by decide +kernel)) h2
      | 1, hq, h2 => cases hq; exact vk_R.of (hat 765 (.stringRef "TownLamps$Reader" 70 "life") (by decide +kernel)) h2
      | 2, hq, h2 => cases hq; exact vk_R.of (hat 766 (.stringRef "TownLamps$Reader" 72 "price") (by decide +kernel)) h2
      | 3, hq, h2 => cases hq; exact vk_R.of (hat 767 (.stringRef "TownLamps$Reader" 74 "law") (by decide +kernel)) h2
      | 4, hq, h2 => cases hq; exact vk_R.of (hat 847 (.stringRef "TownLamps$Reader" 76 "hdc") (by decide +kernel)) h2
      | 5, hq, h2 => cases hq; exact vk_R.of (hat 848 (.stringRef "TownLamps$Reader" 78 "kwc") (by decide +kernel)) h2
      | 6, hq, h2 => cases hq; exact vk_R.of (hat 849 (.stringRef "TownLamps$Reader" 80 "hd") (by decide +kernel)) h2
      | 7, hq, h2 => cases hq; exact vk_R.of (hat 850 (.stringRef "TownLamps$Reader" 82 "hc") (by decide +kernel)) h2
      | 8, hq, h2 => cases hq; exact vk_R.of (hat 918 (.stringRef "TownLamps$Reader" 94 "|") (by decide +kernel)) h2
      | 9, hq, h2 => cases hq; exact vk_R.of (hat 919 (.stringRef "TownLamps$Reader" 96 "&") (by decide +kernel)) h2
      | 10, hq, h2 => cases hq; exact vk_R.of (hat 920 (.stringRef "TownLamps$Reader" 98 "<=>") (by decide +kernel)) h2
      | 11, hq, h2 => cases hq; exact vk_R.of (hat 921 (.stringRef "TownLamps$Reader" 100 "+-") (by decide +kernel)) h2
      | 12, hq, h2 => cases hq; exact vk_R.of (hat 922 (.stringRef "TownLamps$Reader" 102 "*/") (by decide +kernel)) h2
      | i + 13, hq, _ => exact absurd hi (by omega)
    · obtain ⟨i, hi⟩ := List.getElem?_of_mem hq
      have hil : i < 14 := (List.getElem?_eq_some_iff.mp hi).1
      match i, hi with
      | 0, hi => cases hi; exact va_Nw.of rfl (hat 100 (.methodLinkNest "TownLamps$Book" 24 ⟨"TownLamps$Text", "<init>", "()V"⟩ "TownLamps") (by decide +kernel))
      | 1, hi => cases hi; exact va_Nw.of rfl (hat 136 (.methodLinkNest "TownLamps" 18 ⟨"TownLamps$Reader", "<init>", "()V"⟩ "TownLamps") (by decide +kernel))
      | 2, hi => cases hi; exact va_Nw.of rfl (hat 141 (.methodLinkNest "TownLamps$Reader" 21 ⟨"TownLamps$Text", "<init>", "()V"⟩ "TownLamps") (by decide +kernel))
      | 3, hi => cases hi; exact va_Nw.of rfl (hat 180 (.methodLinkNest "TownLamps$Town" 72 ⟨"TownLamps$Cabinet", "<init>", "()V"⟩ "TownLamps") (by decide +kernel))
      | 4, hi => cases hi; exact va_Nw.of rfl (hat 213 (.methodLinkNest "TownLamps$Town" 73 ⟨"TownLamps$Joint", "<init>", "()V"⟩ "TownLamps") (by decide +kernel))
      | 5, hi => cases hi; exact va_Nw.of rfl (hat 240 (.methodLinkNest "TownLamps$Town" 74 ⟨"TownLamps$Lamp", "<init>", "()V"⟩ "TownLamps") (by decide +kernel))
      | 6, hi => cases hi; exact va_Nw.of rfl (hat 360 (.methodLinkNest "TownLamps" 44 ⟨"TownLamps$Faults", "<init>", "()V"⟩ "TownLamps") (by decide +kernel))
      | 7, hi => cases hi; exact va_Nw.of rfl (hat 396 (.methodLinkNest "TownLamps" 51 ⟨"TownLamps$Walk", "<init>", "()V"⟩ "TownLamps") (by decide +kernel))
      | 8, hi => cases hi; exact va_Nw.of rfl (hat 426 (.methodLinkNest "TownLamps" 82 ⟨"TownLamps$Sheet", "<init>", "()V"⟩ "TownLamps") (by decide +kernel))
      | 9, hi => cases hi; exact va_Nw.of rfl (hat 444 (.methodLinkNest "TownLamps" 83 ⟨"TownLamps$Slot", "<init>", "()V"⟩ "TownLamps") (by decide +kernel))
      | 10, hi => cases hi; exact va_Nw.of rfl (hat 449 (.methodLinkNest "TownLamps$Slot" 23 ⟨"TownLamps$Sheet", "<init>", "()V"⟩ "TownLamps") (by decide +kernel))
      | 11, hi => cases hi; exact va_Nw.of rfl (hat 704 (.methodLinkNest "TownLamps$Town" 184 ⟨"TownLamps", "wearOf", "(I)I"⟩ "TownLamps") (by decide +kernel))
      | 12, hi => cases hi; exact va_Nw.of rfl (hat 956 (.methodLinkNest "TownLamps$Faults" 54 ⟨"TownLamps", "bit", "(Z)I"⟩ "TownLamps") (by decide +kernel))
      | 13, hi => cases hi; exact va_Nw.of rfl (hat 1164 (.methodLinkNest "TownLamps$Town" 169 ⟨"TownLamps", "bit", "(Z)I"⟩ "TownLamps") (by decide +kernel))
      | i + 14, hi => exact absurd hil (by omega)
    · simp only [List.mem_cons, List.not_mem_nil, or_false] at hk
      rcases hk with rfl | rfl | rfl | rfl | rfl | rfl
      · cases hq; exact va_AO.of (hat 173 (.arrayOver (.object "TownLamps$Cabinet")) (by decide +kernel))
      · cases hq; exact va_AO.of (hat 175 (.arrayOver (.object "TownLamps$Joint")) (by decide +kernel))
      · cases hq; exact va_AO.of (hat 177 (.arrayOver (.object "TownLamps$Lamp")) (by decide +kernel))
      · cases hq; exact va_AO.of (hat 422 (.arrayOver (.object "TownLamps$Sheet")) (by decide +kernel))
      · cases hq; exact va_AO.of (hat 424 (.arrayOver (.object "TownLamps$Slot")) (by decide +kernel))
      · cases hq; exact va_AO.of (hat 98 (.arrayOver (.object "TownLamps$Text")) (by decide +kernel))
  obtain ⟨v, sk', mem', ⟨rfl, hq1, hq2⟩, hex⟩ := am_ex_det _ _ _ _ _ _ hlaw
  obtain ⟨nn, hrun⟩ := hex
  have hw0 : am_w ad (fun _ => 0) (am_ro L) (am_m0 xs) = [] := rfl
  have hAt : am_At (dC, dI) fm L xs (fun q : Nat => s.heap.size ≤ q) s ad (fun _ => 0) (am_ro L) (am_m0 xs) s.heap := by
    refine ⟨by rw [hw0]; exact fun k q h => by simp at h, by rw [hw0]; exact ⟨fun i j p q h => by simp at h, fun k q h => by simp at h⟩, fun o x ho hx => ?_, am_ro_RO L xs, am_ro_wf L⟩
    have ho2 : o < 29 := (List.getElem?_eq_some_iff.mp hx).1
    omega
  have hok : am_okS (am_ro L).length [Value.ref 1] := fun v hv => by
    simp only [List.mem_singleton] at hv
    subst hv
    show 1 < 29
    decide
  have hm : am_Me p s m #[Value.ref b] meth c (dC, dI) fm (fun q : Nat => s.heap.size ≤ q) code RL false 4 := ⟨hx, hb, hown, fun w hw => hts w (List.mem_filter.mp hw).1, (fun h => by cases h), hK, hA, hfm, hml⟩
  have hl := lv_entry ([.ref b]) (n := 4) (Nat.le_of_ble_eq_true rfl)
  rw [lg_entry_eq]
  generalize (lg_sl ([.ref b]) ++ List.replicate (4 - (lg_sl ([.ref b])).length) Slot.unset).toArray = ls at hl ⊢
  have hl2 : am_lh ad fm (am_L0 254 [.ref 1]) ls := am_entry (nl := 4) hfm hok rfl (by decide) (by
    show lv_has ls 4 (lv_args 0 [am_re ad fm (.ref 1)])
    rw [am_re_ref (by decide), had1]
    exact hl)
  have hc1 : room_1.cells = 600000 := rfl
  have hc2 : room_1.slots = 7302250 := rfl
  have hc3 : room_1.frames = 2048 := rfl
  have hc4 : room_1.locals = 84000 := rfl
  have key := am_sim_run (p := p) (l := l) (e := e) (R := room_1) (below := below) (n := L) (xs := xs) (ret := some .boolean) (Qf := lw_Z below #[Value.ref b] s) (sk0 := am_ro L) (sk1 := sk') (mem1 := mem') (v1 := some (.int 1)) (ad0 := ad) (aC0 := fun _ => 0) hm am_lrows (by decide +kernel) (am_met l d) (by omega) (by omega) (by omega) (by omega) ?_ nn 0 (am_L0 254 [.ref 1]) [] (am_ro L) (am_m0 xs) ad (fun _ => 0) hrun (am_ro_wf L) (Nat.le_refl _) (fun _ hv => by cases hv) (am_L0_ok hok) rfl (Nat.le_refl _) (Nat.le_refl _) (fun _ _ => ⟨rfl, rfl⟩)
  · have key2 := key s.heap [] ls hAt hFx hl2 va_S.rf
    rw [Nat.sub_self, Nat.sub_self] at key2
    exact key2
  · intro pc raw ls1 H locs ad' aC' hdc hir hA1 hS1 he
    rcases hir with ⟨rfl, x, ty, hv, hrt, hnar⟩ | ⟨rfl, q, C, hv, -, -⟩ | ⟨rfl, hv, -⟩
    · refine va_forget (fun q hq => hS1.2.2 q hq) ?_
      refine W.widen (k := 600000) (n := 7302250) (by omega) (by omega) ?_
      exact lw_ret hx hb hr hlocks hdc
    · cases hv
    · cases hv
