/-! calls, and a method's contract out of its run on the small machine -/
def am_Pc (D : va_G) (fm : Value) (n : Nat) (xs : Nat → Int32) (ad : Nat → Nat) (aC : Nat → ClassId) (sk : am_K) (mem : am_M) (as : List Value) (sz : Nat) : Array Value → State → Prop := va_Pc (as.map (am_re ad fm)) (fun U => U.heap.size = sz ∧ am_At D fm n xs (fun _ => True) U ad aC sk mem U.heap ∧ va_K D vwCl [] U ∧ am_Fx fm n xs ad (va_A (am_w ad aC sk mem) sz) U U.heap)
def am_Qc (D : va_G) (fm : Value) (n : Nat) (xs : Nat → Int32) (ad : Nat → Nat) (aC : Nat → ClassId) (sk : am_K) (mem : am_M) (sz : Nat) (v : Option Value) (sk' : am_K) (mem' : am_M) : Array Value → State → Outcome → State → Prop := fun _ st oc t => (∃ (ad' : Nat → Nat) (aC' : Nat → ClassId), (∀ o, o < sk.length → ad' o = ad o ∧ aC' o = aC o) ∧ oc = .returned (v.map (am_re ad' fm)) ∧ am_At D fm n xs (va_A (am_w ad aC sk mem) sz) t ad' aC' sk' mem' t.heap) ∧ va_F (va_A (am_w ad aC sk mem) sz) st t
def am_IH (l : Launch) (d : Nat) : Prop := ∀ (k : Nat) (as : List Value) (sk : am_K) (mem : am_M) (v : Option Value) (sk' : am_K) (mem' : am_M), k < 254 → am_ex d k as sk mem (am_eq v sk' mem') → am_wf sk → 29 ≤ sk.length → am_okS sk.length as → am_AR[k]? = some as.length → ∀ (D : va_G) (fm : Value) (n : Nat) (xs : Nat → Int32) (ad : Nat → Nat) (aC : Nat → ClassId) (sz : Nat) (y : MethodName) (b : ByteArray) (r : Option FieldType) (nl : Nat), am_ys[k]? = some y → am_bs[k]? = some b → am_rs[k]? = some r → am_ML[k]? = some nl → fm.category = 1 → Met l y (Cond.code y b nl r :: am_tb) { frames := d, cells := sk'.length - sk.length, slots := am_sz sk' - am_sz sk, locals := 64 * d } (am_Pc D fm n xs ad aC sk mem as sz) (am_Qc D fm n xs ad aC sk mem sz v sk' mem') (sk'.length - sk.length) (am_sz sk' - am_sz sk) (va_A (am_w ad aC sk mem) sz)
theorem am_At.moved {D : va_G} {fm : Value} {n : Nat} {xs : Nat → Int32} {A : Nat → Prop} {s U : State} {ad : Nat → Nat} {aC : Nat → ClassId} {sk : am_K} {mem : am_M} {H : Heap} (hv : s.vm.Alike U.vm) (h : am_At D fm n xs A s ad aC sk mem H) : am_At D fm n xs A U ad aC sk mem H := ⟨h.1, h.2.1, fun o e h1 h2 h3 => ⟨arrOfT_moved hv (h.2.2.1 o e h1 h2 h3).1, (h.2.2.1 o e h1 h2 h3).2.moved hv⟩, h.2.2.2⟩
theorem am_At.weaken {D : va_G} {fm : Value} {n : Nat} {xs : Nat → Int32} {A B : Nat → Prop} {s : State} {ad : Nat → Nat} {aC : Nat → ClassId} {sk : am_K} {mem : am_M} {H : Heap} (hAB : ∀ q, A q → B q) (h : am_At D fm n xs A s ad aC sk mem H) : am_At D fm n xs B s ad aC sk mem H := ⟨h.1, h.2.1.weaken (fun _ _ _ z => hAB _ z), h.2.2⟩
theorem am_blind (D : va_G) (fm : Value) (n : Nat) (xs : Nat → Int32) (ad : Nat → Nat) (aC : Nat → ClassId) (sk : am_K) (mem : am_M) (as : List Value) (sz : Nat) : FrameBlind (am_Pc D fm n xs ad aC sk mem as sz) := by
  intro a U g mk h
  obtain ⟨h1, h2, h3, h4, h5⟩ := h
  exact ⟨h1, h2, h3.moved (U := U.calling g mk a) (Vm.Alike.refl U.vm), va_K.moved (u := U) (U := U.calling g mk a) (Vm.Alike.refl U.vm) h4, h5.same (s := U) (U := U.calling g mk a) rfl⟩
section AMC
variable {p : Program} {l : Launch} {e : Env} {R : Room} {s : State} {m : MethodId} {args : Array Value} {below : List Frame} {meth : Method} {c : Code} {Qf : State → Prop} {D : va_G} {fm : Value} {n : Nat} {xs : Nat → Int32} {A : Nat → Prop} {cc : ByteArray} {own : String} {init : Bool} {ret : Option FieldType} {nL : Nat}
variable {pc nx : Nat} {L : am_L} {st : List Value} {sk : am_K} {mem : am_M} {ad : Nat → Nat} {aC : Nat → ClassId} {cells slots : Nat} {raw norm : Instr} {pl : Nat}
theorem am_wA {H : Heap} {locs : List Loc} (hA : am_At D fm n xs A s ad aC sk mem H) (hS : va_S A s.heap H locs) (hn : ∀ q, s.heap.size ≤ q → A q) : ∀ q, va_A (am_w ad aC sk mem) H.size q → A q := by
  intro q h
  rcases h with ⟨k, x, h⟩ | h
  · exact hA.2.1.2 k (q, x) h
  · exact hn q (Nat.le_trans hS.1 h)
/-- behind a call -/
theorem am_after {H : Heap} {locs : List Loc} {ls : Array Slot} {st0 rest : List Value} {a : Array Value} {mc ms : Nat} {v : Option Value} {sk' : am_K} {mem' : am_M} (hr : va_Run p l e R s m args below meth c H locs cells slots mc ms (F0 m pc ls st0) rest (am_Qc D fm n xs ad aC sk mem H.size v sk' mem' a) (va_A (am_w ad aC sk mem) H.size)) (hA : am_At D fm n xs A s ad aC sk mem H) (hS : va_S A s.heap H locs) (hn : ∀ q, s.heap.size ≤ q → A q)
    (kk : ∀ (ad' : Nat → Nat) (aC' : Nat → ClassId) (H1 : Heap) (locs1 : List Loc), (∀ o, o < sk.length → ad' o = ad o ∧ aC' o = aC o) → am_At D fm n xs A s ad' aC' sk' mem' H1 → va_S A s.heap H1 locs1 → W p l e R s m args below meth c H1 locs1 (cells + mc) (slots + ms) Qf (F0 m (pc + 3) ls ((v.map (am_re ad' fm)).toList ++ rest))) : W p l e R s m args below meth c H locs cells slots Qf (F0 m pc ls st0) := by
  have hF := am_wA hA hS hn
  intro T hT X
  obtain ⟨v', st₀, t, T', L1, h0, X', hL, e1, e2, ⟨⟨ad', aC', he, hv, hAt⟩, hz, hk⟩, st⟩ := hr T hT X
  cases hv
  rw [h0] at hz hk
  have hal : t.vm.Alike s.vm := by rw [← e2]; exact X'.warmed.alike.symm
  have hAt2 : am_At D fm n xs A s ad' aC' sk' mem' T'.heap := by
    rw [e1]
    exact (hAt.moved hal).weaken hF
  obtain ⟨t2, a1, b1⟩ := kk ad' aC' T'.heap (locs ++ L1) he hAt2 ⟨Nat.le_trans hS.1 (by rw [e1]; exact hz), fun q h1 h2 => by rw [e1, hk q (Nat.lt_of_lt_of_le h1 hS.1) (fun z => h2 (hF q z))]; exact hS.2.1 q h1 h2, fun q hq => by
      rcases List.mem_append.mp hq with h | h
      · exact hS.2.2 q h
      · exact hF _ (hL q h)⟩ T' rfl X'
  exact ⟨t2, st t2 a1, b1⟩
theorem am_mok_of {k : Nat} {y : MethodName} {b : ByteArray} {r : Option FieldType} {nl a : Nat} (h : am_mok k = true) (hy : am_ys[k]? = some y) (hb : am_bs[k]? = some b) (hr : am_rs[k]? = some r) (hn : am_ML[k]? = some nl) (ha : am_AR[k]? = some a) : ∃ w z, am_ms[k]? = some w ∧ am_RC[k]? = some z ∧ am_wd w.1 (.code y b nl r) = true ∧ am_wd w.2.2.2 (.initialized y.cls) = true ∧ y.cls ≠ "java/lang/invoke/MethodHandle" ∧ y.cls ≠ "java/lang/invoke/VarHandle" ∧ plainFor y = true ∧ a ≤ nl ∧ nl ≤ 20 ∧ (parseMethodDescriptor y.desc).map (fun d => d.parameters.length) = some (if am_wd w.2.1 (.static y) = true then a else a - 1) ∧ (am_wd w.2.1 (.static y) = true ∨ (0 < a ∧ (match vwCl[z]? with
    | some q => decide (q.1 = y.cls)
    | none => decide (z = 13 ∧ y.cls = "java/lang/String")) = true)) := by
  unfold am_mok at h
  rw [hy, hb, hr, hn, ha] at h
  split at h
  · rename_i y' b' r' w n' a' z e1 e2 e3 e4 e5 e6 e7
    cases e1; cases e2; cases e3; cases e5; cases e6
    simp only [Bool.and_eq_true, Bool.or_eq_true, decide_eq_true_eq] at h
    obtain ⟨⟨⟨h1, h2⟩, h3, h4, h5, h6, h7, h8⟩, h9⟩ := h
    exact ⟨w, z, e4, e7, h1, h2, h3, h4, h5, h6, h7, h8, h9⟩
  · cases h
theorem am_ws_good {k : Nat} {y : MethodName} {b : ByteArray} {r : Option FieldType} {nl pl1 : Nat} (h : am_wd pl1 (.code y b nl r) = true) : GoodIn am_tb (Cond.code y b nl r :: am_tb) := by
  intro w hw
  rcases List.mem_cons.mp hw with rfl | hw
  · exact ⟨am_tb_at pl1 (am_wd_of h) rfl, Or.inl rfl⟩
  · exact ⟨hw, good_of_word (List.mem_filter.mp hw).2⟩
theorem am_not_both {y : MethodName} {p1 p2 : Nat} (h1 : am_wd p1 (.static y) = true) (h2 : am_wd p1 (.instanceMethod y) = true) : False := by
  have e := (am_wd_of h1).symm.trans (am_wd_of h2)
  cases e
theorem am_init_all : (List.range 254).all (fun k => match am_ys[k]?, am_rs[k]? with
    | some y, some r => !decide (y.name = "<init>") || decide (r = none)
    | _, _ => false) = true := by decide +kernel
theorem am_init_ret {k : Nat} {y : MethodName} {r : Option FieldType} (hk : k < 254) (hy : am_ys[k]? = some y) (hr : am_rs[k]? = some r) (h : y.name = "<init>") : r = none := by
  have := List.all_eq_true.mp am_init_all k (List.mem_range.mpr hk)
  rw [hy, hr] at this
  simp only [h, decide_true, Bool.not_true, Bool.false_or, decide_eq_true_eq] at this
  exact this
set_option maxHeartbeats 2000000 in
/-- a call, whichever of the three it is -/
theorem am_call {d k : Nat} {as r : List Value} {v : Option Value} {sk' : am_K} {mem' : am_M} (hm : am_Me p s m args meth c D fm A cc own init nL) (hrow : am_rowok own init ret cc (pc, norm, nx) (raw, pl) = true) (IH : am_IH l d) (hok : ∀ k, k < 254 → am_mok k = true) (hstp : am_stp norm nx L st sk mem = some (.inr (.inl (k, as, r)))) (hex : am_ex d k as sk mem (am_eq v sk' mem')) (hwf : am_wf sk) (h29 : 29 ≤ sk.length) (hst : am_okS sk.length st) (hL : am_okL sk.length L) (hLn : L.length = nL) (hRf : d + 1 ≤ R.frames) (hRl : 64 * (d + 1) ≤ R.locals) (hc : cells + (sk'.length - sk.length) ≤ R.cells) (hs : slots + (am_sz sk' - am_sz sk) ≤ R.slots) (hk : k < 254)
    (kk : ∀ (ad' : Nat → Nat) (aC' : Nat → ClassId), (∀ o, o < sk.length → ad' o = ad o ∧ aC' o = aC o) → am_K1 p l e R s m args below meth c Qf D fm n xs A nx L (v.toList ++ r) sk' mem' ad' aC' (cells + (sk'.length - sk.length)) (slots + (am_sz sk' - am_sz sk))) : am_K1 p l e R s m args below meth c Qf D fm n xs A pc L st sk mem ad aC cells slots := by
  obtain ⟨h1, h2, h3⟩ := am_row_dec hrow
  obtain ⟨a, ha, g2, g3, rfl, rfl, hn⟩ := am_stp_call hstp
  have hal : ((st.take a).reverse).length = a := by simp; omega
  obtain ⟨y, hy⟩ : ∃ y, am_ys[k]? = some y := ⟨_, List.getElem?_eq_getElem (show k < am_ys.length from Nat.lt_of_lt_of_le hk (by decide +kernel))⟩
  obtain ⟨b, hb⟩ : ∃ y, am_bs[k]? = some y := ⟨_, List.getElem?_eq_getElem (show k < am_bs.length from Nat.lt_of_lt_of_le hk (by decide +kernel))⟩
  obtain ⟨rt, hrt⟩ : ∃ y, am_rs[k]? = some y := ⟨_, List.getElem?_eq_getElem (show k < am_rs.length from Nat.lt_of_lt_of_le hk (by decide +kernel))⟩
  obtain ⟨nl, hnl⟩ : ∃ y, am_ML[k]? = some y := ⟨_, List.getElem?_eq_getElem (show k < am_ML.length from Nat.lt_of_lt_of_le hk (by decide +kernel))⟩
  obtain ⟨w, z, hw, hz, m1, m2, m3, m4, m5, m6, m7, m8, m9⟩ := am_mok_of (hok k hk) hy hb hrt hnl ha
  have hasok : am_okS sk.length (st.take a).reverse := am_rev_ok hst
  intro H locs ls hA hF hl hS
  have hMet := IH k _ sk mem v sk' mem' hk hex hwf h29 hasok (by rw [hal]; exact ha) D fm n xs ad aC H.size y b rt nl hy hb hrt hnl hm.2.2.2.2.2.2.2.1
  have hwA := am_wA hA hS hm.2.2.2.2.2.2.1
  have hpre : ∀ U : State, U.heap = H → s.WarmedH U.vm → am_Pc D fm n xs ad aC sk mem (st.take a).reverse H.size ((st.take a).reverse.map (am_re ad fm)).toArray U := by
    intro U hU hW
    refine ⟨rfl, by rw [hU], by rw [hU]; exact (hA.moved hW.alike).weaken (fun _ _ => trivial), va_K.moved hW.alike hm.2.2.2.2.2.1, ?_⟩
    rw [hU]
    exact am_Fx.go hW hS.2.1 hwA hF
  have hstk : st.map (am_re ad fm) = ((st.take a).reverse.map (am_re ad fm)).reverse ++ (st.drop a).map (am_re ad fm) := by
    rw [← List.map_reverse, List.reverse_reverse, ← List.map_append, List.take_append_drop]
  have hroom := lv_room (m := m) (pc := pc) (ls := ls) (rest := st.map (am_re ad fm)) (st := (st.drop a).map (am_re ad fm)) (by rw [am_sum hm.2.2.2.2.2.2.2.1 (am_drop_ok hst)]; simp; omega)
  have hfix : CallFix p m c cc nL s args am_tb own := ⟨hm.1, hm.2.1, hm.2.2.2.2.2.2.2.2, hm.2.2.1, hm.2.2.2.1⟩
  have hgood : GoodIn am_tb (Cond.code y b nl rt :: am_tb) := am_ws_good (k := k) m1
  have hR : d + 1 ≤ R.frames ∧ 8 + (nl + 11) + 64 * d ≤ R.locals := ⟨hRf, by omega⟩
  have hend : nx = pc + 3 → va_Run p l e R s m args below meth c H locs cells slots (sk'.length - sk.length) (am_sz sk' - am_sz sk) (F0 m pc ls (st.map (am_re ad fm))) ((st.drop a).map (am_re ad fm)) (am_Qc D fm n xs ad aC sk mem H.size v sk' mem' ((st.take a).reverse.map (am_re ad fm)).toArray) (va_A (am_w ad aC sk mem) H.size) → W p l e R s m args below meth c H locs cells slots Qf (F0 m pc ls (st.map (am_re ad fm))) := by
    intro e1 hrun
    subst e1
    refine am_after hrun hA hS hm.2.2.2.2.2.2.1 (fun ad' aC' H1 locs1 he hA1 hS1 => ?_)
    have hext : ∀ o, o < sk.length → ad' o = ad o := fun o ho => (he o ho).1
    have k3 := kk ad' aC' he H1 locs1 ls hA1 (hF.congr (fun o ho => hext o (by omega))) (by show lv_has ls L.length (am_lv ad' fm L); rw [am_lv_ext hext hL]; exact hl) hS1
    rw [List.map_append, am_st_ext hext (am_drop_ok hst)] at k3
    have e3 : (v.map (am_re ad' fm)).toList = v.toList.map (am_re ad' fm) := by cases v <;> rfl
    rw [e3]
    exact k3
  rcases hn with rfl | ⟨hn, q, w1, kd, N, rs, hq1, hq2, hq3⟩
  · -- static
    simp only [am_lk] at h3
    split at h3
    · rename_i idx
      simp only [Bool.and_eq_true, decide_eq_true_eq] at h3
      obtain ⟨rfl, h4⟩ := h3
      rw [show pc + 3 - pc = 3 by omega] at h1
      rw [hy, hw] at h4
      simp only [Bool.and_eq_true] at h4
      obtain ⟨h4, h5⟩ := h4
      rw [if_pos h5] at m8
      refine hend rfl ?_
      unfold am_mlk at h4
      split at h4
      · exact va_runS (As := (st.take a).reverse.map (am_re ad fm)) hfix hMet ⟨callB_of a hm.2.2.2.1 hgood rfl rfl rfl (am_hts hm m2 rfl) (am_hts hm h4 rfl) ⟨m3, m4, m8⟩ hR, am_hts hm h5 rfl⟩ ⟨am_blind _ _ _ _ _ _ _ _ _ _, hpre⟩ rfl (by rw [List.length_map, hal]) (by show ls.size = nL; rw [hl.1, hLn]) hstk hroom h1 ⟨hc, hs⟩
      · split at h4
        · rename_i nq hnq
          simp only [decide_eq_true_eq] at h4
          obtain ⟨rfl, rfl, rfl⟩ := h4
          exact va_runSN (As := (st.take a).reverse.map (am_re ad fm)) hfix hMet ⟨va_cnB a hm.2.2.2.1 hgood rfl rfl rfl (hF.2.2.2.2.2.2.1 nq (List.mem_of_getElem? hnq)) (am_hts hm m2 rfl) ⟨m3, m4, m8⟩ hR, am_hts hm h5 rfl, trivial⟩ ⟨am_blind _ _ _ _ _ _ _ _ _ _, hpre⟩ rfl (by rw [List.length_map, hal]) (by show ls.size = nL; rw [hl.1, hLn]) hstk hroom h1 ⟨hc, hs⟩
        · cases h4
    · cases h3
  · have hq28 : q ≠ 28 := by
      intro e1
      subst e1
      have e2 := (hA.2.2.2.1.2.1 28 (by omega)).symm.trans hq2
      rcases am_ro_kind (n := n) (by omega) e2 with ⟨e3, -⟩ | ⟨e3, -⟩ | ⟨i1, hi1, e3, -⟩ | ⟨i1, hi1, e3, -⟩ | ⟨-, e3⟩
      · cases e3
      · cases e3
      · omega
      · omega
      · cases e3
        exact absurd (List.mem_of_getElem? hq3) (by decide +kernel)
    have hmap : (st.take a).reverse.map (am_re ad fm) = .ref (ad q) :: w1.map (am_re ad fm) := by rw [hq1, List.map_cons, am_re_ref hq28]
    have hlen : (w1.map (am_re ad fm)).length = a - 1 := by
      have := congrArg List.length hq1
      rw [hal, List.length_cons] at this
      rw [List.length_map]
      omega
    have hpre2 : ∀ U : State, U.heap = H → s.WarmedH U.vm → am_Pc D fm n xs ad aC sk mem (st.take a).reverse H.size (Value.ref (ad q) :: w1.map (am_re ad fm)).toArray U := by
      intro U hU hW
      have := hpre U hU hW
      rw [hmap] at this
      exact this
    have hstk2 : st.map (am_re ad fm) = (w1.map (am_re ad fm)).reverse ++ .ref (ad q) :: (st.drop a).map (am_re ad fm) := by
      rw [hstk, hmap, List.reverse_cons, List.append_assoc]
      rfl
    rcases hn with rfl | rfl
    · -- a constructor
      simp only [am_lk] at h3
      split at h3
      · rename_i idx
        simp only [Bool.and_eq_true, decide_eq_true_eq] at h3
        obtain ⟨rfl, h4⟩ := h3
        rw [show pc + 3 - pc = 3 by omega] at h1
        rw [hy, hw] at h4
        simp only [Bool.and_eq_true, decide_eq_true_eq] at h4
        obtain ⟨⟨h4, h5⟩, h6⟩ := h4
        have hns : ¬ am_wd w.2.1 (.static y) = true := fun z => am_not_both (p2 := 0) z h5
        rw [if_neg hns] at m8
        have hrn : rt = none := am_init_ret hk hy hrt h6
        subst hrn
        refine hend rfl ?_
        unfold am_mlk at h4
        split at h4
        · exact va_runI (As := w1.map (am_re ad fm)) hfix hMet ⟨callB_of (a - 1) hm.2.2.2.1 hgood rfl rfl rfl (am_hts hm m2 rfl) (am_hts hm h4 rfl) ⟨m3, m4, m8⟩ hR, h6, am_hts hm h5 rfl⟩ ⟨am_blind _ _ _ _ _ _ _ _ _ _, hpre2⟩ rfl hlen (by show ls.size = nL; rw [hl.1, hLn]) hstk2 hroom h1 ⟨hc, hs⟩
        · split at h4
          · rename_i nq hnq
            simp only [decide_eq_true_eq] at h4
            obtain ⟨rfl, rfl, rfl⟩ := h4
            exact va_runIN (As := w1.map (am_re ad fm)) hfix hMet ⟨va_cnB (a - 1) hm.2.2.2.1 hgood rfl rfl rfl (hF.2.2.2.2.2.2.1 nq (List.mem_of_getElem? hnq)) (am_hts hm m2 rfl) ⟨m3, m4, m8⟩ hR, h6, am_hts hm h5 rfl⟩ ⟨am_blind _ _ _ _ _ _ _ _ _ _, hpre2⟩ rfl hlen (by show ls.size = nL; rw [hl.1, hLn]) hstk2 hroom h1 ⟨hc, hs⟩
          · cases h4
      · cases h3
    · -- an object's own
      simp only [am_lk] at h3
      split at h3
      · rename_i idx
        simp only [Bool.and_eq_true, decide_eq_true_eq] at h3
        obtain ⟨rfl, h4⟩ := h3
        rw [show pc + 3 - pc = 3 by omega] at h1
        rw [hy, hw] at h4
        simp only [Bool.and_eq_true] at h4
        obtain ⟨⟨h4, h5⟩, h6⟩ := h4
        have hns : ¬ am_wd w.2.1 (.static y) = true := fun z => am_not_both (p2 := 0) z h5
        rw [if_neg hns] at m8
        have m9 := (m9.resolve_left hns).2
        have hkd : kd = z := Option.some.inj (hq3.symm.trans hz)
        subst hkd
        have hrecv : ∃ cell : Cell, H[ad q]? = some cell ∧ cell.vm.isStatics = false ∧ s.vm.findClass y.cls = some cell.cls := by
          split at m9
          · rename_i wc hwc
            simp only [decide_eq_true_eq] at m9
            obtain ⟨c13, -⟩ := am_cls hwc
            have hq29 : 29 ≤ q := by
              rcases Nat.lt_or_ge q 29 with z1 | z1
              · have hr := hA.2.2.2.1
                rcases am_ro_kind (n := n) z1 ((hr.2.1 q z1).symm.trans hq2) with ⟨e1, e2⟩ | ⟨e1, e2⟩ | ⟨i1, hi1, e1, e2⟩ | ⟨i1, hi1, e1, e2⟩ | ⟨-, e2⟩ <;> (have e3 := congrArg Prod.fst e2; simp only at e3; omega)
              · exact z1
            have hw2 := am_w_at (ad := ad) (aC := aC) (mem := mem) hq2 hq29
            simp only [am_cell, if_pos c13] at hw2
            have := va_recv hm.2.2.2.2.2.1 hA.1 hwc hw2
            rw [m9] at this
            exact this
          · simp only [decide_eq_true_eq] at m9
            obtain ⟨rfl, e2⟩ := m9
            rw [e2]
            have hr := hA.2.2.2.1
            have hq29 : q < 29 := by
              rcases Nat.lt_or_ge q 29 with z1 | z1
              · exact z1
              · exact absurd rfl (hA.2.2.2.2.2 q _ z1 hq2).1
            rcases am_ro_kind (n := n) hq29 ((hr.2.1 q hq29).symm.trans hq2) with ⟨e1, e2⟩ | ⟨e1, e2⟩ | ⟨i1, hi1, e1, e2⟩ | ⟨i1, hi1, e1, e2⟩ | ⟨-, e2⟩
            · cases e2
            · cases e2
            · subst e1
              exact vk_recv (i := i1) (adK := fun i => ad (2 + i)) hF.2.2.1 hi1 hS
            · cases e2
            · cases e2
        refine hend rfl ?_
        unfold am_mlk at h4
        split at h4
        · exact va_runV (C := y.cls) (As := w1.map (am_re ad fm)) hfix hMet ⟨callB_of (a - 1) hm.2.2.2.1 hgood rfl rfl rfl (am_hts hm m2 rfl) (am_hts hm h4 rfl) ⟨m3, m4, m8⟩ hR, am_hts hm h5 rfl, am_hts hm h6 rfl⟩ ⟨am_blind _ _ _ _ _ _ _ _ _ _, hrecv, hpre2⟩ rfl hlen (by show ls.size = nL; rw [hl.1, hLn]) hstk2 hroom h1 ⟨hc, hs⟩
        · split at h4
          · rename_i nq hnq
            simp only [decide_eq_true_eq] at h4
            obtain ⟨rfl, rfl, rfl⟩ := h4
            exact va_runVN (C := nq.2.2.1.cls) (As := w1.map (am_re ad fm)) hfix hMet ⟨va_cnB (a - 1) hm.2.2.2.1 hgood rfl rfl rfl (hF.2.2.2.2.2.2.1 nq (List.mem_of_getElem? hnq)) (am_hts hm m2 rfl) ⟨m3, m4, m8⟩ hR, am_hts hm h5 rfl, am_hts hm h6 rfl⟩ ⟨am_blind _ _ _ _ _ _ _ _ _ _, hrecv, hpre2⟩ rfl hlen (by show ls.size = nL; rw [hl.1, hLn]) hstk2 hroom h1 ⟨hc, hs⟩
          · cases h4
      · cases h3
end AMC
