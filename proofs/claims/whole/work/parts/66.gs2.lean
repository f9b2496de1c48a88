/-! the class: guess -/
def awk (p : Nat → Bool) : Nat → Nat
  | 0 => 0
  | k + 1 => awk p k ||| (if p k = true then 2 ^ k else 0)
theorem awk_lt (p : Nat → Bool) : ∀ k, awk p k < 2 ^ k := by
  intro k
  induction k with
  | zero => exact Nat.zero_lt_one
  | succ k ih =>
    unfold awk
    have h2 : 2 ^ k < 2 ^ (k + 1) := by rw [Nat.pow_succ]; have := Nat.two_pow_pos k; omega
    apply Nat.or_lt_two_pow
    · omega
    · split
      · exact h2
      · exact Nat.two_pow_pos _
theorem awk_bit (p : Nat → Bool) (i : Nat) : ∀ k, (awk p k).testBit i = (decide (i < k) && p i) := by
  intro k
  induction k with
  | zero => show Nat.testBit 0 i = _; rw [Nat.zero_testBit]; simp
  | succ k ih =>
    unfold awk
    rw [Nat.testBit_or, ih]
    by_cases hp : p k = true
    · rw [if_pos hp, Nat.testBit_two_pow]
      by_cases e : k = i
      · subst e
        rw [hp]
        simp
      · rw [decide_eq_false e, Bool.or_false]
        congr 1
        rw [decide_eq_decide]
        omega
    · rw [if_neg hp, Nat.zero_testBit, Bool.or_false]
      by_cases e : i = k
      · subst e
        rw [Bool.eq_false_iff.mpr hp]
        simp
      · congr 1
        rw [decide_eq_decide]
        omega
theorem or_ok : ∀ i, i < 8 → ∀ a, a < 256 → (nI a ||| (nI 1 <<< (nI i &&& 31))) = nI (a ||| 2 ^ i) ∧ (nI a ||| (nI 0 <<< (nI i &&& 31))) = nI (a ||| 0) := by decide +kernel
theorem awk_st (p : Nat → Bool) {k : Nat} (hk : k < 8) : (nI (awk p k) ||| (ob (p k) <<< (nI k &&& 31))) = nI (awk p (k + 1)) := by
  have h1 := awk_lt p k
  have h2 : 2 ^ k ≤ 2 ^ 8 := Nat.pow_le_pow_right (by decide) (by omega)
  rw [show (2 : Nat) ^ 8 = 256 from rfl] at h2
  have h := or_ok k hk (awk p k) (by omega)
  show _ = nI (awk p k ||| (if p k = true then 2 ^ k else 0))
  cases hp : p k with
  | true => exact h.1
  | false => exact h.2
theorem sub_iff {s a : Nat} (hs : s < 256) (ha : a < 256) : (nI s &&& (nI a ^^^ (-1))) = 0 ↔ ∀ i, s.testBit i = true → a.testBit i = true := by
  rw [Int32.xor_neg_one]
  have e : (nI s &&& ~~~nI a) = 0 ↔ (BitVec.ofNat 32 s &&& ~~~BitVec.ofNat 32 a) = 0#32 := ⟨fun h => congrArg Int32.toBitVec h, fun h => Int32.toBitVec_inj.mp h⟩
  rw [e]
  constructor
  · intro h i hi
    by_cases h32 : i < 32
    · have z := congrArg (fun b => BitVec.getLsbD b i) h
      simp only [BitVec.getLsbD_and, BitVec.getLsbD_not, BitVec.getLsbD_ofNat, BitVec.getLsbD_zero, Nat.zero_testBit, Bool.and_false, h32, hi, decide_true, Bool.true_and] at z
      cases hb : a.testBit i with
      | true => rfl
      | false => rw [hb] at z; exact absurd z (by decide)
    · have : s.testBit i = false := Nat.testBit_lt_two_pow (Nat.lt_of_lt_of_le hs (show 256 ≤ 2 ^ i from Nat.le_trans (show 256 ≤ 2 ^ 8 by decide) (Nat.pow_le_pow_right (by decide) (by omega))))
      rw [this] at hi
      cases hi
  · intro h
    apply BitVec.eq_of_getLsbD_eq
    intro i hi
    simp only [BitVec.getLsbD_and, BitVec.getLsbD_not, BitVec.getLsbD_ofNat, BitVec.getLsbD_zero, Nat.zero_testBit, Bool.and_false, hi, decide_true, Bool.true_and]
    cases hb : s.testBit i with
    | false => rfl
    | true => rw [h i hb]; rfl
def S_ds (g : Nat → Int32) (s : Nat) : Nat → Nat → Int32 → Int32
  | 0, _, x => x
  | r + 1, k, x => if s.testBit k = true then S_ds g s r (k + 1) (x + g k) else S_ds g s r (k + 1) x
theorem S_st_t {p : Nat → Bool} {g : Nat → Int32} {v : Int32} {s : Nat} : ∀ r k x, (∀ i, k ≤ i → i < k + r → s.testBit i = true → p i = true) → S_st p g v s r k x = decide (S_ds g s r k x = v) := by
  intro r
  induction r with
  | zero => intro k x _; rfl
  | succ r ih =>
    intro k x h
    unfold S_st S_ds
    by_cases hb : s.testBit k = true
    · rw [if_pos hb, if_pos hb, if_pos (h k (Nat.le_refl _) (by omega) hb)]
      exact ih _ _ (fun i h1 h2 => h i (by omega) (by omega))
    · rw [if_neg hb, if_neg hb]
      exact ih _ _ (fun i h1 h2 => h i (by omega) (by omega))
theorem S_st_f {p : Nat → Bool} {g : Nat → Int32} {v : Int32} {s : Nat} : ∀ r k x, S_st p g v s r k x = true → ∀ i, k ≤ i → i < k + r → s.testBit i = true → p i = true := by
  intro r
  induction r with
  | zero => intro k x _ i h1 h2; omega
  | succ r ih =>
    intro k x h i h1 h2 hb
    unfold S_st at h
    by_cases e : i = k
    · subst e
      rw [if_pos hb] at h
      by_cases hp : p i = true
      · exact hp
      · rw [if_neg hp] at h; cases h
    · split at h
      · split at h
        · exact ih _ _ h i (by omega) (by omega) hb
        · cases h
      · exact ih _ _ h i (by omega) (by omega) hb
theorem S_ds_add (g : Nat → Int32) (s : Nat) : ∀ a b k x, S_ds g s (a + b) k x = S_ds g s b (k + a) (S_ds g s a k x) := by
  intro a
  induction a with
  | zero => intro b k x; rw [Nat.zero_add]; rfl
  | succ a ih =>
    intro b k x
    rw [Nat.succ_add]
    show (if s.testBit k = true then S_ds g s (a + b) (k + 1) (x + g k) else S_ds g s (a + b) (k + 1) x) = S_ds g s b (k + (a + 1)) (if s.testBit k = true then S_ds g s a (k + 1) (x + g k) else S_ds g s a (k + 1) x)
    rw [ih, ih, show k + 1 + a = k + (a + 1) by omega]
    split <;> rfl
theorem S_ds_no (g : Nat → Int32) (s : Nat) : ∀ r k x, (∀ i, k ≤ i → s.testBit i = false) → S_ds g s r k x = x := by
  intro r
  induction r with
  | zero => intro k x _; rfl
  | succ r ih =>
    intro k x h
    unfold S_ds
    rw [if_neg (by rw [h k (Nat.le_refl _)]; decide)]
    exact ih _ _ (fun i hi => h i (by omega))
theorem S_ds_cg {g g' : Nat → Int32} {s : Nat} : ∀ r k x, (∀ i, k ≤ i → i < k + r → s.testBit i = true → g i = g' i) → S_ds g s r k x = S_ds g' s r k x := by
  intro r
  induction r with
  | zero => intro k x _; rfl
  | succ r ih =>
    intro k x h
    unfold S_ds
    split
    · rename_i hb
      rw [h k (Nat.le_refl _) (by omega) hb]
      exact ih _ _ (fun i h1 h2 => h i (by omega) (by omega))
    · exact ih _ _ (fun i h1 h2 => h i (by omega) (by omega))
theorem S_gs_no2 (A : Nat → Bool) : ∀ r s o, (∀ j, s ≤ j → j < s + r → A j = false) → S_gs A r s o = o := by
  intro r
  induction r with
  | zero => intro s o _; rfl
  | succ r ih =>
    intro s o h
    unfold S_gs
    rw [ih _ _ (fun j h1 h2 => h j (by omega) (by omega))]
    exact S_up_n1 (h s (Nat.le_refl _) (by omega))
/-- what the class asks of a set is what the reference asks -/
theorem ask_y {R : am_R} (hw : wfR R) {v : Int32} {s : Nat} {g : Nat → Int32} (hg : ∀ k, k < nn (R 7) → g k = S_gl R k) (h : ∀ i, s.testBit i = true → (awk (S_pl R) (nn (R 7))).testBit i = true) : S_ask R v s = decide (S_ds g s 8 0 (nI 0) = v) := by
  have hb := wb_all hw
  have hs : ∀ i, s.testBit i = true → i < nn (R 7) ∧ S_pl R i = true := by
    intro i hi
    have z := h i hi
    rw [awk_bit] at z
    simpa using z
  unfold S_ask
  rw [S_st_t _ _ _ (fun i _ _ hi => (hs i hi).2)]
  have e : S_ds g s 8 0 (nI 0) = S_ds (S_gl R) s (nn (R 7)) 0 (nI 0) := by
    rw [show (8 : Nat) = nn (R 7) + (8 - nn (R 7)) by omega, S_ds_add, S_ds_no _ _ _ _ _ (fun i hi => by
      cases hz : s.testBit i with
      | false => rfl
      | true => have := (hs i hz).1; omega)]
    exact S_ds_cg _ _ _ (fun i _ hi hz => hg i (by omega))
  rw [e]
theorem ask_n {R : am_R} {v : Int32} {s : Nat} (hs : s < 2 ^ nn (R 7)) (h : ¬ ∀ i, s.testBit i = true → (awk (S_pl R) (nn (R 7))).testBit i = true) : S_ask R v s = false := by
  cases hz : S_ask R v s with
  | false => rfl
  | true =>
    exfalso
    apply h
    intro i hi
    have hlt : i < nn (R 7) := by
      apply Decidable.byContradiction
      intro hn
      have : s.testBit i = false := Nat.testBit_lt_two_pow (Nat.lt_of_lt_of_le hs (Nat.pow_le_pow_right (by decide) (by omega)))
      rw [this] at hi
      cases hi
    rw [awk_bit, S_st_f _ _ _ hz i (Nat.zero_le _) (by omega) hi]
    simp [hlt]
theorem sub_le {s a : Nat} (h : ∀ i, s.testBit i = true → a.testBit i = true) : s ≤ a := by
  have e : s &&& a = s := by
    apply Nat.eq_of_testBit_eq
    intro i
    rw [Nat.testBit_and]
    cases hz : s.testBit i with
    | false => rfl
    | true => rw [h i hz]; rfl
  rw [← e]
  exact Nat.and_le_right
theorem gs_eq {R : am_R} (hw : wfR R) (v : Int32) : S_gs (S_ask R v) (awk (S_pl R) (nn (R 7)) + 1) 0 none = S_gs (S_ask R v) (2 ^ nn (R 7)) 0 none := by
  have hl := awk_lt (S_pl R) (nn (R 7))
  obtain ⟨m, hm⟩ : ∃ m, 2 ^ nn (R 7) = (awk (S_pl R) (nn (R 7)) + 1) + m := ⟨_, (Nat.add_sub_of_le hl).symm⟩
  have h := S_gs_add (S_ask R v) (awk (S_pl R) (nn (R 7)) + 1) m 0 none
  rw [← hm] at h
  rw [h]
  exact (S_gs_no2 _ _ _ _ (fun j h1 h2 => ask_n (by rw [hm]; omega) (fun z => by have := sub_le z; omega))).symm
theorem l_X11_dos {d n : Nat} {mem : am_M} {Q : am_P} (s : Nat) (hs : s < 256) (r : Nat) : ∀ (k : Nat) (hk : k + r = 8) (x : Int32) (hQ : Q (some (.int (S_ds (mem 196) s r k x))) (am_SK n) mem), am_ev kc_X11_drawOfSet d 4 [some (.ref 29), some (.int (nI s)), some (.int x), some (.int (nI k))] [] (am_SK n) mem Q := by
  induction r with
  | zero =>
    intro k hk x hQ
    unfold S_ds at hQ
    refine ev_iload rfl rfl ?_
    refine ev_iconst (x := nI 8) rfl rfl ?_
    refine ev_icmp_geN (p2 := 33) rfl rfl (fun cnd7 => ?_) (fun cnd7 => ?_)
    · skip
      refine ev_iload rfl rfl ?_
      refine ev_iret rfl ?_
      exact hQ
    · omega
  | succ r ih =>
    intro k hk x hQ
    unfold S_ds at hQ
    refine ev_iload rfl rfl ?_
    refine ev_iconst (x := nI 8) rfl rfl ?_
    refine ev_icmp_geN (p2 := 33) rfl rfl (fun cnd7 => ?_) (fun cnd7 => ?_)
    · omega
    · skip
      refine ev_iload rfl rfl ?_
      refine ev_iload rfl rfl ?_
      refine ev_ishr rfl ?_
      refine ev_iconst (x := nI 1) rfl rfl ?_
      refine ev_iand rfl ?_
      rw [bit_ok s hs k (by omega)]
      refine ev_if_eqN (ha := by split <;> omega) (p2 := 27) rfl rfl (fun cnd15 => ?_) (fun cnd15 => ?_)
      · skip
        refine ev_iincN rfl rfl rfl ?_
        refine ev_goto (p2 := 4) rfl rfl ?_
        first
        | (have hbt : s.testBit k = true := by
             by_cases hz : s.testBit k = true
             · exact hz
             · rw [if_neg hz] at cnd15; exact absurd cnd15 (by decide)
           rw [if_pos hbt] at hQ
           exact ih (k + 1) (by omega) _ hQ)
        | (have hbt : s.testBit k = false := by
             by_cases hz : s.testBit k = true
             · rw [if_pos hz] at cnd15; exact absurd cnd15 (by decide)
             · exact Bool.eq_false_iff.mpr hz
           rw [if_neg (by rw [hbt]; decide)] at hQ
           exact ih (k + 1) (by omega) _ hQ)
      · skip
        refine ev_iload rfl rfl ?_
        refine ev_aload rfl rfl ?_
        refine ev_getR (c := 11) (j := 12) rfl ?_ (hq := k_29 n)
        refine ev_iload rfl rfl ?_
        refine ev_ialdN rfl rfl ?_ (hq := k_196 n)
        refine ev_iadd rfl ?_
        refine ev_istore rfl rfl (Nat.le_of_ble_eq_true rfl) ?_
        refine ev_iincN rfl rfl rfl ?_
        refine ev_goto (p2 := 4) rfl rfl ?_
        first
        | (have hbt : s.testBit k = true := by
             by_cases hz : s.testBit k = true
             · exact hz
             · rw [if_neg hz] at cnd15; exact absurd cnd15 (by decide)
           rw [if_pos hbt] at hQ
           exact ih (k + 1) (by omega) _ hQ)
        | (have hbt : s.testBit k = false := by
             by_cases hz : s.testBit k = true
             · rw [if_pos hz] at cnd15; exact absurd cnd15 (by decide)
             · exact Bool.eq_false_iff.mpr hz
           rw [if_neg (by rw [hbt]; decide)] at hQ
           exact ih (k + 1) (by omega) _ hQ)
theorem c_X11_drawOfSet {d n : Nat} {mem : am_M} {Q : am_P} (s : Nat) (hs : s < 256) (hQ : Q (some (.int (S_ds (mem 196) s 8 0 (nI 0)))) (am_SK n) mem) : am_ex (d + 1) 138 [.ref 29, .int (nI s)] (am_SK n) mem Q := by
  refine ex_in (c0 := kc_X11_drawOfSet) rfl (L := [some (.ref 29), some (.int (nI s)), none, none]) rfl ?_
  refine ev_iconst (x := nI 0) rfl rfl ?_
  refine ev_istore rfl rfl (Nat.le_of_ble_eq_true rfl) ?_
  refine ev_iconst (x := nI 0) rfl rfl ?_
  refine ev_istore rfl rfl (Nat.le_of_ble_eq_true rfl) ?_
  exact l_X11_dos s hs 8 0 rfl _ hQ
theorem l_X11_gs2 {d n : Nat} {mem : am_M} {Q : am_P} {R : am_R} (hw : wfR R) (v : Int32) (a : Nat) (ha : a = awk (S_pl R) (nn (R 7))) (hg : ∀ k, k < nn (R 7) → mem 196 k = S_gl R k) (r : Nat) : ∀ (s : Nat) (hk : s + r = a + 1) (o : Option Nat) (ho : S_obw o) (x5 : Option Value) (hQ : Q (some (.int (S_ob (S_gs (S_ask R v) r s o) S_NONE))) (am_SK n) mem), am_ev kc_X11_fewestThatDraw (d + 1) 79 [some (.ref 29), some (.int v), some (.int (nI a)), some (.int (S_ob o (-1000000005))), some (.int (nI s)), x5] [] (am_SK n) mem Q := by
  induction r with
  | zero =>
    intro s hk o ho x5 hQ
    have hb := wb_all hw
    have hl := awk_lt (S_pl R) (nn (R 7))
    have h256 : 2 ^ nn (R 7) ≤ 2 ^ 8 := Nat.pow_le_pow_right (by decide) (by omega)
    rw [show (2 : Nat) ^ 8 = 256 from rfl] at h256
    refine ev_iload rfl rfl ?_
    refine ev_iload rfl rfl ?_
    refine ev_icmp_gtN (p2 := 144) rfl rfl (fun cnd82 => ?_) (fun cnd82 => ?_)
    · skip
      refine ev_iload rfl rfl ?_
      refine ev_iret rfl ?_
      cases o with
      | none => exact hQ
      | some b => exact hQ
    · omega
  | succ r ih =>
    intro s hk o ho x5 hQ
    have hb := wb_all hw
    have hl := awk_lt (S_pl R) (nn (R 7))
    have h256 : 2 ^ nn (R 7) ≤ 2 ^ 8 := Nat.pow_le_pow_right (by decide) (by omega)
    rw [show (2 : Nat) ^ 8 = 256 from rfl] at h256
    have hp8 : ∀ s, pop8 s ≤ 8 := fun s => cnt_le _ 8
    cases o with
    | none =>
      refine ev_iload rfl rfl ?_
      refine ev_iload rfl rfl ?_
      refine ev_icmp_gtN (p2 := 144) rfl rfl (fun cnd82 => ?_) (fun cnd82 => ?_)
      · omega
      · skip
        refine ev_iload rfl rfl ?_
        refine ev_iload rfl rfl ?_
        refine ev_iconst (x := (-1)) rfl rfl ?_
        refine ev_ixor rfl ?_
        refine ev_iand rfl ?_
        refine ev_if_ne (p2 := 108) rfl rfl (fun cnd91 => ?_) (fun cnd91 => ?_)
        · skip
          refine ev_iconst (x := nI 0) rfl rfl ?_
          refine ev_istore rfl rfl (Nat.le_of_ble_eq_true rfl) ?_
          refine ev_iload rfl rfl ?_
          refine ev_if_eqN (p2 := 138) rfl rfl (fun _ => ?_) (fun zz => absurd zz (by decide))
          refine ev_iincN rfl rfl rfl ?_
          refine ev_goto (p2 := 79) rfl rfl ?_
          first
          | (rw [show S_gs (S_ask R v) (r + 1) s (none) = S_gs (S_ask R v) r (s + 1) (some s) from congrArg (S_gs (S_ask R v) r (s + 1)) (S_up_y (by rw [ask_y hw hg (by rw [← ha]; exact (sub_iff (by omega) (by omega)).mp cnd91)]; exact decide_eq_true cnd101) rfl)] at hQ
             exact ih (s + 1) (by omega) (some s) (fun b e => by cases e; omega) _ hQ)
          | (rw [show S_gs (S_ask R v) (r + 1) s (none) = S_gs (S_ask R v) r (s + 1) (none) from congrArg (S_gs (S_ask R v) r (s + 1)) (S_up_n1 (by first | exact ask_n (by omega) (fun z => cnd91 ((sub_iff (by omega) (by omega)).mpr (by rw [ha]; exact z))) | (rw [ask_y hw hg (by rw [← ha]; exact (sub_iff (by omega) (by omega)).mp cnd91)]; exact decide_eq_false cnd101)))] at hQ
             exact ih (s + 1) (by omega) (none) (ho) _ hQ)
        · skip
          refine ev_aload rfl rfl ?_
          refine ev_iload rfl rfl ?_
          refine ev_call rfl rfl ?_
          refine c_X11_drawOfSet s (by omega) ?_
          change am_ev _ _ _ _ [_] _ _ _
          refine ev_iload rfl rfl ?_
          refine ev_icmp_ne (p2 := 108) rfl rfl (fun cnd101 => ?_) (fun cnd101 => ?_)
          · skip
            refine ev_iconst (x := nI 0) rfl rfl ?_
            refine ev_istore rfl rfl (Nat.le_of_ble_eq_true rfl) ?_
            refine ev_iload rfl rfl ?_
            refine ev_if_eqN (p2 := 138) rfl rfl (fun _ => ?_) (fun zz => absurd zz (by decide))
            refine ev_iincN rfl rfl rfl ?_
            refine ev_goto (p2 := 79) rfl rfl ?_
            first
            | (rw [show S_gs (S_ask R v) (r + 1) s (none) = S_gs (S_ask R v) r (s + 1) (some s) from congrArg (S_gs (S_ask R v) r (s + 1)) (S_up_y (by rw [ask_y hw hg (by rw [← ha]; exact (sub_iff (by omega) (by omega)).mp cnd91)]; exact decide_eq_true cnd101) rfl)] at hQ
               exact ih (s + 1) (by omega) (some s) (fun b e => by cases e; omega) _ hQ)
            | (rw [show S_gs (S_ask R v) (r + 1) s (none) = S_gs (S_ask R v) r (s + 1) (none) from congrArg (S_gs (S_ask R v) r (s + 1)) (S_up_n1 (by first | exact ask_n (by omega) (fun z => cnd91 ((sub_iff (by omega) (by omega)).mpr (by rw [ha]; exact z))) | (rw [ask_y hw hg (by rw [← ha]; exact (sub_iff (by omega) (by omega)).mp cnd91)]; exact decide_eq_false cnd101)))] at hQ
               exact ih (s + 1) (by omega) (none) (ho) _ hQ)
          · skip
            refine ev_iconst (x := nI 1) rfl rfl ?_
            refine ev_goto (p2 := 109) rfl rfl ?_
            refine ev_istore rfl rfl (Nat.le_of_ble_eq_true rfl) ?_
            refine ev_iload rfl rfl ?_
            refine ev_if_eqN (p2 := 138) rfl rfl (fun zz => absurd zz (by decide)) (fun _ => ?_)
            refine ev_iload rfl rfl ?_
            refine ev_iconst (x := (-1000000005)) rfl rfl ?_
            refine ev_icmp_eq (p2 := 135) rfl rfl (fun cnd120 => ?_) (fun cnd120 => ?_)
            · skip
              refine ev_iload rfl rfl ?_
              refine ev_istore rfl rfl (Nat.le_of_ble_eq_true rfl) ?_
              refine ev_iincN rfl rfl rfl ?_
              refine ev_goto (p2 := 79) rfl rfl ?_
              first
              | (rw [show S_gs (S_ask R v) (r + 1) s (none) = S_gs (S_ask R v) r (s + 1) (some s) from congrArg (S_gs (S_ask R v) r (s + 1)) (S_up_y (by rw [ask_y hw hg (by rw [← ha]; exact (sub_iff (by omega) (by omega)).mp cnd91)]; exact decide_eq_true cnd101) rfl)] at hQ
                 exact ih (s + 1) (by omega) (some s) (fun b e => by cases e; omega) _ hQ)
              | (rw [show S_gs (S_ask R v) (r + 1) s (none) = S_gs (S_ask R v) r (s + 1) (none) from congrArg (S_gs (S_ask R v) r (s + 1)) (S_up_n1 (by first | exact ask_n (by omega) (fun z => cnd91 ((sub_iff (by omega) (by omega)).mpr (by rw [ha]; exact z))) | (rw [ask_y hw hg (by rw [← ha]; exact (sub_iff (by omega) (by omega)).mp cnd91)]; exact decide_eq_false cnd101)))] at hQ
                 exact ih (s + 1) (by omega) (none) (ho) _ hQ)
            · exact absurd rfl cnd120
    | some b =>
      have hb9 := ho b rfl
      have hpb := hp8 b
      have hps := hp8 s
      refine ev_iload rfl rfl ?_
      refine ev_iload rfl rfl ?_
      refine ev_icmp_gtN (p2 := 144) rfl rfl (fun cnd82 => ?_) (fun cnd82 => ?_)
      · omega
      · skip
        refine ev_iload rfl rfl ?_
        refine ev_iload rfl rfl ?_
        refine ev_iconst (x := (-1)) rfl rfl ?_
        refine ev_ixor rfl ?_
        refine ev_iand rfl ?_
        refine ev_if_ne (p2 := 108) rfl rfl (fun cnd91 => ?_) (fun cnd91 => ?_)
        · skip
          refine ev_iconst (x := nI 0) rfl rfl ?_
          refine ev_istore rfl rfl (Nat.le_of_ble_eq_true rfl) ?_
          refine ev_iload rfl rfl ?_
          refine ev_if_eqN (p2 := 138) rfl rfl (fun _ => ?_) (fun zz => absurd zz (by decide))
          refine ev_iincN rfl rfl rfl ?_
          refine ev_goto (p2 := 79) rfl rfl ?_
          first
          | (rw [show S_gs (S_ask R v) (r + 1) s (some b) = S_gs (S_ask R v) r (s + 1) (some s) from congrArg (S_gs (S_ask R v) r (s + 1)) (S_up_y (by rw [ask_y hw hg (by rw [← ha]; exact (sub_iff (by omega) (by omega)).mp cnd91)]; exact decide_eq_true cnd101) (decide_eq_true cnd132))] at hQ
             exact ih (s + 1) (by omega) (some s) (fun b e => by cases e; omega) _ hQ)
          | (rw [show S_gs (S_ask R v) (r + 1) s (some b) = S_gs (S_ask R v) r (s + 1) (some b) from congrArg (S_gs (S_ask R v) r (s + 1)) (S_up_n2 (decide_eq_false (Nat.not_lt.mpr cnd132)))] at hQ
             exact ih (s + 1) (by omega) (some b) (ho) _ hQ)
          | (rw [show S_gs (S_ask R v) (r + 1) s (some b) = S_gs (S_ask R v) r (s + 1) (some b) from congrArg (S_gs (S_ask R v) r (s + 1)) (S_up_n1 (by first | exact ask_n (by omega) (fun z => cnd91 ((sub_iff (by omega) (by omega)).mpr (by rw [ha]; exact z))) | (rw [ask_y hw hg (by rw [← ha]; exact (sub_iff (by omega) (by omega)).mp cnd91)]; exact decide_eq_false cnd101)))] at hQ
             exact ih (s + 1) (by omega) (some b) (ho) _ hQ)
        · skip
          refine ev_aload rfl rfl ?_
          refine ev_iload rfl rfl ?_
          refine ev_call rfl rfl ?_
          refine c_X11_drawOfSet s (by omega) ?_
          change am_ev _ _ _ _ [_] _ _ _
          refine ev_iload rfl rfl ?_
          refine ev_icmp_ne (p2 := 108) rfl rfl (fun cnd101 => ?_) (fun cnd101 => ?_)
          · skip
            refine ev_iconst (x := nI 0) rfl rfl ?_
            refine ev_istore rfl rfl (Nat.le_of_ble_eq_true rfl) ?_
            refine ev_iload rfl rfl ?_
            refine ev_if_eqN (p2 := 138) rfl rfl (fun _ => ?_) (fun zz => absurd zz (by decide))
            refine ev_iincN rfl rfl rfl ?_
            refine ev_goto (p2 := 79) rfl rfl ?_
            first
            | (rw [show S_gs (S_ask R v) (r + 1) s (some b) = S_gs (S_ask R v) r (s + 1) (some s) from congrArg (S_gs (S_ask R v) r (s + 1)) (S_up_y (by rw [ask_y hw hg (by rw [← ha]; exact (sub_iff (by omega) (by omega)).mp cnd91)]; exact decide_eq_true cnd101) (decide_eq_true cnd132))] at hQ
               exact ih (s + 1) (by omega) (some s) (fun b e => by cases e; omega) _ hQ)
            | (rw [show S_gs (S_ask R v) (r + 1) s (some b) = S_gs (S_ask R v) r (s + 1) (some b) from congrArg (S_gs (S_ask R v) r (s + 1)) (S_up_n2 (decide_eq_false (Nat.not_lt.mpr cnd132)))] at hQ
               exact ih (s + 1) (by omega) (some b) (ho) _ hQ)
            | (rw [show S_gs (S_ask R v) (r + 1) s (some b) = S_gs (S_ask R v) r (s + 1) (some b) from congrArg (S_gs (S_ask R v) r (s + 1)) (S_up_n1 (by first | exact ask_n (by omega) (fun z => cnd91 ((sub_iff (by omega) (by omega)).mpr (by rw [ha]; exact z))) | (rw [ask_y hw hg (by rw [← ha]; exact (sub_iff (by omega) (by omega)).mp cnd91)]; exact decide_eq_false cnd101)))] at hQ
               exact ih (s + 1) (by omega) (some b) (ho) _ hQ)
          · skip
            refine ev_iconst (x := nI 1) rfl rfl ?_
            refine ev_goto (p2 := 109) rfl rfl ?_
            refine ev_istore rfl rfl (Nat.le_of_ble_eq_true rfl) ?_
            refine ev_iload rfl rfl ?_
            refine ev_if_eqN (p2 := 138) rfl rfl (fun zz => absurd zz (by decide)) (fun _ => ?_)
            refine ev_iload rfl rfl ?_
            refine ev_iconst (x := (-1000000005)) rfl rfl ?_
            refine ev_icmp_eq (p2 := 135) rfl rfl (fun cnd120 => ?_) (fun cnd120 => ?_)
            · exact absurd cnd120 (nI_nN (by omega))
            · skip
              refine ev_iload rfl rfl ?_
              refine ev_call rfl rfl ?_
              refine c_bitCount _ ?_
              rw [bc_ok s (by omega)]
              change am_ev _ _ _ _ [_] _ _ _
              refine ev_iload rfl rfl ?_
              refine ev_call rfl rfl ?_
              refine c_bitCount _ ?_
              rw [show S_bc (S_ob (some b) (-1000000005)) = nI (pop8 b) from bc_ok b hb9]
              change am_ev _ _ _ _ [_, _] _ _ _
              refine ev_icmp_geN (p2 := 138) rfl rfl (fun cnd132 => ?_) (fun cnd132 => ?_)
              · skip
                refine ev_iincN rfl rfl rfl ?_
                refine ev_goto (p2 := 79) rfl rfl ?_
                first
                | (rw [show S_gs (S_ask R v) (r + 1) s (some b) = S_gs (S_ask R v) r (s + 1) (some s) from congrArg (S_gs (S_ask R v) r (s + 1)) (S_up_y (by rw [ask_y hw hg (by rw [← ha]; exact (sub_iff (by omega) (by omega)).mp cnd91)]; exact decide_eq_true cnd101) (decide_eq_true cnd132))] at hQ
                   exact ih (s + 1) (by omega) (some s) (fun b e => by cases e; omega) _ hQ)
                | (rw [show S_gs (S_ask R v) (r + 1) s (some b) = S_gs (S_ask R v) r (s + 1) (some b) from congrArg (S_gs (S_ask R v) r (s + 1)) (S_up_n2 (decide_eq_false (Nat.not_lt.mpr cnd132)))] at hQ
                   exact ih (s + 1) (by omega) (some b) (ho) _ hQ)
                | (rw [show S_gs (S_ask R v) (r + 1) s (some b) = S_gs (S_ask R v) r (s + 1) (some b) from congrArg (S_gs (S_ask R v) r (s + 1)) (S_up_n1 (by first | exact ask_n (by omega) (fun z => cnd91 ((sub_iff (by omega) (by omega)).mpr (by rw [ha]; exact z))) | (rw [ask_y hw hg (by rw [← ha]; exact (sub_iff (by omega) (by omega)).mp cnd91)]; exact decide_eq_false cnd101)))] at hQ
                   exact ih (s + 1) (by omega) (some b) (ho) _ hQ)
              · skip
                refine ev_iload rfl rfl ?_
                refine ev_istore rfl rfl (Nat.le_of_ble_eq_true rfl) ?_
                refine ev_iincN rfl rfl rfl ?_
                refine ev_goto (p2 := 79) rfl rfl ?_
                first
                | (rw [show S_gs (S_ask R v) (r + 1) s (some b) = S_gs (S_ask R v) r (s + 1) (some s) from congrArg (S_gs (S_ask R v) r (s + 1)) (S_up_y (by rw [ask_y hw hg (by rw [← ha]; exact (sub_iff (by omega) (by omega)).mp cnd91)]; exact decide_eq_true cnd101) (decide_eq_true cnd132))] at hQ
                   exact ih (s + 1) (by omega) (some s) (fun b e => by cases e; omega) _ hQ)
                | (rw [show S_gs (S_ask R v) (r + 1) s (some b) = S_gs (S_ask R v) r (s + 1) (some b) from congrArg (S_gs (S_ask R v) r (s + 1)) (S_up_n2 (decide_eq_false (Nat.not_lt.mpr cnd132)))] at hQ
                   exact ih (s + 1) (by omega) (some b) (ho) _ hQ)
                | (rw [show S_gs (S_ask R v) (r + 1) s (some b) = S_gs (S_ask R v) r (s + 1) (some b) from congrArg (S_gs (S_ask R v) r (s + 1)) (S_up_n1 (by first | exact ask_n (by omega) (fun z => cnd91 ((sub_iff (by omega) (by omega)).mpr (by rw [ha]; exact z))) | (rw [ask_y hw hg (by rw [← ha]; exact (sub_iff (by omega) (by omega)).mp cnd91)]; exact decide_eq_false cnd101)))] at hQ
                   exact ih (s + 1) (by omega) (some b) (ho) _ hQ)
theorem l_X11_gs1 {d n : Nat} {mem0 : am_M} {Q : am_P} {R : am_R} (v : Int32) (r : Nat) : ∀ (mem : am_M) (k : Nat) (hk : k + r = nn (R 7)) (hC : CplT 66 R mem) (hf : FrC mem0 mem) (hg : ∀ j, j < k → mem 196 j = S_gl R j) (x4 x5 : Option Value) (hQ : ∀ m2 : am_M, FrC mem0 m2 → CplT 66 R m2 → Q (some (.int (S_ob (S_gs (S_ask R v) (2 ^ nn (R 7)) 0 none) S_NONE))) (am_SK n) m2), am_ev kc_X11_fewestThatDraw (d + 5) 4 [some (.ref 29), some (.int v), some (.int (nI (awk (S_pl R) k))), some (.int (nI k)), x4, x5] [] (am_SK n) mem Q := by
  induction r with
  | zero =>
    intro mem k hk hC hf hg x4 x5 hQ
    have hb := wb_all (cp_w hC)
    have hkk : k = nn (R 7) := by omega
    subst hkk
    refine ev_iload rfl rfl ?_
    refine ev_aload rfl rfl ?_
    refine ev_getR (c := 11) (j := 2) rfl ?_ (hq := k_29 n)
    refine ev_getI (c := 9) (j := 11) rfl ?_ (hq := kt_0 n am_T66)
    rw [cp_t11 hC]
    refine ev_icmp_geN (p2 := 72) rfl rfl (fun cnd12 => ?_) (fun cnd12 => ?_)
    · skip
      refine ev_iconst (x := (-1000000005)) rfl rfl ?_
      refine ev_istore rfl rfl (Nat.le_of_ble_eq_true rfl) ?_
      refine ev_iconst (x := nI 0) rfl rfl ?_
      refine ev_istore rfl rfl (Nat.le_of_ble_eq_true rfl) ?_
      refine l_X11_gs2 (cp_w hC) v _ rfl hg (awk (S_pl R) (nn (R 7)) + 1) 0 (Nat.zero_add _) none (fun b e => by cases e) _ ?_
      rw [gs_eq (cp_w hC)]
      exact hQ mem hf hC
    · omega
  | succ r ih =>
    intro mem k hk hC hf hg x4 x5 hQ
    have hb := wb_all (cp_w hC)
    have hch2 := cp_chb hC (show k < nn (R 7) by omega)
    refine ev_iload rfl rfl ?_
    refine ev_aload rfl rfl ?_
    refine ev_getR (c := 11) (j := 2) rfl ?_ (hq := k_29 n)
    refine ev_getI (c := 9) (j := 11) rfl ?_ (hq := kt_0 n am_T66)
    rw [cp_t11 hC]
    refine ev_icmp_geN (p2 := 72) rfl rfl (fun cnd12 => ?_) (fun cnd12 => ?_)
    · omega
    · skip
      refine ev_aload rfl rfl ?_
      refine ev_getR (c := 11) (j := 2) rfl ?_ (hq := k_29 n)
      refine ev_getR (c := 9) (j := 5) rfl ?_ (hq := kt_0 n am_T66)
      refine ev_aload rfl rfl ?_
      refine ev_getR (c := 11) (j := 2) rfl ?_ (hq := k_29 n)
      refine ev_getR (c := 9) (j := 10) rfl ?_ (hq := kt_0 n am_T66)
      refine ev_iload rfl rfl ?_
      refine ev_ialdN rfl rfl ?_ (hq := kt_4 n am_T66)
      rw [cp_ch hC (k := k) (by omega)]
      refine ev_aldN rfl rfl ?_ (kr_lamp (by omega)) (hq := kt_3 n am_T66)
      refine ev_astore rfl rfl (Nat.le_of_ble_eq_true rfl) ?_
      refine ev_aload rfl rfl ?_
      refine ev_getR (c := 11) (j := 12) rfl ?_ (hq := k_29 n)
      refine ev_iload rfl rfl ?_
      refine ev_aload rfl rfl ?_
      refine ev_getR (c := 11) (j := 2) rfl ?_ (hq := k_29 n)
      refine ev_aload rfl rfl ?_
      refine ev_callV rfl rfl rfl rfl (Nat.le_of_ble_eq_true rfl) (Nat.le_of_ble_eq_true rfl) ?_ (hq := kt_0 n am_T66)
      refine c_X9_draws am_T66 hC _ hch2 (fun mem h2 => ?_)
      have hC := cp_fr2 hC am_T66 h2
      have hf := FrC_tr hf (FrC_sc h2)
      have hg : ∀ j, j < k → mem 196 j = S_gl R j := fun j hj => by rw [h2 196 (by decide) (by decide)]; exact hg j hj
      change am_ev _ _ _ _ [_, _, _] _ _ _
      refine ev_iastS rfl (fun mem3 hm => ?_) (hq := k_196 n)
      have hC3 : CplT 66 R mem3 := cp_fr hC (fun q hq => by rw [hm, am_up_ne (by omega)])
      refine ev_iload rfl rfl ?_
      refine ev_aload rfl rfl ?_
      refine ev_getR (c := 11) (j := 2) rfl ?_ (hq := k_29 n)
      refine ev_aload rfl rfl ?_
      refine ev_callV rfl rfl rfl rfl (Nat.le_of_ble_eq_true rfl) (Nat.le_of_ble_eq_true rfl) ?_ (hq := kt_0 n am_T66)
      refine c_X9_should am_T66 hC3 _ hch2 ?_
      change am_ev _ _ _ _ [_, _] _ _ _
      refine ev_call rfl rfl ?_
      refine c_X11_bit _ (ob01 _) ?_
      change am_ev _ _ _ _ [_, _] _ _ _
      refine ev_iload rfl rfl ?_
      refine ev_ishl rfl ?_
      refine ev_ior rfl ?_
      rw [show (nI (awk (S_pl R) k) ||| (ob (S_should R (nn (R (9 + k)))) <<< (nI k &&& 31))) = nI (awk (S_pl R) (k + 1)) from awk_st (S_pl R) (by omega)]
      refine ev_istore rfl rfl (Nat.le_of_ble_eq_true rfl) ?_
      refine ev_iincN rfl rfl rfl ?_
      refine ev_goto (p2 := 4) rfl rfl ?_
      refine ih mem3 (k + 1) (by omega) hC3 (FrC_tr hf (fun q hq => by rw [hm, am_up_ne (by omega)])) (fun j hj => ?_) _ _ hQ
      rw [hm]
      by_cases e : j = k
      · rw [e, am_up_eq]; rfl
      · rw [am_up_nk e]; exact hg j (by omega)
theorem c_X11_fewestThatDraw {d n : Nat} {mem : am_M} {Q : am_P} {R : am_R} (hC : CplT 66 R mem) (v : Int32) (hQ : ∀ m2 : am_M, FrC mem m2 → CplT 66 R m2 → Q (some (.int (S_ob (S_gs (S_ask R v) (2 ^ nn (R 7)) 0 none) S_NONE))) (am_SK n) m2) : am_ex (d + 6) 137 [.ref 29, .int v] (am_SK n) mem Q := by
  refine ex_in (c0 := kc_X11_fewestThatDraw) rfl (L := [some (.ref 29), some (.int v), none, none, none, none]) rfl ?_
  refine ev_iconst (x := nI 0) rfl rfl ?_
  refine ev_istore rfl rfl (Nat.le_of_ble_eq_true rfl) ?_
  refine ev_iconst (x := nI 0) rfl rfl ?_
  refine ev_istore rfl rfl (Nat.le_of_ble_eq_true rfl) ?_
  exact l_X11_gs1 v _ mem 0 (Nat.zero_add _) hC (FrC_refl _) (fun j hj => absurd hj (Nat.not_lt_zero j)) _ _ hQ
theorem c_X11_guess {d n : Nat} {mem : am_M} {Q : am_P} {R : am_R} (hC : CplT 66 R mem) (v : Int32) (hQ : ∀ m2 : am_M, FrC mem m2 → CplT 66 R m2 → Q (some (.int (X_guess R v))) (am_SK n) m2) : am_ex (d + 7) 108 [.ref 29, .int v] (am_SK n) mem Q := by
  have hb := wb_all (cp_w hC)
  unfold X_guess at hQ
  refine ex_in (c0 := kc_X11_guess) rfl (L := [some (.ref 29), some (.int v)]) rfl ?_
  refine ev_iload rfl rfl ?_
  refine ev_if_lt (p2 := 19) rfl rfl (fun cnd1 => ?_) (fun cnd1 => ?_)
  · skip
    refine ev_iconst (x := (-1000000001)) rfl rfl ?_
    refine ev_iret rfl ?_
    first
    | (rw [if_pos (show nI 0 ≤ v ∧ v ≤ nI 9999 from And.intro (le_nlt cnd1) (le_nlt cnd8))] at hQ; exact hQ m2 f1 hC2)
    | (rw [if_neg (show ¬ (nI 0 ≤ v ∧ v ≤ nI 9999) from fun z => nlt_le z.2 cnd8)] at hQ; exact hQ mem (FrC_refl _) hC)
    | (rw [if_neg (show ¬ (nI 0 ≤ v ∧ v ≤ nI 9999) from fun z => nlt_le z.1 cnd1)] at hQ; exact hQ mem (FrC_refl _) hC)
  · skip
    refine ev_iload rfl rfl ?_
    refine ev_iconst (x := nI 9999) rfl rfl ?_
    refine ev_icmp_gt (p2 := 19) rfl rfl (fun cnd8 => ?_) (fun cnd8 => ?_)
    · skip
      refine ev_iconst (x := (-1000000001)) rfl rfl ?_
      refine ev_iret rfl ?_
      first
      | (rw [if_pos (show nI 0 ≤ v ∧ v ≤ nI 9999 from And.intro (le_nlt cnd1) (le_nlt cnd8))] at hQ; exact hQ m2 f1 hC2)
      | (rw [if_neg (show ¬ (nI 0 ≤ v ∧ v ≤ nI 9999) from fun z => nlt_le z.2 cnd8)] at hQ; exact hQ mem (FrC_refl _) hC)
      | (rw [if_neg (show ¬ (nI 0 ≤ v ∧ v ≤ nI 9999) from fun z => nlt_le z.1 cnd1)] at hQ; exact hQ mem (FrC_refl _) hC)
    · skip
      refine ev_aload rfl rfl ?_
      refine ev_iload rfl rfl ?_
      refine ev_call rfl rfl ?_
      refine c_X11_fewestThatDraw hC v (fun m2 f1 hC2 => ?_)
      change am_ev _ _ _ _ [_] _ _ _
      refine ev_goto (p2 := 21) rfl rfl ?_
      refine ev_iret rfl ?_
      first
      | (rw [if_pos (show nI 0 ≤ v ∧ v ≤ nI 9999 from And.intro (le_nlt cnd1) (le_nlt cnd8))] at hQ; exact hQ m2 f1 hC2)
      | (rw [if_neg (show ¬ (nI 0 ≤ v ∧ v ≤ nI 9999) from fun z => nlt_le z.2 cnd8)] at hQ; exact hQ mem (FrC_refl _) hC)
      | (rw [if_neg (show ¬ (nI 0 ≤ v ∧ v ≤ nI 9999) from fun z => nlt_le z.1 cnd1)] at hQ; exact hQ mem (FrC_refl _) hC)
theorem pub_guess {xs : am_R} {d n : Nat} {mem : am_M} {Q : am_P} (hI : Inv xs mem) (v : Int32) (hQ : ∀ (rv : Int32) (m1 : am_M), RefA xs (d + 200) n 211 [.ref 221, .int v] rv m1 → Q (some (.int rv)) (am_SK n) m1) : am_ex (d + 200) 108 [.ref 29, .int v] (am_SK n) mem Q := by
  have hC := hI.2.1.1
  have hw := cp_w hC
  have hT := cp_ts hC
  exact pub_town (R' := mem 222) (v := X_guess (mem 222) v) hI hI.2.1.2 (Nat.le_refl _) (fun Q1 h => c_X11_guess hC v h) (fun m1 f1 Q1 h => c_X12_guess (f1 222 (by decide)) hw hT v h) (fun m1 h => hQ _ m1 h)
