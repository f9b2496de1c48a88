/-! both sides: guess -/
def pop8 (s : Nat) : Nat := cnt (fun k => s.testBit k) 8
theorem bit_ok : ∀ s, s < 256 → ∀ k, k < 8 → (nI s >>> (nI k &&& 31)) &&& nI 1 = nI (if s.testBit k = true then 1 else 0) := by decide +kernel
theorem aw_ok : ∀ i, i < 8 → ∀ a, a < 2 ^ i → (nI a ||| (nI 1 <<< (nI i &&& 31))) = nI (a + 2 ^ i) ∧ (nI a ||| (nI 0 <<< (nI i &&& 31))) = nI a := by decide +kernel
theorem sh_ok : ∀ c, c < 9 → nI 1 <<< (nI c &&& 31) = nI (2 ^ c) := by decide +kernel
def S_bc (x : Int32) : Int32 :=
  let a := x - ((x.toUInt32 >>> ((nI 1).toUInt32 &&& Int32.toUInt32 31)).toInt32 &&& nI 1431655765)
  let b := (a &&& nI 858993459) + ((a.toUInt32 >>> ((nI 2).toUInt32 &&& Int32.toUInt32 31)).toInt32 &&& nI 858993459)
  let c := (b + (b.toUInt32 >>> ((nI 4).toUInt32 &&& Int32.toUInt32 31)).toInt32) &&& nI 252645135
  let e := c + (c.toUInt32 >>> ((nI 8).toUInt32 &&& Int32.toUInt32 31)).toInt32
  (e + (e.toUInt32 >>> ((nI 16).toUInt32 &&& Int32.toUInt32 31)).toInt32) &&& nI 63
theorem bc_ok : ∀ s, s < 256 → S_bc (nI s) = nI (pop8 s) := by decide +kernel
theorem c_bitCount {d n : Nat} {mem : am_M} {Q : am_P} (x : Int32) (hQ : Q (some (.int (S_bc x))) (am_SK n) mem) : am_ex (d + 1) 237 [.int x] (am_SK n) mem Q := by
  refine ex_in (c0 := kc_J6_bitCount_0f7a4) rfl (L := [some (.int x)]) rfl ?_
  refine ev_iload rfl rfl ?_
  refine ev_iload rfl rfl ?_
  refine ev_iconst (x := nI 1) rfl rfl ?_
  refine ev_iushr rfl ?_
  refine ev_iconst (x := nI 1431655765) rfl rfl ?_
  refine ev_iand rfl ?_
  refine ev_isub rfl ?_
  refine ev_istore rfl rfl (Nat.le_of_ble_eq_true rfl) ?_
  refine ev_iload rfl rfl ?_
  refine ev_iconst (x := nI 858993459) rfl rfl ?_
  refine ev_iand rfl ?_
  refine ev_iload rfl rfl ?_
  refine ev_iconst (x := nI 2) rfl rfl ?_
  refine ev_iushr rfl ?_
  refine ev_iconst (x := nI 858993459) rfl rfl ?_
  refine ev_iand rfl ?_
  refine ev_iadd rfl ?_
  refine ev_istore rfl rfl (Nat.le_of_ble_eq_true rfl) ?_
  refine ev_iload rfl rfl ?_
  refine ev_iload rfl rfl ?_
  refine ev_iconst (x := nI 4) rfl rfl ?_
  refine ev_iushr rfl ?_
  refine ev_iadd rfl ?_
  refine ev_iconst (x := nI 252645135) rfl rfl ?_
  refine ev_iand rfl ?_
  refine ev_istore rfl rfl (Nat.le_of_ble_eq_true rfl) ?_
  refine ev_iload rfl rfl ?_
  refine ev_iload rfl rfl ?_
  refine ev_iconst (x := nI 8) rfl rfl ?_
  refine ev_iushr rfl ?_
  refine ev_iadd rfl ?_
  refine ev_istore rfl rfl (Nat.le_of_ble_eq_true rfl) ?_
  refine ev_iload rfl rfl ?_
  refine ev_iload rfl rfl ?_
  refine ev_iconst (x := nI 16) rfl rfl ?_
  refine ev_iushr rfl ?_
  refine ev_iadd rfl ?_
  refine ev_istore rfl rfl (Nat.le_of_ble_eq_true rfl) ?_
  refine ev_iload rfl rfl ?_
  refine ev_iconst (x := nI 63) rfl rfl ?_
  refine ev_iand rfl ?_
  refine ev_iret rfl ?_
  exact hQ
theorem l_X12_ones {d n : Nat} {mem : am_M} {Q : am_P} (s : Nat) (hs : s < 256) (r : Nat) : ∀ (k : Nat) (hk : k + r = 8) (hQ : Q (some (.int (nI (pop8 s)))) (am_SK n) mem), am_ev kc_X12_ones d 4 [some (.int (nI s)), some (.int (nI (cnt (fun k => s.testBit k) k))), some (.int (nI k))] [] (am_SK n) mem Q := by
  induction r with
  | zero =>
    intro k hk hQ
    have hcl := cnt_le (fun k => s.testBit k) k
    have hk8 : k = 8 := by omega
    subst hk8
    refine ev_iload rfl rfl ?_
    refine ev_iconst (x := nI 8) rfl rfl ?_
    refine ev_icmp_geN (p2 := 24) rfl rfl (fun _ => ?_) (fun zz => absurd zz (by decide))
    refine ev_iload rfl rfl ?_
    refine ev_iret rfl ?_
    exact hQ
  | succ r ih =>
    intro k hk hQ
    have hcl := cnt_le (fun k => s.testBit k) k
    refine ev_iload rfl rfl ?_
    refine ev_iconst (x := nI 8) rfl rfl ?_
    refine ev_icmp_geN (p2 := 24) rfl rfl (fun cnd7 => ?_) (fun cnd7 => ?_)
    · omega
    · skip
      refine ev_iload rfl rfl ?_
      refine ev_iload rfl rfl ?_
      refine ev_iload rfl rfl ?_
      refine ev_ishr rfl ?_
      refine ev_iconst (x := nI 1) rfl rfl ?_
      refine ev_iand rfl ?_
      rw [bit_ok s hs k (by omega)]
      refine ev_iaddN rfl ?_
      refine ev_istore rfl rfl (Nat.le_of_ble_eq_true rfl) ?_
      refine ev_iincN rfl rfl rfl ?_
      refine ev_goto (p2 := 4) rfl rfl ?_
      exact ih (k + 1) (by omega) hQ
theorem c_X12_ones {d n : Nat} {mem : am_M} {Q : am_P} (s : Nat) (hs : s < 256) (hQ : Q (some (.int (nI (pop8 s)))) (am_SK n) mem) : am_ex (d + 1) 209 [.int (nI s)] (am_SK n) mem Q := by
  refine ex_in (c0 := kc_X12_ones) rfl (L := [some (.int (nI s)), none, none]) rfl ?_
  refine ev_iconst (x := nI 0) rfl rfl ?_
  refine ev_istore rfl rfl (Nat.le_of_ble_eq_true rfl) ?_
  refine ev_iconst (x := nI 0) rfl rfl ?_
  refine ev_istore rfl rfl (Nat.le_of_ble_eq_true rfl) ?_
  exact l_X12_ones s hs 8 0 rfl hQ
/-- whether the lamps of a set should burn and draw v together, from place k on -/
def S_st (p : Nat → Bool) (g : Nat → Int32) (v : Int32) (s : Nat) : Nat → Nat → Int32 → Bool
  | 0, _, x => decide (x = v)
  | r + 1, k, x => if s.testBit k = true then (if p k = true then S_st p g v s r (k + 1) (x + g k) else false) else S_st p g v s r (k + 1) x
theorem l_X12_sums {d n : Nat} {mem : am_M} {Q : am_P} {R : am_R} (hR : mem 222 = R) (hw : wfR R) (p : Nat → Bool) (g : Nat → Int32) (v : Int32) (s : Nat) (hs : s < 256) (hg : ∀ k, k < nn (R 7) → mem 242 k = (if p k = true then g k else -1) ∧ 0 ≤ g k) (r : Nat) : ∀ (k : Nat) (hk : k + r = nn (R 7)) (x : Int32) (hQ : Q (some (.int (ob (S_st p g v s r k x)))) (am_SK n) mem), am_ev kc_X12_sumsTo d 5 [some (.ref 221), some (.int (nI s)), some (.int v), some (.int x), some (.int (nI k))] [] (am_SK n) mem Q := by
  induction r with
  | zero =>
    intro k hk x hQ
    have hb := wb_all hw
    unfold S_st at hQ
    refine ev_iload rfl rfl ?_
    refine ev_aload rfl rfl ?_
    refine ev_getR (c := 12) (j := 0) rfl ?_ (hq := k_221 n)
    refine ev_iconst (x := nI 7) rfl rfl ?_
    refine ev_ialdN rfl rfl ?_ (hq := k_222 n)
    rw [show mem 222 (7) = nI (nn (R 7)) by rw [hR]; (repeat rw [upd_ne (by omega)]); exact wr7 hw]
    refine ev_icmp_geN (p2 := 55) rfl rfl (fun cnd14 => ?_) (fun cnd14 => ?_)
    · skip
      refine ev_iload rfl rfl ?_
      refine ev_iload rfl rfl ?_
      refine ev_icmp_ne (p2 := 64) rfl rfl (fun cnd57 => ?_) (fun cnd57 => ?_)
      · skip
        refine ev_iconst (x := nI 0) rfl rfl ?_
        refine ev_zret rfl ?_
        first
        | (rw [decide_eq_true cnd57] at hQ; exact hQ)
        | (rw [decide_eq_false cnd57] at hQ; exact hQ)
      · skip
        refine ev_iconst (x := nI 1) rfl rfl ?_
        refine ev_goto (p2 := 65) rfl rfl ?_
        refine ev_zret rfl ?_
        first
        | (rw [decide_eq_true cnd57] at hQ; exact hQ)
        | (rw [decide_eq_false cnd57] at hQ; exact hQ)
    · omega
  | succ r ih =>
    intro k hk x hQ
    have hb := wb_all hw
    unfold S_st at hQ
    refine ev_iload rfl rfl ?_
    refine ev_aload rfl rfl ?_
    refine ev_getR (c := 12) (j := 0) rfl ?_ (hq := k_221 n)
    refine ev_iconst (x := nI 7) rfl rfl ?_
    refine ev_ialdN rfl rfl ?_ (hq := k_222 n)
    rw [show mem 222 (7) = nI (nn (R 7)) by rw [hR]; (repeat rw [upd_ne (by omega)]); exact wr7 hw]
    refine ev_icmp_geN (p2 := 55) rfl rfl (fun cnd14 => ?_) (fun cnd14 => ?_)
    · omega
    · skip
      refine ev_iload rfl rfl ?_
      refine ev_iload rfl rfl ?_
      refine ev_ishr rfl ?_
      refine ev_iconst (x := nI 1) rfl rfl ?_
      refine ev_iand rfl ?_
      rw [bit_ok s hs k (by omega)]
      have hgk := hg k (by omega)
      refine ev_iconst (x := nI 1) rfl rfl ?_
      refine ev_icmp_neN (ha := by split <;> omega) (p2 := 49) rfl rfl (fun cnd24 => ?_) (fun cnd24 => ?_)
      · skip
        refine ev_iincN rfl rfl rfl ?_
        refine ev_goto (p2 := 5) rfl rfl ?_
        first
        | (have hbt : s.testBit k = true := by
             by_cases hz : s.testBit k = true
             · exact hz
             · rw [if_neg hz] at cnd24; exact absurd cnd24 (by decide)
           rw [if_pos hbt] at hQ
           by_cases hp : p k = true
           · rw [if_pos hp] at hQ ⊢
             exact ih (k + 1) (by omega) _ hQ
           · rw [if_neg hp] at cnd34
             exact absurd cnd34 (by decide))
        | (have hbt : s.testBit k = false := by
             by_cases hz : s.testBit k = true
             · rw [if_pos hz] at cnd24; exact absurd rfl cnd24
             · exact Bool.eq_false_iff.mpr hz
           rw [if_neg (by rw [hbt]; decide)] at hQ
           exact ih (k + 1) (by omega) _ hQ)
      · skip
        refine ev_aload rfl rfl ?_
        refine ev_getR (c := 12) (j := 31) rfl ?_ (hq := k_221 n)
        refine ev_iload rfl rfl ?_
        refine ev_ialdN rfl rfl ?_ (hq := k_242 n)
        rw [hgk.1]
        refine ev_if_ge (p2 := 39) rfl rfl (fun cnd34 => ?_) (fun cnd34 => ?_)
        · skip
          refine ev_iload rfl rfl ?_
          refine ev_aload rfl rfl ?_
          refine ev_getR (c := 12) (j := 31) rfl ?_ (hq := k_221 n)
          refine ev_iload rfl rfl ?_
          refine ev_ialdN rfl rfl ?_ (hq := k_242 n)
          rw [hgk.1]
          refine ev_iadd rfl ?_
          refine ev_istore rfl rfl (Nat.le_of_ble_eq_true rfl) ?_
          refine ev_iincN rfl rfl rfl ?_
          refine ev_goto (p2 := 5) rfl rfl ?_
          first
          | (have hbt : s.testBit k = true := by
               by_cases hz : s.testBit k = true
               · exact hz
               · rw [if_neg hz] at cnd24; exact absurd cnd24 (by decide)
             rw [if_pos hbt] at hQ
             by_cases hp : p k = true
             · rw [if_pos hp] at hQ ⊢
               exact ih (k + 1) (by omega) _ hQ
             · rw [if_neg hp] at cnd34
               exact absurd cnd34 (by decide))
          | (have hbt : s.testBit k = false := by
               by_cases hz : s.testBit k = true
               · rw [if_pos hz] at cnd24; exact absurd rfl cnd24
               · exact Bool.eq_false_iff.mpr hz
             rw [if_neg (by rw [hbt]; decide)] at hQ
             exact ih (k + 1) (by omega) _ hQ)
        · skip
          refine ev_iconst (x := nI 0) rfl rfl ?_
          refine ev_zret rfl ?_
          have hbt : s.testBit k = true := by
            by_cases hz : s.testBit k = true
            · exact hz
            · rw [if_neg hz] at cnd24; exact absurd cnd24 (by decide)
          rw [if_pos hbt] at hQ
          by_cases hp : p k = true
          · rw [if_pos hp] at cnd34
            exact absurd hgk.2 cnd34
          · rw [if_neg hp] at hQ
            exact hQ
theorem c_X12_sumsTo {d n : Nat} {mem : am_M} {Q : am_P} {R : am_R} (hR : mem 222 = R) (hw : wfR R) (p : Nat → Bool) (g : Nat → Int32) (v : Int32) (s : Nat) (hs : s < 256) (hg : ∀ k, k < nn (R 7) → mem 242 k = (if p k = true then g k else -1) ∧ 0 ≤ g k) (hQ : Q (some (.int (ob (S_st p g v s (nn (R 7)) 0 (nI 0))))) (am_SK n) mem) : am_ex (d + 1) 210 [.ref 221, .int (nI s), .int v] (am_SK n) mem Q := by
  refine ex_in (c0 := kc_X12_sumsTo) rfl (L := [some (.ref 221), some (.int (nI s)), some (.int v), none, none]) rfl ?_
  refine ev_iconst (x := nI 0) rfl rfl ?_
  refine ev_istore rfl rfl (Nat.le_of_ble_eq_true rfl) ?_
  refine ev_iconst (x := nI 0) rfl rfl ?_
  refine ev_istore rfl rfl (Nat.le_of_ble_eq_true rfl) ?_
  exact l_X12_sums hR hw p g v s hs hg _ 0 (Nat.zero_add _) _ hQ
def S_ob (o : Option Nat) (e : Int32) : Int32 := match o with
  | some b => nI b
  | none => e
def S_l8 (s : Nat) (o : Option Nat) : Bool := match o with
  | none => true
  | some b => decide (pop8 s < pop8 b)
def S_up (A : Nat → Bool) (s : Nat) (o : Option Nat) : Option Nat := if A s = true ∧ S_l8 s o = true then some s else o
theorem S_up_y {A : Nat → Bool} {s : Nat} {o : Option Nat} (h1 : A s = true) (h2 : S_l8 s o = true) : S_up A s o = some s := if_pos ⟨h1, h2⟩
theorem S_up_n1 {A : Nat → Bool} {s : Nat} {o : Option Nat} (h1 : A s = false) : S_up A s o = o := if_neg (fun z => absurd (h1.symm.trans z.1) (by decide))
theorem S_up_n2 {A : Nat → Bool} {s : Nat} {o : Option Nat} (h1 : S_l8 s o = false) : S_up A s o = o := if_neg (fun z => absurd (h1.symm.trans z.2) (by decide))
def S_gs (A : Nat → Bool) : Nat → Nat → Option Nat → Option Nat
  | 0, _, o => o
  | r + 1, s, o => S_gs A r (s + 1) (S_up A s o)
theorem S_gs_add (A : Nat → Bool) : ∀ a b s o, S_gs A (a + b) s o = S_gs A b (s + a) (S_gs A a s o) := by
  intro a
  induction a with
  | zero => intro b s o; rw [Nat.zero_add]; rfl
  | succ a ih =>
    intro b s o
    rw [Nat.succ_add]
    show S_gs A (a + b) (s + 1) (S_up A s o) = _
    rw [ih]
    show _ = S_gs A b (s + (a + 1)) (S_gs A a (s + 1) (S_up A s o))
    rw [show s + 1 + a = s + (a + 1) by omega]
theorem S_gs_no (A : Nat → Bool) : ∀ r s o, (∀ j, s ≤ j → A j = false) → S_gs A r s o = o := by
  intro r
  induction r with
  | zero => intro s o _; rfl
  | succ r ih =>
    intro s o h
    unfold S_gs
    rw [ih _ _ (fun j hj => h j (by omega))]
    exact S_up_n1 (h s (Nat.le_refl _))
def S_obw (o : Option Nat) : Prop := ∀ b, o = some b → b < 256
theorem S_up_w {A : Nat → Bool} {s : Nat} {o : Option Nat} (hs : s < 256) (h : S_obw o) : S_obw (S_up A s o) := by
  unfold S_up
  split
  · intro b e; cases e; exact hs
  · exact h
def S_pl (R : am_R) (k : Nat) : Bool := S_should R (nn (R (9 + k)))
def S_gl (R : am_R) (k : Nat) : Int32 := S_draw R (nn (R (9 + k)))
def S_ask (R : am_R) (v : Int32) (s : Nat) : Bool := S_st (S_pl R) (S_gl R) v s (nn (R 7)) 0 (nI 0)
def X_guess (R : am_R) (v : Int32) : Int32 := if nI 0 ≤ v ∧ v ≤ nI 9999 then S_ob (S_gs (S_ask R v) (2 ^ nn (R 7)) 0 none) S_NONE else S_BAD
theorem S_gl_ge {R : am_R} (hw : wfR R) {k : Nat} (hk : k < nn (R 7)) : 0 ≤ S_gl R k := by
  obtain ⟨m, e, h⟩ := S_draw_n (hw.2.2.2.2.1 _ (hw.2.2.2.2.2.1 k hk).2)
  unfold S_gl
  rw [e]
  exact nI_pos' (by omega)
theorem l_X12_gs2 {d n : Nat} {mem : am_M} {Q : am_P} {R : am_R} (hR : mem 222 = R) (hw : wfR R) (v : Int32) (hg : ∀ k, k < nn (R 7) → mem 242 k = (if S_pl R k = true then S_gl R k else -1) ∧ 0 ≤ S_gl R k) (r : Nat) : ∀ (s : Nat) (hk : s + r = 2 ^ nn (R 7)) (o : Option Nat) (ho : S_obw o) (hQ : Q (some (.int (S_ob (S_gs (S_ask R v) r s o) S_NONE))) (am_SK n) mem), am_ev kc_X12_guess (d + 1) 70 [some (.ref 221), some (.int v), some (.int (S_ob o (-1))), some (.int (nI s))] [] (am_SK n) mem Q := by
  induction r with
  | zero =>
    intro s hk o ho hQ
    have hb := wb_all hw
    have h256 : 2 ^ nn (R 7) ≤ 2 ^ 8 := Nat.pow_le_pow_right (by decide) (by omega)
    rw [show (2 : Nat) ^ 8 = 256 from rfl] at h256
    cases o with
    | none =>
      refine ev_iload rfl rfl ?_
      refine ev_iconst (x := nI 1) rfl rfl ?_
      refine ev_aload rfl rfl ?_
      refine ev_getR (c := 12) (j := 0) rfl ?_ (hq := k_221 n)
      refine ev_iconst (x := nI 7) rfl rfl ?_
      refine ev_ialdN rfl rfl ?_ (hq := k_222 n)
      rw [show mem 222 (7) = nI (nn (R 7)) by rw [hR]; (repeat rw [upd_ne (by omega)]); exact wr7 hw]
      refine ev_ishl rfl ?_
      rw [sh_ok _ (by omega)]
      refine ev_icmp_geN (p2 := 115) rfl rfl (fun cnd80 => ?_) (fun cnd80 => ?_)
      · skip
        refine ev_iload rfl rfl ?_
        refine ev_if_ge (p2 := 125) rfl rfl (fun cnd116 => ?_) (fun cnd116 => ?_)
        · exact absurd cnd116 (by decide)
        · skip
          refine ev_iconst (x := (-1000000005)) rfl rfl ?_
          refine ev_goto (p2 := 126) rfl rfl ?_
          refine ev_iret rfl ?_
          exact hQ
      · omega
    | some b =>
      have hb9 := ho b rfl
      refine ev_iload rfl rfl ?_
      refine ev_iconst (x := nI 1) rfl rfl ?_
      refine ev_aload rfl rfl ?_
      refine ev_getR (c := 12) (j := 0) rfl ?_ (hq := k_221 n)
      refine ev_iconst (x := nI 7) rfl rfl ?_
      refine ev_ialdN rfl rfl ?_ (hq := k_222 n)
      rw [show mem 222 (7) = nI (nn (R 7)) by rw [hR]; (repeat rw [upd_ne (by omega)]); exact wr7 hw]
      refine ev_ishl rfl ?_
      rw [sh_ok _ (by omega)]
      refine ev_icmp_geN (p2 := 115) rfl rfl (fun cnd80 => ?_) (fun cnd80 => ?_)
      · skip
        refine ev_iload rfl rfl ?_
        refine ev_if_geN (p2 := 125) rfl rfl ?_
        refine ev_iload rfl rfl ?_
        refine ev_iret rfl ?_
        exact hQ
      · omega
  | succ r ih =>
    intro s hk o ho hQ
    have hb := wb_all hw
    have h256 : 2 ^ nn (R 7) ≤ 2 ^ 8 := Nat.pow_le_pow_right (by decide) (by omega)
    rw [show (2 : Nat) ^ 8 = 256 from rfl] at h256
    have hp8 : ∀ s, pop8 s ≤ 8 := fun s => cnt_le _ 8
    cases o with
    | none =>
      refine ev_iload rfl rfl ?_
      refine ev_iconst (x := nI 1) rfl rfl ?_
      refine ev_aload rfl rfl ?_
      refine ev_getR (c := 12) (j := 0) rfl ?_ (hq := k_221 n)
      refine ev_iconst (x := nI 7) rfl rfl ?_
      refine ev_ialdN rfl rfl ?_ (hq := k_222 n)
      rw [show mem 222 (7) = nI (nn (R 7)) by rw [hR]; (repeat rw [upd_ne (by omega)]); exact wr7 hw]
      refine ev_ishl rfl ?_
      rw [sh_ok _ (by omega)]
      refine ev_icmp_geN (p2 := 115) rfl rfl (fun cnd80 => ?_) (fun cnd80 => ?_)
      · omega
      · skip
        refine ev_iload rfl rfl ?_
        refine ev_if_lt (p2 := 98) rfl rfl (fun cnd84 => ?_) (fun cnd84 => ?_)
        · skip
          refine ev_aload rfl rfl ?_
          refine ev_iload rfl rfl ?_
          refine ev_iload rfl rfl ?_
          refine ev_call rfl rfl ?_
          refine c_X12_sumsTo hR hw (S_pl R) (S_gl R) v s (by omega) hg ?_
          change am_ev _ _ _ _ [_] _ _ _
          refine ev_if_eqO (p2 := 109) rfl rfl (fun cnd104 => ?_) (fun cnd104 => ?_)
          · skip
            refine ev_iincN rfl rfl rfl ?_
            refine ev_goto (p2 := 70) rfl rfl ?_
            first
            | (rw [show S_gs (S_ask R v) (r + 1) s none = S_gs (S_ask R v) r (s + 1) (some s) from congrArg (S_gs (S_ask R v) r (s + 1)) (S_up_y cnd104 rfl)] at hQ
               exact ih (s + 1) (by omega) (some s) (fun b e => by cases e; omega) hQ)
            | (rw [show S_gs (S_ask R v) (r + 1) s none = S_gs (S_ask R v) r (s + 1) none from congrArg (S_gs (S_ask R v) r (s + 1)) (S_up_n1 cnd104)] at hQ
               exact ih (s + 1) (by omega) none ho hQ)
          · skip
            refine ev_iload rfl rfl ?_
            refine ev_istore rfl rfl (Nat.le_of_ble_eq_true rfl) ?_
            refine ev_iincN rfl rfl rfl ?_
            refine ev_goto (p2 := 70) rfl rfl ?_
            first
            | (rw [show S_gs (S_ask R v) (r + 1) s none = S_gs (S_ask R v) r (s + 1) (some s) from congrArg (S_gs (S_ask R v) r (s + 1)) (S_up_y cnd104 rfl)] at hQ
               exact ih (s + 1) (by omega) (some s) (fun b e => by cases e; omega) hQ)
            | (rw [show S_gs (S_ask R v) (r + 1) s none = S_gs (S_ask R v) r (s + 1) none from congrArg (S_gs (S_ask R v) r (s + 1)) (S_up_n1 cnd104)] at hQ
               exact ih (s + 1) (by omega) none ho hQ)
        · exact absurd (by decide) cnd84
    | some b =>
      have hb9 := ho b rfl
      have hpb := hp8 b
      have hps := hp8 s
      refine ev_iload rfl rfl ?_
      refine ev_iconst (x := nI 1) rfl rfl ?_
      refine ev_aload rfl rfl ?_
      refine ev_getR (c := 12) (j := 0) rfl ?_ (hq := k_221 n)
      refine ev_iconst (x := nI 7) rfl rfl ?_
      refine ev_ialdN rfl rfl ?_ (hq := k_222 n)
      rw [show mem 222 (7) = nI (nn (R 7)) by rw [hR]; (repeat rw [upd_ne (by omega)]); exact wr7 hw]
      refine ev_ishl rfl ?_
      rw [sh_ok _ (by omega)]
      refine ev_icmp_geN (p2 := 115) rfl rfl (fun cnd80 => ?_) (fun cnd80 => ?_)
      · omega
      · skip
        refine ev_iload rfl rfl ?_
        refine ev_if_ltN rfl ?_
        refine ev_iload rfl rfl ?_
        refine ev_call rfl rfl ?_
        refine c_X12_ones s (by omega) ?_
        change am_ev _ _ _ _ [_] _ _ _
        refine ev_iload rfl rfl ?_
        refine ev_call rfl rfl ?_
        refine c_X12_ones b hb9 ?_
        change am_ev _ _ _ _ [_, _] _ _ _
        refine ev_icmp_geN (p2 := 109) rfl rfl (fun cnd95 => ?_) (fun cnd95 => ?_)
        · skip
          refine ev_iincN rfl rfl rfl ?_
          refine ev_goto (p2 := 70) rfl rfl ?_
          first
          | (rw [show S_gs (S_ask R v) (r + 1) s (some b) = S_gs (S_ask R v) r (s + 1) (some s) from congrArg (S_gs (S_ask R v) r (s + 1)) (S_up_y cnd104 (decide_eq_true cnd95))] at hQ
             exact ih (s + 1) (by omega) (some s) (fun b e => by cases e; omega) hQ)
          | (rw [show S_gs (S_ask R v) (r + 1) s (some b) = S_gs (S_ask R v) r (s + 1) (some b) from congrArg (S_gs (S_ask R v) r (s + 1)) (S_up_n1 cnd104)] at hQ
             exact ih (s + 1) (by omega) (some b) ho hQ)
          | (rw [show S_gs (S_ask R v) (r + 1) s (some b) = S_gs (S_ask R v) r (s + 1) (some b) from congrArg (S_gs (S_ask R v) r (s + 1)) (S_up_n2 (decide_eq_false (Nat.not_lt.mpr cnd95)))] at hQ
             exact ih (s + 1) (by omega) (some b) ho hQ)
        · skip
          refine ev_aload rfl rfl ?_
          refine ev_iload rfl rfl ?_
          refine ev_iload rfl rfl ?_
          refine ev_call rfl rfl ?_
          refine c_X12_sumsTo hR hw (S_pl R) (S_gl R) v s (by omega) hg ?_
          change am_ev _ _ _ _ [_] _ _ _
          refine ev_if_eqO (p2 := 109) rfl rfl (fun cnd104 => ?_) (fun cnd104 => ?_)
          · skip
            refine ev_iincN rfl rfl rfl ?_
            refine ev_goto (p2 := 70) rfl rfl ?_
            first
            | (rw [show S_gs (S_ask R v) (r + 1) s (some b) = S_gs (S_ask R v) r (s + 1) (some s) from congrArg (S_gs (S_ask R v) r (s + 1)) (S_up_y cnd104 (decide_eq_true cnd95))] at hQ
               exact ih (s + 1) (by omega) (some s) (fun b e => by cases e; omega) hQ)
            | (rw [show S_gs (S_ask R v) (r + 1) s (some b) = S_gs (S_ask R v) r (s + 1) (some b) from congrArg (S_gs (S_ask R v) r (s + 1)) (S_up_n1 cnd104)] at hQ
               exact ih (s + 1) (by omega) (some b) ho hQ)
            | (rw [show S_gs (S_ask R v) (r + 1) s (some b) = S_gs (S_ask R v) r (s + 1) (some b) from congrArg (S_gs (S_ask R v) r (s + 1)) (S_up_n2 (decide_eq_false (Nat.not_lt.mpr cnd95)))] at hQ
               exact ih (s + 1) (by omega) (some b) ho hQ)
          · skip
            refine ev_iload rfl rfl ?_
            refine ev_istore rfl rfl (Nat.le_of_ble_eq_true rfl) ?_
            refine ev_iincN rfl rfl rfl ?_
            refine ev_goto (p2 := 70) rfl rfl ?_
            first
            | (rw [show S_gs (S_ask R v) (r + 1) s (some b) = S_gs (S_ask R v) r (s + 1) (some s) from congrArg (S_gs (S_ask R v) r (s + 1)) (S_up_y cnd104 (decide_eq_true cnd95))] at hQ
               exact ih (s + 1) (by omega) (some s) (fun b e => by cases e; omega) hQ)
            | (rw [show S_gs (S_ask R v) (r + 1) s (some b) = S_gs (S_ask R v) r (s + 1) (some b) from congrArg (S_gs (S_ask R v) r (s + 1)) (S_up_n1 cnd104)] at hQ
               exact ih (s + 1) (by omega) (some b) ho hQ)
            | (rw [show S_gs (S_ask R v) (r + 1) s (some b) = S_gs (S_ask R v) r (s + 1) (some b) from congrArg (S_gs (S_ask R v) r (s + 1)) (S_up_n2 (decide_eq_false (Nat.not_lt.mpr cnd95)))] at hQ
               exact ih (s + 1) (by omega) (some b) ho hQ)
theorem l_X12_gs1 {d n : Nat} {mem0 : am_M} {Q : am_P} {R : am_R} (hw : wfR R) (hT : wfTs R) (v : Int32) (r : Nat) : ∀ (mem : am_M) (k : Nat) (hk : k + r = nn (R 7)) (hR : mem 222 = R) (hf : FrR mem0 mem) (hg : ∀ j, j < k → mem 242 j = (if S_pl R j = true then S_gl R j else -1)) (x3 : Option Value) (hQ : ∀ m2 : am_M, FrR mem0 m2 → m2 222 = R → Q (some (.int (S_ob (S_gs (S_ask R v) (2 ^ nn (R 7)) 0 none) S_NONE))) (am_SK n) m2), am_ev kc_X12_guess (d + 5) 16 [some (.ref 221), some (.int v), some (.int (nI k)), x3] [] (am_SK n) mem Q := by
  induction r with
  | zero =>
    intro mem k hk hR hf hg x3 hQ
    have hb := wb_all hw
    refine ev_iload rfl rfl ?_
    refine ev_aload rfl rfl ?_
    refine ev_getR (c := 12) (j := 0) rfl ?_ (hq := k_221 n)
    refine ev_iconst (x := nI 7) rfl rfl ?_
    refine ev_ialdN rfl rfl ?_ (hq := k_222 n)
    rw [show mem 222 (7) = nI (nn (R 7)) by rw [hR]; (repeat rw [upd_ne (by omega)]); exact wr7 hw]
    refine ev_icmp_geN (p2 := 66) rfl rfl (fun cnd24 => ?_) (fun cnd24 => ?_)
    · skip
      refine ev_iconst (x := (-1)) rfl rfl ?_
      refine ev_istore rfl rfl (Nat.le_of_ble_eq_true rfl) ?_
      refine ev_iconst (x := nI 0) rfl rfl ?_
      refine ev_istore rfl rfl (Nat.le_of_ble_eq_true rfl) ?_
      exact l_X12_gs2 hR hw v (fun j hj => ⟨hg j (by omega), S_gl_ge hw hj⟩) (2 ^ nn (R 7)) 0 (Nat.zero_add _) none (fun b e => by cases e) (hQ mem hf hR)
    · omega
  | succ r ih =>
    intro mem k hk hR hf hg x3 hQ
    have hb := wb_all hw
    have hch := hw.2.2.2.2.2.1 k (by omega)
    have hch2 := hch.2
    refine ev_iload rfl rfl ?_
    refine ev_aload rfl rfl ?_
    refine ev_getR (c := 12) (j := 0) rfl ?_ (hq := k_221 n)
    refine ev_iconst (x := nI 7) rfl rfl ?_
    refine ev_ialdN rfl rfl ?_ (hq := k_222 n)
    rw [show mem 222 (7) = nI (nn (R 7)) by rw [hR]; (repeat rw [upd_ne (by omega)]); exact wr7 hw]
    refine ev_icmp_geN (p2 := 66) rfl rfl (fun cnd24 => ?_) (fun cnd24 => ?_)
    · omega
    · skip
      refine ev_aload rfl rfl ?_
      refine ev_getR (c := 12) (j := 0) rfl ?_ (hq := k_221 n)
      refine ev_iconst (x := nI 9) rfl rfl ?_
      refine ev_iload rfl rfl ?_
      refine ev_iaddN rfl ?_
      refine ev_ialdN rfl rfl ?_ (hq := k_222 n)
      rw [show mem 222 (9 + k) = nI (nn (R (9 + k))) by rw [hR]; exact hch.1]
      refine ev_istore rfl rfl (Nat.le_of_ble_eq_true rfl) ?_
      refine ev_aload rfl rfl ?_
      refine ev_getR (c := 12) (j := 31) rfl ?_ (hq := k_221 n)
      refine ev_iload rfl rfl ?_
      refine ev_aload rfl rfl ?_
      refine ev_iload rfl rfl ?_
      refine ev_call rfl rfl ?_
      refine r_shouldBurn hR hw _ hch2 ?_
      change am_ev _ _ _ _ [_, _, _] _ _ _
      refine ev_if_eqO (p2 := 58) rfl rfl (fun cnd47 => ?_) (fun cnd47 => ?_)
      · skip
        refine ev_iconst (x := (-1)) rfl rfl ?_
        refine ev_iastS rfl (fun mem3 hm => ?_) (hq := k_242 n)
        refine ev_iincN rfl rfl rfl ?_
        refine ev_goto (p2 := 16) rfl rfl ?_
        refine ih mem3 (k + 1) (by omega) (by rw [hm, am_up_ne (by decide)]; exact hR) (FrR_tr hf (FrR_one (by decide) hm)) (fun j hj => ?_) _ hQ
        rw [hm]
        by_cases e : j = k
        · rw [e, am_up_eq]
          first
          | (rw [if_pos (show S_pl R k = true from cnd47)]; rfl)
          | (rw [if_neg (by rw [show S_pl R k = false from cnd47]; decide)])
        · rw [am_up_nk e]; exact hg j (by omega)
      · skip
        refine ev_aload rfl rfl ?_
        refine ev_iload rfl rfl ?_
        refine ev_call rfl rfl ?_
        refine r_draws hR hw hT _ hch2 (fun mem h2 => ?_)
        have hR := (h2 222 (by decide) (by decide)).trans hR
        have hf := FrR_tr hf (FrR_sc h2)
        have hg : ∀ j, j < k → mem 242 j = (if S_pl R j = true then S_gl R j else -1) := fun j hj => by rw [h2 242 (by decide) (by decide)]; exact hg j hj
        change am_ev _ _ _ _ [_, _, _] _ _ _
        refine ev_goto (p2 := 59) rfl rfl ?_
        refine ev_iastS rfl (fun mem3 hm => ?_) (hq := k_242 n)
        refine ev_iincN rfl rfl rfl ?_
        refine ev_goto (p2 := 16) rfl rfl ?_
        refine ih mem3 (k + 1) (by omega) (by rw [hm, am_up_ne (by decide)]; exact hR) (FrR_tr hf (FrR_one (by decide) hm)) (fun j hj => ?_) _ hQ
        rw [hm]
        by_cases e : j = k
        · rw [e, am_up_eq]
          first
          | (rw [if_pos (show S_pl R k = true from cnd47)]; rfl)
          | (rw [if_neg (by rw [show S_pl R k = false from cnd47]; decide)])
        · rw [am_up_nk e]; exact hg j (by omega)
theorem c_X12_guess {d n : Nat} {mem : am_M} {Q : am_P} {R : am_R} (hR : mem 222 = R) (hw : wfR R) (hT : wfTs R) (v : Int32) (hQ : ∀ m2 : am_M, FrR mem m2 → m2 222 = R → Q (some (.int (X_guess R v))) (am_SK n) m2) : am_ex (d + 6) 211 [.ref 221, .int v] (am_SK n) mem Q := by
  have hb := wb_all hw
  have hfr := Hfr0 mem
  unfold X_guess at hQ
  refine ex_in (c0 := kc_X12_guess) rfl (L := [some (.ref 221), some (.int v), none, none]) rfl ?_
  refine ev_iload rfl rfl ?_
  refine ev_iconst (x := nI 0) rfl rfl ?_
  refine ev_iconst (x := nI 9999) rfl rfl ?_
  refine ev_call rfl rfl ?_
  refine c_X12_in _ _ _ ?_
  change am_ev _ _ _ _ [_] _ _ _
  refine ev_if_neB (p2 := 14) rfl rfl (fun cnd8 => ?_) (fun cnd8 => ?_)
  · skip
    refine ev_iconst (x := nI 0) rfl rfl ?_
    refine ev_istore rfl rfl (Nat.le_of_ble_eq_true rfl) ?_
    rw [if_pos cnd8] at hQ
    exact l_X12_gs1 hw hT v _ mem 0 (Nat.zero_add _) hR (FrR_refl _) (fun j hj => absurd hj (Nat.not_lt_zero j)) _ hQ
  · skip
    refine ev_iconst (x := (-1000000001)) rfl rfl ?_
    refine ev_iret rfl ?_
    rw [if_neg cnd8] at hQ
    exact hQ mem (FrR_refl _) hR
