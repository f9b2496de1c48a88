/-! the reference: what a text works out to -/
/-- a stack of numbers lies in an array from its bottom up -/
def stkAt (g : am_R) : List Int32 → Prop
  | [] => True
  | a :: r => g r.length = a ∧ stkAt g r
theorem stkAt_up {g : am_R} {i : Nat} {x : Int32} : ∀ {st : List Int32}, stkAt g st → st.length ≤ i → stkAt (upd g i x) st
  | [], _, _ => trivial
  | a :: r, h, hi => by
    have hl : r.length + 1 ≤ i := hi
    refine ⟨?_, stkAt_up h.2 (by omega)⟩
    unfold upd
    rw [if_neg (by omega)]
    exact h.1
theorem stkAt_set {g : am_R} {x : Int32} {st : List Int32} (h : stkAt g st) : stkAt (upd g st.length x) (x :: st) := by
  refine ⟨?_, stkAt_up h (Nat.le_refl _)⟩
  unfold upd
  rw [if_pos rfl]
theorem stkAt_mem {mem : am_M} {q m : Nat} {x : Int32} {st : List Int32} (h : stkAt (mem q) st) (hm : st.length = m) : stkAt (am_up mem q m x q) (x :: st) := by
  subst hm
  unfold am_up
  rw [if_pos rfl]
  exact stkAt_set h
theorem am_up_ne {mem : am_M} {q m p : Nat} {x : Int32} (h : p ≠ q) : am_up mem q m x p = mem p := by
  unfold am_up
  rw [if_neg h]
theorem nI_inc1 (k : Nat) : nI k + Int32.ofInt 1 = nI (k + 1) := nI_add k 1
theorem nI_dec1 (k : Nat) : nI (k + 1) + Int32.ofInt (-1) = nI k := by
  rw [← nI_pred k, Int32.sub_eq_add_neg]; exact congrArg (nI (k + 1) + ·) (by decide)
theorem nI_pre1 (k : Nat) : nI (k + 1) - nI 1 = nI k := nI_pred k
def S_dp (v : Int32) (m : Nat) : Nat := if v < 0 then (if v = -10 then m else m - 1) else m + 1
def S_stp (F : am_R) (v : Int32) (st : List Int32) : List Int32 := if v < 0 then (if v = -10 then (match st with | a :: r => ob (decide (a = 0)) :: r | [] => []) else (match st with | b :: a :: r => S_two v a b :: r | _ => [])) else (if nI 10000 ≤ v then F (nn v - 10000) else v) :: st
def wfA (nm : Nat) (v : Int32) (m : Nat) : Prop := (isN v (10000 + nm) ∧ m < 96) ∨ (v = -10 ∧ 1 ≤ m) ∨ ((v = -1 ∨ v = -2 ∨ v = -3 ∨ v = -4 ∨ v = -5 ∨ v = -6 ∨ v = -7 ∨ v = -8 ∨ v = -9) ∧ 2 ≤ m)
/-- the atoms from k on, r of them, over a stack -/
def S_go (R F : am_R) (t : Nat) : Nat → Nat → List Int32 → List Int32
  | 0, _, st => st
  | r + 1, k, st => S_go R F t r (k + 1) (S_stp F (R (217 + 96 * t + k)) st)
def wfG (R : am_R) (nm t : Nat) : Nat → Nat → Nat → Prop
  | 0, _, m => m = 1
  | r + 1, k, m => wfA nm (R (217 + 96 * t + k)) m ∧ wfG R nm t r (k + 1) (S_dp (R (217 + 96 * t + k)) m)
/-- a text is well formed -/
def wfT (R : am_R) (t : Nat) : Prop := isN (R (189 + 2 * t)) 4000 ∧ S_num R t ≤ 96 ∧ wfG R (if S_key R t < 2 then 3 else 2) t (S_num R t) 0 0
def S_val (R F : am_R) (t : Nat) : Int32 := (S_go R F t (S_num R t) 0 []).headD 0
theorem S_stp_F {F G : am_R} {nm m : Nat} {v : Int32} {st : List Int32} (hF : ∀ i, i < nm → F i = G i) (h : wfA nm v m) : S_stp F v st = S_stp G v st := by
  unfold S_stp
  by_cases h0 : v < 0
  · rw [if_pos h0, if_pos h0]
  · rw [if_neg h0, if_neg h0]
    by_cases h1 : nI 10000 ≤ v
    · rw [if_pos h1, if_pos h1]
      rcases h with ⟨⟨e1, g1⟩, -⟩ | ⟨rfl, -⟩ | ⟨hs, -⟩
      · have hz : nn v < 2 ^ 31 := by show v.toInt.toNat < 2 ^ 31; have := v.toInt_lt; omega
        rw [e1, nI_leI (by decide) hz] at h1
        rw [hF _ (by omega)]
      · exact absurd (by decide) h0
      · exact absurd (by rcases hs with rfl | rfl | rfl | rfl | rfl | rfl | rfl | rfl | rfl <;> decide) h0
    · rw [if_neg h1, if_neg h1]
theorem S_go_F {R F G : am_R} {nm t : Nat} (hF : ∀ i, i < nm → F i = G i) : ∀ {r k m : Nat} {st : List Int32}, wfG R nm t r k m → S_go R F t r k st = S_go R G t r k st
  | 0, _, _, _, _ => rfl
  | r + 1, k, m, st, h => by
    unfold S_go
    rw [S_stp_F hF h.1]
    exact S_go_F hF h.2
theorem S_val_F {R F G : am_R} {t : Nat} (h : wfT R t) (hF : ∀ i, i < (if S_key R t < 2 then 3 else 2) → F i = G i) : S_val R F t = S_val R G t := by
  unfold S_val
  rw [S_go_F hF h.2.2]
def S_F (a b c : Int32) : am_R := fun i => if i = 0 then a else if i = 1 then b else c
def wfTs (R : am_R) : Prop := ∀ t, t < nn (R 6) → wfT R t
theorem wfTs_H {R : am_R} (h : wfTs R) : wfH R := fun t ht => (h t ht).1
theorem S_cnt_key {R : am_R} {key : Nat} : ∀ {k t : Nat}, S_cnt R key k = some t → S_key R t = key
  | k + 1, t, h => by
    unfold S_cnt at h
    split at h
    · cases h; assumption
    · exact S_cnt_key h
theorem l_X12_worksOut {d n : Nat} {mem : am_M} {Q : am_P} (R F : am_R) (nm t num : Nat) (ht : t < 14) (hnum : num ≤ 96) (r k m : Nat) (st : List Int32) (hkr : k + r = num) (hm96 : m ≤ 96) (hm : st.length = m) (hs : stkAt (mem 232) st) (hR : mem 222 = R) (hF : mem 233 = F) (hnm : nm ≤ 4) (hwf : wfG R nm t r k m) (x : Option Value) (hQ : ∀ m2 : am_M, (∀ q, q ≠ 232 → m2 q = mem q) → Q (some (.int ((S_go R F t r k st).headD 0))) (am_SK n) m2) : am_ev kc_X12_worksOut (d + 2) 22 [some (.ref 221), some (.int (nI t)), some (.int (nI m)), some (.int (nI num)), some (.int (nI k)), x] [] (am_SK n) mem Q := by
  induction r generalizing k m st mem x with
  | zero =>
    have hkn : k = num := by omega
    subst hkn
    have hm1 : m = 1 := hwf
    subst hm1
    obtain ⟨a, rfl⟩ : ∃ a, st = [a] := by
      match st, hm with
      | [a], _ => exact ⟨a, rfl⟩
    have h0 : mem 232 0 = a := hs.1
    refine ev_iload rfl rfl ?_
    refine ev_iload rfl rfl ?_
    refine ev_icmp_ge (p2 := 157) rfl rfl (fun cnd25 => ?_) (fun cnd25 => ?_)
    · skip
      refine ev_aload rfl rfl ?_
      refine ev_getR (c := 12) (j := 21) rfl ?_ (hq := k_221 n)
      refine ev_iconst (x := nI 0) rfl rfl ?_
      refine ev_ialdN rfl (m := 0) (rfl) ?_ (hq := k_232 n)
      refine ev_iret rfl ?_
      rw [h0]
      exact hQ _ (fun _ _ => rfl)
    · exact absurd (Int32.le_refl _) cnd25
  | succ r ih =>
    obtain ⟨ha, hw2⟩ := hwf
    unfold S_go at hQ
    refine ev_iload rfl rfl ?_
    refine ev_iload rfl rfl ?_
    refine ev_icmp_ge (p2 := 157) rfl rfl (fun cnd25 => ?_) (fun cnd25 => ?_)
    · exact absurd ((nI_leI (by omega) (by omega)).mp cnd25) (by omega)
    · skip
      refine ev_aload rfl rfl ?_
      refine ev_getR (c := 12) (j := 0) rfl ?_ (hq := k_221 n)
      refine ev_iconst (x := nI 217) rfl rfl ?_
      refine ev_iconst (x := nI 96) rfl rfl ?_
      refine ev_iload rfl rfl ?_
      refine ev_imul rfl ?_
      refine ev_iadd rfl ?_
      refine ev_iload rfl rfl ?_
      refine ev_iadd rfl ?_
      refine ev_ialdN rfl (m := 217 + 96 * t + k) (by simp only [nI_add, pk_mul]) ?_ (hq := k_222 n)
      rw [hR]
      refine ev_istore rfl rfl (Nat.le_of_ble_eq_true rfl) ?_
      generalize R (217 + 96 * t + k) = v at ha hw2 hQ ⊢
      rcases ha with ⟨ha1, hm2⟩ | ha2 | ha3
      · obtain ⟨e1, g1⟩ := ha1
        generalize hav : nn v = a at e1 g1
        subst e1
        have hnl : ¬ nI a < 0 := nI_pos (by omega)
        unfold S_dp at hw2
        unfold S_stp at hQ
        rw [if_neg hnl] at hw2 hQ
        rw [hav] at hQ
        refine ev_iload rfl rfl ?_
        refine ev_if_lt (p2 := 87) rfl rfl (fun cnd48 => ?_) (fun cnd48 => ?_)
        · exact absurd cnd48 hnl
        · skip
          refine ev_aload rfl rfl ?_
          refine ev_getR (c := 12) (j := 21) rfl ?_ (hq := k_221 n)
          refine ev_iload rfl rfl ?_
          refine ev_iload rfl rfl ?_
          refine ev_iconst (x := nI 10000) rfl rfl ?_
          refine ev_icmp_ge (p2 := 69) rfl rfl (fun cnd61 => ?_) (fun cnd61 => ?_)
          · skip
            refine ev_aload rfl rfl ?_
            refine ev_getR (c := 12) (j := 22) rfl ?_ (hq := k_221 n)
            refine ev_iload rfl rfl ?_
            refine ev_iconst (x := nI 10000) rfl rfl ?_
            refine ev_isub rfl ?_
            rw [pk_sub ((nI_leI (by decide) (by omega)).mp cnd61)]
            rw [if_pos cnd61] at hQ
            refine ev_ialdN rfl (m := a - 10000) (rfl) ?_ (hq := k_233 n)
            try rw [hF]
            refine ev_iastN rfl (m := m) (rfl) ?_ (hq := k_232 n)
            refine ev_iinc rfl rfl rfl rfl ?_
            refine ev_goto (p2 := 151) rfl rfl ?_
            refine ev_iinc rfl rfl rfl rfl ?_
            refine ev_goto (p2 := 22) rfl rfl ?_
            change am_ev _ _ _ [some (.ref 221), some (.int (nI t)), some (.int (nI m + Int32.ofInt 1)), some (.int (nI num)), some (.int (nI k + Int32.ofInt 1)), some (.int (nI a))] _ _ _ _
            rw [nI_inc1, nI_inc1]
            refine ih _ _ (F (a - 10000) :: st) ?_ ?_ ?_ ?_ ?_ ?_ ?_ _ (fun m2 h2 => ?_)
            · omega
            · omega
            · exact (by rw [List.length_cons, hm])
            · exact (stkAt_mem hs hm)
            · exact (am_up_ne (by decide)).trans hR
            · exact (am_up_ne (by decide)).trans hF
            · exact hw2
            refine hQ m2 (fun q hq => ?_)
            rw [h2 q hq, am_up_ne hq]
          · skip
            refine ev_iload rfl rfl ?_
            refine ev_goto (p2 := 80) rfl rfl ?_
            try rw [hF]
            refine ev_iastN rfl (m := m) (rfl) ?_ (hq := k_232 n)
            refine ev_iinc rfl rfl rfl rfl ?_
            refine ev_goto (p2 := 151) rfl rfl ?_
            refine ev_iinc rfl rfl rfl rfl ?_
            refine ev_goto (p2 := 22) rfl rfl ?_
            rw [if_neg cnd61] at hQ
            change am_ev _ _ _ [some (.ref 221), some (.int (nI t)), some (.int (nI m + Int32.ofInt 1)), some (.int (nI num)), some (.int (nI k + Int32.ofInt 1)), some (.int (nI a))] _ _ _ _
            rw [nI_inc1, nI_inc1]
            refine ih _ _ (nI a :: st) ?_ ?_ ?_ ?_ ?_ ?_ ?_ _ (fun m2 h2 => ?_)
            · omega
            · omega
            · exact (by rw [List.length_cons, hm])
            · exact (stkAt_mem hs hm)
            · exact (am_up_ne (by decide)).trans hR
            · exact (am_up_ne (by decide)).trans hF
            · exact hw2
            refine hQ m2 (fun q hq => ?_)
            rw [h2 q hq, am_up_ne hq]
      · obtain ⟨rfl, hm1⟩ := ha2
        obtain ⟨a, r2, rfl⟩ : ∃ a r2, st = a :: r2 := by
          match st, hm with
          | [], h => exact absurd h (by simp only [List.length_nil]; omega)
          | a :: r2, _ => exact ⟨a, r2, rfl⟩
        obtain rfl : m = r2.length + 1 := hm.symm
        have hsa : mem 232 r2.length = a := hs.1
        unfold S_dp at hw2
        unfold S_stp at hQ
        rw [if_pos (by decide), if_pos rfl] at hw2 hQ
        refine ev_iload rfl rfl ?_
        refine ev_if_lt (p2 := 87) rfl rfl (fun cnd48 => ?_) (fun cnd48 => ?_)
        · skip
          refine ev_iload rfl rfl ?_
          refine ev_iconst (x := (-10)) rfl rfl ?_
          refine ev_icmp_ne (p2 := 121) rfl rfl (fun cnd91 => ?_) (fun cnd91 => ?_)
          · exact absurd rfl cnd91
          · skip
            refine ev_aload rfl rfl ?_
            refine ev_getR (c := 12) (j := 21) rfl ?_ (hq := k_221 n)
            refine ev_iload rfl rfl ?_
            refine ev_iconst (x := nI 1) rfl rfl ?_
            refine ev_isub rfl ?_
            rw [nI_pre1]
            refine ev_aload rfl rfl ?_
            refine ev_getR (c := 12) (j := 21) rfl ?_ (hq := k_221 n)
            refine ev_iload rfl rfl ?_
            refine ev_iconst (x := nI 1) rfl rfl ?_
            refine ev_isub rfl ?_
            rw [nI_pre1]
            refine ev_ialdN rfl (m := r2.length) (rfl) ?_ (hq := k_232 n)
            rw [hsa]
            refine ev_if_ne (p2 := 116) rfl rfl (fun cnd109 => ?_) (fun cnd109 => ?_)
            · skip
              refine ev_iconst (x := nI 0) rfl rfl ?_
              refine ev_iastN rfl (m := r2.length) (rfl) ?_ (hq := k_232 n)
              refine ev_goto (p2 := 151) rfl rfl ?_
              refine ev_iinc rfl rfl rfl rfl ?_
              refine ev_goto (p2 := 22) rfl rfl ?_
              have ho : ob (decide (a = 0)) = nI 0 := by rw [decide_eq_false cnd109]; rfl
              simp only [ho] at hQ
              change am_ev _ _ _ [some (.ref 221), some (.int (nI t)), some (.int (nI (r2.length + 1))), some (.int (nI num)), some (.int (nI k + Int32.ofInt 1)), some (.int (-10))] _ _ _ _
              rw [nI_inc1]
              refine ih _ _ (nI 0 :: r2) ?_ ?_ ?_ ?_ ?_ ?_ ?_ _ (fun m2 h2 => ?_)
              · omega
              · omega
              · exact rfl
              · exact (stkAt_mem hs.2 rfl)
              · exact (am_up_ne (by decide)).trans hR
              · exact (am_up_ne (by decide)).trans hF
              · exact hw2
              refine hQ m2 (fun q hq => ?_)
              rw [h2 q hq, am_up_ne hq]
            · skip
              refine ev_iconst (x := nI 1) rfl rfl ?_
              refine ev_goto (p2 := 117) rfl rfl ?_
              refine ev_iastN rfl (m := r2.length) (rfl) ?_ (hq := k_232 n)
              refine ev_goto (p2 := 151) rfl rfl ?_
              refine ev_iinc rfl rfl rfl rfl ?_
              refine ev_goto (p2 := 22) rfl rfl ?_
              have ho : ob (decide (a = 0)) = nI 1 := by rw [decide_eq_true cnd109]; rfl
              simp only [ho] at hQ
              change am_ev _ _ _ [some (.ref 221), some (.int (nI t)), some (.int (nI (r2.length + 1))), some (.int (nI num)), some (.int (nI k + Int32.ofInt 1)), some (.int (-10))] _ _ _ _
              rw [nI_inc1]
              refine ih _ _ (nI 1 :: r2) ?_ ?_ ?_ ?_ ?_ ?_ ?_ _ (fun m2 h2 => ?_)
              · omega
              · omega
              · exact rfl
              · exact (stkAt_mem hs.2 rfl)
              · exact (am_up_ne (by decide)).trans hR
              · exact (am_up_ne (by decide)).trans hF
              · exact hw2
              refine hQ m2 (fun q hq => ?_)
              rw [h2 q hq, am_up_ne hq]
        · exact absurd (by decide) cnd48
      · obtain ⟨hsg, hm1⟩ := ha3
        have hv0 : v < 0 := by rcases hsg with rfl | rfl | rfl | rfl | rfl | rfl | rfl | rfl | rfl <;> decide
        have hv10 : ¬ v = -10 := by rcases hsg with rfl | rfl | rfl | rfl | rfl | rfl | rfl | rfl | rfl <;> decide
        obtain ⟨b, a, r2, rfl⟩ : ∃ b a r2, st = b :: a :: r2 := by
          match st, hm with
          | [], h => exact absurd h (by simp only [List.length_nil]; omega)
          | [_], h => exact absurd h (by simp only [List.length_cons, List.length_nil]; omega)
          | b :: a :: r2, _ => exact ⟨b, a, r2, rfl⟩
        obtain rfl : m = r2.length + 1 + 1 := hm.symm
        have hsb : mem 232 (r2.length + 1) = b := hs.1
        have hsa : mem 232 r2.length = a := hs.2.1
        unfold S_dp at hw2
        unfold S_stp at hQ
        rw [if_pos hv0, if_neg hv10] at hw2 hQ
        refine ev_iload rfl rfl ?_
        refine ev_if_lt (p2 := 87) rfl rfl (fun cnd48 => ?_) (fun cnd48 => ?_)
        · skip
          refine ev_iload rfl rfl ?_
          refine ev_iconst (x := (-10)) rfl rfl ?_
          refine ev_icmp_ne (p2 := 121) rfl rfl (fun cnd91 => ?_) (fun cnd91 => ?_)
          · skip
            refine ev_iinc rfl rfl rfl rfl ?_
            change am_ev _ _ _ [some (.ref 221), some (.int (nI t)), some (.int (nI (r2.length + 1 + 1) + Int32.ofInt (-1))), some (.int (nI num)), some (.int (nI k)), some (.int (v))] _ _ _ _
            rw [nI_dec1]
            refine ev_aload rfl rfl ?_
            refine ev_getR (c := 12) (j := 21) rfl ?_ (hq := k_221 n)
            refine ev_iload rfl rfl ?_
            refine ev_iconst (x := nI 1) rfl rfl ?_
            refine ev_isub rfl ?_
            rw [nI_pre1]
            refine ev_iload rfl rfl ?_
            refine ev_aload rfl rfl ?_
            refine ev_getR (c := 12) (j := 21) rfl ?_ (hq := k_221 n)
            refine ev_iload rfl rfl ?_
            refine ev_iconst (x := nI 1) rfl rfl ?_
            refine ev_isub rfl ?_
            rw [nI_pre1]
            refine ev_ialdN rfl (m := r2.length) (rfl) ?_ (hq := k_232 n)
            rw [hsa]
            refine ev_aload rfl rfl ?_
            refine ev_getR (c := 12) (j := 21) rfl ?_ (hq := k_221 n)
            refine ev_iload rfl rfl ?_
            refine ev_ialdN rfl (m := r2.length + 1) (rfl) ?_ (hq := k_232 n)
            rw [hsb]
            refine ev_call rfl rfl ?_
            refine c_X12_two v a b hsg ?_
            change am_ev _ _ _ _ (_ :: _) _ _ _
            refine ev_iastN rfl (m := r2.length) (rfl) ?_ (hq := k_232 n)
            refine ev_iinc rfl rfl rfl rfl ?_
            refine ev_goto (p2 := 22) rfl rfl ?_
            change am_ev _ _ _ [some (.ref 221), some (.int (nI t)), some (.int (nI (r2.length + 1))), some (.int (nI num)), some (.int (nI k + Int32.ofInt 1)), some (.int (v))] _ _ _ _
            rw [nI_inc1]
            refine ih _ _ (S_two v a b :: r2) ?_ ?_ ?_ ?_ ?_ ?_ ?_ _ (fun m2 h2 => ?_)
            · omega
            · omega
            · exact rfl
            · exact (stkAt_mem hs.2.2 rfl)
            · exact (am_up_ne (by decide)).trans hR
            · exact (am_up_ne (by decide)).trans hF
            · exact hw2
            refine hQ m2 (fun q hq => ?_)
            rw [h2 q hq, am_up_ne hq]
          · exact absurd cnd91 hv10
        · exact absurd hv0 cnd48
theorem c_X12_worksOut {d n : Nat} {mem : am_M} {Q : am_P} (t : Nat) (ht : t < 14) (hwf : wfT (mem 222) t) (hQ : ∀ m2 : am_M, (∀ q, q ≠ 232 → m2 q = mem q) → Q (some (.int (S_val (mem 222) (mem 233) t))) (am_SK n) m2) : am_ex (d + 3) 201 [.ref 221, .int (nI t)] (am_SK n) mem Q := by
  obtain ⟨⟨e1, g1⟩, hnum, hg⟩ := hwf
  unfold S_val at hQ
  unfold S_num at hnum hg hQ
  refine ex_in (c0 := kc_X12_worksOut) rfl (L := [some (.ref 221), some (.int (nI t)), none, none, none, none]) rfl ?_
  refine ev_iconst (x := nI 0) rfl rfl ?_
  refine ev_istore rfl rfl (Nat.le_of_ble_eq_true rfl) ?_
  refine ev_aload rfl rfl ?_
  refine ev_getR (c := 12) (j := 0) rfl ?_ (hq := k_221 n)
  refine ev_iconst (x := nI 189) rfl rfl ?_
  refine ev_iconst (x := nI 2) rfl rfl ?_
  refine ev_iload rfl rfl ?_
  refine ev_imul rfl ?_
  refine ev_iadd rfl ?_
  refine ev_ialdN rfl (m := 189 + 2 * t) (by simp only [nI_add, pk_mul]) ?_ (hq := k_222 n)
  rw [e1]
  refine ev_iconst (x := nI 1000) rfl rfl ?_
  refine ev_irem rfl ?_
  rw [pk_rem (by omega) (by decide) (by decide)]
  refine ev_istore rfl rfl (Nat.le_of_ble_eq_true rfl) ?_
  refine ev_iconst (x := nI 0) rfl rfl ?_
  refine ev_istore rfl rfl (Nat.le_of_ble_eq_true rfl) ?_
  exact l_X12_worksOut (mem 222) (mem 233) _ t _ ht hnum _ 0 0 [] (Nat.zero_add _) (by decide) rfl trivial rfl rfl (by split <;> decide) hg _ hQ
