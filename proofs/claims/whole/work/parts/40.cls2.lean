/-! the class: what a text gives -/
theorem S_nm_b (key i : Nat) : 97 ≤ S_nm key i ∧ S_nm key i ≤ 122 := by
  unfold S_nm
  repeat' split
  all_goals decide
theorem neg_lt0 {b : Nat} (h0 : 0 < b) (hb : b < 2 ^ 31) : -(nI b) < 0 := by
  have e : (nI b).toInt = (b : Int) := nI_toInt hb
  rw [Int32.lt_iff_toInt_lt, Int32.toInt_neg, e, Int.bmod_eq_of_le (by omega) (by omega)]
  show -(b : Int) < 0
  omega
theorem neg_n0 {b : Nat} (h0 : 0 < b) (hb : b < 2 ^ 31) : ¬ 0 ≤ -(nI b) := by
  have h := neg_lt0 h0 hb
  rw [Int32.le_iff_toInt_le]
  rw [Int32.lt_iff_toInt_lt] at h
  omega
def S_giv (R F : am_R) (key : Nat) (w : Int32) : Int32 := match S_cnt R key (nn (R 6)) with
  | none => w
  | some u => S_val R F u
def S_Fk (R : am_R) (key : Nat) (ofc kd dr : Int32) : am_R := if key = 1 then S_F kd dr ofc else if key = 3 then S_F (R 0) ofc 0 else S_F (R 0) (R 1) ofc
theorem c_X0_isLetter {d n : Nat} {mem : am_M} {Q : am_P} (b : Nat) (hb : b < 2 ^ 31) (hQ : Q (some (.int (am_b (97 ≤ b ∧ b ≤ 122)))) (am_SK n) mem) : am_ex (d + 1) 3 [.int (nI b)] (am_SK n) mem Q := by
  refine ex_in (c0 := kc_X0_isLetter) rfl (L := [some (.int (nI b))]) rfl ?_
  refine ev_iload rfl rfl ?_
  refine ev_iconst (x := nI 97) rfl rfl ?_
  refine ev_icmp_ltN (p2 := 16) rfl rfl (fun cnd3 => ?_) (fun cnd3 => ?_)
  · skip
    refine ev_iconst (x := nI 0) rfl rfl ?_
    refine ev_zret rfl ?_
    refine am_leaf hQ ?_
    unfold am_b
    split <;> first | rfl | (exfalso; omega)
  · skip
    refine ev_iload rfl rfl ?_
    refine ev_iconst (x := nI 122) rfl rfl ?_
    refine ev_icmp_gtN (p2 := 16) rfl rfl (fun cnd9 => ?_) (fun cnd9 => ?_)
    · skip
      refine ev_iconst (x := nI 0) rfl rfl ?_
      refine ev_zret rfl ?_
      refine am_leaf hQ ?_
      unfold am_b
      split <;> first | rfl | (exfalso; omega)
    · skip
      refine ev_iconst (x := nI 1) rfl rfl ?_
      refine ev_goto (p2 := 17) rfl rfl ?_
      refine ev_zret rfl ?_
      refine am_leaf hQ ?_
      unfold am_b
      split <;> first | rfl | (exfalso; omega)
theorem c_X0_worth {d n : Nat} {mem : am_M} {Q : am_P} (sg a b : Int32) (hsg : sg = -1 ∨ sg = -2 ∨ sg = -3 ∨ sg = -4 ∨ sg = -5 ∨ sg = -6 ∨ sg = -7 ∨ sg = -8 ∨ sg = -9) (hQ : Q (some (.int (S_two sg a b))) (am_SK n) mem) : am_ex (d + 1) 2 [.int a, .int (nI (S_sgn sg)), .int b] (am_SK n) mem Q := by
  rcases hsg with rfl | rfl | rfl | rfl | rfl | rfl | rfl | rfl | rfl
  · refine ex_in (c0 := kc_X0_worth) rfl (L := [some (.int a), some (.int (nI (S_sgn (-1)))), some (.int b)]) rfl ?_
    refine ev_iload rfl rfl ?_
    refine ev_lswC (p2 := 84) rfl (by first | rfl | decide) rfl ?_
    refine ev_iload rfl rfl ?_
    refine ev_if_ne (p2 := 92) rfl rfl (fun cnd85 => ?_) (fun cnd85 => ?_)
    · skip
      refine ev_iconst (x := nI 1) rfl rfl ?_
      refine ev_goto (p2 := 97) rfl rfl ?_
      refine ev_iret rfl ?_
      refine am_leaf hQ ?_
      simp_all [S_two, ob, nI_0] <;> rfl
    · skip
      refine ev_iload rfl rfl ?_
      refine ev_if_eq (p2 := 96) rfl rfl (fun cnd89 => ?_) (fun cnd89 => ?_)
      · skip
        refine ev_iconst (x := nI 0) rfl rfl ?_
        refine ev_iret rfl ?_
        refine am_leaf hQ ?_
        simp_all [S_two, ob, nI_0] <;> rfl
      · skip
        refine ev_iconst (x := nI 1) rfl rfl ?_
        refine ev_goto (p2 := 97) rfl rfl ?_
        refine ev_iret rfl ?_
        refine am_leaf hQ ?_
        simp_all [S_two, ob, nI_0] <;> rfl
  · refine ex_in (c0 := kc_X0_worth) rfl (L := [some (.int a), some (.int (nI (S_sgn (-2)))), some (.int b)]) rfl ?_
    refine ev_iload rfl rfl ?_
    refine ev_lswC (p2 := 98) rfl (by first | rfl | decide) rfl ?_
    refine ev_iload rfl rfl ?_
    refine ev_if_eq (p2 := 110) rfl rfl (fun cnd99 => ?_) (fun cnd99 => ?_)
    · skip
      refine ev_iconst (x := nI 0) rfl rfl ?_
      refine ev_iret rfl ?_
      refine am_leaf hQ ?_
      simp_all [S_two, ob, nI_0] <;> rfl
    · skip
      refine ev_iload rfl rfl ?_
      refine ev_if_eq (p2 := 110) rfl rfl (fun cnd103 => ?_) (fun cnd103 => ?_)
      · skip
        refine ev_iconst (x := nI 0) rfl rfl ?_
        refine ev_iret rfl ?_
        refine am_leaf hQ ?_
        simp_all [S_two, ob, nI_0] <;> rfl
      · skip
        refine ev_iconst (x := nI 1) rfl rfl ?_
        refine ev_goto (p2 := 111) rfl rfl ?_
        refine ev_iret rfl ?_
        refine am_leaf hQ ?_
        simp_all [S_two, ob, nI_0] <;> rfl
  · refine ex_in (c0 := kc_X0_worth) rfl (L := [some (.int a), some (.int (nI (S_sgn (-3)))), some (.int b)]) rfl ?_
    refine ev_iload rfl rfl ?_
    refine ev_lswC (p2 := 112) rfl (by first | rfl | decide) rfl ?_
    refine ev_iload rfl rfl ?_
    refine ev_iload rfl rfl ?_
    refine ev_icmp_ge (p2 := 121) rfl rfl (fun cnd114 => ?_) (fun cnd114 => ?_)
    · skip
      refine ev_iconst (x := nI 0) rfl rfl ?_
      refine ev_iret rfl ?_
      refine am_leaf hQ ?_
      simp_all [S_two, ob, nI_0] <;> rfl
    · skip
      refine ev_iconst (x := nI 1) rfl rfl ?_
      refine ev_goto (p2 := 122) rfl rfl ?_
      refine ev_iret rfl ?_
      refine am_leaf hQ ?_
      simp_all [S_two, ob, nI_0] <;> rfl
  · refine ex_in (c0 := kc_X0_worth) rfl (L := [some (.int a), some (.int (nI (S_sgn (-4)))), some (.int b)]) rfl ?_
    refine ev_iload rfl rfl ?_
    refine ev_lswC (p2 := 123) rfl (by first | rfl | decide) rfl ?_
    refine ev_iload rfl rfl ?_
    refine ev_iload rfl rfl ?_
    refine ev_icmp_ne (p2 := 132) rfl rfl (fun cnd125 => ?_) (fun cnd125 => ?_)
    · skip
      refine ev_iconst (x := nI 0) rfl rfl ?_
      refine ev_iret rfl ?_
      refine am_leaf hQ ?_
      simp_all [S_two, ob, nI_0] <;> rfl
    · skip
      refine ev_iconst (x := nI 1) rfl rfl ?_
      refine ev_goto (p2 := 133) rfl rfl ?_
      refine ev_iret rfl ?_
      refine am_leaf hQ ?_
      simp_all [S_two, ob, nI_0] <;> rfl
  · refine ex_in (c0 := kc_X0_worth) rfl (L := [some (.int a), some (.int (nI (S_sgn (-5)))), some (.int b)]) rfl ?_
    refine ev_iload rfl rfl ?_
    refine ev_lswC (p2 := 134) rfl (by first | rfl | decide) rfl ?_
    refine ev_iload rfl rfl ?_
    refine ev_iload rfl rfl ?_
    refine ev_icmp_le (p2 := 143) rfl rfl (fun cnd136 => ?_) (fun cnd136 => ?_)
    · skip
      refine ev_iconst (x := nI 0) rfl rfl ?_
      refine ev_iret rfl ?_
      refine am_leaf hQ ?_
      simp_all [S_two, ob, nI_0] <;> rfl
    · skip
      refine ev_iconst (x := nI 1) rfl rfl ?_
      refine ev_goto (p2 := 144) rfl rfl ?_
      refine ev_iret rfl ?_
      refine am_leaf hQ ?_
      simp_all [S_two, ob, nI_0] <;> rfl
  · refine ex_in (c0 := kc_X0_worth) rfl (L := [some (.int a), some (.int (nI (S_sgn (-6)))), some (.int b)]) rfl ?_
    refine ev_iload rfl rfl ?_
    refine ev_lswC (p2 := 145) rfl (by first | rfl | decide) rfl ?_
    refine ev_iload rfl rfl ?_
    refine ev_iload rfl rfl ?_
    refine ev_iadd rfl ?_
    refine ev_iret rfl ?_
    refine am_leaf hQ ?_
    simp_all [S_two, ob, nI_0] <;> rfl
  · refine ex_in (c0 := kc_X0_worth) rfl (L := [some (.int a), some (.int (nI (S_sgn (-7)))), some (.int b)]) rfl ?_
    refine ev_iload rfl rfl ?_
    refine ev_lswC (p2 := 149) rfl (by first | rfl | decide) rfl ?_
    refine ev_iload rfl rfl ?_
    refine ev_iload rfl rfl ?_
    refine ev_isub rfl ?_
    refine ev_iret rfl ?_
    refine am_leaf hQ ?_
    simp_all [S_two, ob, nI_0] <;> rfl
  · refine ex_in (c0 := kc_X0_worth) rfl (L := [some (.int a), some (.int (nI (S_sgn (-8)))), some (.int b)]) rfl ?_
    refine ev_iload rfl rfl ?_
    refine ev_lswC (p2 := 153) rfl (by first | rfl | decide) rfl ?_
    refine ev_iload rfl rfl ?_
    refine ev_iload rfl rfl ?_
    refine ev_imul rfl ?_
    refine ev_iret rfl ?_
    refine am_leaf hQ ?_
    simp_all [S_two, ob, nI_0] <;> rfl
  · refine ex_in (c0 := kc_X0_worth) rfl (L := [some (.int a), some (.int (nI (S_sgn (-9)))), some (.int b)]) rfl ?_
    refine ev_iload rfl rfl ?_
    refine ev_lswC (p2 := 157) rfl (by first | rfl | decide) rfl ?_
    refine ev_iload rfl rfl ?_
    refine ev_if_ne (p2 := 165) rfl rfl (fun cnd158 => ?_) (fun cnd158 => ?_)
    · skip
      refine ev_iload rfl rfl ?_
      refine ev_iload rfl rfl ?_
      refine ev_idiv rfl ?_
      refine ev_iret rfl ?_
      refine am_leaf hQ ?_
      simp_all [S_two, ob, nI_0] <;> rfl
    · skip
      refine ev_iconst (x := nI 0) rfl rfl ?_
      refine ev_goto (p2 := 168) rfl rfl ?_
      refine ev_iret rfl ?_
      refine am_leaf hQ ?_
      simp_all [S_two, ob, nI_0] <;> rfl
theorem l_X0_gives {d n : Nat} {Q : am_P} (R F : am_R) (key nm u : Nat) (hu : u < 14) (hnm : nm ≤ 3) (hn96 : S_num R u ≤ 96) (x1 x2 x3 x4 x5 x6 x7 : Option Value) (r : Nat) : ∀ (mem : am_M) (k m : Nat) (st : List Int32) (hkr : k + r = S_num R u) (hm96 : m ≤ 96) (hm : st.length = m) (hs : stkAt (mem 33) st) (hN : ∀ i, i < nm → mem 32 (S_nm key i - 97) = F i) (hsz : mem (34 + 2 * u) 2 = nI (S_num R u)) (hcd : ∀ k, k < S_num R u → mem (35 + 2 * u) k = S_enc key (R (217 + 96 * u + k))) (hwf : wfG R nm u r k m) (x11 : Option Value) (hQ : ∀ m2 : am_M, (∀ q, q ≠ 33 → m2 q = mem q) → Q (some (.int ((S_go R F u r k st).headD 0))) (am_SK n) m2), am_ev kc_X0_gives (d + 2) 84 [some (.ref 30), x1, x2, x3, x4, x5, x6, x7, some (.ref (34 + 2 * u)), some (.int (nI m)), some (.int (nI k)), x11] [] (am_SK n) mem Q := by
  induction r with
  | zero =>
    intro mem k m st hkr hm96 hm hs hN hsz hcd hwf x11 hQ
    have hm1 : m = 1 := hwf
    subst hm1
    refine ev_iload rfl rfl ?_
    refine ev_aload rfl rfl ?_
    refine ev_getI (c := 8) (j := 2) rfl ?_ (hq := kb_text n (by omega))
    rw [hsz]
    refine ev_icmp_geN (p2 := 242) rfl rfl (fun cnd91 => ?_) (fun cnd91 => ?_)
    · skip
      refine ev_aload rfl rfl ?_
      refine ev_getR (c := 0) (j := 2) rfl ?_ (hq := k_30 n)
      refine ev_iconst (x := nI 0) rfl rfl ?_
      refine ev_ialdN rfl rfl ?_ (hq := k_33 n)
      refine ev_iret rfl ?_
      match st, hm, hs with
      | [a], _, hs =>
        rw [show mem 33 0 = a from hs.1]
        exact hQ mem (fun _ _ => rfl)
    · omega
  | succ r ih =>
    intro mem k m st hkr hm96 hm hs hN hsz hcd hwf x11 hQ
    obtain ⟨hA, hG⟩ := hwf
    have hk : k < S_num R u := by omega
    have hcv := hcd k hk
    unfold S_go at hQ
    generalize R (217 + 96 * u + k) = v at hA hG hQ hcv
    have ih2 : ∀ (mm : Nat) (st2 : List Int32) (mem2 : am_M), mm ≤ 96 → st2.length = mm → stkAt (mem2 33) st2 → (∀ q, q ≠ 33 → mem2 q = mem q) → wfG R nm u r (k + 1) mm → (∀ m2 : am_M, (∀ q, q ≠ 33 → m2 q = mem q) → Q (some (.int ((S_go R F u r (k + 1) st2).headD 0))) (am_SK n) m2) → ∀ x : Option Value, am_ev kc_X0_gives (d + 2) 84 [some (.ref 30), x1, x2, x3, x4, x5, x6, x7, some (.ref (34 + 2 * u)), some (.int (nI mm)), some (.int (nI (k + 1))), x] [] (am_SK n) mem2 Q := by
      intro mm st2 mem2 a1 a2 a3 a4 a5 a6 x
      refine ih mem2 (k + 1) mm st2 (by omega) a1 a2 a3 ?_ ?_ ?_ a5 x ?_
      · intro i hi; rw [a4 32 (by decide)]; exact hN i hi
      · rw [a4 (34 + 2 * u) (by omega)]; exact hsz
      · intro j hj; rw [a4 (35 + 2 * u) (by omega)]; exact hcd j hj
      · intro m2 h2
        exact a6 m2 (fun q hq => (h2 q hq).trans (a4 q hq))
    rcases hA with ⟨⟨ev, gv⟩, hm9⟩ | ⟨rfl, hm9⟩ | ⟨hv, hm9⟩
    · have h0 : ¬ v < 0 := by rw [ev]; exact nI_pos (by omega)
      by_cases h1 : nn v < 10000
      · have h2 : ¬ nI 10000 ≤ v := by rw [ev, nI_leI (by decide) (by omega)]; omega
        rw [show S_enc key v = v by unfold S_enc; rw [if_neg h0, if_neg h2]] at hcv
        rw [show S_stp F v st = v :: st by unfold S_stp; rw [if_neg h0, if_neg h2]] at hQ
        rw [show S_dp v m = m + 1 by unfold S_dp; rw [if_neg h0]] at hG
        generalize nn v = a at ev gv h1
        subst ev
        refine ev_iload rfl rfl ?_
        refine ev_aload rfl rfl ?_
        refine ev_getI (c := 8) (j := 2) rfl ?_ (hq := kb_text n (by omega))
        rw [hsz]
        refine ev_icmp_geN (p2 := 242) rfl rfl (fun cnd91 => ?_) (fun cnd91 => ?_)
        · omega
        · skip
          refine ev_aload rfl rfl ?_
          refine ev_getR (c := 8) (j := 3) rfl ?_ (hq := kb_text n (by omega))
          refine ev_iload rfl rfl ?_
          refine ev_ialdN rfl rfl ?_ (hq := kb_code n (by omega))
          rw [hcv]
          refine ev_istore rfl rfl (Nat.le_of_ble_eq_true rfl) ?_
          refine ev_iload rfl rfl ?_
          refine ev_if_geN (p2 := 118) rfl rfl ?_
          refine ev_aload rfl rfl ?_
          refine ev_getR (c := 0) (j := 2) rfl ?_ (hq := k_30 n)
          refine ev_iload rfl rfl ?_
          refine ev_iload rfl rfl ?_
          refine ev_if_ltN rfl ?_
          refine ev_iload rfl rfl ?_
          refine ev_goto (p2 := 145) rfl rfl ?_
          refine ev_iastN rfl rfl ?_ (hq := k_33 n)
          refine ev_iincN rfl rfl rfl ?_
          refine ev_goto (p2 := 236) rfl rfl ?_
          refine ev_iincN rfl rfl rfl ?_
          refine ev_goto (p2 := 84) rfl rfl ?_
          exact ih2 (m + 1) _ _ (by omega) (by rw [List.length_cons, hm]) (stkAt_mem hs hm) (fun q hq => am_up_ne hq) hG hQ _
      · have h2 : nI 10000 ≤ v := by rw [ev, nI_leI (by decide) (by omega)]; omega
        rw [show S_enc key v = -(nI (S_nm key (nn v - 10000))) by unfold S_enc; rw [if_neg h0, if_pos h2]] at hcv
        rw [show S_stp F v st = F (nn v - 10000) :: st by unfold S_stp; rw [if_neg h0, if_pos h2]] at hQ
        rw [show S_dp v m = m + 1 by unfold S_dp; rw [if_neg h0]] at hG
        have hb := S_nm_b key (nn v - 10000)
        have hF := hN (nn v - 10000) (by omega)
        generalize S_nm key (nn v - 10000) = b at hcv hb hF
        refine ev_iload rfl rfl ?_
        refine ev_aload rfl rfl ?_
        refine ev_getI (c := 8) (j := 2) rfl ?_ (hq := kb_text n (by omega))
        rw [hsz]
        refine ev_icmp_geN (p2 := 242) rfl rfl (fun cnd91 => ?_) (fun cnd91 => ?_)
        · omega
        · skip
          refine ev_aload rfl rfl ?_
          refine ev_getR (c := 8) (j := 3) rfl ?_ (hq := kb_text n (by omega))
          refine ev_iload rfl rfl ?_
          refine ev_ialdN rfl rfl ?_ (hq := kb_code n (by omega))
          rw [hcv]
          refine ev_istore rfl rfl (Nat.le_of_ble_eq_true rfl) ?_
          refine ev_iload rfl rfl ?_
          refine ev_if_ge (p2 := 118) rfl rfl (fun cnd106 => ?_) (fun cnd106 => ?_)
          · exact absurd cnd106 (neg_n0 (by omega) (by omega))
          · skip
            refine ev_iload rfl rfl ?_
            refine ev_ineg rfl ?_
            rw [Int32.neg_neg]
            refine ev_call rfl rfl ?_
            refine c_X0_isLetter b (by omega) ?_
            change am_ev _ _ _ _ (_ :: _) _ _ _
            refine ev_if_eqB (p2 := 152) rfl rfl (fun cnd115 => ?_) (fun cnd115 => ?_)
            · omega
            · skip
              refine ev_aload rfl rfl ?_
              refine ev_getR (c := 0) (j := 2) rfl ?_ (hq := k_30 n)
              refine ev_iload rfl rfl ?_
              refine ev_iload rfl rfl ?_
              refine ev_if_lt (p2 := 134) rfl rfl (fun cnd126 => ?_) (fun cnd126 => ?_)
              · skip
                refine ev_aload rfl rfl ?_
                refine ev_getR (c := 0) (j := 1) rfl ?_ (hq := k_30 n)
                refine ev_iload rfl rfl ?_
                refine ev_ineg rfl ?_
                rw [Int32.neg_neg]
                refine ev_iconst (x := nI 97) rfl rfl ?_
                refine ev_isubN rfl ?_
                refine ev_ialdN rfl rfl ?_ (hq := k_32 n)
                rw [hF]
                refine ev_iastN rfl rfl ?_ (hq := k_33 n)
                refine ev_iincN rfl rfl rfl ?_
                refine ev_goto (p2 := 236) rfl rfl ?_
                refine ev_iincN rfl rfl rfl ?_
                refine ev_goto (p2 := 84) rfl rfl ?_
                exact ih2 (m + 1) _ _ (by omega) (by rw [List.length_cons, hm]) (stkAt_mem hs hm) (fun q hq => am_up_ne hq) hG hQ _
              · exact absurd (neg_lt0 (by omega) (by omega)) cnd126
    · rw [show S_enc key (-10) = -(nI 33) by rfl] at hcv
      rw [show S_dp (-10) m = m by rfl] at hG
      match st, hm, hs with
      | a :: r2, hm, hs =>
      have hrl : r2.length = m - 1 := by rw [← hm]; rfl
      have hs1 : mem 33 (m - 1) = a := by rw [← hrl]; exact hs.1
      rw [show S_stp F (-10) (a :: r2) = ob (decide (a = 0)) :: r2 by rfl] at hQ
      refine ev_iload rfl rfl ?_
      refine ev_aload rfl rfl ?_
      refine ev_getI (c := 8) (j := 2) rfl ?_ (hq := kb_text n (by omega))
      rw [hsz]
      refine ev_icmp_geN (p2 := 242) rfl rfl (fun cnd91 => ?_) (fun cnd91 => ?_)
      · omega
      · skip
        refine ev_aload rfl rfl ?_
        refine ev_getR (c := 8) (j := 3) rfl ?_ (hq := kb_text n (by omega))
        refine ev_iload rfl rfl ?_
        refine ev_ialdN rfl rfl ?_ (hq := kb_code n (by omega))
        rw [hcv]
        refine ev_istore rfl rfl (Nat.le_of_ble_eq_true rfl) ?_
        refine ev_iload rfl rfl ?_
        refine ev_if_ge (p2 := 118) rfl rfl (fun cnd106 => ?_) (fun cnd106 => ?_)
        · exact absurd cnd106 (neg_n0 (by decide) (by decide))
        · skip
          refine ev_iload rfl rfl ?_
          refine ev_ineg rfl ?_
          rw [Int32.neg_neg]
          refine ev_call rfl rfl ?_
          refine c_X0_isLetter 33 (by decide) ?_
          change am_ev _ _ _ _ (_ :: _) _ _ _
          refine ev_if_eqB (p2 := 152) rfl rfl (fun cnd115 => ?_) (fun cnd115 => ?_)
          · skip
            refine ev_iload rfl rfl ?_
            refine ev_iconst (x := (-33)) rfl rfl ?_
            refine ev_icmp_ne (p2 := 194) rfl rfl (fun cnd156 => ?_) (fun cnd156 => ?_)
            · exact absurd rfl cnd156
            · skip
              refine ev_iload rfl rfl ?_
              refine ev_iconst (x := nI 1) rfl rfl ?_
              refine ev_icmp_ltN (p2 := 236) rfl rfl (fun cnd162 => ?_) (fun cnd162 => ?_)
              · omega
              · skip
                refine ev_aload rfl rfl ?_
                refine ev_getR (c := 0) (j := 2) rfl ?_ (hq := k_30 n)
                refine ev_iload rfl rfl ?_
                refine ev_iconst (x := nI 1) rfl rfl ?_
                refine ev_isubN rfl ?_
                refine ev_aload rfl rfl ?_
                refine ev_getR (c := 0) (j := 2) rfl ?_ (hq := k_30 n)
                refine ev_iload rfl rfl ?_
                refine ev_iconst (x := nI 1) rfl rfl ?_
                refine ev_isubN rfl ?_
                refine ev_ialdN rfl rfl ?_ (hq := k_33 n)
                rw [hs1]
                refine ev_if_ne (p2 := 189) rfl rfl (fun cnd182 => ?_) (fun cnd182 => ?_)
                · skip
                  refine ev_iconst (x := nI 0) rfl rfl ?_
                  refine ev_iastN rfl rfl ?_ (hq := k_33 n)
                  refine ev_goto (p2 := 236) rfl rfl ?_
                  refine ev_iincN rfl rfl rfl ?_
                  refine ev_goto (p2 := 84) rfl rfl ?_
                  exact ih2 m (_ :: r2) _ (by omega) (by rw [List.length_cons]; omega) (stkAt_mem hs.2 hrl) (fun q hq => am_up_ne hq) hG (by first | (rw [decide_eq_true cnd182] at hQ; exact hQ) | (rw [decide_eq_false cnd182] at hQ; exact hQ)) _
                · skip
                  refine ev_iconst (x := nI 1) rfl rfl ?_
                  refine ev_goto (p2 := 190) rfl rfl ?_
                  refine ev_iastN rfl rfl ?_ (hq := k_33 n)
                  refine ev_goto (p2 := 236) rfl rfl ?_
                  refine ev_iincN rfl rfl rfl ?_
                  refine ev_goto (p2 := 84) rfl rfl ?_
                  exact ih2 m (_ :: r2) _ (by omega) (by rw [List.length_cons]; omega) (stkAt_mem hs.2 hrl) (fun q hq => am_up_ne hq) hG (by first | (rw [decide_eq_true cnd182] at hQ; exact hQ) | (rw [decide_eq_false cnd182] at hQ; exact hQ)) _
          · omega
      | [], hm, hs => exact absurd hm (by simp only [List.length_nil]; omega)
    · have h10 : ¬ v = -10 := by rcases hv with rfl | rfl | rfl | rfl | rfl | rfl | rfl | rfl | rfl <;> decide
      have h0 : v < 0 := by rcases hv with rfl | rfl | rfl | rfl | rfl | rfl | rfl | rfl | rfl <;> decide
      have hb : (S_sgn v < 97 ∨ 122 < S_sgn v) ∧ S_sgn v < 200 ∧ 0 < S_sgn v ∧ ¬ -(nI (S_sgn v)) = -33 := by rcases hv with rfl | rfl | rfl | rfl | rfl | rfl | rfl | rfl | rfl <;> decide
      rw [show S_enc key v = -(nI (S_sgn v)) by unfold S_enc; rw [if_pos h0]] at hcv
      rw [show S_dp v m = m - 1 by unfold S_dp; rw [if_pos h0, if_neg h10]] at hG
      match st, hm, hs with
      | b :: a :: r2, hm, hs =>
      have hrl : r2.length = m - 2 := by rw [← hm]; rfl
      have hs1 : mem 33 (m - 1) = b := by rw [show m - 1 = (a :: r2).length by rw [← hm]; rfl]; exact hs.1
      have hs2 : mem 33 (m - 2) = a := by rw [← hrl]; exact hs.2.1
      rw [show S_stp F v (b :: a :: r2) = S_two v a b :: r2 by unfold S_stp; rw [if_pos h0, if_neg h10]] at hQ
      refine ev_iload rfl rfl ?_
      refine ev_aload rfl rfl ?_
      refine ev_getI (c := 8) (j := 2) rfl ?_ (hq := kb_text n (by omega))
      rw [hsz]
      refine ev_icmp_geN (p2 := 242) rfl rfl (fun cnd91 => ?_) (fun cnd91 => ?_)
      · omega
      · skip
        refine ev_aload rfl rfl ?_
        refine ev_getR (c := 8) (j := 3) rfl ?_ (hq := kb_text n (by omega))
        refine ev_iload rfl rfl ?_
        refine ev_ialdN rfl rfl ?_ (hq := kb_code n (by omega))
        rw [hcv]
        refine ev_istore rfl rfl (Nat.le_of_ble_eq_true rfl) ?_
        refine ev_iload rfl rfl ?_
        refine ev_if_ge (p2 := 118) rfl rfl (fun cnd106 => ?_) (fun cnd106 => ?_)
        · exact absurd cnd106 (neg_n0 (by omega) (by omega))
        · skip
          refine ev_iload rfl rfl ?_
          refine ev_ineg rfl ?_
          rw [Int32.neg_neg]
          refine ev_call rfl rfl ?_
          refine c_X0_isLetter _ (by omega) ?_
          change am_ev _ _ _ _ (_ :: _) _ _ _
          refine ev_if_eqB (p2 := 152) rfl rfl (fun cnd115 => ?_) (fun cnd115 => ?_)
          · skip
            refine ev_iload rfl rfl ?_
            refine ev_iconst (x := (-33)) rfl rfl ?_
            refine ev_icmp_ne (p2 := 194) rfl rfl (fun cnd156 => ?_) (fun cnd156 => ?_)
            · skip
              refine ev_iload rfl rfl ?_
              refine ev_iconst (x := nI 2) rfl rfl ?_
              refine ev_icmp_ltN (p2 := 236) rfl rfl (fun cnd197 => ?_) (fun cnd197 => ?_)
              · omega
              · skip
                refine ev_aload rfl rfl ?_
                refine ev_getR (c := 0) (j := 2) rfl ?_ (hq := k_30 n)
                refine ev_iload rfl rfl ?_
                refine ev_iconst (x := nI 2) rfl rfl ?_
                refine ev_isubN rfl ?_
                refine ev_aload rfl rfl ?_
                refine ev_getR (c := 0) (j := 2) rfl ?_ (hq := k_30 n)
                refine ev_iload rfl rfl ?_
                refine ev_iconst (x := nI 2) rfl rfl ?_
                refine ev_isubN rfl ?_
                refine ev_ialdN rfl rfl ?_ (hq := k_33 n)
                rw [hs2]
                refine ev_iload rfl rfl ?_
                refine ev_ineg rfl ?_
                rw [Int32.neg_neg]
                refine ev_aload rfl rfl ?_
                refine ev_getR (c := 0) (j := 2) rfl ?_ (hq := k_30 n)
                refine ev_iload rfl rfl ?_
                refine ev_iconst (x := nI 1) rfl rfl ?_
                refine ev_isubN rfl ?_
                refine ev_ialdN rfl rfl ?_ (hq := k_33 n)
                rw [hs1]
                refine ev_call rfl rfl ?_
                refine c_X0_worth v _ _ hv ?_
                change am_ev _ _ _ _ (_ :: _) _ _ _
                refine ev_iastN rfl rfl ?_ (hq := k_33 n)
                refine ev_iincD rfl rfl rfl ?_
                refine ev_iincN rfl rfl rfl ?_
                refine ev_goto (p2 := 84) rfl rfl ?_
                exact ih2 (m - 1) _ _ (by omega) (by rw [List.length_cons]; omega) (stkAt_mem hs.2.2 hrl) (fun q hq => am_up_ne hq) hG hQ _
            · exact absurd cnd156 hb.2.2.2
          · omega
      | [a], hm, hs => exact absurd hm (by simp only [List.length_cons, List.length_nil]; omega)
      | [], hm, hs => exact absurd hm (by simp only [List.length_nil]; omega)
theorem c_X0_gives {d n : Nat} {mem : am_M} {Q : am_P} {t : Nat} {R : am_R} (ht : am_T t) (hC : CplT t R mem) (key : Nat) (hkey : key < 4) (w ofc kd dr : Int32) (hQ : ∀ m2 : am_M, (∀ q, q ≠ 32 → q ≠ 33 → m2 q = mem q) → Q (some (.int (S_giv R (S_Fk R key ofc kd dr) key w))) (am_SK n) m2) : am_ex (d + 3) 1 [.ref 30, .ref t, .int (nI key), .int w, .int ofc, .int kd, .int dr] (am_SK n) mem Q := by
  have hg := ht.ge
  have hb := wb_all (cp_w hC)
  unfold S_giv at hQ
  cases ho : S_cnt R key (nn (R 6)) with
  | none =>
    simp only [ho] at hQ
    have hck := cp_k hC hkey
    rw [ho] at hck
    refine ex_in (c0 := kc_X0_gives) rfl (L := [some (.ref 30), some (.ref t), some (.int (nI key)), some (.int w), some (.int ofc), some (.int kd), some (.int dr), none, none, none, none, none]) rfl ?_
    refine ev_aload rfl rfl ?_
    refine ev_getR (c := 9) (j := 15) rfl ?_ (hq := kt_0 n ht)
    refine ev_iload rfl rfl ?_
    refine ev_ialdN rfl rfl ?_ (hq := kt_6 n ht)
    rw [hck]
    refine ev_istore rfl rfl (Nat.le_of_ble_eq_true rfl) ?_
    refine ev_iload rfl rfl ?_
    refine ev_if_lt (p2 := 20) rfl rfl (fun cnd10 => ?_) (fun cnd10 => ?_)
    · skip
      refine ev_iload rfl rfl ?_
      refine ev_iret rfl ?_
      exact hQ mem (fun _ _ _ => rfl)
    · exact absurd (by decide) cnd10
  | some u =>
    simp only [ho] at hQ
    have hck := cp_k hC hkey
    rw [ho] at hck
    change mem (t + 6) key = nI u at hck
    have hu := S_cnt_lt ho
    have hkk := S_cnt_key ho
    obtain ⟨w1, w2, w3⟩ := cp_ts hC u hu
    obtain ⟨b1, b2, b3, b4⟩ := cp_b hC hu
    rw [hkk] at w3 b4
    have e0 := (cp_w hC).1.1.1
    have e1 := (cp_w hC).1.2.1.1
    refine ex_in (c0 := kc_X0_gives) rfl (L := [some (.ref 30), some (.ref t), some (.int (nI key)), some (.int w), some (.int ofc), some (.int kd), some (.int dr), none, none, none, none, none]) rfl ?_
    refine ev_aload rfl rfl ?_
    refine ev_getR (c := 9) (j := 15) rfl ?_ (hq := kt_0 n ht)
    refine ev_iload rfl rfl ?_
    refine ev_ialdN rfl rfl ?_ (hq := kt_6 n ht)
    rw [hck]
    refine ev_istore rfl rfl (Nat.le_of_ble_eq_true rfl) ?_
    refine ev_iload rfl rfl ?_
    refine ev_if_ltN rfl ?_
    refine ev_iload rfl rfl ?_
    refine ev_iconst (x := nI 14) rfl rfl ?_
    refine ev_icmp_ltN (p2 := 22) rfl rfl (fun cnd17 => ?_) (fun cnd17 => ?_)
    · skip
      refine ev_aload rfl rfl ?_
      refine ev_getR (c := 0) (j := 1) rfl ?_ (hq := k_30 n)
      refine ev_iconst (x := nI 7) rfl rfl ?_
      refine ev_aload rfl rfl ?_
      refine ev_getI (c := 9) (j := 7) rfl ?_ (hq := kt_0 n ht)
      rw [cp_t7 hC]
      refine ev_iastN rfl rfl ?_ (hq := k_32 n)
      refine ev_aload rfl rfl ?_
      refine ev_getR (c := 0) (j := 1) rfl ?_ (hq := k_30 n)
      refine ev_iconst (x := nI 3) rfl rfl ?_
      refine ev_aload rfl rfl ?_
      refine ev_getI (c := 9) (j := 8) rfl ?_ (hq := kt_0 n ht)
      rw [am_up_ne (show t ≠ 32 by omega), cp_t8 hC]
      refine ev_iastN rfl rfl ?_ (hq := k_32 n)
      refine ev_aload rfl rfl ?_
      refine ev_getR (c := 0) (j := 1) rfl ?_ (hq := k_30 n)
      refine ev_iconst (x := nI 2) rfl rfl ?_
      refine ev_iload rfl rfl ?_
      refine ev_iastN rfl rfl ?_ (hq := k_32 n)
      refine ev_aload rfl rfl ?_
      refine ev_getR (c := 0) (j := 1) rfl ?_ (hq := k_30 n)
      refine ev_iconst (x := nI 10) rfl rfl ?_
      refine ev_iload rfl rfl ?_
      refine ev_iastN rfl rfl ?_ (hq := k_32 n)
      refine ev_aload rfl rfl ?_
      refine ev_getR (c := 0) (j := 1) rfl ?_ (hq := k_30 n)
      refine ev_iconst (x := nI 22) rfl rfl ?_
      refine ev_iload rfl rfl ?_
      refine ev_iastN rfl rfl ?_ (hq := k_32 n)
      refine ev_aload rfl rfl ?_
      refine ev_getR (c := 0) (j := 0) rfl ?_ (hq := k_30 n)
      refine ev_iload rfl rfl ?_
      refine ev_aldN rfl rfl ?_ (kr_text (by omega)) (hq := k_31 n)
      refine ev_astore rfl rfl (Nat.le_of_ble_eq_true rfl) ?_
      refine ev_iconst (x := nI 0) rfl rfl ?_
      refine ev_istore rfl rfl (Nat.le_of_ble_eq_true rfl) ?_
      refine ev_iconst (x := nI 0) rfl rfl ?_
      refine ev_istore rfl rfl (Nat.le_of_ble_eq_true rfl) ?_
      refine l_X0_gives R (S_Fk R key ofc kd dr) key (if key < 2 then 3 else 2) u (by omega) (by split <;> omega) w2 _ _ _ _ _ _ _ (S_num R u) _ 0 0 [] (by omega) (by omega) rfl trivial ?_ ?_ ?_ w3 _ ?_
      · intro i hi
        rcases (show key = 0 ∨ key = 1 ∨ key = 2 ∨ key = 3 by omega) with rfl | rfl | rfl | rfl
        · match i, hi with
          | 0, _ => exact e0.symm
          | 1, _ => exact e1.symm
          | 2, _ => rfl
        · match i, hi with
          | 0, _ => rfl
          | 1, _ => rfl
          | 2, _ => rfl
        · match i, hi with
          | 0, _ => exact e0.symm
          | 1, _ => exact e1.symm
        · match i, hi with
          | 0, _ => exact e0.symm
          | 1, _ => rfl
      · rw [am_up_ne (by omega), am_up_ne (by omega), am_up_ne (by omega), am_up_ne (by omega), am_up_ne (by omega)]; exact b3
      · intro j hj; rw [am_up_ne (by omega), am_up_ne (by omega), am_up_ne (by omega), am_up_ne (by omega), am_up_ne (by omega)]; exact b4 j hj
      · intro m2 h2
        refine hQ m2 (fun q q1 q2 => ?_)
        rw [h2 q q2, am_up_ne q1, am_up_ne q1, am_up_ne q1, am_up_ne q1, am_up_ne q1]
    · omega
