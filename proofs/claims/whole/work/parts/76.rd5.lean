/-! the round: the reference's answer -/
def S_best (R : am_R) (h : Nat) : Nat × am_R := (cm (nn (R 8)) (nn (R 8)) 0).foldl (btr (wl (gR R) h h) lI) (2147483647, fun _ => 0)
def X_round (R : am_R) (c w : Int32) : Int32 := if (0 ≤ c ∧ c ≤ R 3 - 1) ∧ (-1 ≤ w ∧ w ≤ R 8 - nI 1) then (if w < 0 then nI (S_best R (nn (R (23 + 6 * nn c)))).1 else R (17 + nn ((S_best R (nn (R (23 + 6 * nn c)))).2 (nn w)))) else S_BAD
theorem btr_mem {w : List Nat → Nat} {v : List Nat → am_R} : ∀ (l : List (List Nat)) (s : Nat × am_R), l.foldl (btr w v) s = s ∨ ∃ p ∈ l, l.foldl (btr w v) s = (w p, v p) := by
  intro l
  induction l with
  | nil => intro s; exact Or.inl rfl
  | cons p r ih =>
    intro s
    rw [List.foldl_cons]
    rcases ih (btr w v s p) with e | ⟨q, hq, e⟩
    · rw [e]
      unfold btr
      split
      · exact Or.inr ⟨p, List.mem_cons_self, rfl⟩
      · exact Or.inl rfl
    · exact Or.inr ⟨q, List.mem_cons_of_mem _ hq, e⟩
theorem cm_cons {n : Nat} (hn : n < 7) : ∃ l, cm n n 0 = ide n :: l := by
  have h := cm_head n hn
  cases e : cm n n 0 with
  | nil => rw [e] at h; exact absurd h (by simp)
  | cons p l =>
    rw [e] at h
    have h2 : p = ide n := Option.some.inj h
    exact ⟨l, by rw [h2]⟩
theorem S_best_ok {R : am_R} (hw : wfR R) {h : Nat} (hh : h < 3031) : ∃ p, okp (nn (R 8)) p ∧ S_best R h = (wl (gR R) h h p, lI p) := by
  have hb := wb_all hw
  obtain ⟨l, hl⟩ := cm_cons (n := nn (R 8)) (by omega)
  have ho := cm_ok (n := nn (R 8)) (by omega)
  unfold S_best
  rw [hl] at ho ⊢
  have hop := ho _ List.mem_cons_self
  have hW := wl_lt (g := gR R) hh (gR_lt hw) (ide (nn (R 8))) h hh
  rw [hop.1] at hW
  rw [List.foldl_cons]
  have e1 : btr (wl (gR R) h h) lI (2147483647, fun _ => 0) (ide (nn (R 8))) = (wl (gR R) h h (ide (nn (R 8))), lI (ide (nn (R 8)))) := by
    unfold btr
    rw [if_pos (show wl (gR R) h h (ide (nn (R 8))) < 2147483647 by omega)]
  rw [e1]
  rcases btr_mem (w := wl (gR R) h h) (v := lI) l (wl (gR R) h h (ide (nn (R 8))), lI (ide (nn (R 8)))) with e | ⟨q, hq, e⟩
  · exact ⟨_, hop, e⟩
  · exact ⟨q, ho q (List.mem_cons_of_mem _ hq), e⟩
theorem gf_ide {n j : Nat} (h : j < n) : gf (ide n) j = j := by
  show ((List.range n)[j]?).getD 0 = j
  rw [List.getElem?_range h]
  rfl
theorem l_rdi {d n : Nat} {Q : am_P} {mem0 : am_M} {c : Nat} {w : Int32} (hK : ∀ m2 : am_M, (∀ q, q ≠ 243 → m2 q = mem0 q) → (∀ j, j < 6 → m2 243 j = nI j) → am_ev kc_X12_round d 49 [some (.ref 221), some (.int (nI c)), some (.int w), some (.int (nI 6)), none, none] [] (am_SK n) m2 Q) (r : Nat) : ∀ (mem : am_M) (k : Nat) (hk : k + r = 6) (hf : ∀ q, q ≠ 243 → mem q = mem0 q) (hC : ∀ j, j < k → mem 243 j = nI j), am_ev kc_X12_round d 30 [some (.ref 221), some (.int (nI c)), some (.int w), some (.int (nI k)), none, none] [] (am_SK n) mem Q := by
  induction r with
  | zero =>
    intro mem k hk hf hC
    have hkk : k = 6 := by omega
    subst hkk
    refine ev_iload rfl rfl ?_
    refine ev_iconst (x := nI 6) rfl rfl ?_
    refine ev_icmp_geN (p2 := 49) rfl rfl (fun _ => ?_) (fun zz => absurd zz (by decide))
    exact hK mem hf hC
  | succ r ih =>
    intro mem k hk hf hC
    refine ev_iload rfl rfl ?_
    refine ev_iconst (x := nI 6) rfl rfl ?_
    refine ev_icmp_geN (p2 := 49) rfl rfl (fun cnd33 => ?_) (fun cnd33 => ?_)
    · omega
    · skip
      refine ev_aload rfl rfl ?_
      refine ev_getR (c := 12) (j := 32) rfl ?_ (hq := k_221 n)
      refine ev_iload rfl rfl ?_
      refine ev_iload rfl rfl ?_
      refine ev_iastS rfl (fun m3 hm3 => ?_) (hq := k_243 n)
      refine ev_iincN rfl rfl rfl ?_
      refine ev_goto (p2 := 30) rfl rfl ?_
      refine ih m3 (k + 1) (by omega) (fun q hq => ?_) (fun j hj => ?_)
      · subst hm3
        unfold am_up
        rw [if_neg hq]
        exact hf q hq
      · subst hm3
        by_cases e : j = k
        · subst e
          exact am_up_eq
        · rw [am_up_nk e]
          exact hC j (by omega)
theorem c_X12_round {d n : Nat} {mem : am_M} {Q : am_P} {R : am_R} (hR : mem 222 = R) (hw : wfR R) (c w : Int32) (hQ : ∀ m2 : am_M, FrQ mem m2 → m2 222 = R → Q (some (.int (X_round R c w))) (am_SK n) m2) : am_ex (d + 3) 217 [.ref 221, .int c, .int w] (am_SK n) mem Q := by
  have hb := wb_all hw
  unfold X_round at hQ
  by_cases hP : (0 ≤ c ∧ c ≤ R 3 - 1) ∧ (-1 ≤ w ∧ w ≤ R 8 - nI 1)
  · rw [if_pos hP] at hQ
    obtain ⟨ec, hc⟩ := am_idx (wr3 hw) (by omega) hP.1
    obtain ⟨cc, hcc⟩ : ∃ cc, nn c = cc := ⟨_, rfl⟩
    rw [hcc] at hQ ec hc
    subst ec
    have hh := (hw.2.2.1 cc hc).1
    obtain ⟨h, hhe⟩ : ∃ h, nn (R (23 + 6 * cc)) = h := ⟨_, rfl⟩
    have he : R (23 + 6 * cc + 0) = nI h := by rw [← hhe]; exact hh.1
    have hh : h < 3031 := by rw [← hhe]; exact hh.2
    rw [hhe] at hQ
    obtain ⟨l, hl⟩ := cm_cons (n := nn (R 8)) (by omega)
    have hP2 : -1 ≤ w ∧ w ≤ nI (nn (R 8)) - nI 1 := by rw [← wr8 hw]; exact hP.2
    refine ex_in (c0 := kc_X12_round) rfl (L := [some (.ref 221), some (.int (nI cc)), some (.int w), none, none, none]) rfl ?_
    refine ev_aload rfl rfl ?_
    refine ev_iload rfl rfl ?_
    refine ev_call rfl rfl ?_
    refine r_isCab hR _ ?_
    change am_ev _ _ _ _ [_] _ _ _
    refine ev_if_eqB (p2 := 25) rfl rfl (fun cnd5 => ?_) (fun cnd5 => ?_)
    · exact absurd hP.1 cnd5
    · skip
      refine ev_iload rfl rfl ?_
      refine ev_iconst (x := (-1)) rfl rfl ?_
      refine ev_aload rfl rfl ?_
      refine ev_getR (c := 12) (j := 0) rfl ?_ (hq := k_221 n)
      refine ev_iconst (x := nI 8) rfl rfl ?_
      refine ev_ialdN rfl rfl ?_ (hq := k_222 n)
      rw [show mem 222 (8) = nI (nn (R 8)) by rw [hR]; (repeat rw [upd_ne (by omega)]); exact wr8 hw]
      refine ev_iconst (x := nI 1) rfl rfl ?_
      refine ev_isub rfl ?_
      refine ev_call rfl rfl ?_
      refine c_X12_in _ _ _ ?_
      change am_ev _ _ _ _ [_] _ _ _
      refine ev_if_neB (p2 := 28) rfl rfl (fun cnd22 => ?_) (fun cnd22 => ?_)
      · skip
        refine ev_iconst (x := nI 0) rfl rfl ?_
        refine ev_istore rfl rfl (Nat.le_of_ble_eq_true rfl) ?_
        refine l_rdi (mem0 := mem) (fun m2 hf2 hF2 => ?_) 6 mem 0 rfl (fun _ _ => rfl) (fun j hj => absurd hj (Nat.not_lt_zero j))
        refine ev_aload rfl rfl ?_
        refine ev_iconst (x := (-1)) rfl rfl ?_
        refine ev_putS (c := 12) (j := 34) rfl (fun m3 hm3 => ?_) (hq := k_221 n)
        have hf23 : FrQ m2 m3 := FrQ_up hm3 (Or.inr (Or.inr ⟨rfl, rfl⟩))
        have hf02 : FrQ mem m2 := fun q k e1 _ _ => congrFun (hf2 q e1) k
        have hf3 := FrQ_tr hf02 hf23
        refine ev_iconst (x := nI 1) rfl rfl ?_
        refine ev_istore rfl rfl (Nat.le_of_ble_eq_true rfl) ?_
        refine l_rd (mem0 := mem) hw hc hh he l (ide (nn (R 8))) m3 (2147483647, fun _ => 0) (by rw [← hl]; exact chk_all _ (by omega)) (by rw [← hl]; exact cm_ok (by omega)) hf3 ((FrQ_row hf3 (by decide) (by decide) (by decide)).trans hR) (fun j hj => ?_) (Or.inl ⟨by rw [hm3]; exact am_up_eq, rfl⟩) _ _ (fun m4 x4 x5 hf4 h34 h244 => ?_)
        · rw [gf_ide hj, ← hF2 j (by omega), hm3]
          unfold am_up
          rw [if_neg (by decide)]
        rw [← hl] at h34 h244
        change m4 221 34 = nI (S_best R h).1 at h34
        change ∀ j, j < nn (R 8) → m4 244 j = (S_best R h).2 j at h244
        have hR4 := (FrQ_row hf4 (by decide) (by decide) (by decide)).trans hR
        have hZ := hQ m4 hf4 hR4
        obtain ⟨p, hp, hpe⟩ := S_best_ok hw hh
        rw [hpe] at hZ h34 h244
        by_cases w0 : w < 0
        · rw [if_pos w0] at hZ
          refine ev_iload rfl rfl ?_
          refine ev_if_ge (p2 := 143) rfl rfl (fun cnd133 => ?_) (fun cnd133 => ?_)
          · exact absurd w0 (nlt_le cnd133)
          · skip
            refine ev_aload rfl rfl ?_
            refine ev_getI (c := 12) (j := 34) rfl ?_ (hq := k_221 n)
            rw [h34]
            refine ev_goto (p2 := 157) rfl rfl ?_
            refine ev_iret rfl ?_
            exact hZ
        · rw [if_neg w0] at hZ
          obtain ⟨ew, hwl⟩ := am_idx (x := nI (nn (R 8))) rfl (by omega) ⟨le_nlt w0, hP2.2⟩
          obtain ⟨k, hk⟩ : ∃ k, nn w = k := ⟨_, rfl⟩
          rw [hk] at hZ ew hwl
          subst ew
          have h2 : m4 244 k = nI (gf p k) := h244 k hwl
          have hgp := hp.2 k hwl
          have e3 : nn (lI p k) = gf p k := nn_nI (a := gf p k) (by omega)
          change Q (some (.int (R (17 + nn (lI p k))))) (am_SK n) m4 at hZ
          rw [e3] at hZ
          refine ev_iload rfl rfl ?_
          refine ev_if_geN (p2 := 143) rfl rfl ?_
          refine ev_aload rfl rfl ?_
          refine ev_getR (c := 12) (j := 0) rfl ?_ (hq := k_221 n)
          refine ev_iconst (x := nI 17) rfl rfl ?_
          refine ev_aload rfl rfl ?_
          refine ev_getR (c := 12) (j := 33) rfl ?_ (hq := k_221 n)
          refine ev_iload rfl rfl ?_
          refine ev_ialdN rfl rfl ?_ (hq := k_244 n)
          rw [h2]
          refine ev_iaddN rfl ?_
          refine ev_ialdN rfl rfl ?_ (hq := k_222 n)
          rw [hR4]
          refine ev_iret rfl ?_
          exact hZ
      · exact absurd hP2 cnd22
  · rw [if_neg hP] at hQ
    refine ex_in (c0 := kc_X12_round) rfl (L := [some (.ref 221), some (.int c), some (.int w), none, none, none]) rfl ?_
    refine ev_aload rfl rfl ?_
    refine ev_iload rfl rfl ?_
    refine ev_call rfl rfl ?_
    refine r_isCab hR _ ?_
    change am_ev _ _ _ _ [_] _ _ _
    refine ev_if_eqB (p2 := 25) rfl rfl (fun cnd5 => ?_) (fun cnd5 => ?_)
    · skip
      refine ev_iconst (x := (-1000000001)) rfl rfl ?_
      refine ev_iret rfl ?_
      exact hQ mem (FrQ_refl _) hR
    · skip
      refine ev_iload rfl rfl ?_
      refine ev_iconst (x := (-1)) rfl rfl ?_
      refine ev_aload rfl rfl ?_
      refine ev_getR (c := 12) (j := 0) rfl ?_ (hq := k_221 n)
      refine ev_iconst (x := nI 8) rfl rfl ?_
      refine ev_ialdN rfl rfl ?_ (hq := k_222 n)
      rw [show mem 222 (8) = nI (nn (R 8)) by rw [hR]; (repeat rw [upd_ne (by omega)]); exact wr8 hw]
      refine ev_iconst (x := nI 1) rfl rfl ?_
      refine ev_isub rfl ?_
      refine ev_call rfl rfl ?_
      refine c_X12_in _ _ _ ?_
      change am_ev _ _ _ _ [_] _ _ _
      refine ev_if_neB (p2 := 28) rfl rfl (fun cnd22 => ?_) (fun cnd22 => ?_)
      · exact absurd ⟨cnd5, by rw [wr8 hw]; exact cnd22⟩ hP
      · skip
        refine ev_iconst (x := (-1000000001)) rfl rfl ?_
        refine ev_iret rfl ?_
        exact hQ mem (FrQ_refl _) hR
