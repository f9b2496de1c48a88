/-! the reference: dimming, lives -/
theorem c_worksOutG {d n : Nat} {mem : am_M} {Q : am_P} {R G : am_R} (hR : mem 222 = R) (t : Nat) (ht : t < 14) (hwf : wfT R t) (hF : ∀ i, i < (if S_key R t < 2 then 3 else 2) → mem 233 i = G i) (hQ : ∀ m2 : am_M, (∀ q, q ≠ 232 → m2 q = mem q) → Q (some (.int (S_val R G t))) (am_SK n) m2) : am_ex (d + 3) 201 [.ref 221, .int (nI t)] (am_SK n) mem Q := by
  subst hR
  refine c_X12_worksOut t ht hwf (fun m2 h2 => ?_)
  rw [S_val_F hwf hF]
  exact hQ m2 h2
def S_clp (v a b : Int32) : Int32 := if v < a then a else if b < v then b else v
def S_dim (R : am_R) (x : Int32) : Int32 := match S_cnt R 0 (nn (R 6)) with
  | none => if nI 5 ≤ R 0 then nI 100 else nI 50
  | some t => S_clp (S_val R (S_F (R 0) (R 1) x) t) (nI 0) (nI 100)
def S_life (R : am_R) (l : Nat) : Int32 := match S_cnt R 1 (nn (R 6)) with
  | none => nI 4000
  | some t => S_clp (S_val R (S_F (R (77 + 7 * l)) (R (77 + 7 * l + 2)) (R (77 + 7 * l + 3))) t) (nI 1) (nI 30000)
theorem c_X12_dimBy {d n : Nat} {mem : am_M} {Q : am_P} (hw : wfR (mem 222)) (hT : wfTs (mem 222)) (x : Int32) (hQ : ∀ m2 : am_M, (∀ q, q ≠ 232 → q ≠ 233 → m2 q = mem q) → Q (some (.int (S_dim (mem 222) x))) (am_SK n) m2) : am_ex (d + 4) 159 [.ref 221, .int x] (am_SK n) mem Q := by
  have hr6 : nn (mem 222 6) < 15 := hw.2.1.2.2.2.1.2
  unfold S_dim at hQ
  refine ex_in (c0 := kc_X12_dimBy) rfl (L := [some (.ref 221), some (.int x), none]) rfl ?_
  cases ho : S_cnt (mem 222) 0 (nn (mem 222 6)) with
  | none =>
    simp only [ho] at hQ
    refine ev_aload rfl rfl ?_
    refine ev_iconst (x := nI 0) rfl rfl ?_
    refine ev_call rfl rfl ?_
    refine c_X12_counts hw (wfTs_H hT) 0 (by decide) ?_
    rw [ho]
    change am_ev _ _ _ _ (_ :: _) _ _ _
    refine ev_istore rfl rfl (Nat.le_of_ble_eq_true rfl) ?_
    refine ev_aload rfl rfl ?_
    refine ev_getR (c := 12) (j := 22) rfl ?_ (hq := k_221 n)
    refine ev_iconst (x := nI 0) rfl rfl ?_
    refine ev_aload rfl rfl ?_
    refine ev_getR (c := 12) (j := 0) rfl ?_ (hq := k_221 n)
    refine ev_iconst (x := nI 0) rfl rfl ?_
    refine ev_ialdN rfl (m := 0) (rfl) ?_ (hq := k_222 n)
    refine ev_iastN rfl (m := 0) (rfl) ?_ (hq := k_233 n)
    refine ev_aload rfl rfl ?_
    refine ev_getR (c := 12) (j := 22) rfl ?_ (hq := k_221 n)
    refine ev_iconst (x := nI 1) rfl rfl ?_
    refine ev_aload rfl rfl ?_
    refine ev_getR (c := 12) (j := 0) rfl ?_ (hq := k_221 n)
    refine ev_iconst (x := nI 1) rfl rfl ?_
    refine ev_ialdN rfl (m := 1) (rfl) ?_ (hq := k_222 n)
    refine ev_iastN rfl (m := 1) (rfl) ?_ (hq := k_233 n)
    refine ev_aload rfl rfl ?_
    refine ev_getR (c := 12) (j := 22) rfl ?_ (hq := k_221 n)
    refine ev_iconst (x := nI 2) rfl rfl ?_
    refine ev_iload rfl rfl ?_
    refine ev_iastN rfl (m := 2) (rfl) ?_ (hq := k_233 n)
    refine ev_iload rfl rfl ?_
    refine ev_if_ge (p2 := 61) rfl rfl (fun cnd38 => ?_) (fun cnd38 => ?_)
    · exact absurd cnd38 (by decide)
    · skip
      refine ev_aload rfl rfl ?_
      refine ev_getR (c := 12) (j := 0) rfl ?_ (hq := k_221 n)
      refine ev_iconst (x := nI 0) rfl rfl ?_
      refine ev_ialdN rfl (m := 0) (rfl) ?_ (hq := k_222 n)
      refine ev_iconst (x := nI 5) rfl rfl ?_
      refine ev_icmp_ge (p2 := 56) rfl rfl (fun cnd48 => ?_) (fun cnd48 => ?_)
      · skip
        refine ev_iconst (x := nI 100) rfl rfl ?_
        refine ev_goto (p2 := 72) rfl rfl ?_
        refine ev_iret rfl ?_
        first
          | (rw [if_pos (show nI 5 ≤ mem 222 0 from cnd48)] at hQ; refine hQ _ (fun q h1 h3 => ?_); rw [am_up_ne h3, am_up_ne h3, am_up_ne h3])
          | (rw [if_neg (show ¬ nI 5 ≤ mem 222 0 from cnd48)] at hQ; refine hQ _ (fun q h1 h3 => ?_); rw [am_up_ne h3, am_up_ne h3, am_up_ne h3])
      · skip
        refine ev_iconst (x := nI 50) rfl rfl ?_
        refine ev_goto (p2 := 72) rfl rfl ?_
        refine ev_iret rfl ?_
        first
          | (rw [if_pos (show nI 5 ≤ mem 222 0 from cnd48)] at hQ; refine hQ _ (fun q h1 h3 => ?_); rw [am_up_ne h3, am_up_ne h3, am_up_ne h3])
          | (rw [if_neg (show ¬ nI 5 ≤ mem 222 0 from cnd48)] at hQ; refine hQ _ (fun q h1 h3 => ?_); rw [am_up_ne h3, am_up_ne h3, am_up_ne h3])
  | some t =>
    simp only [ho] at hQ
    have ht := S_cnt_lt ho
    have hk := S_cnt_key ho
    have ht14 : t < 14 := by omega
    have hwt : wfT (mem 222) t := hT t ht
    refine ev_aload rfl rfl ?_
    refine ev_iconst (x := nI 0) rfl rfl ?_
    refine ev_call rfl rfl ?_
    refine c_X12_counts hw (wfTs_H hT) 0 (by decide) ?_
    rw [ho]
    change am_ev _ _ _ _ (_ :: _) _ _ _
    refine ev_istore rfl rfl (Nat.le_of_ble_eq_true rfl) ?_
    refine ev_aload rfl rfl ?_
    refine ev_getR (c := 12) (j := 22) rfl ?_ (hq := k_221 n)
    refine ev_iconst (x := nI 0) rfl rfl ?_
    refine ev_aload rfl rfl ?_
    refine ev_getR (c := 12) (j := 0) rfl ?_ (hq := k_221 n)
    refine ev_iconst (x := nI 0) rfl rfl ?_
    refine ev_ialdN rfl (m := 0) (rfl) ?_ (hq := k_222 n)
    refine ev_iastN rfl (m := 0) (rfl) ?_ (hq := k_233 n)
    refine ev_aload rfl rfl ?_
    refine ev_getR (c := 12) (j := 22) rfl ?_ (hq := k_221 n)
    refine ev_iconst (x := nI 1) rfl rfl ?_
    refine ev_aload rfl rfl ?_
    refine ev_getR (c := 12) (j := 0) rfl ?_ (hq := k_221 n)
    refine ev_iconst (x := nI 1) rfl rfl ?_
    refine ev_ialdN rfl (m := 1) (rfl) ?_ (hq := k_222 n)
    refine ev_iastN rfl (m := 1) (rfl) ?_ (hq := k_233 n)
    refine ev_aload rfl rfl ?_
    refine ev_getR (c := 12) (j := 22) rfl ?_ (hq := k_221 n)
    refine ev_iconst (x := nI 2) rfl rfl ?_
    refine ev_iload rfl rfl ?_
    refine ev_iastN rfl (m := 2) (rfl) ?_ (hq := k_233 n)
    refine ev_iload rfl rfl ?_
    refine ev_if_ge (p2 := 61) rfl rfl (fun cnd38 => ?_) (fun cnd38 => ?_)
    · skip
      refine ev_aload rfl rfl ?_
      refine ev_iload rfl rfl ?_
      refine ev_call rfl rfl ?_
      refine c_worksOutG (R := mem 222) (G := S_F (mem 222 0) (mem 222 1) x) ?_ t ht14 hwt ?_ (fun m2 h2 => ?_)
      · rfl
      · rw [hk]; intro i hi; match i, hi with | 0, _ => rfl | 1, _ => rfl | 2, _ => rfl
      change am_ev _ _ _ _ (_ :: _) _ _ _
      refine ev_iconst (x := nI 0) rfl rfl ?_
      refine ev_iconst (x := nI 100) rfl rfl ?_
      refine ev_call rfl rfl ?_
      refine c_X12_within _ _ _ ?_
      change am_ev _ _ _ _ (_ :: _) _ _ _
      refine ev_iret rfl ?_
      refine hQ _ (fun q h1 h3 => ?_)
      rw [h2 q h1, am_up_ne h3, am_up_ne h3, am_up_ne h3]
    · exact absurd (nI_pos' (by omega)) cnd38
theorem c_X12_lifeOf {d n : Nat} {mem : am_M} {Q : am_P} (hw : wfR (mem 222)) (hT : wfTs (mem 222)) (l : Nat) (hl : l < 16) (hQ : ∀ m2 : am_M, (∀ q, q ≠ 232 → q ≠ 233 → m2 q = mem q) → Q (some (.int (S_life (mem 222) l))) (am_SK n) m2) : am_ex (d + 4) 162 [.ref 221, .int (nI l)] (am_SK n) mem Q := by
  have hr6 : nn (mem 222 6) < 15 := hw.2.1.2.2.2.1.2
  unfold S_life at hQ
  refine ex_in (c0 := kc_X12_lifeOf) rfl (L := [some (.ref 221), some (.int (nI l)), none]) rfl ?_
  cases ho : S_cnt (mem 222) 1 (nn (mem 222 6)) with
  | none =>
    simp only [ho] at hQ
    refine ev_aload rfl rfl ?_
    refine ev_iconst (x := nI 1) rfl rfl ?_
    refine ev_call rfl rfl ?_
    refine c_X12_counts hw (wfTs_H hT) 1 (by decide) ?_
    rw [ho]
    change am_ev _ _ _ _ (_ :: _) _ _ _
    refine ev_istore rfl rfl (Nat.le_of_ble_eq_true rfl) ?_
    refine ev_aload rfl rfl ?_
    refine ev_getR (c := 12) (j := 22) rfl ?_ (hq := k_221 n)
    refine ev_iconst (x := nI 0) rfl rfl ?_
    refine ev_aload rfl rfl ?_
    refine ev_iload rfl rfl ?_
    refine ev_iconst (x := nI 0) rfl rfl ?_
    refine ev_call rfl rfl ?_
    refine c_X12_lamp7 (a := l) (w := 0) (by omega) ?_
    change am_ev _ _ _ _ (_ :: _) _ _ _
    refine ev_iastN rfl (m := 0) (rfl) ?_ (hq := k_233 n)
    refine ev_aload rfl rfl ?_
    refine ev_getR (c := 12) (j := 22) rfl ?_ (hq := k_221 n)
    refine ev_iconst (x := nI 1) rfl rfl ?_
    refine ev_aload rfl rfl ?_
    refine ev_iload rfl rfl ?_
    refine ev_iconst (x := nI 2) rfl rfl ?_
    refine ev_call rfl rfl ?_
    refine c_X12_lamp7 (a := l) (w := 2) (by omega) ?_
    change am_ev _ _ _ _ (_ :: _) _ _ _
    refine ev_iastN rfl (m := 1) (rfl) ?_ (hq := k_233 n)
    refine ev_aload rfl rfl ?_
    refine ev_getR (c := 12) (j := 22) rfl ?_ (hq := k_221 n)
    refine ev_iconst (x := nI 2) rfl rfl ?_
    refine ev_aload rfl rfl ?_
    refine ev_iload rfl rfl ?_
    refine ev_iconst (x := nI 3) rfl rfl ?_
    refine ev_call rfl rfl ?_
    refine c_X12_lamp7 (a := l) (w := 3) (by omega) ?_
    change am_ev _ _ _ _ (_ :: _) _ _ _
    refine ev_iastN rfl (m := 2) (rfl) ?_ (hq := k_233 n)
    refine ev_iload rfl rfl ?_
    refine ev_if_ge (p2 := 52) rfl rfl (fun cnd43 => ?_) (fun cnd43 => ?_)
    · exact absurd cnd43 (by decide)
    · skip
      refine ev_iconst (x := nI 4000) rfl rfl ?_
      refine ev_goto (p2 := 64) rfl rfl ?_
      refine ev_iret rfl ?_
      refine hQ _ (fun q h1 h3 => ?_)
      rw [am_up_ne h3, am_up_ne h3, am_up_ne h3]
  | some t =>
    simp only [ho] at hQ
    have ht := S_cnt_lt ho
    have hk := S_cnt_key ho
    have ht14 : t < 14 := by omega
    have hwt : wfT (mem 222) t := hT t ht
    refine ev_aload rfl rfl ?_
    refine ev_iconst (x := nI 1) rfl rfl ?_
    refine ev_call rfl rfl ?_
    refine c_X12_counts hw (wfTs_H hT) 1 (by decide) ?_
    rw [ho]
    change am_ev _ _ _ _ (_ :: _) _ _ _
    refine ev_istore rfl rfl (Nat.le_of_ble_eq_true rfl) ?_
    refine ev_aload rfl rfl ?_
    refine ev_getR (c := 12) (j := 22) rfl ?_ (hq := k_221 n)
    refine ev_iconst (x := nI 0) rfl rfl ?_
    refine ev_aload rfl rfl ?_
    refine ev_iload rfl rfl ?_
    refine ev_iconst (x := nI 0) rfl rfl ?_
    refine ev_call rfl rfl ?_
    refine c_X12_lamp7 (a := l) (w := 0) (by omega) ?_
    change am_ev _ _ _ _ (_ :: _) _ _ _
    refine ev_iastN rfl (m := 0) (rfl) ?_ (hq := k_233 n)
    refine ev_aload rfl rfl ?_
    refine ev_getR (c := 12) (j := 22) rfl ?_ (hq := k_221 n)
    refine ev_iconst (x := nI 1) rfl rfl ?_
    refine ev_aload rfl rfl ?_
    refine ev_iload rfl rfl ?_
    refine ev_iconst (x := nI 2) rfl rfl ?_
    refine ev_call rfl rfl ?_
    refine c_X12_lamp7 (a := l) (w := 2) (by omega) ?_
    change am_ev _ _ _ _ (_ :: _) _ _ _
    refine ev_iastN rfl (m := 1) (rfl) ?_ (hq := k_233 n)
    refine ev_aload rfl rfl ?_
    refine ev_getR (c := 12) (j := 22) rfl ?_ (hq := k_221 n)
    refine ev_iconst (x := nI 2) rfl rfl ?_
    refine ev_aload rfl rfl ?_
    refine ev_iload rfl rfl ?_
    refine ev_iconst (x := nI 3) rfl rfl ?_
    refine ev_call rfl rfl ?_
    refine c_X12_lamp7 (a := l) (w := 3) (by omega) ?_
    change am_ev _ _ _ _ (_ :: _) _ _ _
    refine ev_iastN rfl (m := 2) (rfl) ?_ (hq := k_233 n)
    refine ev_iload rfl rfl ?_
    refine ev_if_ge (p2 := 52) rfl rfl (fun cnd43 => ?_) (fun cnd43 => ?_)
    · skip
      refine ev_aload rfl rfl ?_
      refine ev_iload rfl rfl ?_
      refine ev_call rfl rfl ?_
      refine c_worksOutG (R := mem 222) (G := S_F (mem 222 (77 + 7 * l)) (mem 222 (77 + 7 * l + 2)) (mem 222 (77 + 7 * l + 3))) ?_ t ht14 hwt ?_ (fun m2 h2 => ?_)
      · rfl
      · rw [hk]; intro i hi; match i, hi with | 0, _ => rfl | 1, _ => rfl | 2, _ => rfl
      change am_ev _ _ _ _ (_ :: _) _ _ _
      refine ev_iconst (x := nI 1) rfl rfl ?_
      refine ev_iconst (x := nI 30000) rfl rfl ?_
      refine ev_call rfl rfl ?_
      refine c_X12_within _ _ _ ?_
      change am_ev _ _ _ _ (_ :: _) _ _ _
      refine ev_iret rfl ?_
      refine hQ _ (fun q h1 h3 => ?_)
      rw [h2 q h1, am_up_ne h3, am_up_ne h3, am_up_ne h3]
    · exact absurd (nI_pos' (by omega)) cnd43
