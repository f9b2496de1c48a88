/-! texts: the class's descent beside the reference's loop -/
def dpL : List Int32 → Nat
  | [] => 0
  | v :: r => S_dp v (dpL r)
def okL (nm : Nat) : List Int32 → Prop
  | [] => True
  | v :: r => wfA nm v (dpL r) ∧ okL nm r
theorem S_dp_le (v : Int32) (m : Nat) : S_dp v m ≤ m + 1 := by
  unfold S_dp
  repeat' split
  all_goals omega
theorem dpL_le : ∀ l : List Int32, dpL l ≤ l.length
  | [] => Nat.le_refl _
  | v :: r => by
    have h1 := dpL_le r
    have h2 := S_dp_le v (dpL r)
    show S_dp v (dpL r) ≤ r.length + 1
    omega
def CS (tp : Nat → Nat) (tl : Nat) (B : am_M) (key : Nat) (w : Bool) (p : Nat) (out : List Int32) (na : Nat) (m : am_M) : Prop := FrD B m ∧ CT tp tl w p m ∧ CD key out na m
def CF (tp : Nat → Nat) (tl : Nat) (B : am_M) (p : Nat) (m : am_M) : Prop := FrD B m ∧ m 62 4 = nI (tA tp tl p) ∧ ∃ z, (z ≤ 96 ∧ tA tp tl p ≤ 96) ∧ m 64 2 = nI z
def Lk (tp : Nat → Nat) (tl key : Nat) (w : Bool) (p : Nat) (out S : List Int32) (na : Nat) (t : Bool) (T0 : List Bool) (x : Bool) (w2 : Bool) (p2 : Nat) (out2 S2 : List Int32) (na2 : Nat) (t2 : Bool) (T2 : List Bool) (x2 : Bool) : Prop := ∀ (B : am_M) (d n : Nat) (Q : am_P), TpR tp tl B → LoP tp tl B key d n w2 p2 out2 S2 na2 t2 T2 x2 Q → LoP tp tl B key d n w p out S na t T0 x Q
def Fl (tp : Nat → Nat) (tl key : Nat) (w : Bool) (p : Nat) (out S : List Int32) (na : Nat) (t : Bool) (T0 : List Bool) (x : Bool) (p2 : Nat) : Prop := ∀ (B : am_M) (d n : Nat) (Q : am_P), TpR tp tl B → (∀ m2 : am_M, FrT B m2 → m2 221 8 = nI (tA tp tl p2) → Q (some (.int (nI 0))) (am_SK n) m2) → LoP tp tl B key d n w p out S na t T0 x Q
def NS (tp : Nat → Nat) (tl l : Nat) (t : Bool) (p : Nat) : Prop := sg tp tl p ≠ 0 → l + 1 ≤ rk (sg tp tl p) → rk (sg tp tl p) = 3 ∧ t = true
def BnP (P : List Int32) (lo : Nat) : Prop := ∀ c, c ∈ P → IsC c ∧ c ≠ -10 ∧ lo ≤ rk c
abbrev nmK (key : Nat) : Nat := if key < 2 then 3 else 2
def PcR (tp : Nat → Nat) (tl : Nat) (B : am_M) (key : Nat) (w : Bool) (p : Nat) (out S0 : List Int32) (k na : Nat) (t : Bool) (T0 : List Bool) (r : Int32) (m : am_M) : Prop := (r = nI 0 ∧ ∃ p2, CF tp tl B p2 m ∧ Fl tp tl key w p out (List.replicate k (-10) ++ S0) na t T0 true p2) ∨ (r = nI 1 ∧ ∃ w2 p2 out2 na2, CS tp tl B key w2 p2 out2 na2 m ∧ p2 ≤ tl ∧ tA tp tl p < tA tp tl p2 ∧ out2.length + (k + S0.length) ≤ tA tp tl p2 ∧ okL (nmK key) out2 ∧ dpL out2 = dpL out + 1 ∧ Lk tp tl key w p out (List.replicate k (-10) ++ S0) na t T0 true w2 p2 (List.replicate k (-10) ++ out2) S0 na2 t T0 false)
def LvR (tp : Nat → Nat) (tl : Nat) (B : am_M) (key l : Nat) (w : Bool) (p : Nat) (out S : List Int32) (na : Nat) (t : Bool) (T0 : List Bool) (r : Int32) (m : am_M) : Prop := (r = nI 0 ∧ ∃ p2, CF tp tl B p2 m ∧ Fl tp tl key w p out S na t T0 true p2) ∨ (r = nI 1 ∧ ∃ w2 p2 out1 P na2 t2, CS tp tl B key w2 p2 (P.reverse ++ out1) na2 m ∧ p2 ≤ tl ∧ tA tp tl p < tA tp tl p2 ∧ (P.reverse ++ out1).length + S.length ≤ tA tp tl p2 ∧ okL (nmK key) (P.reverse ++ out1) ∧ dpL (P.reverse ++ out1) = dpL out + 1 ∧ BnP P (l + 1) ∧ (3 ≤ l → t2 = t) ∧ NS tp tl l t2 p2 ∧ Lk tp tl key w p out S na t T0 true w2 p2 out1 (P ++ S) na2 t2 T0 false)
def PcC (tp : Nat → Nat) (tl : Nat) (B : am_M) (key n F : Nat) : Prop := ∀ (w : Bool) (p : Nat) (out S0 : List Int32) (k na : Nat) (t : Bool) (T0 : List Bool) (nt : Nat) (mem : am_M) (d : Nat) (Q : am_P), CS tp tl B key w p out na mem → p ≤ tl → T0.length ≤ 8 → cntN (List.replicate k (-10) ++ S0) = nt → nt ≤ 8 → lowH 6 S0 → out.length + (k + S0.length) ≤ tA tp tl p → okL (nmK key) out → 10 * (tl - tA tp tl p) + 1 ≤ F → 7 * (8 - T0.length) + (8 - nt) + 10 ≤ d → (∀ (r : Int32) (m2 : am_M), PcR tp tl B key w p out S0 k na t T0 r m2 → Q (some (.int r)) (am_SK n) m2) → am_ex d 35 [.ref 62, .int (nI T0.length), .int (nI nt)] (am_SK n) mem Q
def LvC (tp : Nat → Nat) (tl : Nat) (B : am_M) (key n F : Nat) : Prop := ∀ (l : Nat) (w : Bool) (p : Nat) (out S : List Int32) (na : Nat) (t : Bool) (T0 : List Bool) (nt : Nat) (mem : am_M) (d : Nat) (Q : am_P), l ≤ 5 → CS tp tl B key w p out na mem → p ≤ tl → (l ≤ 2 → t = false) → T0.length ≤ 8 → cntN S = nt → nt ≤ 8 → lowH (l + 1) S → out.length + S.length ≤ tA tp tl p → okL (nmK key) out → 10 * (tl - tA tp tl p) + 2 + (5 - l) ≤ F → 7 * (8 - T0.length) + (8 - nt) + 11 + (5 - l) ≤ d → (∀ (r : Int32) (m2 : am_M), LvR tp tl B key l w p out S na t T0 r m2 → Q (some (.int r)) (am_SK n) m2) → am_ex d 34 [.ref 62, .int (nI l), .int (nI T0.length), .int (nI nt)] (am_SK n) mem Q
theorem Lk_r {tp : Nat → Nat} {tl key : Nat} {w : Bool} {p : Nat} {out S : List Int32} {na : Nat} {t : Bool} {T0 : List Bool} {x : Bool} : Lk tp tl key w p out S na t T0 x w p out S na t T0 x := fun _ _ _ _ _ h => h
theorem Lk_t {tp : Nat → Nat} {tl key : Nat} {w : Bool} {p : Nat} {out S : List Int32} {na : Nat} {t : Bool} {T0 : List Bool} {x w2 : Bool} {p2 : Nat} {out2 S2 : List Int32} {na2 : Nat} {t2 : Bool} {T2 : List Bool} {x2 w3 : Bool} {p3 : Nat} {out3 S3 : List Int32} {na3 : Nat} {t3 : Bool} {T3 : List Bool} {x3 : Bool} (h1 : Lk tp tl key w p out S na t T0 x w2 p2 out2 S2 na2 t2 T2 x2) (h2 : Lk tp tl key w2 p2 out2 S2 na2 t2 T2 x2 w3 p3 out3 S3 na3 t3 T3 x3) : Lk tp tl key w p out S na t T0 x w3 p3 out3 S3 na3 t3 T3 x3 := fun B d n Q hB h => h1 B d n Q hB (h2 B d n Q hB h)
theorem Fl_t {tp : Nat → Nat} {tl key : Nat} {w : Bool} {p : Nat} {out S : List Int32} {na : Nat} {t : Bool} {T0 : List Bool} {x w2 : Bool} {p2 : Nat} {out2 S2 : List Int32} {na2 : Nat} {t2 : Bool} {T2 : List Bool} {x2 : Bool} {p3 : Nat} (h1 : Lk tp tl key w p out S na t T0 x w2 p2 out2 S2 na2 t2 T2 x2) (h2 : Fl tp tl key w2 p2 out2 S2 na2 t2 T2 x2 p3) : Fl tp tl key w p out S na t T0 x p3 := fun B d n Q hB h => h1 B d n Q hB (h2 B d n Q hB h)
section CC
variable {tp : Nat → Nat} {tl : Nat} {B : am_M} {key n : Nat} {w : Bool} {p : Nat} {out : List Int32} {na : Nat} {mem : am_M} {d : Nat} {Q : am_P}
theorem c_stepS (hT : TpC tp tl B) (h : CS tp tl B key w p out na mem) (hF : tF tp tl p ≠ 0) (hQ : ∀ m2 : am_M, CS tp tl B key (tW tp tl p) (tN tp tl p) out na m2 → Q none (am_SK n) m2) : am_ex (d + 2) 25 [.ref 62] (am_SK n) mem Q :=
  c_X5_step (TpC_D hT h.1) (tF tp tl p) (tN tp tl p) (tF_b p) (tN_b hF).2 h.2.1.1 h.2.1.2.2.1 (fun m2 g1 g2 g3 => hQ m2 ⟨FrD_t h.1 (FrD_62 g1 g2), g3, CD_62 h.2.2 (g1 64 (by decide)) (g1 65 (by decide))⟩)
theorem c_addS (h : CS tp tl B key w p out na mem) (hl : out.length < 96) (c x : Int32) (hx : x = S_enc key c) (hQ : ∀ m2 : am_M, CS tp tl B key w p (c :: out) na m2 → Q none (am_SK n) m2) : am_ex (d + 1) 51 [.ref 64, .int x] (am_SK n) mem Q :=
  c_X8_addStep x out.length (by omega) h.2.2.2.2.1 (fun m2 f1 _ f3 => hQ m2 ⟨FrD_t h.1 (FrD_64 f1), CT_64 h.2.1 (f1 62 (by decide) (by decide)), CD_step h.2.2 (by rw [← hx]; exact f3 hl)⟩)
theorem c_addF {p2 : Nat} (h : CF tp tl B p2 mem) (x : Int32) (hQ : ∀ m2 : am_M, CF tp tl B p2 m2 → Q none (am_SK n) m2) : am_ex (d + 1) 51 [.ref 64, .int x] (am_SK n) mem Q := by
  obtain ⟨z, hz, e⟩ := h.2.2
  refine c_X8_addStep x z hz.1 e (fun m2 f1 f2 _ => hQ m2 ⟨FrD_t h.1 (FrD_64 f1), by rw [f1 62 (by decide) (by decide)]; exact h.2.1, ?_⟩)
  obtain ⟨z2, h2, e2⟩ := f2
  exact ⟨z2, ⟨h2, hz.2⟩, e2⟩
theorem CS_F (h : CS tp tl B key w p out na mem) (hl : out.length ≤ 96) (hA : tA tp tl p ≤ 96) : CF tp tl B p mem := ⟨h.1, h.2.1.2.1, out.length, ⟨hl, hA⟩, h.2.2.2.2.1⟩
end CC
theorem r01 {r : Int32} {a b : Prop} (h : (r = nI 0 ∧ a) ∨ (r = nI 1 ∧ b)) : r = 0 ∨ r = 1 := by
  rcases h with ⟨e, _⟩ | ⟨e, _⟩
  · exact Or.inl e
  · exact Or.inr e
theorem enc_s (key : Nat) : ∀ c : Int32, IsC c → S_enc key c = - nI (S_sgn c) := by
  intro c h
  unfold IsC at h
  rcases h with rfl | rfl | rfl | rfl | rfl | rfl | rfl | rfl | rfl | rfl <;> rfl
theorem wfA_b (nm : Nat) (c : Int32) (m : Nat) (h : IsC c) (h10 : c ≠ -10) (hm : 2 ≤ m) : wfA nm c m ∧ S_dp c m = m - 1 := by
  unfold IsC at h
  unfold wfA
  rcases h with rfl | rfl | rfl | rfl | rfl | rfl | rfl | rfl | rfl | rfl
  · exact ⟨Or.inr (Or.inr ⟨by decide, hm⟩), rfl⟩
  · exact ⟨Or.inr (Or.inr ⟨by decide, hm⟩), rfl⟩
  · exact ⟨Or.inr (Or.inr ⟨by decide, hm⟩), rfl⟩
  · exact ⟨Or.inr (Or.inr ⟨by decide, hm⟩), rfl⟩
  · exact ⟨Or.inr (Or.inr ⟨by decide, hm⟩), rfl⟩
  · exact ⟨Or.inr (Or.inr ⟨by decide, hm⟩), rfl⟩
  · exact ⟨Or.inr (Or.inr ⟨by decide, hm⟩), rfl⟩
  · exact ⟨Or.inr (Or.inr ⟨by decide, hm⟩), rfl⟩
  · exact ⟨Or.inr (Or.inr ⟨by decide, hm⟩), rfl⟩
  · exact absurd rfl h10
theorem wfA_n (nm m : Nat) (v : Nat) (hv : v < 10000 + nm) (hn : nm ≤ 3) (hm : m < 96) : wfA nm (nI v) m ∧ S_dp (nI v) m = m + 1 := by
  refine ⟨Or.inl ⟨isN_lt hv (by omega), hm⟩, ?_⟩
  unfold S_dp
  rw [if_neg (nI_pos (by omega))]
theorem wfA_u (nm m : Nat) (hm : 1 ≤ m) : wfA nm (-10) m ∧ S_dp (-10) m = m := ⟨Or.inr (Or.inl ⟨rfl, hm⟩), rfl⟩
theorem nmK_3 (key : Nat) : nmK key ≤ 3 := by
  unfold nmK
  split <;> omega
theorem sg_i {tp : Nat → Nat} {tl p : Nat} (hv : ∀ k, k < tl → tp k < 256) (h : sg tp tl p ≠ 0) : tF tp tl p = 3 ∧ tA tp tl p < tl ∧ IsC (sg tp tl p) ∧ sg tp tl p ≠ -10 ∧ rk (sg tp tl p) ≤ 5 ∧ - nI (tp (tA tp tl p)) = - nI (S_sgn (sg tp tl p)) := by
  have h3 : tF tp tl p = 3 := by
    by_cases e : tF tp tl p = 3
    · exact e
    · exact absurd (if_neg e) h
  have hlt := tF_lt (tp := tp) (tl := tl) (p := p) (by omega)
  have e : sg tp tl p = sgc (tp (tA tp tl p)) := if_pos h3
  rw [e] at h ⊢
  obtain ⟨g1, g2⟩ := sgc_e _ (hv _ hlt) h
  refine ⟨h3, hlt, ?_, ?_, ?_, g1⟩
  · unfold IsC
    rcases g2 with g | g | g | g | g | g | g | g | g <;> simp [g]
  · intro z
    rw [z] at g2
    exact absurd g2 (by decide)
  · rcases g2 with g | g | g | g | g | g | g | g | g <;> rw [g] <;> decide
theorem c_piece {tp : Nat → Nat} {tl : Nat} {B : am_M} {key n F : Nat} (hT : TpC tp tl B) (hSt : StrM B) (hkey : key < 4) (ihP : PcC tp tl B key n F) (ihL : LvC tp tl B key n F) : PcC tp tl B key n (F + 1) := by
  intro w p out S0 k na t T0 nt mem d Q hC hp hT8 hnt hn8 hlow hlen hok hF hd hQ
  obtain ⟨d, rfl⟩ : ∃ e, d = e + 8 := ⟨d - 8, by omega⟩
  have hl := hT.1
  have hab := tA_b (tp := tp) hp
  have hTm := TpC_D hT hC.1
  have hSm := StrM_D hSt hC.1
  have hFb := tF_b (tp := tp) (tl := tl) p
  have hrl : (List.replicate k (-10 : Int32) ++ S0).length = k + S0.length := by rw [List.length_append, List.length_replicate]
  refine ex_in (c0 := kc_X5_readPiece) rfl (L := [some (.ref 62), some (.int (nI T0.length)), some (.int (nI nt)), none]) rfl ?_
  refine ev_aload rfl rfl ?_
  refine ev_getI (c := 5) (j := 3) rfl ?_ (hq := k_62 n)
  rw [hC.2.1.1]
  refine ev_iconst (x := nI 2) rfl rfl ?_
  refine ev_icmp_neN (p2 := 13) rfl rfl (fun cnd5 => ?_) (fun cnd5 => ?_)
  · skip
    refine ev_aload rfl rfl ?_
    refine ev_getI (c := 5) (j := 3) rfl ?_ (hq := k_62 n)
    rw [hC.2.1.1]
    refine ev_iconst (x := nI 1) rfl rfl ?_
    refine ev_icmp_neN (p2 := 26) rfl rfl (fun cnd18 => ?_) (fun cnd18 => ?_)
    · skip
      refine ev_aload rfl rfl ?_
      refine ev_iconst (x := nI 33) rfl rfl ?_
      refine ev_call rfl rfl ?_
      refine c_X5_isSign hTm hC.2.1 33 (by decide) ?_
      change am_ev _ _ _ _ [_] _ _ _
      refine ev_if_eqB (p2 := 65) rfl rfl (fun cnd32 => ?_) (fun cnd32 => ?_)
      · skip
        refine ev_aload rfl rfl ?_
        refine ev_iconst (x := nI 40) rfl rfl ?_
        refine ev_call rfl rfl ?_
        refine c_X5_isSign hTm hC.2.1 40 (by decide) ?_
        change am_ev _ _ _ _ [_] _ _ _
        refine ev_if_eqB (p2 := 113) rfl rfl (fun cnd71 => ?_) (fun cnd71 => ?_)
        · skip
          refine ev_iconst (x := nI 0) rfl rfl ?_
          refine ev_zret rfl ?_
          refine hQ _ _ (Or.inl (And.intro rfl (Exists.intro p (And.intro (CS_F hC (by omega) (by omega)) (fun B2 d2 n2 Q2 hB2 h2 => fl_want hB2 hkey (fun z => by first | exact absurd (And.intro z.1 z.2.1) cnd32 | omega) (fun z => by first | exact absurd (And.intro z.1 z.2.1) cnd71 | omega) (fun z => absurd (tT_2i z).1 cnd5) (fun z => absurd (tT_1i z).1 cnd18) (by omega) (by omega) h2)))))
        · skip
          refine ev_iload rfl rfl ?_
          refine ev_iconst (x := nI 8) rfl rfl ?_
          refine ev_icmp_geN (p2 := 113) rfl rfl (fun cnd77 => ?_) (fun cnd77 => ?_)
          · skip
            refine ev_iconst (x := nI 0) rfl rfl ?_
            refine ev_zret rfl ?_
            refine hQ _ _ (Or.inl (And.intro rfl (Exists.intro p (And.intro (CS_F hC (by omega) (by omega)) (fun B2 d2 n2 Q2 hB2 h2 => fl_want hB2 hkey (fun z => by first | exact absurd (And.intro z.1 z.2.1) cnd32 | omega) (fun z => by first | exact absurd (And.intro z.1 z.2.1) cnd71 | omega) (fun z => absurd (tT_2i z).1 cnd5) (fun z => absurd (tT_1i z).1 cnd18) (by omega) (by omega) h2)))))
          · skip
            have h3 := cnd71.1
            have hN := tN_b (tp := tp) (tl := tl) (p := p) (by omega)
            refine ev_aload rfl rfl ?_
            refine ev_call rfl rfl ?_
            refine c_stepS hT hC (by omega) (fun m1 hm => ?_)
            change am_ev _ _ _ _ [] _ _ _
            refine ev_aload rfl rfl ?_
            refine ev_iconst (x := nI 0) rfl rfl ?_
            refine ev_iload rfl rfl ?_
            refine ev_iconst (x := nI 1) rfl rfl ?_
            refine ev_iaddN rfl ?_
            refine ev_iload rfl rfl ?_
            refine ev_call rfl rfl ?_
            refine ihL 0 (tW tp tl p) (tN tp tl p) out (-11 :: (List.replicate k (-10) ++ S0)) na false (t :: T0) nt _ _ _ (by decide) hm hN.2 (fun _ => rfl) (by show T0.length + 1 ≤ 8; omega) ?_ hn8 (Or.inl rfl) (by have z := (tA_b (tp := tp) hN.2).1; show out.length + ((List.replicate k (-10 : Int32) ++ S0).length + 1) ≤ _; omega) hok (by have z := (tA_b (tp := tp) hN.2).1; omega) (by show 7 * (8 - (T0.length + 1)) + _ + _ + _ ≤ _; omega) (fun r m2 hr => ?_)
            · show cntN (List.replicate k (-10) ++ S0) + (if (-11 : Int32) = -10 then 1 else 0) = nt
              rw [hnt, if_neg (by decide), Nat.add_zero]
            have hlk : Lk tp tl key w p out (List.replicate k (-10) ++ S0) na t T0 true (tW tp tl p) (tN tp tl p) out (-11 :: (List.replicate k (-10) ++ S0)) na false (t :: T0) true := fun B2 d2 n2 Q2 hB2 h2 => st_open hB2 h3 cnd71.2 cnd77 (by omega) h2
            change am_ev _ _ _ _ [_] _ _ _
            rcases hr with ⟨e, p2, q1, q2⟩ | ⟨e, w2, p2, out1, P, na2, t2, q1, q2, q3, q4, q5, q6, q7, _, q8, q9⟩
            · subst e
              refine ev_if_eqN (p2 := 105) rfl rfl (fun _ => ?_) (fun zz => absurd zz (by decide))
              refine ev_iconst (x := nI 0) rfl rfl ?_
              refine ev_zret rfl ?_
              exact hQ _ _ (Or.inl (And.intro rfl (Exists.intro p2 (And.intro q1 (Fl_t hlk q2)))))
            · subst e
              have hA2 := tA_b (tp := tp) q2
              have hA3 := tA_b (tp := tp) hN.2
              have hq4 : (P.reverse ++ out1).length + ((List.replicate k (-10 : Int32) ++ S0).length + 1) ≤ tA tp tl p2 := q4
              have hPI : ∀ c, c ∈ P → IsC c := fun c hc => (q7 c hc).1
              have hlen5 : out1.length + (P ++ -11 :: (List.replicate k (-10) ++ S0)).length ≤ 96 := by
                rw [List.length_append, List.length_reverse] at hq4
                rw [List.length_append]
                show out1.length + (P.length + ((List.replicate k (-10 : Int32) ++ S0).length + 1)) ≤ 96
                omega
              refine ev_if_eqN (p2 := 105) rfl rfl (fun zz => absurd zz (by decide)) (fun _ => ?_)
              refine ev_aload rfl rfl ?_
              refine ev_iconst (x := nI 41) rfl rfl ?_
              refine ev_call rfl rfl ?_
              refine c_X5_isSign (TpC_D hT q1.1) q1.2.1 41 (by decide) ?_
              change am_ev _ _ _ _ [_] _ _ _
              refine ev_if_neB (p2 := 107) rfl rfl (fun c102 => ?_) (fun c102 => ?_)
              · refine ev_aload rfl rfl ?_
                refine ev_call rfl rfl ?_
                have hN2 := tN_b (tp := tp) (tl := tl) (p := p2) (by omega)
                have hA4 := tA_b (tp := tp) hN2.2
                refine c_stepS hT q1 (by omega) (fun m3 f3 => ?_)
                change am_ev _ _ _ _ [] _ _ _
                refine ev_iconst (x := nI 1) rfl rfl ?_
                refine ev_zret rfl ?_
                refine hQ _ _ (Or.inr (And.intro rfl (Exists.intro (tW tp tl p2) (Exists.intro (tN tp tl p2) (Exists.intro (P.reverse ++ out1) (Exists.intro na2 (And.intro f3 (And.intro hN2.2 (And.intro (by omega) (And.intro (by omega) (And.intro q5 (And.intro q6 (Lk_t (Lk_t hlk q9) (fun B2 d2 n2 Q2 hB2 h2 => st_close hB2 c102.1 c102.2 hPI hlow hlen5 hT8 h2))))))))))))))
              · refine ev_iconst (x := nI 0) rfl rfl ?_
                refine ev_zret rfl ?_
                refine hQ _ _ (Or.inl (And.intro rfl (Exists.intro p2 (And.intro (CS_F q1 (by omega) (by omega)) (Fl_t (Lk_t hlk q9) (fun B2 d2 n2 Q2 hB2 h2 => ?_))))))
                by_cases hF2 : tF tp tl p2 = 0
                · exact fl_end hB2 hF2 hPI hlen5 hT8 h2
                · refine fl_op hB2 hF2 (fun z => c102 (And.intro z.1 z.2.1)) ?_ (by show T0.length + 1 ≤ 8; omega) h2
                  by_cases hs0 : sg tp tl p2 = 0
                  · exact Or.inl hs0
                  · have hi := sg_i hTm.2.2.2 hs0
                    have h8 := q8 hs0 (by have z := rk_b (sg tp tl p2); omega)
                    exact Or.inr (And.intro hi.2.2.1 h8)
      · skip
        refine ev_iload rfl rfl ?_
        refine ev_iconst (x := nI 8) rfl rfl ?_
        refine ev_icmp_geN (p2 := 65) rfl rfl (fun cnd38 => ?_) (fun cnd38 => ?_)
        · skip
          refine ev_aload rfl rfl ?_
          refine ev_iconst (x := nI 40) rfl rfl ?_
          refine ev_call rfl rfl ?_
          refine c_X5_isSign hTm hC.2.1 40 (by decide) ?_
          change am_ev _ _ _ _ [_] _ _ _
          refine ev_if_eqB (p2 := 113) rfl rfl (fun cnd71 => ?_) (fun cnd71 => ?_)
          · skip
            refine ev_iconst (x := nI 0) rfl rfl ?_
            refine ev_zret rfl ?_
            refine hQ _ _ (Or.inl (And.intro rfl (Exists.intro p (And.intro (CS_F hC (by omega) (by omega)) (fun B2 d2 n2 Q2 hB2 h2 => fl_want hB2 hkey (fun z => by first | exact absurd (And.intro z.1 z.2.1) cnd32 | omega) (fun z => by first | exact absurd (And.intro z.1 z.2.1) cnd71 | omega) (fun z => absurd (tT_2i z).1 cnd5) (fun z => absurd (tT_1i z).1 cnd18) (by omega) (by omega) h2)))))
          · skip
            refine ev_iload rfl rfl ?_
            refine ev_iconst (x := nI 8) rfl rfl ?_
            refine ev_icmp_geN (p2 := 113) rfl rfl (fun cnd77 => ?_) (fun cnd77 => ?_)
            · skip
              refine ev_iconst (x := nI 0) rfl rfl ?_
              refine ev_zret rfl ?_
              refine hQ _ _ (Or.inl (And.intro rfl (Exists.intro p (And.intro (CS_F hC (by omega) (by omega)) (fun B2 d2 n2 Q2 hB2 h2 => fl_want hB2 hkey (fun z => by first | exact absurd (And.intro z.1 z.2.1) cnd32 | omega) (fun z => by first | exact absurd (And.intro z.1 z.2.1) cnd71 | omega) (fun z => absurd (tT_2i z).1 cnd5) (fun z => absurd (tT_1i z).1 cnd18) (by omega) (by omega) h2)))))
            · skip
              have h3 := cnd71.1
              have hN := tN_b (tp := tp) (tl := tl) (p := p) (by omega)
              refine ev_aload rfl rfl ?_
              refine ev_call rfl rfl ?_
              refine c_stepS hT hC (by omega) (fun m1 hm => ?_)
              change am_ev _ _ _ _ [] _ _ _
              refine ev_aload rfl rfl ?_
              refine ev_iconst (x := nI 0) rfl rfl ?_
              refine ev_iload rfl rfl ?_
              refine ev_iconst (x := nI 1) rfl rfl ?_
              refine ev_iaddN rfl ?_
              refine ev_iload rfl rfl ?_
              refine ev_call rfl rfl ?_
              refine ihL 0 (tW tp tl p) (tN tp tl p) out (-11 :: (List.replicate k (-10) ++ S0)) na false (t :: T0) nt _ _ _ (by decide) hm hN.2 (fun _ => rfl) (by show T0.length + 1 ≤ 8; omega) ?_ hn8 (Or.inl rfl) (by have z := (tA_b (tp := tp) hN.2).1; show out.length + ((List.replicate k (-10 : Int32) ++ S0).length + 1) ≤ _; omega) hok (by have z := (tA_b (tp := tp) hN.2).1; omega) (by show 7 * (8 - (T0.length + 1)) + _ + _ + _ ≤ _; omega) (fun r m2 hr => ?_)
              · show cntN (List.replicate k (-10) ++ S0) + (if (-11 : Int32) = -10 then 1 else 0) = nt
                rw [hnt, if_neg (by decide), Nat.add_zero]
              have hlk : Lk tp tl key w p out (List.replicate k (-10) ++ S0) na t T0 true (tW tp tl p) (tN tp tl p) out (-11 :: (List.replicate k (-10) ++ S0)) na false (t :: T0) true := fun B2 d2 n2 Q2 hB2 h2 => st_open hB2 h3 cnd71.2 cnd77 (by omega) h2
              change am_ev _ _ _ _ [_] _ _ _
              rcases hr with ⟨e, p2, q1, q2⟩ | ⟨e, w2, p2, out1, P, na2, t2, q1, q2, q3, q4, q5, q6, q7, _, q8, q9⟩
              · subst e
                refine ev_if_eqN (p2 := 105) rfl rfl (fun _ => ?_) (fun zz => absurd zz (by decide))
                refine ev_iconst (x := nI 0) rfl rfl ?_
                refine ev_zret rfl ?_
                exact hQ _ _ (Or.inl (And.intro rfl (Exists.intro p2 (And.intro q1 (Fl_t hlk q2)))))
              · subst e
                have hA2 := tA_b (tp := tp) q2
                have hA3 := tA_b (tp := tp) hN.2
                have hq4 : (P.reverse ++ out1).length + ((List.replicate k (-10 : Int32) ++ S0).length + 1) ≤ tA tp tl p2 := q4
                have hPI : ∀ c, c ∈ P → IsC c := fun c hc => (q7 c hc).1
                have hlen5 : out1.length + (P ++ -11 :: (List.replicate k (-10) ++ S0)).length ≤ 96 := by
                  rw [List.length_append, List.length_reverse] at hq4
                  rw [List.length_append]
                  show out1.length + (P.length + ((List.replicate k (-10 : Int32) ++ S0).length + 1)) ≤ 96
                  omega
                refine ev_if_eqN (p2 := 105) rfl rfl (fun zz => absurd zz (by decide)) (fun _ => ?_)
                refine ev_aload rfl rfl ?_
                refine ev_iconst (x := nI 41) rfl rfl ?_
                refine ev_call rfl rfl ?_
                refine c_X5_isSign (TpC_D hT q1.1) q1.2.1 41 (by decide) ?_
                change am_ev _ _ _ _ [_] _ _ _
                refine ev_if_neB (p2 := 107) rfl rfl (fun c102 => ?_) (fun c102 => ?_)
                · refine ev_aload rfl rfl ?_
                  refine ev_call rfl rfl ?_
                  have hN2 := tN_b (tp := tp) (tl := tl) (p := p2) (by omega)
                  have hA4 := tA_b (tp := tp) hN2.2
                  refine c_stepS hT q1 (by omega) (fun m3 f3 => ?_)
                  change am_ev _ _ _ _ [] _ _ _
                  refine ev_iconst (x := nI 1) rfl rfl ?_
                  refine ev_zret rfl ?_
                  refine hQ _ _ (Or.inr (And.intro rfl (Exists.intro (tW tp tl p2) (Exists.intro (tN tp tl p2) (Exists.intro (P.reverse ++ out1) (Exists.intro na2 (And.intro f3 (And.intro hN2.2 (And.intro (by omega) (And.intro (by omega) (And.intro q5 (And.intro q6 (Lk_t (Lk_t hlk q9) (fun B2 d2 n2 Q2 hB2 h2 => st_close hB2 c102.1 c102.2 hPI hlow hlen5 hT8 h2))))))))))))))
                · refine ev_iconst (x := nI 0) rfl rfl ?_
                  refine ev_zret rfl ?_
                  refine hQ _ _ (Or.inl (And.intro rfl (Exists.intro p2 (And.intro (CS_F q1 (by omega) (by omega)) (Fl_t (Lk_t hlk q9) (fun B2 d2 n2 Q2 hB2 h2 => ?_))))))
                  by_cases hF2 : tF tp tl p2 = 0
                  · exact fl_end hB2 hF2 hPI hlen5 hT8 h2
                  · refine fl_op hB2 hF2 (fun z => c102 (And.intro z.1 z.2.1)) ?_ (by show T0.length + 1 ≤ 8; omega) h2
                    by_cases hs0 : sg tp tl p2 = 0
                    · exact Or.inl hs0
                    · have hi := sg_i hTm.2.2.2 hs0
                      have h8 := q8 hs0 (by have z := rk_b (sg tp tl p2); omega)
                      exact Or.inr (And.intro hi.2.2.1 h8)
        · skip
          have h3 := cnd32.1
          have hN := tN_b (tp := tp) (tl := tl) (p := p) (by omega)
          refine ev_aload rfl rfl ?_
          refine ev_call rfl rfl ?_
          refine c_stepS hT hC (by omega) (fun m1 hm => ?_)
          change am_ev _ _ _ _ [] _ _ _
          refine ev_aload rfl rfl ?_
          refine ev_iload rfl rfl ?_
          refine ev_iload rfl rfl ?_
          refine ev_iconst (x := nI 1) rfl rfl ?_
          refine ev_iaddN rfl ?_
          refine ev_call rfl rfl ?_
          refine ihP (tW tp tl p) (tN tp tl p) out S0 (k + 1) na t T0 (nt + 1) _ _ _ hm hN.2 hT8 ?_ (by omega) hlow (by have z := (tA_b (tp := tp) hN.2).1; omega) hok (by have z := (tA_b (tp := tp) hN.2).1; omega) (by omega) (fun r m2 hr => ?_)
          · show cntN (List.replicate k (-10) ++ S0) + (if (-10 : Int32) = -10 then 1 else 0) = nt + 1
            rw [hnt, if_pos rfl]
          have hlk : Lk tp tl key w p out (List.replicate k (-10) ++ S0) na t T0 true (tW tp tl p) (tN tp tl p) out (List.replicate (k + 1) (-10) ++ S0) na t T0 true := fun B2 d2 n2 Q2 hB2 h2 => st_not hB2 h3 cnd32.2 (by rw [hnt]; exact cnd38) (by omega) h2
          change am_ev _ _ _ _ [_] _ _ _
          rcases hr with ⟨e, p2, q1, q2⟩ | ⟨e, w2, p2, out2, na2, q1, q2, q3, q4, q5, q6, q7⟩
          · subst e
            refine ev_istore rfl rfl (Nat.le_of_ble_eq_true rfl) ?_
            refine ev_aload rfl rfl ?_
            refine ev_getR (c := 5) (j := 2) rfl ?_ (hq := k_62 n)
            refine ev_iconst (x := -33) rfl rfl ?_
            refine ev_call rfl rfl ?_
            refine c_addF q1 _ (fun m3 f3 => ?_)
            change am_ev _ _ _ _ [] _ _ _
            refine ev_iload rfl rfl ?_
            refine ev_zret rfl ?_
            exact hQ _ _ (Or.inl (And.intro rfl (Exists.intro p2 (And.intro f3 (Fl_t hlk q2)))))
          · subst e
            have hA2 := tA_b (tp := tp) q2
            have hA3 := tA_b (tp := tp) hN.2
            refine ev_istore rfl rfl (Nat.le_of_ble_eq_true rfl) ?_
            refine ev_aload rfl rfl ?_
            refine ev_getR (c := 5) (j := 2) rfl ?_ (hq := k_62 n)
            refine ev_iconst (x := -33) rfl rfl ?_
            refine ev_call rfl rfl ?_
            refine c_addS q1 (by omega) (-10) _ rfl (fun m3 f3 => ?_)
            change am_ev _ _ _ _ [] _ _ _
            refine ev_iload rfl rfl ?_
            refine ev_zret rfl ?_
            have hw := wfA_u (nmK key) (dpL out2) (by omega)
            refine hQ _ _ (Or.inr (And.intro rfl (Exists.intro w2 (Exists.intro p2 (Exists.intro (-10 :: out2) (Exists.intro na2 (And.intro f3 (And.intro q2 (And.intro (by omega) (And.intro (by show out2.length + 1 + _ ≤ _; omega) (And.intro (And.intro hw.1 q5) (And.intro (hw.2.trans q6) ?_))))))))))))
            have e : List.replicate (k + 1) (-10 : Int32) ++ out2 = List.replicate k (-10) ++ (-10 :: out2) := by
              rw [List.replicate_succ', List.append_assoc]
              rfl
            rw [e] at q7
            exact Lk_t hlk q7
    · skip
      refine ev_aload rfl rfl ?_
      refine ev_call rfl rfl ?_
      refine c_X5_readName hTm hC.2.1 hC.2.2 hSm hkey cnd18 (by have z := tF_lt (tp := tp) (tl := tl) (p := p) (by omega); omega) (fun h0 => ?_) (fun h0 h4 h9 m2 g1 g2 g3 => ?_)
      · change am_ev _ _ _ _ [_] _ _ _
        refine ev_zret rfl ?_
        refine hQ _ _ (Or.inl (And.intro rfl (Exists.intro p (And.intro (CS_F hC (by omega) (by omega)) (fun B2 d2 n2 Q2 hB2 h2 => fl_want hB2 hkey (by omega) (by omega) (fun z => absurd (tT_2i z).1 (by omega)) (fun z z2 => by rcases h0 with h0 | h0 | h0; exact absurd ((tT_1i z).2.symm.trans h0) (by decide); exact absurd z2 h0; exact h0) (by omega) (by omega) h2)))))
      · change am_ev _ _ _ _ [_] _ _ _
        refine ev_zret rfl ?_
        have hN := tN_b (tp := tp) (tl := tl) (p := p) (by omega)
        have hA2 := tA_b (tp := tp) hN.2
        have hne := (nmo_e key hkey _ (hTm.2.2.2 _ (tF_lt (by omega))) h9).1
        have hdl := dpL_le out
        have hw := wfA_n (nmK key) (dpL out) _ (Nat.add_lt_add_left hne 10000) (nmK_3 key) (by omega)
        refine hQ _ _ (Or.inr (And.intro rfl (Exists.intro true (Exists.intro (tN tp tl p) (Exists.intro _ (Exists.intro (na + 1) (And.intro (And.intro (FrD_t hC.1 g1) (And.intro g2 g3)) (And.intro hN.2 (And.intro (by omega) (And.intro (by show out.length + 1 + _ ≤ _; omega) (And.intro (And.intro hw.1 hok) (And.intro hw.2 (fun B2 d2 n2 Q2 hB2 h2 => st_nam hB2 hlow (by omega) hkey (tT_1 cnd18 h0) h4 h9 _ rfl h2)))))))))))))
  · skip
    refine ev_aload rfl rfl ?_
    refine ev_call rfl rfl ?_
    refine c_X5_readNumber hTm hC.2.1 hC.2.2 cnd5 (by have z := tF_lt (tp := tp) (tl := tl) (p := p) (by omega); omega) (fun h0 => ?_) (fun h0 h4 m2 g1 g2 g3 => ?_)
    · change am_ev _ _ _ _ [_] _ _ _
      refine ev_zret rfl ?_
      refine hQ _ _ (Or.inl (And.intro rfl (Exists.intro p (And.intro (CS_F hC (by omega) (by omega)) (fun B2 d2 n2 Q2 hB2 h2 => fl_want hB2 hkey (by omega) (by omega) (fun z => absurd h0 (by have y := tT_2i z; rw [y.2.1]; intro q; rcases q with q | q; exact absurd q (by decide); omega)) (fun z => absurd (tT_1i z).1 (by omega)) (by omega) (by omega) h2)))))
    · change am_ev _ _ _ _ [_] _ _ _
      refine ev_zret rfl ?_
      have hN := tN_b (tp := tp) (tl := tl) (p := p) (by omega)
      have hA2 := tA_b (tp := tp) hN.2
      have hvb := nv_b (tp := tp) (tl := tl) (p := p) cnd5 h4 (Nat.le_refl _) (by omega)
      have hdl := dpL_le out
      have hw := wfA_n (nmK key) (dpL out) _ (Nat.lt_of_lt_of_le hvb (Nat.le_add_right _ _)) (nmK_3 key) (by omega)
      refine hQ _ _ (Or.inr (And.intro rfl (Exists.intro true (Exists.intro (tN tp tl p) (Exists.intro _ (Exists.intro (na + 1) (And.intro (And.intro (FrD_t hC.1 g1) (And.intro g2 g3)) (And.intro hN.2 (And.intro (by omega) (And.intro (by show out.length + 1 + _ ≤ _; omega) (And.intro (And.intro hw.1 hok) (And.intro hw.2 (fun B2 d2 n2 Q2 hB2 h2 => st_num hB2 hlow (by omega) (tT_2 cnd5 h0 h4) _ rfl h2)))))))))))))
