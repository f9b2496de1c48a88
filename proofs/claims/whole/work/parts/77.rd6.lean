/-! the round: the search of the class -/
def FrG (mem m2 : am_M) : Prop := ∀ q k, q ≠ 191 → q ≠ 192 → ¬ (q = 189 ∧ k = 3) → m2 q k = mem q k
theorem FrG_refl (mem : am_M) : FrG mem mem := fun _ _ _ _ _ => rfl
theorem FrG_tr {a b c : am_M} (h1 : FrG a b) (h2 : FrG b c) : FrG a c := fun q k e1 e2 e3 => (h2 q k e1 e2 e3).trans (h1 q k e1 e2 e3)
theorem FrG_up {a b : am_M} {q k : Nat} {x : Int32} (h : b = am_up a q k x) (hq : q = 191 ∨ q = 192 ∨ (q = 189 ∧ k = 3)) : FrG a b := by
  intro q2 k2 e1 e2 e3
  subst h
  unfold am_up
  split
  · rename_i e
    subst e
    rcases hq with e | e | e
    · exact absurd e e1
    · exact absurd e e2
    · rw [e.2, upd_ne (fun z => e3 ⟨e.1, z⟩)]
  · rfl
def WkI (N h : Nat) (g : Nat → Nat) (mem : am_M) : Prop := mem 189 4 = nI N ∧ mem 189 5 = nI h ∧ ∀ x, x < N → mem 190 x = nI (g x)
theorem WkI_fr {N h : Nat} {g : Nat → Nat} {mem m2 : am_M} (hf : FrG mem m2) (hk : WkI N h g mem) : WkI N h g m2 := ⟨(hf 189 4 (by decide) (by decide) (by decide)).trans hk.1, (hf 189 5 (by decide) (by decide) (by decide)).trans hk.2.1, fun x hx => (hf 190 x (by decide) (by decide) (fun z => absurd z.1 (by decide))).trans (hk.2.2 x hx)⟩
theorem bit_t : ∀ u, u < 64 → ∀ x, x < 6 → (((nI u >>> (nI x &&& 31)) &&& nI 1 = 0) ↔ Nat.testBit u x = false) := by decide +kernel
theorem bit_s : ∀ u, u < 64 → ∀ x, x < 6 → Nat.testBit u x = false → (nI u ||| (nI 1 <<< (nI x &&& 31)) = nI (u + 2 ^ x) ∧ u + 2 ^ x < 64) := by decide +kernel
theorem btr_cons {g : Nat → Nat} {h a len x : Nat} {pre : List Nat} (l : List (List Nat)) (s : Nat × am_R) : (l.map (List.cons x)).foldl (btr (fun p => len + wl g h a p) (fun p => lI (pre ++ p))) s = l.foldl (btr (fun p => len + wy a (g x) + wl g h (g x) p) (fun p => lI (pre ++ [x] ++ p))) s := by
  rw [List.foldl_map]
  have e : (fun (s : Nat × am_R) (p : List Nat) => btr (fun p => len + wl g h a p) (fun p => lI (pre ++ p)) s (x :: p)) = btr (fun p => len + wy a (g x) + wl g h (g x) p) (fun p => lI (pre ++ [x] ++ p)) := by
    funext s p
    unfold btr
    have e1 : len + wl g h a (x :: p) = len + wy a (g x) + wl g h (g x) p := by
      show len + (wy a (g x) + wl g h (g x) p) = _
      omega
    have e2 : pre ++ (x :: p) = pre ++ [x] ++ p := by rw [List.append_assoc]; rfl
    simp only [e1, e2]
  rw [e]
theorem gf_app {p : List Nat} {x j : Nat} (h : j < p.length) : gf (p ++ [x]) j = gf p j := by
  show ((p ++ [x])[j]?).getD 0 = (p[j]?).getD 0
  rw [List.getElem?_append_left h]
theorem gf_end {p : List Nat} {x j : Nat} (h : j = p.length) : gf (p ++ [x]) j = x := by
  subst h
  show ((p ++ [x])[p.length]?).getD 0 = x
  rw [List.getElem?_append_right (Nat.le_refl _), Nat.sub_self]
  rfl
theorem c_goOn {N h : Nat} {g : Nat → Nat} (hN : N < 7) (hg : ∀ x, g x < 3031) (hh : h < 3031) (m : Nat) : ∀ {d n : Nat} {Q : am_P} (mem : am_M) (s : Nat × am_R) (cnt u a len : Nat) (pre : List Nat) (hm : cnt + m = N) (hp : pre.length = cnt) (hu : u < 64) (ha : a < 3031) (hl : len ≤ 200 * cnt) (hk : WkI N h g mem) (h3 : mem 189 3 = nI s.1) (hs : s.1 < 2 ^ 31) (hO : ∀ j, j < cnt → mem 191 j = nI (gf pre j)) (hB : ∀ j, j < N → mem 192 j = s.2 j) (hQ : ∀ m2 : am_M, FrG mem m2 → (∀ j, j < cnt → m2 191 j = mem 191 j) → m2 189 3 = nI ((cm N m u).foldl (btr (fun p => len + wl g h a p) (fun p => lI (pre ++ p))) s).1 → (∀ j, j < N → m2 192 j = ((cm N m u).foldl (btr (fun p => len + wl g h a p) (fun p => lI (pre ++ p))) s).2 j) → Q none (am_SK n) m2), am_ex (d + m + 3) 79 [.ref 189, .int (nI cnt), .int (nI u), .int (nI a), .int (nI len)] (am_SK n) mem Q := by
  induction m with
  | zero =>
    intro d n Q mem s cnt u a len pre hm hp hu ha hl hk h3 hs hO hB hQ
    have hcn : cnt = N := by omega
    have hy := wy_lt ha hh
    refine ex_in (c0 := kc_X10_goOn) rfl (L := [some (.ref 189), some (.int (nI cnt)), some (.int (nI u)), some (.int (nI a)), some (.int (nI len)), none]) rfl ?_
    have ef : (cm N 0 u).foldl (btr (fun p => len + wl g h a p) (fun p => lI (pre ++ p))) s = if len + wy a h < s.1 then (len + wy a h, lI pre) else s := by
      show (if len + wy a h < s.1 then (len + wy a h, lI (pre ++ [])) else s) = _
      rw [List.append_nil]
    rw [ef] at hQ
    refine ev_iload rfl rfl ?_
    refine ev_aload rfl rfl ?_
    refine ev_getI (c := 10) (j := 4) rfl ?_ (hq := k_189 n)
    rw [hk.1]
    refine ev_icmp_ltN (p2 := 52) rfl rfl (fun cnd5 => ?_) (fun cnd5 => ?_)
    · omega
    · skip
      refine ev_iload rfl rfl ?_
      refine ev_iload rfl rfl ?_
      refine ev_aload rfl rfl ?_
      refine ev_getI (c := 10) (j := 5) rfl ?_ (hq := k_189 n)
      rw [hk.2.1]
      refine ev_call rfl rfl ?_
      refine c_X10_way (by omega) (by omega) ?_
      change am_ev _ _ _ _ [_, _] _ _ _
      refine ev_iaddN rfl ?_
      refine ev_istore rfl rfl (Nat.le_of_ble_eq_true rfl) ?_
      refine ev_iload rfl rfl ?_
      refine ev_aload rfl rfl ?_
      refine ev_getI (c := 10) (j := 3) rfl ?_ (hq := k_189 n)
      rw [h3]
      refine ev_icmp_geN (p2 := 51) rfl rfl (fun cnd27 => ?_) (fun cnd27 => ?_)
      · skip
        refine ev_vret rfl ?_
        first
        | (rw [if_neg (show ¬ len + wy a h < s.1 by omega)] at hQ; exact hQ mem (FrG_refl _) (fun _ _ => rfl) h3 hB)
        | (rw [if_pos (show len + wy a h < s.1 by omega)] at hQ
           have hf3 : FrG mem m3 := FrG_up hm3 (Or.inr (Or.inr ⟨rfl, rfl⟩))
           have hf4 : FrG m3 m4 := by
             intro q k _ e2 _
             rw [hm4, am_cp_ne e2]
           have e191 : m3 191 = mem 191 := by
             rw [hm3]
             unfold am_up
             rw [if_neg (by decide)]
           refine hQ m4 (FrG_tr hf3 hf4) (fun j hj => ?_) ?_ (fun j hj => ?_)
           · rw [hm4, am_cp_ne (by decide), e191]
           · rw [hm4, am_cp_ne (by decide), hm3]
             exact am_up_eq
           · rw [hm4, am_cp_in (by omega), e191]
             exact hO j (by omega))
      · skip
        refine ev_aload rfl rfl ?_
        refine ev_iload rfl rfl ?_
        refine ev_putS (c := 10) (j := 3) rfl (fun m3 hm3 => ?_) (hq := k_189 n)
        refine ev_aload rfl rfl ?_
        refine ev_getR (c := 10) (j := 1) rfl ?_ (hq := k_189 n)
        refine ev_iconst (x := nI 0) rfl rfl ?_
        refine ev_aload rfl rfl ?_
        refine ev_getR (c := 10) (j := 2) rfl ?_ (hq := k_189 n)
        refine ev_iconst (x := nI 0) rfl rfl ?_
        refine ev_iconst (x := nI 6) rfl rfl ?_
        refine ev_copyS rfl (fun m4 hm4 => ?_) (k_191 n) (k_192 n)
        refine ev_vret rfl ?_
        first
        | (rw [if_neg (show ¬ len + wy a h < s.1 by omega)] at hQ; exact hQ mem (FrG_refl _) (fun _ _ => rfl) h3 hB)
        | (rw [if_pos (show len + wy a h < s.1 by omega)] at hQ
           have hf3 : FrG mem m3 := FrG_up hm3 (Or.inr (Or.inr ⟨rfl, rfl⟩))
           have hf4 : FrG m3 m4 := by
             intro q k _ e2 _
             rw [hm4, am_cp_ne e2]
           have e191 : m3 191 = mem 191 := by
             rw [hm3]
             unfold am_up
             rw [if_neg (by decide)]
           refine hQ m4 (FrG_tr hf3 hf4) (fun j hj => ?_) ?_ (fun j hj => ?_)
           · rw [hm4, am_cp_ne (by decide), e191]
           · rw [hm4, am_cp_ne (by decide), hm3]
             exact am_up_eq
           · rw [hm4, am_cp_in (by omega), e191]
             exact hO j (by omega))
  | succ m ih =>
    intro d n Q mem s cnt u a len pre hm hp hu ha hl hk h3 hs hO hB hQ
    have lp : ∀ (r : Nat) (mem : am_M) (s : Nat × am_R) (x : Nat) (hx : x + r = N) (hk : WkI N h g mem) (h3 : mem 189 3 = nI s.1) (hs : s.1 < 2 ^ 31) (hO : ∀ j, j < cnt → mem 191 j = nI (gf pre j)) (hB : ∀ j, j < N → mem 192 j = s.2 j) (hQ : ∀ m2 : am_M, FrG mem m2 → (∀ j, j < cnt → m2 191 j = mem 191 j) → m2 189 3 = nI ((cl (cm N m) u r x).foldl (btr (fun p => len + wl g h a p) (fun p => lI (pre ++ p))) s).1 → (∀ j, j < N → m2 192 j = ((cl (cm N m) u r x).foldl (btr (fun p => len + wl g h a p) (fun p => lI (pre ++ p))) s).2 j) → Q none (am_SK n) m2), am_ev kc_X10_goOn (d + m + 3) 55 [some (.ref 189), some (.int (nI cnt)), some (.int (nI u)), some (.int (nI a)), some (.int (nI len)), some (.int (nI x))] [] (am_SK n) mem Q := by
      intro r
      induction r with
      | zero =>
        intro mem s x hx hk h3 hs hO hB hQ
        refine ev_iload rfl rfl ?_
        refine ev_aload rfl rfl ?_
        refine ev_getI (c := 10) (j := 4) rfl ?_ (hq := k_189 n)
        rw [hk.1]
        refine ev_icmp_geN (p2 := 130) rfl rfl (fun cnd61 => ?_) (fun cnd61 => ?_)
        · skip
          refine ev_vret rfl ?_
          exact hQ mem (FrG_refl _) (fun _ _ => rfl) h3 hB
        · omega
      | succ r ihr =>
        intro mem s x hx hk h3 hs hO hB hQ
        have hx6 : x < 6 := by omega
        have hgx := hg x
        have hy := wy_lt ha hgx
        have ec : cl (cm N m) u (r + 1) x = (if Nat.testBit u x then [] else (cm N m (u + 2 ^ x)).map (List.cons x)) ++ cl (cm N m) u r (x + 1) := rfl
        refine ev_iload rfl rfl ?_
        refine ev_aload rfl rfl ?_
        refine ev_getI (c := 10) (j := 4) rfl ?_ (hq := k_189 n)
        rw [hk.1]
        refine ev_icmp_geN (p2 := 130) rfl rfl (fun cnd61 => ?_) (fun cnd61 => ?_)
        · omega
        · skip
          refine ev_iload rfl rfl ?_
          refine ev_aload rfl rfl ?_
          refine ev_getI (c := 10) (j := 3) rfl ?_ (hq := k_189 n)
          rw [h3]
          refine ev_icmp_geN (p2 := 130) rfl rfl (fun cnd70 => ?_) (fun cnd70 => ?_)
          · skip
            refine ev_vret rfl ?_
            first
            | (exfalso; omega)
            | (rw [btr_stay (w := fun p => len + wl g h a p) (v := fun p => lI (pre ++ p)) (s := s) (cl (cm N m) u (r + 1) x) (fun p _ => by show s.1 ≤ len + wl g h a p; omega)] at hQ
               exact hQ mem (FrG_refl _) (fun _ _ => rfl) h3 hB)
          · skip
            refine ev_iload rfl rfl ?_
            refine ev_iload rfl rfl ?_
            refine ev_ishr rfl ?_
            refine ev_iconst (x := nI 1) rfl rfl ?_
            refine ev_iand rfl ?_
            refine ev_if_ne (p2 := 124) rfl rfl (fun cnd79 => ?_) (fun cnd79 => ?_)
            · skip
              refine ev_iincN rfl rfl rfl ?_
              refine ev_goto (p2 := 55) rfl rfl ?_
              first
              | (have hb : Nat.testBit u x = true := by
                   cases hbt : Nat.testBit u x with
                   | true => rfl
                   | false => exact absurd ((bit_t u hu x hx6).mpr hbt) cnd79
                 rw [ec, if_pos hb, List.nil_append] at hQ
                 exact ihr mem s (x + 1) (by omega) hk h3 hs hO hB hQ)
              | (rw [ec, if_neg (by rw [hbf]; decide), List.foldl_append, btr_cons] at hQ
                 have hs4 := btr_le (w := fun p => len + wy a (g x) + wl g h (g x) p) (v := fun p => lI (pre ++ [x] ++ p)) (cm N m (u + 2 ^ x)) s
                 have hf5 := FrG_tr hf3 hf4
                 have h191 : ∀ j, j < cnt → m4 191 j = mem 191 j := by
                   intro j hj
                   rw [ho4 j (by omega), hm3, am_up_nk (by omega)]
                 exact ihr m4 _ (x + 1) (by omega) (WkI_fr hf5 hk) h34 (by omega) (fun j hj => (h191 j hj).trans (hO j hj)) hb4 (fun m2 hf2 ho2 h32 hb2 => hQ m2 (FrG_tr hf5 hf2) (fun j hj => (ho2 j hj).trans (h191 j hj)) h32 hb2))
            · skip
              have hbf := (bit_t u hu x hx6).mp cnd79
              have hbs := bit_s u hu x hx6 hbf
              refine ev_aload rfl rfl ?_
              refine ev_getR (c := 10) (j := 1) rfl ?_ (hq := k_189 n)
              refine ev_iload rfl rfl ?_
              refine ev_iload rfl rfl ?_
              refine ev_iastS rfl (fun m3 hm3 => ?_) (hq := k_191 n)
              have hf3 : FrG mem m3 := FrG_up hm3 (Or.inl rfl)
              have hk3 := WkI_fr hf3 hk
              have h33 : m3 189 3 = nI s.1 := by
                rw [hm3]
                unfold am_up
                rw [if_neg (by decide)]
                exact h3
              have hB3 : ∀ j, j < N → m3 192 j = s.2 j := by
                intro j hj
                rw [hm3]
                unfold am_up
                rw [if_neg (by decide)]
                exact hB j hj
              refine ev_aload rfl rfl ?_
              refine ev_iload rfl rfl ?_
              refine ev_iconst (x := nI 1) rfl rfl ?_
              refine ev_iaddN rfl ?_
              refine ev_iload rfl rfl ?_
              refine ev_iconst (x := nI 1) rfl rfl ?_
              refine ev_iload rfl rfl ?_
              refine ev_ishl rfl ?_
              refine ev_ior rfl ?_
              rw [hbs.1]
              refine ev_aload rfl rfl ?_
              refine ev_getR (c := 10) (j := 0) rfl ?_ (hq := k_189 n)
              refine ev_iload rfl rfl ?_
              refine ev_ialdN rfl rfl ?_ (hq := k_190 n)
              rw [hk3.2.2 x (by omega)]
              refine ev_iload rfl rfl ?_
              refine ev_iload rfl rfl ?_
              refine ev_aload rfl rfl ?_
              refine ev_getR (c := 10) (j := 0) rfl ?_ (hq := k_189 n)
              refine ev_iload rfl rfl ?_
              refine ev_ialdN rfl rfl ?_ (hq := k_190 n)
              rw [hk3.2.2 x (by omega)]
              refine ev_call rfl rfl ?_
              refine c_X10_way (by omega) (by omega) ?_
              change am_ev _ _ _ _ [_, _, _, _, _, _] _ _ _
              refine ev_iaddN rfl ?_
              refine ev_call rfl rfl ?_
              refine ih m3 s (cnt + 1) (u + 2 ^ x) (g x) (len + wy a (g x)) (pre ++ [x]) (by omega) (by rw [List.length_append, hp]; rfl) hbs.2 hgx (by omega) hk3 h33 hs ?_ hB3 (fun m4 hf4 ho4 h34 hb4 => ?_)
              · intro j hj
                by_cases e : j = cnt
                · rw [gf_end (by omega), hm3, e]
                  exact am_up_eq
                · rw [gf_app (by omega), hm3, am_up_nk e]
                  exact hO j (by omega)
              change am_ev _ _ _ _ [] _ _ _
              refine ev_iincN rfl rfl rfl ?_
              refine ev_goto (p2 := 55) rfl rfl ?_
              first
              | (have hb : Nat.testBit u x = true := by
                   cases hbt : Nat.testBit u x with
                   | true => rfl
                   | false => exact absurd ((bit_t u hu x hx6).mpr hbt) cnd79
                 rw [ec, if_pos hb, List.nil_append] at hQ
                 exact ihr mem s (x + 1) (by omega) hk h3 hs hO hB hQ)
              | (rw [ec, if_neg (by rw [hbf]; decide), List.foldl_append, btr_cons] at hQ
                 have hs4 := btr_le (w := fun p => len + wy a (g x) + wl g h (g x) p) (v := fun p => lI (pre ++ [x] ++ p)) (cm N m (u + 2 ^ x)) s
                 have hf5 := FrG_tr hf3 hf4
                 have h191 : ∀ j, j < cnt → m4 191 j = mem 191 j := by
                   intro j hj
                   rw [ho4 j (by omega), hm3, am_up_nk (by omega)]
                 exact ihr m4 _ (x + 1) (by omega) (WkI_fr hf5 hk) h34 (by omega) (fun j hj => (h191 j hj).trans (hO j hj)) hb4 (fun m2 hf2 ho2 h32 hb2 => hQ m2 (FrG_tr hf5 hf2) (fun j hj => (ho2 j hj).trans (h191 j hj)) h32 hb2))
    show am_ex (d + m + 3 + 1) _ _ _ _ _
    refine ex_in (c0 := kc_X10_goOn) rfl (L := [some (.ref 189), some (.int (nI cnt)), some (.int (nI u)), some (.int (nI a)), some (.int (nI len)), none]) rfl ?_
    refine ev_iload rfl rfl ?_
    refine ev_aload rfl rfl ?_
    refine ev_getI (c := 10) (j := 4) rfl ?_ (hq := k_189 n)
    rw [hk.1]
    refine ev_icmp_ltN (p2 := 52) rfl rfl (fun cnd5 => ?_) (fun cnd5 => ?_)
    · skip
      refine ev_iconst (x := nI 0) rfl rfl ?_
      refine ev_istore rfl rfl (Nat.le_of_ble_eq_true rfl) ?_
      exact lp N mem s 0 (Nat.zero_add _) hk h3 hs hO hB hQ
    · omega
