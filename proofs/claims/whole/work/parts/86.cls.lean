/-! texts: the class's small methods -/
def sgc (v : Nat) : Int32 := if v = 124 then -1 else if v = 38 then -2 else if v = 60 then -3 else if v = 61 then -4 else if v = 62 then -5 else if v = 43 then -6 else if v = 45 then -7 else if v = 42 then -8 else if v = 47 then -9 else 0
def rk (c : Int32) : Nat := if c = -1 then 1 else if c = -2 then 2 else if c = -3 ∨ c = -4 ∨ c = -5 then 3 else if c = -6 ∨ c = -7 then 4 else if c = -8 ∨ c = -9 then 5 else 6
def nmo (key v : Nat) : Nat := if key = 1 then (if v = 107 then 0 else if v = 119 then 1 else if v = 99 then 2 else 9) else if key = 3 then (if v = 104 then 0 else if v = 99 then 1 else 9) else if key = 2 then (if v = 104 then 0 else if v = 100 then 1 else 9) else (if v = 104 then 0 else if v = 100 then 1 else if v = 99 then 2 else 9)
theorem io_sg1 : ∀ l, l < 5 → ∀ k, k < sl (8 + l) → sgc (sB (8 + l) k) ≠ 0 ∧ rk (sgc (sB (8 + l) k)) = l + 1 := by decide +kernel
theorem io_sg2 : ∀ l, l < 5 → ∀ v, v < 256 → (∀ k, k < sl (8 + l) → sB (8 + l) k ≠ v) → ¬ (sgc v ≠ 0 ∧ rk (sgc v) = l + 1) := by decide +kernel
theorem io_nm1 : ∀ y, y < 4 → ∀ k, k < sl (4 + y) → nmo y (sB (4 + y) k) ≠ 9 := by decide +kernel
theorem io_nm2 : ∀ y, y < 4 → ∀ v, v < 256 → (∀ k, k < sl (4 + y) → sB (4 + y) k ≠ v) → nmo y v = 9 := by decide +kernel
theorem nmo_e : ∀ y, y < 4 → ∀ v, v < 256 → nmo y v ≠ 9 → (nmo y v < (if y < 2 then 3 else 2)) ∧ S_enc y (nI (10000 + nmo y v)) = - nI v := by decide +kernel
theorem sgc_e : ∀ v, v < 256 → sgc v ≠ 0 → - nI v = - nI (S_sgn (sgc v)) ∧ (sgc v = -1 ∨ sgc v = -2 ∨ sgc v = -3 ∨ sgc v = -4 ∨ sgc v = -5 ∨ sgc v = -6 ∨ sgc v = -7 ∨ sgc v = -8 ∨ sgc v = -9) := by decide +kernel
section TK
variable (tp : Nat → Nat) (tl : Nat)
def sg (p : Nat) : Int32 := if tF tp tl p = 3 then sgc (tp (tA tp tl p)) else 0
def wd (i p : Nat) : Prop := tN tp tl p - tA tp tl p = sl i ∧ ∀ k, k < sl i → tp (tA tp tl p + k) = sB i k
end TK
def FrD (B m : am_M) : Prop := (∀ q, q ≠ 62 → q ≠ 64 → q ≠ 65 → m q = B q) ∧ ∀ k, k ≤ 2 → m 62 k = B 62 k
def CD (key : Nat) (out : List Int32) (na : Nat) (m : am_M) : Prop := m 64 0 = nI key ∧ m 64 1 = nI na ∧ m 64 2 = nI out.length ∧ stkAt (m 65) (out.map (S_enc key))
theorem TpC_D {tp : Nat → Nat} {tl : Nat} {B m : am_M} (h : TpC tp tl B) (f : FrD B m) : TpC tp tl m := ⟨h.1, by rw [f.2 1 (by decide)]; exact h.2.1, fun k hk => by rw [f.1 63 (by decide) (by decide) (by decide)]; exact h.2.2.1 k hk, h.2.2.2⟩
theorem StrM_D {B m : am_M} (h : StrM B) (f : FrD B m) : StrM m := StrM_fr h (fun q hq => f.1 q (by omega) (by omega) (by omega))
theorem FrD_t {B m m2 : am_M} (f : FrD B m) (g : FrD m m2) : FrD B m2 := ⟨fun q h1 h2 h3 => (g.1 q h1 h2 h3).trans (f.1 q h1 h2 h3), fun k hk => (g.2 k hk).trans (f.2 k hk)⟩
theorem FrD_64 {m m2 : am_M} (e : ∀ q, q ≠ 64 → q ≠ 65 → m2 q = m q) : FrD m m2 := ⟨fun q _ h2 h3 => e q h2 h3, fun k _ => by rw [e 62 (by decide) (by decide)]⟩
theorem FrD_62 {m m2 : am_M} (e : ∀ q, q ≠ 62 → m2 q = m q) (e2 : ∀ k, k ≤ 2 → m2 62 k = m 62 k) : FrD m m2 := ⟨fun q h1 _ _ => e q h1, e2⟩
theorem CT_64 {tp : Nat → Nat} {tl p : Nat} {w : Bool} {m m2 : am_M} (h : CT tp tl w p m) (e : m2 62 = m 62) : CT tp tl w p m2 := by unfold CT; rw [e]; exact h
theorem CD_62 {key na : Nat} {out : List Int32} {m m2 : am_M} (h : CD key out na m) (e : m2 64 = m 64) (e2 : m2 65 = m 65) : CD key out na m2 := by unfold CD; rw [e, e2]; exact h
theorem c_X5_isSign {d n : Nat} {mem : am_M} {Q : am_P} {tp : Nat → Nat} {tl : Nat} (hT : TpC tp tl mem) {w : Bool} {p : Nat} (hC : CT tp tl w p mem) (c : Nat) (hc : c < 256) (hQ : Q (some (.int (am_b (tF tp tl p = 3 ∧ tp (tA tp tl p) = c)))) (am_SK n) mem) : am_ex (d + 1) 27 [.ref 62, .int (nI c)] (am_SK n) mem Q := by
  have hF := tF_b (tp := tp) (tl := tl) p
  have hl := hT.1
  refine ex_in (c0 := kc_X5_isSign) rfl (L := [some (.ref 62), some (.int (nI c))]) rfl ?_
  refine ev_aload rfl rfl ?_
  refine ev_getI (c := 5) (j := 3) rfl ?_ (hq := k_62 n)
  rw [hC.1]
  refine ev_iconst (x := nI 3) rfl rfl ?_
  refine ev_icmp_neN (p2 := 36) rfl rfl (fun cnd5 => ?_) (fun cnd5 => ?_)
  · skip
    refine ev_iconst (x := nI 0) rfl rfl ?_
    refine ev_zret rfl ?_
    first | (rw [show am_b (tF tp tl p = 3 ∧ tp (tA tp tl p) = c) = nI 1 from if_pos (by omega)] at hQ; exact hQ) | (rw [show am_b (tF tp tl p = 3 ∧ tp (tA tp tl p) = c) = nI 0 from if_neg (by omega)] at hQ; exact hQ)
  · skip
    have hlt := tF_lt (tp := tp) (tl := tl) (p := p) (by omega)
    have hv := hT.2.2.2 _ hlt
    refine ev_aload rfl rfl ?_
    refine ev_getI (c := 5) (j := 4) rfl ?_ (hq := k_62 n)
    rw [hC.2.1]
    refine ev_aload rfl rfl ?_
    refine ev_getI (c := 5) (j := 1) rfl ?_ (hq := k_62 n)
    rw [hT.2.1]
    refine ev_icmp_geN (p2 := 36) rfl rfl (fun cnd16 => ?_) (fun cnd16 => ?_)
    · omega
    · skip
      refine ev_aload rfl rfl ?_
      refine ev_getR (c := 5) (j := 0) rfl ?_ (hq := k_62 n)
      refine ev_aload rfl rfl ?_
      refine ev_getI (c := 5) (j := 4) rfl ?_ (hq := k_62 n)
      rw [hC.2.1]
      refine ev_ialdN rfl rfl ?_ (hq := k_63 n)
      rw [hT.2.2.1 _ hlt]
      refine ev_iload rfl rfl ?_
      refine ev_icmp_neN (p2 := 36) rfl rfl (fun cnd29 => ?_) (fun cnd29 => ?_)
      · skip
        refine ev_iconst (x := nI 0) rfl rfl ?_
        refine ev_zret rfl ?_
        first | (rw [show am_b (tF tp tl p = 3 ∧ tp (tA tp tl p) = c) = nI 1 from if_pos (by omega)] at hQ; exact hQ) | (rw [show am_b (tF tp tl p = 3 ∧ tp (tA tp tl p) = c) = nI 0 from if_neg (by omega)] at hQ; exact hQ)
      · skip
        refine ev_iconst (x := nI 1) rfl rfl ?_
        refine ev_goto (p2 := 37) rfl rfl ?_
        refine ev_zret rfl ?_
        first | (rw [show am_b (tF tp tl p = 3 ∧ tp (tA tp tl p) = c) = nI 1 from if_pos (by omega)] at hQ; exact hQ) | (rw [show am_b (tF tp tl p = 3 ∧ tp (tA tp tl p) = c) = nI 0 from if_neg (by omega)] at hQ; exact hQ)
theorem c_X5_keyWord {d n : Nat} {mem : am_M} {Q : am_P} (l : Nat) (hl : l < 4) (hQ : Q (some (.ref (2 + (0 + l)))) (am_SK n) mem) : am_ex (d + 1) 29 [.int (nI l)] (am_SK n) mem Q := by
  refine ex_in (c0 := kc_X5_keyWord) rfl (L := [some (.int (nI l))]) rfl ?_
  match l, hl with
  | 0, _ =>
    refine ev_iload rfl rfl ?_
    refine ev_tswC (p2 := 28) rfl (by first | rfl | decide) rfl ?_
    refine ev_ldc rfl ?_
    refine ev_aret rfl ?_
    exact hQ
  | 1, _ =>
    refine ev_iload rfl rfl ?_
    refine ev_tswC (p2 := 31) rfl (by first | rfl | decide) rfl ?_
    refine ev_ldc rfl ?_
    refine ev_aret rfl ?_
    exact hQ
  | 2, _ =>
    refine ev_iload rfl rfl ?_
    refine ev_tswC (p2 := 34) rfl (by first | rfl | decide) rfl ?_
    refine ev_ldc rfl ?_
    refine ev_aret rfl ?_
    exact hQ
  | 3, _ =>
    refine ev_iload rfl rfl ?_
    refine ev_tswC (p2 := 37) rfl (by first | rfl | decide) rfl ?_
    refine ev_ldc rfl ?_
    refine ev_aret rfl ?_
    exact hQ
theorem c_X5_keyNames {d n : Nat} {mem : am_M} {Q : am_P} (l : Nat) (hl : l < 4) (hQ : Q (some (.ref (2 + (4 + l)))) (am_SK n) mem) : am_ex (d + 1) 30 [.int (nI l)] (am_SK n) mem Q := by
  refine ex_in (c0 := kc_X5_keyNames) rfl (L := [some (.int (nI l))]) rfl ?_
  match l, hl with
  | 0, _ =>
    refine ev_iload rfl rfl ?_
    refine ev_tswC (p2 := 28) rfl (by first | rfl | decide) rfl ?_
    refine ev_ldc rfl ?_
    refine ev_aret rfl ?_
    exact hQ
  | 1, _ =>
    refine ev_iload rfl rfl ?_
    refine ev_tswC (p2 := 31) rfl (by first | rfl | decide) rfl ?_
    refine ev_ldc rfl ?_
    refine ev_aret rfl ?_
    exact hQ
  | 2, _ =>
    refine ev_iload rfl rfl ?_
    refine ev_tswC (p2 := 34) rfl (by first | rfl | decide) rfl ?_
    refine ev_ldc rfl ?_
    refine ev_aret rfl ?_
    exact hQ
  | 3, _ =>
    refine ev_iload rfl rfl ?_
    refine ev_tswC (p2 := 37) rfl (by first | rfl | decide) rfl ?_
    refine ev_ldc rfl ?_
    refine ev_aret rfl ?_
    exact hQ
theorem c_X5_signsOf {d n : Nat} {mem : am_M} {Q : am_P} (l : Nat) (hl : l < 5) (hQ : Q (some (.ref (2 + (8 + l)))) (am_SK n) mem) : am_ex (d + 1) 32 [.int (nI l)] (am_SK n) mem Q := by
  refine ex_in (c0 := kc_X5_signsOf) rfl (L := [some (.int (nI l))]) rfl ?_
  match l, hl with
  | 0, _ =>
    refine ev_iload rfl rfl ?_
    refine ev_tswC (p2 := 32) rfl (by first | rfl | decide) rfl ?_
    refine ev_ldc rfl ?_
    refine ev_aret rfl ?_
    exact hQ
  | 1, _ =>
    refine ev_iload rfl rfl ?_
    refine ev_tswC (p2 := 35) rfl (by first | rfl | decide) rfl ?_
    refine ev_ldc rfl ?_
    refine ev_aret rfl ?_
    exact hQ
  | 2, _ =>
    refine ev_iload rfl rfl ?_
    refine ev_tswC (p2 := 38) rfl (by first | rfl | decide) rfl ?_
    refine ev_ldc rfl ?_
    refine ev_aret rfl ?_
    exact hQ
  | 3, _ =>
    refine ev_iload rfl rfl ?_
    refine ev_tswC (p2 := 41) rfl (by first | rfl | decide) rfl ?_
    refine ev_ldc rfl ?_
    refine ev_aret rfl ?_
    exact hQ
  | 4, _ =>
    refine ev_iload rfl rfl ?_
    refine ev_tswC (p2 := 44) rfl (by first | rfl | decide) rfl ?_
    refine ev_ldc rfl ?_
    refine ev_aret rfl ?_
    exact hQ
theorem c_X5_isSignOf {d n : Nat} {mem : am_M} {Q : am_P} {tp : Nat → Nat} {tl : Nat} (hT : TpC tp tl mem) {w : Bool} {p : Nat} (hC : CT tp tl w p mem) (hS : StrM mem) (l : Nat) (hl5 : l < 5) (hQ : Q (some (.int (am_b (sg tp tl p ≠ 0 ∧ rk (sg tp tl p) = l + 1)))) (am_SK n) mem) : am_ex (d + 5) 33 [.ref 62, .int (nI l)] (am_SK n) mem Q := by
  have hF := tF_b (tp := tp) (tl := tl) p
  have hl := hT.1
  refine ex_in (c0 := kc_X5_isSignOf) rfl (L := [some (.ref 62), some (.int (nI l))]) rfl ?_
  refine ev_aload rfl rfl ?_
  refine ev_getI (c := 5) (j := 3) rfl ?_ (hq := k_62 n)
  rw [hC.1]
  refine ev_iconst (x := nI 3) rfl rfl ?_
  refine ev_icmp_neN (p2 := 43) rfl rfl (fun cnd5 => ?_) (fun cnd5 => ?_)
  · skip
    refine ev_iconst (x := nI 0) rfl rfl ?_
    refine ev_zret rfl ?_
    first
    | (have hz : sg tp tl p = 0 := if_neg cnd5
       rw [show am_b (sg tp tl p ≠ 0 ∧ rk (sg tp tl p) = l + 1) = nI 0 from if_neg (fun z => z.1 hz)] at hQ; exact hQ)
    | (rcases hr with ⟨k, h1, h2, h3⟩ | ⟨h1, h3⟩
       · have h4 := io_sg1 l hl5 k h1
         rw [h2, ← hsg] at h4
         first
         | (rw [show am_b (sg tp tl p ≠ 0 ∧ rk (sg tp tl p) = l + 1) = nI 1 from if_pos h4] at hQ; exact hQ)
         | (rw [h3] at cnd36; have hsl := sl_b (8 + l) (by omega); exact absurd cnd36 (nI_pos (by omega)))
       · have h4 := io_sg2 l hl5 _ hv h1
         rw [← hsg] at h4
         first
         | (rw [show am_b (sg tp tl p ≠ 0 ∧ rk (sg tp tl p) = l + 1) = nI 0 from if_neg h4] at hQ; exact hQ)
         | (rw [h3] at cnd36; exact absurd (by decide) cnd36))
  · skip
    have hlt := tF_lt (tp := tp) (tl := tl) (p := p) (by omega)
    have hv := hT.2.2.2 _ hlt
    have hsg : sg tp tl p = sgc (tp (tA tp tl p)) := if_pos (by omega)
    refine ev_aload rfl rfl ?_
    refine ev_getI (c := 5) (j := 4) rfl ?_ (hq := k_62 n)
    rw [hC.2.1]
    refine ev_aload rfl rfl ?_
    refine ev_getI (c := 5) (j := 1) rfl ?_ (hq := k_62 n)
    rw [hT.2.1]
    refine ev_icmp_geN (p2 := 43) rfl rfl (fun cnd16 => ?_) (fun cnd16 => ?_)
    · omega
    · skip
      refine ev_iload rfl rfl ?_
      refine ev_call rfl rfl ?_
      refine c_X5_signsOf l (by omega) ?_
      change am_ev _ _ _ _ [_] _ _ _
      refine ev_aload rfl rfl ?_
      refine ev_getR (c := 5) (j := 0) rfl ?_ (hq := k_62 n)
      refine ev_aload rfl rfl ?_
      refine ev_getI (c := 5) (j := 4) rfl ?_ (hq := k_62 n)
      rw [hC.2.1]
      refine ev_ialdN rfl rfl ?_ (hq := k_63 n)
      rw [hT.2.2.1 _ hlt]
      refine ev_i2c rfl ?_
      rw [i2c_n _ hv]
      refine ev_callV rfl rfl rfl rfl (Nat.le_of_ble_eq_true rfl) (Nat.le_of_ble_eq_true rfl) ?_ (hq := k_str n (i := (8 + l)) (by omega))
      refine c_J0_indexOf_0f7a4 hS (8 + l) (by omega) _ hv (fun r hr => ?_)
      change am_ev _ _ _ _ [_] _ _ _
      refine ev_if_lt (p2 := 43) rfl rfl (fun cnd36 => ?_) (fun cnd36 => ?_)
      · skip
        refine ev_iconst (x := nI 0) rfl rfl ?_
        refine ev_zret rfl ?_
        first
        | (have hz : sg tp tl p = 0 := if_neg cnd5
           rw [show am_b (sg tp tl p ≠ 0 ∧ rk (sg tp tl p) = l + 1) = nI 0 from if_neg (fun z => z.1 hz)] at hQ; exact hQ)
        | (rcases hr with ⟨k, h1, h2, h3⟩ | ⟨h1, h3⟩
           · have h4 := io_sg1 l hl5 k h1
             rw [h2, ← hsg] at h4
             first
             | (rw [show am_b (sg tp tl p ≠ 0 ∧ rk (sg tp tl p) = l + 1) = nI 1 from if_pos h4] at hQ; exact hQ)
             | (rw [h3] at cnd36; have hsl := sl_b (8 + l) (by omega); exact absurd cnd36 (nI_pos (by omega)))
           · have h4 := io_sg2 l hl5 _ hv h1
             rw [← hsg] at h4
             first
             | (rw [show am_b (sg tp tl p ≠ 0 ∧ rk (sg tp tl p) = l + 1) = nI 0 from if_neg h4] at hQ; exact hQ)
             | (rw [h3] at cnd36; exact absurd (by decide) cnd36))
      · skip
        refine ev_iconst (x := nI 1) rfl rfl ?_
        refine ev_goto (p2 := 44) rfl rfl ?_
        refine ev_zret rfl ?_
        first
        | (have hz : sg tp tl p = 0 := if_neg cnd5
           rw [show am_b (sg tp tl p ≠ 0 ∧ rk (sg tp tl p) = l + 1) = nI 0 from if_neg (fun z => z.1 hz)] at hQ; exact hQ)
        | (rcases hr with ⟨k, h1, h2, h3⟩ | ⟨h1, h3⟩
           · have h4 := io_sg1 l hl5 k h1
             rw [h2, ← hsg] at h4
             first
             | (rw [show am_b (sg tp tl p ≠ 0 ∧ rk (sg tp tl p) = l + 1) = nI 1 from if_pos h4] at hQ; exact hQ)
             | (rw [h3] at cnd36; have hsl := sl_b (8 + l) (by omega); exact absurd cnd36 (nI_pos (by omega)))
           · have h4 := io_sg2 l hl5 _ hv h1
             rw [← hsg] at h4
             first
             | (rw [show am_b (sg tp tl p ≠ 0 ∧ rk (sg tp tl p) = l + 1) = nI 0 from if_neg h4] at hQ; exact hQ)
             | (rw [h3] at cnd36; exact absurd (by decide) cnd36))
theorem l_isWord {d n : Nat} {mem : am_M} {Q : am_P} {tp : Nat → Nat} {tl : Nat} (hT : TpC tp tl mem) {w : Bool} {p : Nat} (hC : CT tp tl w p mem) (hS : StrM mem) (i : Nat) (hi : i < 13) (hp : p ≤ tl) (hn : tN tp tl p - tA tp tl p = sl i) (hF0 : tF tp tl p ≠ 0) (hQ1 : wd tp tl i p → Q (some (.int (nI 1))) (am_SK n) mem) (hQ : ¬ wd tp tl i p → Q (some (.int (nI 0))) (am_SK n) mem) (r : Nat) : ∀ b, b + r = sl i → (∀ k, k < b → tp (tA tp tl p + k) = sB i k) → am_ev kc_X5_isWord (d + 4) 20 [some (.ref 62), some (.ref (2 + i)), some (.int (nI b))] [] (am_SK n) mem Q := by
  induction r with
  | zero =>
    intro b hb hz
    have hsl := sl_b i hi
    have hab := tN_b (tp := tp) (tl := tl) (p := p) hF0
    have hl := hT.1
    refine ev_iload rfl rfl ?_
    refine ev_aload rfl rfl ?_
    refine ev_callV rfl rfl rfl rfl (Nat.le_of_ble_eq_true rfl) (Nat.le_of_ble_eq_true rfl) ?_ (hq := k_str n (i := i) (by omega))
    refine c_J0_length_8abf5 hS i (by omega) ?_
    change am_ev _ _ _ _ [_, _] _ _ _
    refine ev_icmp_geN (p2 := 55) rfl rfl (fun cnd25 => ?_) (fun cnd25 => ?_)
    · skip
      refine ev_iconst (x := nI 1) rfl rfl ?_
      refine ev_zret rfl ?_
      exact hQ1 (And.intro hn (fun k hk => hz k (by omega)))
    · omega
  | succ r ih =>
    intro b hb hz
    have hsl := sl_b i hi
    have hab := tN_b (tp := tp) (tl := tl) (p := p) hF0
    have hl := hT.1
    refine ev_iload rfl rfl ?_
    refine ev_aload rfl rfl ?_
    refine ev_callV rfl rfl rfl rfl (Nat.le_of_ble_eq_true rfl) (Nat.le_of_ble_eq_true rfl) ?_ (hq := k_str n (i := i) (by omega))
    refine c_J0_length_8abf5 hS i (by omega) ?_
    change am_ev _ _ _ _ [_, _] _ _ _
    refine ev_icmp_geN (p2 := 55) rfl rfl (fun cnd25 => ?_) (fun cnd25 => ?_)
    · omega
    · skip
      refine ev_aload rfl rfl ?_
      refine ev_getR (c := 5) (j := 0) rfl ?_ (hq := k_62 n)
      refine ev_aload rfl rfl ?_
      refine ev_getI (c := 5) (j := 4) rfl ?_ (hq := k_62 n)
      rw [hC.2.1]
      refine ev_iload rfl rfl ?_
      refine ev_iaddN rfl ?_
      refine ev_ialdN rfl rfl ?_ (hq := k_63 n)
      rw [hT.2.2.1 _ (by omega)]
      refine ev_aload rfl rfl ?_
      refine ev_iload rfl rfl ?_
      refine ev_callV rfl rfl rfl rfl (Nat.le_of_ble_eq_true rfl) (Nat.le_of_ble_eq_true rfl) ?_ (hq := k_str n (i := i) (by omega))
      refine c_J0_charAt_5068e hS i hi b (by omega) ?_
      change am_ev _ _ _ _ [_, _] _ _ _
      have hv := hT.2.2.2 (tA tp tl p + b) (by omega)
      have hs2 := (sB_n i hi b (by omega)).2
      refine ev_icmp_eqN (p2 := 49) rfl rfl (fun cnd44 => ?_) (fun cnd44 => ?_)
      · skip
        refine ev_iincN rfl rfl rfl ?_
        refine ev_goto (p2 := 20) rfl rfl ?_
        refine ih (b + 1) (by omega) (fun k hk => ?_)
        by_cases e : k = b
        · rw [e]; exact cnd44
        · exact hz k (by omega)
      · skip
        refine ev_iconst (x := nI 0) rfl rfl ?_
        refine ev_zret rfl ?_
        exact hQ (fun z => cnd44 (z.2 b (by omega)))
theorem c_X5_isWord {d n : Nat} {mem : am_M} {Q : am_P} {tp : Nat → Nat} {tl : Nat} (hT : TpC tp tl mem) {w : Bool} {p : Nat} (hC : CT tp tl w p mem) (hS : StrM mem) (i : Nat) (hi : i < 13) (hp : p ≤ tl) (hF0 : tF tp tl p ≠ 0) (hQ1 : wd tp tl i p → Q (some (.int (nI 1))) (am_SK n) mem)  (hQ : ¬ wd tp tl i p → Q (some (.int (nI 0))) (am_SK n) mem) : am_ex (d + 5) 31 [.ref 62, .ref (2 + i)] (am_SK n) mem Q := by
  have hab := tN_b (tp := tp) (tl := tl) (p := p) hF0
  have hl := hT.1
  have hsl := sl_b i hi
  refine ex_in (c0 := kc_X5_isWord) rfl (L := [some (.ref 62), some (.ref (2 + i)), none]) rfl ?_
  refine ev_aload rfl rfl ?_
  refine ev_getI (c := 5) (j := 5) rfl ?_ (hq := k_62 n)
  rw [hC.2.2.1]
  refine ev_aload rfl rfl ?_
  refine ev_getI (c := 5) (j := 4) rfl ?_ (hq := k_62 n)
  rw [hC.2.1]
  refine ev_isubN rfl ?_
  refine ev_aload rfl rfl ?_
  refine ev_callV rfl rfl rfl rfl (Nat.le_of_ble_eq_true rfl) (Nat.le_of_ble_eq_true rfl) ?_ (hq := k_str n (i := i) (by omega))
  refine c_J0_length_8abf5 hS i (by omega) ?_
  change am_ev _ _ _ _ [_, _] _ _ _
  refine ev_icmp_eqN (p2 := 18) rfl rfl (fun cnd13 => ?_) (fun cnd13 => ?_)
  · skip
    refine ev_iconst (x := nI 0) rfl rfl ?_
    refine ev_istore rfl rfl (Nat.le_of_ble_eq_true rfl) ?_
    exact l_isWord hT hC hS i hi hp cnd13 hF0 hQ1 hQ (sl i) 0 (by omega) (fun k hk => absurd hk (Nat.not_lt_zero k))
  · skip
    refine ev_iconst (x := nI 0) rfl rfl ?_
    refine ev_zret rfl ?_
    exact hQ (fun z => cnd13 z.1)
theorem c_X8_addStep {d n : Nat} {mem : am_M} {Q : am_P} (x : Int32) (z : Nat) (hz : z ≤ 96) (h2 : mem 64 2 = nI z) (hQ : ∀ m2 : am_M, (∀ q, q ≠ 64 → q ≠ 65 → m2 q = mem q) → (∃ z2, z2 ≤ 96 ∧ m2 64 2 = nI z2) → (z < 96 → m2 64 0 = mem 64 0 ∧ m2 64 1 = mem 64 1 ∧ m2 64 2 = nI (z + 1) ∧ m2 65 = upd (mem 65) z x) → Q none (am_SK n) m2) : am_ex (d + 1) 51 [.ref 64, .int x] (am_SK n) mem Q := by
  refine ex_in (c0 := kc_X8_addStep) rfl (L := [some (.ref 64), some (.int x)]) rfl ?_
  refine ev_aload rfl rfl ?_
  refine ev_getI (c := 8) (j := 2) rfl ?_ (hq := k_64 n)
  rw [h2]
  refine ev_iconst (x := nI 96) rfl rfl ?_
  refine ev_icmp_geN (p2 := 29) rfl rfl (fun cnd6 => ?_) (fun cnd6 => ?_)
  · skip
    refine ev_vret rfl ?_
    first
    | exact hQ mem (fun _ _ _ => rfl) (Exists.intro z (And.intro hz h2)) (fun z2 => absurd z2 (by omega))
    | exact hQ _ (fun q h1 h2 => by rw [am_up_ne h1, am_up_ne h2]) (Exists.intro (z + 1) (And.intro (by omega) am_up_eq)) (fun _ => And.intro (by rw [am_up_nk (by decide), am_up_ne (by decide)]) (And.intro (by rw [am_up_nk (by decide), am_up_ne (by decide)]) (And.intro am_up_eq (by rw [am_up_ne (by decide), am_up_row]))))
  · skip
    refine ev_aload rfl rfl ?_
    refine ev_getR (c := 8) (j := 3) rfl ?_ (hq := k_64 n)
    refine ev_aload rfl rfl ?_
    refine ev_getI (c := 8) (j := 2) rfl ?_ (hq := k_64 n)
    rw [h2]
    refine ev_iload rfl rfl ?_
    refine ev_iastN rfl rfl ?_ (hq := k_65 n)
    refine ev_aload rfl rfl ?_
    first | refine ev_dupR rfl ?_ | refine ev_dupI rfl ?_
    refine ev_getI (c := 8) (j := 2) rfl ?_ (hq := k_64 n)
    rw [am_up_ne (show (64 : Nat) ≠ 65 by decide), h2]
    refine ev_iconst (x := nI 1) rfl rfl ?_
    refine ev_iaddN rfl ?_
    refine ev_put (c := 8) (j := 2) rfl ?_ (hq := k_64 n)
    refine ev_vret rfl ?_
    first
    | exact hQ mem (fun _ _ _ => rfl) (Exists.intro z (And.intro hz h2)) (fun z2 => absurd z2 (by omega))
    | exact hQ _ (fun q h1 h2 => by rw [am_up_ne h1, am_up_ne h2]) (Exists.intro (z + 1) (And.intro (by omega) am_up_eq)) (fun _ => And.intro (by rw [am_up_nk (by decide), am_up_ne (by decide)]) (And.intro (by rw [am_up_nk (by decide), am_up_ne (by decide)]) (And.intro am_up_eq (by rw [am_up_ne (by decide), am_up_row]))))
theorem CD_step {key na : Nat} {out : List Int32} {m m2 : am_M} {v : Int32} (h : CD key out na m) (e : m2 64 0 = m 64 0 ∧ m2 64 1 = m 64 1 ∧ m2 64 2 = nI (out.length + 1) ∧ m2 65 = upd (m 65) out.length (S_enc key v)) : CD key (v :: out) na m2 := by
  obtain ⟨e1, e2, e3, e4⟩ := e
  obtain ⟨g1, g2, g3, g4⟩ := h
  refine ⟨e1.trans g1, e2.trans g2, e3, ?_⟩
  rw [e4]
  have h5 := stkAt_set (x := S_enc key v) g4
  rw [List.length_map] at h5
  exact h5
theorem c_X8_addAtom {d n : Nat} {mem : am_M} {Q : am_P} {key na : Nat} {out : List Int32} (hD : CD key out na mem) (hlen : out.length < 96) (v x : Int32) (hx : x = S_enc key v) (hQ : ∀ m2 : am_M, (∀ q, q ≠ 64 → q ≠ 65 → m2 q = mem q) → CD key (v :: out) (na + 1) m2 → Q none (am_SK n) m2) : am_ex (d + 2) 50 [.ref 64, .int x] (am_SK n) mem Q := by
  refine ex_in (c0 := kc_X8_addAtom) rfl (L := [some (.ref 64), some (.int x)]) rfl ?_
  refine ev_aload rfl rfl ?_
  first | refine ev_dupR rfl ?_ | refine ev_dupI rfl ?_
  refine ev_getI (c := 8) (j := 1) rfl ?_ (hq := k_64 n)
  rw [hD.2.1]
  refine ev_iconst (x := nI 1) rfl rfl ?_
  refine ev_iaddN rfl ?_
  refine ev_putS (c := 8) (j := 1) rfl (fun ma hma => ?_) (hq := k_64 n)
  have hD2 : CD key out (na + 1) ma := And.intro (by rw [hma, am_up_nk (by decide)]; exact hD.1) (And.intro (by rw [hma, am_up_eq]) (And.intro (by rw [hma, am_up_nk (by decide)]; exact hD.2.2.1) (by rw [hma, am_up_ne (by decide)]; exact hD.2.2.2)))
  refine ev_aload rfl rfl ?_
  refine ev_iload rfl rfl ?_
  refine ev_call rfl rfl ?_
  refine c_X8_addStep x out.length (by omega) hD2.2.2.1 (fun m2 f1 _ f3 => ?_)
  change am_ev _ _ _ _ [] _ _ _
  refine ev_vret rfl ?_
  exact hQ m2 (fun q h1 h2 => by rw [f1 q h1 h2, hma, am_up_ne h1]) (CD_step hD2 (by rw [← hx]; exact f3 hlen))
theorem c_X8_begin {d n : Nat} {mem : am_M} {Q : am_P}  (hQ : ∀ m2 : am_M, (∀ q, q ≠ 64 → m2 q = mem q) → m2 64 0 = nI 0 → m2 64 1 = nI 0 → m2 64 2 = nI 0 → Q none (am_SK n) m2) : am_ex (d + 1) 48 [.ref 64] (am_SK n) mem Q := by
  refine ex_in (c0 := kc_X8_begin) rfl (L := [some (.ref 64)]) rfl ?_
  refine ev_aload rfl rfl ?_
  refine ev_iconst (x := nI 0) rfl rfl ?_
  refine ev_put (c := 8) (j := 0) rfl ?_ (hq := k_64 n)
  refine ev_aload rfl rfl ?_
  refine ev_iconst (x := nI 0) rfl rfl ?_
  refine ev_put (c := 8) (j := 1) rfl ?_ (hq := k_64 n)
  refine ev_aload rfl rfl ?_
  refine ev_iconst (x := nI 0) rfl rfl ?_
  refine ev_put (c := 8) (j := 2) rfl ?_ (hq := k_64 n)
  refine ev_vret rfl ?_
  exact hQ _ (fun q h => by rw [am_up_ne h, am_up_ne h, am_up_ne h]) (by rw [am_up_nk (by decide), am_up_nk (by decide), am_up_eq]) (by rw [am_up_nk (by decide), am_up_eq]) am_up_eq
theorem nv_b {tp : Nat → Nat} {tl p b : Nat} (hF : tF tp tl p = 2) (h4 : tN tp tl p - tA tp tl p ≤ 4) (h1 : b ≤ tN tp tl p) (h2 : tA tp tl p ≤ b) : nv tp (tA tp tl p) (b - tA tp tl p) < 10000 := by
  have hd : ∀ k, tA tp tl p ≤ k → k < tN tp tl p → tp k ≤ 57 := by
    intro k k1 k2
    have z := tN_k (tp := tp) (tl := tl) (p := p) (k := k) (Or.inr hF) k1 k2
    rw [hF] at z
    unfold fm at z
    by_cases z1 : 97 ≤ tp k ∧ tp k ≤ 122
    · rw [if_pos z1] at z; omega
    · rw [if_neg z1] at z
      by_cases z2 : 48 ≤ tp k ∧ tp k ≤ 57
      · exact z2.2
      · rw [if_neg z2] at z; omega
  have hm : ∀ m, m ≤ b - tA tp tl p → m ≤ 4 ∧ nv tp (tA tp tl p) m + 1 ≤ 10 ^ m := by
    intro m
    induction m with
    | zero => intro _; exact ⟨by omega, Nat.le_refl 1⟩
    | succ m ih =>
      intro hm
      obtain ⟨i1, i2⟩ := ih (by omega)
      have h3 := hd (tA tp tl p + m) (by omega) (by omega)
      refine ⟨by omega, ?_⟩
      show 10 * nv tp (tA tp tl p) m + tp (tA tp tl p + m) - 48 + 1 ≤ 10 ^ (m + 1)
      rw [Nat.pow_succ]
      omega
  have h5 := hm (b - tA tp tl p) (Nat.le_refl _)
  have h6 : 10 ^ (b - tA tp tl p) ≤ 10 ^ 4 := Nat.pow_le_pow_right (by decide) (by omega)
  omega
theorem S_enc_n {key : Nat} (v : Nat) (h : v < 10000) : S_enc key (nI v) = nI v := by
  unfold S_enc
  rw [if_neg (nI_pos (by omega)), if_neg (fun z => absurd ((nI_leI (by decide) (by omega)).mp z) (by omega))]
theorem l_readNum {d n : Nat} {mem : am_M} {Q : am_P} {tp : Nat → Nat} {tl : Nat} {key na : Nat} {out : List Int32} {w : Bool} {p : Nat} (hT : TpC tp tl mem) (hC : CT tp tl w p mem) (hD : CD key out na mem) (hF : tF tp tl p = 2) (h4 : tN tp tl p - tA tp tl p ≤ 4) (hlen : out.length < 96) (hQ : ∀ m2 : am_M, FrD mem m2 → CT tp tl true (tN tp tl p) m2 → CD key (nI (nv tp (tA tp tl p) (tN tp tl p - tA tp tl p)) :: out) (na + 1) m2 → Q (some (.int (nI 1))) (am_SK n) m2) (r : Nat) : ∀ b, b + r = tN tp tl p → tA tp tl p ≤ b → am_ev kc_X5_readNumber (d + 2) 29 [some (.ref 62), some (.int (nI (nv tp (tA tp tl p) (b - tA tp tl p)))), some (.int (nI b))] [] (am_SK n) mem Q := by
  induction r with
  | zero =>
    intro b hb hab1
    have hab := tN_b (tp := tp) (tl := tl) (p := p) (by omega)
    have hl := hT.1
    refine ev_iload rfl rfl ?_
    refine ev_aload rfl rfl ?_
    refine ev_getI (c := 5) (j := 5) rfl ?_ (hq := k_62 n)
    rw [hC.2.2.1]
    refine ev_icmp_geN (p2 := 58) rfl rfl (fun cnd34 => ?_) (fun cnd34 => ?_)
    · skip
      refine ev_aload rfl rfl ?_
      refine ev_getR (c := 5) (j := 2) rfl ?_ (hq := k_62 n)
      refine ev_iload rfl rfl ?_
      refine ev_call rfl rfl ?_
      refine c_X8_addAtom hD hlen (nI (nv tp (tA tp tl p) (b - tA tp tl p))) _ (S_enc_n _ (nv_b hF h4 (by omega) (by omega))).symm (fun ma f1 f2 => ?_)
      change am_ev _ _ _ _ [] _ _ _
      refine ev_aload rfl rfl ?_
      refine ev_call rfl rfl ?_
      refine c_X5_step (f := tF tp tl p) (p := tN tp tl p) (TpC_D hT (FrD_64 f1)) (hf := tF_b p) (hp := by omega) (c3 := by rw [f1 62 (by decide) (by decide)]; exact hC.1) (c5 := by rw [f1 62 (by decide) (by decide)]; exact hC.2.2.1) (hQ := fun mb g1 g2 g3 => ?_)
      change am_ev _ _ _ _ [] _ _ _
      refine ev_iconst (x := nI 1) rfl rfl ?_
      refine ev_zret rfl ?_
      have hbe : b = tN tp tl p := by omega
      rw [hbe] at f2
      rw [show decide (tF tp tl p = 1 ∨ tF tp tl p = 2) = true from decide_eq_true (Or.inr hF)] at g3
      exact hQ mb (FrD_t (FrD_64 f1) (FrD_62 g1 g2)) g3 (CD_62 f2 (g1 64 (by decide)) (g1 65 (by decide)))
    · omega
  | succ r ih =>
    intro b hb hab1
    have hab := tN_b (tp := tp) (tl := tl) (p := p) (by omega)
    have hl := hT.1
    refine ev_iload rfl rfl ?_
    refine ev_aload rfl rfl ?_
    refine ev_getI (c := 5) (j := 5) rfl ?_ (hq := k_62 n)
    rw [hC.2.2.1]
    refine ev_icmp_geN (p2 := 58) rfl rfl (fun cnd34 => ?_) (fun cnd34 => ?_)
    · omega
    · skip
      refine ev_iload rfl rfl ?_
      refine ev_iconst (x := nI 10) rfl rfl ?_
      refine ev_imulN rfl ?_
      refine ev_aload rfl rfl ?_
      refine ev_getR (c := 5) (j := 0) rfl ?_ (hq := k_62 n)
      refine ev_iload rfl rfl ?_
      have hd : 48 ≤ tp b ∧ tp b ≤ 57 := by
        have z := tN_k (tp := tp) (tl := tl) (p := p) (k := b) (Or.inr hF) (by omega) (by omega)
        rw [hF] at z
        unfold fm at z
        by_cases z1 : 97 ≤ tp b ∧ tp b ≤ 122
        · rw [if_pos z1] at z; omega
        · rw [if_neg z1] at z
          by_cases z2 : 48 ≤ tp b ∧ tp b ≤ 57
          · exact z2
          · rw [if_neg z2] at z; omega
      refine ev_ialdN rfl rfl ?_ (hq := k_63 n)
      rw [hT.2.2.1 _ (by omega)]
      refine ev_iaddN rfl ?_
      refine ev_iconst (x := nI 48) rfl rfl ?_
      refine ev_isubN rfl ?_
      refine ev_istore rfl rfl (Nat.le_of_ble_eq_true rfl) ?_
      refine ev_iincN rfl rfl rfl ?_
      refine ev_goto (p2 := 29) rfl rfl ?_
      have e := ih (b + 1) (by omega) (by omega)
      rw [show b + 1 - tA tp tl p = (b - tA tp tl p) + 1 by omega] at e
      change am_ev _ _ _ [_, some (.int (nI (10 * nv tp (tA tp tl p) (b - tA tp tl p) + tp (tA tp tl p + (b - tA tp tl p)) - 48))), _] _ _ _ _ at e
      rw [show tA tp tl p + (b - tA tp tl p) = b by omega, Nat.mul_comm 10 _] at e
      exact e
theorem c_X5_readNumber {d n : Nat} {mem : am_M} {Q : am_P} {tp : Nat → Nat} {tl : Nat} {key na : Nat} {out : List Int32} {w : Bool} {p : Nat} (hT : TpC tp tl mem) (hC : CT tp tl w p mem) (hD : CD key out na mem) (hF : tF tp tl p = 2) (hlen : out.length < 96) (hQ0 : tG tp tl w p = true ∨ 4 < tN tp tl p - tA tp tl p → Q (some (.int (nI 0))) (am_SK n) mem)  (hQ : tG tp tl w p = false → tN tp tl p - tA tp tl p ≤ 4 → ∀ m2 : am_M, FrD mem m2 → CT tp tl true (tN tp tl p) m2 → CD key (nI (nv tp (tA tp tl p) (tN tp tl p - tA tp tl p)) :: out) (na + 1) m2 → Q (some (.int (nI 1))) (am_SK n) m2) : am_ex (d + 3) 36 [.ref 62] (am_SK n) mem Q := by
  have hab := tN_b (tp := tp) (tl := tl) (p := p) (by omega)
  have hl := hT.1
  refine ex_in (c0 := kc_X5_readNumber) rfl (L := [some (.ref 62), none, none]) rfl ?_
  refine ev_aload rfl rfl ?_
  refine ev_getI (c := 5) (j := 6) rfl ?_ (hq := k_62 n)
  rw [hC.2.2.2]
  refine ev_if_neO (p2 := 20) rfl rfl (fun cnd4 => ?_) (fun cnd4 => ?_)
  · skip
    refine ev_iconst (x := nI 0) rfl rfl ?_
    refine ev_zret rfl ?_
    first | exact hQ0 (Or.inl cnd4) | exact hQ0 (Or.inr (by omega))
  · skip
    refine ev_aload rfl rfl ?_
    refine ev_getI (c := 5) (j := 5) rfl ?_ (hq := k_62 n)
    rw [hC.2.2.1]
    refine ev_aload rfl rfl ?_
    refine ev_getI (c := 5) (j := 4) rfl ?_ (hq := k_62 n)
    rw [hC.2.1]
    refine ev_isubN rfl ?_
    refine ev_iconst (x := nI 4) rfl rfl ?_
    refine ev_icmp_leN (p2 := 22) rfl rfl (fun cnd17 => ?_) (fun cnd17 => ?_)
    · skip
      refine ev_iconst (x := nI 0) rfl rfl ?_
      refine ev_istore rfl rfl (Nat.le_of_ble_eq_true rfl) ?_
      refine ev_aload rfl rfl ?_
      refine ev_getI (c := 5) (j := 4) rfl ?_ (hq := k_62 n)
      rw [hC.2.1]
      refine ev_istore rfl rfl (Nat.le_of_ble_eq_true rfl) ?_
      have e := l_readNum (d := d) hT hC hD hF (by omega) hlen (hQ cnd4 (by omega)) (tN tp tl p - tA tp tl p) (tA tp tl p) (by omega) (Nat.le_refl _)
      rw [Nat.sub_self] at e
      exact e
    · skip
      refine ev_iconst (x := nI 0) rfl rfl ?_
      refine ev_zret rfl ?_
      first | exact hQ0 (Or.inl cnd4) | exact hQ0 (Or.inr (by omega))
theorem c_X5_readName {d n : Nat} {mem : am_M} {Q : am_P} {tp : Nat → Nat} {tl : Nat} {key na : Nat} {out : List Int32} {w : Bool} {p : Nat} (hT : TpC tp tl mem) (hC : CT tp tl w p mem) (hD : CD key out na mem) (hS : StrM mem) (hkey : key < 4) (hF : tF tp tl p = 1) (hlen : out.length < 96) (hQ0 : tG tp tl w p = true ∨ tN tp tl p - tA tp tl p ≠ 1 ∨ nmo key (tp (tA tp tl p)) = 9 → Q (some (.int (nI 0))) (am_SK n) mem)  (hQ : tG tp tl w p = false → tN tp tl p - tA tp tl p = 1 → nmo key (tp (tA tp tl p)) ≠ 9 → ∀ m2 : am_M, FrD mem m2 → CT tp tl true (tN tp tl p) m2 → CD key (nI (10000 + nmo key (tp (tA tp tl p))) :: out) (na + 1) m2 → Q (some (.int (nI 1))) (am_SK n) m2) : am_ex (d + 5) 37 [.ref 62] (am_SK n) mem Q := by
  have hab := tN_b (tp := tp) (tl := tl) (p := p) (by omega)
  have hl := hT.1
  have hlt := tF_lt (tp := tp) (tl := tl) (p := p) (by omega)
  have hv := hT.2.2.2 _ hlt
  refine ex_in (c0 := kc_X5_readName) rfl (L := [some (.ref 62)]) rfl ?_
  refine ev_aload rfl rfl ?_
  refine ev_getI (c := 5) (j := 6) rfl ?_ (hq := k_62 n)
  rw [hC.2.2.2]
  refine ev_if_neO (p2 := 46) rfl rfl (fun cnd4 => ?_) (fun cnd4 => ?_)
  · skip
    refine ev_iconst (x := nI 0) rfl rfl ?_
    refine ev_zret rfl ?_
    first
    | exact hQ0 (Or.inl cnd4)
    | exact hQ0 (Or.inr (Or.inl cnd17))
    | (refine hQ0 (Or.inr (Or.inr ?_))
       rcases hr with ⟨k, h1, h2, h3⟩ | ⟨h1, h3⟩
       · rw [h3] at cnd43
         have hsl := sl_b (4 + key) (by omega)
         exact absurd (nI_pos' (by omega)) cnd43
       · exact io_nm2 key hkey _ hv h1)
  · skip
    refine ev_aload rfl rfl ?_
    refine ev_getI (c := 5) (j := 5) rfl ?_ (hq := k_62 n)
    rw [hC.2.2.1]
    refine ev_aload rfl rfl ?_
    refine ev_getI (c := 5) (j := 4) rfl ?_ (hq := k_62 n)
    rw [hC.2.1]
    refine ev_isubN rfl ?_
    refine ev_iconst (x := nI 1) rfl rfl ?_
    refine ev_icmp_neN (p2 := 46) rfl rfl (fun cnd17 => ?_) (fun cnd17 => ?_)
    · skip
      refine ev_iconst (x := nI 0) rfl rfl ?_
      refine ev_zret rfl ?_
      first
      | exact hQ0 (Or.inl cnd4)
      | exact hQ0 (Or.inr (Or.inl cnd17))
      | (refine hQ0 (Or.inr (Or.inr ?_))
         rcases hr with ⟨k, h1, h2, h3⟩ | ⟨h1, h3⟩
         · rw [h3] at cnd43
           have hsl := sl_b (4 + key) (by omega)
           exact absurd (nI_pos' (by omega)) cnd43
         · exact io_nm2 key hkey _ hv h1)
    · skip
      refine ev_aload rfl rfl ?_
      refine ev_getR (c := 5) (j := 2) rfl ?_ (hq := k_62 n)
      refine ev_getI (c := 8) (j := 0) rfl ?_ (hq := k_64 n)
      rw [hD.1]
      refine ev_call rfl rfl ?_
      refine c_X5_keyNames key (by omega) ?_
      change am_ev _ _ _ _ [_] _ _ _
      refine ev_aload rfl rfl ?_
      refine ev_getR (c := 5) (j := 0) rfl ?_ (hq := k_62 n)
      refine ev_aload rfl rfl ?_
      refine ev_getI (c := 5) (j := 4) rfl ?_ (hq := k_62 n)
      rw [hC.2.1]
      refine ev_ialdN rfl rfl ?_ (hq := k_63 n)
      rw [hT.2.2.1 _ hlt]
      refine ev_i2c rfl ?_
      rw [i2c_n _ hv]
      refine ev_callV rfl rfl rfl rfl (Nat.le_of_ble_eq_true rfl) (Nat.le_of_ble_eq_true rfl) ?_ (hq := k_str n (i := (4 + key)) (by omega))
      refine c_J0_indexOf_0f7a4 hS (4 + key) (by omega) _ hv (fun r hr => ?_)
      change am_ev _ _ _ _ [_] _ _ _
      refine ev_if_ge (p2 := 48) rfl rfl (fun cnd43 => ?_) (fun cnd43 => ?_)
      · skip
        have hnm : nmo key (tp (tA tp tl p)) ≠ 9 := by
          rcases hr with ⟨k, h1, h2, h3⟩ | ⟨h1, h3⟩
          · have h4 := io_nm1 key hkey k h1
            rw [h2] at h4
            exact h4
          · rw [h3] at cnd43
            exact absurd cnd43 (by decide)
        refine ev_aload rfl rfl ?_
        refine ev_getR (c := 5) (j := 2) rfl ?_ (hq := k_62 n)
        refine ev_aload rfl rfl ?_
        refine ev_getR (c := 5) (j := 0) rfl ?_ (hq := k_62 n)
        refine ev_aload rfl rfl ?_
        refine ev_getI (c := 5) (j := 4) rfl ?_ (hq := k_62 n)
        rw [hC.2.1]
        refine ev_ialdN rfl rfl ?_ (hq := k_63 n)
        rw [hT.2.2.1 _ hlt]
        refine ev_ineg rfl ?_
        refine ev_call rfl rfl ?_
        refine c_X8_addAtom hD hlen (nI (10000 + nmo key (tp (tA tp tl p)))) _ (nmo_e key hkey _ hv hnm).2.symm (fun ma f1 f2 => ?_)
        change am_ev _ _ _ _ [] _ _ _
        refine ev_aload rfl rfl ?_
        refine ev_call rfl rfl ?_
        refine c_X5_step (f := tF tp tl p) (p := tN tp tl p) (TpC_D hT (FrD_64 f1)) (hf := tF_b p) (hp := by omega) (c3 := by rw [f1 62 (by decide) (by decide)]; exact hC.1) (c5 := by rw [f1 62 (by decide) (by decide)]; exact hC.2.2.1) (hQ := fun mb g1 g2 g3 => ?_)
        change am_ev _ _ _ _ [] _ _ _
        refine ev_iconst (x := nI 1) rfl rfl ?_
        refine ev_zret rfl ?_
        replace hQ := hQ cnd4 cnd17 hnm
        rw [show decide (tF tp tl p = 1 ∨ tF tp tl p = 2) = true from decide_eq_true (Or.inl hF)] at g3
        exact hQ mb (FrD_t (FrD_64 f1) (FrD_62 g1 g2)) g3 (CD_62 f2 (g1 64 (by decide)) (g1 65 (by decide)))
      · skip
        refine ev_iconst (x := nI 0) rfl rfl ?_
        refine ev_zret rfl ?_
        first
        | exact hQ0 (Or.inl cnd4)
        | exact hQ0 (Or.inr (Or.inl cnd17))
        | (refine hQ0 (Or.inr (Or.inr ?_))
           rcases hr with ⟨k, h1, h2, h3⟩ | ⟨h1, h3⟩
           · rw [h3] at cnd43
             have hsl := sl_b (4 + key) (by omega)
             exact absurd (nI_pos' (by omega)) cnd43
           · exact io_nm2 key hkey _ hv h1)
