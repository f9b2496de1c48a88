/-! the class: a town becomes another -/
theorem am_cp_ne {mem : am_M} {a b sp dp m q : Nat} (h : q ≠ b) : am_cp mem a b sp dp m q = mem q := by
  unfold am_cp
  rw [if_neg h]
theorem am_cp_in {mem : am_M} {a b m k : Nat} (h : k < m) : am_cp mem a b 0 0 m b k = mem a k := by
  unfold am_cp
  rw [if_pos rfl, pk_cpy_in (Nat.zero_le _) (by omega), Nat.zero_add, Nat.sub_zero]
theorem ev_copyS {code : am_C} {d pc nx : Nat} {L : am_L} {st : List Value} {sk : am_K} {mem : am_M} {Q : am_P} {j a b na nb sp dp m : Nat} {ra rb : List (Option Nat)} (hc : am_at code pc = some (.invokedynamic j, nx)) (k : ∀ mem' : am_M, mem' = am_cp mem a b sp dp m → am_ev code d nx L st sk mem' Q) (ha : sk[a]? = some (20, na, ra)) (hb : sk[b]? = some (20, nb, rb)) (h29 : 29 ≤ a ∧ 29 ≤ b := by omega) (h4 : sp + m ≤ na := by omega) (h5 : dp + m ≤ nb := by omega) (hN : na < 2 ^ 31 ∧ nb < 2 ^ 31 := by omega) (h6 : st.length ≤ 8 := by exact Nat.le_of_ble_eq_true rfl) : am_ev code d pc L (.int (nI m) :: .int (nI dp) :: .ref b :: .int (nI sp) :: .ref a :: st) sk mem Q := ev_copyN hc (k _ rfl) ha hb h29 h4 h5 hN h6
def FrB (t : Nat) (mem m2 : am_M) : Prop := ∀ q, ¬ (t ≤ q ∧ q ≤ t + 37) → m2 q = mem q
theorem am_T.far {t s : Nat} (ht : am_T t) (hs : am_T s) (h : t ≠ s) : (t + 38 ≤ s ∨ s + 38 ≤ t) ∧ 66 ≤ t ∧ 66 ≤ s := by
  rcases ht with rfl | rfl | rfl <;> rcases hs with rfl | rfl | rfl <;> first | omega | exact absurd rfl h
theorem c_X1_become {d n : Nat} {mem : am_M} {Q : am_P} {q p : Nat} (hq : (am_SK n)[q]? = some (1, 6, List.replicate 6 none)) (hp : (am_SK n)[p]? = some (1, 6, List.replicate 6 none)) (h29 : 29 ≤ q ∧ 29 ≤ p ∧ p ≠ q) (hb4 : mem p 4 = 0 ∨ mem p 4 = 1) (hQ : ∀ m2 : am_M, (∀ x, x ≠ q → m2 x = mem x) → (∀ f, f < 6 → m2 q f = mem p f) → Q none (am_SK n) m2) : am_ex (d + 1) 6 [.ref q, .ref p] (am_SK n) mem Q := by
  refine ex_in (c0 := kc_X1_become) rfl (L := [some (.ref q), some (.ref p)]) rfl ?_
  refine ev_aload rfl rfl ?_
  refine ev_aload rfl rfl ?_
  refine ev_getI (c := 1) (j := 0) rfl ?_ (hq := hp)
  refine ev_put (c := 1) (j := 0) rfl ?_ (hq := hq)
  refine ev_aload rfl rfl ?_
  refine ev_aload rfl rfl ?_
  refine ev_getI (c := 1) (j := 1) rfl ?_ (hq := hp)
  refine ev_put (c := 1) (j := 1) rfl ?_ (hq := hq)
  refine ev_aload rfl rfl ?_
  refine ev_aload rfl rfl ?_
  refine ev_getI (c := 1) (j := 2) rfl ?_ (hq := hp)
  refine ev_put (c := 1) (j := 2) rfl ?_ (hq := hq)
  refine ev_aload rfl rfl ?_
  refine ev_aload rfl rfl ?_
  refine ev_getI (c := 1) (j := 3) rfl ?_ (hq := hp)
  refine ev_put (c := 1) (j := 3) rfl ?_ (hq := hq)
  refine ev_aload rfl rfl ?_
  refine ev_aload rfl rfl ?_
  refine ev_getI (c := 1) (j := 4) rfl ?_ (hq := hp)
  refine ev_putB (c := 1) (j := 4) rfl ?_ (hq := hq) (hx := by simp only [am_up_ne h29.2.2]; exact hb4)
  refine ev_aload rfl rfl ?_
  refine ev_aload rfl rfl ?_
  refine ev_getI (c := 1) (j := 5) rfl ?_ (hq := hp)
  refine ev_put (c := 1) (j := 5) rfl ?_ (hq := hq)
  refine ev_vret rfl ?_
  refine hQ _ (fun x hx => by simp only [am_up_ne hx]) (fun f hf => ?_)
  match f, hf with
  | 0, _ => repeat first | rw [am_up_nk (by decide)] | rw [am_up_eq] | rw [am_up_ne h29.2.2]
  | 1, _ => repeat first | rw [am_up_nk (by decide)] | rw [am_up_eq] | rw [am_up_ne h29.2.2]
  | 2, _ => repeat first | rw [am_up_nk (by decide)] | rw [am_up_eq] | rw [am_up_ne h29.2.2]
  | 3, _ => repeat first | rw [am_up_nk (by decide)] | rw [am_up_eq] | rw [am_up_ne h29.2.2]
  | 4, _ => repeat first | rw [am_up_nk (by decide)] | rw [am_up_eq] | rw [am_up_ne h29.2.2]
  | 5, _ => repeat first | rw [am_up_nk (by decide)] | rw [am_up_eq] | rw [am_up_ne h29.2.2]
theorem c_X3_become {d n : Nat} {mem : am_M} {Q : am_P} {q p : Nat} (hq : (am_SK n)[q]? = some (3, 4, List.replicate 4 none)) (hp : (am_SK n)[p]? = some (3, 4, List.replicate 4 none)) (h29 : 29 ≤ q ∧ 29 ≤ p ∧ p ≠ q) (hb3 : mem p 3 = 0 ∨ mem p 3 = 1) (hQ : ∀ m2 : am_M, (∀ x, x ≠ q → m2 x = mem x) → (∀ f, f < 4 → m2 q f = mem p f) → Q none (am_SK n) m2) : am_ex (d + 1) 18 [.ref q, .ref p] (am_SK n) mem Q := by
  refine ex_in (c0 := kc_X3_become) rfl (L := [some (.ref q), some (.ref p)]) rfl ?_
  refine ev_aload rfl rfl ?_
  refine ev_aload rfl rfl ?_
  refine ev_getI (c := 3) (j := 0) rfl ?_ (hq := hp)
  refine ev_put (c := 3) (j := 0) rfl ?_ (hq := hq)
  refine ev_aload rfl rfl ?_
  refine ev_aload rfl rfl ?_
  refine ev_getI (c := 3) (j := 1) rfl ?_ (hq := hp)
  refine ev_put (c := 3) (j := 1) rfl ?_ (hq := hq)
  refine ev_aload rfl rfl ?_
  refine ev_aload rfl rfl ?_
  refine ev_getI (c := 3) (j := 2) rfl ?_ (hq := hp)
  refine ev_put (c := 3) (j := 2) rfl ?_ (hq := hq)
  refine ev_aload rfl rfl ?_
  refine ev_aload rfl rfl ?_
  refine ev_getI (c := 3) (j := 3) rfl ?_ (hq := hp)
  refine ev_putB (c := 3) (j := 3) rfl ?_ (hq := hq) (hx := by simp only [am_up_ne h29.2.2]; exact hb3)
  refine ev_vret rfl ?_
  refine hQ _ (fun x hx => by simp only [am_up_ne hx]) (fun f hf => ?_)
  match f, hf with
  | 0, _ => repeat first | rw [am_up_nk (by decide)] | rw [am_up_eq] | rw [am_up_ne h29.2.2]
  | 1, _ => repeat first | rw [am_up_nk (by decide)] | rw [am_up_eq] | rw [am_up_ne h29.2.2]
  | 2, _ => repeat first | rw [am_up_nk (by decide)] | rw [am_up_eq] | rw [am_up_ne h29.2.2]
  | 3, _ => repeat first | rw [am_up_nk (by decide)] | rw [am_up_eq] | rw [am_up_ne h29.2.2]
theorem c_X4_become {d n : Nat} {mem : am_M} {Q : am_P} {q p : Nat} (hq : (am_SK n)[q]? = some (4, 7, List.replicate 7 none)) (hp : (am_SK n)[p]? = some (4, 7, List.replicate 7 none)) (h29 : 29 ≤ q ∧ 29 ≤ p ∧ p ≠ q) (hb5 : mem p 5 = 0 ∨ mem p 5 = 1) (hb6 : mem p 6 = 0 ∨ mem p 6 = 1) (hQ : ∀ m2 : am_M, (∀ x, x ≠ q → m2 x = mem x) → (∀ f, f < 7 → m2 q f = mem p f) → Q none (am_SK n) m2) : am_ex (d + 1) 21 [.ref q, .ref p] (am_SK n) mem Q := by
  refine ex_in (c0 := kc_X4_become) rfl (L := [some (.ref q), some (.ref p)]) rfl ?_
  refine ev_aload rfl rfl ?_
  refine ev_aload rfl rfl ?_
  refine ev_getI (c := 4) (j := 0) rfl ?_ (hq := hp)
  refine ev_put (c := 4) (j := 0) rfl ?_ (hq := hq)
  refine ev_aload rfl rfl ?_
  refine ev_aload rfl rfl ?_
  refine ev_getI (c := 4) (j := 1) rfl ?_ (hq := hp)
  refine ev_put (c := 4) (j := 1) rfl ?_ (hq := hq)
  refine ev_aload rfl rfl ?_
  refine ev_aload rfl rfl ?_
  refine ev_getI (c := 4) (j := 2) rfl ?_ (hq := hp)
  refine ev_put (c := 4) (j := 2) rfl ?_ (hq := hq)
  refine ev_aload rfl rfl ?_
  refine ev_aload rfl rfl ?_
  refine ev_getI (c := 4) (j := 3) rfl ?_ (hq := hp)
  refine ev_put (c := 4) (j := 3) rfl ?_ (hq := hq)
  refine ev_aload rfl rfl ?_
  refine ev_aload rfl rfl ?_
  refine ev_getI (c := 4) (j := 4) rfl ?_ (hq := hp)
  refine ev_put (c := 4) (j := 4) rfl ?_ (hq := hq)
  refine ev_aload rfl rfl ?_
  refine ev_aload rfl rfl ?_
  refine ev_getI (c := 4) (j := 5) rfl ?_ (hq := hp)
  refine ev_putB (c := 4) (j := 5) rfl ?_ (hq := hq) (hx := by simp only [am_up_ne h29.2.2]; exact hb5)
  refine ev_aload rfl rfl ?_
  refine ev_aload rfl rfl ?_
  refine ev_getI (c := 4) (j := 6) rfl ?_ (hq := hp)
  refine ev_putB (c := 4) (j := 6) rfl ?_ (hq := hq) (hx := by simp only [am_up_ne h29.2.2]; exact hb6)
  refine ev_vret rfl ?_
  refine hQ _ (fun x hx => by simp only [am_up_ne hx]) (fun f hf => ?_)
  match f, hf with
  | 0, _ => repeat first | rw [am_up_nk (by decide)] | rw [am_up_eq] | rw [am_up_ne h29.2.2]
  | 1, _ => repeat first | rw [am_up_nk (by decide)] | rw [am_up_eq] | rw [am_up_ne h29.2.2]
  | 2, _ => repeat first | rw [am_up_nk (by decide)] | rw [am_up_eq] | rw [am_up_ne h29.2.2]
  | 3, _ => repeat first | rw [am_up_nk (by decide)] | rw [am_up_eq] | rw [am_up_ne h29.2.2]
  | 4, _ => repeat first | rw [am_up_nk (by decide)] | rw [am_up_eq] | rw [am_up_ne h29.2.2]
  | 5, _ => repeat first | rw [am_up_nk (by decide)] | rw [am_up_eq] | rw [am_up_ne h29.2.2]
  | 6, _ => repeat first | rw [am_up_nk (by decide)] | rw [am_up_eq] | rw [am_up_ne h29.2.2]
theorem l_become4 {d n : Nat} {mem0 : am_M} {Q : am_P} {t s : Nat} {R : am_R} (ht : am_T t) (hs : am_T s) (hts : t ≠ s) {mem : am_M} (hCs : CplT s R mem) (hf : FrB t mem0 mem) (e2 : mem t 2 = R 3) (e4 : mem t 4 = R 4) (e6 : mem t 6 = R 5) (hcab : (∀ c, c < nn (R 3) → ∀ f, f < 6 → mem (t + 7 + c) f = R (23 + 6 * c + f))) (hjo : (∀ j, j < nn (R 4) → mem (t + 10 + j) 0 = R (41 + 3 * j) ∧ mem (t + 10 + j) 1 = R (41 + 3 * j + 1) ∧ mem (t + 10 + j) 2 = nI (S_cab R j) ∧ mem (t + 10 + j) 3 = R (41 + 3 * j + 2))) (hla : (∀ l, l < nn (R 5) → ∀ f, f < 7 → mem (t + 22 + l) f = R (77 + 7 * l + f))) (x : Option Value) (hQ : ∀ m2 : am_M, FrB t mem0 m2 → CplT t R m2 → Q none (am_SK n) m2) : am_ev kc_X9_become d 117 [some (.ref t), some (.ref s), x] [] (am_SK n) mem Q := by
  have hfar := am_T.far ht hs hts
  have hb := wb_all (cp_w hCs)
  refine ev_aload rfl rfl ?_
  refine ev_aload rfl rfl ?_
  refine ev_getI (c := 9) (j := 7) rfl ?_ (hq := kt_0 n hs)
  rw [cp_t7 hCs]
  refine ev_putS (c := 9) (j := 7) rfl (fun mem hm => ?_) (hq := kt_0 n ht)
  have e2 : mem t 2 = R 3 := by rw [hm, am_up_nk (by decide)]; exact e2
  have e4 : mem t 4 = R 4 := by rw [hm, am_up_nk (by decide)]; exact e4
  have e6 : mem t 6 = R 5 := by rw [hm, am_up_nk (by decide)]; exact e6
  have e7 : mem t 7 = nI (nn (R 0)) := by rw [hm, am_up_eq]
  have hCs := cp_fr (m2 := mem) hCs (fun q hq => by rw [hm, am_up_ne (by omega)])
  have hf : FrB t mem0 mem := fun q hq => by rw [hm, am_up_ne (by omega)]; exact hf q hq
  have hcab : (∀ c, c < nn (R 3) → ∀ f, f < 6 → mem (t + 7 + c) f = R (23 + 6 * c + f)) := fun c hc f hff => by rw [hm, am_up_ne (by omega)]; exact hcab c hc f hff
  have hjo : (∀ j, j < nn (R 4) → mem (t + 10 + j) 0 = R (41 + 3 * j) ∧ mem (t + 10 + j) 1 = R (41 + 3 * j + 1) ∧ mem (t + 10 + j) 2 = nI (S_cab R j) ∧ mem (t + 10 + j) 3 = R (41 + 3 * j + 2)) := fun j hj => by rw [hm, am_up_ne (by omega)]; exact hjo j hj
  have hla : (∀ l, l < nn (R 5) → ∀ f, f < 7 → mem (t + 22 + l) f = R (77 + 7 * l + f)) := fun l hl f hff => by rw [hm, am_up_ne (by omega)]; exact hla l hl f hff
  refine ev_aload rfl rfl ?_
  refine ev_aload rfl rfl ?_
  refine ev_getI (c := 9) (j := 8) rfl ?_ (hq := kt_0 n hs)
  rw [cp_t8 hCs]
  refine ev_putS (c := 9) (j := 8) rfl (fun mem hm => ?_) (hq := kt_0 n ht)
  have e2 : mem t 2 = R 3 := by rw [hm, am_up_nk (by decide)]; exact e2
  have e4 : mem t 4 = R 4 := by rw [hm, am_up_nk (by decide)]; exact e4
  have e6 : mem t 6 = R 5 := by rw [hm, am_up_nk (by decide)]; exact e6
  have e7 : mem t 7 = nI (nn (R 0)) := by rw [hm, am_up_nk (by decide)]; exact e7
  have e8 : mem t 8 = nI (nn (R 1)) := by rw [hm, am_up_eq]
  have hCs := cp_fr (m2 := mem) hCs (fun q hq => by rw [hm, am_up_ne (by omega)])
  have hf : FrB t mem0 mem := fun q hq => by rw [hm, am_up_ne (by omega)]; exact hf q hq
  have hcab : (∀ c, c < nn (R 3) → ∀ f, f < 6 → mem (t + 7 + c) f = R (23 + 6 * c + f)) := fun c hc f hff => by rw [hm, am_up_ne (by omega)]; exact hcab c hc f hff
  have hjo : (∀ j, j < nn (R 4) → mem (t + 10 + j) 0 = R (41 + 3 * j) ∧ mem (t + 10 + j) 1 = R (41 + 3 * j + 1) ∧ mem (t + 10 + j) 2 = nI (S_cab R j) ∧ mem (t + 10 + j) 3 = R (41 + 3 * j + 2)) := fun j hj => by rw [hm, am_up_ne (by omega)]; exact hjo j hj
  have hla : (∀ l, l < nn (R 5) → ∀ f, f < 7 → mem (t + 22 + l) f = R (77 + 7 * l + f)) := fun l hl f hff => by rw [hm, am_up_ne (by omega)]; exact hla l hl f hff
  refine ev_aload rfl rfl ?_
  refine ev_aload rfl rfl ?_
  refine ev_getI (c := 9) (j := 9) rfl ?_ (hq := kt_0 n hs)
  rw [cp_t9 hCs]
  refine ev_putS (c := 9) (j := 9) rfl (fun mem hm => ?_) (hq := kt_0 n ht)
  have e2 : mem t 2 = R 3 := by rw [hm, am_up_nk (by decide)]; exact e2
  have e4 : mem t 4 = R 4 := by rw [hm, am_up_nk (by decide)]; exact e4
  have e6 : mem t 6 = R 5 := by rw [hm, am_up_nk (by decide)]; exact e6
  have e7 : mem t 7 = nI (nn (R 0)) := by rw [hm, am_up_nk (by decide)]; exact e7
  have e8 : mem t 8 = nI (nn (R 1)) := by rw [hm, am_up_nk (by decide)]; exact e8
  have e9 : mem t 9 = nI (nn (R 2)) := by rw [hm, am_up_eq]
  have hCs := cp_fr (m2 := mem) hCs (fun q hq => by rw [hm, am_up_ne (by omega)])
  have hf : FrB t mem0 mem := fun q hq => by rw [hm, am_up_ne (by omega)]; exact hf q hq
  have hcab : (∀ c, c < nn (R 3) → ∀ f, f < 6 → mem (t + 7 + c) f = R (23 + 6 * c + f)) := fun c hc f hff => by rw [hm, am_up_ne (by omega)]; exact hcab c hc f hff
  have hjo : (∀ j, j < nn (R 4) → mem (t + 10 + j) 0 = R (41 + 3 * j) ∧ mem (t + 10 + j) 1 = R (41 + 3 * j + 1) ∧ mem (t + 10 + j) 2 = nI (S_cab R j) ∧ mem (t + 10 + j) 3 = R (41 + 3 * j + 2)) := fun j hj => by rw [hm, am_up_ne (by omega)]; exact hjo j hj
  have hla : (∀ l, l < nn (R 5) → ∀ f, f < 7 → mem (t + 22 + l) f = R (77 + 7 * l + f)) := fun l hl f hff => by rw [hm, am_up_ne (by omega)]; exact hla l hl f hff
  refine ev_aload rfl rfl ?_
  refine ev_aload rfl rfl ?_
  refine ev_getI (c := 9) (j := 11) rfl ?_ (hq := kt_0 n hs)
  rw [cp_t11 hCs]
  refine ev_putS (c := 9) (j := 11) rfl (fun mem hm => ?_) (hq := kt_0 n ht)
  have e2 : mem t 2 = R 3 := by rw [hm, am_up_nk (by decide)]; exact e2
  have e4 : mem t 4 = R 4 := by rw [hm, am_up_nk (by decide)]; exact e4
  have e6 : mem t 6 = R 5 := by rw [hm, am_up_nk (by decide)]; exact e6
  have e7 : mem t 7 = nI (nn (R 0)) := by rw [hm, am_up_nk (by decide)]; exact e7
  have e8 : mem t 8 = nI (nn (R 1)) := by rw [hm, am_up_nk (by decide)]; exact e8
  have e9 : mem t 9 = nI (nn (R 2)) := by rw [hm, am_up_nk (by decide)]; exact e9
  have e11 : mem t 11 = nI (nn (R 7)) := by rw [hm, am_up_eq]
  have hCs := cp_fr (m2 := mem) hCs (fun q hq => by rw [hm, am_up_ne (by omega)])
  have hf : FrB t mem0 mem := fun q hq => by rw [hm, am_up_ne (by omega)]; exact hf q hq
  have hcab : (∀ c, c < nn (R 3) → ∀ f, f < 6 → mem (t + 7 + c) f = R (23 + 6 * c + f)) := fun c hc f hff => by rw [hm, am_up_ne (by omega)]; exact hcab c hc f hff
  have hjo : (∀ j, j < nn (R 4) → mem (t + 10 + j) 0 = R (41 + 3 * j) ∧ mem (t + 10 + j) 1 = R (41 + 3 * j + 1) ∧ mem (t + 10 + j) 2 = nI (S_cab R j) ∧ mem (t + 10 + j) 3 = R (41 + 3 * j + 2)) := fun j hj => by rw [hm, am_up_ne (by omega)]; exact hjo j hj
  have hla : (∀ l, l < nn (R 5) → ∀ f, f < 7 → mem (t + 22 + l) f = R (77 + 7 * l + f)) := fun l hl f hff => by rw [hm, am_up_ne (by omega)]; exact hla l hl f hff
  refine ev_aload rfl rfl ?_
  refine ev_getR (c := 9) (j := 10) rfl ?_ (hq := kt_0 n hs)
  refine ev_iconst (x := nI 0) rfl rfl ?_
  refine ev_aload rfl rfl ?_
  refine ev_getR (c := 9) (j := 10) rfl ?_ (hq := kt_0 n ht)
  refine ev_iconst (x := nI 0) rfl rfl ?_
  refine ev_iconst (x := nI 8) rfl rfl ?_
  refine ev_copyS rfl (fun mem hm => ?_) (kt_4 n hs) (kt_4 n ht)
  have e2 : mem t 2 = R 3 := by rw [hm, am_cp_ne (by omega)]; exact e2
  have e4 : mem t 4 = R 4 := by rw [hm, am_cp_ne (by omega)]; exact e4
  have e6 : mem t 6 = R 5 := by rw [hm, am_cp_ne (by omega)]; exact e6
  have e7 : mem t 7 = nI (nn (R 0)) := by rw [hm, am_cp_ne (by omega)]; exact e7
  have e8 : mem t 8 = nI (nn (R 1)) := by rw [hm, am_cp_ne (by omega)]; exact e8
  have e9 : mem t 9 = nI (nn (R 2)) := by rw [hm, am_cp_ne (by omega)]; exact e9
  have e11 : mem t 11 = nI (nn (R 7)) := by rw [hm, am_cp_ne (by omega)]; exact e11
  have a4 : ∀ k, k < nn (R 7) → mem (t + 4) k = R (9 + k) := fun k hk => by rw [hm, am_cp_in (by omega)]; exact hCs.2.2.2.2.2.1 k hk
  have hCs := cp_fr (m2 := mem) hCs (fun q hq => by rw [hm, am_cp_ne (by omega)])
  have hf : FrB t mem0 mem := fun q hq => by rw [hm, am_cp_ne (by omega)]; exact hf q hq
  have hcab : (∀ c, c < nn (R 3) → ∀ f, f < 6 → mem (t + 7 + c) f = R (23 + 6 * c + f)) := fun c hc f hff => by rw [hm, am_cp_ne (by omega)]; exact hcab c hc f hff
  have hjo : (∀ j, j < nn (R 4) → mem (t + 10 + j) 0 = R (41 + 3 * j) ∧ mem (t + 10 + j) 1 = R (41 + 3 * j + 1) ∧ mem (t + 10 + j) 2 = nI (S_cab R j) ∧ mem (t + 10 + j) 3 = R (41 + 3 * j + 2)) := fun j hj => by rw [hm, am_cp_ne (by omega)]; exact hjo j hj
  have hla : (∀ l, l < nn (R 5) → ∀ f, f < 7 → mem (t + 22 + l) f = R (77 + 7 * l + f)) := fun l hl f hff => by rw [hm, am_cp_ne (by omega)]; exact hla l hl f hff
  refine ev_aload rfl rfl ?_
  refine ev_aload rfl rfl ?_
  refine ev_getI (c := 9) (j := 13) rfl ?_ (hq := kt_0 n hs)
  rw [cp_t13 hCs]
  refine ev_putS (c := 9) (j := 13) rfl (fun mem hm => ?_) (hq := kt_0 n ht)
  have e2 : mem t 2 = R 3 := by rw [hm, am_up_nk (by decide)]; exact e2
  have e4 : mem t 4 = R 4 := by rw [hm, am_up_nk (by decide)]; exact e4
  have e6 : mem t 6 = R 5 := by rw [hm, am_up_nk (by decide)]; exact e6
  have e7 : mem t 7 = nI (nn (R 0)) := by rw [hm, am_up_nk (by decide)]; exact e7
  have e8 : mem t 8 = nI (nn (R 1)) := by rw [hm, am_up_nk (by decide)]; exact e8
  have e9 : mem t 9 = nI (nn (R 2)) := by rw [hm, am_up_nk (by decide)]; exact e9
  have e11 : mem t 11 = nI (nn (R 7)) := by rw [hm, am_up_nk (by decide)]; exact e11
  have e13 : mem t 13 = nI (nn (R 8)) := by rw [hm, am_up_eq]
  have a4 : ∀ k, k < nn (R 7) → mem (t + 4) k = R (9 + k) := fun k hk => by rw [hm, am_up_ne (by omega)]; exact a4 k hk
  have hCs := cp_fr (m2 := mem) hCs (fun q hq => by rw [hm, am_up_ne (by omega)])
  have hf : FrB t mem0 mem := fun q hq => by rw [hm, am_up_ne (by omega)]; exact hf q hq
  have hcab : (∀ c, c < nn (R 3) → ∀ f, f < 6 → mem (t + 7 + c) f = R (23 + 6 * c + f)) := fun c hc f hff => by rw [hm, am_up_ne (by omega)]; exact hcab c hc f hff
  have hjo : (∀ j, j < nn (R 4) → mem (t + 10 + j) 0 = R (41 + 3 * j) ∧ mem (t + 10 + j) 1 = R (41 + 3 * j + 1) ∧ mem (t + 10 + j) 2 = nI (S_cab R j) ∧ mem (t + 10 + j) 3 = R (41 + 3 * j + 2)) := fun j hj => by rw [hm, am_up_ne (by omega)]; exact hjo j hj
  have hla : (∀ l, l < nn (R 5) → ∀ f, f < 7 → mem (t + 22 + l) f = R (77 + 7 * l + f)) := fun l hl f hff => by rw [hm, am_up_ne (by omega)]; exact hla l hl f hff
  refine ev_aload rfl rfl ?_
  refine ev_getR (c := 9) (j := 12) rfl ?_ (hq := kt_0 n hs)
  refine ev_iconst (x := nI 0) rfl rfl ?_
  refine ev_aload rfl rfl ?_
  refine ev_getR (c := 9) (j := 12) rfl ?_ (hq := kt_0 n ht)
  refine ev_iconst (x := nI 0) rfl rfl ?_
  refine ev_iconst (x := nI 6) rfl rfl ?_
  refine ev_copyS rfl (fun mem hm => ?_) (kt_5 n hs) (kt_5 n ht)
  have e2 : mem t 2 = R 3 := by rw [hm, am_cp_ne (by omega)]; exact e2
  have e4 : mem t 4 = R 4 := by rw [hm, am_cp_ne (by omega)]; exact e4
  have e6 : mem t 6 = R 5 := by rw [hm, am_cp_ne (by omega)]; exact e6
  have e7 : mem t 7 = nI (nn (R 0)) := by rw [hm, am_cp_ne (by omega)]; exact e7
  have e8 : mem t 8 = nI (nn (R 1)) := by rw [hm, am_cp_ne (by omega)]; exact e8
  have e9 : mem t 9 = nI (nn (R 2)) := by rw [hm, am_cp_ne (by omega)]; exact e9
  have e11 : mem t 11 = nI (nn (R 7)) := by rw [hm, am_cp_ne (by omega)]; exact e11
  have e13 : mem t 13 = nI (nn (R 8)) := by rw [hm, am_cp_ne (by omega)]; exact e13
  have a4 : ∀ k, k < nn (R 7) → mem (t + 4) k = R (9 + k) := fun k hk => by rw [hm, am_cp_ne (by omega)]; exact a4 k hk
  have a5 : ∀ k, k < nn (R 8) → mem (t + 5) k = R (17 + k) := fun k hk => by rw [hm, am_cp_in (by omega)]; exact hCs.2.2.2.2.2.2.1 k hk
  have hCs := cp_fr (m2 := mem) hCs (fun q hq => by rw [hm, am_cp_ne (by omega)])
  have hf : FrB t mem0 mem := fun q hq => by rw [hm, am_cp_ne (by omega)]; exact hf q hq
  have hcab : (∀ c, c < nn (R 3) → ∀ f, f < 6 → mem (t + 7 + c) f = R (23 + 6 * c + f)) := fun c hc f hff => by rw [hm, am_cp_ne (by omega)]; exact hcab c hc f hff
  have hjo : (∀ j, j < nn (R 4) → mem (t + 10 + j) 0 = R (41 + 3 * j) ∧ mem (t + 10 + j) 1 = R (41 + 3 * j + 1) ∧ mem (t + 10 + j) 2 = nI (S_cab R j) ∧ mem (t + 10 + j) 3 = R (41 + 3 * j + 2)) := fun j hj => by rw [hm, am_cp_ne (by omega)]; exact hjo j hj
  have hla : (∀ l, l < nn (R 5) → ∀ f, f < 7 → mem (t + 22 + l) f = R (77 + 7 * l + f)) := fun l hl f hff => by rw [hm, am_cp_ne (by omega)]; exact hla l hl f hff
  refine ev_aload rfl rfl ?_
  refine ev_aload rfl rfl ?_
  refine ev_getI (c := 9) (j := 14) rfl ?_ (hq := kt_0 n hs)
  rw [cp_t14 hCs]
  refine ev_putS (c := 9) (j := 14) rfl (fun mem hm => ?_) (hq := kt_0 n ht)
  have e2 : mem t 2 = R 3 := by rw [hm, am_up_nk (by decide)]; exact e2
  have e4 : mem t 4 = R 4 := by rw [hm, am_up_nk (by decide)]; exact e4
  have e6 : mem t 6 = R 5 := by rw [hm, am_up_nk (by decide)]; exact e6
  have e7 : mem t 7 = nI (nn (R 0)) := by rw [hm, am_up_nk (by decide)]; exact e7
  have e8 : mem t 8 = nI (nn (R 1)) := by rw [hm, am_up_nk (by decide)]; exact e8
  have e9 : mem t 9 = nI (nn (R 2)) := by rw [hm, am_up_nk (by decide)]; exact e9
  have e11 : mem t 11 = nI (nn (R 7)) := by rw [hm, am_up_nk (by decide)]; exact e11
  have e13 : mem t 13 = nI (nn (R 8)) := by rw [hm, am_up_nk (by decide)]; exact e13
  have e14 : mem t 14 = nI (nn (R 6)) := by rw [hm, am_up_eq]
  have a4 : ∀ k, k < nn (R 7) → mem (t + 4) k = R (9 + k) := fun k hk => by rw [hm, am_up_ne (by omega)]; exact a4 k hk
  have a5 : ∀ k, k < nn (R 8) → mem (t + 5) k = R (17 + k) := fun k hk => by rw [hm, am_up_ne (by omega)]; exact a5 k hk
  have hCs := cp_fr (m2 := mem) hCs (fun q hq => by rw [hm, am_up_ne (by omega)])
  have hf : FrB t mem0 mem := fun q hq => by rw [hm, am_up_ne (by omega)]; exact hf q hq
  have hcab : (∀ c, c < nn (R 3) → ∀ f, f < 6 → mem (t + 7 + c) f = R (23 + 6 * c + f)) := fun c hc f hff => by rw [hm, am_up_ne (by omega)]; exact hcab c hc f hff
  have hjo : (∀ j, j < nn (R 4) → mem (t + 10 + j) 0 = R (41 + 3 * j) ∧ mem (t + 10 + j) 1 = R (41 + 3 * j + 1) ∧ mem (t + 10 + j) 2 = nI (S_cab R j) ∧ mem (t + 10 + j) 3 = R (41 + 3 * j + 2)) := fun j hj => by rw [hm, am_up_ne (by omega)]; exact hjo j hj
  have hla : (∀ l, l < nn (R 5) → ∀ f, f < 7 → mem (t + 22 + l) f = R (77 + 7 * l + f)) := fun l hl f hff => by rw [hm, am_up_ne (by omega)]; exact hla l hl f hff
  refine ev_aload rfl rfl ?_
  refine ev_getR (c := 9) (j := 15) rfl ?_ (hq := kt_0 n hs)
  refine ev_iconst (x := nI 0) rfl rfl ?_
  refine ev_aload rfl rfl ?_
  refine ev_getR (c := 9) (j := 15) rfl ?_ (hq := kt_0 n ht)
  refine ev_iconst (x := nI 0) rfl rfl ?_
  refine ev_iconst (x := nI 4) rfl rfl ?_
  refine ev_copyS rfl (fun mem hm => ?_) (kt_6 n hs) (kt_6 n ht)
  have e2 : mem t 2 = R 3 := by rw [hm, am_cp_ne (by omega)]; exact e2
  have e4 : mem t 4 = R 4 := by rw [hm, am_cp_ne (by omega)]; exact e4
  have e6 : mem t 6 = R 5 := by rw [hm, am_cp_ne (by omega)]; exact e6
  have e7 : mem t 7 = nI (nn (R 0)) := by rw [hm, am_cp_ne (by omega)]; exact e7
  have e8 : mem t 8 = nI (nn (R 1)) := by rw [hm, am_cp_ne (by omega)]; exact e8
  have e9 : mem t 9 = nI (nn (R 2)) := by rw [hm, am_cp_ne (by omega)]; exact e9
  have e11 : mem t 11 = nI (nn (R 7)) := by rw [hm, am_cp_ne (by omega)]; exact e11
  have e13 : mem t 13 = nI (nn (R 8)) := by rw [hm, am_cp_ne (by omega)]; exact e13
  have e14 : mem t 14 = nI (nn (R 6)) := by rw [hm, am_cp_ne (by omega)]; exact e14
  have a4 : ∀ k, k < nn (R 7) → mem (t + 4) k = R (9 + k) := fun k hk => by rw [hm, am_cp_ne (by omega)]; exact a4 k hk
  have a5 : ∀ k, k < nn (R 8) → mem (t + 5) k = R (17 + k) := fun k hk => by rw [hm, am_cp_ne (by omega)]; exact a5 k hk
  have a6 : ∀ k, k < 4 → mem (t + 6) k = S_cntN (S_cnt R k (nn (R 6))) := fun k hk => by rw [hm, am_cp_in (by omega)]; exact hCs.2.2.2.2.2.2.2.1 k hk
  have hCs := cp_fr (m2 := mem) hCs (fun q hq => by rw [hm, am_cp_ne (by omega)])
  have hf : FrB t mem0 mem := fun q hq => by rw [hm, am_cp_ne (by omega)]; exact hf q hq
  have hcab : (∀ c, c < nn (R 3) → ∀ f, f < 6 → mem (t + 7 + c) f = R (23 + 6 * c + f)) := fun c hc f hff => by rw [hm, am_cp_ne (by omega)]; exact hcab c hc f hff
  have hjo : (∀ j, j < nn (R 4) → mem (t + 10 + j) 0 = R (41 + 3 * j) ∧ mem (t + 10 + j) 1 = R (41 + 3 * j + 1) ∧ mem (t + 10 + j) 2 = nI (S_cab R j) ∧ mem (t + 10 + j) 3 = R (41 + 3 * j + 2)) := fun j hj => by rw [hm, am_cp_ne (by omega)]; exact hjo j hj
  have hla : (∀ l, l < nn (R 5) → ∀ f, f < 7 → mem (t + 22 + l) f = R (77 + 7 * l + f)) := fun l hl f hff => by rw [hm, am_cp_ne (by omega)]; exact hla l hl f hff
  refine ev_vret rfl ?_
  have hw := cp_w hCs
  refine hQ mem hf ⟨hCs.1, ⟨e2, e4, e6, e7.trans (wr0 hw).symm, e8.trans (wr1 hw).symm, e9.trans (wr2 hw).symm, e11.trans (wr7 hw).symm, e13.trans (wr8 hw).symm, e14.trans (wr6 hw).symm⟩, hcab, hjo, hla, a4, a5, a6, hCs.2.2.2.2.2.2.2.2⟩
theorem l_become3 {d n : Nat} {mem0 : am_M} {Q : am_P} {t s : Nat} {R : am_R} (ht : am_T t) (hs : am_T s) (hts : t ≠ s) (r : Nat) : ∀ (mem : am_M) (k : Nat) (hk : k + r = nn (R 5)) (hCs : CplT s R mem) (hf : FrB t mem0 mem) (e2 : mem t 2 = R 3) (e4 : mem t 4 = R 4) (e6 : mem t 6 = R 5) (hcab : (∀ c, c < nn (R 3) → ∀ f, f < 6 → mem (t + 7 + c) f = R (23 + 6 * c + f))) (hjo : (∀ j, j < nn (R 4) → mem (t + 10 + j) 0 = R (41 + 3 * j) ∧ mem (t + 10 + j) 1 = R (41 + 3 * j + 1) ∧ mem (t + 10 + j) 2 = nI (S_cab R j) ∧ mem (t + 10 + j) 3 = R (41 + 3 * j + 2))) (hla : (∀ l, l < k → ∀ f, f < 7 → mem (t + 22 + l) f = R (77 + 7 * l + f))) (hQ : ∀ m2 : am_M, FrB t mem0 m2 → CplT t R m2 → Q none (am_SK n) m2), am_ev kc_X9_become (d + 1) 88 [some (.ref t), some (.ref s), some (.int (nI k))] [] (am_SK n) mem Q := by
  induction r with
  | zero =>
    intro mem k hk hCs hf e2 e4 e6 hcab hjo hla hQ
    have hfar := am_T.far ht hs hts
    have hb := wb_all (cp_w hCs)
    have hkk : k = nn (R 5) := by omega
    subst hkk
    refine ev_iload rfl rfl ?_
    refine ev_aload rfl rfl ?_
    refine ev_getI (c := 9) (j := 6) rfl ?_ (hq := kt_0 n ht)
    rw [show mem t 6 = nI (nn (R 5)) by rw [e6]; exact wr5 (cp_w hCs)]
    refine ev_icmp_geN (p2 := 117) rfl rfl (fun cnd93 => ?_) (fun cnd93 => ?_)
    · skip
      exact l_become4 ht hs hts hCs hf e2 e4 e6 hcab hjo hla _ hQ
    · omega
  | succ r ih =>
    intro mem k hk hCs hf e2 e4 e6 hcab hjo hla hQ
    have hfar := am_T.far ht hs hts
    have hb := wb_all (cp_w hCs)
    refine ev_iload rfl rfl ?_
    refine ev_aload rfl rfl ?_
    refine ev_getI (c := 9) (j := 6) rfl ?_ (hq := kt_0 n ht)
    rw [show mem t 6 = nI (nn (R 5)) by rw [e6]; exact wr5 (cp_w hCs)]
    refine ev_icmp_geN (p2 := 117) rfl rfl (fun cnd93 => ?_) (fun cnd93 => ?_)
    · omega
    · skip
      refine ev_aload rfl rfl ?_
      refine ev_getR (c := 9) (j := 5) rfl ?_ (hq := kt_0 n ht)
      refine ev_iload rfl rfl ?_
      refine ev_aldN rfl rfl ?_ (kr_lamp (by omega)) (hq := kt_3 n ht)
      refine ev_aload rfl rfl ?_
      refine ev_getR (c := 9) (j := 5) rfl ?_ (hq := kt_0 n hs)
      refine ev_iload rfl rfl ?_
      refine ev_aldN rfl rfl ?_ (kr_lamp (by omega)) (hq := kt_3 n hs)
      refine ev_callV rfl rfl rfl rfl (Nat.le_of_ble_eq_true rfl) (Nat.le_of_ble_eq_true rfl) ?_ (hq := kt_lamp n ht (by omega))
      refine c_X4_become (kt_lamp n ht (by omega)) (kt_lamp n hs (by omega)) (by omega) (by rw [cp_l (k := 5) (l := k) hCs (by omega) (by decide)]; exact is01 ((cp_w hCs).2.2.2.2.1 k (by omega)).2.2.2.2.2.1) (by rw [cp_l (k := 6) (l := k) hCs (by omega) (by decide)]; exact is01 ((cp_w hCs).2.2.2.2.1 k (by omega)).2.2.2.2.2.2) (fun mem2 f1 f2 => ?_)
      change am_ev _ _ _ _ _ _ _ _
      refine ev_iincN rfl rfl rfl ?_
      refine ev_goto (p2 := 88) rfl rfl ?_
      have hnew : (∀ l, l < k + 1 → ∀ f, f < 7 → mem2 (t + 22 + l) f = R (77 + 7 * l + f)) := by
        intro l hv f hff
        by_cases e : l = k
        · rw [e, f2 f hff]; exact cp_l hCs (by omega) hff
        · rw [f1 _ (by omega)]; exact hla l (by omega) f hff
      exact ih mem2 (k + 1) (by omega) (cp_fr hCs (fun q hq => f1 q (by omega))) (fun q hq => (f1 q (by omega)).trans (hf q hq)) (by rw [f1 t (by omega)]; exact e2) (by rw [f1 t (by omega)]; exact e4) (by rw [f1 t (by omega)]; exact e6) (fun c hc f hff => by rw [f1 _ (by omega)]; exact hcab c hc f hff) (fun j hj => by rw [f1 _ (by omega)]; exact hjo j hj) hnew hQ
theorem l_become2 {d n : Nat} {mem0 : am_M} {Q : am_P} {t s : Nat} {R : am_R} (ht : am_T t) (hs : am_T s) (hts : t ≠ s) (r : Nat) : ∀ (mem : am_M) (k : Nat) (hk : k + r = nn (R 4)) (hCs : CplT s R mem) (hf : FrB t mem0 mem) (e2 : mem t 2 = R 3) (e4 : mem t 4 = R 4) (hcab : (∀ c, c < nn (R 3) → ∀ f, f < 6 → mem (t + 7 + c) f = R (23 + 6 * c + f))) (hjo : (∀ j, j < k → mem (t + 10 + j) 0 = R (41 + 3 * j) ∧ mem (t + 10 + j) 1 = R (41 + 3 * j + 1) ∧ mem (t + 10 + j) 2 = nI (S_cab R j) ∧ mem (t + 10 + j) 3 = R (41 + 3 * j + 2))) (hQ : ∀ m2 : am_M, FrB t mem0 m2 → CplT t R m2 → Q none (am_SK n) m2), am_ev kc_X9_become (d + 1) 49 [some (.ref t), some (.ref s), some (.int (nI k))] [] (am_SK n) mem Q := by
  induction r with
  | zero =>
    intro mem k hk hCs hf e2 e4 hcab hjo hQ
    have hfar := am_T.far ht hs hts
    have hb := wb_all (cp_w hCs)
    have hkk : k = nn (R 4) := by omega
    subst hkk
    refine ev_iload rfl rfl ?_
    refine ev_aload rfl rfl ?_
    refine ev_getI (c := 9) (j := 4) rfl ?_ (hq := kt_0 n ht)
    rw [show mem t 4 = nI (nn (R 4)) by rw [e4]; exact wr4 (cp_w hCs)]
    refine ev_icmp_geN (p2 := 78) rfl rfl (fun cnd54 => ?_) (fun cnd54 => ?_)
    · skip
      refine ev_aload rfl rfl ?_
      refine ev_aload rfl rfl ?_
      refine ev_getI (c := 9) (j := 6) rfl ?_ (hq := kt_0 n hs)
      rw [cp_t6 hCs]
      refine ev_putS (c := 9) (j := 6) rfl (fun mem hm => ?_) (hq := kt_0 n ht)
      have e2 : mem t 2 = R 3 := by rw [hm, am_up_nk (by decide)]; exact e2
      have e4 : mem t 4 = R 4 := by rw [hm, am_up_nk (by decide)]; exact e4
      have e6 : mem t 6 = R 5 := by rw [hm, am_up_eq]; exact (wr5 (cp_w hCs)).symm
      have hCs := cp_fr (m2 := mem) hCs (fun q hq => by rw [hm, am_up_ne (by omega)])
      have hf : FrB t mem0 mem := fun q hq => by rw [hm, am_up_ne (by omega)]; exact hf q hq
      have hcab : (∀ c, c < nn (R 3) → ∀ f, f < 6 → mem (t + 7 + c) f = R (23 + 6 * c + f)) := fun c hc f hff => by rw [hm, am_up_ne (by omega)]; exact hcab c hc f hff
      have hjo : (∀ j, j < nn (R 4) → mem (t + 10 + j) 0 = R (41 + 3 * j) ∧ mem (t + 10 + j) 1 = R (41 + 3 * j + 1) ∧ mem (t + 10 + j) 2 = nI (S_cab R j) ∧ mem (t + 10 + j) 3 = R (41 + 3 * j + 2)) := fun j hj => by rw [hm, am_up_ne (by omega)]; exact hjo j hj
      refine ev_iconst (x := nI 0) rfl rfl ?_
      refine ev_istore rfl rfl (Nat.le_of_ble_eq_true rfl) ?_
      exact l_become3 ht hs hts (nn (R 5)) mem 0 (Nat.zero_add _) hCs hf e2 e4 e6 hcab hjo (fun l hl => absurd hl (Nat.not_lt_zero l)) hQ
    · omega
  | succ r ih =>
    intro mem k hk hCs hf e2 e4 hcab hjo hQ
    have hfar := am_T.far ht hs hts
    have hb := wb_all (cp_w hCs)
    refine ev_iload rfl rfl ?_
    refine ev_aload rfl rfl ?_
    refine ev_getI (c := 9) (j := 4) rfl ?_ (hq := kt_0 n ht)
    rw [show mem t 4 = nI (nn (R 4)) by rw [e4]; exact wr4 (cp_w hCs)]
    refine ev_icmp_geN (p2 := 78) rfl rfl (fun cnd54 => ?_) (fun cnd54 => ?_)
    · omega
    · skip
      refine ev_aload rfl rfl ?_
      refine ev_getR (c := 9) (j := 3) rfl ?_ (hq := kt_0 n ht)
      refine ev_iload rfl rfl ?_
      refine ev_aldN rfl rfl ?_ (kr_joint (by omega)) (hq := kt_2 n ht)
      refine ev_aload rfl rfl ?_
      refine ev_getR (c := 9) (j := 3) rfl ?_ (hq := kt_0 n hs)
      refine ev_iload rfl rfl ?_
      refine ev_aldN rfl rfl ?_ (kr_joint (by omega)) (hq := kt_2 n hs)
      refine ev_callV rfl rfl rfl rfl (Nat.le_of_ble_eq_true rfl) (Nat.le_of_ble_eq_true rfl) ?_ (hq := kt_joint n ht (by omega))
      refine c_X3_become (kt_joint n ht (by omega)) (kt_joint n hs (by omega)) (by omega) (by rw [cp_j3 (j := k) hCs (by omega)]; exact is01 ((cp_w hCs).2.2.2.1 k (by omega)).2.2) (fun mem2 f1 f2 => ?_)
      change am_ev _ _ _ _ _ _ _ _
      refine ev_iincN rfl rfl rfl ?_
      refine ev_goto (p2 := 49) rfl rfl ?_
      have hnew : (∀ j, j < k + 1 → mem2 (t + 10 + j) 0 = R (41 + 3 * j) ∧ mem2 (t + 10 + j) 1 = R (41 + 3 * j + 1) ∧ mem2 (t + 10 + j) 2 = nI (S_cab R j) ∧ mem2 (t + 10 + j) 3 = R (41 + 3 * j + 2)) := by
        intro j hj
        by_cases e : j = k
        · rw [e, f2 0 (by decide), f2 1 (by decide), f2 2 (by decide), f2 3 (by decide)]; exact hCs.2.2.2.1 k (by omega)
        · rw [f1 _ (by omega)]; exact hjo j (by omega)
      exact ih mem2 (k + 1) (by omega) (cp_fr hCs (fun q hq => f1 q (by omega))) (fun q hq => (f1 q (by omega)).trans (hf q hq)) (by rw [f1 t (by omega)]; exact e2) (by rw [f1 t (by omega)]; exact e4) (fun c hc f hff => by rw [f1 _ (by omega)]; exact hcab c hc f hff) hnew hQ
theorem l_become1 {d n : Nat} {mem0 : am_M} {Q : am_P} {t s : Nat} {R : am_R} (ht : am_T t) (hs : am_T s) (hts : t ≠ s) (r : Nat) : ∀ (mem : am_M) (k : Nat) (hk : k + r = nn (R 3)) (hCs : CplT s R mem) (hf : FrB t mem0 mem) (e2 : mem t 2 = R 3) (hcab : (∀ c, c < k → ∀ f, f < 6 → mem (t + 7 + c) f = R (23 + 6 * c + f))) (hQ : ∀ m2 : am_M, FrB t mem0 m2 → CplT t R m2 → Q none (am_SK n) m2), am_ev kc_X9_become (d + 1) 10 [some (.ref t), some (.ref s), some (.int (nI k))] [] (am_SK n) mem Q := by
  induction r with
  | zero =>
    intro mem k hk hCs hf e2 hcab hQ
    have hfar := am_T.far ht hs hts
    have hb := wb_all (cp_w hCs)
    have hkk : k = nn (R 3) := by omega
    subst hkk
    refine ev_iload rfl rfl ?_
    refine ev_aload rfl rfl ?_
    refine ev_getI (c := 9) (j := 2) rfl ?_ (hq := kt_0 n ht)
    rw [show mem t 2 = nI (nn (R 3)) by rw [e2]; exact wr3 (cp_w hCs)]
    refine ev_icmp_geN (p2 := 39) rfl rfl (fun cnd15 => ?_) (fun cnd15 => ?_)
    · skip
      refine ev_aload rfl rfl ?_
      refine ev_aload rfl rfl ?_
      refine ev_getI (c := 9) (j := 4) rfl ?_ (hq := kt_0 n hs)
      rw [cp_t4 hCs]
      refine ev_putS (c := 9) (j := 4) rfl (fun mem hm => ?_) (hq := kt_0 n ht)
      have e2 : mem t 2 = R 3 := by rw [hm, am_up_nk (by decide)]; exact e2
      have e4 : mem t 4 = R 4 := by rw [hm, am_up_eq]; exact (wr4 (cp_w hCs)).symm
      have hCs := cp_fr (m2 := mem) hCs (fun q hq => by rw [hm, am_up_ne (by omega)])
      have hf : FrB t mem0 mem := fun q hq => by rw [hm, am_up_ne (by omega)]; exact hf q hq
      have hcab : (∀ c, c < nn (R 3) → ∀ f, f < 6 → mem (t + 7 + c) f = R (23 + 6 * c + f)) := fun c hc f hff => by rw [hm, am_up_ne (by omega)]; exact hcab c hc f hff
      refine ev_iconst (x := nI 0) rfl rfl ?_
      refine ev_istore rfl rfl (Nat.le_of_ble_eq_true rfl) ?_
      exact l_become2 ht hs hts (nn (R 4)) mem 0 (Nat.zero_add _) hCs hf e2 e4 hcab (fun l hl => absurd hl (Nat.not_lt_zero l)) hQ
    · omega
  | succ r ih =>
    intro mem k hk hCs hf e2 hcab hQ
    have hfar := am_T.far ht hs hts
    have hb := wb_all (cp_w hCs)
    refine ev_iload rfl rfl ?_
    refine ev_aload rfl rfl ?_
    refine ev_getI (c := 9) (j := 2) rfl ?_ (hq := kt_0 n ht)
    rw [show mem t 2 = nI (nn (R 3)) by rw [e2]; exact wr3 (cp_w hCs)]
    refine ev_icmp_geN (p2 := 39) rfl rfl (fun cnd15 => ?_) (fun cnd15 => ?_)
    · omega
    · skip
      refine ev_aload rfl rfl ?_
      refine ev_getR (c := 9) (j := 1) rfl ?_ (hq := kt_0 n ht)
      refine ev_iload rfl rfl ?_
      refine ev_aldN rfl rfl ?_ (kr_cab (by omega)) (hq := kt_1 n ht)
      refine ev_aload rfl rfl ?_
      refine ev_getR (c := 9) (j := 1) rfl ?_ (hq := kt_0 n hs)
      refine ev_iload rfl rfl ?_
      refine ev_aldN rfl rfl ?_ (kr_cab (by omega)) (hq := kt_1 n hs)
      refine ev_callV rfl rfl rfl rfl (Nat.le_of_ble_eq_true rfl) (Nat.le_of_ble_eq_true rfl) ?_ (hq := kt_cab n ht (by omega))
      refine c_X1_become (kt_cab n ht (by omega)) (kt_cab n hs (by omega)) (by omega) (by rw [cp_c (k := 4) (c := k) hCs (by omega) (by decide)]; exact is01 ((cp_w hCs).2.2.1 k (by omega)).2.2.2.2.1) (fun mem2 f1 f2 => ?_)
      change am_ev _ _ _ _ _ _ _ _
      refine ev_iincN rfl rfl rfl ?_
      refine ev_goto (p2 := 10) rfl rfl ?_
      have hnew : (∀ c, c < k + 1 → ∀ f, f < 6 → mem2 (t + 7 + c) f = R (23 + 6 * c + f)) := by
        intro c hv f hff
        by_cases e : c = k
        · rw [e, f2 f hff]; exact cp_c hCs (by omega) hff
        · rw [f1 _ (by omega)]; exact hcab c (by omega) f hff
      exact ih mem2 (k + 1) (by omega) (cp_fr hCs (fun q hq => f1 q (by omega))) (fun q hq => (f1 q (by omega)).trans (hf q hq)) (by rw [f1 t (by omega)]; exact e2) hnew hQ
theorem c_X9_become {d n : Nat} {mem : am_M} {Q : am_P} {t s : Nat} {R : am_R} (ht : am_T t) (hs : am_T s) (hts : t ≠ s) (hCs : CplT s R mem) (hQ : ∀ m2 : am_M, FrB t mem m2 → CplT t R m2 → Q none (am_SK n) m2) : am_ex (d + 2) 53 [.ref t, .ref s] (am_SK n) mem Q := by
  have hfar := am_T.far ht hs hts
  have hb := wb_all (cp_w hCs)
  have hf : FrB t mem mem := fun _ _ => rfl
  refine ex_in (c0 := kc_X9_become) rfl (L := [some (.ref t), some (.ref s), none]) rfl ?_
  refine ev_aload rfl rfl ?_
  refine ev_aload rfl rfl ?_
  refine ev_getI (c := 9) (j := 2) rfl ?_ (hq := kt_0 n hs)
  rw [cp_t2 hCs]
  refine ev_putS (c := 9) (j := 2) rfl (fun mem hm => ?_) (hq := kt_0 n ht)
  have e2 : mem t 2 = R 3 := by rw [hm, am_up_eq]; exact (wr3 (cp_w hCs)).symm
  have hCs := cp_fr (m2 := mem) hCs (fun q hq => by rw [hm, am_up_ne (by omega)])
  have hf := fun (q : Nat) (hq : ¬ (t ≤ q ∧ q ≤ t + 37)) => (show mem q = _ by rw [hm, am_up_ne (by omega)])
  refine ev_iconst (x := nI 0) rfl rfl ?_
  refine ev_istore rfl rfl (Nat.le_of_ble_eq_true rfl) ?_
  exact l_become1 ht hs hts (nn (R 3)) mem 0 (Nat.zero_add _) hCs hf e2 (fun l hl => absurd hl (Nat.not_lt_zero l)) hQ
