/-! the walk of the round: ways, and orders -/
def wy (a b : Nat) : Nat := ((a / 100 - b / 100) + (b / 100 - a / 100)) + ((a % 100 - b % 100) + (b % 100 - a % 100))
theorem wy_lt {a b : Nat} (ha : a < 3031) (hb : b < 3031) : wy a b < 200 := by
  unfold wy
  omega
theorem ab_abs {a b : Nat} (ha : a < 2 ^ 31) (hb : b < 2 ^ 31) : (if 0 ≤ nI a - nI b then nI a - nI b else -(nI a - nI b)) = nI ((a - b) + (b - a)) := by
  by_cases h : b ≤ a
  · rw [pk_sub h, if_pos (nI_pos' (by omega))]
    exact congrArg nI (by omega)
  · have e : nI a - nI b = -(nI (b - a)) := by rw [← pk_sub (show a ≤ b by omega), Int32.neg_sub]
    rw [e, if_neg (neg_n0 (by omega) (by omega)), Int32.neg_neg]
    exact congrArg nI (by omega)
theorem ab_p {a b : Nat} (ha : a < 2 ^ 31) (hb : b < 2 ^ 31) (h : 0 ≤ nI a - nI b) : nI a - nI b = nI ((a - b) + (b - a)) := by
  have e := ab_abs ha hb
  rw [if_pos h] at e
  exact e
theorem ab_m {a b : Nat} (ha : a < 2 ^ 31) (hb : b < 2 ^ 31) (h : ¬ 0 ≤ nI a - nI b) : -(nI a - nI b) = nI ((a - b) + (b - a)) := by
  have e := ab_abs ha hb
  rw [if_neg h] at e
  exact e
theorem c_X10_way {d n : Nat} {mem : am_M} {Q : am_P} {a b : Nat} (ha : a < 3031) (hb : b < 3031) (hQ : Q (some (.int (nI (wy a b)))) (am_SK n) mem) : am_ex (d + 2) 80 [.int (nI a), .int (nI b)] (am_SK n) mem Q := by
  refine ex_in (c0 := kc_X10_way) rfl (L := [some (.int (nI a)), some (.int (nI b))]) rfl ?_
  refine ev_iload rfl rfl ?_
  refine ev_iconst (x := nI 100) rfl rfl ?_
  refine ev_idivN rfl ?_
  refine ev_iload rfl rfl ?_
  refine ev_iconst (x := nI 100) rfl rfl ?_
  refine ev_idivN rfl ?_
  refine ev_isub rfl ?_
  refine ev_call rfl rfl ?_
  refine c_abs _ ?_
  rw [ab_abs (by omega) (by omega)]
  change am_ev _ _ _ _ [_] _ _ _
  refine ev_iload rfl rfl ?_
  refine ev_iconst (x := nI 100) rfl rfl ?_
  refine ev_iremN rfl ?_
  refine ev_iload rfl rfl ?_
  refine ev_iconst (x := nI 100) rfl rfl ?_
  refine ev_iremN rfl ?_
  refine ev_isub rfl ?_
  refine ev_call rfl rfl ?_
  refine c_abs _ ?_
  rw [ab_abs (by omega) (by omega)]
  change am_ev _ _ _ _ [_, _] _ _ _
  refine ev_iaddN rfl ?_
  refine ev_iret rfl ?_
  exact hQ
theorem c_X12_wayBetween {d n : Nat} {mem : am_M} {Q : am_P} {a b : Nat} (ha : a < 3031) (hb : b < 3031) (hQ : Q (some (.int (nI (wy a b)))) (am_SK n) mem) : am_ex (d + 1) 214 [.int (nI a), .int (nI b)] (am_SK n) mem Q := by
  refine ex_in (c0 := kc_X12_wayBetween) rfl (L := [some (.int (nI a)), some (.int (nI b)), none, none]) rfl ?_
  refine ev_iload rfl rfl ?_
  refine ev_iconst (x := nI 100) rfl rfl ?_
  refine ev_idivN rfl ?_
  refine ev_iload rfl rfl ?_
  refine ev_iconst (x := nI 100) rfl rfl ?_
  refine ev_idivN rfl ?_
  refine ev_isub rfl ?_
  refine ev_istore rfl rfl (Nat.le_of_ble_eq_true rfl) ?_
  refine ev_iload rfl rfl ?_
  refine ev_iconst (x := nI 100) rfl rfl ?_
  refine ev_iremN rfl ?_
  refine ev_iload rfl rfl ?_
  refine ev_iconst (x := nI 100) rfl rfl ?_
  refine ev_iremN rfl ?_
  refine ev_isub rfl ?_
  refine ev_istore rfl rfl (Nat.le_of_ble_eq_true rfl) ?_
  refine ev_iload rfl rfl ?_
  refine ev_if_ge (p2 := 29) rfl rfl (fun cnd21 => ?_) (fun cnd21 => ?_)
  · skip
    refine ev_iload rfl rfl ?_
    refine ev_iload rfl rfl ?_
    refine ev_if_ge (p2 := 39) rfl rfl (fun cnd31 => ?_) (fun cnd31 => ?_)
    · skip
      refine ev_iload rfl rfl ?_
      refine ev_iadd rfl ?_
      refine ev_iret rfl ?_
      first
      | (rw [ab_p (by omega) (by omega) cnd21, ab_p (by omega) (by omega) cnd31, nI_add]; exact hQ)
      | (rw [ab_p (by omega) (by omega) cnd21, ab_m (by omega) (by omega) cnd31, nI_add]; exact hQ)
      | (rw [ab_m (by omega) (by omega) cnd21, ab_p (by omega) (by omega) cnd31, nI_add]; exact hQ)
      | (rw [ab_m (by omega) (by omega) cnd21, ab_m (by omega) (by omega) cnd31, nI_add]; exact hQ)
    · skip
      refine ev_iload rfl rfl ?_
      refine ev_ineg rfl ?_
      refine ev_goto (p2 := 40) rfl rfl ?_
      refine ev_iadd rfl ?_
      refine ev_iret rfl ?_
      first
      | (rw [ab_p (by omega) (by omega) cnd21, ab_p (by omega) (by omega) cnd31, nI_add]; exact hQ)
      | (rw [ab_p (by omega) (by omega) cnd21, ab_m (by omega) (by omega) cnd31, nI_add]; exact hQ)
      | (rw [ab_m (by omega) (by omega) cnd21, ab_p (by omega) (by omega) cnd31, nI_add]; exact hQ)
      | (rw [ab_m (by omega) (by omega) cnd21, ab_m (by omega) (by omega) cnd31, nI_add]; exact hQ)
  · skip
    refine ev_iload rfl rfl ?_
    refine ev_ineg rfl ?_
    refine ev_goto (p2 := 30) rfl rfl ?_
    refine ev_iload rfl rfl ?_
    refine ev_if_ge (p2 := 39) rfl rfl (fun cnd31 => ?_) (fun cnd31 => ?_)
    · skip
      refine ev_iload rfl rfl ?_
      refine ev_iadd rfl ?_
      refine ev_iret rfl ?_
      first
      | (rw [ab_p (by omega) (by omega) cnd21, ab_p (by omega) (by omega) cnd31, nI_add]; exact hQ)
      | (rw [ab_p (by omega) (by omega) cnd21, ab_m (by omega) (by omega) cnd31, nI_add]; exact hQ)
      | (rw [ab_m (by omega) (by omega) cnd21, ab_p (by omega) (by omega) cnd31, nI_add]; exact hQ)
      | (rw [ab_m (by omega) (by omega) cnd21, ab_m (by omega) (by omega) cnd31, nI_add]; exact hQ)
    · skip
      refine ev_iload rfl rfl ?_
      refine ev_ineg rfl ?_
      refine ev_goto (p2 := 40) rfl rfl ?_
      refine ev_iadd rfl ?_
      refine ev_iret rfl ?_
      first
      | (rw [ab_p (by omega) (by omega) cnd21, ab_p (by omega) (by omega) cnd31, nI_add]; exact hQ)
      | (rw [ab_p (by omega) (by omega) cnd21, ab_m (by omega) (by omega) cnd31, nI_add]; exact hQ)
      | (rw [ab_m (by omega) (by omega) cnd21, ab_p (by omega) (by omega) cnd31, nI_add]; exact hQ)
      | (rw [ab_m (by omega) (by omega) cnd21, ab_m (by omega) (by omega) cnd31, nI_add]; exact hQ)
/-- the way from a over the stops in this order home -/
def wl (g : Nat → Nat) (h : Nat) : Nat → List Nat → Nat
  | a, [] => wy a h
  | a, x :: r => wy a (g x) + wl g h (g x) r
theorem wl_lt {g : Nat → Nat} {h : Nat} (hh : h < 3031) (hg : ∀ x, g x < 3031) : ∀ (p : List Nat) (a : Nat), a < 3031 → wl g h a p < 200 * (p.length + 1) := by
  intro p
  induction p with
  | nil => intro a ha; have h1 := wy_lt ha hh; show wy a h < 200 * (0 + 1); omega
  | cons x r ih => intro a ha; have h1 := wy_lt ha (hg x); have h2 := ih (g x) (hg x); show wy a (g x) + wl g h (g x) r < 200 * (r.length + 1 + 1); omega
/-- all orders that go on from the used ones, least first -/
def cl (f : Nat → List (List Nat)) (u : Nat) : Nat → Nat → List (List Nat)
  | 0, _ => []
  | r + 1, x => (if Nat.testBit u x then [] else (f (u + 2 ^ x)).map (List.cons x)) ++ cl f u r (x + 1)
def cm (n : Nat) : Nat → Nat → List (List Nat)
  | 0, _ => [[]]
  | m + 1, u => cl (cm n m) u n 0
def lI (p : List Nat) : am_R := fun j => nI (p.getD j 0)
/-- the better of two -/
def btr (w : List Nat → Nat) (v : List Nat → am_R) (s : Nat × am_R) (p : List Nat) : Nat × am_R := if w p < s.1 then (w p, v p) else s
theorem btr_stay {w : List Nat → Nat} {v : List Nat → am_R} {s : Nat × am_R} : ∀ (l : List (List Nat)), (∀ p ∈ l, s.1 ≤ w p) → l.foldl (btr w v) s = s := by
  intro l
  induction l with
  | nil => intro _; rfl
  | cons p r ih =>
    intro h
    have e : btr w v s p = s := by unfold btr; rw [if_neg (Nat.not_lt.mpr (h p (List.mem_cons_self)))]
    rw [List.foldl_cons, e]
    exact ih (fun q hq => h q (List.mem_cons_of_mem _ hq))
theorem btr_le {w : List Nat → Nat} {v : List Nat → am_R} : ∀ (l : List (List Nat)) (s : Nat × am_R), (l.foldl (btr w v) s).1 ≤ s.1 := by
  intro l
  induction l with
  | nil => intro s; exact Nat.le_refl _
  | cons p r ih =>
    intro s
    rw [List.foldl_cons]
    refine Nat.le_trans (ih _) ?_
    unfold btr
    split
    · exact Nat.le_of_lt (by assumption)
    · exact Nat.le_refl _
theorem cm_len (n : Nat) : ∀ (m u : Nat) (p : List Nat), p ∈ cm n m u → p.length = m := by
  intro m
  induction m with
  | zero => intro u p hp; unfold cm at hp; rw [List.mem_singleton.mp hp]; rfl
  | succ m ih =>
    intro u p hp
    unfold cm at hp
    have key : ∀ (r x : Nat), p ∈ cl (cm n m) u r x → p.length = m + 1 := by
      intro r
      induction r with
      | zero => intro x hx; unfold cl at hx; exact absurd hx List.not_mem_nil
      | succ r ihr =>
        intro x hx
        unfold cl at hx
        rcases List.mem_append.mp hx with h1 | h1
        · split at h1
          · exact absurd h1 List.not_mem_nil
          · obtain ⟨q, hq, e⟩ := List.mem_map.mp h1
            rw [← e, List.length_cons, ih _ q hq]
        · exact ihr (x + 1) h1
    exact key n 0 hp
def u1 (f : Nat → Nat) : Nat → Nat
  | 0 => 0
  | k + 1 => if f k ≤ f (k + 1) then k + 1 else u1 f k
def u2 (f : Nat → Nat) (x : Nat) : Nat → Nat
  | 0 => 0
  | j + 1 => if f (j + 1) < x then u2 f x j else j + 1
def swp (f : Nat → Nat) (a b : Nat) : Nat → Nat := fun q => if q = b then f a else if q = a then f b else f q
def u3 : Nat → (Nat → Nat) → Nat → Nat → (Nat → Nat)
  | 0, f, _, _ => f
  | r + 1, f, b, a => if b < a then u3 r (swp f b a) (b + 1) (a - 1) else f
def gf (p : List Nat) : Nat → Nat := fun j => p.getD j 0
def upf (n : Nat) (f : Nat → Nat) : Nat → Nat := u3 3 (swp f (u1 f (n - 1) - 1) (u2 f (f (u1 f (n - 1) - 1)) (n - 1))) (u1 f (n - 1)) (n - 1)
def eqn (f g : Nat → Nat) : Nat → Bool
  | 0 => true
  | k + 1 => f k == g k && eqn f g k
def chk (n : Nat) : List (List Nat) → Bool
  | [] => false
  | [p] => u1 (gf p) (n - 1) == 0
  | p :: q :: r => (Nat.blt 0 (u1 (gf p) (n - 1)) && Nat.ble (u1 (gf p) (n - 1)) (u2 (gf p) (gf p (u1 (gf p) (n - 1) - 1)) (n - 1))) && (eqn (upf n (gf p)) (gf q) n && chk n (q :: r))
theorem chk_all : ∀ n, n < 7 → chk n (cm n n 0) = true := by decide +kernel
def ide (n : Nat) : List Nat := List.range n
theorem cm_head : ∀ n, n < 7 → (cm n n 0).head? = some (ide n) := by decide +kernel
