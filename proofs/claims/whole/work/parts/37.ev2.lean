/-! rules of the small machine over small whole numbers, and over truth values -/
theorem am_up_eq {mem : am_M} {q m : Nat} {x : Int32} : am_up mem q m x q m = x := by
  unfold am_up upd
  rw [if_pos rfl, if_pos rfl]
theorem am_up_nk {mem : am_M} {q m k : Nat} {x : Int32} (h : k ≠ m) : am_up mem q m x q k = mem q k := by
  unfold am_up upd
  rw [if_pos rfl, if_neg h]
theorem am_up_row {mem : am_M} {q m : Nat} {x : Int32} : am_up mem q m x q = upd (mem q) m x := by
  unfold am_up
  rw [if_pos rfl]
theorem upd_eq {g : am_R} {m : Nat} {x : Int32} : upd g m x m = x := by
  unfold upd
  rw [if_pos rfl]
theorem upd_ne {g : am_R} {m k : Nat} {x : Int32} (h : k ≠ m) : upd g m x k = g k := by
  unfold upd
  rw [if_neg h]
theorem am_callV {k a q kd N : Nat} {st as : List Value} {sk : am_K} {rs : List (Option Nat)} (ha : am_AR[k]? = some a) (hst : (st.take a).reverse = .ref q :: as) (hq : sk[q]? = some (kd, N, rs)) (hr : am_RC[k]? = some kd) (h1 : a ≤ st.length) (h2 : st.length ≤ a + 8) : am_invV k st sk = some (.inr (.inl (k, .ref q :: as, st.drop a))) := by
  unfold am_invV
  simp only [ha, hst, hq, hr, if_true]
  unfold am_inv
  simp only [ha]
  rw [if_pos ⟨h1, h2⟩, hst]
theorem is01 {x : Int32} (h : isN x 2) : x = 0 ∨ x = 1 := by
  obtain ⟨h1, h2⟩ := h
  rcases (show nn x = 0 ∨ nn x = 1 by omega) with e | e
  · rw [e] at h1; exact Or.inl h1
  · rw [e] at h1; exact Or.inr h1
theorem is01n {x : Int32} (h : isN x 2) : ¬ x = 0 ↔ x = 1 := by
  rcases is01 h with rfl | rfl <;> decide
theorem am_T66 : am_T 66 := Or.inl rfl
theorem am_T104 : am_T 104 := Or.inr (Or.inl rfl)
theorem am_T142 : am_T 142 := Or.inr (Or.inr rfl)
theorem nI_nn {x : Int32} {b : Nat} (h : isN x b) : nI (nn x) = x := h.1.symm
theorem nI_dec {a : Nat} (h : 1 ≤ a) : nI a + Int32.ofInt (-1) = nI (a - 1) := by
  obtain ⟨k, rfl⟩ : ∃ k, a = k + 1 := ⟨a - 1, by omega⟩
  exact nI_dec1 k
section EV2
variable {code : am_C} {d pc nx : Nat} {L : am_L} {st : List Value} {sk : am_K} {mem : am_M} {Q : am_P}
theorem ev_iaddN {a b : Nat} (hc : am_at code pc = some (.iadd, nx)) (k : am_ev code d nx L (.int (nI (a + b)) :: st) sk mem Q) : am_ev code d pc L (.int (nI b) :: .int (nI a) :: st) sk mem Q := ev_iadd hc (by rw [nI_add]; exact k)
theorem ev_imulN {a b : Nat} (hc : am_at code pc = some (.imul, nx)) (k : am_ev code d nx L (.int (nI (a * b)) :: st) sk mem Q) : am_ev code d pc L (.int (nI b) :: .int (nI a) :: st) sk mem Q := ev_imul hc (by rw [pk_mul]; exact k)
theorem ev_isubN {a b : Nat} (hc : am_at code pc = some (.isub, nx)) (k : am_ev code d nx L (.int (nI (a - b)) :: st) sk mem Q) (h : b ≤ a := by omega) : am_ev code d pc L (.int (nI b) :: .int (nI a) :: st) sk mem Q := ev_isub hc (by rw [pk_sub h]; exact k)
theorem ev_idivN {a b : Nat} (hc : am_at code pc = some (.idiv, nx)) (k : am_ev code d nx L (.int (nI (a / b)) :: st) sk mem Q) (ha : a < 2 ^ 31 := by omega) (h0 : 0 < b := by omega) (hb : b < 2 ^ 31 := by omega) : am_ev code d pc L (.int (nI b) :: .int (nI a) :: st) sk mem Q := ev_idiv hc (by rw [pk_div ha h0 hb]; exact k) (nI_ne0 h0 hb)
theorem ev_iremN {a b : Nat} (hc : am_at code pc = some (.irem, nx)) (k : am_ev code d nx L (.int (nI (a % b)) :: st) sk mem Q) (ha : a < 2 ^ 31 := by omega) (h0 : 0 < b := by omega) (hb : b < 2 ^ 31 := by omega) : am_ev code d pc L (.int (nI b) :: .int (nI a) :: st) sk mem Q := ev_irem hc (by rw [pk_rem ha h0 hb]; exact k) (nI_ne0 h0 hb)
theorem ev_iincN {i a : Nat} {L' : am_L} (hc : am_at code pc = some (.iinc i 1, nx)) (hx : L[i]? = some (some (.int (nI a)))) (hl : L.set i (some (.int (nI (a + 1)))) = L') (k : am_ev code d nx L' st sk mem Q) : am_ev code d pc L st sk mem Q := ev_iinc hc hx (nI_inc1 a) hl k
theorem ev_iincD {i a : Nat} {L' : am_L} (hc : am_at code pc = some (.iinc i (-1), nx)) (hx : L[i]? = some (some (.int (nI a)))) (hl : L.set i (some (.int (nI (a - 1)))) = L') (k : am_ev code d nx L' st sk mem Q) (h : 1 ≤ a := by omega) : am_ev code d pc L st sk mem Q := ev_iinc hc hx (nI_dec h) hl k
theorem ev_icmp_eqN {t : Int} {p2 a b : Nat} (hc : am_at code pc = some (.if_icmp .eq t, nx)) (ht : t.toNat = p2) (k1 : a = b → am_ev code d p2 L st sk mem Q) (k2 : ¬ a = b → am_ev code d nx L st sk mem Q) (ha : a < 2 ^ 31 := by omega) (hb : b < 2 ^ 31 := by omega) : am_ev code d pc L (.int (nI b) :: .int (nI a) :: st) sk mem Q := ev_icmp_eq hc ht (fun h => k1 ((nI_eq ha hb).mp h)) (fun h => k2 (fun z => h ((nI_eq ha hb).mpr z)))
theorem ev_icmp_ltN {t : Int} {p2 a b : Nat} (hc : am_at code pc = some (.if_icmp .lt t, nx)) (ht : t.toNat = p2) (k1 : a < b → am_ev code d p2 L st sk mem Q) (k2 : b ≤ a → am_ev code d nx L st sk mem Q) (ha : a < 2 ^ 31 := by omega) (hb : b < 2 ^ 31 := by omega) : am_ev code d pc L (.int (nI b) :: .int (nI a) :: st) sk mem Q := ev_icmp_lt hc ht (fun h => k1 ((nI_ltI ha hb).mp h)) (fun h => k2 (Nat.le_of_not_lt (fun z => h ((nI_ltI ha hb).mpr z))))
theorem ev_icmp_geN {t : Int} {p2 a b : Nat} (hc : am_at code pc = some (.if_icmp .ge t, nx)) (ht : t.toNat = p2) (k1 : b ≤ a → am_ev code d p2 L st sk mem Q) (k2 : a < b → am_ev code d nx L st sk mem Q) (ha : a < 2 ^ 31 := by omega) (hb : b < 2 ^ 31 := by omega) : am_ev code d pc L (.int (nI b) :: .int (nI a) :: st) sk mem Q := ev_icmp_ge hc ht (fun h => k1 ((nI_leI hb ha).mp h)) (fun h => k2 (Nat.lt_of_not_le (fun z => h ((nI_leI hb ha).mpr z))))
theorem ev_icmp_gtN {t : Int} {p2 a b : Nat} (hc : am_at code pc = some (.if_icmp .gt t, nx)) (ht : t.toNat = p2) (k1 : b < a → am_ev code d p2 L st sk mem Q) (k2 : a ≤ b → am_ev code d nx L st sk mem Q) (ha : a < 2 ^ 31 := by omega) (hb : b < 2 ^ 31 := by omega) : am_ev code d pc L (.int (nI b) :: .int (nI a) :: st) sk mem Q := ev_icmp_gt hc ht (fun h => k1 ((nI_ltI hb ha).mp h)) (fun h => k2 (Nat.le_of_not_lt (fun z => h ((nI_ltI hb ha).mpr z))))
theorem ev_icmp_leN {t : Int} {p2 a b : Nat} (hc : am_at code pc = some (.if_icmp .le t, nx)) (ht : t.toNat = p2) (k1 : a ≤ b → am_ev code d p2 L st sk mem Q) (k2 : b < a → am_ev code d nx L st sk mem Q) (ha : a < 2 ^ 31 := by omega) (hb : b < 2 ^ 31 := by omega) : am_ev code d pc L (.int (nI b) :: .int (nI a) :: st) sk mem Q := ev_icmp_le hc ht (fun h => k1 ((nI_leI ha hb).mp h)) (fun h => k2 (Nat.lt_of_not_le (fun z => h ((nI_leI ha hb).mpr z))))
theorem ev_icmp_neN {t : Int} {p2 a b : Nat} (hc : am_at code pc = some (.if_icmp .ne t, nx)) (ht : t.toNat = p2) (k1 : ¬ a = b → am_ev code d p2 L st sk mem Q) (k2 : a = b → am_ev code d nx L st sk mem Q) (ha : a < 2 ^ 31 := by omega) (hb : b < 2 ^ 31 := by omega) : am_ev code d pc L (.int (nI b) :: .int (nI a) :: st) sk mem Q := ev_icmp_ne hc ht (fun h => k1 (fun z => h ((nI_eq ha hb).mpr z))) (fun h => k2 ((nI_eq ha hb).mp h))
theorem ev_if_eqN {t : Int} {p2 a : Nat} (hc : am_at code pc = some (.ifCond .eq t, nx)) (ht : t.toNat = p2) (k1 : a = 0 → am_ev code d p2 L st sk mem Q) (k2 : 0 < a → am_ev code d nx L st sk mem Q) (ha : a < 2 ^ 31 := by omega) : am_ev code d pc L (.int (nI a) :: st) sk mem Q := by
  refine ev_if_eq hc ht (fun h => k1 ((nI_z ha).mp h)) (fun h => k2 (Nat.pos_of_ne_zero (fun z => h ((nI_z ha).mpr z))))
theorem ev_if_neN {t : Int} {p2 a : Nat} (hc : am_at code pc = some (.ifCond .ne t, nx)) (ht : t.toNat = p2) (k1 : 0 < a → am_ev code d p2 L st sk mem Q) (k2 : a = 0 → am_ev code d nx L st sk mem Q) (ha : a < 2 ^ 31 := by omega) : am_ev code d pc L (.int (nI a) :: st) sk mem Q := by
  refine ev_if_ne hc ht (fun h => k1 (Nat.pos_of_ne_zero (fun z => h ((nI_z ha).mpr z)))) (fun h => k2 ((nI_z ha).mp h))
theorem ev_if_gtN {t : Int} {p2 a : Nat} (hc : am_at code pc = some (.ifCond .gt t, nx)) (ht : t.toNat = p2) (k1 : 0 < a → am_ev code d p2 L st sk mem Q) (k2 : a = 0 → am_ev code d nx L st sk mem Q) (ha : a < 2 ^ 31 := by omega) : am_ev code d pc L (.int (nI a) :: st) sk mem Q := by
  refine ev_if_gt hc ht (fun h => k1 ((nI_ltI (by decide) ha).mp h)) (fun h => k2 (Nat.eq_zero_of_not_pos (fun z => h ((nI_ltI (by decide) ha).mpr z))))
theorem ev_if_leN {t : Int} {p2 a : Nat} (hc : am_at code pc = some (.ifCond .le t, nx)) (ht : t.toNat = p2) (k1 : a = 0 → am_ev code d p2 L st sk mem Q) (k2 : 0 < a → am_ev code d nx L st sk mem Q) (ha : a < 2 ^ 31 := by omega) : am_ev code d pc L (.int (nI a) :: st) sk mem Q := by
  refine ev_if_le hc ht (fun h => k1 (Nat.eq_zero_of_le_zero ((nI_leI ha (by decide)).mp h))) (fun h => k2 (Nat.lt_of_not_le (fun z => h ((nI_leI ha (by decide)).mpr z))))
theorem ev_if_ltN {t : Int} {a : Nat} (hc : am_at code pc = some (.ifCond .lt t, nx)) (k2 : am_ev code d nx L st sk mem Q) (ha : a < 2 ^ 31 := by omega) : am_ev code d pc L (.int (nI a) :: st) sk mem Q := ev_if_lt hc rfl (fun h => absurd h (nI_pos ha)) (fun _ => k2)
theorem ev_if_geN {t : Int} {p2 a : Nat} (hc : am_at code pc = some (.ifCond .ge t, nx)) (ht : t.toNat = p2) (k1 : am_ev code d p2 L st sk mem Q) (ha : a < 2 ^ 31 := by omega) : am_ev code d pc L (.int (nI a) :: st) sk mem Q := ev_if_ge hc ht (fun _ => k1) (fun h => absurd (nI_pos' ha) h)
theorem ev_if_eqB {t : Int} {p2 : Nat} {p : Prop} [Decidable p] (hc : am_at code pc = some (.ifCond .eq t, nx)) (ht : t.toNat = p2) (k1 : ¬ p → am_ev code d p2 L st sk mem Q) (k2 : p → am_ev code d nx L st sk mem Q) : am_ev code d pc L (.int (am_b p) :: st) sk mem Q := ev_if_eq hc ht (fun h => k1 (am_b0.mp h)) (fun h => k2 (am_bn0.mp h))
theorem ev_if_neB {t : Int} {p2 : Nat} {p : Prop} [Decidable p] (hc : am_at code pc = some (.ifCond .ne t, nx)) (ht : t.toNat = p2) (k1 : p → am_ev code d p2 L st sk mem Q) (k2 : ¬ p → am_ev code d nx L st sk mem Q) : am_ev code d pc L (.int (am_b p) :: st) sk mem Q := ev_if_ne hc ht (fun h => k1 (am_bn0.mp h)) (fun h => k2 (am_b0.mp h))
theorem ev_if_eqO {t : Int} {p2 : Nat} {b : Bool} (hc : am_at code pc = some (.ifCond .eq t, nx)) (ht : t.toNat = p2) (k1 : b = false → am_ev code d p2 L st sk mem Q) (k2 : b = true → am_ev code d nx L st sk mem Q) : am_ev code d pc L (.int (ob b) :: st) sk mem Q := ev_if_eq hc ht (fun h => k1 (ob0.mp h)) (fun h => k2 (obn0.mp h))
theorem ev_if_neO {t : Int} {p2 : Nat} {b : Bool} (hc : am_at code pc = some (.ifCond .ne t, nx)) (ht : t.toNat = p2) (k1 : b = true → am_ev code d p2 L st sk mem Q) (k2 : b = false → am_ev code d nx L st sk mem Q) : am_ev code d pc L (.int (ob b) :: st) sk mem Q := ev_if_ne hc ht (fun h => k1 (obn0.mp h)) (fun h => k2 (ob0.mp h))
theorem ev_caldN {q N m : Nat} {i : Int32} {rs : List (Option Nat)} (hc : am_at code pc = some (.caload, nx)) (hi : i = nI m) (k : am_ev code d nx L (.int (mem q m) :: st) sk mem Q) (hq : sk[q]? = some (22, N, rs) := by assumption) (hm : m < N := by first | omega | assumption) (hN : N < 2 ^ 31 := by decide) : am_ev code d pc L (.int i :: .ref q :: st) sk mem Q := by
  subst hi
  refine ev_cald hc ?_ hq (am_nin hm hN)
  rw [nI_clamp (Nat.lt_trans hm hN)]
  exact k
theorem ev_baldN {q N m : Nat} {i : Int32} {rs : List (Option Nat)} (hc : am_at code pc = some (.saload, nx)) (hi : i = nI m) (k : am_ev code d nx L (.int (mem q m) :: st) sk mem Q) (hq : sk[q]? = some (23, N, rs) := by assumption) (hm : m < N := by first | omega | assumption) (hN : N < 2 ^ 31 := by decide) : am_ev code d pc L (.int i :: .ref q :: st) sk mem Q := by
  subst hi
  refine ev_bald hc ?_ hq (am_nin hm hN)
  rw [nI_clamp (Nat.lt_trans hm hN)]
  exact k
theorem ev_copyN {j a b na nb sp dp m : Nat} {ra rb : List (Option Nat)} (hc : am_at code pc = some (.invokedynamic j, nx)) (k : am_ev code d nx L st sk (am_cp mem a b sp dp m) Q) (ha : sk[a]? = some (20, na, ra)) (hb : sk[b]? = some (20, nb, rb)) (h29 : 29 ≤ a ∧ 29 ≤ b := by omega) (h4 : sp + m ≤ na := by omega) (h5 : dp + m ≤ nb := by omega) (hN : na < 2 ^ 31 ∧ nb < 2 ^ 31 := by omega) (h6 : st.length ≤ 8 := by exact Nat.le_of_ble_eq_true rfl) : am_ev code d pc L (.int (nI m) :: .int (nI dp) :: .ref b :: .int (nI sp) :: .ref a :: st) sk mem Q := by
  have e1 : (nI sp).toNatClampNeg = sp := nI_clamp (by omega)
  have e2 : (nI dp).toNatClampNeg = dp := nI_clamp (by omega)
  have e3 : (nI m).toNatClampNeg = m := nI_clamp (by omega)
  refine ev_copy hc ?_ ha hb h29 (nI_pos (by omega)) (nI_pos (by omega)) (nI_pos (by omega)) ?_ ?_ h6
  · rw [e1, e2, e3]; exact k
  · rw [e1, e3]; exact h4
  · rw [e2, e3]; exact h5
theorem ev_callV {k a q kd N : Nat} {as : List Value} {rs : List (Option Nat)} (hc : am_at code pc = some (.invokevirtual k, nx)) (ha : am_AR[k]? = some a) (hst : (st.take a).reverse = .ref q :: as) (hr : am_RC[k]? = some kd) (h1 : a ≤ st.length) (h2 : st.length ≤ a + 8) (h : am_ex d k (.ref q :: as) sk mem (fun v sk' mem' => am_ev code d nx L (v.toList ++ st.drop a) sk' mem' Q)) (hq : sk[q]? = some (kd, N, rs)) : am_ev code d pc L st sk mem Q := ev_call hc (am_callV ha hst hq hr h1 h2) h
end EV2
theorem kb_text {u : Nat} (n : Nat) (hu : u < 14) : (am_SK n)[34 + 2 * u]? = some (8, 4, [none, none, none, some (35 + 2 * u)]) := by
  match u, hu with
  | 0, _ => rfl
  | 1, _ => rfl
  | 2, _ => rfl
  | 3, _ => rfl
  | 4, _ => rfl
  | 5, _ => rfl
  | 6, _ => rfl
  | 7, _ => rfl
  | 8, _ => rfl
  | 9, _ => rfl
  | 10, _ => rfl
  | 11, _ => rfl
  | 12, _ => rfl
  | 13, _ => rfl
  | u + 14, hu => omega
theorem kb_code {u : Nat} (n : Nat) (hu : u < 14) : (am_SK n)[35 + 2 * u]? = some (20, 96, []) := by
  match u, hu with
  | 0, _ => rfl
  | 1, _ => rfl
  | 2, _ => rfl
  | 3, _ => rfl
  | 4, _ => rfl
  | 5, _ => rfl
  | 6, _ => rfl
  | 7, _ => rfl
  | 8, _ => rfl
  | 9, _ => rfl
  | 10, _ => rfl
  | 11, _ => rfl
  | 12, _ => rfl
  | 13, _ => rfl
  | u + 14, hu => omega
theorem kr_text {u : Nat} (hu : u < 14) : ([some 34, some 36, some 38, some 40, some 42, some 44, some 46, some 48, some 50, some 52, some 54, some 56, some 58, some 60] : List (Option Nat))[u]? = some (some (34 + 2 * u)) := by
  match u, hu with
  | 0, _ => rfl
  | 1, _ => rfl
  | 2, _ => rfl
  | 3, _ => rfl
  | 4, _ => rfl
  | 5, _ => rfl
  | 6, _ => rfl
  | 7, _ => rfl
  | 8, _ => rfl
  | 9, _ => rfl
  | 10, _ => rfl
  | 11, _ => rfl
  | 12, _ => rfl
  | 13, _ => rfl
  | u + 14, hu => omega
theorem ks_sheet {u : Nat} (n : Nat) (hu : u < 4) : (am_SK n)[198 + 2 * u]? = some (6, 3, [none, none, some (199 + 2 * u)]) := by
  match u, hu with
  | 0, _ => rfl
  | 1, _ => rfl
  | 2, _ => rfl
  | 3, _ => rfl
  | u + 4, hu => omega
theorem ks_vals {u : Nat} (n : Nat) (hu : u < 4) : (am_SK n)[199 + 2 * u]? = some (20, 24, []) := by
  match u, hu with
  | 0, _ => rfl
  | 1, _ => rfl
  | 2, _ => rfl
  | 3, _ => rfl
  | u + 4, hu => omega
theorem kr_sheet {u : Nat} (hu : u < 4) : ([some 198, some 200, some 202, some 204] : List (Option Nat))[u]? = some (some (198 + 2 * u)) := by
  match u, hu with
  | 0, _ => rfl
  | 1, _ => rfl
  | 2, _ => rfl
  | 3, _ => rfl
  | u + 4, hu => omega
theorem ks_slot {u : Nat} (n : Nat) (hu : u < 5) : (am_SK n)[206 + 3 * u]? = some (7, 4, [none, none, none, some (207 + 3 * u)]) := by
  match u, hu with
  | 0, _ => rfl
  | 1, _ => rfl
  | 2, _ => rfl
  | 3, _ => rfl
  | 4, _ => rfl
  | u + 5, hu => omega
theorem ks_row {u : Nat} (n : Nat) (hu : u < 5) : (am_SK n)[207 + 3 * u]? = some (6, 3, [none, none, some (208 + 3 * u)]) := by
  match u, hu with
  | 0, _ => rfl
  | 1, _ => rfl
  | 2, _ => rfl
  | 3, _ => rfl
  | 4, _ => rfl
  | u + 5, hu => omega
theorem ks_rvals {u : Nat} (n : Nat) (hu : u < 5) : (am_SK n)[208 + 3 * u]? = some (20, 24, []) := by
  match u, hu with
  | 0, _ => rfl
  | 1, _ => rfl
  | 2, _ => rfl
  | 3, _ => rfl
  | 4, _ => rfl
  | u + 5, hu => omega
theorem kr_slot {u : Nat} (hu : u < 5) : ([some 206, some 209, some 212, some 215, some 218] : List (Option Nat))[u]? = some (some (206 + 3 * u)) := by
  match u, hu with
  | 0, _ => rfl
  | 1, _ => rfl
  | 2, _ => rfl
  | 3, _ => rfl
  | 4, _ => rfl
  | u + 5, hu => omega
