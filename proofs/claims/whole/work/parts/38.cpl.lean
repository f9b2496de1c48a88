/-! the class's towns beside the reference's row -/
def S_nm (key i : Nat) : Nat := if key = 1 then (if i = 0 then 107 else if i = 1 then 119 else 99) else if key = 3 then (if i = 0 then 104 else 99) else if i = 0 then 104 else if i = 1 then 100 else 99
def S_sgn (v : Int32) : Nat := if v = -1 then 124 else if v = -2 then 38 else if v = -3 then 60 else if v = -4 then 61 else if v = -5 then 62 else if v = -6 then 43 else if v = -7 then 45 else if v = -8 then 42 else if v = -9 then 47 else 33
/-- a piece of a text, as the class has it -/
def S_enc (key : Nat) (v : Int32) : Int32 := if v < 0 then -(nI (S_sgn v)) else if nI 10000 ≤ v then -(nI (S_nm key (nn v - 10000))) else v
def S_NONE : Int32 := -1000000005
def S_cntN (o : Option Nat) : Int32 := match o with
  | some t => nI t
  | none => S_NONE
def CplB (u : Nat) (R : am_R) (mem : am_M) : Prop := mem (34 + 2 * u) 0 = nI (S_key R u) ∧ mem (34 + 2 * u) 1 = R (190 + 2 * u) ∧ mem (34 + 2 * u) 2 = nI (S_num R u) ∧ ∀ k, k < S_num R u → mem (35 + 2 * u) k = S_enc (S_key R u) (R (217 + 96 * u + k))
def CplT (t : Nat) (R : am_R) (mem : am_M) : Prop := (wfR R ∧ wfTs R) ∧ (mem t 2 = R 3 ∧ mem t 4 = R 4 ∧ mem t 6 = R 5 ∧ mem t 7 = R 0 ∧ mem t 8 = R 1 ∧ mem t 9 = R 2 ∧ mem t 11 = R 7 ∧ mem t 13 = R 8 ∧ mem t 14 = R 6) ∧ (∀ c, c < nn (R 3) → ∀ k, k < 6 → mem (t + 7 + c) k = R (23 + 6 * c + k)) ∧ (∀ j, j < nn (R 4) → mem (t + 10 + j) 0 = R (41 + 3 * j) ∧ mem (t + 10 + j) 1 = R (41 + 3 * j + 1) ∧ mem (t + 10 + j) 2 = nI (S_cab R j) ∧ mem (t + 10 + j) 3 = R (41 + 3 * j + 2)) ∧ (∀ l, l < nn (R 5) → ∀ k, k < 7 → mem (t + 22 + l) k = R (77 + 7 * l + k)) ∧ (∀ k, k < nn (R 7) → mem (t + 4) k = R (9 + k)) ∧ (∀ k, k < nn (R 8) → mem (t + 5) k = R (17 + k)) ∧ (∀ key, key < 4 → mem (t + 6) key = S_cntN (S_cnt R key (nn (R 6)))) ∧ ∀ u, u < nn (R 6) → CplB u R mem
theorem wb_all {R : am_R} (h : wfR R) : nn (R 0) < 24 ∧ nn (R 1) < 5000 ∧ nn (R 2) < 100 ∧ 1 ≤ nn (R 2) ∧ nn (R 3) < 4 ∧ nn (R 4) < 13 ∧ nn (R 5) < 17 ∧ nn (R 6) < 15 ∧ nn (R 7) < 9 ∧ nn (R 8) < 7 := ⟨h.1.1.2, h.1.2.1.2, h.1.2.2.1.2, h.1.2.2.2, h.2.1.1.2, h.2.1.2.1.2, h.2.1.2.2.1.2, h.2.1.2.2.2.1.2, h.2.1.2.2.2.2.1.2, h.2.1.2.2.2.2.2.2⟩
section CP
variable {t : Nat} {R : am_R} {mem m2 : am_M}
theorem cp_w (h : CplT t R mem) : wfR R := h.1.1
theorem cp_ts (h : CplT t R mem) : wfTs R := h.1.2
theorem cp_t2 (h : CplT t R mem) : mem t 2 = nI (nn (R 3)) := h.2.1.1.trans h.1.1.2.1.1.1
theorem cp_t4 (h : CplT t R mem) : mem t 4 = nI (nn (R 4)) := h.2.1.2.1.trans h.1.1.2.1.2.1.1
theorem cp_t6 (h : CplT t R mem) : mem t 6 = nI (nn (R 5)) := h.2.1.2.2.1.trans h.1.1.2.1.2.2.1.1
theorem cp_t7 (h : CplT t R mem) : mem t 7 = nI (nn (R 0)) := h.2.1.2.2.2.1.trans h.1.1.1.1.1
theorem cp_t8 (h : CplT t R mem) : mem t 8 = nI (nn (R 1)) := h.2.1.2.2.2.2.1.trans h.1.1.1.2.1.1
theorem cp_t9 (h : CplT t R mem) : mem t 9 = nI (nn (R 2)) := h.2.1.2.2.2.2.2.1.trans h.1.1.1.2.2.1.1
theorem cp_t11 (h : CplT t R mem) : mem t 11 = nI (nn (R 7)) := h.2.1.2.2.2.2.2.2.1.trans h.1.1.2.1.2.2.2.2.1.1
theorem cp_t13 (h : CplT t R mem) : mem t 13 = nI (nn (R 8)) := h.2.1.2.2.2.2.2.2.2.1.trans h.1.1.2.1.2.2.2.2.2.1
theorem cp_t14 (h : CplT t R mem) : mem t 14 = nI (nn (R 6)) := h.2.1.2.2.2.2.2.2.2.2.trans h.1.1.2.1.2.2.2.1.1
theorem cp_c {c k : Nat} (h : CplT t R mem) (hc : c < nn (R 3)) (hk : k < 6) : mem (t + 7 + c) k = R (23 + 6 * c + k) := h.2.2.1 c hc k hk
theorem cp_c1 {c : Nat} (h : CplT t R mem) (hc : c < nn (R 3)) : mem (t + 7 + c) 1 = nI (nn (R (23 + 6 * c + 1))) := (h.2.2.1 c hc 1 (by decide)).trans (h.1.1.2.2.1 c hc).2.1.1
theorem cp_c2 {c : Nat} (h : CplT t R mem) (hc : c < nn (R 3)) : mem (t + 7 + c) 2 = nI (nn (R (23 + 6 * c + 2))) := (h.2.2.1 c hc 2 (by decide)).trans (h.1.1.2.2.1 c hc).2.2.1.1
theorem cp_j0 {j : Nat} (h : CplT t R mem) (hj : j < nn (R 4)) : mem (t + 10 + j) 0 = nI (nn (R (41 + 3 * j))) := (h.2.2.2.1 j hj).1.trans (h.1.1.2.2.2.1 j hj).1.1
theorem cp_j1 {j : Nat} (h : CplT t R mem) (hj : j < nn (R 4)) : mem (t + 10 + j) 1 = R (41 + 3 * j + 1) := (h.2.2.2.1 j hj).2.1
theorem cp_j2 {j : Nat} (h : CplT t R mem) (hj : j < nn (R 4)) : mem (t + 10 + j) 2 = nI (S_cab R j) := (h.2.2.2.1 j hj).2.2.1
theorem cp_j3 {j : Nat} (h : CplT t R mem) (hj : j < nn (R 4)) : mem (t + 10 + j) 3 = R (41 + 3 * j + 2) := (h.2.2.2.1 j hj).2.2.2
theorem cp_l {l k : Nat} (h : CplT t R mem) (hl : l < nn (R 5)) (hk : k < 7) : mem (t + 22 + l) k = R (77 + 7 * l + k) := h.2.2.2.2.1 l hl k hk
theorem cp_l0 {l : Nat} (h : CplT t R mem) (hl : l < nn (R 5)) : mem (t + 22 + l) 0 = nI (nn (R (77 + 7 * l))) := (h.2.2.2.2.1 l hl 0 (by decide)).trans (h.1.1.2.2.2.2.1 l hl).1.1
theorem cp_l1 {l : Nat} (h : CplT t R mem) (hl : l < nn (R 5)) : mem (t + 22 + l) 1 = nI (nn (R (77 + 7 * l + 1))) := (h.2.2.2.2.1 l hl 1 (by decide)).trans (h.1.1.2.2.2.2.1 l hl).2.1.1
theorem cp_jl {l : Nat} (h : CplT t R mem) (hl : l < nn (R 5)) : nn (R (77 + 7 * l + 1)) < nn (R 4) := (h.1.1.2.2.2.2.1 l hl).2.1.2
theorem cp_ch {k : Nat} (h : CplT t R mem) (hk : k < nn (R 7)) : mem (t + 4) k = nI (nn (R (9 + k))) := (h.2.2.2.2.2.1 k hk).trans (h.1.1.2.2.2.2.2.1 k hk).1
theorem cp_chb {k : Nat} (h : CplT t R mem) (hk : k < nn (R 7)) : nn (R (9 + k)) < nn (R 5) := (h.1.1.2.2.2.2.2.1 k hk).2
theorem cp_st {k : Nat} (h : CplT t R mem) (hk : k < nn (R 8)) : mem (t + 5) k = nI (nn (R (17 + k))) := (h.2.2.2.2.2.2.1 k hk).trans (h.1.1.2.2.2.2.2.2 k hk).1
theorem cp_stb {k : Nat} (h : CplT t R mem) (hk : k < nn (R 8)) : nn (R (17 + k)) < nn (R 4) := (h.1.1.2.2.2.2.2.2 k hk).2
theorem cp_k {key : Nat} (h : CplT t R mem) (hk : key < 4) : mem (t + 6) key = S_cntN (S_cnt R key (nn (R 6))) := h.2.2.2.2.2.2.2.1 key hk
theorem cp_b {u : Nat} (h : CplT t R mem) (hu : u < nn (R 6)) : CplB u R mem := h.2.2.2.2.2.2.2.2 u hu
theorem cp_cab {j : Nat} (h : CplT t R mem) (hj : j < nn (R 4)) : S_cab R j < nn (R 3) := S_cab_lt h.1.1 j hj
theorem cp_fr (h : CplT t R mem) (e : ∀ q, (34 ≤ q ∧ q ≤ 61) ∨ (t ≤ q ∧ q ≤ t + 37) → m2 q = mem q) : CplT t R m2 := by
  obtain ⟨h0, h1, h2, h3, h4, h5, h6, h7, h8⟩ := h
  have hb := wb_all h0.1
  refine ⟨h0, ?_, fun c hc k hk => ?_, fun j hj => ?_, fun l hl k hk => ?_, fun k hk => ?_, fun k hk => ?_, fun key hk => ?_, fun u hu => ?_⟩
  · rw [e t (by omega)]; exact h1
  · rw [e _ (by omega)]; exact h2 c hc k hk
  · rw [e (t + 10 + j) (by omega)]; exact h3 j hj
  · rw [e _ (by omega)]; exact h4 l hl k hk
  · rw [e _ (by omega)]; exact h5 k hk
  · rw [e _ (by omega)]; exact h6 k hk
  · rw [e _ (by omega)]; exact h7 key hk
  · unfold CplB
    rw [e (34 + 2 * u) (by omega), e (35 + 2 * u) (by omega)]
    exact h8 u hu
theorem cp_fr2 (h : CplT t R mem) (ht : am_T t) (e : ∀ q, q ≠ 32 → q ≠ 33 → m2 q = mem q) : CplT t R m2 := cp_fr h (fun q hq => e q (by have := ht.ge; omega) (by have := ht.ge; omega))
end CP
