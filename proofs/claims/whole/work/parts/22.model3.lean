/-! the reference: texts that count, and what two numbers give -/
section EVS
variable {code : am_C} {d pc nx : Nat} {L : am_L} {st : List Value} {sk : am_K} {mem : am_M} {Q : am_P}
theorem ev_tswC {dd lo hi t : Int} {ts : Array Int} {x : Int32} {p2 : Nat} (hc : am_at code pc = some (.tableswitch dd lo hi ts, nx)) (ht : (if x.toInt < lo ∨ hi < x.toInt then some dd else ts[(x.toInt - lo).toNat]?) = some t) (hp : t.toNat = p2) (k : am_ev code d p2 L st sk mem Q) : am_ev code d pc L (.int x :: st) sk mem Q := by
  subst hp
  refine ev_go hc ?_ k
  simp only [am_stp, am_tsw, am_go]
  by_cases h : x.toInt < lo ∨ hi < x.toInt
  · rw [if_pos h] at ht ⊢
    cases ht
    rfl
  · rw [if_neg h] at ht ⊢
    rw [ht]
theorem ev_lswC {dd t : Int} {ps : Array (Int × Int)} {x : Int32} {p2 : Nat} (hc : am_at code pc = some (.lookupswitch dd ps, nx)) (ht : Op.lookupswitch.offset ps.toList dd x.toInt = t) (hp : t.toNat = p2) (k : am_ev code d p2 L st sk mem Q) : am_ev code d pc L (.int x :: st) sk mem Q := by
  subst hp
  subst ht
  exact ev_go hc rfl k
end EVS
def S_key (R : am_R) (t : Nat) : Nat := nn (R (189 + 2 * t)) / 1000
def S_num (R : am_R) (t : Nat) : Nat := nn (R (189 + 2 * t)) % 1000
/-- the text that counts for a key, of the first k -/
def S_cnt (R : am_R) (key : Nat) : Nat → Option Nat
  | 0 => none
  | k + 1 => if S_key R k = key then some k else S_cnt R key k
theorem S_cnt_lt {R : am_R} {key : Nat} : ∀ {k t : Nat}, S_cnt R key k = some t → t < k
  | k + 1, t, h => by
    unfold S_cnt at h
    split at h
    · cases h; omega
    · have := S_cnt_lt h; omega
def S_cntI (o : Option Nat) : Int32 := match o with
  | some t => nI t
  | none => -1
/-- heads of the texts are small numbers -/
def wfH (R : am_R) : Prop := ∀ t, t < nn (R 6) → isN (R (189 + 2 * t)) 4000
def S_two (s a b : Int32) : Int32 := if s = -1 then ob (decide (a ≠ 0 ∨ b ≠ 0)) else if s = -2 then ob (decide (a ≠ 0 ∧ b ≠ 0)) else if s = -3 then ob (decide (a < b)) else if s = -4 then ob (decide (a = b)) else if s = -5 then ob (decide (b < a)) else if s = -6 then a + b else if s = -7 then a - b else if s = -8 then a * b else if b = 0 then 0 else a / b
theorem l_X12_counts {d n : Nat} {mem : am_M} {Q : am_P} (hw : wfR (mem 222)) (hh : wfH (mem 222)) (key k : Nat) (hkey : key < 4) (hk : k ≤ nn (mem 222 6)) (x : Int32) (hx : x = nI k - 1) (hQ : Q (some (.int (S_cntI (S_cnt (mem 222) key k)))) (am_SK n) mem) : am_ev kc_X12_counts (d + 1) 10 [some (.ref 221), some (.int (nI key)), some (.int x)] [] (am_SK n) mem Q := by
  induction k generalizing x with
  | zero =>
    subst hx
    refine ev_iload rfl rfl ?_
    refine ev_if_lt (p2 := 42) rfl rfl (fun cnd11 => ?_) (fun cnd11 => ?_)
    · skip
      refine ev_iconst (x := (-1)) rfl rfl ?_
      refine ev_iret rfl ?_
      exact hQ
    · exact absurd (by decide) cnd11
  | succ k ih =>
    have hx2 : x = nI k := by rw [hx]; exact nI_pred k
    subst hx2
    have hr6 : nn (mem 222 6) < 15 := hw.2.1.2.2.2.1.2
    obtain ⟨e1, g1⟩ := hh k (by omega)
    unfold S_cnt S_key at hQ
    generalize nn (mem 222 (189 + 2 * k)) = v at e1 g1 hQ
    refine ev_iload rfl rfl ?_
    refine ev_if_lt (p2 := 42) rfl rfl (fun cnd11 => ?_) (fun cnd11 => ?_)
    · exact absurd cnd11 (nI_pos (by omega))
    · skip
      refine ev_aload rfl rfl ?_
      refine ev_getR (c := 12) (j := 0) rfl ?_ (hq := k_221 n)
      refine ev_iconst (x := nI 189) rfl rfl ?_
      refine ev_iconst (x := nI 2) rfl rfl ?_
      refine ev_iload rfl rfl ?_
      refine ev_imul rfl ?_
      refine ev_iadd rfl ?_
      refine ev_ialdN rfl (m := 189 + 2 * k) (by simp only [nI_add, pk_mul]) ?_ (hq := k_222 n)
      rw [e1]
      refine ev_iconst (x := nI 1000) rfl rfl ?_
      refine ev_idiv rfl ?_
      rw [pk_div (by omega) (by decide) (by decide)]
      refine ev_iload rfl rfl ?_
      refine ev_icmp_ne (p2 := 36) rfl rfl (fun cnd31 => ?_) (fun cnd31 => ?_)
      · skip
        refine ev_iinc rfl rfl rfl rfl ?_
        refine ev_goto (p2 := 10) rfl rfl ?_
        refine ih (by omega) _ ?_ ?_
        · rw [Int32.sub_eq_add_neg]; exact congrArg (nI k + ·) (by decide)
        · rw [if_neg (fun z => cnd31 ((nI_eq (by omega) (by omega)).mpr z))] at hQ
          exact hQ
      · skip
        refine ev_iload rfl rfl ?_
        refine ev_iret rfl ?_
        rw [if_pos ((nI_eq (by omega) (by omega)).mp cnd31)] at hQ
        exact hQ
theorem c_X12_counts {d n : Nat} {mem : am_M} {Q : am_P} (hw : wfR (mem 222)) (hh : wfH (mem 222)) (key : Nat) (hkey : key < 4) (hQ : Q (some (.int (S_cntI (S_cnt (mem 222) key (nn (mem 222 6)))))) (am_SK n) mem) : am_ex (d + 2) 198 [.ref 221, .int (nI key)] (am_SK n) mem Q := by
  refine ex_in (c0 := kc_X12_counts) rfl (L := [some (.ref 221), some (.int (nI key)), none]) rfl ?_
  refine ev_aload rfl rfl ?_
  refine ev_getR (c := 12) (j := 0) rfl ?_ (hq := k_221 n)
  refine ev_iconst (x := nI 6) rfl rfl ?_
  refine ev_ialdN rfl (m := 6) (rfl) ?_ (hq := k_222 n)
  refine ev_iconst (x := nI 1) rfl rfl ?_
  refine ev_isub rfl ?_
  refine ev_istore rfl rfl (Nat.le_of_ble_eq_true rfl) ?_
  exact l_X12_counts hw hh key _ hkey (Nat.le_refl _) _ (by rw [← hw.2.1.2.2.2.1.1]; rfl) hQ
theorem c_X12_two {d n : Nat} {mem : am_M} {Q : am_P} (sg a b : Int32) (hsg : sg = -1 ∨ sg = -2 ∨ sg = -3 ∨ sg = -4 ∨ sg = -5 ∨ sg = -6 ∨ sg = -7 ∨ sg = -8 ∨ sg = -9) (hQ : Q (some (.int (S_two sg a b))) (am_SK n) mem) : am_ex (d + 1) 200 [.int sg, .int a, .int b] (am_SK n) mem Q := by
  rcases hsg with rfl | rfl | rfl | rfl | rfl | rfl | rfl | rfl | rfl
  · refine ex_in (c0 := kc_X12_two) rfl (L := [some (.int (-1)), some (.int a), some (.int b)]) rfl ?_
    refine ev_iload rfl rfl ?_
    refine ev_tswC (p2 := 48) rfl (by first | rfl | decide) rfl ?_
    refine ev_iload rfl rfl ?_
    refine ev_if_ne (p2 := 56) rfl rfl (fun cnd49 => ?_) (fun cnd49 => ?_)
    · skip
      refine ev_iconst (x := 1) rfl rfl ?_
      refine ev_goto (p2 := 61) rfl rfl ?_
      refine ev_iret rfl ?_
      refine am_leaf hQ ?_
      simp_all [S_two, ob]
    · skip
      refine ev_iload rfl rfl ?_
      refine ev_if_eq (p2 := 60) rfl rfl (fun cnd53 => ?_) (fun cnd53 => ?_)
      · skip
        refine ev_iconst (x := 0) rfl rfl ?_
        refine ev_iret rfl ?_
        refine am_leaf hQ ?_
        simp_all [S_two, ob]
      · skip
        refine ev_iconst (x := 1) rfl rfl ?_
        refine ev_goto (p2 := 61) rfl rfl ?_
        refine ev_iret rfl ?_
        refine am_leaf hQ ?_
        simp_all [S_two, ob]
  · refine ex_in (c0 := kc_X12_two) rfl (L := [some (.int (-2)), some (.int a), some (.int b)]) rfl ?_
    refine ev_iload rfl rfl ?_
    refine ev_tswC (p2 := 62) rfl (by first | rfl | decide) rfl ?_
    refine ev_iload rfl rfl ?_
    refine ev_if_eq (p2 := 74) rfl rfl (fun cnd63 => ?_) (fun cnd63 => ?_)
    · skip
      refine ev_iconst (x := 0) rfl rfl ?_
      refine ev_iret rfl ?_
      refine am_leaf hQ ?_
      simp_all [S_two, ob]
    · skip
      refine ev_iload rfl rfl ?_
      refine ev_if_eq (p2 := 74) rfl rfl (fun cnd67 => ?_) (fun cnd67 => ?_)
      · skip
        refine ev_iconst (x := 0) rfl rfl ?_
        refine ev_iret rfl ?_
        refine am_leaf hQ ?_
        simp_all [S_two, ob]
      · skip
        refine ev_iconst (x := 1) rfl rfl ?_
        refine ev_goto (p2 := 75) rfl rfl ?_
        refine ev_iret rfl ?_
        refine am_leaf hQ ?_
        simp_all [S_two, ob]
  · refine ex_in (c0 := kc_X12_two) rfl (L := [some (.int (-3)), some (.int a), some (.int b)]) rfl ?_
    refine ev_iload rfl rfl ?_
    refine ev_tswC (p2 := 76) rfl (by first | rfl | decide) rfl ?_
    refine ev_iload rfl rfl ?_
    refine ev_iload rfl rfl ?_
    refine ev_icmp_ge (p2 := 85) rfl rfl (fun cnd78 => ?_) (fun cnd78 => ?_)
    · skip
      refine ev_iconst (x := 0) rfl rfl ?_
      refine ev_iret rfl ?_
      refine am_leaf hQ ?_
      simp_all [S_two, ob]
    · skip
      refine ev_iconst (x := 1) rfl rfl ?_
      refine ev_goto (p2 := 86) rfl rfl ?_
      refine ev_iret rfl ?_
      refine am_leaf hQ ?_
      simp_all [S_two, ob]
  · refine ex_in (c0 := kc_X12_two) rfl (L := [some (.int (-4)), some (.int a), some (.int b)]) rfl ?_
    refine ev_iload rfl rfl ?_
    refine ev_tswC (p2 := 87) rfl (by first | rfl | decide) rfl ?_
    refine ev_iload rfl rfl ?_
    refine ev_iload rfl rfl ?_
    refine ev_icmp_ne (p2 := 96) rfl rfl (fun cnd89 => ?_) (fun cnd89 => ?_)
    · skip
      refine ev_iconst (x := 0) rfl rfl ?_
      refine ev_iret rfl ?_
      refine am_leaf hQ ?_
      simp_all [S_two, ob]
    · skip
      refine ev_iconst (x := 1) rfl rfl ?_
      refine ev_goto (p2 := 97) rfl rfl ?_
      refine ev_iret rfl ?_
      refine am_leaf hQ ?_
      simp_all [S_two, ob]
  · refine ex_in (c0 := kc_X12_two) rfl (L := [some (.int (-5)), some (.int a), some (.int b)]) rfl ?_
    refine ev_iload rfl rfl ?_
    refine ev_tswC (p2 := 98) rfl (by first | rfl | decide) rfl ?_
    refine ev_iload rfl rfl ?_
    refine ev_iload rfl rfl ?_
    refine ev_icmp_le (p2 := 107) rfl rfl (fun cnd100 => ?_) (fun cnd100 => ?_)
    · skip
      refine ev_iconst (x := 0) rfl rfl ?_
      refine ev_iret rfl ?_
      refine am_leaf hQ ?_
      simp_all [S_two, ob]
    · skip
      refine ev_iconst (x := 1) rfl rfl ?_
      refine ev_goto (p2 := 108) rfl rfl ?_
      refine ev_iret rfl ?_
      refine am_leaf hQ ?_
      simp_all [S_two, ob]
  · refine ex_in (c0 := kc_X12_two) rfl (L := [some (.int (-6)), some (.int a), some (.int b)]) rfl ?_
    refine ev_iload rfl rfl ?_
    refine ev_tswC (p2 := 109) rfl (by first | rfl | decide) rfl ?_
    refine ev_iload rfl rfl ?_
    refine ev_iload rfl rfl ?_
    refine ev_iadd rfl ?_
    refine ev_iret rfl ?_
    refine am_leaf hQ ?_
    simp_all [S_two, ob]
  · refine ex_in (c0 := kc_X12_two) rfl (L := [some (.int (-7)), some (.int a), some (.int b)]) rfl ?_
    refine ev_iload rfl rfl ?_
    refine ev_tswC (p2 := 113) rfl (by first | rfl | decide) rfl ?_
    refine ev_iload rfl rfl ?_
    refine ev_iload rfl rfl ?_
    refine ev_isub rfl ?_
    refine ev_iret rfl ?_
    refine am_leaf hQ ?_
    simp_all [S_two, ob]
  · refine ex_in (c0 := kc_X12_two) rfl (L := [some (.int (-8)), some (.int a), some (.int b)]) rfl ?_
    refine ev_iload rfl rfl ?_
    refine ev_tswC (p2 := 117) rfl (by first | rfl | decide) rfl ?_
    refine ev_iload rfl rfl ?_
    refine ev_iload rfl rfl ?_
    refine ev_imul rfl ?_
    refine ev_iret rfl ?_
    refine am_leaf hQ ?_
    simp_all [S_two, ob]
  · refine ex_in (c0 := kc_X12_two) rfl (L := [some (.int (-9)), some (.int a), some (.int b)]) rfl ?_
    refine ev_iload rfl rfl ?_
    refine ev_tswC (p2 := 121) rfl (by first | rfl | decide) rfl ?_
    refine ev_iload rfl rfl ?_
    refine ev_if_ne (p2 := 129) rfl rfl (fun cnd122 => ?_) (fun cnd122 => ?_)
    · skip
      refine ev_iload rfl rfl ?_
      refine ev_iload rfl rfl ?_
      refine ev_idiv rfl ?_
      refine ev_iret rfl ?_
      refine am_leaf hQ ?_
      simp_all [S_two, ob]
    · skip
      refine ev_iconst (x := 0) rfl rfl ?_
      refine ev_goto (p2 := 132) rfl rfl ?_
      refine ev_iret rfl ?_
      refine am_leaf hQ ?_
      simp_all [S_two, ob]
