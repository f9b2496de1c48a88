/-! the reference: light and wear -/
theorem am_idx {p x : Int32} {m : Nat} (hx : x = nI m) (hm : m < 2 ^ 31) (h : 0 ≤ p ∧ p ≤ x - 1) : p = nI (nn p) ∧ nn p < m := by
  subst hx
  obtain ⟨h1, h2⟩ := h
  have e1 : (1 : Int32).toInt = 1 := rfl
  have e0 : (0 : Int32).toInt = 0 := rfl
  have em : (nI m).toInt = (m : Int) := nI_toInt hm
  rw [Int32.le_iff_toInt_le] at h1 h2
  rw [am_sub_toInt (by omega) (by omega)] at h2
  have hn : nn p = p.toInt.toNat := rfl
  exact ⟨am_nI_of (by omega) (by omega), by omega⟩
def S_wear (kd : Int32) : Int32 := if kd < nI 4 then nI 1 else nI 2
def S_BAD : Int32 := -1000000001
def X_light (R : am_R) (ofc : Int32) : Int32 := if nI 0 ≤ ofc ∧ ofc ≤ nI 3 then S_light R ofc else S_BAD
theorem c_X12_wearBy {d n : Nat} {mem : am_M} {Q : am_P} (kd : Int32) (hQ : Q (some (.int (S_wear kd))) (am_SK n) mem) : am_ex (d + 1) 161 [.int kd] (am_SK n) mem Q := by
  refine ex_in (c0 := kc_X12_wearBy) rfl (L := [some (.int kd)]) rfl ?_
  refine ev_iload rfl rfl ?_
  refine ev_iconst (x := nI 4) rfl rfl ?_
  refine ev_icmp_lt (p2 := 9) rfl rfl (fun cnd2 => ?_) (fun cnd2 => ?_)
  · skip
    refine ev_iconst (x := nI 1) rfl rfl ?_
    refine ev_iret rfl ?_
    refine am_leaf hQ ?_
    unfold S_wear
    first | rw [if_pos cnd2] | rw [if_neg cnd2]
  · skip
    refine ev_iconst (x := nI 2) rfl rfl ?_
    refine ev_goto (p2 := 10) rfl rfl ?_
    refine ev_iret rfl ?_
    refine am_leaf hQ ?_
    unfold S_wear
    first | rw [if_pos cnd2] | rw [if_neg cnd2]
theorem c_X12_light {d n : Nat} {mem : am_M} {Q : am_P} (hw : wfR (mem 222)) (hT : wfTs (mem 222)) (ofc : Int32) (hQ : ∀ m2 : am_M, (∀ q, q ≠ 232 → q ≠ 233 → m2 q = mem q) → Q (some (.int (X_light (mem 222) ofc))) (am_SK n) m2) : am_ex (d + 8) 181 [.ref 221, .int ofc] (am_SK n) mem Q := by
  refine ex_in (c0 := kc_X12_light) rfl (L := [some (.ref 221), some (.int ofc)]) rfl ?_
  refine ev_iload rfl rfl ?_
  refine ev_iconst (x := nI 0) rfl rfl ?_
  refine ev_iconst (x := nI 3) rfl rfl ?_
  refine ev_call rfl rfl ?_
  refine c_X12_in _ _ _ ?_
  change am_ev _ _ _ _ (_ :: _) _ _ _
  refine ev_if_eq (p2 := 17) rfl rfl (fun cnd6 => ?_) (fun cnd6 => ?_)
  · skip
    refine ev_iconst (x := (-1000000001)) rfl rfl ?_
    refine ev_iret rfl ?_
    unfold X_light at hQ
    first
    | (rw [if_pos (am_bn0.mp cnd6)] at hQ; exact hQ m2 h2)
    | (rw [if_neg (am_b0.mp cnd6)] at hQ; exact hQ mem (fun _ _ _ => rfl))
  · skip
    refine ev_aload rfl rfl ?_
    refine ev_iload rfl rfl ?_
    refine ev_call rfl rfl ?_
    refine c_X12_lightOf hw hT ofc (fun m2 h2 => ?_)
    change am_ev _ _ _ _ (_ :: _) _ _ _
    refine ev_goto (p2 := 19) rfl rfl ?_
    refine ev_iret rfl ?_
    unfold X_light at hQ
    first
    | (rw [if_pos (am_bn0.mp cnd6)] at hQ; exact hQ m2 h2)
    | (rw [if_neg (am_b0.mp cnd6)] at hQ; exact hQ mem (fun _ _ _ => rfl))
