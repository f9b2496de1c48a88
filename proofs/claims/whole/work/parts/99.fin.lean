/-! what holds when both have been made; the law -/
def memF (xs : am_R) : am_M := mX12 221 (am_z (mTL (am_z (am_m0 xs) (29 + 0))) (221 + 0))
def R0 : am_R := upd (upd (fun _ => 0) 0 (nI 18)) 2 (nI 7)
set_option maxRecDepth 20000 in
theorem mF_lo (xs : am_R) : ∀ q, q < 29 → memF xs q = am_m0 xs q := by
  intro q hq
  match q, hq with
  | 0, _ => rfl
  | 1, _ => rfl
  | 2, _ => rfl
  | 3, _ => rfl
  | 4, _ => rfl
  | 5, _ => rfl
  | 6, _ => rfl
  | 7, _ => rfl
  | 8, _ => rfl
  | 9, _ => rfl
  | 10, _ => rfl
  | 11, _ => rfl
  | 12, _ => rfl
  | 13, _ => rfl
  | 14, _ => rfl
  | 15, _ => rfl
  | 16, _ => rfl
  | 17, _ => rfl
  | 18, _ => rfl
  | 19, _ => rfl
  | 20, _ => rfl
  | 21, _ => rfl
  | 22, _ => rfl
  | 23, _ => rfl
  | 24, _ => rfl
  | 25, _ => rfl
  | 26, _ => rfl
  | 27, _ => rfl
  | 28, _ => rfl
  | n + 29, h => exact absurd h (by omega)
set_option maxRecDepth 20000 in
theorem mF_222 (xs : am_R) : memF xs 222 = R0 := rfl
set_option maxRecDepth 20000 in
theorem mF_223 (xs : am_R) : memF xs 223 = fun _ => 0 := rfl
set_option maxRecDepth 20000 in
theorem mF_224 (xs : am_R) : memF xs 224 = fun _ => 0 := rfl
set_option maxRecDepth 20000 in
theorem mF_29_5 (xs : am_R) : memF xs 29 5 = nI 0 := rfl
set_option maxRecDepth 20000 in
theorem mF_29_11 (xs : am_R) : memF xs 29 11 = nI 0 := rfl
set_option maxRecDepth 20000 in
theorem mF_221_3 (xs : am_R) : memF xs 221 3 = nI 0 := rfl
set_option maxRecDepth 20000 in
theorem mF_221_6 (xs : am_R) : memF xs 221 6 = nI 0 := rfl
set_option maxRecDepth 20000 in
theorem mF_221_43 (xs : am_R) : memF xs 221 43 = nI 0 := rfl
set_option maxRecDepth 20000 in
theorem mF_62_1 (xs : am_R) : memF xs 62 1 = nI 0 := rfl
set_option maxRecDepth 20000 in
theorem mF_66_2 (xs : am_R) : memF xs 66 2 = nI 0 := rfl
set_option maxRecDepth 20000 in
theorem mF_66_4 (xs : am_R) : memF xs 66 4 = nI 0 := rfl
set_option maxRecDepth 20000 in
theorem mF_66_6 (xs : am_R) : memF xs 66 6 = nI 0 := rfl
set_option maxRecDepth 20000 in
theorem mF_66_7 (xs : am_R) : memF xs 66 7 = nI 18 := rfl
set_option maxRecDepth 20000 in
theorem mF_66_8 (xs : am_R) : memF xs 66 8 = nI 0 := rfl
set_option maxRecDepth 20000 in
theorem mF_66_9 (xs : am_R) : memF xs 66 9 = nI 7 := rfl
set_option maxRecDepth 20000 in
theorem mF_66_11 (xs : am_R) : memF xs 66 11 = nI 0 := rfl
set_option maxRecDepth 20000 in
theorem mF_66_13 (xs : am_R) : memF xs 66 13 = nI 0 := rfl
set_option maxRecDepth 20000 in
theorem mF_66_14 (xs : am_R) : memF xs 66 14 = nI 0 := rfl
set_option maxRecDepth 20000 in
theorem mF_72_0 (xs : am_R) : memF xs 72 0 = S_NONE := rfl
set_option maxRecDepth 20000 in
theorem mF_72_1 (xs : am_R) : memF xs 72 1 = S_NONE := rfl
set_option maxRecDepth 20000 in
theorem mF_72_2 (xs : am_R) : memF xs 72 2 = S_NONE := rfl
set_option maxRecDepth 20000 in
theorem mF_72_3 (xs : am_R) : memF xs 72 3 = S_NONE := rfl
set_option maxRecDepth 20000 in
theorem mF_s0 (xs : am_R) : memF xs (198 + 2 * 0) 0 = -1 ∧ memF xs (198 + 2 * 0) 1 = nI 0 ∧ memF xs (199 + 2 * 0) = fun _ => 0 := ⟨rfl, rfl, rfl⟩
set_option maxRecDepth 20000 in
theorem mF_245_0 (xs : am_R) : memF xs 245 0 = -1 := rfl
set_option maxRecDepth 20000 in
theorem mF_s1 (xs : am_R) : memF xs (198 + 2 * 1) 0 = -1 ∧ memF xs (198 + 2 * 1) 1 = nI 0 ∧ memF xs (199 + 2 * 1) = fun _ => 0 := ⟨rfl, rfl, rfl⟩
set_option maxRecDepth 20000 in
theorem mF_245_1 (xs : am_R) : memF xs 245 1 = -1 := rfl
set_option maxRecDepth 20000 in
theorem mF_s2 (xs : am_R) : memF xs (198 + 2 * 2) 0 = -1 ∧ memF xs (198 + 2 * 2) 1 = nI 0 ∧ memF xs (199 + 2 * 2) = fun _ => 0 := ⟨rfl, rfl, rfl⟩
set_option maxRecDepth 20000 in
theorem mF_245_2 (xs : am_R) : memF xs 245 2 = -1 := rfl
set_option maxRecDepth 20000 in
theorem mF_s3 (xs : am_R) : memF xs (198 + 2 * 3) 0 = -1 ∧ memF xs (198 + 2 * 3) 1 = nI 0 ∧ memF xs (199 + 2 * 3) = fun _ => 0 := ⟨rfl, rfl, rfl⟩
set_option maxRecDepth 20000 in
theorem mF_245_3 (xs : am_R) : memF xs 245 3 = -1 := rfl
set_option maxRecDepth 20000 in
theorem mF_l0 (xs : am_R) : memF xs (206 + 3 * 0) 0 = nI 0 := rfl
set_option maxRecDepth 20000 in
theorem mF_l1 (xs : am_R) : memF xs (206 + 3 * 1) 0 = nI 0 := rfl
set_option maxRecDepth 20000 in
theorem mF_l2 (xs : am_R) : memF xs (206 + 3 * 2) 0 = nI 0 := rfl
set_option maxRecDepth 20000 in
theorem mF_l3 (xs : am_R) : memF xs (206 + 3 * 3) 0 = nI 0 := rfl
set_option maxRecDepth 20000 in
theorem mF_l4 (xs : am_R) : memF xs (206 + 3 * 4) 0 = nI 0 := rfl
set_option maxRecDepth 20000 in
theorem mF_246 (xs : am_R) : memF xs 246 = fun _ => 0 := rfl
set_option maxRecDepth 20000 in
theorem mF_247 (xs : am_R) : memF xs 247 = fun _ => 0 := rfl
set_option maxRecDepth 20000 in
theorem mF_248 (xs : am_R) : memF xs 248 = fun _ => 0 := rfl
set_option maxRecDepth 20000 in
theorem mF_227 (xs : am_R) : memF xs 227 = (upd (upd (upd (upd (upd (upd (upd (upd (upd (upd (upd (upd (upd (upd (upd (fun _ => 0) 0 (nI 100)) 1 (nI 105)) 2 (nI 109)) 3 (nI 108)) 4 (nI 105)) 5 (nI 102)) 6 (nI 101)) 7 (nI 112)) 8 (nI 114)) 9 (nI 105)) 10 (nI 99)) 11 (nI 101)) 12 (nI 108)) 13 (nI 97)) 14 (nI 119)) := rfl
set_option maxRecDepth 20000 in
theorem mF_228 (xs : am_R) : memF xs 228 = (upd (upd (upd (upd (upd (fun _ => 0) 0 (nI 0)) 1 (nI 3)) 2 (nI 7)) 3 (nI 12)) 4 (nI 15)) := rfl
theorem mF_ky : (upd (upd (upd (upd (upd (upd (upd (upd (upd (upd (upd (upd (upd (upd (upd (fun _ => 0) 0 (nI 100)) 1 (nI 105)) 2 (nI 109)) 3 (nI 108)) 4 (nI 105)) 5 (nI 102)) 6 (nI 101)) 7 (nI 112)) 8 (nI 114)) 9 (nI 105)) 10 (nI 99)) 11 (nI 101)) 12 (nI 108)) 13 (nI 97)) 14 (nI 119)) = am_ky := by
  funext k
  by_cases h : k < 15
  · match k, h with
    | 0, _ => rfl
    | 1, _ => rfl
    | 2, _ => rfl
    | 3, _ => rfl
    | 4, _ => rfl
    | 5, _ => rfl
    | 6, _ => rfl
    | 7, _ => rfl
    | 8, _ => rfl
    | 9, _ => rfl
    | 10, _ => rfl
    | 11, _ => rfl
    | 12, _ => rfl
    | 13, _ => rfl
    | 14, _ => rfl
  · rw [upd_ne (by omega), upd_ne (by omega), upd_ne (by omega), upd_ne (by omega), upd_ne (by omega), upd_ne (by omega), upd_ne (by omega), upd_ne (by omega), upd_ne (by omega), upd_ne (by omega), upd_ne (by omega), upd_ne (by omega), upd_ne (by omega), upd_ne (by omega), upd_ne (by omega)]
    unfold am_ky
    rw [List.getD_eq_getElem?_getD, List.getElem?_eq_none (by show 15 ≤ k; omega)]
    rfl
theorem mF_kt : (upd (upd (upd (upd (upd (fun _ => 0) 0 (nI 0)) 1 (nI 3)) 2 (nI 7)) 3 (nI 12)) 4 (nI 15)) = am_kt := by
  funext k
  by_cases h : k < 5
  · match k, h with
    | 0, _ => rfl
    | 1, _ => rfl
    | 2, _ => rfl
    | 3, _ => rfl
    | 4, _ => rfl
  · rw [upd_ne (by omega), upd_ne (by omega), upd_ne (by omega), upd_ne (by omega), upd_ne (by omega)]
    unfold am_kt
    rw [List.getD_eq_getElem?_getD, List.getElem?_eq_none (by show 5 ≤ k; omega)]
    rfl
theorem R0_z : nn (R0 3) = 0 ∧ nn (R0 4) = 0 ∧ nn (R0 5) = 0 ∧ nn (R0 6) = 0 ∧ nn (R0 7) = 0 ∧ nn (R0 8) = 0 := by decide
theorem R0_w : wfR R0 ∧ wfTs R0 := by
  obtain ⟨z3, z4, z5, z6, z7, z8⟩ := R0_z
  have i0 : ∀ c, 0 < c → c < 2 ^ 31 → isN (nI 0) c := fun c h1 h2 => isN_lt h1 h2
  refine ⟨⟨⟨isN_lt (a := 18) (by decide) (by decide), i0 5000 (by decide) (by decide), isN_lt (a := 7) (by decide) (by decide), by decide⟩, ⟨i0 4 (by decide) (by decide), i0 13 (by decide) (by decide), i0 17 (by decide) (by decide), i0 15 (by decide) (by decide), i0 9 (by decide) (by decide), i0 7 (by decide) (by decide)⟩, ?_, ?_, ?_, ?_, ?_⟩, ?_⟩
  · intro c hc; rw [z3] at hc; exact absurd hc (Nat.not_lt_zero c)
  · intro c hc; rw [z4] at hc; exact absurd hc (Nat.not_lt_zero c)
  · intro c hc; rw [z5] at hc; exact absurd hc (Nat.not_lt_zero c)
  · intro c hc; rw [z7] at hc; exact absurd hc (Nat.not_lt_zero c)
  · intro c hc; rw [z8] at hc; exact absurd hc (Nat.not_lt_zero c)
  · intro c hc; rw [z6] at hc; exact absurd hc (Nat.not_lt_zero c)
theorem Inv_0 (xs : am_R) : Inv xs (memF xs) := by
  obtain ⟨z3, z4, z5, z6, z7, z8⟩ := R0_z
  refine ⟨mF_lo xs, ⟨?_, by rw [mF_222]; decide⟩, ⟨⟨by rw [mF_29_5, mF_221_3], Or.inl (mF_221_3 xs)⟩, fun z => absurd ((mF_221_3 xs).symm.trans z) (by decide)⟩, ⟨0, by decide, mF_62_1 xs, mF_221_6 xs, fun k hk => absurd hk (Nat.not_lt_zero k)⟩, ?_, ?_, ⟨0, by decide, mF_29_11 xs, mF_221_43 xs, fun k hk => absurd hk (Nat.not_lt_zero k)⟩, ⟨(mF_227 xs).trans mF_ky, (mF_228 xs).trans mF_kt⟩, ?_⟩
  · rw [mF_222]
    refine ⟨R0_w, ⟨mF_66_2 xs, mF_66_4 xs, mF_66_6 xs, mF_66_7 xs, mF_66_8 xs, mF_66_9 xs, mF_66_11 xs, mF_66_13 xs, mF_66_14 xs⟩, ?_, ?_, ?_, ?_, ?_, ?_, ?_⟩
    · intro c hc; rw [z3] at hc; exact absurd hc (Nat.not_lt_zero c)
    · intro c hc; rw [z4] at hc; exact absurd hc (Nat.not_lt_zero c)
    · intro c hc; rw [z5] at hc; exact absurd hc (Nat.not_lt_zero c)
    · intro c hc; rw [z7] at hc; exact absurd hc (Nat.not_lt_zero c)
    · intro c hc; rw [z8] at hc; exact absurd hc (Nat.not_lt_zero c)
    · intro key hk
      rw [z6]
      match key, hk with
      | 0, _ => exact mF_72_0 xs
      | 1, _ => exact mF_72_1 xs
      | 2, _ => exact mF_72_2 xs
      | 3, _ => exact mF_72_3 xs
    · intro u hu; rw [z6] at hu; exact absurd hu (Nat.not_lt_zero u)
  · intro s hs
    rw [mF_246, mF_247]
    have hz : isN (nI 0) 25 := isN_lt (by decide) (by decide)
    match s, hs with
    | 0, _ => exact ⟨⟨by rw [(mF_s0 xs).1, mF_245_0], Or.inl (mF_245_0 xs)⟩, ⟨(mF_s0 xs).2.1, hz⟩, fun k _ => by rw [(mF_s0 xs).2.2]⟩
    | 1, _ => exact ⟨⟨by rw [(mF_s1 xs).1, mF_245_1], Or.inl (mF_245_1 xs)⟩, ⟨(mF_s1 xs).2.1, hz⟩, fun k _ => by rw [(mF_s1 xs).2.2]⟩
    | 2, _ => exact ⟨⟨by rw [(mF_s2 xs).1, mF_245_2], Or.inl (mF_245_2 xs)⟩, ⟨(mF_s2 xs).2.1, hz⟩, fun k _ => by rw [(mF_s2 xs).2.2]⟩
    | 3, _ => exact ⟨⟨by rw [(mF_s3 xs).1, mF_245_3], Or.inl (mF_245_3 xs)⟩, ⟨(mF_s3 xs).2.1, hz⟩, fun k _ => by rw [(mF_s3 xs).2.2]⟩
  · intro s hs
    have hz : isN (nI 0) 4 := isN_lt (by decide) (by decide)
    rw [mF_248]
    refine ⟨⟨?_, hz⟩, fun z => absurd (show (0 : Int32) = 1 from z) (by decide), fun z => absurd (show (0 : Int32) = 2 from z) (by decide), fun z => absurd (show (0 : Int32) = 3 from z) (by decide)⟩
    match s, hs with
    | 0, _ => exact mF_l0 xs
    | 1, _ => exact mF_l1 xs
    | 2, _ => exact mF_l2 xs
    | 3, _ => exact mF_l3 xs
    | 4, _ => exact mF_l4 xs
  · intro i hi
    rw [mF_222, mF_223, mF_224]
    refine ⟨?_, rfl, rfl⟩
    unfold R0
    rw [upd_ne (by omega), upd_ne (by omega)]
theorem sz_ro (L : Nat) (h : L ≤ 384) : am_sz (am_ro L) ≤ 1000 := by
  unfold am_ro
  simp only [am_sz]
  omega
theorem sz_S1 : am_sz am_S1 ≤ 90000 := by decide +kernel
set_option maxRecDepth 20000 in
theorem law_all {L : Nat} {xs : am_R} (hL : L ≤ 384) : am_ex (0 + 200 + 1) 254 [.ref 1] (am_ro L) (am_m0 xs) (fun v sk' _ => v = some (.int 1) ∧ sk'.length ≤ 1000 ∧ am_sz sk' ≤ 100000) := by
  have hA : (am_ro L).length = 29 := rfl
  have hA2 : (am_ro L ++ kTL).length = 221 := by
    rw [List.length_append, hA]
    rfl
  refine ex_in (c0 := kc_L_law) rfl (L := [some (.ref 1), none, none, none]) rfl ?_
  refine ev_newP hA rfl rfl ?_
  refine ev_dupR rfl ?_
  refine ev_callA (i := 0) hA rfl rfl rfl rfl rfl (Nat.le_of_ble_eq_true rfl) (Nat.le_of_ble_eq_true rfl) ?_
  refine i_TL _ _ _ hA ?_
  change am_ev _ _ _ _ [_] _ _ _
  refine ev_astore rfl rfl (Nat.le_of_ble_eq_true rfl) ?_
  refine ev_newP hA2 rfl rfl ?_
  refine ev_dupR rfl ?_
  refine ev_callA (i := 0) hA2 rfl rfl rfl rfl rfl (Nat.le_of_ble_eq_true rfl) (Nat.le_of_ble_eq_true rfl) ?_
  refine i_X12_init _ 221 _ _ hA2 (by decide) ?_
  change am_ev _ _ _ _ [_] _ _ _
  refine ev_astore rfl rfl (Nat.le_of_ble_eq_true rfl) ?_
  refine ev_iconst (x := nI 0) rfl rfl ?_
  refine ev_istore rfl rfl (Nat.le_of_ble_eq_true rfl) ?_
  have eS : (am_ro L ++ kTL) ++ kX12 221 = am_SK L := by
    rw [List.append_assoc, kS1]
    rfl
  rw [eS]
  refine l_law (xs := xs) (d := 0) pub_text hL (fun m2 => ⟨rfl, ?_, ?_⟩) L (memF xs) 0 (by omega) (by omega) (Inv_0 xs)
  · show (am_ro L ++ am_S1).length ≤ 1000
    rw [List.length_append, hA]
    decide
  · show am_sz (am_ro L ++ am_S1) ≤ 100000
    rw [am_sz_app]
    have h1 := sz_ro L hL
    have h2 := sz_S1
    omega
