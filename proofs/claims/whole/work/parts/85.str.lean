/-! texts: the strings -/
def sl (i : Nat) : Nat := am_len.getD i 0
def sB (i k : Nat) : Nat := nn ((am_byt.getD i []).getD k 0)
theorem k_str {i : Nat} (n : Nat) (h : i < 13) : (am_SK n)[2 + i]? = some (13, 2, [some (15 + i), none]) := by
  match i, h with
  | 0, _ => exact k_2 n
  | 1, _ => exact k_3 n
  | 2, _ => exact k_4 n
  | 3, _ => exact k_5 n
  | 4, _ => exact k_6 n
  | 5, _ => exact k_7 n
  | 6, _ => exact k_8 n
  | 7, _ => exact k_9 n
  | 8, _ => exact k_10 n
  | 9, _ => exact k_11 n
  | 10, _ => exact k_12 n
  | 11, _ => exact k_13 n
  | 12, _ => exact k_14 n
theorem k_byt {i : Nat} (n : Nat) (h : i < 13) : (am_SK n)[15 + i]? = some (23, sl i, []) := by
  match i, h with
  | 0, _ => exact k_15 n
  | 1, _ => exact k_16 n
  | 2, _ => exact k_17 n
  | 3, _ => exact k_18 n
  | 4, _ => exact k_19 n
  | 5, _ => exact k_20 n
  | 6, _ => exact k_21 n
  | 7, _ => exact k_22 n
  | 8, _ => exact k_23 n
  | 9, _ => exact k_24 n
  | 10, _ => exact k_25 n
  | 11, _ => exact k_26 n
  | 12, _ => exact k_27 n
def StrM (m : am_M) : Prop := (∀ i, i < 13 → m (2 + i) 1 = nI 0) ∧ ∀ i, i < 13 → ∀ k, k < sl i → m (15 + i) k = nI (sB i k)
theorem sl_b : ∀ i, i < 13 → 1 ≤ sl i ∧ sl i ≤ 5 := by decide
theorem sB_n : ∀ i, i < 13 → ∀ k, k < sl i → (am_byt.getD i []).getD k 0 = nI (sB i k) ∧ sB i k < 128 := by decide +kernel
theorem StrM_0 {xs : am_R} {m : am_M} (h : ∀ q, q < 29 → m q = am_m0 xs q) : StrM m := by
  refine ⟨fun i hi => ?_, fun i hi k hk => ?_⟩
  · rw [h _ (by omega)]
    unfold am_m0
    rw [if_neg (by omega), if_neg (by omega), if_neg (by omega)]
    rfl
  · rw [h _ (by omega)]
    unfold am_m0
    rw [if_neg (by omega), if_neg (by omega), if_pos (by omega), show 15 + i - 15 = i by omega]
    exact (sB_n i hi k hk).1
theorem StrM_fr {m m2 : am_M} (h : StrM m) (e : ∀ q, q < 29 → m2 q = m q) : StrM m2 := ⟨fun i hi => by rw [e _ (by omega)]; exact h.1 i hi, fun i hi k hk => by rw [e _ (by omega)]; exact h.2 i hi k hk⟩
section EVX
variable {code : am_C} {d pc nx : Nat} {L : am_L} {st : List Value} {sk : am_K} {mem : am_M} {Q : am_P}
theorem ev_cret {x : Int32} (hc : am_at code pc = some (.lreturn, nx)) (h : Q (some (.int x)) sk mem) (hx : vp_nar .char x = x) : am_ev code d pc L [.int x] sk mem Q := ev_ret hc (by simp only [am_stp, if_pos hx]) h
theorem ev_bret {x : Int32} (hc : am_at code pc = some (.dreturn, nx)) (h : Q (some (.int x)) sk mem) (hx : vp_nar .byte x = x) : am_ev code d pc L [.int x] sk mem Q := ev_ret hc (by simp only [am_stp, if_pos hx]) h
end EVX
theorem shr0 : ∀ i, i < 13 → nI (sl i) >>> (nI 0 &&& 31) = nI (sl i) := by decide
theorem chr_n : ∀ v, v < 128 → ((nI v &&& nI 255).toUInt32 % 65536).toInt32 = nI v ∧ vp_nar .char (nI v) = nI v := by decide +kernel
theorem i2c_n : ∀ v, v < 256 → ((nI v).toUInt32 % 65536).toInt32 = nI v := by decide +kernel
theorem i2b_n : ∀ v, v < 256 → (v < 128 → (nI v).toInt8.toInt32 = nI v) ∧ (128 ≤ v → (nI v).toInt8.toInt32 < 0) := by decide +kernel
theorem i2b_e {v c : Nat} (hv : v < 256) (hc : c < 128) : nI c = (nI v).toInt8.toInt32 ↔ c = v := by
  have h := i2b_n v hv
  by_cases e : v < 128
  · rw [h.1 e]
    exact nI_eq (by omega) (by omega)
  · refine ⟨fun z => ?_, fun z => by omega⟩
    have h2 := h.2 (by omega)
    rw [← z] at h2
    exact absurd h2 (nI_pos (by omega))
theorem c_J0_coder_7d493 {d n : Nat} {mem : am_M} {Q : am_P} (hS : StrM mem) (i : Nat) (hi : i < 13) (hQ : Q (some (.int (nI 0))) (am_SK n) mem) : am_ex (d + 1) 246 [.ref (2 + i)] (am_SK n) mem Q := by
  refine ex_in (c0 := kc_J0_coder_7d493) rfl (L := [some (.ref (2 + i))]) rfl ?_
  refine ev_gets (v := .int (nI 1)) rfl rfl ?_
  refine ev_if_eqN (p2 := 13) rfl rfl (fun zz => absurd zz (by decide)) (fun _ => ?_)
  refine ev_aload rfl rfl ?_
  refine ev_getI (c := 13) (j := 1) rfl ?_ (hq := k_str n (i := i) (by omega))
  rw [hS.1 i hi]
  refine ev_goto (p2 := 14) rfl rfl ?_
  refine ev_bret rfl ?_ (by decide)
  exact hQ
theorem c_J0_isLatin1_aae02 {d n : Nat} {mem : am_M} {Q : am_P} (hS : StrM mem) (i : Nat) (hi : i < 13) (hQ : Q (some (.int (nI 1))) (am_SK n) mem) : am_ex (d + 1) 247 [.ref (2 + i)] (am_SK n) mem Q := by
  refine ex_in (c0 := kc_J0_isLatin1_aae02) rfl (L := [some (.ref (2 + i))]) rfl ?_
  refine ev_gets (v := .int (nI 1)) rfl rfl ?_
  refine ev_if_eqN (p2 := 17) rfl rfl (fun zz => absurd zz (by decide)) (fun _ => ?_)
  refine ev_aload rfl rfl ?_
  refine ev_getI (c := 13) (j := 1) rfl ?_ (hq := k_str n (i := i) (by omega))
  rw [hS.1 i hi]
  refine ev_if_neN (p2 := 17) rfl rfl (fun zz => absurd zz (by decide)) (fun _ => ?_)
  refine ev_iconst (x := nI 1) rfl rfl ?_
  refine ev_goto (p2 := 18) rfl rfl ?_
  refine ev_zret rfl ?_
  exact hQ
theorem c_J0_length_8abf5 {d n : Nat} {mem : am_M} {Q : am_P} (hS : StrM mem) (i : Nat) (hi : i < 13) (hQ : Q (some (.int (nI (sl i)))) (am_SK n) mem) : am_ex (d + 2) 242 [.ref (2 + i)] (am_SK n) mem Q := by
  refine ex_in (c0 := kc_J0_length_8abf5) rfl (L := [some (.ref (2 + i))]) rfl ?_
  refine ev_aload rfl rfl ?_
  refine ev_getR (c := 13) (j := 0) rfl ?_ (hq := k_str n (i := i) (by omega))
  refine ev_alen rfl ?_ (hq := k_byt n (i := i) (by omega))
  refine ev_aload rfl rfl ?_
  refine ev_callV rfl rfl rfl rfl (Nat.le_of_ble_eq_true rfl) (Nat.le_of_ble_eq_true rfl) ?_ (hq := k_str n (i := i) (by omega))
  refine c_J0_coder_7d493 hS i hi ?_
  change am_ev _ _ _ _ [_, _] _ _ _
  change am_ev _ _ _ _ [.int (nI 0), .int (nI (sl i))] _ _ _
  refine ev_ishr rfl ?_
  rw [shr0 i hi]
  refine ev_iret rfl ?_
  exact hQ
theorem c_J3_checkIndex_8e157 {d n : Nat} {mem : am_M} {Q : am_P} (k m : Nat) (hk : k < m) (hm : m < 100) (hQ : Q (some (.int (nI k))) (am_SK n) mem) : am_ex (d + 1) 253 [.int (nI k), .int (nI m), .ref 28] (am_SK n) mem Q := by
  refine ex_in (c0 := kc_J3_checkIndex_8e157) rfl (L := [some (.int (nI k)), some (.int (nI m)), some (.ref 28)]) rfl ?_
  refine ev_iload rfl rfl ?_
  refine ev_if_ltN rfl ?_
  refine ev_iload rfl rfl ?_
  refine ev_iload rfl rfl ?_
  refine ev_icmp_ltN (p2 := 16) rfl rfl (fun cnd6 => ?_) (fun cnd6 => ?_)
  · skip
    refine ev_iload rfl rfl ?_
    refine ev_iret rfl ?_
    exact hQ
  · omega
theorem c_J0_checkIndex_df160 {d n : Nat} {mem : am_M} {Q : am_P} (k m : Nat) (hk : k < m) (hm : m < 100) (hQ : Q none (am_SK n) mem) : am_ex (d + 2) 248 [.int (nI k), .int (nI m)] (am_SK n) mem Q := by
  refine ex_in (c0 := kc_J0_checkIndex_df160) rfl (L := [some (.int (nI k)), some (.int (nI m))]) rfl ?_
  refine ev_iload rfl rfl ?_
  refine ev_iload rfl rfl ?_
  refine ev_gets rfl rfl ?_
  refine ev_call rfl rfl ?_
  refine c_J3_checkIndex_8e157 k m hk hm ?_
  change am_ev _ _ _ _ [_] _ _ _
  refine ev_pop rfl ?_
  refine ev_vret rfl ?_
  exact hQ
theorem c_J1_charAt_3b067 {d n : Nat} {mem : am_M} {Q : am_P} (hS : StrM mem) (i : Nat) (hi : i < 13) (k : Nat) (hk : k < sl i) (hQ : Q (some (.int (nI (sB i k)))) (am_SK n) mem) : am_ex (d + 3) 249 [.ref (15 + i), .int (nI k)] (am_SK n) mem Q := by
  have hsl := sl_b i hi
  refine ex_in (c0 := kc_J1_charAt_3b067) rfl (L := [some (.ref (15 + i)), some (.int (nI k))]) rfl ?_
  refine ev_iload rfl rfl ?_
  refine ev_aload rfl rfl ?_
  refine ev_alen rfl ?_ (hq := k_byt n (i := i) (by omega))
  change am_ev _ _ _ _ [.int (nI (sl i)), .int (nI k)] _ _ _
  refine ev_call rfl rfl ?_
  refine c_J0_checkIndex_df160 k (sl i) hk (by omega) ?_
  change am_ev _ _ _ _ [] _ _ _
  refine ev_aload rfl rfl ?_
  refine ev_iload rfl rfl ?_
  refine ev_baldN rfl rfl ?_ (hq := k_byt n (i := i) (by omega)) (hm := hk) (hN := by omega)
  rw [hS.2 i hi k hk]
  refine ev_iconst (x := nI 255) rfl rfl ?_
  refine ev_iand rfl ?_
  refine ev_i2c rfl ?_
  rw [(chr_n _ (sB_n i hi k hk).2).1]
  refine ev_cret rfl ?_ ((chr_n _ (sB_n i hi k hk).2).2)
  exact hQ
theorem c_J0_charAt_5068e {d n : Nat} {mem : am_M} {Q : am_P} (hS : StrM mem) (i : Nat) (hi : i < 13) (k : Nat) (hk : k < sl i) (hQ : Q (some (.int (nI (sB i k)))) (am_SK n) mem) : am_ex (d + 4) 243 [.ref (2 + i), .int (nI k)] (am_SK n) mem Q := by
  refine ex_in (c0 := kc_J0_charAt_5068e) rfl (L := [some (.ref (2 + i)), some (.int (nI k))]) rfl ?_
  refine ev_aload rfl rfl ?_
  refine ev_callV rfl rfl rfl rfl (Nat.le_of_ble_eq_true rfl) (Nat.le_of_ble_eq_true rfl) ?_ (hq := k_str n (i := i) (by omega))
  refine c_J0_isLatin1_aae02 hS i hi ?_
  change am_ev _ _ _ _ [_] _ _ _
  refine ev_if_eqN (p2 := 16) rfl rfl (fun zz => absurd zz (by decide)) (fun _ => ?_)
  refine ev_aload rfl rfl ?_
  refine ev_getR (c := 13) (j := 0) rfl ?_ (hq := k_str n (i := i) (by omega))
  refine ev_iload rfl rfl ?_
  refine ev_call rfl rfl ?_
  refine c_J1_charAt_3b067 hS i hi k hk ?_
  change am_ev _ _ _ _ [_] _ _ _
  refine ev_cret rfl ?_ ((chr_n _ (sB_n i hi k hk).2).2)
  exact hQ
theorem c_J1_canEncode_9a6ad {d n : Nat} {mem : am_M} {Q : am_P} (v : Nat) (hv : v < 256) (hQ : Q (some (.int (nI 1))) (am_SK n) mem) : am_ex (d + 1) 250 [.int (nI v)] (am_SK n) mem Q := by
  refine ex_in (c0 := kc_J1_canEncode_9a6ad) rfl (L := [some (.int (nI v))]) rfl ?_
  refine ev_iload rfl rfl ?_
  refine ev_if_ltN rfl ?_
  refine ev_iload rfl rfl ?_
  refine ev_iconst (x := nI 255) rfl rfl ?_
  refine ev_icmp_gtN (p2 := 15) rfl rfl (fun cnd8 => ?_) (fun cnd8 => ?_)
  · omega
  · skip
    refine ev_iconst (x := nI 1) rfl rfl ?_
    refine ev_goto (p2 := 16) rfl rfl ?_
    refine ev_zret rfl ?_
    exact hQ
def IO (i v : Nat) (r : Int32) : Prop := (∃ k, k < sl i ∧ sB i k = v ∧ r = nI k) ∨ ((∀ k, k < sl i → sB i k ≠ v) ∧ r = -1)
theorem l_iof {d n : Nat} {mem : am_M} {Q : am_P} (hS : StrM mem) (i : Nat) (hi : i < 13) (v : Nat) (hv : v < 256) (hQ : ∀ r : Int32, IO i v r → Q (some (.int r)) (am_SK n) mem) (x1 x2 : Option Value) (r : Nat) : ∀ b, b + r = sl i → (∀ k, k < b → sB i k ≠ v) → am_ev kc_J1_indexOfChar_4cfef d 7 [some (.ref (15 + i)), x1, x2, some (.int (nI (sl i))), some (.int ((nI v).toInt8.toInt32)), some (.int (nI b))] [] (am_SK n) mem Q := by
  induction r with
  | zero =>
    intro b hb hz
    have hsl := sl_b i hi
    refine ev_iload rfl rfl ?_
    refine ev_iload rfl rfl ?_
    refine ev_icmp_geN (p2 := 31) rfl rfl (fun cnd10 => ?_) (fun cnd10 => ?_)
    · skip
      refine ev_iconst (x := (-1)) rfl rfl ?_
      refine ev_iret rfl ?_
      exact hQ _ (Or.inr (And.intro (fun k hk => hz k (by omega)) rfl))
    · omega
  | succ r ih =>
    intro b hb hz
    have hsl := sl_b i hi
    refine ev_iload rfl rfl ?_
    refine ev_iload rfl rfl ?_
    refine ev_icmp_geN (p2 := 31) rfl rfl (fun cnd10 => ?_) (fun cnd10 => ?_)
    · omega
    · skip
      refine ev_aload rfl rfl ?_
      refine ev_iload rfl rfl ?_
      refine ev_baldN rfl rfl ?_ (hq := k_byt n (i := i) (by omega)) (hm := by omega) (hN := by omega)
      rw [hS.2 i hi b (by omega)]
      refine ev_iload rfl rfl ?_
      refine ev_icmp_ne (p2 := 25) rfl rfl (fun cnd19 => ?_) (fun cnd19 => ?_)
      · skip
        refine ev_iincN rfl rfl rfl ?_
        refine ev_goto (p2 := 7) rfl rfl ?_
        refine ih (b + 1) (by omega) (fun k hk => ?_)
        by_cases e : k = b
        · rw [e]; exact fun z => cnd19 ((i2b_e hv (sB_n i hi b (by omega)).2).mpr z)
        · exact hz k (by omega)
      · skip
        refine ev_iload rfl rfl ?_
        refine ev_iret rfl ?_
        exact hQ _ (Or.inl (Exists.intro b (And.intro (by omega) (And.intro ((i2b_e hv (sB_n i hi b (by omega)).2).mp cnd19) rfl))))
theorem c_J1_indexOfChar_4cfef {d n : Nat} {mem : am_M} {Q : am_P} (hS : StrM mem) (i : Nat) (hi : i < 13) (v : Nat) (hv : v < 256) (hQ : ∀ r : Int32, IO i v r → Q (some (.int r)) (am_SK n) mem) : am_ex (d + 1) 252 [.ref (15 + i), .int (nI v), .int (nI 0), .int (nI (sl i))] (am_SK n) mem Q := by
  refine ex_in (c0 := kc_J1_indexOfChar_4cfef) rfl (L := [some (.ref (15 + i)), some (.int (nI v)), some (.int (nI 0)), some (.int (nI (sl i))), none, none]) rfl ?_
  refine ev_iload rfl rfl ?_
  refine ev_i2b rfl ?_
  refine ev_istore rfl rfl (Nat.le_of_ble_eq_true rfl) ?_
  refine ev_iload rfl rfl ?_
  refine ev_istore rfl rfl (Nat.le_of_ble_eq_true rfl) ?_
  exact l_iof hS i hi v hv hQ _ _ (sl i) 0 (by omega) (fun k hk => absurd hk (Nat.not_lt_zero k))
theorem c_J1_indexOf_4cfef {d n : Nat} {mem : am_M} {Q : am_P} (hS : StrM mem) (i : Nat) (hi : i < 13) (v : Nat) (hv : v < 256) (hQ : ∀ r : Int32, IO i v r → Q (some (.int r)) (am_SK n) mem) : am_ex (d + 2) 251 [.ref (15 + i), .int (nI v), .int (nI 0), .int (nI (sl i))] (am_SK n) mem Q := by
  have hsl := sl_b i hi
  refine ex_in (c0 := kc_J1_indexOf_4cfef) rfl (L := [some (.ref (15 + i)), some (.int (nI v)), some (.int (nI 0)), some (.int (nI (sl i)))]) rfl ?_
  refine ev_iload rfl rfl ?_
  refine ev_call rfl rfl ?_
  refine c_J1_canEncode_9a6ad v hv ?_
  change am_ev _ _ _ _ [_] _ _ _
  refine ev_if_neN (p2 := 9) rfl rfl (fun _ => ?_) (fun zz => absurd zz (by decide))
  refine ev_iload rfl rfl ?_
  refine ev_iconst (x := nI 0) rfl rfl ?_
  refine ev_call rfl rfl ?_
  refine c_max _ _ ?_
  rw [show (if nI 0 < nI 0 then nI 0 else nI 0) = nI 0 from rfl]
  change am_ev _ _ _ _ [_] _ _ _
  refine ev_istore rfl rfl (Nat.le_of_ble_eq_true rfl) ?_
  refine ev_iload rfl rfl ?_
  refine ev_aload rfl rfl ?_
  refine ev_alen rfl ?_ (hq := k_byt n (i := i) (by omega))
  refine ev_call rfl rfl ?_
  refine c_min _ _ ?_
  rw [show (if Int32.ofNat (sl i) < nI (sl i) then Int32.ofNat (sl i) else nI (sl i)) = nI (sl i) by split <;> rfl]
  change am_ev _ _ _ _ [_] _ _ _
  refine ev_istore rfl rfl (Nat.le_of_ble_eq_true rfl) ?_
  refine ev_iload rfl rfl ?_
  refine ev_iload rfl rfl ?_
  refine ev_icmp_ltN (p2 := 29) rfl rfl (fun cnd24 => ?_) (fun cnd24 => ?_)
  · skip
    refine ev_aload rfl rfl ?_
    refine ev_iload rfl rfl ?_
    refine ev_iload rfl rfl ?_
    refine ev_iload rfl rfl ?_
    refine ev_call rfl rfl ?_
    refine c_J1_indexOfChar_4cfef hS i hi v hv (fun r hr => ?_)
    change am_ev _ _ _ _ [_] _ _ _
    refine ev_iret rfl ?_
    exact hQ _ hr
  · omega
theorem c_J0_indexOf_7cf53 {d n : Nat} {mem : am_M} {Q : am_P} (hS : StrM mem) (i : Nat) (hi : i < 13) (v : Nat) (hv : v < 256) (hQ : ∀ r : Int32, IO i v r → Q (some (.int r)) (am_SK n) mem) : am_ex (d + 3) 245 [.ref (2 + i), .int (nI v), .int (nI 0)] (am_SK n) mem Q := by
  refine ex_in (c0 := kc_J0_indexOf_7cf53) rfl (L := [some (.ref (2 + i)), some (.int (nI v)), some (.int (nI 0))]) rfl ?_
  refine ev_aload rfl rfl ?_
  refine ev_callV rfl rfl rfl rfl (Nat.le_of_ble_eq_true rfl) (Nat.le_of_ble_eq_true rfl) ?_ (hq := k_str n (i := i) (by omega))
  refine c_J0_isLatin1_aae02 hS i hi ?_
  change am_ev _ _ _ _ [_] _ _ _
  refine ev_if_eqN (p2 := 23) rfl rfl (fun zz => absurd zz (by decide)) (fun _ => ?_)
  refine ev_aload rfl rfl ?_
  refine ev_getR (c := 13) (j := 0) rfl ?_ (hq := k_str n (i := i) (by omega))
  refine ev_iload rfl rfl ?_
  refine ev_iload rfl rfl ?_
  refine ev_aload rfl rfl ?_
  refine ev_callV rfl rfl rfl rfl (Nat.le_of_ble_eq_true rfl) (Nat.le_of_ble_eq_true rfl) ?_ (hq := k_str n (i := i) (by omega))
  refine c_J0_length_8abf5 hS i (by omega) ?_
  change am_ev _ _ _ _ [_, _, _, _] _ _ _
  refine ev_call rfl rfl ?_
  refine c_J1_indexOf_4cfef hS i hi v hv (fun r hr => ?_)
  change am_ev _ _ _ _ [_] _ _ _
  refine ev_goto (p2 := 36) rfl rfl ?_
  refine ev_iret rfl ?_
  exact hQ _ hr
theorem c_J0_indexOf_0f7a4 {d n : Nat} {mem : am_M} {Q : am_P} (hS : StrM mem) (i : Nat) (hi : i < 13) (v : Nat) (hv : v < 256) (hQ : ∀ r : Int32, IO i v r → Q (some (.int r)) (am_SK n) mem) : am_ex (d + 4) 244 [.ref (2 + i), .int (nI v)] (am_SK n) mem Q := by
  refine ex_in (c0 := kc_J0_indexOf_0f7a4) rfl (L := [some (.ref (2 + i)), some (.int (nI v))]) rfl ?_
  refine ev_aload rfl rfl ?_
  refine ev_iload rfl rfl ?_
  refine ev_iconst (x := nI 0) rfl rfl ?_
  refine ev_callV rfl rfl rfl rfl (Nat.le_of_ble_eq_true rfl) (Nat.le_of_ble_eq_true rfl) ?_ (hq := k_str n (i := i) (by omega))
  refine c_J0_indexOf_7cf53 hS i hi v hv (fun r hr => ?_)
  change am_ev _ _ _ _ [_] _ _ _
  refine ev_iret rfl ?_
  exact hQ _ hr
