/-! both sides: marks and copies on sheets -/
def O_mark (S Z : am_R) (s p v : Int32) : Int32 × Option Int32 := if P_sh s then (if S (nn s) = -1 then (S_NOTH, none) else if nI 0 ≤ p ∧ p ≤ Z (nn s) - 1 then (if S (nn s) = 0 then (if v = S_NONE then (S_KIND, none) else (nI 1, some v.toInt16.toInt32)) else (if v = S_NONE ∨ (-99999 ≤ v ∧ v ≤ nI 99999) then (nI 1, some v) else (S_BAD, none))) else (S_INDEX, none)) else (S_BAD, none)
theorem s3_ge {x : Int32} (h : x = -1 ∨ x = 0 ∨ x = 1) : 0 ≤ x ↔ ¬ x = -1 := by rcases h with rfl | rfl | rfl <;> decide
theorem s3_1 {x : Int32} (h : x = -1 ∨ x = 0 ∨ x = 1) (h1 : ¬ x = -1) (h0 : ¬ x = 0) : x = nI 1 := by
  rcases h with rfl | rfl | rfl
  · exact absurd rfl h1
  · exact absurd rfl h0
  · rfl
theorem c_X12_mark {d n : Nat} {mem : am_M} {Q : am_P} {S Z : am_R} (hS : mem 245 = S) (hZ : mem 246 = Z) (h3 : ∀ c, c < 4 → (S c = -1 ∨ S c = 0 ∨ S c = 1)) (hZ2 : ∀ c, c < 4 → isN (Z c) 25) (s p v : Int32) (hQ1 : (O_mark S Z s p v).2 = none → Q (some (.int (O_mark S Z s p v).1)) (am_SK n) mem) (hQ : ∀ w, (O_mark S Z s p v).2 = some w → Q (some (.int (O_mark S Z s p v).1)) (am_SK n) (am_up mem 247 (24 * nn s + nn p) w)) : am_ex (d + 3) 222 [.ref 221, .int s, .int p, .int v] (am_SK n) mem Q := by
  unfold O_mark at hQ hQ1
  refine ex_in (c0 := kc_X12_mark) rfl (L := [some (.ref 221), some (.int s), some (.int p), some (.int v)]) rfl ?_
  refine ev_iload rfl rfl ?_
  refine ev_call rfl rfl ?_
  refine c_X12_isSheet _ ?_
  change am_ev _ _ _ _ [_] _ _ _
  refine ev_if_neB (p2 := 10) rfl rfl (fun cnd4 => ?_) (fun cnd4 => ?_)
  · skip
    rw [if_pos cnd4] at hQ hQ1
    obtain ⟨ep, hp⟩ := am_rng (by decide) cnd4
    generalize nn s = c at ep hp hQ hQ1
    subst ep
    refine ev_aload rfl rfl ?_
    refine ev_getR (c := 12) (j := 35) rfl ?_ (hq := k_221 n)
    refine ev_iload rfl rfl ?_
    refine ev_ialdN rfl rfl ?_ (hq := k_245 n)
    rw [show mem 245 c = S c from congrFun hS _]
    refine ev_if_ge (p2 := 23) rfl rfl (fun cnd16 => ?_) (fun cnd16 => ?_)
    · skip
      refine ev_iload rfl rfl ?_
      refine ev_iconst (x := nI 0) rfl rfl ?_
      refine ev_aload rfl rfl ?_
      refine ev_getR (c := 12) (j := 36) rfl ?_ (hq := k_221 n)
      refine ev_iload rfl rfl ?_
      refine ev_ialdN rfl rfl ?_ (hq := k_246 n)
      rw [show mem 246 c = Z c from congrFun hZ _]
      refine ev_iconst (x := nI 1) rfl rfl ?_
      refine ev_isub rfl ?_
      refine ev_call rfl rfl ?_
      refine c_X12_in _ _ _ ?_
      change am_ev _ _ _ _ [_] _ _ _
      refine ev_if_neB (p2 := 43) rfl rfl (fun cnd36 => ?_) (fun cnd36 => ?_)
      · skip
        have hn1 := (s3_ge (h3 c (by omega))).mp cnd16
        have hP : nI 0 ≤ p ∧ p ≤ Z c - 1 := cnd36
        rw [if_neg hn1, if_pos hP] at hQ hQ1
        have hz := hZ2 c (by omega)
        obtain ⟨eq9, hq9⟩ := am_idx hz.1 (by have := hz.2; omega) hP
        have hz2 := hz.2
        clear cnd36 hP
        generalize nn p = q at eq9 hq9 hQ hQ1
        subst eq9
        refine ev_aload rfl rfl ?_
        refine ev_getR (c := 12) (j := 35) rfl ?_ (hq := k_221 n)
        refine ev_iload rfl rfl ?_
        refine ev_ialdN rfl rfl ?_ (hq := k_245 n)
        rw [show mem 245 c = S c from congrFun hS _]
        refine ev_if_ne (p2 := 62) rfl rfl (fun cnd49 => ?_) (fun cnd49 => ?_)
        · skip
          refine ev_aload rfl rfl ?_
          refine ev_getR (c := 12) (j := 35) rfl ?_ (hq := k_221 n)
          refine ev_iload rfl rfl ?_
          refine ev_ialdN rfl rfl ?_ (hq := k_245 n)
          rw [show mem 245 c = S c from congrFun hS _]
          refine ev_iconst (x := nI 1) rfl rfl ?_
          refine ev_icmp_ne (p2 := 95) rfl rfl (fun cnd69 => ?_) (fun cnd69 => ?_)
          · skip
            refine ev_aload rfl rfl ?_
            refine ev_getR (c := 12) (j := 37) rfl ?_ (hq := k_221 n)
            refine ev_iconst (x := nI 24) rfl rfl ?_
            refine ev_iload rfl rfl ?_
            refine ev_imulN rfl ?_
            refine ev_iload rfl rfl ?_
            refine ev_iaddN rfl ?_
            refine ev_aload rfl rfl ?_
            refine ev_getR (c := 12) (j := 35) rfl ?_ (hq := k_221 n)
            refine ev_iload rfl rfl ?_
            refine ev_ialdN rfl rfl ?_ (hq := k_245 n)
            rw [show mem 245 c = S c from congrFun hS _]
            refine ev_if_ne (p2 := 119) rfl rfl (fun cnd111 => ?_) (fun cnd111 => ?_)
            · skip
              refine ev_iload rfl rfl ?_
              refine ev_iastN rfl rfl ?_ (hq := k_247 n)
              refine ev_iconst (x := nI 1) rfl rfl ?_
              refine ev_iret rfl ?_
              first
              | exact absurd cnd111 cnd49
              | exact absurd cnd49 cnd111
              | exact absurd (s3_1 (h3 c (by omega)) hn1 cnd49) cnd69
              | exact absurd cnd49 (by rw [cnd69]; decide)
              | (rw [if_pos cnd111, if_neg (show ¬ v = S_NONE from cnd56)] at hQ; exact hQ _ rfl)
              | (rw [if_neg cnd111, if_pos (Or.inl (show v = S_NONE from cnd76))] at hQ; exact hQ _ rfl)
              | (rw [if_neg cnd111, if_pos (Or.inr cnd89)] at hQ; exact hQ _ rfl)
            · skip
              refine ev_iload rfl rfl ?_
              refine ev_i2s rfl ?_
              refine ev_goto (p2 := 120) rfl rfl ?_
              refine ev_iastN rfl rfl ?_ (hq := k_247 n)
              refine ev_iconst (x := nI 1) rfl rfl ?_
              refine ev_iret rfl ?_
              first
              | exact absurd cnd111 cnd49
              | exact absurd cnd49 cnd111
              | exact absurd (s3_1 (h3 c (by omega)) hn1 cnd49) cnd69
              | exact absurd cnd49 (by rw [cnd69]; decide)
              | (rw [if_pos cnd111, if_neg (show ¬ v = S_NONE from cnd56)] at hQ; exact hQ _ rfl)
              | (rw [if_neg cnd111, if_pos (Or.inl (show v = S_NONE from cnd76))] at hQ; exact hQ _ rfl)
              | (rw [if_neg cnd111, if_pos (Or.inr cnd89)] at hQ; exact hQ _ rfl)
          · skip
            refine ev_iload rfl rfl ?_
            refine ev_iconst (x := (-1000000005)) rfl rfl ?_
            refine ev_icmp_eq (p2 := 95) rfl rfl (fun cnd76 => ?_) (fun cnd76 => ?_)
            · skip
              refine ev_aload rfl rfl ?_
              refine ev_getR (c := 12) (j := 37) rfl ?_ (hq := k_221 n)
              refine ev_iconst (x := nI 24) rfl rfl ?_
              refine ev_iload rfl rfl ?_
              refine ev_imulN rfl ?_
              refine ev_iload rfl rfl ?_
              refine ev_iaddN rfl ?_
              refine ev_aload rfl rfl ?_
              refine ev_getR (c := 12) (j := 35) rfl ?_ (hq := k_221 n)
              refine ev_iload rfl rfl ?_
              refine ev_ialdN rfl rfl ?_ (hq := k_245 n)
              rw [show mem 245 c = S c from congrFun hS _]
              refine ev_if_ne (p2 := 119) rfl rfl (fun cnd111 => ?_) (fun cnd111 => ?_)
              · skip
                refine ev_iload rfl rfl ?_
                refine ev_iastN rfl rfl ?_ (hq := k_247 n)
                refine ev_iconst (x := nI 1) rfl rfl ?_
                refine ev_iret rfl ?_
                first
                | exact absurd cnd111 cnd49
                | exact absurd cnd49 cnd111
                | exact absurd (s3_1 (h3 c (by omega)) hn1 cnd49) cnd69
                | exact absurd cnd49 (by rw [cnd69]; decide)
                | (rw [if_pos cnd111, if_neg (show ¬ v = S_NONE from cnd56)] at hQ; exact hQ _ rfl)
                | (rw [if_neg cnd111, if_pos (Or.inl (show v = S_NONE from cnd76))] at hQ; exact hQ _ rfl)
                | (rw [if_neg cnd111, if_pos (Or.inr cnd89)] at hQ; exact hQ _ rfl)
              · skip
                refine ev_iload rfl rfl ?_
                refine ev_i2s rfl ?_
                refine ev_goto (p2 := 120) rfl rfl ?_
                refine ev_iastN rfl rfl ?_ (hq := k_247 n)
                refine ev_iconst (x := nI 1) rfl rfl ?_
                refine ev_iret rfl ?_
                first
                | exact absurd cnd111 cnd49
                | exact absurd cnd49 cnd111
                | exact absurd (s3_1 (h3 c (by omega)) hn1 cnd49) cnd69
                | exact absurd cnd49 (by rw [cnd69]; decide)
                | (rw [if_pos cnd111, if_neg (show ¬ v = S_NONE from cnd56)] at hQ; exact hQ _ rfl)
                | (rw [if_neg cnd111, if_pos (Or.inl (show v = S_NONE from cnd76))] at hQ; exact hQ _ rfl)
                | (rw [if_neg cnd111, if_pos (Or.inr cnd89)] at hQ; exact hQ _ rfl)
            · skip
              refine ev_iload rfl rfl ?_
              refine ev_iconst (x := (-99999)) rfl rfl ?_
              refine ev_iconst (x := nI 99999) rfl rfl ?_
              refine ev_call rfl rfl ?_
              refine c_X12_in _ _ _ ?_
              change am_ev _ _ _ _ [_] _ _ _
              refine ev_if_neB (p2 := 95) rfl rfl (fun cnd89 => ?_) (fun cnd89 => ?_)
              · skip
                refine ev_aload rfl rfl ?_
                refine ev_getR (c := 12) (j := 37) rfl ?_ (hq := k_221 n)
                refine ev_iconst (x := nI 24) rfl rfl ?_
                refine ev_iload rfl rfl ?_
                refine ev_imulN rfl ?_
                refine ev_iload rfl rfl ?_
                refine ev_iaddN rfl ?_
                refine ev_aload rfl rfl ?_
                refine ev_getR (c := 12) (j := 35) rfl ?_ (hq := k_221 n)
                refine ev_iload rfl rfl ?_
                refine ev_ialdN rfl rfl ?_ (hq := k_245 n)
                rw [show mem 245 c = S c from congrFun hS _]
                refine ev_if_ne (p2 := 119) rfl rfl (fun cnd111 => ?_) (fun cnd111 => ?_)
                · skip
                  refine ev_iload rfl rfl ?_
                  refine ev_iastN rfl rfl ?_ (hq := k_247 n)
                  refine ev_iconst (x := nI 1) rfl rfl ?_
                  refine ev_iret rfl ?_
                  first
                  | exact absurd cnd111 cnd49
                  | exact absurd cnd49 cnd111
                  | exact absurd (s3_1 (h3 c (by omega)) hn1 cnd49) cnd69
                  | exact absurd cnd49 (by rw [cnd69]; decide)
                  | (rw [if_pos cnd111, if_neg (show ¬ v = S_NONE from cnd56)] at hQ; exact hQ _ rfl)
                  | (rw [if_neg cnd111, if_pos (Or.inl (show v = S_NONE from cnd76))] at hQ; exact hQ _ rfl)
                  | (rw [if_neg cnd111, if_pos (Or.inr cnd89)] at hQ; exact hQ _ rfl)
                · skip
                  refine ev_iload rfl rfl ?_
                  refine ev_i2s rfl ?_
                  refine ev_goto (p2 := 120) rfl rfl ?_
                  refine ev_iastN rfl rfl ?_ (hq := k_247 n)
                  refine ev_iconst (x := nI 1) rfl rfl ?_
                  refine ev_iret rfl ?_
                  first
                  | exact absurd cnd111 cnd49
                  | exact absurd cnd49 cnd111
                  | exact absurd (s3_1 (h3 c (by omega)) hn1 cnd49) cnd69
                  | exact absurd cnd49 (by rw [cnd69]; decide)
                  | (rw [if_pos cnd111, if_neg (show ¬ v = S_NONE from cnd56)] at hQ; exact hQ _ rfl)
                  | (rw [if_neg cnd111, if_pos (Or.inl (show v = S_NONE from cnd76))] at hQ; exact hQ _ rfl)
                  | (rw [if_neg cnd111, if_pos (Or.inr cnd89)] at hQ; exact hQ _ rfl)
              · skip
                refine ev_iconst (x := (-1000000001)) rfl rfl ?_
                refine ev_iret rfl ?_
                rw [if_neg (by rw [cnd69]; decide), if_neg (fun z => z.elim cnd76 cnd89)] at hQ1; exact hQ1 rfl
        · skip
          refine ev_iload rfl rfl ?_
          refine ev_iconst (x := (-1000000005)) rfl rfl ?_
          refine ev_icmp_ne (p2 := 62) rfl rfl (fun cnd56 => ?_) (fun cnd56 => ?_)
          · skip
            refine ev_aload rfl rfl ?_
            refine ev_getR (c := 12) (j := 35) rfl ?_ (hq := k_221 n)
            refine ev_iload rfl rfl ?_
            refine ev_ialdN rfl rfl ?_ (hq := k_245 n)
            rw [show mem 245 c = S c from congrFun hS _]
            refine ev_iconst (x := nI 1) rfl rfl ?_
            refine ev_icmp_ne (p2 := 95) rfl rfl (fun cnd69 => ?_) (fun cnd69 => ?_)
            · skip
              refine ev_aload rfl rfl ?_
              refine ev_getR (c := 12) (j := 37) rfl ?_ (hq := k_221 n)
              refine ev_iconst (x := nI 24) rfl rfl ?_
              refine ev_iload rfl rfl ?_
              refine ev_imulN rfl ?_
              refine ev_iload rfl rfl ?_
              refine ev_iaddN rfl ?_
              refine ev_aload rfl rfl ?_
              refine ev_getR (c := 12) (j := 35) rfl ?_ (hq := k_221 n)
              refine ev_iload rfl rfl ?_
              refine ev_ialdN rfl rfl ?_ (hq := k_245 n)
              rw [show mem 245 c = S c from congrFun hS _]
              refine ev_if_ne (p2 := 119) rfl rfl (fun cnd111 => ?_) (fun cnd111 => ?_)
              · skip
                refine ev_iload rfl rfl ?_
                refine ev_iastN rfl rfl ?_ (hq := k_247 n)
                refine ev_iconst (x := nI 1) rfl rfl ?_
                refine ev_iret rfl ?_
                first
                | exact absurd cnd111 cnd49
                | exact absurd cnd49 cnd111
                | exact absurd (s3_1 (h3 c (by omega)) hn1 cnd49) cnd69
                | exact absurd cnd49 (by rw [cnd69]; decide)
                | (rw [if_pos cnd111, if_neg (show ¬ v = S_NONE from cnd56)] at hQ; exact hQ _ rfl)
                | (rw [if_neg cnd111, if_pos (Or.inl (show v = S_NONE from cnd76))] at hQ; exact hQ _ rfl)
                | (rw [if_neg cnd111, if_pos (Or.inr cnd89)] at hQ; exact hQ _ rfl)
              · skip
                refine ev_iload rfl rfl ?_
                refine ev_i2s rfl ?_
                refine ev_goto (p2 := 120) rfl rfl ?_
                refine ev_iastN rfl rfl ?_ (hq := k_247 n)
                refine ev_iconst (x := nI 1) rfl rfl ?_
                refine ev_iret rfl ?_
                first
                | exact absurd cnd111 cnd49
                | exact absurd cnd49 cnd111
                | exact absurd (s3_1 (h3 c (by omega)) hn1 cnd49) cnd69
                | exact absurd cnd49 (by rw [cnd69]; decide)
                | (rw [if_pos cnd111, if_neg (show ¬ v = S_NONE from cnd56)] at hQ; exact hQ _ rfl)
                | (rw [if_neg cnd111, if_pos (Or.inl (show v = S_NONE from cnd76))] at hQ; exact hQ _ rfl)
                | (rw [if_neg cnd111, if_pos (Or.inr cnd89)] at hQ; exact hQ _ rfl)
            · skip
              refine ev_iload rfl rfl ?_
              refine ev_iconst (x := (-1000000005)) rfl rfl ?_
              refine ev_icmp_eq (p2 := 95) rfl rfl (fun cnd76 => ?_) (fun cnd76 => ?_)
              · skip
                refine ev_aload rfl rfl ?_
                refine ev_getR (c := 12) (j := 37) rfl ?_ (hq := k_221 n)
                refine ev_iconst (x := nI 24) rfl rfl ?_
                refine ev_iload rfl rfl ?_
                refine ev_imulN rfl ?_
                refine ev_iload rfl rfl ?_
                refine ev_iaddN rfl ?_
                refine ev_aload rfl rfl ?_
                refine ev_getR (c := 12) (j := 35) rfl ?_ (hq := k_221 n)
                refine ev_iload rfl rfl ?_
                refine ev_ialdN rfl rfl ?_ (hq := k_245 n)
                rw [show mem 245 c = S c from congrFun hS _]
                refine ev_if_ne (p2 := 119) rfl rfl (fun cnd111 => ?_) (fun cnd111 => ?_)
                · skip
                  refine ev_iload rfl rfl ?_
                  refine ev_iastN rfl rfl ?_ (hq := k_247 n)
                  refine ev_iconst (x := nI 1) rfl rfl ?_
                  refine ev_iret rfl ?_
                  first
                  | exact absurd cnd111 cnd49
                  | exact absurd cnd49 cnd111
                  | exact absurd (s3_1 (h3 c (by omega)) hn1 cnd49) cnd69
                  | exact absurd cnd49 (by rw [cnd69]; decide)
                  | (rw [if_pos cnd111, if_neg (show ¬ v = S_NONE from cnd56)] at hQ; exact hQ _ rfl)
                  | (rw [if_neg cnd111, if_pos (Or.inl (show v = S_NONE from cnd76))] at hQ; exact hQ _ rfl)
                  | (rw [if_neg cnd111, if_pos (Or.inr cnd89)] at hQ; exact hQ _ rfl)
                · skip
                  refine ev_iload rfl rfl ?_
                  refine ev_i2s rfl ?_
                  refine ev_goto (p2 := 120) rfl rfl ?_
                  refine ev_iastN rfl rfl ?_ (hq := k_247 n)
                  refine ev_iconst (x := nI 1) rfl rfl ?_
                  refine ev_iret rfl ?_
                  first
                  | exact absurd cnd111 cnd49
                  | exact absurd cnd49 cnd111
                  | exact absurd (s3_1 (h3 c (by omega)) hn1 cnd49) cnd69
                  | exact absurd cnd49 (by rw [cnd69]; decide)
                  | (rw [if_pos cnd111, if_neg (show ¬ v = S_NONE from cnd56)] at hQ; exact hQ _ rfl)
                  | (rw [if_neg cnd111, if_pos (Or.inl (show v = S_NONE from cnd76))] at hQ; exact hQ _ rfl)
                  | (rw [if_neg cnd111, if_pos (Or.inr cnd89)] at hQ; exact hQ _ rfl)
              · skip
                refine ev_iload rfl rfl ?_
                refine ev_iconst (x := (-99999)) rfl rfl ?_
                refine ev_iconst (x := nI 99999) rfl rfl ?_
                refine ev_call rfl rfl ?_
                refine c_X12_in _ _ _ ?_
                change am_ev _ _ _ _ [_] _ _ _
                refine ev_if_neB (p2 := 95) rfl rfl (fun cnd89 => ?_) (fun cnd89 => ?_)
                · skip
                  refine ev_aload rfl rfl ?_
                  refine ev_getR (c := 12) (j := 37) rfl ?_ (hq := k_221 n)
                  refine ev_iconst (x := nI 24) rfl rfl ?_
                  refine ev_iload rfl rfl ?_
                  refine ev_imulN rfl ?_
                  refine ev_iload rfl rfl ?_
                  refine ev_iaddN rfl ?_
                  refine ev_aload rfl rfl ?_
                  refine ev_getR (c := 12) (j := 35) rfl ?_ (hq := k_221 n)
                  refine ev_iload rfl rfl ?_
                  refine ev_ialdN rfl rfl ?_ (hq := k_245 n)
                  rw [show mem 245 c = S c from congrFun hS _]
                  refine ev_if_ne (p2 := 119) rfl rfl (fun cnd111 => ?_) (fun cnd111 => ?_)
                  · skip
                    refine ev_iload rfl rfl ?_
                    refine ev_iastN rfl rfl ?_ (hq := k_247 n)
                    refine ev_iconst (x := nI 1) rfl rfl ?_
                    refine ev_iret rfl ?_
                    first
                    | exact absurd cnd111 cnd49
                    | exact absurd cnd49 cnd111
                    | exact absurd (s3_1 (h3 c (by omega)) hn1 cnd49) cnd69
                    | exact absurd cnd49 (by rw [cnd69]; decide)
                    | (rw [if_pos cnd111, if_neg (show ¬ v = S_NONE from cnd56)] at hQ; exact hQ _ rfl)
                    | (rw [if_neg cnd111, if_pos (Or.inl (show v = S_NONE from cnd76))] at hQ; exact hQ _ rfl)
                    | (rw [if_neg cnd111, if_pos (Or.inr cnd89)] at hQ; exact hQ _ rfl)
                  · skip
                    refine ev_iload rfl rfl ?_
                    refine ev_i2s rfl ?_
                    refine ev_goto (p2 := 120) rfl rfl ?_
                    refine ev_iastN rfl rfl ?_ (hq := k_247 n)
                    refine ev_iconst (x := nI 1) rfl rfl ?_
                    refine ev_iret rfl ?_
                    first
                    | exact absurd cnd111 cnd49
                    | exact absurd cnd49 cnd111
                    | exact absurd (s3_1 (h3 c (by omega)) hn1 cnd49) cnd69
                    | exact absurd cnd49 (by rw [cnd69]; decide)
                    | (rw [if_pos cnd111, if_neg (show ¬ v = S_NONE from cnd56)] at hQ; exact hQ _ rfl)
                    | (rw [if_neg cnd111, if_pos (Or.inl (show v = S_NONE from cnd76))] at hQ; exact hQ _ rfl)
                    | (rw [if_neg cnd111, if_pos (Or.inr cnd89)] at hQ; exact hQ _ rfl)
                · skip
                  refine ev_iconst (x := (-1000000001)) rfl rfl ?_
                  refine ev_iret rfl ?_
                  rw [if_neg (by rw [cnd69]; decide), if_neg (fun z => z.elim cnd76 cnd89)] at hQ1; exact hQ1 rfl
          · skip
            refine ev_iconst (x := (-1000000012)) rfl rfl ?_
            refine ev_iret rfl ?_
            rw [if_pos cnd49, if_pos (show v = S_NONE from cnd56)] at hQ1; exact hQ1 rfl
      · skip
        refine ev_iconst (x := (-1000000013)) rfl rfl ?_
        refine ev_iret rfl ?_
        have hn1 := (s3_ge (h3 c (by omega))).mp cnd16
        rw [if_neg hn1, if_neg (show ¬ (nI 0 ≤ p ∧ p ≤ Z c - 1) from cnd36)] at hQ1; exact hQ1 rfl
    · skip
      refine ev_iconst (x := (-1000000011)) rfl rfl ?_
      refine ev_iret rfl ?_
      rw [if_pos (Decidable.not_not.mp (fun z => cnd16 ((s3_ge (h3 c (by omega))).mpr z)))] at hQ1; exact hQ1 rfl
  · skip
    refine ev_iconst (x := (-1000000001)) rfl rfl ?_
    refine ev_iret rfl ?_
    rw [if_neg cnd4] at hQ1; exact hQ1 rfl
theorem c_X6_isMissing {d n : Nat} {mem : am_M} {Q : am_P} (c : Nat) (hc : c < 4) {x : Int32} (e : mem (198 + 2 * c) 0 = x) (hQ : Q (some (.int (am_b (x = -1)))) (am_SK n) mem) : am_ex (d + 1) 41 [.ref (198 + 2 * c)] (am_SK n) mem Q := by
  refine ex_in (c0 := kc_X6_isMissing) rfl (L := [some (.ref (198 + 2 * c))]) rfl ?_
  refine ev_aload rfl rfl ?_
  refine ev_getI (c := 6) (j := 0) rfl ?_ (hq := ks_sheet n (by omega))
  rw [e]
  refine ev_iconst (x := (-1)) rfl rfl ?_
  refine ev_icmp_ne (p2 := 12) rfl rfl (fun cnd5 => ?_) (fun cnd5 => ?_)
  · skip
    refine ev_iconst (x := nI 0) rfl rfl ?_
    refine ev_zret rfl ?_
    first
    | (rw [am_bt cnd5] at hQ; exact hQ)
    | (rw [am_bf cnd5] at hQ; exact hQ)
  · skip
    refine ev_iconst (x := nI 1) rfl rfl ?_
    refine ev_goto (p2 := 13) rfl rfl ?_
    refine ev_zret rfl ?_
    first
    | (rw [am_bt cnd5] at hQ; exact hQ)
    | (rw [am_bf cnd5] at hQ; exact hQ)
theorem c_X6_hasPlace {d n : Nat} {mem : am_M} {Q : am_P} (c : Nat) (hc : c < 4) (z : Nat) (hz : z < 100) (e : mem (198 + 2 * c) 1 = nI z) (p : Int32) (hQ : Q (some (.int (am_b (nI 0 ≤ p ∧ p ≤ nI z - 1)))) (am_SK n) mem) : am_ex (d + 1) 42 [.ref (198 + 2 * c), .int p] (am_SK n) mem Q := by
  refine ex_in (c0 := kc_X6_hasPlace) rfl (L := [some (.ref (198 + 2 * c)), some (.int p)]) rfl ?_
  refine ev_iload rfl rfl ?_
  refine ev_if_lt (p2 := 16) rfl rfl (fun cnd1 => ?_) (fun cnd1 => ?_)
  · skip
    refine ev_iconst (x := nI 0) rfl rfl ?_
    refine ev_zret rfl ?_
    refine am_leaf hQ ?_
    rw [am_b_eq (and_congr Iff.rfl (am_pred (x := nI z) (p := p) (m := z) rfl (by omega)))]
    simp only [am_b, Int32.lt_iff_toInt_lt, Int32.le_iff_toInt_le, show (nI 0).toInt = 0 from rfl, show (0 : Int32).toInt = 0 from rfl] at *
    split <;> first | rfl | (exfalso; omega)
  · skip
    refine ev_iload rfl rfl ?_
    refine ev_aload rfl rfl ?_
    refine ev_getI (c := 6) (j := 1) rfl ?_ (hq := ks_sheet n (by omega))
    rw [e]
    refine ev_icmp_ge (p2 := 16) rfl rfl (fun cnd9 => ?_) (fun cnd9 => ?_)
    · skip
      refine ev_iconst (x := nI 0) rfl rfl ?_
      refine ev_zret rfl ?_
      refine am_leaf hQ ?_
      rw [am_b_eq (and_congr Iff.rfl (am_pred (x := nI z) (p := p) (m := z) rfl (by omega)))]
      simp only [am_b, Int32.lt_iff_toInt_lt, Int32.le_iff_toInt_le, show (nI 0).toInt = 0 from rfl, show (0 : Int32).toInt = 0 from rfl] at *
      split <;> first | rfl | (exfalso; omega)
    · skip
      refine ev_iconst (x := nI 1) rfl rfl ?_
      refine ev_goto (p2 := 17) rfl rfl ?_
      refine ev_zret rfl ?_
      refine am_leaf hQ ?_
      rw [am_b_eq (and_congr Iff.rfl (am_pred (x := nI z) (p := p) (m := z) rfl (by omega)))]
      simp only [am_b, Int32.lt_iff_toInt_lt, Int32.le_iff_toInt_le, show (nI 0).toInt = 0 from rfl, show (0 : Int32).toInt = 0 from rfl] at *
      split <;> first | rfl | (exfalso; omega)
theorem c_X6_isNumber {d n : Nat} {mem : am_M} {Q : am_P} (c : Nat) (hc : c < 4) (q : Nat) (hq : q < 24) (hQ : Q (some (.int (am_b (¬ mem (199 + 2 * c) q = S_NONE)))) (am_SK n) mem) : am_ex (d + 1) 44 [.ref (198 + 2 * c), .int (nI q)] (am_SK n) mem Q := by
  refine ex_in (c0 := kc_X6_isNumber) rfl (L := [some (.ref (198 + 2 * c)), some (.int (nI q))]) rfl ?_
  refine ev_aload rfl rfl ?_
  refine ev_getR (c := 6) (j := 2) rfl ?_ (hq := ks_sheet n (by omega))
  refine ev_iload rfl rfl ?_
  refine ev_ialdN rfl rfl ?_ (hq := ks_vals n (by omega))
  refine ev_iconst (x := (-1000000005)) rfl rfl ?_
  refine ev_icmp_eq (p2 := 15) rfl rfl (fun cnd8 => ?_) (fun cnd8 => ?_)
  · skip
    refine ev_iconst (x := nI 0) rfl rfl ?_
    refine ev_zret rfl ?_
    first
    | (rw [am_bt (show ¬ mem (199 + 2 * c) q = S_NONE from cnd8)] at hQ; exact hQ)
    | (rw [am_bf (fun z => z cnd8)] at hQ; exact hQ)
  · skip
    refine ev_iconst (x := nI 1) rfl rfl ?_
    refine ev_goto (p2 := 16) rfl rfl ?_
    refine ev_zret rfl ?_
    first
    | (rw [am_bt (show ¬ mem (199 + 2 * c) q = S_NONE from cnd8)] at hQ; exact hQ)
    | (rw [am_bf (fun z => z cnd8)] at hQ; exact hQ)
abbrev P_cp (p m z : Int32) : Prop := 0 ≤ p ∧ 0 ≤ m ∧ p ≤ z - m
theorem P_cp_n {p m z : Int32} (hz : isN z 25) (h : P_cp p m z) : p = nI (nn p) ∧ m = nI (nn m) ∧ nn p + nn m ≤ nn z := by
  obtain ⟨h1, h2, h3⟩ := h
  obtain ⟨e1, b1⟩ := nI_ge0 h1
  obtain ⟨e2, b2⟩ := nI_ge0 h2
  refine ⟨e1, e2, ?_⟩
  have ez : z.toInt = (nn z : Int) := by rw [hz.1]; rw [nn_nI (by have := hz.2; omega)]; exact nI_toInt (by have := hz.2; omega)
  have ep : p.toInt = (nn p : Int) := by rw [e1]; rw [nn_nI b1]; exact nI_toInt b1
  have em : m.toInt = (nn m : Int) := by rw [e2]; rw [nn_nI b2]; exact nI_toInt b2
  have hz2 := hz.2
  rw [Int32.le_iff_toInt_le, am_sub_toInt (by omega) (by omega)] at h3
  omega
theorem hp_iff {p m : Int32} {z : Nat} (hz : z < 25) : (¬ p < 0 ∧ ¬ m < 0 ∧ p ≤ nI z ∧ m ≤ nI z - p) ↔ P_cp p m (nI z) := by
  have ez : (nI z).toInt = (z : Int) := nI_toInt (by omega)
  have e0 : (0 : Int32).toInt = 0 := rfl
  have hm := Int32.toInt_lt m
  have hp := Int32.toInt_lt p
  constructor
  · rintro ⟨a, b, c, e⟩
    refine ⟨le_nlt a, le_nlt b, ?_⟩
    rw [Int32.lt_iff_toInt_lt] at a b
    rw [Int32.le_iff_toInt_le] at c e ⊢
    rw [am_sub_toInt (by omega) (by omega)] at e ⊢
    omega
  · rintro ⟨a, b, c⟩
    refine ⟨nlt_le a, nlt_le b, ?_, ?_⟩
    · rw [Int32.le_iff_toInt_le] at a b c ⊢
      rw [am_sub_toInt (by omega) (by omega)] at c
      omega
    · rw [Int32.le_iff_toInt_le] at a b c ⊢
      rw [am_sub_toInt (by omega) (by omega)] at c ⊢
      omega
theorem c_X6_hasPlaces {d n : Nat} {mem : am_M} {Q : am_P} (c : Nat) (hc : c < 4) (z : Nat) (hz : z < 25) (e : mem (198 + 2 * c) 1 = nI z) (p m : Int32) (hQ : Q (some (.int (am_b (P_cp p m (nI z))))) (am_SK n) mem) : am_ex (d + 1) 43 [.ref (198 + 2 * c), .int p, .int m] (am_SK n) mem Q := by
  refine ex_in (c0 := kc_X6_hasPlaces) rfl (L := [some (.ref (198 + 2 * c)), some (.int p), some (.int m)]) rfl ?_
  refine ev_iload rfl rfl ?_
  refine ev_if_lt (p2 := 30) rfl rfl (fun cnd1 => ?_) (fun cnd1 => ?_)
  · skip
    refine ev_iconst (x := nI 0) rfl rfl ?_
    refine ev_zret rfl ?_
    rw [am_b_eq (hp_iff hz).symm] at hQ
    first
    | (rw [am_bt (And.intro cnd1 (And.intro cnd5 (And.intro (le_nlt cnd13) (le_nlt cnd23))))] at hQ; exact hQ)
    | (rw [am_bf (by
        rintro ⟨z1, z2, z3, z4⟩
        first | exact z1 cnd1 | exact z2 cnd5 | exact nlt_le z3 cnd13 | exact nlt_le z4 cnd23)] at hQ; exact hQ)
  · skip
    refine ev_iload rfl rfl ?_
    refine ev_if_lt (p2 := 30) rfl rfl (fun cnd5 => ?_) (fun cnd5 => ?_)
    · skip
      refine ev_iconst (x := nI 0) rfl rfl ?_
      refine ev_zret rfl ?_
      rw [am_b_eq (hp_iff hz).symm] at hQ
      first
      | (rw [am_bt (And.intro cnd1 (And.intro cnd5 (And.intro (le_nlt cnd13) (le_nlt cnd23))))] at hQ; exact hQ)
      | (rw [am_bf (by
          rintro ⟨z1, z2, z3, z4⟩
          first | exact z1 cnd1 | exact z2 cnd5 | exact nlt_le z3 cnd13 | exact nlt_le z4 cnd23)] at hQ; exact hQ)
    · skip
      refine ev_iload rfl rfl ?_
      refine ev_aload rfl rfl ?_
      refine ev_getI (c := 6) (j := 1) rfl ?_ (hq := ks_sheet n (by omega))
      rw [e]
      refine ev_icmp_gt (p2 := 30) rfl rfl (fun cnd13 => ?_) (fun cnd13 => ?_)
      · skip
        refine ev_iconst (x := nI 0) rfl rfl ?_
        refine ev_zret rfl ?_
        rw [am_b_eq (hp_iff hz).symm] at hQ
        first
        | (rw [am_bt (And.intro cnd1 (And.intro cnd5 (And.intro (le_nlt cnd13) (le_nlt cnd23))))] at hQ; exact hQ)
        | (rw [am_bf (by
            rintro ⟨z1, z2, z3, z4⟩
            first | exact z1 cnd1 | exact z2 cnd5 | exact nlt_le z3 cnd13 | exact nlt_le z4 cnd23)] at hQ; exact hQ)
      · skip
        refine ev_iload rfl rfl ?_
        refine ev_aload rfl rfl ?_
        refine ev_getI (c := 6) (j := 1) rfl ?_ (hq := ks_sheet n (by omega))
        rw [e]
        refine ev_iload rfl rfl ?_
        refine ev_isub rfl ?_
        refine ev_icmp_gt (p2 := 30) rfl rfl (fun cnd23 => ?_) (fun cnd23 => ?_)
        · skip
          refine ev_iconst (x := nI 0) rfl rfl ?_
          refine ev_zret rfl ?_
          rw [am_b_eq (hp_iff hz).symm] at hQ
          first
          | (rw [am_bt (And.intro cnd1 (And.intro cnd5 (And.intro (le_nlt cnd13) (le_nlt cnd23))))] at hQ; exact hQ)
          | (rw [am_bf (by
              rintro ⟨z1, z2, z3, z4⟩
              first | exact z1 cnd1 | exact z2 cnd5 | exact nlt_le z3 cnd13 | exact nlt_le z4 cnd23)] at hQ; exact hQ)
        · skip
          refine ev_iconst (x := nI 1) rfl rfl ?_
          refine ev_goto (p2 := 31) rfl rfl ?_
          refine ev_zret rfl ?_
          rw [am_b_eq (hp_iff hz).symm] at hQ
          first
          | (rw [am_bt (And.intro cnd1 (And.intro cnd5 (And.intro (le_nlt cnd13) (le_nlt cnd23))))] at hQ; exact hQ)
          | (rw [am_bf (by
              rintro ⟨z1, z2, z3, z4⟩
              first | exact z1 cnd1 | exact z2 cnd5 | exact nlt_le z3 cnd13 | exact nlt_le z4 cnd23)] at hQ; exact hQ)
theorem c_X11_mark {d n : Nat} {mem : am_M} {Q : am_P} (hsh : I_sh mem) (s p v : Int32) (hQ1 : (O_mark (mem 245) (mem 246) s p v).2 = none → Q (some (.int (O_mark (mem 245) (mem 246) s p v).1)) (am_SK n) mem) (hQ : ∀ w, (O_mark (mem 245) (mem 246) s p v).2 = some w → Q (some (.int (O_mark (mem 245) (mem 246) s p v).1)) (am_SK n) (am_up mem (199 + 2 * nn s) (nn p) w)) : am_ex (d + 2) 114 [.ref 29, .int s, .int p, .int v] (am_SK n) mem Q := by
  unfold O_mark at hQ hQ1
  refine ex_in (c0 := kc_X11_mark) rfl (L := [some (.ref 29), some (.int s), some (.int p), some (.int v), none]) rfl ?_
  refine ev_iload rfl rfl ?_
  refine ev_call rfl rfl ?_
  refine c_X11_isSheet _ ?_
  change am_ev _ _ _ _ [_] _ _ _
  refine ev_if_neB (p2 := 10) rfl rfl (fun cnd4 => ?_) (fun cnd4 => ?_)
  · skip
    rw [if_pos cnd4] at hQ hQ1
    obtain ⟨ep, hp⟩ := am_rng (by decide) cnd4
    generalize nn s = c at ep hp hQ hQ1
    subst ep
    obtain ⟨⟨eS, hS3⟩, ⟨eZ, e9, g9⟩, hcells⟩ := hsh c (by omega)
    generalize hzz : nn (mem 246 c) = z at e9 g9
    rw [e9] at eZ
    refine ev_aload rfl rfl ?_
    refine ev_getR (c := 11) (j := 8) rfl ?_ (hq := k_29 n)
    refine ev_iload rfl rfl ?_
    refine ev_aldN rfl rfl ?_ (kr_sheet (by omega)) (hq := k_193 n)
    refine ev_astore rfl rfl (Nat.le_of_ble_eq_true rfl) ?_
    refine ev_aload rfl rfl ?_
    refine ev_callV rfl rfl rfl rfl (Nat.le_of_ble_eq_true rfl) (Nat.le_of_ble_eq_true rfl) ?_ (hq := ks_sheet n (by omega))
    refine c_X6_isMissing c (by omega) eS ?_
    change am_ev _ _ _ _ [_] _ _ _
    refine ev_if_eqB (p2 := 30) rfl rfl (fun cnd23 => ?_) (fun cnd23 => ?_)
    · skip
      refine ev_aload rfl rfl ?_
      refine ev_iload rfl rfl ?_
      refine ev_callV rfl rfl rfl rfl (Nat.le_of_ble_eq_true rfl) (Nat.le_of_ble_eq_true rfl) ?_ (hq := ks_sheet n (by omega))
      refine c_X6_hasPlace c (by omega) z (by omega) eZ _ ?_
      change am_ev _ _ _ _ [_] _ _ _
      refine ev_if_neB (p2 := 43) rfl rfl (fun cnd36 => ?_) (fun cnd36 => ?_)
      · skip
        rw [if_neg cnd23, e9, if_pos cnd36] at hQ hQ1
        obtain ⟨eq9, hq9⟩ := am_idx (x := nI z) rfl (by omega) cnd36
        clear cnd36
        generalize nn p = q at eq9 hq9 hQ hQ1
        subst eq9
        refine ev_aload rfl rfl ?_
        refine ev_getI (c := 6) (j := 0) rfl ?_ (hq := ks_sheet n (by omega))
        rw [eS]
        refine ev_if_ne (p2 := 72) rfl rfl (fun cnd48 => ?_) (fun cnd48 => ?_)
        · skip
          refine ev_iload rfl rfl ?_
          refine ev_iconst (x := (-1000000005)) rfl rfl ?_
          refine ev_icmp_eq (p2 := 96) rfl rfl (fun cnd76 => ?_) (fun cnd76 => ?_)
          · skip
            refine ev_aload rfl rfl ?_
            refine ev_getR (c := 6) (j := 2) rfl ?_ (hq := ks_sheet n (by omega))
            refine ev_iload rfl rfl ?_
            refine ev_iload rfl rfl ?_
            refine ev_iastN rfl rfl ?_ (hq := ks_vals n (by omega))
            refine ev_iconst (x := nI 1) rfl rfl ?_
            refine ev_iret rfl ?_
            rw [if_neg cnd48] at hQ
            first
            | (rw [if_pos (Or.inl (show v = S_NONE from cnd76))] at hQ; exact hQ _ rfl)
            | (rw [if_pos (Or.inr (And.intro (le_nlt cnd83) cnd90))] at hQ; exact hQ _ rfl)
          · skip
            refine ev_iload rfl rfl ?_
            refine ev_iconst (x := (-99999)) rfl rfl ?_
            refine ev_icmp_lt (p2 := 93) rfl rfl (fun cnd83 => ?_) (fun cnd83 => ?_)
            · skip
              refine ev_iconst (x := (-1000000001)) rfl rfl ?_
              refine ev_iret rfl ?_
              rw [if_neg cnd48] at hQ1
              rw [if_neg (by
                rintro (z | ⟨z1, z2⟩)
                · exact cnd76 z
                · first | exact nlt_le z1 cnd83 | exact cnd90 z2)] at hQ1
              exact hQ1 rfl
            · skip
              refine ev_iload rfl rfl ?_
              refine ev_iconst (x := nI 99999) rfl rfl ?_
              refine ev_icmp_le (p2 := 96) rfl rfl (fun cnd90 => ?_) (fun cnd90 => ?_)
              · skip
                refine ev_aload rfl rfl ?_
                refine ev_getR (c := 6) (j := 2) rfl ?_ (hq := ks_sheet n (by omega))
                refine ev_iload rfl rfl ?_
                refine ev_iload rfl rfl ?_
                refine ev_iastN rfl rfl ?_ (hq := ks_vals n (by omega))
                refine ev_iconst (x := nI 1) rfl rfl ?_
                refine ev_iret rfl ?_
                rw [if_neg cnd48] at hQ
                first
                | (rw [if_pos (Or.inl (show v = S_NONE from cnd76))] at hQ; exact hQ _ rfl)
                | (rw [if_pos (Or.inr (And.intro (le_nlt cnd83) cnd90))] at hQ; exact hQ _ rfl)
              · skip
                refine ev_iconst (x := (-1000000001)) rfl rfl ?_
                refine ev_iret rfl ?_
                rw [if_neg cnd48] at hQ1
                rw [if_neg (by
                  rintro (z | ⟨z1, z2⟩)
                  · exact cnd76 z
                  · first | exact nlt_le z1 cnd83 | exact cnd90 z2)] at hQ1
                exact hQ1 rfl
        · skip
          refine ev_iload rfl rfl ?_
          refine ev_iconst (x := (-1000000005)) rfl rfl ?_
          refine ev_icmp_ne (p2 := 61) rfl rfl (fun cnd55 => ?_) (fun cnd55 => ?_)
          · skip
            refine ev_aload rfl rfl ?_
            refine ev_getR (c := 6) (j := 2) rfl ?_ (hq := ks_sheet n (by omega))
            refine ev_iload rfl rfl ?_
            refine ev_iload rfl rfl ?_
            refine ev_i2s rfl ?_
            refine ev_iastN rfl rfl ?_ (hq := ks_vals n (by omega))
            refine ev_iconst (x := nI 1) rfl rfl ?_
            refine ev_iret rfl ?_
            rw [if_pos cnd48, if_neg (show ¬ v = S_NONE from cnd55)] at hQ; exact hQ _ rfl
          · skip
            refine ev_iconst (x := (-1000000012)) rfl rfl ?_
            refine ev_iret rfl ?_
            rw [if_pos cnd48, if_pos (show v = S_NONE from cnd55)] at hQ1; exact hQ1 rfl
      · skip
        refine ev_iconst (x := (-1000000013)) rfl rfl ?_
        refine ev_iret rfl ?_
        rw [if_neg cnd23, e9, if_neg cnd36] at hQ1; exact hQ1 rfl
    · skip
      refine ev_iconst (x := (-1000000011)) rfl rfl ?_
      refine ev_iret rfl ?_
      rw [if_pos cnd23] at hQ1; exact hQ1 rfl
  · skip
    refine ev_iconst (x := (-1000000001)) rfl rfl ?_
    refine ev_iret rfl ?_
    rw [if_neg cnd4] at hQ1; exact hQ1 rfl
theorem O_mark_b {S Z : am_R} {s p v w : Int32} (hZ2 : ∀ c, c < 4 → isN (Z c) 25) (h : (O_mark S Z s p v).2 = some w) : nn s < 4 ∧ nn p < 24 := by
  unfold O_mark at h
  split at h
  · rename_i hP
    have hn := am_rng (by decide) hP
    refine ⟨by omega, ?_⟩
    split at h
    · cases h
    · split at h
      · rename_i hq
        have hz := hZ2 (nn s) (by omega)
        have := am_idx hz.1 (by have := hz.2; omega) hq
        have := hz.2
        omega
      · cases h
  · cases h
theorem pub_mark {xs : am_R} {d n : Nat} {mem : am_M} {Q : am_P} (hI : Inv xs mem) (s : Int32) (p : Int32) (v : Int32) (hQ : ∀ (rv : Int32) (m1 : am_M), RefA xs (d + 200) n 222 [.ref 221, .int s, .int p, .int v] rv m1 → Q (some (.int rv)) (am_SK n) m1) : am_ex (d + 200) 114 [.ref 29, .int s, .int p, .int v] (am_SK n) mem Q := by
  have hsh := hI.2.2.2.2.1
  have h3 : ∀ c, c < 4 → (mem 245 c = -1 ∨ mem 245 c = 0 ∨ mem 245 c = 1) := fun c hc => (hsh c hc).1.2
  have hZ2 : ∀ c, c < 4 → isN (mem 246 c) 25 := fun c hc => (hsh c hc).2.1.2
  refine c_X11_mark hsh s p v (fun h0 => hQ _ _ (fun Q2 h2 => ?_)) (fun w h0 => hQ _ _ (fun Q2 h2 => ?_))
  · exact c_X12_mark rfl rfl h3 hZ2 s p v (fun _ => h2 _ hI) (fun a h => absurd (h0.symm.trans h) (by intro z; cases z))
  · have hb := O_mark_b hZ2 h0
    refine c_X12_mark (am_up_ne (by omega)) (am_up_ne (by omega)) h3 hZ2 s p v (fun h => absurd (h0.symm.trans h) (by intro z; cases z)) (fun w2 h => h2 _ ?_)
    have hz := h0.symm.trans h
    obtain rfl : w = w2 := by cases hz; rfl
    refine Inv_sh_fr hI (fun q hq => by rw [am_up_ne (by omega), am_up_ne (by omega)]) (fun t ht => ?_)
    rw [am_up_ne (show 245 ≠ 247 by decide), am_up_ne (show 245 ≠ 199 + 2 * nn s by omega), am_up_ne (show 246 ≠ 247 by decide), am_up_ne (show 246 ≠ 199 + 2 * nn s by omega), am_up_ne (show 198 + 2 * t ≠ 247 by omega), am_up_ne (show 198 + 2 * t ≠ 199 + 2 * nn s by omega)]
    refine ⟨(hsh t ht).1, (hsh t ht).2.1, fun k hk => ?_⟩
    rw [am_up_ne (show 199 + 2 * t ≠ 247 by omega)]
    by_cases et : t = nn s
    · subst et
      by_cases ek : k = nn p
      · subst ek; rw [am_up_eq, am_up_eq]
      · rw [am_up_nk ek, am_up_nk (by omega), am_up_ne (by omega)]; exact (hsh _ ht).2.2 k hk
    · rw [am_up_ne (by omega), am_up_nk (by omega), am_up_ne (by omega)]; exact (hsh t ht).2.2 k hk
def O_copy (S Z : am_R) (f p t a m : Int32) : Int32 × Bool := if P_sh f ∧ P_sh t then (if S (nn f) = -1 ∨ S (nn t) = -1 then (S_NOTH, false) else if S (nn f) = S (nn t) then (if P_cp p m (Z (nn f)) ∧ P_cp a m (Z (nn t)) then (m, true) else (S_INDEX, false)) else (S_KIND, false)) else (S_BAD, false)
theorem l_X12_copy2 {d n : Nat} {mem0 : am_M} {Q : am_P} (f p t a m : Nat) (hf4 : f < 4) (ht4 : t < 4) (hp : p + m ≤ 24) (ha : a + m ≤ 24) (g : am_R) (r : Nat) : ∀ (mem : am_M) (k : Nat) (hk : k + r = m) (hfr : ∀ q, q ≠ 247 → q ≠ 251 → mem q = mem0 q) (hg : ∀ j, j < m → mem 251 j = g j) (hz : ∀ j, j < k → mem 247 (24 * t + a + j) = g j) (ho : ∀ i, ¬ (24 * t + a ≤ i ∧ i < 24 * t + a + k) → mem 247 i = mem0 247 i) (hQ : ∀ m2 : am_M, (∀ q, q ≠ 247 → q ≠ 251 → m2 q = mem0 q) → (∀ j, j < m → m2 247 (24 * t + a + j) = g j) → (∀ i, ¬ (24 * t + a ≤ i ∧ i < 24 * t + a + m) → m2 247 i = mem0 247 i) → Q (some (.int (nI m))) (am_SK n) m2), am_ev kc_X12_copy d 142 [some (.ref 221), some (.int (nI f)), some (.int (nI p)), some (.int (nI t)), some (.int (nI a)), some (.int (nI m)), some (.int (nI k))] [] (am_SK n) mem Q := by
  induction r with
  | zero =>
    intro mem k hk hfr hg hz ho hQ
    have hkm : k = m := by omega
    subst hkm
    refine ev_iload rfl rfl ?_
    refine ev_iload rfl rfl ?_
    refine ev_icmp_geN (p2 := 177) rfl rfl (fun cnd146 => ?_) (fun cnd146 => ?_)
    · skip
      refine ev_iload rfl rfl ?_
      refine ev_iret rfl ?_
      exact hQ mem hfr hz ho
    · omega
  | succ r ih =>
    intro mem k hk hfr hg hz ho hQ
    refine ev_iload rfl rfl ?_
    refine ev_iload rfl rfl ?_
    refine ev_icmp_geN (p2 := 177) rfl rfl (fun cnd146 => ?_) (fun cnd146 => ?_)
    · omega
    · skip
      refine ev_aload rfl rfl ?_
      refine ev_getR (c := 12) (j := 37) rfl ?_ (hq := k_221 n)
      refine ev_iconst (x := nI 24) rfl rfl ?_
      refine ev_iload rfl rfl ?_
      refine ev_imulN rfl ?_
      refine ev_iload rfl rfl ?_
      refine ev_iaddN rfl ?_
      refine ev_iload rfl rfl ?_
      refine ev_iaddN rfl ?_
      refine ev_aload rfl rfl ?_
      refine ev_getR (c := 12) (j := 41) rfl ?_ (hq := k_221 n)
      refine ev_iload rfl rfl ?_
      refine ev_ialdN rfl rfl ?_ (hq := k_251 n)
      rw [hg k (by omega)]
      refine ev_iastS rfl (fun mem2 hm => ?_) (hq := k_247 n)
      refine ev_iincN rfl rfl rfl ?_
      refine ev_goto (p2 := 142) rfl rfl ?_
      refine ih mem2 (k + 1) (by omega) (fun q h1 h2 => by rw [hm, am_up_ne h1]; exact hfr q h1 h2) (fun j hj => by rw [hm, am_up_ne (by decide)]; exact hg j hj) (fun j hj => ?_) (fun i hi => ?_) hQ
      · rw [hm]
        by_cases e : j = k
        · rw [e, am_up_eq]
        · rw [am_up_nk (by omega)]; exact hz j (by omega)
      · rw [hm, am_up_nk (by omega)]; exact ho i (by omega)
theorem l_X12_copy1 {d n : Nat} {mem0 : am_M} {Q : am_P} (f p t a m : Nat) (hf4 : f < 4) (ht4 : t < 4) (hp : p + m ≤ 24) (ha : a + m ≤ 24) (r : Nat) : ∀ (mem : am_M) (k : Nat) (hk : k + r = m) (hfr : ∀ q, q ≠ 251 → mem q = mem0 q) (hg : ∀ j, j < k → mem 251 j = mem0 247 (24 * f + p + j)) (hQ : ∀ m2 : am_M, (∀ q, q ≠ 247 → q ≠ 251 → m2 q = mem0 q) → (∀ j, j < m → m2 247 (24 * t + a + j) = mem0 247 (24 * f + p + j)) → (∀ i, ¬ (24 * t + a ≤ i ∧ i < 24 * t + a + m) → m2 247 i = mem0 247 i) → Q (some (.int (nI m))) (am_SK n) m2), am_ev kc_X12_copy d 105 [some (.ref 221), some (.int (nI f)), some (.int (nI p)), some (.int (nI t)), some (.int (nI a)), some (.int (nI m)), some (.int (nI k))] [] (am_SK n) mem Q := by
  induction r with
  | zero =>
    intro mem k hk hfr hg hQ
    have hkm : k = m := by omega
    subst hkm
    refine ev_iload rfl rfl ?_
    refine ev_iload rfl rfl ?_
    refine ev_icmp_geN (p2 := 139) rfl rfl (fun cnd109 => ?_) (fun cnd109 => ?_)
    · skip
      refine ev_iconst (x := nI 0) rfl rfl ?_
      refine ev_istore rfl rfl (Nat.le_of_ble_eq_true rfl) ?_
      exact l_X12_copy2 f p t a k hf4 ht4 hp ha (fun j => mem0 247 (24 * f + p + j)) k mem 0 (Nat.zero_add _) (fun q _ h2 => hfr q h2) hg (fun j hj => absurd hj (Nat.not_lt_zero j)) (fun i _ => congrFun (hfr 247 (by decide)) i) hQ
    · omega
  | succ r ih =>
    intro mem k hk hfr hg hQ
    refine ev_iload rfl rfl ?_
    refine ev_iload rfl rfl ?_
    refine ev_icmp_geN (p2 := 139) rfl rfl (fun cnd109 => ?_) (fun cnd109 => ?_)
    · omega
    · skip
      refine ev_aload rfl rfl ?_
      refine ev_getR (c := 12) (j := 41) rfl ?_ (hq := k_221 n)
      refine ev_iload rfl rfl ?_
      refine ev_aload rfl rfl ?_
      refine ev_getR (c := 12) (j := 37) rfl ?_ (hq := k_221 n)
      refine ev_iconst (x := nI 24) rfl rfl ?_
      refine ev_iload rfl rfl ?_
      refine ev_imulN rfl ?_
      refine ev_iload rfl rfl ?_
      refine ev_iaddN rfl ?_
      refine ev_iload rfl rfl ?_
      refine ev_iaddN rfl ?_
      refine ev_ialdN rfl rfl ?_ (hq := k_247 n)
      rw [show mem 247 (24 * f + p + k) = mem0 247 (24 * f + p + k) from congrFun (hfr 247 (by decide)) _]
      refine ev_iastS rfl (fun mem2 hm => ?_) (hq := k_251 n)
      refine ev_iincN rfl rfl rfl ?_
      refine ev_goto (p2 := 105) rfl rfl ?_
      refine ih mem2 (k + 1) (by omega) (fun q h1 => by rw [hm, am_up_ne h1]; exact hfr q h1) (fun j hj => ?_) hQ
      rw [hm]
      by_cases e : j = k
      · rw [e, am_up_eq]
      · rw [am_up_nk (by omega)]; exact hg j (by omega)
theorem c_X12_copy {d n : Nat} {mem : am_M} {Q : am_P} {S Z : am_R} (hS : mem 245 = S) (hZ : mem 246 = Z) (h3 : ∀ c, c < 4 → (S c = -1 ∨ S c = 0 ∨ S c = 1)) (hZ2 : ∀ c, c < 4 → isN (Z c) 25) (f p t a m : Int32) (hQ1 : (O_copy S Z f p t a m).2 = false → Q (some (.int (O_copy S Z f p t a m).1)) (am_SK n) mem) (hQ : (O_copy S Z f p t a m).2 = true → ∀ m2 : am_M, (∀ q, q ≠ 247 → q ≠ 251 → m2 q = mem q) → (∀ j, j < nn m → m2 247 (24 * nn t + nn a + j) = mem 247 (24 * nn f + nn p + j)) → (∀ i, ¬ (24 * nn t + nn a ≤ i ∧ i < 24 * nn t + nn a + nn m) → m2 247 i = mem 247 i) → Q (some (.int (O_copy S Z f p t a m).1)) (am_SK n) m2) : am_ex (d + 3) 224 [.ref 221, .int f, .int p, .int t, .int a, .int m] (am_SK n) mem Q := by
  unfold O_copy at hQ hQ1
  refine ex_in (c0 := kc_X12_copy) rfl (L := [some (.ref 221), some (.int f), some (.int p), some (.int t), some (.int a), some (.int m), none]) rfl ?_
  refine ev_iload rfl rfl ?_
  refine ev_call rfl rfl ?_
  refine c_X12_isSheet _ ?_
  change am_ev _ _ _ _ [_] _ _ _
  refine ev_if_eqB (p2 := 14) rfl rfl (fun cnd4 => ?_) (fun cnd4 => ?_)
  · skip
    refine ev_iconst (x := (-1000000001)) rfl rfl ?_
    refine ev_iret rfl ?_
    first
    | (rw [if_neg (fun z => cnd4 z.1)] at hQ1; exact hQ1 rfl)
    | (rw [if_neg (fun z => cnd11 z.2)] at hQ1; exact hQ1 rfl)
  · skip
    refine ev_iload rfl rfl ?_
    refine ev_call rfl rfl ?_
    refine c_X12_isSheet _ ?_
    change am_ev _ _ _ _ [_] _ _ _
    refine ev_if_neB (p2 := 17) rfl rfl (fun cnd11 => ?_) (fun cnd11 => ?_)
    · skip
      obtain ⟨ef, hf4⟩ := am_rng (by decide) cnd4
      obtain ⟨et, ht4⟩ := am_rng (by decide) cnd11
      rw [if_pos (And.intro cnd4 cnd11)] at hQ hQ1
      clear cnd4 cnd11
      generalize nn f = f9 at ef hf4 hQ hQ1
      generalize nn t = t9 at et ht4 hQ hQ1
      subst ef
      subst et
      refine ev_aload rfl rfl ?_
      refine ev_getR (c := 12) (j := 35) rfl ?_ (hq := k_221 n)
      refine ev_iload rfl rfl ?_
      refine ev_ialdN rfl rfl ?_ (hq := k_245 n)
      rw [show mem 245 f9 = S f9 from congrFun hS _]
      refine ev_if_lt (p2 := 35) rfl rfl (fun cnd23 => ?_) (fun cnd23 => ?_)
      · skip
        refine ev_iconst (x := (-1000000011)) rfl rfl ?_
        refine ev_iret rfl ?_
        first
        | (rw [if_pos (Or.inl (Decidable.not_not.mp (fun z => nlt_le ((s3_ge (h3 f9 (by omega))).mpr z) cnd23)))] at hQ1; exact hQ1 rfl)
        | (rw [if_pos (Or.inr (Decidable.not_not.mp (fun z => cnd32 ((s3_ge (h3 t9 (by omega))).mpr z))))] at hQ1; exact hQ1 rfl)
      · skip
        refine ev_aload rfl rfl ?_
        refine ev_getR (c := 12) (j := 35) rfl ?_ (hq := k_221 n)
        refine ev_iload rfl rfl ?_
        refine ev_ialdN rfl rfl ?_ (hq := k_245 n)
        rw [show mem 245 t9 = S t9 from congrFun hS _]
        refine ev_if_ge (p2 := 39) rfl rfl (fun cnd32 => ?_) (fun cnd32 => ?_)
        · skip
          refine ev_aload rfl rfl ?_
          refine ev_getR (c := 12) (j := 35) rfl ?_ (hq := k_221 n)
          refine ev_iload rfl rfl ?_
          refine ev_ialdN rfl rfl ?_ (hq := k_245 n)
          rw [show mem 245 f9 = S f9 from congrFun hS _]
          refine ev_aload rfl rfl ?_
          refine ev_getR (c := 12) (j := 35) rfl ?_ (hq := k_221 n)
          refine ev_iload rfl rfl ?_
          refine ev_ialdN rfl rfl ?_ (hq := k_245 n)
          rw [show mem 245 t9 = S t9 from congrFun hS _]
          refine ev_icmp_eq (p2 := 57) rfl rfl (fun cnd51 => ?_) (fun cnd51 => ?_)
          · skip
            refine ev_iload rfl rfl ?_
            refine ev_if_lt (p2 := 98) rfl rfl (fun cnd58 => ?_) (fun cnd58 => ?_)
            · skip
              refine ev_iconst (x := (-1000000013)) rfl rfl ?_
              refine ev_iret rfl ?_
              rw [if_neg (fun z => z.elim ((s3_ge (h3 f9 (by omega))).mp (le_nlt cnd23)) ((s3_ge (h3 t9 (by omega))).mp cnd32))] at hQ1
              rw [if_pos cnd51] at hQ1
              rw [if_neg (by
                rintro ⟨⟨z1, z2, z3⟩, z4, z5, z6⟩
                first | exact nlt_le z1 cnd58 | exact nlt_le z4 cnd63 | exact nlt_le z2 cnd68 | exact nlt_le z3 cnd81 | exact cnd95 z6)] at hQ1
              exact hQ1 rfl
            · skip
              refine ev_iload rfl rfl ?_
              refine ev_if_lt (p2 := 98) rfl rfl (fun cnd63 => ?_) (fun cnd63 => ?_)
              · skip
                refine ev_iconst (x := (-1000000013)) rfl rfl ?_
                refine ev_iret rfl ?_
                rw [if_neg (fun z => z.elim ((s3_ge (h3 f9 (by omega))).mp (le_nlt cnd23)) ((s3_ge (h3 t9 (by omega))).mp cnd32))] at hQ1
                rw [if_pos cnd51] at hQ1
                rw [if_neg (by
                  rintro ⟨⟨z1, z2, z3⟩, z4, z5, z6⟩
                  first | exact nlt_le z1 cnd58 | exact nlt_le z4 cnd63 | exact nlt_le z2 cnd68 | exact nlt_le z3 cnd81 | exact cnd95 z6)] at hQ1
                exact hQ1 rfl
              · skip
                refine ev_iload rfl rfl ?_
                refine ev_if_lt (p2 := 98) rfl rfl (fun cnd68 => ?_) (fun cnd68 => ?_)
                · skip
                  refine ev_iconst (x := (-1000000013)) rfl rfl ?_
                  refine ev_iret rfl ?_
                  rw [if_neg (fun z => z.elim ((s3_ge (h3 f9 (by omega))).mp (le_nlt cnd23)) ((s3_ge (h3 t9 (by omega))).mp cnd32))] at hQ1
                  rw [if_pos cnd51] at hQ1
                  rw [if_neg (by
                    rintro ⟨⟨z1, z2, z3⟩, z4, z5, z6⟩
                    first | exact nlt_le z1 cnd58 | exact nlt_le z4 cnd63 | exact nlt_le z2 cnd68 | exact nlt_le z3 cnd81 | exact cnd95 z6)] at hQ1
                  exact hQ1 rfl
                · skip
                  refine ev_iload rfl rfl ?_
                  refine ev_aload rfl rfl ?_
                  refine ev_getR (c := 12) (j := 36) rfl ?_ (hq := k_221 n)
                  refine ev_iload rfl rfl ?_
                  refine ev_ialdN rfl rfl ?_ (hq := k_246 n)
                  rw [show mem 246 f9 = Z f9 from congrFun hZ _]
                  refine ev_iload rfl rfl ?_
                  refine ev_isub rfl ?_
                  refine ev_icmp_gt (p2 := 98) rfl rfl (fun cnd81 => ?_) (fun cnd81 => ?_)
                  · skip
                    refine ev_iconst (x := (-1000000013)) rfl rfl ?_
                    refine ev_iret rfl ?_
                    rw [if_neg (fun z => z.elim ((s3_ge (h3 f9 (by omega))).mp (le_nlt cnd23)) ((s3_ge (h3 t9 (by omega))).mp cnd32))] at hQ1
                    rw [if_pos cnd51] at hQ1
                    rw [if_neg (by
                      rintro ⟨⟨z1, z2, z3⟩, z4, z5, z6⟩
                      first | exact nlt_le z1 cnd58 | exact nlt_le z4 cnd63 | exact nlt_le z2 cnd68 | exact nlt_le z3 cnd81 | exact cnd95 z6)] at hQ1
                    exact hQ1 rfl
                  · skip
                    refine ev_iload rfl rfl ?_
                    refine ev_aload rfl rfl ?_
                    refine ev_getR (c := 12) (j := 36) rfl ?_ (hq := k_221 n)
                    refine ev_iload rfl rfl ?_
                    refine ev_ialdN rfl rfl ?_ (hq := k_246 n)
                    rw [show mem 246 t9 = Z t9 from congrFun hZ _]
                    refine ev_iload rfl rfl ?_
                    refine ev_isub rfl ?_
                    refine ev_icmp_le (p2 := 102) rfl rfl (fun cnd95 => ?_) (fun cnd95 => ?_)
                    · skip
                      refine ev_iconst (x := nI 0) rfl rfl ?_
                      refine ev_istore rfl rfl (Nat.le_of_ble_eq_true rfl) ?_
                      rw [if_neg (fun z => z.elim ((s3_ge (h3 f9 (by omega))).mp (le_nlt cnd23)) ((s3_ge (h3 t9 (by omega))).mp cnd32)), if_pos cnd51] at hQ
                      have hP1 : P_cp p m (Z f9) := And.intro (le_nlt cnd58) (And.intro (le_nlt cnd68) (le_nlt cnd81))
                      have hP2 : P_cp a m (Z t9) := And.intro (le_nlt cnd63) (And.intro (le_nlt cnd68) cnd95)
                      rw [if_pos (And.intro hP1 hP2)] at hQ
                      obtain ⟨e1, e2, b1⟩ := P_cp_n (hZ2 f9 (by omega)) hP1
                      obtain ⟨e3, -, b2⟩ := P_cp_n (hZ2 t9 (by omega)) hP2
                      have z1 := (hZ2 f9 (by omega)).2
                      have z2 := (hZ2 t9 (by omega)).2
                      clear hP1 hP2 cnd58 cnd63 cnd68 cnd81 cnd95
                      generalize nn p = p9 at e1 b1 hQ
                      generalize nn m = m9 at e2 b1 b2 hQ
                      generalize nn a = a9 at e3 b2 hQ
                      subst e1
                      subst e2
                      subst e3
                      exact l_X12_copy1 f9 p9 t9 a9 m9 (by omega) (by omega) (by omega) (by omega) m9 mem 0 (Nat.zero_add _) (fun _ _ => rfl) (fun j hj => absurd hj (Nat.not_lt_zero j)) (hQ rfl)
                    · skip
                      refine ev_iconst (x := (-1000000013)) rfl rfl ?_
                      refine ev_iret rfl ?_
                      rw [if_neg (fun z => z.elim ((s3_ge (h3 f9 (by omega))).mp (le_nlt cnd23)) ((s3_ge (h3 t9 (by omega))).mp cnd32))] at hQ1
                      rw [if_pos cnd51] at hQ1
                      rw [if_neg (by
                        rintro ⟨⟨z1, z2, z3⟩, z4, z5, z6⟩
                        first | exact nlt_le z1 cnd58 | exact nlt_le z4 cnd63 | exact nlt_le z2 cnd68 | exact nlt_le z3 cnd81 | exact cnd95 z6)] at hQ1
                      exact hQ1 rfl
          · skip
            refine ev_iconst (x := (-1000000012)) rfl rfl ?_
            refine ev_iret rfl ?_
            rw [if_neg (fun z => z.elim ((s3_ge (h3 f9 (by omega))).mp (le_nlt cnd23)) ((s3_ge (h3 t9 (by omega))).mp cnd32))] at hQ1
            rw [if_neg cnd51] at hQ1; exact hQ1 rfl
        · skip
          refine ev_iconst (x := (-1000000011)) rfl rfl ?_
          refine ev_iret rfl ?_
          first
          | (rw [if_pos (Or.inl (Decidable.not_not.mp (fun z => nlt_le ((s3_ge (h3 f9 (by omega))).mpr z) cnd23)))] at hQ1; exact hQ1 rfl)
          | (rw [if_pos (Or.inr (Decidable.not_not.mp (fun z => cnd32 ((s3_ge (h3 t9 (by omega))).mpr z))))] at hQ1; exact hQ1 rfl)
    · skip
      refine ev_iconst (x := (-1000000001)) rfl rfl ?_
      refine ev_iret rfl ?_
      first
      | (rw [if_neg (fun z => cnd4 z.1)] at hQ1; exact hQ1 rfl)
      | (rw [if_neg (fun z => cnd11 z.2)] at hQ1; exact hQ1 rfl)
theorem c_X11_copy {d n : Nat} {mem : am_M} {Q : am_P} (hsh : I_sh mem) (f p t a m : Int32) (hQ1 : (O_copy (mem 245) (mem 246) f p t a m).2 = false → Q (some (.int (O_copy (mem 245) (mem 246) f p t a m).1)) (am_SK n) mem) (hQ : (O_copy (mem 245) (mem 246) f p t a m).2 = true → ∀ m2 : am_M, m2 = am_cp mem (199 + 2 * nn f) (199 + 2 * nn t) (nn p) (nn a) (nn m) → Q (some (.int (O_copy (mem 245) (mem 246) f p t a m).1)) (am_SK n) m2) : am_ex (d + 2) 116 [.ref 29, .int f, .int p, .int t, .int a, .int m] (am_SK n) mem Q := by
  unfold O_copy at hQ hQ1
  refine ex_in (c0 := kc_X11_copy) rfl (L := [some (.ref 29), some (.int f), some (.int p), some (.int t), some (.int a), some (.int m), none, none]) rfl ?_
  refine ev_iload rfl rfl ?_
  refine ev_call rfl rfl ?_
  refine c_X11_isSheet _ ?_
  change am_ev _ _ _ _ [_] _ _ _
  refine ev_if_eqB (p2 := 14) rfl rfl (fun cnd4 => ?_) (fun cnd4 => ?_)
  · skip
    refine ev_iconst (x := (-1000000001)) rfl rfl ?_
    refine ev_iret rfl ?_
    first
    | (rw [if_neg (fun z => cnd4 z.1)] at hQ1; exact hQ1 rfl)
    | (rw [if_neg (fun z => cnd11 z.2)] at hQ1; exact hQ1 rfl)
  · skip
    refine ev_iload rfl rfl ?_
    refine ev_call rfl rfl ?_
    refine c_X11_isSheet _ ?_
    change am_ev _ _ _ _ [_] _ _ _
    refine ev_if_neB (p2 := 17) rfl rfl (fun cnd11 => ?_) (fun cnd11 => ?_)
    · skip
      obtain ⟨ef, hf4⟩ := am_rng (by decide) cnd4
      obtain ⟨et, ht4⟩ := am_rng (by decide) cnd11
      rw [if_pos (And.intro cnd4 cnd11)] at hQ hQ1
      clear cnd4 cnd11
      generalize nn f = f9 at ef hf4 hQ hQ1
      generalize nn t = t9 at et ht4 hQ hQ1
      subst ef
      subst et
      obtain ⟨⟨eS, hS3⟩, ⟨eZ, e9, g9⟩, -⟩ := hsh f9 (by omega)
      obtain ⟨⟨eS2, hS4⟩, ⟨eZ2, e8, g8⟩, -⟩ := hsh t9 (by omega)
      generalize hzz : nn (mem 246 f9) = z at e9 g9
      generalize hzz2 : nn (mem 246 t9) = y at e8 g8
      rw [e9] at eZ
      rw [e8] at eZ2
      refine ev_aload rfl rfl ?_
      refine ev_getR (c := 11) (j := 8) rfl ?_ (hq := k_29 n)
      refine ev_iload rfl rfl ?_
      refine ev_aldN rfl rfl ?_ (kr_sheet (by omega)) (hq := k_193 n)
      refine ev_astore rfl rfl (Nat.le_of_ble_eq_true rfl) ?_
      refine ev_aload rfl rfl ?_
      refine ev_getR (c := 11) (j := 8) rfl ?_ (hq := k_29 n)
      refine ev_iload rfl rfl ?_
      refine ev_aldN rfl rfl ?_ (kr_sheet (by omega)) (hq := k_193 n)
      refine ev_astore rfl rfl (Nat.le_of_ble_eq_true rfl) ?_
      refine ev_aload rfl rfl ?_
      refine ev_callV rfl rfl rfl rfl (Nat.le_of_ble_eq_true rfl) (Nat.le_of_ble_eq_true rfl) ?_ (hq := ks_sheet n (by omega))
      refine c_X6_isMissing f9 (by omega) eS ?_
      change am_ev _ _ _ _ [_] _ _ _
      refine ev_if_neB (p2 := 49) rfl rfl (fun cnd38 => ?_) (fun cnd38 => ?_)
      · skip
        refine ev_iconst (x := (-1000000011)) rfl rfl ?_
        refine ev_iret rfl ?_
        first
        | (rw [if_pos (Or.inl cnd38)] at hQ1; exact hQ1 rfl)
        | (rw [if_pos (Or.inr cnd46)] at hQ1; exact hQ1 rfl)
      · skip
        refine ev_aload rfl rfl ?_
        refine ev_callV rfl rfl rfl rfl (Nat.le_of_ble_eq_true rfl) (Nat.le_of_ble_eq_true rfl) ?_ (hq := ks_sheet n (by omega))
        refine c_X6_isMissing t9 (by omega) eS2 ?_
        change am_ev _ _ _ _ [_] _ _ _
        refine ev_if_eqB (p2 := 53) rfl rfl (fun cnd46 => ?_) (fun cnd46 => ?_)
        · skip
          refine ev_aload rfl rfl ?_
          refine ev_getI (c := 6) (j := 0) rfl ?_ (hq := ks_sheet n (by omega))
          rw [eS]
          refine ev_aload rfl rfl ?_
          refine ev_getI (c := 6) (j := 0) rfl ?_ (hq := ks_sheet n (by omega))
          rw [eS2]
          refine ev_icmp_eq (p2 := 69) rfl rfl (fun cnd63 => ?_) (fun cnd63 => ?_)
          · skip
            refine ev_aload rfl rfl ?_
            refine ev_iload rfl rfl ?_
            refine ev_iload rfl rfl ?_
            refine ev_callV rfl rfl rfl rfl (Nat.le_of_ble_eq_true rfl) (Nat.le_of_ble_eq_true rfl) ?_ (hq := ks_sheet n (by omega))
            refine c_X6_hasPlaces f9 (by omega) z g9 eZ _ _ ?_
            change am_ev _ _ _ _ [_] _ _ _
            refine ev_if_eqB (p2 := 92) rfl rfl (fun cnd77 => ?_) (fun cnd77 => ?_)
            · skip
              refine ev_iconst (x := (-1000000013)) rfl rfl ?_
              refine ev_iret rfl ?_
              rw [if_neg (fun z => z.elim cnd38 cnd46)] at hQ1
              rw [if_pos cnd63, e9, e8] at hQ1
              first
              | (rw [if_neg (fun z => cnd77 z.1)] at hQ1; exact hQ1 rfl)
              | (rw [if_neg (fun z => cnd89 z.2)] at hQ1; exact hQ1 rfl)
            · skip
              refine ev_aload rfl rfl ?_
              refine ev_iload rfl rfl ?_
              refine ev_iload rfl rfl ?_
              refine ev_callV rfl rfl rfl rfl (Nat.le_of_ble_eq_true rfl) (Nat.le_of_ble_eq_true rfl) ?_ (hq := ks_sheet n (by omega))
              refine c_X6_hasPlaces t9 (by omega) y g8 eZ2 _ _ ?_
              change am_ev _ _ _ _ [_] _ _ _
              refine ev_if_neB (p2 := 96) rfl rfl (fun cnd89 => ?_) (fun cnd89 => ?_)
              · skip
                rw [if_neg (fun z => z.elim cnd38 cnd46), if_pos cnd63, e9, e8, if_pos (And.intro cnd77 cnd89)] at hQ
                obtain ⟨e1, e2, b1⟩ := P_cp_n (isN_lt g9 (by decide)) cnd77
                obtain ⟨e3, -, b2⟩ := P_cp_n (isN_lt g8 (by decide)) cnd89
                rw [nn_nI (by omega)] at b1 b2
                clear cnd77 cnd89
                generalize nn p = p9 at e1 b1 hQ
                generalize nn m = m9 at e2 b1 b2 hQ
                generalize nn a = a9 at e3 b2 hQ
                subst e1
                subst e2
                subst e3
                refine ev_aload rfl rfl ?_
                refine ev_getR (c := 6) (j := 2) rfl ?_ (hq := ks_sheet n (by omega))
                refine ev_iload rfl rfl ?_
                refine ev_aload rfl rfl ?_
                refine ev_getR (c := 6) (j := 2) rfl ?_ (hq := ks_sheet n (by omega))
                refine ev_iload rfl rfl ?_
                refine ev_iload rfl rfl ?_
                refine ev_copyN rfl ?_ (ks_vals n (by omega)) (ks_vals n (by omega))
                refine ev_iload rfl rfl ?_
                refine ev_iret rfl ?_
                exact hQ rfl _ rfl
              · skip
                refine ev_iconst (x := (-1000000013)) rfl rfl ?_
                refine ev_iret rfl ?_
                rw [if_neg (fun z => z.elim cnd38 cnd46)] at hQ1
                rw [if_pos cnd63, e9, e8] at hQ1
                first
                | (rw [if_neg (fun z => cnd77 z.1)] at hQ1; exact hQ1 rfl)
                | (rw [if_neg (fun z => cnd89 z.2)] at hQ1; exact hQ1 rfl)
          · skip
            refine ev_iconst (x := (-1000000012)) rfl rfl ?_
            refine ev_iret rfl ?_
            rw [if_neg (fun z => z.elim cnd38 cnd46)] at hQ1
            rw [if_neg cnd63] at hQ1; exact hQ1 rfl
        · skip
          refine ev_iconst (x := (-1000000011)) rfl rfl ?_
          refine ev_iret rfl ?_
          first
          | (rw [if_pos (Or.inl cnd38)] at hQ1; exact hQ1 rfl)
          | (rw [if_pos (Or.inr cnd46)] at hQ1; exact hQ1 rfl)
    · skip
      refine ev_iconst (x := (-1000000001)) rfl rfl ?_
      refine ev_iret rfl ?_
      first
      | (rw [if_neg (fun z => cnd4 z.1)] at hQ1; exact hQ1 rfl)
      | (rw [if_neg (fun z => cnd11 z.2)] at hQ1; exact hQ1 rfl)
theorem O_copy_b {S Z : am_R} {f p t a m : Int32} (hZ2 : ∀ c, c < 4 → isN (Z c) 25) (h : (O_copy S Z f p t a m).2 = true) : nn f < 4 ∧ nn t < 4 ∧ nn p + nn m ≤ 24 ∧ nn a + nn m ≤ 24 := by
  unfold O_copy at h
  split at h
  · rename_i hP
    have hn := am_rng (by decide) hP.1
    have hn2 := am_rng (by decide) hP.2
    refine ⟨by omega, by omega, ?_⟩
    split at h
    · cases h
    · split at h
      · split at h
        · rename_i hc
          have a1 := (P_cp_n (hZ2 (nn f) (by omega)) hc.1).2.2
          have a2 := (P_cp_n (hZ2 (nn t) (by omega)) hc.2).2.2
          have a3 := (hZ2 (nn f) (by omega)).2
          have a4 := (hZ2 (nn t) (by omega)).2
          omega
        · cases h
      · cases h
  · cases h
theorem pub_copy {xs : am_R} {d n : Nat} {mem : am_M} {Q : am_P} (hI : Inv xs mem) (f : Int32) (p : Int32) (t : Int32) (a : Int32) (m : Int32) (hQ : ∀ (rv : Int32) (m1 : am_M), RefA xs (d + 200) n 224 [.ref 221, .int f, .int p, .int t, .int a, .int m] rv m1 → Q (some (.int rv)) (am_SK n) m1) : am_ex (d + 200) 116 [.ref 29, .int f, .int p, .int t, .int a, .int m] (am_SK n) mem Q := by
  have hsh := hI.2.2.2.2.1
  have h3 : ∀ c, c < 4 → (mem 245 c = -1 ∨ mem 245 c = 0 ∨ mem 245 c = 1) := fun c hc => (hsh c hc).1.2
  have hZ2 : ∀ c, c < 4 → isN (mem 246 c) 25 := fun c hc => (hsh c hc).2.1.2
  refine c_X11_copy hsh f p t a m (fun h0 => hQ _ _ (fun Q2 h2 => ?_)) (fun h0 m1 hm1 => hQ _ _ (fun Q2 h2 => ?_))
  · exact c_X12_copy rfl rfl h3 hZ2 f p t a m (fun _ => h2 _ hI) (fun h => absurd (h0.symm.trans h) (by decide))
  · have hb := O_copy_b hZ2 h0
    have f1 : ∀ q, q ≠ 199 + 2 * nn t → m1 q = mem q := fun q hq => by rw [hm1, am_cp_ne hq]
    refine c_X12_copy (f1 245 (by omega)) (f1 246 (by omega)) h3 hZ2 f p t a m (fun h => absurd (h0.symm.trans h) (by decide)) (fun h m2 g1 g2 g3 => h2 _ ?_)
    refine Inv_sh_fr hI (fun q hq => (g1 q (by omega) (by omega)).trans (f1 q (by omega))) (fun u hu => ?_)
    rw [g1 245 (by decide) (by decide), g1 246 (by decide) (by decide), f1 245 (by omega), f1 246 (by omega), g1 (198 + 2 * u) (by omega) (by omega), f1 (198 + 2 * u) (by omega)]
    refine ⟨(hsh u hu).1, (hsh u hu).2.1, fun k hk => ?_⟩
    rw [g1 (199 + 2 * u) (by omega) (by omega)]
    by_cases eu : u = nn t
    · subst eu
      rw [hm1]
      unfold am_cp
      rw [if_pos rfl]
      by_cases ek : nn a ≤ k ∧ k < nn a + nn m
      · have hg := g2 (k - nn a) (by omega)
        rw [show 24 * nn t + nn a + (k - nn a) = 24 * nn t + k by omega] at hg
        rw [pk_cpy_in ek.1 ek.2, hg, f1 247 (by omega), (hsh (nn f) hb.1).2.2 _ (by omega)]
        congr 1
        omega
      · rw [pk_cpy_out (by omega), g3 _ (by omega), f1 247 (by omega)]
        exact (hsh (nn t) hu).2.2 k hk
    · rw [f1 _ (by omega), g3 _ (by omega), f1 247 (by omega)]
      exact (hsh u hu).2.2 k hk
