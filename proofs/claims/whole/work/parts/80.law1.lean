/-! the law's 44 cases -/
def PubText (xs : am_R) (d n : Nat) : Prop := ∀ mem : am_M, Inv xs mem → ∀ Q : am_P, (∀ (rv : Int32) (m1 : am_M), RefA xs (d + 200) n 196 [.ref 221] rv m1 → Q (some (.int rv)) (am_SK n) m1) → am_ex (d + 200) 100 [.ref 29] (am_SK n) mem Q
set_option maxRecDepth 20000 in
theorem law_0 {xs : am_R} {d n i : Nat} {mem : am_M} {Q : am_P} (hI : Inv xs mem) (hn : n ≤ 384) (hi : i + 6 ≤ n) (hK : ∀ m2 : am_M, Inv xs m2 → am_ev kc_L_law (d + 200) 1522 [some (.ref 1), some (.ref 29), some (.ref 221), some (.int (nI i))] [] (am_SK n) m2 Q) : am_ev kc_L_law (d + 200) 224 [some (.ref 1), some (.ref 29), some (.ref 221), some (.int (nI i))] [] (am_SK n) mem Q := by
  refine ev_aload rfl rfl ?_
  refine ev_aload rfl rfl ?_
  refine ev_iload rfl rfl ?_
  refine ev_iconst (x := nI 1) rfl rfl ?_
  refine ev_iaddN rfl ?_
  refine ev_ialdN rfl rfl ?_ (hq := k_1 n) (hm := by omega) (hN := by omega)
  refine ev_aload rfl rfl ?_
  refine ev_iload rfl rfl ?_
  refine ev_iconst (x := nI 2) rfl rfl ?_
  refine ev_iaddN rfl ?_
  refine ev_ialdN rfl rfl ?_ (hq := k_1 n) (hm := by omega) (hN := by omega)
  refine ev_call rfl rfl ?_
  refine pub_use (fun Q h => pub_cabinet hI _ _ h) (fun rv m1 hm1 hA => ?_)
  change am_ev _ _ _ _ [_] _ _ _
  refine ev_aload rfl rfl ?_
  refine ev_aload rfl rfl ?_
  refine ev_iload rfl rfl ?_
  refine ev_iconst (x := nI 1) rfl rfl ?_
  refine ev_iaddN rfl ?_
  refine ev_ialdN rfl rfl ?_ (hq := k_1 n) (hm := by omega) (hN := by omega)
  rw [hm1]
  refine ev_aload rfl rfl ?_
  refine ev_iload rfl rfl ?_
  refine ev_iconst (x := nI 2) rfl rfl ?_
  refine ev_iaddN rfl ?_
  refine ev_ialdN rfl rfl ?_ (hq := k_1 n) (hm := by omega) (hN := by omega)
  rw [hm1]
  refine ev_call rfl rfl ?_
  refine hA _ (fun m2 hI2 => ?_)
  change am_ev _ _ _ _ [_, _] _ _ _
  refine ev_icmp_eq (p2 := 1522) rfl rfl (fun cnd252 => ?_) (fun cnd252 => ?_)
  · skip
    exact hK m2 hI2
  · exact absurd rfl cnd252
set_option maxRecDepth 20000 in
theorem law_1 {xs : am_R} {d n i : Nat} {mem : am_M} {Q : am_P} (hI : Inv xs mem) (hn : n ≤ 384) (hi : i + 6 ≤ n) (hK : ∀ m2 : am_M, Inv xs m2 → am_ev kc_L_law (d + 200) 1522 [some (.ref 1), some (.ref 29), some (.ref 221), some (.int (nI i))] [] (am_SK n) m2 Q) : am_ev kc_L_law (d + 200) 257 [some (.ref 1), some (.ref 29), some (.ref 221), some (.int (nI i))] [] (am_SK n) mem Q := by
  refine ev_aload rfl rfl ?_
  refine ev_aload rfl rfl ?_
  refine ev_iload rfl rfl ?_
  refine ev_iconst (x := nI 1) rfl rfl ?_
  refine ev_iaddN rfl ?_
  refine ev_ialdN rfl rfl ?_ (hq := k_1 n) (hm := by omega) (hN := by omega)
  refine ev_aload rfl rfl ?_
  refine ev_iload rfl rfl ?_
  refine ev_iconst (x := nI 2) rfl rfl ?_
  refine ev_iaddN rfl ?_
  refine ev_ialdN rfl rfl ?_ (hq := k_1 n) (hm := by omega) (hN := by omega)
  refine ev_call rfl rfl ?_
  refine pub_use (fun Q h => pub_cabinetTold hI _ _ h) (fun rv m1 hm1 hA => ?_)
  change am_ev _ _ _ _ [_] _ _ _
  refine ev_aload rfl rfl ?_
  refine ev_aload rfl rfl ?_
  refine ev_iload rfl rfl ?_
  refine ev_iconst (x := nI 1) rfl rfl ?_
  refine ev_iaddN rfl ?_
  refine ev_ialdN rfl rfl ?_ (hq := k_1 n) (hm := by omega) (hN := by omega)
  rw [hm1]
  refine ev_aload rfl rfl ?_
  refine ev_iload rfl rfl ?_
  refine ev_iconst (x := nI 2) rfl rfl ?_
  refine ev_iaddN rfl ?_
  refine ev_ialdN rfl rfl ?_ (hq := k_1 n) (hm := by omega) (hN := by omega)
  rw [hm1]
  refine ev_call rfl rfl ?_
  refine hA _ (fun m2 hI2 => ?_)
  change am_ev _ _ _ _ [_, _] _ _ _
  refine ev_icmp_eq (p2 := 1522) rfl rfl (fun cnd285 => ?_) (fun cnd285 => ?_)
  · skip
    exact hK m2 hI2
  · exact absurd rfl cnd285
set_option maxRecDepth 20000 in
theorem law_2 {xs : am_R} {d n i : Nat} {mem : am_M} {Q : am_P} (hI : Inv xs mem) (hn : n ≤ 384) (hi : i + 6 ≤ n) (hK : ∀ m2 : am_M, Inv xs m2 → am_ev kc_L_law (d + 200) 1522 [some (.ref 1), some (.ref 29), some (.ref 221), some (.int (nI i))] [] (am_SK n) m2 Q) : am_ev kc_L_law (d + 200) 290 [some (.ref 1), some (.ref 29), some (.ref 221), some (.int (nI i))] [] (am_SK n) mem Q := by
  refine ev_aload rfl rfl ?_
  refine ev_aload rfl rfl ?_
  refine ev_iload rfl rfl ?_
  refine ev_iconst (x := nI 1) rfl rfl ?_
  refine ev_iaddN rfl ?_
  refine ev_ialdN rfl rfl ?_ (hq := k_1 n) (hm := by omega) (hN := by omega)
  refine ev_aload rfl rfl ?_
  refine ev_iload rfl rfl ?_
  refine ev_iconst (x := nI 2) rfl rfl ?_
  refine ev_iaddN rfl ?_
  refine ev_ialdN rfl rfl ?_ (hq := k_1 n) (hm := by omega) (hN := by omega)
  refine ev_call rfl rfl ?_
  refine pub_use (fun Q h => pub_shift hI _ _ h) (fun rv m1 hm1 hA => ?_)
  change am_ev _ _ _ _ [_] _ _ _
  refine ev_aload rfl rfl ?_
  refine ev_aload rfl rfl ?_
  refine ev_iload rfl rfl ?_
  refine ev_iconst (x := nI 1) rfl rfl ?_
  refine ev_iaddN rfl ?_
  refine ev_ialdN rfl rfl ?_ (hq := k_1 n) (hm := by omega) (hN := by omega)
  rw [hm1]
  refine ev_aload rfl rfl ?_
  refine ev_iload rfl rfl ?_
  refine ev_iconst (x := nI 2) rfl rfl ?_
  refine ev_iaddN rfl ?_
  refine ev_ialdN rfl rfl ?_ (hq := k_1 n) (hm := by omega) (hN := by omega)
  rw [hm1]
  refine ev_call rfl rfl ?_
  refine hA _ (fun m2 hI2 => ?_)
  change am_ev _ _ _ _ [_, _] _ _ _
  refine ev_icmp_eq (p2 := 1522) rfl rfl (fun cnd318 => ?_) (fun cnd318 => ?_)
  · skip
    exact hK m2 hI2
  · exact absurd rfl cnd318
set_option maxRecDepth 20000 in
theorem law_3 {xs : am_R} {d n i : Nat} {mem : am_M} {Q : am_P} (hI : Inv xs mem) (hn : n ≤ 384) (hi : i + 6 ≤ n) (hK : ∀ m2 : am_M, Inv xs m2 → am_ev kc_L_law (d + 200) 1522 [some (.ref 1), some (.ref 29), some (.ref 221), some (.int (nI i))] [] (am_SK n) m2 Q) : am_ev kc_L_law (d + 200) 323 [some (.ref 1), some (.ref 29), some (.ref 221), some (.int (nI i))] [] (am_SK n) mem Q := by
  refine ev_aload rfl rfl ?_
  refine ev_aload rfl rfl ?_
  refine ev_iload rfl rfl ?_
  refine ev_iconst (x := nI 1) rfl rfl ?_
  refine ev_iaddN rfl ?_
  refine ev_ialdN rfl rfl ?_ (hq := k_1 n) (hm := by omega) (hN := by omega)
  refine ev_aload rfl rfl ?_
  refine ev_iload rfl rfl ?_
  refine ev_iconst (x := nI 2) rfl rfl ?_
  refine ev_iaddN rfl ?_
  refine ev_ialdN rfl rfl ?_ (hq := k_1 n) (hm := by omega) (hN := by omega)
  refine ev_call rfl rfl ?_
  refine pub_use (fun Q h => pub_joint hI _ _ h) (fun rv m1 hm1 hA => ?_)
  change am_ev _ _ _ _ [_] _ _ _
  refine ev_aload rfl rfl ?_
  refine ev_aload rfl rfl ?_
  refine ev_iload rfl rfl ?_
  refine ev_iconst (x := nI 1) rfl rfl ?_
  refine ev_iaddN rfl ?_
  refine ev_ialdN rfl rfl ?_ (hq := k_1 n) (hm := by omega) (hN := by omega)
  rw [hm1]
  refine ev_aload rfl rfl ?_
  refine ev_iload rfl rfl ?_
  refine ev_iconst (x := nI 2) rfl rfl ?_
  refine ev_iaddN rfl ?_
  refine ev_ialdN rfl rfl ?_ (hq := k_1 n) (hm := by omega) (hN := by omega)
  rw [hm1]
  refine ev_call rfl rfl ?_
  refine hA _ (fun m2 hI2 => ?_)
  change am_ev _ _ _ _ [_, _] _ _ _
  refine ev_icmp_eq (p2 := 1522) rfl rfl (fun cnd351 => ?_) (fun cnd351 => ?_)
  · skip
    exact hK m2 hI2
  · exact absurd rfl cnd351
set_option maxRecDepth 20000 in
theorem law_4 {xs : am_R} {d n i : Nat} {mem : am_M} {Q : am_P} (hI : Inv xs mem) (hn : n ≤ 384) (hi : i + 6 ≤ n) (hK : ∀ m2 : am_M, Inv xs m2 → am_ev kc_L_law (d + 200) 1522 [some (.ref 1), some (.ref 29), some (.ref 221), some (.int (nI i))] [] (am_SK n) m2 Q) : am_ev kc_L_law (d + 200) 356 [some (.ref 1), some (.ref 29), some (.ref 221), some (.int (nI i))] [] (am_SK n) mem Q := by
  refine ev_aload rfl rfl ?_
  refine ev_aload rfl rfl ?_
  refine ev_iload rfl rfl ?_
  refine ev_iconst (x := nI 1) rfl rfl ?_
  refine ev_iaddN rfl ?_
  refine ev_ialdN rfl rfl ?_ (hq := k_1 n) (hm := by omega) (hN := by omega)
  refine ev_aload rfl rfl ?_
  refine ev_iload rfl rfl ?_
  refine ev_iconst (x := nI 2) rfl rfl ?_
  refine ev_iaddN rfl ?_
  refine ev_ialdN rfl rfl ?_ (hq := k_1 n) (hm := by omega) (hN := by omega)
  refine ev_call rfl rfl ?_
  refine pub_use (fun Q h => pub_jointTold hI _ _ h) (fun rv m1 hm1 hA => ?_)
  change am_ev _ _ _ _ [_] _ _ _
  refine ev_aload rfl rfl ?_
  refine ev_aload rfl rfl ?_
  refine ev_iload rfl rfl ?_
  refine ev_iconst (x := nI 1) rfl rfl ?_
  refine ev_iaddN rfl ?_
  refine ev_ialdN rfl rfl ?_ (hq := k_1 n) (hm := by omega) (hN := by omega)
  rw [hm1]
  refine ev_aload rfl rfl ?_
  refine ev_iload rfl rfl ?_
  refine ev_iconst (x := nI 2) rfl rfl ?_
  refine ev_iaddN rfl ?_
  refine ev_ialdN rfl rfl ?_ (hq := k_1 n) (hm := by omega) (hN := by omega)
  rw [hm1]
  refine ev_call rfl rfl ?_
  refine hA _ (fun m2 hI2 => ?_)
  change am_ev _ _ _ _ [_, _] _ _ _
  refine ev_icmp_eq (p2 := 1522) rfl rfl (fun cnd384 => ?_) (fun cnd384 => ?_)
  · skip
    exact hK m2 hI2
  · exact absurd rfl cnd384
set_option maxRecDepth 20000 in
theorem law_5 {xs : am_R} {d n i : Nat} {mem : am_M} {Q : am_P} (hI : Inv xs mem) (hn : n ≤ 384) (hi : i + 6 ≤ n) (hK : ∀ m2 : am_M, Inv xs m2 → am_ev kc_L_law (d + 200) 1522 [some (.ref 1), some (.ref 29), some (.ref 221), some (.int (nI i))] [] (am_SK n) m2 Q) : am_ev kc_L_law (d + 200) 389 [some (.ref 1), some (.ref 29), some (.ref 221), some (.int (nI i))] [] (am_SK n) mem Q := by
  refine ev_aload rfl rfl ?_
  refine ev_aload rfl rfl ?_
  refine ev_iload rfl rfl ?_
  refine ev_iconst (x := nI 1) rfl rfl ?_
  refine ev_iaddN rfl ?_
  refine ev_ialdN rfl rfl ?_ (hq := k_1 n) (hm := by omega) (hN := by omega)
  refine ev_aload rfl rfl ?_
  refine ev_iload rfl rfl ?_
  refine ev_iconst (x := nI 2) rfl rfl ?_
  refine ev_iaddN rfl ?_
  refine ev_ialdN rfl rfl ?_ (hq := k_1 n) (hm := by omega) (hN := by omega)
  refine ev_aload rfl rfl ?_
  refine ev_iload rfl rfl ?_
  refine ev_iconst (x := nI 3) rfl rfl ?_
  refine ev_iaddN rfl ?_
  refine ev_ialdN rfl rfl ?_ (hq := k_1 n) (hm := by omega) (hN := by omega)
  refine ev_call rfl rfl ?_
  refine pub_use (fun Q h => pub_lamp hI _ _ _ h) (fun rv m1 hm1 hA => ?_)
  change am_ev _ _ _ _ [_] _ _ _
  refine ev_aload rfl rfl ?_
  refine ev_aload rfl rfl ?_
  refine ev_iload rfl rfl ?_
  refine ev_iconst (x := nI 1) rfl rfl ?_
  refine ev_iaddN rfl ?_
  refine ev_ialdN rfl rfl ?_ (hq := k_1 n) (hm := by omega) (hN := by omega)
  rw [hm1]
  refine ev_aload rfl rfl ?_
  refine ev_iload rfl rfl ?_
  refine ev_iconst (x := nI 2) rfl rfl ?_
  refine ev_iaddN rfl ?_
  refine ev_ialdN rfl rfl ?_ (hq := k_1 n) (hm := by omega) (hN := by omega)
  rw [hm1]
  refine ev_aload rfl rfl ?_
  refine ev_iload rfl rfl ?_
  refine ev_iconst (x := nI 3) rfl rfl ?_
  refine ev_iaddN rfl ?_
  refine ev_ialdN rfl rfl ?_ (hq := k_1 n) (hm := by omega) (hN := by omega)
  rw [hm1]
  refine ev_call rfl rfl ?_
  refine hA _ (fun m2 hI2 => ?_)
  change am_ev _ _ _ _ [_, _] _ _ _
  refine ev_icmp_eq (p2 := 1522) rfl rfl (fun cnd427 => ?_) (fun cnd427 => ?_)
  · skip
    exact hK m2 hI2
  · exact absurd rfl cnd427
set_option maxRecDepth 20000 in
theorem law_6 {xs : am_R} {d n i : Nat} {mem : am_M} {Q : am_P} (hI : Inv xs mem) (hn : n ≤ 384) (hi : i + 6 ≤ n) (hK : ∀ m2 : am_M, Inv xs m2 → am_ev kc_L_law (d + 200) 1522 [some (.ref 1), some (.ref 29), some (.ref 221), some (.int (nI i))] [] (am_SK n) m2 Q) : am_ev kc_L_law (d + 200) 432 [some (.ref 1), some (.ref 29), some (.ref 221), some (.int (nI i))] [] (am_SK n) mem Q := by
  refine ev_aload rfl rfl ?_
  refine ev_aload rfl rfl ?_
  refine ev_iload rfl rfl ?_
  refine ev_iconst (x := nI 1) rfl rfl ?_
  refine ev_iaddN rfl ?_
  refine ev_ialdN rfl rfl ?_ (hq := k_1 n) (hm := by omega) (hN := by omega)
  refine ev_aload rfl rfl ?_
  refine ev_iload rfl rfl ?_
  refine ev_iconst (x := nI 2) rfl rfl ?_
  refine ev_iaddN rfl ?_
  refine ev_ialdN rfl rfl ?_ (hq := k_1 n) (hm := by omega) (hN := by omega)
  refine ev_call rfl rfl ?_
  refine pub_use (fun Q h => pub_told hI _ _ h) (fun rv m1 hm1 hA => ?_)
  change am_ev _ _ _ _ [_] _ _ _
  refine ev_aload rfl rfl ?_
  refine ev_aload rfl rfl ?_
  refine ev_iload rfl rfl ?_
  refine ev_iconst (x := nI 1) rfl rfl ?_
  refine ev_iaddN rfl ?_
  refine ev_ialdN rfl rfl ?_ (hq := k_1 n) (hm := by omega) (hN := by omega)
  rw [hm1]
  refine ev_aload rfl rfl ?_
  refine ev_iload rfl rfl ?_
  refine ev_iconst (x := nI 2) rfl rfl ?_
  refine ev_iaddN rfl ?_
  refine ev_ialdN rfl rfl ?_ (hq := k_1 n) (hm := by omega) (hN := by omega)
  rw [hm1]
  refine ev_call rfl rfl ?_
  refine hA _ (fun m2 hI2 => ?_)
  change am_ev _ _ _ _ [_, _] _ _ _
  refine ev_icmp_eq (p2 := 1522) rfl rfl (fun cnd460 => ?_) (fun cnd460 => ?_)
  · skip
    exact hK m2 hI2
  · exact absurd rfl cnd460
set_option maxRecDepth 20000 in
theorem law_7 {xs : am_R} {d n i : Nat} {mem : am_M} {Q : am_P} (hI : Inv xs mem) (hn : n ≤ 384) (hi : i + 6 ≤ n) (hK : ∀ m2 : am_M, Inv xs m2 → am_ev kc_L_law (d + 200) 1522 [some (.ref 1), some (.ref 29), some (.ref 221), some (.int (nI i))] [] (am_SK n) m2 Q) : am_ev kc_L_law (d + 200) 465 [some (.ref 1), some (.ref 29), some (.ref 221), some (.int (nI i))] [] (am_SK n) mem Q := by
  refine ev_aload rfl rfl ?_
  refine ev_aload rfl rfl ?_
  refine ev_iload rfl rfl ?_
  refine ev_iconst (x := nI 1) rfl rfl ?_
  refine ev_iaddN rfl ?_
  refine ev_ialdN rfl rfl ?_ (hq := k_1 n) (hm := by omega) (hN := by omega)
  refine ev_aload rfl rfl ?_
  refine ev_iload rfl rfl ?_
  refine ev_iconst (x := nI 2) rfl rfl ?_
  refine ev_iaddN rfl ?_
  refine ev_ialdN rfl rfl ?_ (hq := k_1 n) (hm := by omega) (hN := by omega)
  refine ev_call rfl rfl ?_
  refine pub_use (fun Q h => pub_as hI _ _ h) (fun rv m1 hm1 hA => ?_)
  change am_ev _ _ _ _ [_] _ _ _
  refine ev_aload rfl rfl ?_
  refine ev_aload rfl rfl ?_
  refine ev_iload rfl rfl ?_
  refine ev_iconst (x := nI 1) rfl rfl ?_
  refine ev_iaddN rfl ?_
  refine ev_ialdN rfl rfl ?_ (hq := k_1 n) (hm := by omega) (hN := by omega)
  rw [hm1]
  refine ev_aload rfl rfl ?_
  refine ev_iload rfl rfl ?_
  refine ev_iconst (x := nI 2) rfl rfl ?_
  refine ev_iaddN rfl ?_
  refine ev_ialdN rfl rfl ?_ (hq := k_1 n) (hm := by omega) (hN := by omega)
  rw [hm1]
  refine ev_call rfl rfl ?_
  refine hA _ (fun m2 hI2 => ?_)
  change am_ev _ _ _ _ [_, _] _ _ _
  refine ev_icmp_eq (p2 := 1522) rfl rfl (fun cnd493 => ?_) (fun cnd493 => ?_)
  · skip
    exact hK m2 hI2
  · exact absurd rfl cnd493
set_option maxRecDepth 20000 in
theorem law_8 {xs : am_R} {d n i : Nat} {mem : am_M} {Q : am_P} (hI : Inv xs mem) (hn : n ≤ 384) (hi : i + 6 ≤ n) (hK : ∀ m2 : am_M, Inv xs m2 → am_ev kc_L_law (d + 200) 1522 [some (.ref 1), some (.ref 29), some (.ref 221), some (.int (nI i))] [] (am_SK n) m2 Q) : am_ev kc_L_law (d + 200) 498 [some (.ref 1), some (.ref 29), some (.ref 221), some (.int (nI i))] [] (am_SK n) mem Q := by
  refine ev_aload rfl rfl ?_
  refine ev_aload rfl rfl ?_
  refine ev_iload rfl rfl ?_
  refine ev_iconst (x := nI 1) rfl rfl ?_
  refine ev_iaddN rfl ?_
  refine ev_ialdN rfl rfl ?_ (hq := k_1 n) (hm := by omega) (hN := by omega)
  refine ev_aload rfl rfl ?_
  refine ev_iload rfl rfl ?_
  refine ev_iconst (x := nI 2) rfl rfl ?_
  refine ev_iaddN rfl ?_
  refine ev_ialdN rfl rfl ?_ (hq := k_1 n) (hm := by omega) (hN := by omega)
  refine ev_call rfl rfl ?_
  refine pub_use (fun Q h => pub_change hI _ _ h) (fun rv m1 hm1 hA => ?_)
  change am_ev _ _ _ _ [_] _ _ _
  refine ev_aload rfl rfl ?_
  refine ev_aload rfl rfl ?_
  refine ev_iload rfl rfl ?_
  refine ev_iconst (x := nI 1) rfl rfl ?_
  refine ev_iaddN rfl ?_
  refine ev_ialdN rfl rfl ?_ (hq := k_1 n) (hm := by omega) (hN := by omega)
  rw [hm1]
  refine ev_aload rfl rfl ?_
  refine ev_iload rfl rfl ?_
  refine ev_iconst (x := nI 2) rfl rfl ?_
  refine ev_iaddN rfl ?_
  refine ev_ialdN rfl rfl ?_ (hq := k_1 n) (hm := by omega) (hN := by omega)
  rw [hm1]
  refine ev_call rfl rfl ?_
  refine hA _ (fun m2 hI2 => ?_)
  change am_ev _ _ _ _ [_, _] _ _ _
  refine ev_icmp_eq (p2 := 1522) rfl rfl (fun cnd526 => ?_) (fun cnd526 => ?_)
  · skip
    exact hK m2 hI2
  · exact absurd rfl cnd526
set_option maxRecDepth 20000 in
theorem law_9 {xs : am_R} {d n i : Nat} {mem : am_M} {Q : am_P} (hI : Inv xs mem) (hn : n ≤ 384) (hi : i + 6 ≤ n) (hK : ∀ m2 : am_M, Inv xs m2 → am_ev kc_L_law (d + 200) 1522 [some (.ref 1), some (.ref 29), some (.ref 221), some (.int (nI i))] [] (am_SK n) m2 Q) : am_ev kc_L_law (d + 200) 531 [some (.ref 1), some (.ref 29), some (.ref 221), some (.int (nI i))] [] (am_SK n) mem Q := by
  refine ev_aload rfl rfl ?_
  refine ev_aload rfl rfl ?_
  refine ev_iload rfl rfl ?_
  refine ev_iconst (x := nI 1) rfl rfl ?_
  refine ev_iaddN rfl ?_
  refine ev_ialdN rfl rfl ?_ (hq := k_1 n) (hm := by omega) (hN := by omega)
  refine ev_call rfl rfl ?_
  refine pub_use (fun Q h => pub_feast hI _ h) (fun rv m1 hm1 hA => ?_)
  change am_ev _ _ _ _ [_] _ _ _
  refine ev_aload rfl rfl ?_
  refine ev_aload rfl rfl ?_
  refine ev_iload rfl rfl ?_
  refine ev_iconst (x := nI 1) rfl rfl ?_
  refine ev_iaddN rfl ?_
  refine ev_ialdN rfl rfl ?_ (hq := k_1 n) (hm := by omega) (hN := by omega)
  rw [hm1]
  refine ev_call rfl rfl ?_
  refine hA _ (fun m2 hI2 => ?_)
  change am_ev _ _ _ _ [_, _] _ _ _
  refine ev_icmp_eq (p2 := 1522) rfl rfl (fun cnd549 => ?_) (fun cnd549 => ?_)
  · skip
    exact hK m2 hI2
  · exact absurd rfl cnd549
set_option maxRecDepth 20000 in
theorem law_10 {xs : am_R} {d n i : Nat} {mem : am_M} {Q : am_P} (hI : Inv xs mem) (hn : n ≤ 384) (hi : i + 6 ≤ n) (hK : ∀ m2 : am_M, Inv xs m2 → am_ev kc_L_law (d + 200) 1522 [some (.ref 1), some (.ref 29), some (.ref 221), some (.int (nI i))] [] (am_SK n) m2 Q) : am_ev kc_L_law (d + 200) 554 [some (.ref 1), some (.ref 29), some (.ref 221), some (.int (nI i))] [] (am_SK n) mem Q := by
  refine ev_aload rfl rfl ?_
  refine ev_aload rfl rfl ?_
  refine ev_iload rfl rfl ?_
  refine ev_iconst (x := nI 1) rfl rfl ?_
  refine ev_iaddN rfl ?_
  refine ev_ialdN rfl rfl ?_ (hq := k_1 n) (hm := by omega) (hN := by omega)
  refine ev_aload rfl rfl ?_
  refine ev_iload rfl rfl ?_
  refine ev_iconst (x := nI 2) rfl rfl ?_
  refine ev_iaddN rfl ?_
  refine ev_ialdN rfl rfl ?_ (hq := k_1 n) (hm := by omega) (hN := by omega)
  refine ev_call rfl rfl ?_
  refine pub_use (fun Q h => pub_breaks hI _ _ h) (fun rv m1 hm1 hA => ?_)
  change am_ev _ _ _ _ [_] _ _ _
  refine ev_aload rfl rfl ?_
  refine ev_aload rfl rfl ?_
  refine ev_iload rfl rfl ?_
  refine ev_iconst (x := nI 1) rfl rfl ?_
  refine ev_iaddN rfl ?_
  refine ev_ialdN rfl rfl ?_ (hq := k_1 n) (hm := by omega) (hN := by omega)
  rw [hm1]
  refine ev_aload rfl rfl ?_
  refine ev_iload rfl rfl ?_
  refine ev_iconst (x := nI 2) rfl rfl ?_
  refine ev_iaddN rfl ?_
  refine ev_ialdN rfl rfl ?_ (hq := k_1 n) (hm := by omega) (hN := by omega)
  rw [hm1]
  refine ev_call rfl rfl ?_
  refine hA _ (fun m2 hI2 => ?_)
  change am_ev _ _ _ _ [_, _] _ _ _
  refine ev_icmp_eq (p2 := 1522) rfl rfl (fun cnd582 => ?_) (fun cnd582 => ?_)
  · skip
    exact hK m2 hI2
  · exact absurd rfl cnd582
set_option maxRecDepth 20000 in
theorem law_11 {xs : am_R} {d n i : Nat} {mem : am_M} {Q : am_P} (hI : Inv xs mem) (hn : n ≤ 384) (hi : i + 6 ≤ n) (hK : ∀ m2 : am_M, Inv xs m2 → am_ev kc_L_law (d + 200) 1522 [some (.ref 1), some (.ref 29), some (.ref 221), some (.int (nI i))] [] (am_SK n) m2 Q) : am_ev kc_L_law (d + 200) 587 [some (.ref 1), some (.ref 29), some (.ref 221), some (.int (nI i))] [] (am_SK n) mem Q := by
  refine ev_aload rfl rfl ?_
  refine ev_aload rfl rfl ?_
  refine ev_iload rfl rfl ?_
  refine ev_iconst (x := nI 1) rfl rfl ?_
  refine ev_iaddN rfl ?_
  refine ev_ialdN rfl rfl ?_ (hq := k_1 n) (hm := by omega) (hN := by omega)
  refine ev_aload rfl rfl ?_
  refine ev_iload rfl rfl ?_
  refine ev_iconst (x := nI 2) rfl rfl ?_
  refine ev_iaddN rfl ?_
  refine ev_ialdN rfl rfl ?_ (hq := k_1 n) (hm := by omega) (hN := by omega)
  refine ev_call rfl rfl ?_
  refine pub_use (fun Q h => pub_mend hI _ _ h) (fun rv m1 hm1 hA => ?_)
  change am_ev _ _ _ _ [_] _ _ _
  refine ev_aload rfl rfl ?_
  refine ev_aload rfl rfl ?_
  refine ev_iload rfl rfl ?_
  refine ev_iconst (x := nI 1) rfl rfl ?_
  refine ev_iaddN rfl ?_
  refine ev_ialdN rfl rfl ?_ (hq := k_1 n) (hm := by omega) (hN := by omega)
  rw [hm1]
  refine ev_aload rfl rfl ?_
  refine ev_iload rfl rfl ?_
  refine ev_iconst (x := nI 2) rfl rfl ?_
  refine ev_iaddN rfl ?_
  refine ev_ialdN rfl rfl ?_ (hq := k_1 n) (hm := by omega) (hN := by omega)
  rw [hm1]
  refine ev_call rfl rfl ?_
  refine hA _ (fun m2 hI2 => ?_)
  change am_ev _ _ _ _ [_, _] _ _ _
  refine ev_icmp_eq (p2 := 1522) rfl rfl (fun cnd615 => ?_) (fun cnd615 => ?_)
  · skip
    exact hK m2 hI2
  · exact absurd rfl cnd615
set_option maxRecDepth 20000 in
theorem law_12 {xs : am_R} {d n i : Nat} {mem : am_M} {Q : am_P} (hI : Inv xs mem) (hn : n ≤ 384) (hi : i + 6 ≤ n) (hK : ∀ m2 : am_M, Inv xs m2 → am_ev kc_L_law (d + 200) 1522 [some (.ref 1), some (.ref 29), some (.ref 221), some (.int (nI i))] [] (am_SK n) m2 Q) : am_ev kc_L_law (d + 200) 620 [some (.ref 1), some (.ref 29), some (.ref 221), some (.int (nI i))] [] (am_SK n) mem Q := by
  refine ev_aload rfl rfl ?_
  refine ev_aload rfl rfl ?_
  refine ev_iload rfl rfl ?_
  refine ev_iconst (x := nI 1) rfl rfl ?_
  refine ev_iaddN rfl ?_
  refine ev_ialdN rfl rfl ?_ (hq := k_1 n) (hm := by omega) (hN := by omega)
  refine ev_call rfl rfl ?_
  refine pub_use (fun Q h => pub_hours hI _ h) (fun rv m1 hm1 hA => ?_)
  change am_ev _ _ _ _ [_] _ _ _
  refine ev_aload rfl rfl ?_
  refine ev_aload rfl rfl ?_
  refine ev_iload rfl rfl ?_
  refine ev_iconst (x := nI 1) rfl rfl ?_
  refine ev_iaddN rfl ?_
  refine ev_ialdN rfl rfl ?_ (hq := k_1 n) (hm := by omega) (hN := by omega)
  rw [hm1]
  refine ev_call rfl rfl ?_
  refine hA _ (fun m2 hI2 => ?_)
  change am_ev _ _ _ _ [_, _] _ _ _
  refine ev_icmp_eq (p2 := 1522) rfl rfl (fun cnd638 => ?_) (fun cnd638 => ?_)
  · skip
    exact hK m2 hI2
  · exact absurd rfl cnd638
set_option maxRecDepth 20000 in
theorem law_13 {xs : am_R} {d n i : Nat} {mem : am_M} {Q : am_P} (hI : Inv xs mem) (hn : n ≤ 384) (hi : i + 6 ≤ n) (hK : ∀ m2 : am_M, Inv xs m2 → am_ev kc_L_law (d + 200) 1522 [some (.ref 1), some (.ref 29), some (.ref 221), some (.int (nI i))] [] (am_SK n) m2 Q) : am_ev kc_L_law (d + 200) 643 [some (.ref 1), some (.ref 29), some (.ref 221), some (.int (nI i))] [] (am_SK n) mem Q := by
  refine ev_aload rfl rfl ?_
  refine ev_aload rfl rfl ?_
  refine ev_iload rfl rfl ?_
  refine ev_iconst (x := nI 1) rfl rfl ?_
  refine ev_iaddN rfl ?_
  refine ev_ialdN rfl rfl ?_ (hq := k_1 n) (hm := by omega) (hN := by omega)
  refine ev_call rfl rfl ?_
  refine pub_use (fun Q h => pub_bill hI _ h) (fun rv m1 hm1 hA => ?_)
  change am_ev _ _ _ _ [_] _ _ _
  refine ev_aload rfl rfl ?_
  refine ev_aload rfl rfl ?_
  refine ev_iload rfl rfl ?_
  refine ev_iconst (x := nI 1) rfl rfl ?_
  refine ev_iaddN rfl ?_
  refine ev_ialdN rfl rfl ?_ (hq := k_1 n) (hm := by omega) (hN := by omega)
  rw [hm1]
  refine ev_call rfl rfl ?_
  refine hA _ (fun m2 hI2 => ?_)
  change am_ev _ _ _ _ [_, _] _ _ _
  refine ev_icmp_eq (p2 := 1522) rfl rfl (fun cnd661 => ?_) (fun cnd661 => ?_)
  · skip
    exact hK m2 hI2
  · exact absurd rfl cnd661
set_option maxRecDepth 20000 in
theorem law_14 {xs : am_R} {d n i : Nat} {mem : am_M} {Q : am_P} (hI : Inv xs mem) (hn : n ≤ 384) (hi : i + 6 ≤ n) (hK : ∀ m2 : am_M, Inv xs m2 → am_ev kc_L_law (d + 200) 1522 [some (.ref 1), some (.ref 29), some (.ref 221), some (.int (nI i))] [] (am_SK n) m2 Q) : am_ev kc_L_law (d + 200) 666 [some (.ref 1), some (.ref 29), some (.ref 221), some (.int (nI i))] [] (am_SK n) mem Q := by
  refine ev_aload rfl rfl ?_
  refine ev_aload rfl rfl ?_
  refine ev_iload rfl rfl ?_
  refine ev_iconst (x := nI 1) rfl rfl ?_
  refine ev_iaddN rfl ?_
  refine ev_ialdN rfl rfl ?_ (hq := k_1 n) (hm := by omega) (hN := by omega)
  refine ev_call rfl rfl ?_
  refine pub_use (fun Q h => pub_light hI _ h) (fun rv m1 hm1 hA => ?_)
  change am_ev _ _ _ _ [_] _ _ _
  refine ev_aload rfl rfl ?_
  refine ev_aload rfl rfl ?_
  refine ev_iload rfl rfl ?_
  refine ev_iconst (x := nI 1) rfl rfl ?_
  refine ev_iaddN rfl ?_
  refine ev_ialdN rfl rfl ?_ (hq := k_1 n) (hm := by omega) (hN := by omega)
  rw [hm1]
  refine ev_call rfl rfl ?_
  refine hA _ (fun m2 hI2 => ?_)
  change am_ev _ _ _ _ [_, _] _ _ _
  refine ev_icmp_eq (p2 := 1522) rfl rfl (fun cnd684 => ?_) (fun cnd684 => ?_)
  · skip
    exact hK m2 hI2
  · exact absurd rfl cnd684
set_option maxRecDepth 20000 in
theorem law_15 {xs : am_R} {d n i : Nat} {mem : am_M} {Q : am_P} (hI : Inv xs mem) (hn : n ≤ 384) (hi : i + 6 ≤ n) (hK : ∀ m2 : am_M, Inv xs m2 → am_ev kc_L_law (d + 200) 1522 [some (.ref 1), some (.ref 29), some (.ref 221), some (.int (nI i))] [] (am_SK n) m2 Q) : am_ev kc_L_law (d + 200) 689 [some (.ref 1), some (.ref 29), some (.ref 221), some (.int (nI i))] [] (am_SK n) mem Q := by
  refine ev_aload rfl rfl ?_
  refine ev_call rfl rfl ?_
  refine pub_use (fun Q h => pub_tooDark hI h) (fun rv m1 hm1 hA => ?_)
  change am_ev _ _ _ _ [_] _ _ _
  refine ev_aload rfl rfl ?_
  refine ev_call rfl rfl ?_
  refine hA _ (fun m2 hI2 => ?_)
  change am_ev _ _ _ _ [_, _] _ _ _
  refine ev_icmp_eq (p2 := 1522) rfl rfl (fun cnd697 => ?_) (fun cnd697 => ?_)
  · skip
    exact hK m2 hI2
  · exact absurd rfl cnd697
set_option maxRecDepth 20000 in
theorem law_16 {xs : am_R} {d n i : Nat} {mem : am_M} {Q : am_P} (hI : Inv xs mem) (hn : n ≤ 384) (hi : i + 6 ≤ n) (hK : ∀ m2 : am_M, Inv xs m2 → am_ev kc_L_law (d + 200) 1522 [some (.ref 1), some (.ref 29), some (.ref 221), some (.int (nI i))] [] (am_SK n) m2 Q) : am_ev kc_L_law (d + 200) 702 [some (.ref 1), some (.ref 29), some (.ref 221), some (.int (nI i))] [] (am_SK n) mem Q := by
  refine ev_aload rfl rfl ?_
  refine ev_aload rfl rfl ?_
  refine ev_iload rfl rfl ?_
  refine ev_iconst (x := nI 1) rfl rfl ?_
  refine ev_iaddN rfl ?_
  refine ev_ialdN rfl rfl ?_ (hq := k_1 n) (hm := by omega) (hN := by omega)
  refine ev_aload rfl rfl ?_
  refine ev_iload rfl rfl ?_
  refine ev_iconst (x := nI 2) rfl rfl ?_
  refine ev_iaddN rfl ?_
  refine ev_ialdN rfl rfl ?_ (hq := k_1 n) (hm := by omega) (hN := by omega)
  refine ev_aload rfl rfl ?_
  refine ev_iload rfl rfl ?_
  refine ev_iconst (x := nI 3) rfl rfl ?_
  refine ev_iaddN rfl ?_
  refine ev_ialdN rfl rfl ?_ (hq := k_1 n) (hm := by omega) (hN := by omega)
  refine ev_call rfl rfl ?_
  refine pub_use (fun Q h => pub_feed hI _ _ _ h) (fun rv m1 hm1 hA => ?_)
  change am_ev _ _ _ _ [_] _ _ _
  refine ev_aload rfl rfl ?_
  refine ev_aload rfl rfl ?_
  refine ev_iload rfl rfl ?_
  refine ev_iconst (x := nI 1) rfl rfl ?_
  refine ev_iaddN rfl ?_
  refine ev_ialdN rfl rfl ?_ (hq := k_1 n) (hm := by omega) (hN := by omega)
  rw [hm1]
  refine ev_aload rfl rfl ?_
  refine ev_iload rfl rfl ?_
  refine ev_iconst (x := nI 2) rfl rfl ?_
  refine ev_iaddN rfl ?_
  refine ev_ialdN rfl rfl ?_ (hq := k_1 n) (hm := by omega) (hN := by omega)
  rw [hm1]
  refine ev_aload rfl rfl ?_
  refine ev_iload rfl rfl ?_
  refine ev_iconst (x := nI 3) rfl rfl ?_
  refine ev_iaddN rfl ?_
  refine ev_ialdN rfl rfl ?_ (hq := k_1 n) (hm := by omega) (hN := by omega)
  rw [hm1]
  refine ev_call rfl rfl ?_
  refine hA _ (fun m2 hI2 => ?_)
  change am_ev _ _ _ _ [_, _] _ _ _
  refine ev_icmp_eq (p2 := 1522) rfl rfl (fun cnd740 => ?_) (fun cnd740 => ?_)
  · skip
    exact hK m2 hI2
  · exact absurd rfl cnd740
set_option maxRecDepth 20000 in
theorem law_17 {xs : am_R} {d n i : Nat} {mem : am_M} {Q : am_P} (hI : Inv xs mem) (hn : n ≤ 384) (hi : i + 6 ≤ n) (hK : ∀ m2 : am_M, Inv xs m2 → am_ev kc_L_law (d + 200) 1522 [some (.ref 1), some (.ref 29), some (.ref 221), some (.int (nI i))] [] (am_SK n) m2 Q) : am_ev kc_L_law (d + 200) 745 [some (.ref 1), some (.ref 29), some (.ref 221), some (.int (nI i))] [] (am_SK n) mem Q := by
  refine ev_aload rfl rfl ?_
  refine ev_aload rfl rfl ?_
  refine ev_iload rfl rfl ?_
  refine ev_iconst (x := nI 1) rfl rfl ?_
  refine ev_iaddN rfl ?_
  refine ev_ialdN rfl rfl ?_ (hq := k_1 n) (hm := by omega) (hN := by omega)
  refine ev_call rfl rfl ?_
  refine pub_use (fun Q h => pub_trim hI _ h) (fun rv m1 hm1 hA => ?_)
  change am_ev _ _ _ _ [_] _ _ _
  refine ev_aload rfl rfl ?_
  refine ev_aload rfl rfl ?_
  refine ev_iload rfl rfl ?_
  refine ev_iconst (x := nI 1) rfl rfl ?_
  refine ev_iaddN rfl ?_
  refine ev_ialdN rfl rfl ?_ (hq := k_1 n) (hm := by omega) (hN := by omega)
  rw [hm1]
  refine ev_call rfl rfl ?_
  refine hA _ (fun m2 hI2 => ?_)
  change am_ev _ _ _ _ [_, _] _ _ _
  refine ev_icmp_eq (p2 := 1522) rfl rfl (fun cnd763 => ?_) (fun cnd763 => ?_)
  · skip
    exact hK m2 hI2
  · exact absurd rfl cnd763
set_option maxRecDepth 20000 in
theorem law_18 {xs : am_R} {d n i : Nat} {mem : am_M} {Q : am_P} (hX : PubText xs d n) (hI : Inv xs mem) (hn : n ≤ 384) (hi : i + 6 ≤ n) (hK : ∀ m2 : am_M, Inv xs m2 → am_ev kc_L_law (d + 200) 1522 [some (.ref 1), some (.ref 29), some (.ref 221), some (.int (nI i))] [] (am_SK n) m2 Q) : am_ev kc_L_law (d + 200) 768 [some (.ref 1), some (.ref 29), some (.ref 221), some (.int (nI i))] [] (am_SK n) mem Q := by
  refine ev_aload rfl rfl ?_
  refine ev_call rfl rfl ?_
  refine pub_use (fun Q h => hX mem hI Q h) (fun rv m1 hm1 hA => ?_)
  change am_ev _ _ _ _ [_] _ _ _
  refine ev_aload rfl rfl ?_
  refine ev_call rfl rfl ?_
  refine hA _ (fun m2 hI2 => ?_)
  change am_ev _ _ _ _ [_, _] _ _ _
  refine ev_icmp_eq (p2 := 1522) rfl rfl (fun cnd776 => ?_) (fun cnd776 => ?_)
  · skip
    exact hK m2 hI2
  · exact absurd rfl cnd776
set_option maxRecDepth 20000 in
theorem law_19 {xs : am_R} {d n i : Nat} {mem : am_M} {Q : am_P} (hI : Inv xs mem) (hn : n ≤ 384) (hi : i + 6 ≤ n) (hK : ∀ m2 : am_M, Inv xs m2 → am_ev kc_L_law (d + 200) 1522 [some (.ref 1), some (.ref 29), some (.ref 221), some (.int (nI i))] [] (am_SK n) m2 Q) : am_ev kc_L_law (d + 200) 781 [some (.ref 1), some (.ref 29), some (.ref 221), some (.int (nI i))] [] (am_SK n) mem Q := by
  refine ev_aload rfl rfl ?_
  refine ev_aload rfl rfl ?_
  refine ev_iload rfl rfl ?_
  refine ev_iconst (x := nI 1) rfl rfl ?_
  refine ev_iaddN rfl ?_
  refine ev_ialdN rfl rfl ?_ (hq := k_1 n) (hm := by omega) (hN := by omega)
  refine ev_aload rfl rfl ?_
  refine ev_iload rfl rfl ?_
  refine ev_iconst (x := nI 2) rfl rfl ?_
  refine ev_iaddN rfl ?_
  refine ev_ialdN rfl rfl ?_ (hq := k_1 n) (hm := by omega) (hN := by omega)
  refine ev_call rfl rfl ?_
  refine pub_use (fun Q h => pub_textTold hI _ _ h) (fun rv m1 hm1 hA => ?_)
  change am_ev _ _ _ _ [_] _ _ _
  refine ev_aload rfl rfl ?_
  refine ev_aload rfl rfl ?_
  refine ev_iload rfl rfl ?_
  refine ev_iconst (x := nI 1) rfl rfl ?_
  refine ev_iaddN rfl ?_
  refine ev_ialdN rfl rfl ?_ (hq := k_1 n) (hm := by omega) (hN := by omega)
  rw [hm1]
  refine ev_aload rfl rfl ?_
  refine ev_iload rfl rfl ?_
  refine ev_iconst (x := nI 2) rfl rfl ?_
  refine ev_iaddN rfl ?_
  refine ev_ialdN rfl rfl ?_ (hq := k_1 n) (hm := by omega) (hN := by omega)
  rw [hm1]
  refine ev_call rfl rfl ?_
  refine hA _ (fun m2 hI2 => ?_)
  change am_ev _ _ _ _ [_, _] _ _ _
  refine ev_icmp_eq (p2 := 1522) rfl rfl (fun cnd809 => ?_) (fun cnd809 => ?_)
  · skip
    exact hK m2 hI2
  · exact absurd rfl cnd809
set_option maxRecDepth 20000 in
theorem law_20 {xs : am_R} {d n i : Nat} {mem : am_M} {Q : am_P} (hI : Inv xs mem) (hn : n ≤ 384) (hi : i + 6 ≤ n) (hK : ∀ m2 : am_M, Inv xs m2 → am_ev kc_L_law (d + 200) 1522 [some (.ref 1), some (.ref 29), some (.ref 221), some (.int (nI i))] [] (am_SK n) m2 Q) : am_ev kc_L_law (d + 200) 814 [some (.ref 1), some (.ref 29), some (.ref 221), some (.int (nI i))] [] (am_SK n) mem Q := by
  refine ev_aload rfl rfl ?_
  refine ev_aload rfl rfl ?_
  refine ev_iload rfl rfl ?_
  refine ev_iconst (x := nI 1) rfl rfl ?_
  refine ev_iaddN rfl ?_
  refine ev_ialdN rfl rfl ?_ (hq := k_1 n) (hm := by omega) (hN := by omega)
  refine ev_call rfl rfl ?_
  refine pub_use (fun Q h => pub_why hI _ h) (fun rv m1 hm1 hA => ?_)
  change am_ev _ _ _ _ [_] _ _ _
  refine ev_aload rfl rfl ?_
  refine ev_aload rfl rfl ?_
  refine ev_iload rfl rfl ?_
  refine ev_iconst (x := nI 1) rfl rfl ?_
  refine ev_iaddN rfl ?_
  refine ev_ialdN rfl rfl ?_ (hq := k_1 n) (hm := by omega) (hN := by omega)
  rw [hm1]
  refine ev_call rfl rfl ?_
  refine hA _ (fun m2 hI2 => ?_)
  change am_ev _ _ _ _ [_, _] _ _ _
  refine ev_icmp_eq (p2 := 1522) rfl rfl (fun cnd832 => ?_) (fun cnd832 => ?_)
  · skip
    exact hK m2 hI2
  · exact absurd rfl cnd832
set_option maxRecDepth 20000 in
theorem law_21 {xs : am_R} {d n i : Nat} {mem : am_M} {Q : am_P} (hI : Inv xs mem) (hn : n ≤ 384) (hi : i + 6 ≤ n) (hK : ∀ m2 : am_M, Inv xs m2 → am_ev kc_L_law (d + 200) 1522 [some (.ref 1), some (.ref 29), some (.ref 221), some (.int (nI i))] [] (am_SK n) m2 Q) : am_ev kc_L_law (d + 200) 837 [some (.ref 1), some (.ref 29), some (.ref 221), some (.int (nI i))] [] (am_SK n) mem Q := by
  refine ev_aload rfl rfl ?_
  refine ev_aload rfl rfl ?_
  refine ev_iload rfl rfl ?_
  refine ev_iconst (x := nI 1) rfl rfl ?_
  refine ev_iaddN rfl ?_
  refine ev_ialdN rfl rfl ?_ (hq := k_1 n) (hm := by omega) (hN := by omega)
  refine ev_aload rfl rfl ?_
  refine ev_iload rfl rfl ?_
  refine ev_iconst (x := nI 2) rfl rfl ?_
  refine ev_iaddN rfl ?_
  refine ev_ialdN rfl rfl ?_ (hq := k_1 n) (hm := by omega) (hN := by omega)
  refine ev_if_eq (p2 := 855) rfl rfl (fun cnd848 => ?_) (fun cnd848 => ?_)
  · skip
    refine ev_iconst (x := nI 0) rfl rfl ?_
    refine ev_call rfl rfl ?_
    refine pub_use (fun Q h => pub_dark hI _ _ (by first | exact Or.inl rfl | exact Or.inr rfl) h) (fun rv m1 hm1 hA => ?_)
    change am_ev _ _ _ _ [_] _ _ _
    refine ev_aload rfl rfl ?_
    refine ev_aload rfl rfl ?_
    refine ev_iload rfl rfl ?_
    refine ev_iconst (x := nI 1) rfl rfl ?_
    refine ev_iaddN rfl ?_
    refine ev_ialdN rfl rfl ?_ (hq := k_1 n) (hm := by omega) (hN := by omega)
    rw [hm1]
    refine ev_aload rfl rfl ?_
    refine ev_iload rfl rfl ?_
    refine ev_iconst (x := nI 2) rfl rfl ?_
    refine ev_iaddN rfl ?_
    refine ev_ialdN rfl rfl ?_ (hq := k_1 n) (hm := by omega) (hN := by omega)
    rw [hm1]
    refine ev_if_eq (p2 := 877) rfl rfl (fun cnd870 => ?_) (fun cnd870 => ?_)
    · skip
      refine ev_iconst (x := nI 0) rfl rfl ?_
      first
      | exact absurd cnd848 cnd870
      | exact absurd cnd870 cnd848
      | (refine ev_call rfl rfl ?_
         refine hA _ (fun m2 hI2 => ?_)
         change am_ev _ _ _ _ [_, _] _ _ _
         refine ev_icmp_eq (p2 := 1522) rfl rfl (fun _ => ?_) (fun z => absurd rfl z)
         exact hK m2 hI2)
    · skip
      refine ev_iconst (x := nI 1) rfl rfl ?_
      refine ev_goto (p2 := 878) rfl rfl ?_
      first
      | exact absurd cnd848 cnd870
      | exact absurd cnd870 cnd848
      | (refine ev_call rfl rfl ?_
         refine hA _ (fun m2 hI2 => ?_)
         change am_ev _ _ _ _ [_, _] _ _ _
         refine ev_icmp_eq (p2 := 1522) rfl rfl (fun _ => ?_) (fun z => absurd rfl z)
         exact hK m2 hI2)
  · skip
    refine ev_iconst (x := nI 1) rfl rfl ?_
    refine ev_goto (p2 := 856) rfl rfl ?_
    refine ev_call rfl rfl ?_
    refine pub_use (fun Q h => pub_dark hI _ _ (by first | exact Or.inl rfl | exact Or.inr rfl) h) (fun rv m1 hm1 hA => ?_)
    change am_ev _ _ _ _ [_] _ _ _
    refine ev_aload rfl rfl ?_
    refine ev_aload rfl rfl ?_
    refine ev_iload rfl rfl ?_
    refine ev_iconst (x := nI 1) rfl rfl ?_
    refine ev_iaddN rfl ?_
    refine ev_ialdN rfl rfl ?_ (hq := k_1 n) (hm := by omega) (hN := by omega)
    rw [hm1]
    refine ev_aload rfl rfl ?_
    refine ev_iload rfl rfl ?_
    refine ev_iconst (x := nI 2) rfl rfl ?_
    refine ev_iaddN rfl ?_
    refine ev_ialdN rfl rfl ?_ (hq := k_1 n) (hm := by omega) (hN := by omega)
    rw [hm1]
    refine ev_if_eq (p2 := 877) rfl rfl (fun cnd870 => ?_) (fun cnd870 => ?_)
    · skip
      refine ev_iconst (x := nI 0) rfl rfl ?_
      first
      | exact absurd cnd848 cnd870
      | exact absurd cnd870 cnd848
      | (refine ev_call rfl rfl ?_
         refine hA _ (fun m2 hI2 => ?_)
         change am_ev _ _ _ _ [_, _] _ _ _
         refine ev_icmp_eq (p2 := 1522) rfl rfl (fun _ => ?_) (fun z => absurd rfl z)
         exact hK m2 hI2)
    · skip
      refine ev_iconst (x := nI 1) rfl rfl ?_
      refine ev_goto (p2 := 878) rfl rfl ?_
      first
      | exact absurd cnd848 cnd870
      | exact absurd cnd870 cnd848
      | (refine ev_call rfl rfl ?_
         refine hA _ (fun m2 hI2 => ?_)
         change am_ev _ _ _ _ [_, _] _ _ _
         refine ev_icmp_eq (p2 := 1522) rfl rfl (fun _ => ?_) (fun z => absurd rfl z)
         exact hK m2 hI2)
set_option maxRecDepth 20000 in
theorem law_22 {xs : am_R} {d n i : Nat} {mem : am_M} {Q : am_P} (hI : Inv xs mem) (hn : n ≤ 384) (hi : i + 6 ≤ n) (hK : ∀ m2 : am_M, Inv xs m2 → am_ev kc_L_law (d + 200) 1522 [some (.ref 1), some (.ref 29), some (.ref 221), some (.int (nI i))] [] (am_SK n) m2 Q) : am_ev kc_L_law (d + 200) 886 [some (.ref 1), some (.ref 29), some (.ref 221), some (.int (nI i))] [] (am_SK n) mem Q := by
  refine ev_aload rfl rfl ?_
  refine ev_aload rfl rfl ?_
  refine ev_iload rfl rfl ?_
  refine ev_iconst (x := nI 1) rfl rfl ?_
  refine ev_iaddN rfl ?_
  refine ev_ialdN rfl rfl ?_ (hq := k_1 n) (hm := by omega) (hN := by omega)
  refine ev_aload rfl rfl ?_
  refine ev_iload rfl rfl ?_
  refine ev_iconst (x := nI 2) rfl rfl ?_
  refine ev_iaddN rfl ?_
  refine ev_ialdN rfl rfl ?_ (hq := k_1 n) (hm := by omega) (hN := by omega)
  refine ev_call rfl rfl ?_
  refine pub_use (fun Q h => pub_blame hI _ _ h) (fun rv m1 hm1 hA => ?_)
  change am_ev _ _ _ _ [_] _ _ _
  refine ev_aload rfl rfl ?_
  refine ev_aload rfl rfl ?_
  refine ev_iload rfl rfl ?_
  refine ev_iconst (x := nI 1) rfl rfl ?_
  refine ev_iaddN rfl ?_
  refine ev_ialdN rfl rfl ?_ (hq := k_1 n) (hm := by omega) (hN := by omega)
  rw [hm1]
  refine ev_aload rfl rfl ?_
  refine ev_iload rfl rfl ?_
  refine ev_iconst (x := nI 2) rfl rfl ?_
  refine ev_iaddN rfl ?_
  refine ev_ialdN rfl rfl ?_ (hq := k_1 n) (hm := by omega) (hN := by omega)
  rw [hm1]
  refine ev_call rfl rfl ?_
  refine hA _ (fun m2 hI2 => ?_)
  change am_ev _ _ _ _ [_, _] _ _ _
  refine ev_icmp_eq (p2 := 1522) rfl rfl (fun cnd914 => ?_) (fun cnd914 => ?_)
  · skip
    exact hK m2 hI2
  · exact absurd rfl cnd914
set_option maxRecDepth 20000 in
theorem law_23 {xs : am_R} {d n i : Nat} {mem : am_M} {Q : am_P} (hI : Inv xs mem) (hn : n ≤ 384) (hi : i + 6 ≤ n) (hK : ∀ m2 : am_M, Inv xs m2 → am_ev kc_L_law (d + 200) 1522 [some (.ref 1), some (.ref 29), some (.ref 221), some (.int (nI i))] [] (am_SK n) m2 Q) : am_ev kc_L_law (d + 200) 919 [some (.ref 1), some (.ref 29), some (.ref 221), some (.int (nI i))] [] (am_SK n) mem Q := by
  refine ev_aload rfl rfl ?_
  refine ev_call rfl rfl ?_
  refine pub_use (fun Q h => pub_blames hI h) (fun rv m1 hm1 hA => ?_)
  change am_ev _ _ _ _ [_] _ _ _
  refine ev_aload rfl rfl ?_
  refine ev_call rfl rfl ?_
  refine hA _ (fun m2 hI2 => ?_)
  change am_ev _ _ _ _ [_, _] _ _ _
  refine ev_icmp_eq (p2 := 1522) rfl rfl (fun cnd927 => ?_) (fun cnd927 => ?_)
  · skip
    exact hK m2 hI2
  · exact absurd rfl cnd927
set_option maxRecDepth 20000 in
theorem law_24 {xs : am_R} {d n i : Nat} {mem : am_M} {Q : am_P} (hI : Inv xs mem) (hn : n ≤ 384) (hi : i + 6 ≤ n) (hK : ∀ m2 : am_M, Inv xs m2 → am_ev kc_L_law (d + 200) 1522 [some (.ref 1), some (.ref 29), some (.ref 221), some (.int (nI i))] [] (am_SK n) m2 Q) : am_ev kc_L_law (d + 200) 932 [some (.ref 1), some (.ref 29), some (.ref 221), some (.int (nI i))] [] (am_SK n) mem Q := by
  refine ev_aload rfl rfl ?_
  refine ev_aload rfl rfl ?_
  refine ev_iload rfl rfl ?_
  refine ev_iconst (x := nI 1) rfl rfl ?_
  refine ev_iaddN rfl ?_
  refine ev_ialdN rfl rfl ?_ (hq := k_1 n) (hm := by omega) (hN := by omega)
  refine ev_call rfl rfl ?_
  refine pub_use (fun Q h => pub_choose hI _ h) (fun rv m1 hm1 hA => ?_)
  change am_ev _ _ _ _ [_] _ _ _
  refine ev_aload rfl rfl ?_
  refine ev_aload rfl rfl ?_
  refine ev_iload rfl rfl ?_
  refine ev_iconst (x := nI 1) rfl rfl ?_
  refine ev_iaddN rfl ?_
  refine ev_ialdN rfl rfl ?_ (hq := k_1 n) (hm := by omega) (hN := by omega)
  rw [hm1]
  refine ev_call rfl rfl ?_
  refine hA _ (fun m2 hI2 => ?_)
  change am_ev _ _ _ _ [_, _] _ _ _
  refine ev_icmp_eq (p2 := 1522) rfl rfl (fun cnd950 => ?_) (fun cnd950 => ?_)
  · skip
    exact hK m2 hI2
  · exact absurd rfl cnd950
set_option maxRecDepth 20000 in
theorem law_25 {xs : am_R} {d n i : Nat} {mem : am_M} {Q : am_P} (hI : Inv xs mem) (hn : n ≤ 384) (hi : i + 6 ≤ n) (hK : ∀ m2 : am_M, Inv xs m2 → am_ev kc_L_law (d + 200) 1522 [some (.ref 1), some (.ref 29), some (.ref 221), some (.int (nI i))] [] (am_SK n) m2 Q) : am_ev kc_L_law (d + 200) 955 [some (.ref 1), some (.ref 29), some (.ref 221), some (.int (nI i))] [] (am_SK n) mem Q := by
  refine ev_aload rfl rfl ?_
  refine ev_call rfl rfl ?_
  refine pub_use (fun Q h => pub_clear hI h) (fun rv m1 hm1 hA => ?_)
  change am_ev _ _ _ _ [_] _ _ _
  refine ev_aload rfl rfl ?_
  refine ev_call rfl rfl ?_
  refine hA _ (fun m2 hI2 => ?_)
  change am_ev _ _ _ _ [_, _] _ _ _
  refine ev_icmp_eq (p2 := 1522) rfl rfl (fun cnd963 => ?_) (fun cnd963 => ?_)
  · skip
    exact hK m2 hI2
  · exact absurd rfl cnd963
set_option maxRecDepth 20000 in
theorem law_26 {xs : am_R} {d n i : Nat} {mem : am_M} {Q : am_P} (hI : Inv xs mem) (hn : n ≤ 384) (hi : i + 6 ≤ n) (hK : ∀ m2 : am_M, Inv xs m2 → am_ev kc_L_law (d + 200) 1522 [some (.ref 1), some (.ref 29), some (.ref 221), some (.int (nI i))] [] (am_SK n) m2 Q) : am_ev kc_L_law (d + 200) 968 [some (.ref 1), some (.ref 29), some (.ref 221), some (.int (nI i))] [] (am_SK n) mem Q := by
  refine ev_aload rfl rfl ?_
  refine ev_aload rfl rfl ?_
  refine ev_iload rfl rfl ?_
  refine ev_iconst (x := nI 1) rfl rfl ?_
  refine ev_iaddN rfl ?_
  refine ev_ialdN rfl rfl ?_ (hq := k_1 n) (hm := by omega) (hN := by omega)
  refine ev_call rfl rfl ?_
  refine pub_use (fun Q h => pub_guess hI _ h) (fun rv m1 hm1 hA => ?_)
  change am_ev _ _ _ _ [_] _ _ _
  refine ev_aload rfl rfl ?_
  refine ev_aload rfl rfl ?_
  refine ev_iload rfl rfl ?_
  refine ev_iconst (x := nI 1) rfl rfl ?_
  refine ev_iaddN rfl ?_
  refine ev_ialdN rfl rfl ?_ (hq := k_1 n) (hm := by omega) (hN := by omega)
  rw [hm1]
  refine ev_call rfl rfl ?_
  refine hA _ (fun m2 hI2 => ?_)
  change am_ev _ _ _ _ [_, _] _ _ _
  refine ev_icmp_eq (p2 := 1522) rfl rfl (fun cnd986 => ?_) (fun cnd986 => ?_)
  · skip
    exact hK m2 hI2
  · exact absurd rfl cnd986
set_option maxRecDepth 20000 in
theorem law_27 {xs : am_R} {d n i : Nat} {mem : am_M} {Q : am_P} (hI : Inv xs mem) (hn : n ≤ 384) (hi : i + 6 ≤ n) (hK : ∀ m2 : am_M, Inv xs m2 → am_ev kc_L_law (d + 200) 1522 [some (.ref 1), some (.ref 29), some (.ref 221), some (.int (nI i))] [] (am_SK n) m2 Q) : am_ev kc_L_law (d + 200) 991 [some (.ref 1), some (.ref 29), some (.ref 221), some (.int (nI i))] [] (am_SK n) mem Q := by
  refine ev_aload rfl rfl ?_
  refine ev_aload rfl rfl ?_
  refine ev_iload rfl rfl ?_
  refine ev_iconst (x := nI 1) rfl rfl ?_
  refine ev_iaddN rfl ?_
  refine ev_ialdN rfl rfl ?_ (hq := k_1 n) (hm := by omega) (hN := by omega)
  refine ev_call rfl rfl ?_
  refine pub_use (fun Q h => pub_stop hI _ h) (fun rv m1 hm1 hA => ?_)
  change am_ev _ _ _ _ [_] _ _ _
  refine ev_aload rfl rfl ?_
  refine ev_aload rfl rfl ?_
  refine ev_iload rfl rfl ?_
  refine ev_iconst (x := nI 1) rfl rfl ?_
  refine ev_iaddN rfl ?_
  refine ev_ialdN rfl rfl ?_ (hq := k_1 n) (hm := by omega) (hN := by omega)
  rw [hm1]
  refine ev_call rfl rfl ?_
  refine hA _ (fun m2 hI2 => ?_)
  change am_ev _ _ _ _ [_, _] _ _ _
  refine ev_icmp_eq (p2 := 1522) rfl rfl (fun cnd1009 => ?_) (fun cnd1009 => ?_)
  · skip
    exact hK m2 hI2
  · exact absurd rfl cnd1009
set_option maxRecDepth 20000 in
theorem law_28 {xs : am_R} {d n i : Nat} {mem : am_M} {Q : am_P} (hI : Inv xs mem) (hn : n ≤ 384) (hi : i + 6 ≤ n) (hK : ∀ m2 : am_M, Inv xs m2 → am_ev kc_L_law (d + 200) 1522 [some (.ref 1), some (.ref 29), some (.ref 221), some (.int (nI i))] [] (am_SK n) m2 Q) : am_ev kc_L_law (d + 200) 1014 [some (.ref 1), some (.ref 29), some (.ref 221), some (.int (nI i))] [] (am_SK n) mem Q := by
  refine ev_aload rfl rfl ?_
  refine ev_call rfl rfl ?_
  refine pub_use (fun Q h => pub_home hI h) (fun rv m1 hm1 hA => ?_)
  change am_ev _ _ _ _ [_] _ _ _
  refine ev_aload rfl rfl ?_
  refine ev_call rfl rfl ?_
  refine hA _ (fun m2 hI2 => ?_)
  change am_ev _ _ _ _ [_, _] _ _ _
  refine ev_icmp_eq (p2 := 1522) rfl rfl (fun cnd1022 => ?_) (fun cnd1022 => ?_)
  · skip
    exact hK m2 hI2
  · exact absurd rfl cnd1022
set_option maxRecDepth 20000 in
theorem law_29 {xs : am_R} {d n i : Nat} {mem : am_M} {Q : am_P} (hI : Inv xs mem) (hn : n ≤ 384) (hi : i + 6 ≤ n) (hK : ∀ m2 : am_M, Inv xs m2 → am_ev kc_L_law (d + 200) 1522 [some (.ref 1), some (.ref 29), some (.ref 221), some (.int (nI i))] [] (am_SK n) m2 Q) : am_ev kc_L_law (d + 200) 1027 [some (.ref 1), some (.ref 29), some (.ref 221), some (.int (nI i))] [] (am_SK n) mem Q := by
  refine ev_aload rfl rfl ?_
  refine ev_aload rfl rfl ?_
  refine ev_iload rfl rfl ?_
  refine ev_iconst (x := nI 1) rfl rfl ?_
  refine ev_iaddN rfl ?_
  refine ev_ialdN rfl rfl ?_ (hq := k_1 n) (hm := by omega) (hN := by omega)
  refine ev_aload rfl rfl ?_
  refine ev_iload rfl rfl ?_
  refine ev_iconst (x := nI 2) rfl rfl ?_
  refine ev_iaddN rfl ?_
  refine ev_ialdN rfl rfl ?_ (hq := k_1 n) (hm := by omega) (hN := by omega)
  refine ev_call rfl rfl ?_
  refine pub_use (fun Q h => pub_round hI _ _ h) (fun rv m1 hm1 hA => ?_)
  change am_ev _ _ _ _ [_] _ _ _
  refine ev_aload rfl rfl ?_
  refine ev_aload rfl rfl ?_
  refine ev_iload rfl rfl ?_
  refine ev_iconst (x := nI 1) rfl rfl ?_
  refine ev_iaddN rfl ?_
  refine ev_ialdN rfl rfl ?_ (hq := k_1 n) (hm := by omega) (hN := by omega)
  rw [hm1]
  refine ev_aload rfl rfl ?_
  refine ev_iload rfl rfl ?_
  refine ev_iconst (x := nI 2) rfl rfl ?_
  refine ev_iaddN rfl ?_
  refine ev_ialdN rfl rfl ?_ (hq := k_1 n) (hm := by omega) (hN := by omega)
  rw [hm1]
  refine ev_call rfl rfl ?_
  refine hA _ (fun m2 hI2 => ?_)
  change am_ev _ _ _ _ [_, _] _ _ _
  refine ev_icmp_eq (p2 := 1522) rfl rfl (fun cnd1055 => ?_) (fun cnd1055 => ?_)
  · skip
    exact hK m2 hI2
  · exact absurd rfl cnd1055
set_option maxRecDepth 20000 in
theorem law_30 {xs : am_R} {d n i : Nat} {mem : am_M} {Q : am_P} (hI : Inv xs mem) (hn : n ≤ 384) (hi : i + 6 ≤ n) (hK : ∀ m2 : am_M, Inv xs m2 → am_ev kc_L_law (d + 200) 1522 [some (.ref 1), some (.ref 29), some (.ref 221), some (.int (nI i))] [] (am_SK n) m2 Q) : am_ev kc_L_law (d + 200) 1060 [some (.ref 1), some (.ref 29), some (.ref 221), some (.int (nI i))] [] (am_SK n) mem Q := by
  refine ev_aload rfl rfl ?_
  refine ev_aload rfl rfl ?_
  refine ev_iload rfl rfl ?_
  refine ev_iconst (x := nI 1) rfl rfl ?_
  refine ev_iaddN rfl ?_
  refine ev_ialdN rfl rfl ?_ (hq := k_1 n) (hm := by omega) (hN := by omega)
  refine ev_aload rfl rfl ?_
  refine ev_iload rfl rfl ?_
  refine ev_iconst (x := nI 2) rfl rfl ?_
  refine ev_iaddN rfl ?_
  refine ev_ialdN rfl rfl ?_ (hq := k_1 n) (hm := by omega) (hN := by omega)
  refine ev_aload rfl rfl ?_
  refine ev_iload rfl rfl ?_
  refine ev_iconst (x := nI 3) rfl rfl ?_
  refine ev_iaddN rfl ?_
  refine ev_ialdN rfl rfl ?_ (hq := k_1 n) (hm := by omega) (hN := by omega)
  refine ev_call rfl rfl ?_
  refine pub_use (fun Q h => pub_together hI _ _ _ h) (fun rv m1 hm1 hA => ?_)
  change am_ev _ _ _ _ [_] _ _ _
  refine ev_aload rfl rfl ?_
  refine ev_aload rfl rfl ?_
  refine ev_iload rfl rfl ?_
  refine ev_iconst (x := nI 1) rfl rfl ?_
  refine ev_iaddN rfl ?_
  refine ev_ialdN rfl rfl ?_ (hq := k_1 n) (hm := by omega) (hN := by omega)
  rw [hm1]
  refine ev_aload rfl rfl ?_
  refine ev_iload rfl rfl ?_
  refine ev_iconst (x := nI 2) rfl rfl ?_
  refine ev_iaddN rfl ?_
  refine ev_ialdN rfl rfl ?_ (hq := k_1 n) (hm := by omega) (hN := by omega)
  rw [hm1]
  refine ev_aload rfl rfl ?_
  refine ev_iload rfl rfl ?_
  refine ev_iconst (x := nI 3) rfl rfl ?_
  refine ev_iaddN rfl ?_
  refine ev_ialdN rfl rfl ?_ (hq := k_1 n) (hm := by omega) (hN := by omega)
  rw [hm1]
  refine ev_call rfl rfl ?_
  refine hA _ (fun m2 hI2 => ?_)
  change am_ev _ _ _ _ [_, _] _ _ _
  refine ev_icmp_eq (p2 := 1522) rfl rfl (fun cnd1098 => ?_) (fun cnd1098 => ?_)
  · skip
    exact hK m2 hI2
  · exact absurd rfl cnd1098
set_option maxRecDepth 20000 in
theorem law_31 {xs : am_R} {d n i : Nat} {mem : am_M} {Q : am_P} (hI : Inv xs mem) (hn : n ≤ 384) (hi : i + 6 ≤ n) (hK : ∀ m2 : am_M, Inv xs m2 → am_ev kc_L_law (d + 200) 1522 [some (.ref 1), some (.ref 29), some (.ref 221), some (.int (nI i))] [] (am_SK n) m2 Q) : am_ev kc_L_law (d + 200) 1103 [some (.ref 1), some (.ref 29), some (.ref 221), some (.int (nI i))] [] (am_SK n) mem Q := by
  refine ev_aload rfl rfl ?_
  refine ev_aload rfl rfl ?_
  refine ev_iload rfl rfl ?_
  refine ev_iconst (x := nI 1) rfl rfl ?_
  refine ev_iaddN rfl ?_
  refine ev_ialdN rfl rfl ?_ (hq := k_1 n) (hm := by omega) (hN := by omega)
  refine ev_aload rfl rfl ?_
  refine ev_iload rfl rfl ?_
  refine ev_iconst (x := nI 2) rfl rfl ?_
  refine ev_iaddN rfl ?_
  refine ev_ialdN rfl rfl ?_ (hq := k_1 n) (hm := by omega) (hN := by omega)
  refine ev_aload rfl rfl ?_
  refine ev_iload rfl rfl ?_
  refine ev_iconst (x := nI 3) rfl rfl ?_
  refine ev_iaddN rfl ?_
  refine ev_ialdN rfl rfl ?_ (hq := k_1 n) (hm := by omega) (hN := by omega)
  refine ev_call rfl rfl ?_
  refine pub_use (fun Q h => pub_sheet hI _ _ _ h) (fun rv m1 hm1 hA => ?_)
  change am_ev _ _ _ _ [_] _ _ _
  refine ev_aload rfl rfl ?_
  refine ev_aload rfl rfl ?_
  refine ev_iload rfl rfl ?_
  refine ev_iconst (x := nI 1) rfl rfl ?_
  refine ev_iaddN rfl ?_
  refine ev_ialdN rfl rfl ?_ (hq := k_1 n) (hm := by omega) (hN := by omega)
  rw [hm1]
  refine ev_aload rfl rfl ?_
  refine ev_iload rfl rfl ?_
  refine ev_iconst (x := nI 2) rfl rfl ?_
  refine ev_iaddN rfl ?_
  refine ev_ialdN rfl rfl ?_ (hq := k_1 n) (hm := by omega) (hN := by omega)
  rw [hm1]
  refine ev_aload rfl rfl ?_
  refine ev_iload rfl rfl ?_
  refine ev_iconst (x := nI 3) rfl rfl ?_
  refine ev_iaddN rfl ?_
  refine ev_ialdN rfl rfl ?_ (hq := k_1 n) (hm := by omega) (hN := by omega)
  rw [hm1]
  refine ev_call rfl rfl ?_
  refine hA _ (fun m2 hI2 => ?_)
  change am_ev _ _ _ _ [_, _] _ _ _
  refine ev_icmp_eq (p2 := 1522) rfl rfl (fun cnd1141 => ?_) (fun cnd1141 => ?_)
  · skip
    exact hK m2 hI2
  · exact absurd rfl cnd1141
set_option maxRecDepth 20000 in
theorem law_32 {xs : am_R} {d n i : Nat} {mem : am_M} {Q : am_P} (hI : Inv xs mem) (hn : n ≤ 384) (hi : i + 6 ≤ n) (hK : ∀ m2 : am_M, Inv xs m2 → am_ev kc_L_law (d + 200) 1522 [some (.ref 1), some (.ref 29), some (.ref 221), some (.int (nI i))] [] (am_SK n) m2 Q) : am_ev kc_L_law (d + 200) 1146 [some (.ref 1), some (.ref 29), some (.ref 221), some (.int (nI i))] [] (am_SK n) mem Q := by
  refine ev_aload rfl rfl ?_
  refine ev_aload rfl rfl ?_
  refine ev_iload rfl rfl ?_
  refine ev_iconst (x := nI 1) rfl rfl ?_
  refine ev_iaddN rfl ?_
  refine ev_ialdN rfl rfl ?_ (hq := k_1 n) (hm := by omega) (hN := by omega)
  refine ev_aload rfl rfl ?_
  refine ev_iload rfl rfl ?_
  refine ev_iconst (x := nI 2) rfl rfl ?_
  refine ev_iaddN rfl ?_
  refine ev_ialdN rfl rfl ?_ (hq := k_1 n) (hm := by omega) (hN := by omega)
  refine ev_aload rfl rfl ?_
  refine ev_iload rfl rfl ?_
  refine ev_iconst (x := nI 3) rfl rfl ?_
  refine ev_iaddN rfl ?_
  refine ev_ialdN rfl rfl ?_ (hq := k_1 n) (hm := by omega) (hN := by omega)
  refine ev_call rfl rfl ?_
  refine pub_use (fun Q h => pub_mark hI _ _ _ h) (fun rv m1 hm1 hA => ?_)
  change am_ev _ _ _ _ [_] _ _ _
  refine ev_aload rfl rfl ?_
  refine ev_aload rfl rfl ?_
  refine ev_iload rfl rfl ?_
  refine ev_iconst (x := nI 1) rfl rfl ?_
  refine ev_iaddN rfl ?_
  refine ev_ialdN rfl rfl ?_ (hq := k_1 n) (hm := by omega) (hN := by omega)
  rw [hm1]
  refine ev_aload rfl rfl ?_
  refine ev_iload rfl rfl ?_
  refine ev_iconst (x := nI 2) rfl rfl ?_
  refine ev_iaddN rfl ?_
  refine ev_ialdN rfl rfl ?_ (hq := k_1 n) (hm := by omega) (hN := by omega)
  rw [hm1]
  refine ev_aload rfl rfl ?_
  refine ev_iload rfl rfl ?_
  refine ev_iconst (x := nI 3) rfl rfl ?_
  refine ev_iaddN rfl ?_
  refine ev_ialdN rfl rfl ?_ (hq := k_1 n) (hm := by omega) (hN := by omega)
  rw [hm1]
  refine ev_call rfl rfl ?_
  refine hA _ (fun m2 hI2 => ?_)
  change am_ev _ _ _ _ [_, _] _ _ _
  refine ev_icmp_eq (p2 := 1522) rfl rfl (fun cnd1184 => ?_) (fun cnd1184 => ?_)
  · skip
    exact hK m2 hI2
  · exact absurd rfl cnd1184
set_option maxRecDepth 20000 in
theorem law_33 {xs : am_R} {d n i : Nat} {mem : am_M} {Q : am_P} (hI : Inv xs mem) (hn : n ≤ 384) (hi : i + 6 ≤ n) (hK : ∀ m2 : am_M, Inv xs m2 → am_ev kc_L_law (d + 200) 1522 [some (.ref 1), some (.ref 29), some (.ref 221), some (.int (nI i))] [] (am_SK n) m2 Q) : am_ev kc_L_law (d + 200) 1189 [some (.ref 1), some (.ref 29), some (.ref 221), some (.int (nI i))] [] (am_SK n) mem Q := by
  refine ev_aload rfl rfl ?_
  refine ev_aload rfl rfl ?_
  refine ev_iload rfl rfl ?_
  refine ev_iconst (x := nI 1) rfl rfl ?_
  refine ev_iaddN rfl ?_
  refine ev_ialdN rfl rfl ?_ (hq := k_1 n) (hm := by omega) (hN := by omega)
  refine ev_aload rfl rfl ?_
  refine ev_iload rfl rfl ?_
  refine ev_iconst (x := nI 2) rfl rfl ?_
  refine ev_iaddN rfl ?_
  refine ev_ialdN rfl rfl ?_ (hq := k_1 n) (hm := by omega) (hN := by omega)
  refine ev_call rfl rfl ?_
  refine pub_use (fun Q h => pub_fits hI _ _ h) (fun rv m1 hm1 hA => ?_)
  change am_ev _ _ _ _ [_] _ _ _
  refine ev_aload rfl rfl ?_
  refine ev_aload rfl rfl ?_
  refine ev_iload rfl rfl ?_
  refine ev_iconst (x := nI 1) rfl rfl ?_
  refine ev_iaddN rfl ?_
  refine ev_ialdN rfl rfl ?_ (hq := k_1 n) (hm := by omega) (hN := by omega)
  rw [hm1]
  refine ev_aload rfl rfl ?_
  refine ev_iload rfl rfl ?_
  refine ev_iconst (x := nI 2) rfl rfl ?_
  refine ev_iaddN rfl ?_
  refine ev_ialdN rfl rfl ?_ (hq := k_1 n) (hm := by omega) (hN := by omega)
  rw [hm1]
  refine ev_call rfl rfl ?_
  refine hA _ (fun m2 hI2 => ?_)
  change am_ev _ _ _ _ [_, _] _ _ _
  refine ev_icmp_eq (p2 := 1522) rfl rfl (fun cnd1217 => ?_) (fun cnd1217 => ?_)
  · skip
    exact hK m2 hI2
  · exact absurd rfl cnd1217
set_option maxRecDepth 20000 in
theorem law_34 {xs : am_R} {d n i : Nat} {mem : am_M} {Q : am_P} (hI : Inv xs mem) (hn : n ≤ 384) (hi : i + 6 ≤ n) (hK : ∀ m2 : am_M, Inv xs m2 → am_ev kc_L_law (d + 200) 1522 [some (.ref 1), some (.ref 29), some (.ref 221), some (.int (nI i))] [] (am_SK n) m2 Q) : am_ev kc_L_law (d + 200) 1222 [some (.ref 1), some (.ref 29), some (.ref 221), some (.int (nI i))] [] (am_SK n) mem Q := by
  refine ev_aload rfl rfl ?_
  refine ev_aload rfl rfl ?_
  refine ev_iload rfl rfl ?_
  refine ev_iconst (x := nI 1) rfl rfl ?_
  refine ev_iaddN rfl ?_
  refine ev_ialdN rfl rfl ?_ (hq := k_1 n) (hm := by omega) (hN := by omega)
  refine ev_aload rfl rfl ?_
  refine ev_iload rfl rfl ?_
  refine ev_iconst (x := nI 2) rfl rfl ?_
  refine ev_iaddN rfl ?_
  refine ev_ialdN rfl rfl ?_ (hq := k_1 n) (hm := by omega) (hN := by omega)
  refine ev_aload rfl rfl ?_
  refine ev_iload rfl rfl ?_
  refine ev_iconst (x := nI 3) rfl rfl ?_
  refine ev_iaddN rfl ?_
  refine ev_ialdN rfl rfl ?_ (hq := k_1 n) (hm := by omega) (hN := by omega)
  refine ev_aload rfl rfl ?_
  refine ev_iload rfl rfl ?_
  refine ev_iconst (x := nI 4) rfl rfl ?_
  refine ev_iaddN rfl ?_
  refine ev_ialdN rfl rfl ?_ (hq := k_1 n) (hm := by omega) (hN := by omega)
  refine ev_aload rfl rfl ?_
  refine ev_iload rfl rfl ?_
  refine ev_iconst (x := nI 5) rfl rfl ?_
  refine ev_iaddN rfl ?_
  refine ev_ialdN rfl rfl ?_ (hq := k_1 n) (hm := by omega) (hN := by omega)
  refine ev_call rfl rfl ?_
  refine pub_use (fun Q h => pub_copy hI _ _ _ _ _ h) (fun rv m1 hm1 hA => ?_)
  change am_ev _ _ _ _ [_] _ _ _
  refine ev_aload rfl rfl ?_
  refine ev_aload rfl rfl ?_
  refine ev_iload rfl rfl ?_
  refine ev_iconst (x := nI 1) rfl rfl ?_
  refine ev_iaddN rfl ?_
  refine ev_ialdN rfl rfl ?_ (hq := k_1 n) (hm := by omega) (hN := by omega)
  rw [hm1]
  refine ev_aload rfl rfl ?_
  refine ev_iload rfl rfl ?_
  refine ev_iconst (x := nI 2) rfl rfl ?_
  refine ev_iaddN rfl ?_
  refine ev_ialdN rfl rfl ?_ (hq := k_1 n) (hm := by omega) (hN := by omega)
  rw [hm1]
  refine ev_aload rfl rfl ?_
  refine ev_iload rfl rfl ?_
  refine ev_iconst (x := nI 3) rfl rfl ?_
  refine ev_iaddN rfl ?_
  refine ev_ialdN rfl rfl ?_ (hq := k_1 n) (hm := by omega) (hN := by omega)
  rw [hm1]
  refine ev_aload rfl rfl ?_
  refine ev_iload rfl rfl ?_
  refine ev_iconst (x := nI 4) rfl rfl ?_
  refine ev_iaddN rfl ?_
  refine ev_ialdN rfl rfl ?_ (hq := k_1 n) (hm := by omega) (hN := by omega)
  rw [hm1]
  refine ev_aload rfl rfl ?_
  refine ev_iload rfl rfl ?_
  refine ev_iconst (x := nI 5) rfl rfl ?_
  refine ev_iaddN rfl ?_
  refine ev_ialdN rfl rfl ?_ (hq := k_1 n) (hm := by omega) (hN := by omega)
  rw [hm1]
  refine ev_call rfl rfl ?_
  refine hA _ (fun m2 hI2 => ?_)
  change am_ev _ _ _ _ [_, _] _ _ _
  refine ev_icmp_eq (p2 := 1522) rfl rfl (fun cnd1280 => ?_) (fun cnd1280 => ?_)
  · skip
    exact hK m2 hI2
  · exact absurd rfl cnd1280
set_option maxRecDepth 20000 in
theorem law_35 {xs : am_R} {d n i : Nat} {mem : am_M} {Q : am_P} (hI : Inv xs mem) (hn : n ≤ 384) (hi : i + 6 ≤ n) (hK : ∀ m2 : am_M, Inv xs m2 → am_ev kc_L_law (d + 200) 1522 [some (.ref 1), some (.ref 29), some (.ref 221), some (.int (nI i))] [] (am_SK n) m2 Q) : am_ev kc_L_law (d + 200) 1285 [some (.ref 1), some (.ref 29), some (.ref 221), some (.int (nI i))] [] (am_SK n) mem Q := by
  refine ev_aload rfl rfl ?_
  refine ev_aload rfl rfl ?_
  refine ev_iload rfl rfl ?_
  refine ev_iconst (x := nI 1) rfl rfl ?_
  refine ev_iaddN rfl ?_
  refine ev_ialdN rfl rfl ?_ (hq := k_1 n) (hm := by omega) (hN := by omega)
  refine ev_aload rfl rfl ?_
  refine ev_iload rfl rfl ?_
  refine ev_iconst (x := nI 2) rfl rfl ?_
  refine ev_iaddN rfl ?_
  refine ev_ialdN rfl rfl ?_ (hq := k_1 n) (hm := by omega) (hN := by omega)
  refine ev_aload rfl rfl ?_
  refine ev_iload rfl rfl ?_
  refine ev_iconst (x := nI 3) rfl rfl ?_
  refine ev_iaddN rfl ?_
  refine ev_ialdN rfl rfl ?_ (hq := k_1 n) (hm := by omega) (hN := by omega)
  refine ev_call rfl rfl ?_
  refine pub_use (fun Q h => pub_lay hI _ _ _ h) (fun rv m1 hm1 hA => ?_)
  change am_ev _ _ _ _ [_] _ _ _
  refine ev_aload rfl rfl ?_
  refine ev_aload rfl rfl ?_
  refine ev_iload rfl rfl ?_
  refine ev_iconst (x := nI 1) rfl rfl ?_
  refine ev_iaddN rfl ?_
  refine ev_ialdN rfl rfl ?_ (hq := k_1 n) (hm := by omega) (hN := by omega)
  rw [hm1]
  refine ev_aload rfl rfl ?_
  refine ev_iload rfl rfl ?_
  refine ev_iconst (x := nI 2) rfl rfl ?_
  refine ev_iaddN rfl ?_
  refine ev_ialdN rfl rfl ?_ (hq := k_1 n) (hm := by omega) (hN := by omega)
  rw [hm1]
  refine ev_aload rfl rfl ?_
  refine ev_iload rfl rfl ?_
  refine ev_iconst (x := nI 3) rfl rfl ?_
  refine ev_iaddN rfl ?_
  refine ev_ialdN rfl rfl ?_ (hq := k_1 n) (hm := by omega) (hN := by omega)
  rw [hm1]
  refine ev_call rfl rfl ?_
  refine hA _ (fun m2 hI2 => ?_)
  change am_ev _ _ _ _ [_, _] _ _ _
  refine ev_icmp_eq (p2 := 1522) rfl rfl (fun cnd1323 => ?_) (fun cnd1323 => ?_)
  · skip
    exact hK m2 hI2
  · exact absurd rfl cnd1323
set_option maxRecDepth 20000 in
theorem law_36 {xs : am_R} {d n i : Nat} {mem : am_M} {Q : am_P} (hI : Inv xs mem) (hn : n ≤ 384) (hi : i + 6 ≤ n) (hK : ∀ m2 : am_M, Inv xs m2 → am_ev kc_L_law (d + 200) 1522 [some (.ref 1), some (.ref 29), some (.ref 221), some (.int (nI i))] [] (am_SK n) m2 Q) : am_ev kc_L_law (d + 200) 1328 [some (.ref 1), some (.ref 29), some (.ref 221), some (.int (nI i))] [] (am_SK n) mem Q := by
  refine ev_aload rfl rfl ?_
  refine ev_aload rfl rfl ?_
  refine ev_iload rfl rfl ?_
  refine ev_iconst (x := nI 1) rfl rfl ?_
  refine ev_iaddN rfl ?_
  refine ev_ialdN rfl rfl ?_ (hq := k_1 n) (hm := by omega) (hN := by omega)
  refine ev_aload rfl rfl ?_
  refine ev_iload rfl rfl ?_
  refine ev_iconst (x := nI 2) rfl rfl ?_
  refine ev_iaddN rfl ?_
  refine ev_ialdN rfl rfl ?_ (hq := k_1 n) (hm := by omega) (hN := by omega)
  refine ev_call rfl rfl ?_
  refine pub_use (fun Q h => pub_ask hI _ _ h) (fun rv m1 hm1 hA => ?_)
  change am_ev _ _ _ _ [_] _ _ _
  refine ev_aload rfl rfl ?_
  refine ev_aload rfl rfl ?_
  refine ev_iload rfl rfl ?_
  refine ev_iconst (x := nI 1) rfl rfl ?_
  refine ev_iaddN rfl ?_
  refine ev_ialdN rfl rfl ?_ (hq := k_1 n) (hm := by omega) (hN := by omega)
  rw [hm1]
  refine ev_aload rfl rfl ?_
  refine ev_iload rfl rfl ?_
  refine ev_iconst (x := nI 2) rfl rfl ?_
  refine ev_iaddN rfl ?_
  refine ev_ialdN rfl rfl ?_ (hq := k_1 n) (hm := by omega) (hN := by omega)
  rw [hm1]
  refine ev_call rfl rfl ?_
  refine hA _ (fun m2 hI2 => ?_)
  change am_ev _ _ _ _ [_, _] _ _ _
  refine ev_icmp_eq (p2 := 1522) rfl rfl (fun cnd1356 => ?_) (fun cnd1356 => ?_)
  · skip
    exact hK m2 hI2
  · exact absurd rfl cnd1356
set_option maxRecDepth 20000 in
theorem law_37 {xs : am_R} {d n i : Nat} {mem : am_M} {Q : am_P} (hI : Inv xs mem) (hn : n ≤ 384) (hi : i + 6 ≤ n) (hK : ∀ m2 : am_M, Inv xs m2 → am_ev kc_L_law (d + 200) 1522 [some (.ref 1), some (.ref 29), some (.ref 221), some (.int (nI i))] [] (am_SK n) m2 Q) : am_ev kc_L_law (d + 200) 1361 [some (.ref 1), some (.ref 29), some (.ref 221), some (.int (nI i))] [] (am_SK n) mem Q := by
  refine ev_aload rfl rfl ?_
  refine ev_aload rfl rfl ?_
  refine ev_iload rfl rfl ?_
  refine ev_iconst (x := nI 1) rfl rfl ?_
  refine ev_iaddN rfl ?_
  refine ev_ialdN rfl rfl ?_ (hq := k_1 n) (hm := by omega) (hN := by omega)
  refine ev_aload rfl rfl ?_
  refine ev_iload rfl rfl ?_
  refine ev_iconst (x := nI 2) rfl rfl ?_
  refine ev_iaddN rfl ?_
  refine ev_ialdN rfl rfl ?_ (hq := k_1 n) (hm := by omega) (hN := by omega)
  refine ev_call rfl rfl ?_
  refine pub_use (fun Q h => pub_item hI _ _ h) (fun rv m1 hm1 hA => ?_)
  change am_ev _ _ _ _ [_] _ _ _
  refine ev_aload rfl rfl ?_
  refine ev_aload rfl rfl ?_
  refine ev_iload rfl rfl ?_
  refine ev_iconst (x := nI 1) rfl rfl ?_
  refine ev_iaddN rfl ?_
  refine ev_ialdN rfl rfl ?_ (hq := k_1 n) (hm := by omega) (hN := by omega)
  rw [hm1]
  refine ev_aload rfl rfl ?_
  refine ev_iload rfl rfl ?_
  refine ev_iconst (x := nI 2) rfl rfl ?_
  refine ev_iaddN rfl ?_
  refine ev_ialdN rfl rfl ?_ (hq := k_1 n) (hm := by omega) (hN := by omega)
  rw [hm1]
  refine ev_call rfl rfl ?_
  refine hA _ (fun m2 hI2 => ?_)
  change am_ev _ _ _ _ [_, _] _ _ _
  refine ev_icmp_eq (p2 := 1522) rfl rfl (fun cnd1389 => ?_) (fun cnd1389 => ?_)
  · skip
    exact hK m2 hI2
  · exact absurd rfl cnd1389
set_option maxRecDepth 20000 in
theorem law_38 {xs : am_R} {d n i : Nat} {mem : am_M} {Q : am_P} (hI : Inv xs mem) (hn : n ≤ 384) (hi : i + 6 ≤ n) (hK : ∀ m2 : am_M, Inv xs m2 → am_ev kc_L_law (d + 200) 1522 [some (.ref 1), some (.ref 29), some (.ref 221), some (.int (nI i))] [] (am_SK n) m2 Q) : am_ev kc_L_law (d + 200) 1394 [some (.ref 1), some (.ref 29), some (.ref 221), some (.int (nI i))] [] (am_SK n) mem Q := by
  refine ev_aload rfl rfl ?_
  refine ev_aload rfl rfl ?_
  refine ev_iload rfl rfl ?_
  refine ev_iconst (x := nI 1) rfl rfl ?_
  refine ev_iaddN rfl ?_
  refine ev_ialdN rfl rfl ?_ (hq := k_1 n) (hm := by omega) (hN := by omega)
  refine ev_aload rfl rfl ?_
  refine ev_iload rfl rfl ?_
  refine ev_iconst (x := nI 2) rfl rfl ?_
  refine ev_iaddN rfl ?_
  refine ev_ialdN rfl rfl ?_ (hq := k_1 n) (hm := by omega) (hN := by omega)
  refine ev_call rfl rfl ?_
  refine pub_use (fun Q h => pub_rest hI _ _ h) (fun rv m1 hm1 hA => ?_)
  change am_ev _ _ _ _ [_] _ _ _
  refine ev_aload rfl rfl ?_
  refine ev_aload rfl rfl ?_
  refine ev_iload rfl rfl ?_
  refine ev_iconst (x := nI 1) rfl rfl ?_
  refine ev_iaddN rfl ?_
  refine ev_ialdN rfl rfl ?_ (hq := k_1 n) (hm := by omega) (hN := by omega)
  rw [hm1]
  refine ev_aload rfl rfl ?_
  refine ev_iload rfl rfl ?_
  refine ev_iconst (x := nI 2) rfl rfl ?_
  refine ev_iaddN rfl ?_
  refine ev_ialdN rfl rfl ?_ (hq := k_1 n) (hm := by omega) (hN := by omega)
  rw [hm1]
  refine ev_call rfl rfl ?_
  refine hA _ (fun m2 hI2 => ?_)
  change am_ev _ _ _ _ [_, _] _ _ _
  refine ev_icmp_eq (p2 := 1522) rfl rfl (fun cnd1422 => ?_) (fun cnd1422 => ?_)
  · skip
    exact hK m2 hI2
  · exact absurd rfl cnd1422
set_option maxRecDepth 20000 in
theorem law_39 {xs : am_R} {d n i : Nat} {mem : am_M} {Q : am_P} (hI : Inv xs mem) (hn : n ≤ 384) (hi : i + 6 ≤ n) (hK : ∀ m2 : am_M, Inv xs m2 → am_ev kc_L_law (d + 200) 1522 [some (.ref 1), some (.ref 29), some (.ref 221), some (.int (nI i))] [] (am_SK n) m2 Q) : am_ev kc_L_law (d + 200) 1427 [some (.ref 1), some (.ref 29), some (.ref 221), some (.int (nI i))] [] (am_SK n) mem Q := by
  refine ev_aload rfl rfl ?_
  refine ev_aload rfl rfl ?_
  refine ev_iload rfl rfl ?_
  refine ev_iconst (x := nI 1) rfl rfl ?_
  refine ev_iaddN rfl ?_
  refine ev_ialdN rfl rfl ?_ (hq := k_1 n) (hm := by omega) (hN := by omega)
  refine ev_call rfl rfl ?_
  refine pub_use (fun Q h => pub_tell hI _ h) (fun rv m1 hm1 hA => ?_)
  change am_ev _ _ _ _ [_] _ _ _
  refine ev_aload rfl rfl ?_
  refine ev_aload rfl rfl ?_
  refine ev_iload rfl rfl ?_
  refine ev_iconst (x := nI 1) rfl rfl ?_
  refine ev_iaddN rfl ?_
  refine ev_ialdN rfl rfl ?_ (hq := k_1 n) (hm := by omega) (hN := by omega)
  rw [hm1]
  refine ev_call rfl rfl ?_
  refine hA _ (fun m2 hI2 => ?_)
  change am_ev _ _ _ _ [_, _] _ _ _
  refine ev_icmp_eq (p2 := 1522) rfl rfl (fun cnd1445 => ?_) (fun cnd1445 => ?_)
  · skip
    exact hK m2 hI2
  · exact absurd rfl cnd1445
set_option maxRecDepth 20000 in
theorem law_40 {xs : am_R} {d n i : Nat} {mem : am_M} {Q : am_P} (hI : Inv xs mem) (hn : n ≤ 384) (hi : i + 6 ≤ n) (hK : ∀ m2 : am_M, Inv xs m2 → am_ev kc_L_law (d + 200) 1522 [some (.ref 1), some (.ref 29), some (.ref 221), some (.int (nI i))] [] (am_SK n) m2 Q) : am_ev kc_L_law (d + 200) 1450 [some (.ref 1), some (.ref 29), some (.ref 221), some (.int (nI i))] [] (am_SK n) mem Q := by
  refine ev_aload rfl rfl ?_
  refine ev_aload rfl rfl ?_
  refine ev_iload rfl rfl ?_
  refine ev_iconst (x := nI 1) rfl rfl ?_
  refine ev_iaddN rfl ?_
  refine ev_ialdN rfl rfl ?_ (hq := k_1 n) (hm := by omega) (hN := by omega)
  refine ev_call rfl rfl ?_
  refine pub_use (fun Q h => pub_check hI _ h) (fun rv m1 hm1 hA => ?_)
  change am_ev _ _ _ _ [_] _ _ _
  refine ev_aload rfl rfl ?_
  refine ev_aload rfl rfl ?_
  refine ev_iload rfl rfl ?_
  refine ev_iconst (x := nI 1) rfl rfl ?_
  refine ev_iaddN rfl ?_
  refine ev_ialdN rfl rfl ?_ (hq := k_1 n) (hm := by omega) (hN := by omega)
  rw [hm1]
  refine ev_call rfl rfl ?_
  refine hA _ (fun m2 hI2 => ?_)
  change am_ev _ _ _ _ [_, _] _ _ _
  refine ev_icmp_eq (p2 := 1522) rfl rfl (fun cnd1468 => ?_) (fun cnd1468 => ?_)
  · skip
    exact hK m2 hI2
  · exact absurd rfl cnd1468
set_option maxRecDepth 20000 in
theorem law_41 {xs : am_R} {d n i : Nat} {mem : am_M} {Q : am_P} (hI : Inv xs mem) (hn : n ≤ 384) (hi : i + 6 ≤ n) (hK : ∀ m2 : am_M, Inv xs m2 → am_ev kc_L_law (d + 200) 1522 [some (.ref 1), some (.ref 29), some (.ref 221), some (.int (nI i))] [] (am_SK n) m2 Q) : am_ev kc_L_law (d + 200) 1473 [some (.ref 1), some (.ref 29), some (.ref 221), some (.int (nI i))] [] (am_SK n) mem Q := by
  refine ev_aload rfl rfl ?_
  refine ev_call rfl rfl ?_
  refine pub_use (fun Q h => pub_keep hI h) (fun rv m1 hm1 hA => ?_)
  change am_ev _ _ _ _ [_] _ _ _
  refine ev_aload rfl rfl ?_
  refine ev_call rfl rfl ?_
  refine hA _ (fun m2 hI2 => ?_)
  change am_ev _ _ _ _ [_, _] _ _ _
  refine ev_icmp_eq (p2 := 1522) rfl rfl (fun cnd1481 => ?_) (fun cnd1481 => ?_)
  · skip
    exact hK m2 hI2
  · exact absurd rfl cnd1481
set_option maxRecDepth 20000 in
theorem law_42 {xs : am_R} {d n i : Nat} {mem : am_M} {Q : am_P} (hI : Inv xs mem) (hn : n ≤ 384) (hi : i + 6 ≤ n) (hK : ∀ m2 : am_M, Inv xs m2 → am_ev kc_L_law (d + 200) 1522 [some (.ref 1), some (.ref 29), some (.ref 221), some (.int (nI i))] [] (am_SK n) m2 Q) : am_ev kc_L_law (d + 200) 1486 [some (.ref 1), some (.ref 29), some (.ref 221), some (.int (nI i))] [] (am_SK n) mem Q := by
  refine ev_aload rfl rfl ?_
  refine ev_call rfl rfl ?_
  refine pub_use (fun Q h => pub_back hI h) (fun rv m1 hm1 hA => ?_)
  change am_ev _ _ _ _ [_] _ _ _
  refine ev_aload rfl rfl ?_
  refine ev_call rfl rfl ?_
  refine hA _ (fun m2 hI2 => ?_)
  change am_ev _ _ _ _ [_, _] _ _ _
  refine ev_icmp_eq (p2 := 1522) rfl rfl (fun cnd1494 => ?_) (fun cnd1494 => ?_)
  · skip
    exact hK m2 hI2
  · exact absurd rfl cnd1494
set_option maxRecDepth 20000 in
theorem law_43 {xs : am_R} {d n i : Nat} {mem : am_M} {Q : am_P} (hI : Inv xs mem) (hn : n ≤ 384) (hi : i + 6 ≤ n) (hK : ∀ m2 : am_M, Inv xs m2 → am_ev kc_L_law (d + 200) 1522 [some (.ref 1), some (.ref 29), some (.ref 221), some (.int (nI i))] [] (am_SK n) m2 Q) : am_ev kc_L_law (d + 200) 1499 [some (.ref 1), some (.ref 29), some (.ref 221), some (.int (nI i))] [] (am_SK n) mem Q := by
  refine ev_aload rfl rfl ?_
  refine ev_aload rfl rfl ?_
  refine ev_iload rfl rfl ?_
  refine ev_iconst (x := nI 1) rfl rfl ?_
  refine ev_iaddN rfl ?_
  refine ev_ialdN rfl rfl ?_ (hq := k_1 n) (hm := by omega) (hN := by omega)
  refine ev_call rfl rfl ?_
  refine pub_use (fun Q h => pub_count hI _ h) (fun rv m1 hm1 hA => ?_)
  change am_ev _ _ _ _ [_] _ _ _
  refine ev_aload rfl rfl ?_
  refine ev_aload rfl rfl ?_
  refine ev_iload rfl rfl ?_
  refine ev_iconst (x := nI 1) rfl rfl ?_
  refine ev_iaddN rfl ?_
  refine ev_ialdN rfl rfl ?_ (hq := k_1 n) (hm := by omega) (hN := by omega)
  rw [hm1]
  refine ev_call rfl rfl ?_
  refine hA _ (fun m2 hI2 => ?_)
  change am_ev _ _ _ _ [_, _] _ _ _
  refine ev_icmp_eq (p2 := 1522) rfl rfl (fun cnd1517 => ?_) (fun cnd1517 => ?_)
  · skip
    exact hK m2 hI2
  · exact absurd rfl cnd1517
