/-! the law's loop -/
theorem and63 (y : Int32) : ∃ m, m < 64 ∧ y &&& nI 63 = nI m := by
  refine ⟨(y &&& nI 63).toBitVec.toNat, ?_, ?_⟩
  · show (y.toBitVec &&& 63#32).toNat < 64
    rw [BitVec.toNat_and]
    exact Nat.lt_of_le_of_lt Nat.and_le_right (by decide)
  · apply Int32.toBitVec_inj.mp
    show (y &&& nI 63).toBitVec = BitVec.ofNat 32 (y &&& nI 63).toBitVec.toNat
    rw [BitVec.ofNat_toNat, BitVec.setWidth_eq]
theorem law_c {n i : Nat} (hn : n ≤ 384) (hi : i ≤ 390) : nI n - nI 6 < nI i ↔ n < i + 6 := by
  have e1 : (nI n).toInt = (n : Int) := nI_toInt (by omega)
  have e2 : (nI i).toInt = (i : Int) := nI_toInt (by omega)
  have e6 : (nI 6).toInt = 6 := rfl
  have e3 : (nI n - nI 6).toInt = (nI n).toInt - (nI 6).toInt := am_sub_toInt (by omega) (by omega)
  rw [Int32.lt_iff_toInt_lt, e3, e1, e2, e6]
  omega
set_option maxRecDepth 20000 in
theorem law_sw {d n : Nat} {L : am_L} {st : List Value} {mem : am_M} {Q : am_P} {m t : Nat} (h : (m, t) ∈ [(0, 224), (1, 257), (2, 290), (3, 323), (4, 356), (5, 389), (6, 432), (7, 465), (8, 498), (9, 531), (10, 554), (11, 587), (12, 620), (13, 643), (14, 666), (15, 689), (16, 702), (17, 745), (18, 768), (19, 781), (20, 814), (21, 837), (22, 886), (23, 919), (24, 932), (25, 955), (26, 968), (27, 991), (28, 1014), (29, 1027), (30, 1060), (31, 1103), (32, 1146), (33, 1189), (34, 1222), (35, 1285), (36, 1328), (37, 1361), (38, 1394), (39, 1427), (40, 1450), (41, 1473), (42, 1486), (43, 1499)]) (k : am_ev kc_L_law d t L st (am_SK n) mem Q) : am_ev kc_L_law d 33 L (.int (nI m) :: st) (am_SK n) mem Q := by
  simp only [List.mem_cons, List.not_mem_nil, or_false, Prod.mk.injEq] at h
  rcases h with ⟨rfl, rfl⟩ | ⟨rfl, rfl⟩ | ⟨rfl, rfl⟩ | ⟨rfl, rfl⟩ | ⟨rfl, rfl⟩ | ⟨rfl, rfl⟩ | ⟨rfl, rfl⟩ | ⟨rfl, rfl⟩ | ⟨rfl, rfl⟩ | ⟨rfl, rfl⟩ | ⟨rfl, rfl⟩ | ⟨rfl, rfl⟩ | ⟨rfl, rfl⟩ | ⟨rfl, rfl⟩ | ⟨rfl, rfl⟩ | ⟨rfl, rfl⟩ | ⟨rfl, rfl⟩ | ⟨rfl, rfl⟩ | ⟨rfl, rfl⟩ | ⟨rfl, rfl⟩ | ⟨rfl, rfl⟩ | ⟨rfl, rfl⟩ | ⟨rfl, rfl⟩ | ⟨rfl, rfl⟩ | ⟨rfl, rfl⟩ | ⟨rfl, rfl⟩ | ⟨rfl, rfl⟩ | ⟨rfl, rfl⟩ | ⟨rfl, rfl⟩ | ⟨rfl, rfl⟩ | ⟨rfl, rfl⟩ | ⟨rfl, rfl⟩ | ⟨rfl, rfl⟩ | ⟨rfl, rfl⟩ | ⟨rfl, rfl⟩ | ⟨rfl, rfl⟩ | ⟨rfl, rfl⟩ | ⟨rfl, rfl⟩ | ⟨rfl, rfl⟩ | ⟨rfl, rfl⟩ | ⟨rfl, rfl⟩ | ⟨rfl, rfl⟩ | ⟨rfl, rfl⟩ | ⟨rfl, rfl⟩
  · exact ev_tswC (t := 224) rfl rfl rfl k
  · exact ev_tswC (t := 257) rfl rfl rfl k
  · exact ev_tswC (t := 290) rfl rfl rfl k
  · exact ev_tswC (t := 323) rfl rfl rfl k
  · exact ev_tswC (t := 356) rfl rfl rfl k
  · exact ev_tswC (t := 389) rfl rfl rfl k
  · exact ev_tswC (t := 432) rfl rfl rfl k
  · exact ev_tswC (t := 465) rfl rfl rfl k
  · exact ev_tswC (t := 498) rfl rfl rfl k
  · exact ev_tswC (t := 531) rfl rfl rfl k
  · exact ev_tswC (t := 554) rfl rfl rfl k
  · exact ev_tswC (t := 587) rfl rfl rfl k
  · exact ev_tswC (t := 620) rfl rfl rfl k
  · exact ev_tswC (t := 643) rfl rfl rfl k
  · exact ev_tswC (t := 666) rfl rfl rfl k
  · exact ev_tswC (t := 689) rfl rfl rfl k
  · exact ev_tswC (t := 702) rfl rfl rfl k
  · exact ev_tswC (t := 745) rfl rfl rfl k
  · exact ev_tswC (t := 768) rfl rfl rfl k
  · exact ev_tswC (t := 781) rfl rfl rfl k
  · exact ev_tswC (t := 814) rfl rfl rfl k
  · exact ev_tswC (t := 837) rfl rfl rfl k
  · exact ev_tswC (t := 886) rfl rfl rfl k
  · exact ev_tswC (t := 919) rfl rfl rfl k
  · exact ev_tswC (t := 932) rfl rfl rfl k
  · exact ev_tswC (t := 955) rfl rfl rfl k
  · exact ev_tswC (t := 968) rfl rfl rfl k
  · exact ev_tswC (t := 991) rfl rfl rfl k
  · exact ev_tswC (t := 1014) rfl rfl rfl k
  · exact ev_tswC (t := 1027) rfl rfl rfl k
  · exact ev_tswC (t := 1060) rfl rfl rfl k
  · exact ev_tswC (t := 1103) rfl rfl rfl k
  · exact ev_tswC (t := 1146) rfl rfl rfl k
  · exact ev_tswC (t := 1189) rfl rfl rfl k
  · exact ev_tswC (t := 1222) rfl rfl rfl k
  · exact ev_tswC (t := 1285) rfl rfl rfl k
  · exact ev_tswC (t := 1328) rfl rfl rfl k
  · exact ev_tswC (t := 1361) rfl rfl rfl k
  · exact ev_tswC (t := 1394) rfl rfl rfl k
  · exact ev_tswC (t := 1427) rfl rfl rfl k
  · exact ev_tswC (t := 1450) rfl rfl rfl k
  · exact ev_tswC (t := 1473) rfl rfl rfl k
  · exact ev_tswC (t := 1486) rfl rfl rfl k
  · exact ev_tswC (t := 1499) rfl rfl rfl k
set_option maxRecDepth 20000 in
theorem law_sd {d n : Nat} {L : am_L} {st : List Value} {mem : am_M} {Q : am_P} {m : Nat} (h : 44 ≤ m) (hm : m < 64) (k : am_ev kc_L_law d 1522 L st (am_SK n) mem Q) : am_ev kc_L_law d 33 L (.int (nI m) :: st) (am_SK n) mem Q := by
  have e : (nI m).toInt = (m : Int) := nI_toInt (by omega)
  exact ev_tswC (t := 1522) rfl (if_pos (by rw [e]; omega)) rfl k
set_option maxRecDepth 20000 in
theorem l_law {xs : am_R} {d n : Nat} {Q : am_P} (hX : PubText xs d n) (hn : n ≤ 384) (hQ : ∀ m2 : am_M, Q (some (.int (nI 1))) (am_SK n) m2) (r : Nat) : ∀ (mem : am_M) (i : Nat), n ≤ i + r → i ≤ n + 6 → Inv xs mem → am_ev kc_L_law (d + 200) 18 [some (.ref 1), some (.ref 29), some (.ref 221), some (.int (nI i))] [] (am_SK n) mem Q := by
  induction r with
  | zero =>
    intro mem i hr hi hI
    refine ev_iload rfl rfl ?_
    refine ev_aload rfl rfl ?_
    refine ev_alen rfl ?_ (hq := k_1 n)
    refine ev_iconst (x := nI 6) rfl rfl ?_
    refine ev_isub rfl ?_
    refine ev_icmp_gt (p2 := 1528) rfl rfl (fun cnd24 => ?_) (fun cnd24 => ?_)
    · refine ev_iconst (x := nI 1) rfl rfl ?_
      refine ev_zret rfl ?_
      exact hQ mem
    · have h6 : ¬ n < i + 6 := fun z => cnd24 ((law_c hn (by omega)).mpr z)
      exact absurd (by omega) h6
  | succ r ih =>
    intro mem i hr hi hI
    refine ev_iload rfl rfl ?_
    refine ev_aload rfl rfl ?_
    refine ev_alen rfl ?_ (hq := k_1 n)
    refine ev_iconst (x := nI 6) rfl rfl ?_
    refine ev_isub rfl ?_
    refine ev_icmp_gt (p2 := 1528) rfl rfl (fun cnd24 => ?_) (fun cnd24 => ?_)
    · refine ev_iconst (x := nI 1) rfl rfl ?_
      refine ev_zret rfl ?_
      exact hQ mem
    · have h6 : ¬ n < i + 6 := fun z => cnd24 ((law_c hn (by omega)).mpr z)
      have h6 : i + 6 ≤ n := by omega
      refine ev_aload rfl rfl ?_
      refine ev_iload rfl rfl ?_
      refine ev_ialdN rfl rfl ?_ (hq := k_1 n) (hm := by omega) (hN := by omega)
      refine ev_iconst (x := nI 63) rfl rfl ?_
      refine ev_iand rfl ?_
      obtain ⟨c, hc, e⟩ := and63 (mem 1 i)
      rw [e]
      have hK : ∀ m2 : am_M, Inv xs m2 → am_ev kc_L_law (d + 200) 1522 [some (.ref 1), some (.ref 29), some (.ref 221), some (.int (nI i))] [] (am_SK n) m2 Q := by
        intro m2 hI2
        refine ev_iinc rfl rfl rfl rfl ?_
        rw [show nI i + Int32.ofInt 6 = nI (i + 6) from nI_add i 6]
        refine ev_goto (p2 := 18) rfl rfl ?_
        exact ih m2 (i + 6) (by omega) (by omega) hI2
      rcases (show c = 0 ∨ c = 1 ∨ c = 2 ∨ c = 3 ∨ c = 4 ∨ c = 5 ∨ c = 6 ∨ c = 7 ∨ c = 8 ∨ c = 9 ∨ c = 10 ∨ c = 11 ∨ c = 12 ∨ c = 13 ∨ c = 14 ∨ c = 15 ∨ c = 16 ∨ c = 17 ∨ c = 18 ∨ c = 19 ∨ c = 20 ∨ c = 21 ∨ c = 22 ∨ c = 23 ∨ c = 24 ∨ c = 25 ∨ c = 26 ∨ c = 27 ∨ c = 28 ∨ c = 29 ∨ c = 30 ∨ c = 31 ∨ c = 32 ∨ c = 33 ∨ c = 34 ∨ c = 35 ∨ c = 36 ∨ c = 37 ∨ c = 38 ∨ c = 39 ∨ c = 40 ∨ c = 41 ∨ c = 42 ∨ c = 43 ∨ 44 ≤ c by omega) with rfl | rfl | rfl | rfl | rfl | rfl | rfl | rfl | rfl | rfl | rfl | rfl | rfl | rfl | rfl | rfl | rfl | rfl | rfl | rfl | rfl | rfl | rfl | rfl | rfl | rfl | rfl | rfl | rfl | rfl | rfl | rfl | rfl | rfl | rfl | rfl | rfl | rfl | rfl | rfl | rfl | rfl | rfl | rfl | h44
      · exact law_sw (t := 224) (by decide) (law_0 hI hn h6 hK)
      · exact law_sw (t := 257) (by decide) (law_1 hI hn h6 hK)
      · exact law_sw (t := 290) (by decide) (law_2 hI hn h6 hK)
      · exact law_sw (t := 323) (by decide) (law_3 hI hn h6 hK)
      · exact law_sw (t := 356) (by decide) (law_4 hI hn h6 hK)
      · exact law_sw (t := 389) (by decide) (law_5 hI hn h6 hK)
      · exact law_sw (t := 432) (by decide) (law_6 hI hn h6 hK)
      · exact law_sw (t := 465) (by decide) (law_7 hI hn h6 hK)
      · exact law_sw (t := 498) (by decide) (law_8 hI hn h6 hK)
      · exact law_sw (t := 531) (by decide) (law_9 hI hn h6 hK)
      · exact law_sw (t := 554) (by decide) (law_10 hI hn h6 hK)
      · exact law_sw (t := 587) (by decide) (law_11 hI hn h6 hK)
      · exact law_sw (t := 620) (by decide) (law_12 hI hn h6 hK)
      · exact law_sw (t := 643) (by decide) (law_13 hI hn h6 hK)
      · exact law_sw (t := 666) (by decide) (law_14 hI hn h6 hK)
      · exact law_sw (t := 689) (by decide) (law_15 hI hn h6 hK)
      · exact law_sw (t := 702) (by decide) (law_16 hI hn h6 hK)
      · exact law_sw (t := 745) (by decide) (law_17 hI hn h6 hK)
      · exact law_sw (t := 768) (by decide) (law_18 hX hI hn h6 hK)
      · exact law_sw (t := 781) (by decide) (law_19 hI hn h6 hK)
      · exact law_sw (t := 814) (by decide) (law_20 hI hn h6 hK)
      · exact law_sw (t := 837) (by decide) (law_21 hI hn h6 hK)
      · exact law_sw (t := 886) (by decide) (law_22 hI hn h6 hK)
      · exact law_sw (t := 919) (by decide) (law_23 hI hn h6 hK)
      · exact law_sw (t := 932) (by decide) (law_24 hI hn h6 hK)
      · exact law_sw (t := 955) (by decide) (law_25 hI hn h6 hK)
      · exact law_sw (t := 968) (by decide) (law_26 hI hn h6 hK)
      · exact law_sw (t := 991) (by decide) (law_27 hI hn h6 hK)
      · exact law_sw (t := 1014) (by decide) (law_28 hI hn h6 hK)
      · exact law_sw (t := 1027) (by decide) (law_29 hI hn h6 hK)
      · exact law_sw (t := 1060) (by decide) (law_30 hI hn h6 hK)
      · exact law_sw (t := 1103) (by decide) (law_31 hI hn h6 hK)
      · exact law_sw (t := 1146) (by decide) (law_32 hI hn h6 hK)
      · exact law_sw (t := 1189) (by decide) (law_33 hI hn h6 hK)
      · exact law_sw (t := 1222) (by decide) (law_34 hI hn h6 hK)
      · exact law_sw (t := 1285) (by decide) (law_35 hI hn h6 hK)
      · exact law_sw (t := 1328) (by decide) (law_36 hI hn h6 hK)
      · exact law_sw (t := 1361) (by decide) (law_37 hI hn h6 hK)
      · exact law_sw (t := 1394) (by decide) (law_38 hI hn h6 hK)
      · exact law_sw (t := 1427) (by decide) (law_39 hI hn h6 hK)
      · exact law_sw (t := 1450) (by decide) (law_40 hI hn h6 hK)
      · exact law_sw (t := 1473) (by decide) (law_41 hI hn h6 hK)
      · exact law_sw (t := 1486) (by decide) (law_42 hI hn h6 hK)
      · exact law_sw (t := 1499) (by decide) (law_43 hI hn h6 hK)
      · exact law_sd h44 hc (hK mem hI)
