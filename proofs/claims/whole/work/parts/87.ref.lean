/-! texts: the reference's small methods -/
def IsC (c : Int32) : Prop := c = -1 ∨ c = -2 ∨ c = -3 ∨ c = -4 ∨ c = -5 ∨ c = -6 ∨ c = -7 ∨ c = -8 ∨ c = -9 ∨ c = -10
def lowH (least : Nat) : List Int32 → Prop
  | [] => True
  | c :: _ => c = -11 ∨ (IsC c ∧ rk c < least)
def cntN : List Int32 → Nat
  | [] => 0
  | c :: r => cntN r + (if c = -10 then 1 else 0)
def cntU (g : am_R) : Nat → Nat
  | 0 => 0
  | k + 1 => cntU g k + (if g k = -10 then 1 else 0)
theorem cntU_N {g : am_R} : ∀ {S : List Int32}, stkAt g S → cntU g S.length = cntN S
  | [], _ => rfl
  | a :: r, h => by
    show cntU g r.length + (if g r.length = -10 then 1 else 0) = cntN r + (if a = -10 then 1 else 0)
    rw [cntU_N h.2, h.1]
theorem IsC_11 {c : Int32} (h : IsC c) : c ≠ -11 := by
  unfold IsC at h
  rcases h with rfl | rfl | rfl | rfl | rfl | rfl | rfl | rfl | rfl | rfl <;> decide
theorem c_X12_rank {d n : Nat} {mem : am_M} {Q : am_P} (c : Int32) (hc : IsC c) (hQ : Q (some (.int (nI (rk c)))) (am_SK n) mem) : am_ex (d + 1) 190 [.int c] (am_SK n) mem Q := by
  refine ex_in (c0 := kc_X12_rank) rfl (L := [some (.int c)]) rfl ?_
  refine ev_iload rfl rfl ?_
  refine ev_iconst (x := (-1)) rfl rfl ?_
  refine ev_icmp_ne (p2 := 9) rfl rfl (fun cnd2 => ?_) (fun cnd2 => ?_)
  · skip
    refine ev_iload rfl rfl ?_
    refine ev_iconst (x := (-2)) rfl rfl ?_
    refine ev_icmp_ne (p2 := 19) rfl rfl (fun cnd12 => ?_) (fun cnd12 => ?_)
    · skip
      refine ev_iload rfl rfl ?_
      refine ev_iconst (x := (-5)) rfl rfl ?_
      refine ev_icmp_lt (p2 := 29) rfl rfl (fun cnd22 => ?_) (fun cnd22 => ?_)
      · skip
        refine ev_iload rfl rfl ?_
        refine ev_iconst (x := (-7)) rfl rfl ?_
        refine ev_icmp_lt (p2 := 39) rfl rfl (fun cnd32 => ?_) (fun cnd32 => ?_)
        · skip
          refine ev_iload rfl rfl ?_
          refine ev_iconst (x := (-9)) rfl rfl ?_
          refine ev_icmp_lt (p2 := 49) rfl rfl (fun cnd42 => ?_) (fun cnd42 => ?_)
          · skip
            refine ev_iconst (x := nI 6) rfl rfl ?_
            refine ev_iret rfl ?_
            unfold IsC at hc
            rcases hc with rfl | rfl | rfl | rfl | rfl | rfl | rfl | rfl | rfl | rfl <;> first | exact hQ | exact absurd cnd2 (by decide) | exact absurd (by decide) cnd2 | exact absurd cnd12 (by decide) | exact absurd (by decide) cnd12 | exact absurd cnd22 (by decide) | exact absurd (by decide) cnd22 | exact absurd cnd32 (by decide) | exact absurd (by decide) cnd32 | exact absurd cnd42 (by decide) | exact absurd (by decide) cnd42
          · skip
            refine ev_iconst (x := nI 5) rfl rfl ?_
            refine ev_goto (p2 := 51) rfl rfl ?_
            refine ev_iret rfl ?_
            unfold IsC at hc
            rcases hc with rfl | rfl | rfl | rfl | rfl | rfl | rfl | rfl | rfl | rfl <;> first | exact hQ | exact absurd cnd2 (by decide) | exact absurd (by decide) cnd2 | exact absurd cnd12 (by decide) | exact absurd (by decide) cnd12 | exact absurd cnd22 (by decide) | exact absurd (by decide) cnd22 | exact absurd cnd32 (by decide) | exact absurd (by decide) cnd32 | exact absurd cnd42 (by decide) | exact absurd (by decide) cnd42
        · skip
          refine ev_iconst (x := nI 4) rfl rfl ?_
          refine ev_goto (p2 := 51) rfl rfl ?_
          refine ev_iret rfl ?_
          unfold IsC at hc
          rcases hc with rfl | rfl | rfl | rfl | rfl | rfl | rfl | rfl | rfl | rfl <;> first | exact hQ | exact absurd cnd2 (by decide) | exact absurd (by decide) cnd2 | exact absurd cnd12 (by decide) | exact absurd (by decide) cnd12 | exact absurd cnd22 (by decide) | exact absurd (by decide) cnd22 | exact absurd cnd32 (by decide) | exact absurd (by decide) cnd32 | exact absurd cnd42 (by decide) | exact absurd (by decide) cnd42
      · skip
        refine ev_iconst (x := nI 3) rfl rfl ?_
        refine ev_goto (p2 := 51) rfl rfl ?_
        refine ev_iret rfl ?_
        unfold IsC at hc
        rcases hc with rfl | rfl | rfl | rfl | rfl | rfl | rfl | rfl | rfl | rfl <;> first | exact hQ | exact absurd cnd2 (by decide) | exact absurd (by decide) cnd2 | exact absurd cnd12 (by decide) | exact absurd (by decide) cnd12 | exact absurd cnd22 (by decide) | exact absurd (by decide) cnd22 | exact absurd cnd32 (by decide) | exact absurd (by decide) cnd32 | exact absurd cnd42 (by decide) | exact absurd (by decide) cnd42
    · skip
      refine ev_iconst (x := nI 2) rfl rfl ?_
      refine ev_goto (p2 := 51) rfl rfl ?_
      refine ev_iret rfl ?_
      unfold IsC at hc
      rcases hc with rfl | rfl | rfl | rfl | rfl | rfl | rfl | rfl | rfl | rfl <;> first | exact hQ | exact absurd cnd2 (by decide) | exact absurd (by decide) cnd2 | exact absurd cnd12 (by decide) | exact absurd (by decide) cnd12 | exact absurd cnd22 (by decide) | exact absurd (by decide) cnd22 | exact absurd cnd32 (by decide) | exact absurd (by decide) cnd32 | exact absurd cnd42 (by decide) | exact absurd (by decide) cnd42
  · skip
    refine ev_iconst (x := nI 1) rfl rfl ?_
    refine ev_goto (p2 := 51) rfl rfl ?_
    refine ev_iret rfl ?_
    unfold IsC at hc
    rcases hc with rfl | rfl | rfl | rfl | rfl | rfl | rfl | rfl | rfl | rfl <;> first | exact hQ | exact absurd cnd2 (by decide) | exact absurd (by decide) cnd2 | exact absurd cnd12 (by decide) | exact absurd (by decide) cnd12 | exact absurd cnd22 (by decide) | exact absurd (by decide) cnd22 | exact absurd cnd32 (by decide) | exact absurd (by decide) cnd32 | exact absurd cnd42 (by decide) | exact absurd (by decide) cnd42
theorem lsw_d : ∀ v, v < 256 → sgc v = 0 → Op.lookupswitch.offset [(38, 98), (42, 116), (43, 110), (45, 113), (47, 119), (60, 101), (61, 104), (62, 107), (124, 96)] 122 (nI v).toInt = 122 := by decide +kernel
theorem c_X12_signHere {d n : Nat} {mem : am_M} {Q : am_P} (t v : Nat) (ht : t ≤ 4) (h9 : mem 221 9 = nI t) (hv : t = 3 → v < 256 ∧ mem 221 10 = nI v) (hQ0 : t ≠ 3 → Q (some (.int (nI 0))) (am_SK n) mem) (hQ3 : t = 3 → Q (some (.int (sgc v))) (am_SK n) mem) (hQ : True) : am_ex (d + 1) 192 [.ref 221] (am_SK n) mem Q := by
  refine ex_in (c0 := kc_X12_signHere) rfl (L := [some (.ref 221)]) rfl ?_
  refine ev_aload rfl rfl ?_
  refine ev_getI (c := 12) (j := 9) rfl ?_ (hq := k_221 n)
  rw [h9]
  refine ev_iconst (x := nI 3) rfl rfl ?_
  refine ev_icmp_eqN (p2 := 10) rfl rfl (fun cnd5 => ?_) (fun cnd5 => ?_)
  · skip
    have hF : t = 3 := cnd5
    replace hQ := hQ3 hF
    refine ev_aload rfl rfl ?_
    refine ev_getI (c := 12) (j := 10) rfl ?_ (hq := k_221 n)
    rw [(hv cnd5).2]
    by_cases e124 : v = 124
    · subst e124
      refine ev_lswC (p2 := 96) rfl (by first | rfl | decide) rfl ?_
      refine ev_iconst (x := (-1)) rfl rfl ?_
      refine ev_iret rfl ?_
      exact hQ
    by_cases e38 : v = 38
    · subst e38
      refine ev_lswC (p2 := 98) rfl (by first | rfl | decide) rfl ?_
      refine ev_iconst (x := (-2)) rfl rfl ?_
      refine ev_iret rfl ?_
      exact hQ
    by_cases e60 : v = 60
    · subst e60
      refine ev_lswC (p2 := 101) rfl (by first | rfl | decide) rfl ?_
      refine ev_iconst (x := (-3)) rfl rfl ?_
      refine ev_iret rfl ?_
      exact hQ
    by_cases e61 : v = 61
    · subst e61
      refine ev_lswC (p2 := 104) rfl (by first | rfl | decide) rfl ?_
      refine ev_iconst (x := (-4)) rfl rfl ?_
      refine ev_iret rfl ?_
      exact hQ
    by_cases e62 : v = 62
    · subst e62
      refine ev_lswC (p2 := 107) rfl (by first | rfl | decide) rfl ?_
      refine ev_iconst (x := (-5)) rfl rfl ?_
      refine ev_iret rfl ?_
      exact hQ
    by_cases e43 : v = 43
    · subst e43
      refine ev_lswC (p2 := 110) rfl (by first | rfl | decide) rfl ?_
      refine ev_iconst (x := (-6)) rfl rfl ?_
      refine ev_iret rfl ?_
      exact hQ
    by_cases e45 : v = 45
    · subst e45
      refine ev_lswC (p2 := 113) rfl (by first | rfl | decide) rfl ?_
      refine ev_iconst (x := (-7)) rfl rfl ?_
      refine ev_iret rfl ?_
      exact hQ
    by_cases e42 : v = 42
    · subst e42
      refine ev_lswC (p2 := 116) rfl (by first | rfl | decide) rfl ?_
      refine ev_iconst (x := (-8)) rfl rfl ?_
      refine ev_iret rfl ?_
      exact hQ
    by_cases e47 : v = 47
    · subst e47
      refine ev_lswC (p2 := 119) rfl (by first | rfl | decide) rfl ?_
      refine ev_iconst (x := (-9)) rfl rfl ?_
      refine ev_iret rfl ?_
      exact hQ
    have e0 : sgc v = 0 := by unfold sgc; rw [if_neg e124, if_neg e38, if_neg e60, if_neg e61, if_neg e62, if_neg e43, if_neg e45, if_neg e42, if_neg e47]
    refine ev_lswC (p2 := 122) rfl (lsw_d v (hv hF).1 e0) rfl ?_
    rw [e0] at hQ
    refine ev_iconst (x := nI 0) rfl rfl ?_
    refine ev_iret rfl ?_
    exact hQ
  · skip
    refine ev_iconst (x := nI 0) rfl rfl ?_
    refine ev_iret rfl ?_
    exact hQ0 cnd5
theorem c_X12_nameOf {d n : Nat} {mem : am_M} {Q : am_P} (key v : Nat) (hk : key < 4) (hv : v < 256) (h12 : mem 221 12 = nI key) (hQ : ∀ r : Int32, r = (if nmo key v = 9 then -1 else nI (nmo key v)) → Q (some (.int r)) (am_SK n) mem) : am_ex (d + 1) 189 [.ref 221, .int (nI v)] (am_SK n) mem Q := by
  refine ex_in (c0 := kc_X12_nameOf) rfl (L := [some (.ref 221), some (.int (nI v))]) rfl ?_
  refine ev_aload rfl rfl ?_
  refine ev_getI (c := 12) (j := 12) rfl ?_ (hq := k_221 n)
  rw [h12]
  match key, hk with
  | 0, _ =>
    refine ev_tswC (p2 := 32) rfl (by first | rfl | decide) rfl ?_
    refine ev_iload rfl rfl ?_
    refine ev_iconst (x := nI 104) rfl rfl ?_
    refine ev_icmp_neN (p2 := 42) rfl rfl (fun cnd35 => ?_) (fun cnd35 => ?_)
    · skip
      refine ev_iload rfl rfl ?_
      refine ev_iconst (x := nI 100) rfl rfl ?_
      refine ev_icmp_neN (p2 := 52) rfl rfl (fun cnd45 => ?_) (fun cnd45 => ?_)
      · skip
        refine ev_iload rfl rfl ?_
        refine ev_iconst (x := nI 99) rfl rfl ?_
        refine ev_icmp_neN (p2 := 62) rfl rfl (fun cnd55 => ?_) (fun cnd55 => ?_)
        · skip
          refine ev_iconst (x := (-1)) rfl rfl ?_
          refine ev_iret rfl ?_
          refine hQ _ ?_
          first
          | (rw [cnd55]; rfl)
          | (rw [cnd45]; rfl)
          | (rw [cnd35]; rfl)
          | (rw [if_pos (show nmo 0 v = 9 by simp [nmo, cnd35, cnd45, cnd55])])
        · skip
          refine ev_iconst (x := nI 2) rfl rfl ?_
          refine ev_goto (p2 := 63) rfl rfl ?_
          refine ev_iret rfl ?_
          refine hQ _ ?_
          first
          | (rw [cnd55]; rfl)
          | (rw [cnd45]; rfl)
          | (rw [cnd35]; rfl)
          | (rw [if_pos (show nmo 0 v = 9 by simp [nmo, cnd35, cnd45, cnd55])])
      · skip
        refine ev_iconst (x := nI 1) rfl rfl ?_
        refine ev_goto (p2 := 63) rfl rfl ?_
        refine ev_iret rfl ?_
        refine hQ _ ?_
        first
        | (rw [cnd55]; rfl)
        | (rw [cnd45]; rfl)
        | (rw [cnd35]; rfl)
        | (rw [if_pos (show nmo 0 v = 9 by simp [nmo, cnd35, cnd45, cnd55])])
    · skip
      refine ev_iconst (x := nI 0) rfl rfl ?_
      refine ev_goto (p2 := 63) rfl rfl ?_
      refine ev_iret rfl ?_
      refine hQ _ ?_
      first
      | (rw [cnd55]; rfl)
      | (rw [cnd45]; rfl)
      | (rw [cnd35]; rfl)
      | (rw [if_pos (show nmo 0 v = 9 by simp [nmo, cnd35, cnd45, cnd55])])
  | 1, _ =>
    refine ev_tswC (p2 := 64) rfl (by first | rfl | decide) rfl ?_
    refine ev_iload rfl rfl ?_
    refine ev_iconst (x := nI 107) rfl rfl ?_
    refine ev_icmp_neN (p2 := 74) rfl rfl (fun cnd67 => ?_) (fun cnd67 => ?_)
    · skip
      refine ev_iload rfl rfl ?_
      refine ev_iconst (x := nI 119) rfl rfl ?_
      refine ev_icmp_neN (p2 := 84) rfl rfl (fun cnd77 => ?_) (fun cnd77 => ?_)
      · skip
        refine ev_iload rfl rfl ?_
        refine ev_iconst (x := nI 99) rfl rfl ?_
        refine ev_icmp_neN (p2 := 94) rfl rfl (fun cnd87 => ?_) (fun cnd87 => ?_)
        · skip
          refine ev_iconst (x := (-1)) rfl rfl ?_
          refine ev_iret rfl ?_
          refine hQ _ ?_
          first
          | (rw [cnd87]; rfl)
          | (rw [cnd77]; rfl)
          | (rw [cnd67]; rfl)
          | (rw [if_pos (show nmo 1 v = 9 by simp [nmo, cnd67, cnd77, cnd87])])
        · skip
          refine ev_iconst (x := nI 2) rfl rfl ?_
          refine ev_goto (p2 := 95) rfl rfl ?_
          refine ev_iret rfl ?_
          refine hQ _ ?_
          first
          | (rw [cnd87]; rfl)
          | (rw [cnd77]; rfl)
          | (rw [cnd67]; rfl)
          | (rw [if_pos (show nmo 1 v = 9 by simp [nmo, cnd67, cnd77, cnd87])])
      · skip
        refine ev_iconst (x := nI 1) rfl rfl ?_
        refine ev_goto (p2 := 95) rfl rfl ?_
        refine ev_iret rfl ?_
        refine hQ _ ?_
        first
        | (rw [cnd87]; rfl)
        | (rw [cnd77]; rfl)
        | (rw [cnd67]; rfl)
        | (rw [if_pos (show nmo 1 v = 9 by simp [nmo, cnd67, cnd77, cnd87])])
    · skip
      refine ev_iconst (x := nI 0) rfl rfl ?_
      refine ev_goto (p2 := 95) rfl rfl ?_
      refine ev_iret rfl ?_
      refine hQ _ ?_
      first
      | (rw [cnd87]; rfl)
      | (rw [cnd77]; rfl)
      | (rw [cnd67]; rfl)
      | (rw [if_pos (show nmo 1 v = 9 by simp [nmo, cnd67, cnd77, cnd87])])
  | 2, _ =>
    refine ev_tswC (p2 := 96) rfl (by first | rfl | decide) rfl ?_
    refine ev_iload rfl rfl ?_
    refine ev_iconst (x := nI 104) rfl rfl ?_
    refine ev_icmp_neN (p2 := 106) rfl rfl (fun cnd99 => ?_) (fun cnd99 => ?_)
    · skip
      refine ev_iload rfl rfl ?_
      refine ev_iconst (x := nI 100) rfl rfl ?_
      refine ev_icmp_neN (p2 := 116) rfl rfl (fun cnd109 => ?_) (fun cnd109 => ?_)
      · skip
        refine ev_iconst (x := (-1)) rfl rfl ?_
        refine ev_iret rfl ?_
        refine hQ _ ?_
        first
        | (rw [cnd109]; rfl)
        | (rw [cnd99]; rfl)
        | (rw [if_pos (show nmo 2 v = 9 by simp [nmo, cnd99, cnd109])])
      · skip
        refine ev_iconst (x := nI 1) rfl rfl ?_
        refine ev_goto (p2 := 117) rfl rfl ?_
        refine ev_iret rfl ?_
        refine hQ _ ?_
        first
        | (rw [cnd109]; rfl)
        | (rw [cnd99]; rfl)
        | (rw [if_pos (show nmo 2 v = 9 by simp [nmo, cnd99, cnd109])])
    · skip
      refine ev_iconst (x := nI 0) rfl rfl ?_
      refine ev_goto (p2 := 117) rfl rfl ?_
      refine ev_iret rfl ?_
      refine hQ _ ?_
      first
      | (rw [cnd109]; rfl)
      | (rw [cnd99]; rfl)
      | (rw [if_pos (show nmo 2 v = 9 by simp [nmo, cnd99, cnd109])])
  | 3, _ =>
    refine ev_tswC (p2 := 118) rfl (by first | rfl | decide) rfl ?_
    refine ev_iload rfl rfl ?_
    refine ev_iconst (x := nI 104) rfl rfl ?_
    refine ev_icmp_neN (p2 := 128) rfl rfl (fun cnd121 => ?_) (fun cnd121 => ?_)
    · skip
      refine ev_iload rfl rfl ?_
      refine ev_iconst (x := nI 99) rfl rfl ?_
      refine ev_icmp_neN (p2 := 138) rfl rfl (fun cnd131 => ?_) (fun cnd131 => ?_)
      · skip
        refine ev_iconst (x := (-1)) rfl rfl ?_
        refine ev_iret rfl ?_
        refine hQ _ ?_
        first
        | (rw [cnd131]; rfl)
        | (rw [cnd121]; rfl)
        | (rw [if_pos (show nmo 3 v = 9 by simp [nmo, cnd121, cnd131])])
      · skip
        refine ev_iconst (x := nI 1) rfl rfl ?_
        refine ev_goto (p2 := 139) rfl rfl ?_
        refine ev_iret rfl ?_
        refine hQ _ ?_
        first
        | (rw [cnd131]; rfl)
        | (rw [cnd121]; rfl)
        | (rw [if_pos (show nmo 3 v = 9 by simp [nmo, cnd121, cnd131])])
    · skip
      refine ev_iconst (x := nI 0) rfl rfl ?_
      refine ev_goto (p2 := 139) rfl rfl ?_
      refine ev_iret rfl ?_
      refine hQ _ ?_
      first
      | (rw [cnd131]; rfl)
      | (rw [cnd121]; rfl)
      | (rw [if_pos (show nmo 3 v = 9 by simp [nmo, cnd121, cnd131])])
def FrS (m m2 : am_M) : Prop := (∀ q, q ≠ 221 → q ≠ 229 → m2 q = m q) ∧ ∀ k, k ≠ 16 → k ≠ 19 → m2 221 k = m 221 k
theorem FrS_t {a b c : am_M} (f : FrS a b) (g : FrS b c) : FrS a c := ⟨fun q h1 h2 => (g.1 q h1 h2).trans (f.1 q h1 h2), fun k h1 h2 => (g.2 k h1 h2).trans (f.2 k h1 h2)⟩
def sOut (out : List Int32) (m : am_M) : Prop := m 221 16 = nI out.length ∧ stkAt (m 229) out
def sStk (S : List Int32) (m : am_M) : Prop := m 221 19 = nI S.length ∧ stkAt (m 230) S
theorem rk_b (c : Int32) : 1 ≤ rk c ∧ rk c ≤ 6 := by
  unfold rk
  repeat' split
  all_goals exact ⟨by decide, by decide⟩
theorem l_settle {d n : Nat} (least : Nat) (hle : least ≤ 6) {S2 : List Int32} (h2 : lowH least S2) : ∀ (P out : List Int32) (mem : am_M) {Q : am_P} (hP : ∀ c, c ∈ P → IsC c ∧ least ≤ rk c) (ho : sOut out mem) (hs : sStk (P ++ S2) mem) (hl : out.length + (P ++ S2).length ≤ 96) (hQ : ∀ m2 : am_M, FrS mem m2 → sOut (P.reverse ++ out) m2 → sStk S2 m2 → Q none (am_SK n) m2), am_ev kc_X12_settle (d + 1) 0 [some (.ref 221), some (.int (nI least))] [] (am_SK n) mem Q := by
  intro P
  induction P with
  | nil =>
    intro out mem Q hP ho hs hl hQ
    have hfin := hQ mem (And.intro (fun _ _ _ => rfl) (fun _ _ _ => rfl)) ho hs
    clear hQ
    cases S2 with
    | nil =>
      have hs1 : mem 221 19 = nI 0 := hs.1
      refine ev_aload rfl rfl ?_
      refine ev_getI (c := 12) (j := 19) rfl ?_ (hq := k_221 n)
      rw [hs1]
      refine ev_if_leN (p2 := 82) rfl rfl (fun _ => ?_) (fun zz => absurd zz (by decide))
      refine ev_vret rfl ?_
      exact hfin
    | cons c S3 =>
      have hs1 : mem 221 19 = nI (S3.length + 1) := hs.1
      have hs2 : mem 230 (S3.length + 1 - 1) = c := hs.2.1
      have hl2 : S3.length + 1 ≤ 96 := by have h9 : out.length + (S3.length + 1) ≤ 96 := hl; omega
      rcases h2 with e11 | ⟨hc, hr⟩
      · rw [e11] at hs2
        refine ev_aload rfl rfl ?_
        refine ev_getI (c := 12) (j := 19) rfl ?_ (hq := k_221 n)
        rw [hs1]
        refine ev_if_leN (p2 := 82) rfl rfl (fun cnd4 => ?_) (fun cnd4 => ?_)
        · omega
        · skip
          refine ev_aload rfl rfl ?_
          refine ev_getR (c := 12) (j := 18) rfl ?_ (hq := k_221 n)
          refine ev_aload rfl rfl ?_
          refine ev_getI (c := 12) (j := 19) rfl ?_ (hq := k_221 n)
          rw [hs1]
          refine ev_iconst (x := nI 1) rfl rfl ?_
          refine ev_isubN rfl ?_
          refine ev_ialdN rfl rfl ?_ (hq := k_230 n)
          rw [hs2]
          refine ev_iconst (x := (-11)) rfl rfl ?_
          refine ev_icmp_eq (p2 := 82) rfl rfl (fun cnd20 => ?_) (fun cnd20 => ?_)
          · skip
            refine ev_vret rfl ?_
            exact hfin
          · exact absurd rfl cnd20
      · have h11 := IsC_11 hc
        refine ev_aload rfl rfl ?_
        refine ev_getI (c := 12) (j := 19) rfl ?_ (hq := k_221 n)
        rw [hs1]
        refine ev_if_leN (p2 := 82) rfl rfl (fun cnd4 => ?_) (fun cnd4 => ?_)
        · omega
        · skip
          refine ev_aload rfl rfl ?_
          refine ev_getR (c := 12) (j := 18) rfl ?_ (hq := k_221 n)
          refine ev_aload rfl rfl ?_
          refine ev_getI (c := 12) (j := 19) rfl ?_ (hq := k_221 n)
          rw [hs1]
          refine ev_iconst (x := nI 1) rfl rfl ?_
          refine ev_isubN rfl ?_
          refine ev_ialdN rfl rfl ?_ (hq := k_230 n)
          rw [hs2]
          refine ev_iconst (x := (-11)) rfl rfl ?_
          refine ev_icmp_eq (p2 := 82) rfl rfl (fun cnd20 => ?_) (fun cnd20 => ?_)
          · exact absurd cnd20 h11
          · skip
            refine ev_aload rfl rfl ?_
            refine ev_getR (c := 12) (j := 18) rfl ?_ (hq := k_221 n)
            refine ev_aload rfl rfl ?_
            refine ev_getI (c := 12) (j := 19) rfl ?_ (hq := k_221 n)
            rw [hs1]
            refine ev_iconst (x := nI 1) rfl rfl ?_
            refine ev_isubN rfl ?_
            refine ev_ialdN rfl rfl ?_ (hq := k_230 n)
            rw [hs2]
            refine ev_call rfl rfl ?_
            refine c_X12_rank _ hc ?_
            change am_ev _ _ _ _ [_] _ _ _
            have hr9 : rk c < 10 := by omega
            refine ev_iload rfl rfl ?_
            refine ev_icmp_ltN (p2 := 82) rfl rfl (fun cnd38 => ?_) (fun cnd38 => ?_)
            · skip
              refine ev_vret rfl ?_
              exact hfin
            · omega
  | cons c P ih =>
    intro out mem Q hP ho hs hl hQ
    have hs1 : mem 221 19 = nI ((P ++ S2).length + 1) := hs.1
    have hs2 : mem 230 ((P ++ S2).length + 1 - 1) = c := hs.2.1
    have hl2 : out.length + ((P ++ S2).length + 1) ≤ 96 := hl
    obtain ⟨hc, hr⟩ := hP c List.mem_cons_self
    have h11 := IsC_11 hc
    have hz0 := hs.2.2
    have hr6 := rk_b c
    have hrev : (c :: P).reverse ++ out = P.reverse ++ (c :: out) := by simp
    rw [hrev] at hQ
    generalize hz : (P ++ S2).length = z at hs1 hs2 hl2
    refine ev_aload rfl rfl ?_
    refine ev_getI (c := 12) (j := 19) rfl ?_ (hq := k_221 n)
    rw [hs1]
    refine ev_if_leN (p2 := 82) rfl rfl (fun cnd4 => ?_) (fun cnd4 => ?_)
    · omega
    · skip
      refine ev_aload rfl rfl ?_
      refine ev_getR (c := 12) (j := 18) rfl ?_ (hq := k_221 n)
      refine ev_aload rfl rfl ?_
      refine ev_getI (c := 12) (j := 19) rfl ?_ (hq := k_221 n)
      rw [hs1]
      refine ev_iconst (x := nI 1) rfl rfl ?_
      refine ev_isubN rfl ?_
      refine ev_ialdN rfl rfl ?_ (hq := k_230 n)
      rw [hs2]
      refine ev_iconst (x := (-11)) rfl rfl ?_
      refine ev_icmp_eq (p2 := 82) rfl rfl (fun cnd20 => ?_) (fun cnd20 => ?_)
      · exact absurd cnd20 h11
      · skip
        refine ev_aload rfl rfl ?_
        refine ev_getR (c := 12) (j := 18) rfl ?_ (hq := k_221 n)
        refine ev_aload rfl rfl ?_
        refine ev_getI (c := 12) (j := 19) rfl ?_ (hq := k_221 n)
        rw [hs1]
        refine ev_iconst (x := nI 1) rfl rfl ?_
        refine ev_isubN rfl ?_
        refine ev_ialdN rfl rfl ?_ (hq := k_230 n)
        rw [hs2]
        refine ev_call rfl rfl ?_
        refine c_X12_rank _ hc ?_
        change am_ev _ _ _ _ [_] _ _ _
        refine ev_iload rfl rfl ?_
        refine ev_icmp_ltN (p2 := 82) rfl rfl (fun cnd38 => ?_) (fun cnd38 => ?_)
        · omega
        · skip
          refine ev_aload rfl rfl ?_
          first | refine ev_dupR rfl ?_ | refine ev_dupI rfl ?_
          refine ev_getI (c := 12) (j := 19) rfl ?_ (hq := k_221 n)
          rw [hs1]
          refine ev_iconst (x := nI 1) rfl rfl ?_
          refine ev_isubN rfl ?_
          refine ev_put (c := 12) (j := 19) rfl ?_ (hq := k_221 n)
          refine ev_aload rfl rfl ?_
          refine ev_getR (c := 12) (j := 15) rfl ?_ (hq := k_221 n)
          refine ev_aload rfl rfl ?_
          refine ev_getI (c := 12) (j := 16) rfl ?_ (hq := k_221 n)
          rw [am_up_nk (show (16 : Nat) ≠ 19 by decide), ho.1]
          refine ev_aload rfl rfl ?_
          refine ev_getR (c := 12) (j := 18) rfl ?_ (hq := k_221 n)
          refine ev_aload rfl rfl ?_
          refine ev_getI (c := 12) (j := 19) rfl ?_ (hq := k_221 n)
          rw [am_up_eq]
          refine ev_ialdN rfl rfl ?_ (hq := k_230 n)
          rw [am_up_ne (show (230 : Nat) ≠ 221 by decide), hs2]
          refine ev_iastN rfl rfl ?_ (hq := k_229 n)
          refine ev_aload rfl rfl ?_
          first | refine ev_dupR rfl ?_ | refine ev_dupI rfl ?_
          refine ev_getI (c := 12) (j := 16) rfl ?_ (hq := k_221 n)
          rw [am_up_ne (show (221 : Nat) ≠ 229 by decide), am_up_nk (show (16 : Nat) ≠ 19 by decide), ho.1]
          refine ev_iconst (x := nI 1) rfl rfl ?_
          refine ev_iaddN rfl ?_
          refine ev_put (c := 12) (j := 16) rfl ?_ (hq := k_221 n)
          refine ev_goto (p2 := 0) rfl rfl ?_
          refine ih (c :: out) _ (fun c2 h2 => hP c2 (List.mem_cons_of_mem _ h2)) ?_ ?_ (by rw [hz]; show out.length + 1 + z ≤ 96; omega) (fun m2 f1 f2 f3 => hQ m2 (FrS_t ?_ f1) f2 f3)
          · refine And.intro am_up_eq ?_
            rw [am_up_ne (by decide)]
            exact stkAt_mem (by rw [am_up_ne (by decide)]; exact ho.2) rfl
          · refine And.intro ?_ ?_
            · rw [am_up_nk (by decide), am_up_ne (by decide), am_up_eq, hz]
              rfl
            · rw [am_up_ne (by decide), am_up_ne (by decide), am_up_ne (by decide)]
              exact hz0
          · refine And.intro (fun q h1 h2 => by rw [am_up_ne h1, am_up_ne h2, am_up_ne h1]) (fun k h1 h2 => by rw [am_up_nk h1, am_up_ne (by decide), am_up_nk h2])
theorem c_X12_settle {d n : Nat} {mem : am_M} {Q : am_P} (least : Nat) (hle : least ≤ 6) {out P S2 : List Int32} (h2 : lowH least S2) (hP : ∀ c, c ∈ P → IsC c ∧ least ≤ rk c) (ho : sOut out mem) (hs : sStk (P ++ S2) mem) (hl : out.length + (P ++ S2).length ≤ 96) (hQ : ∀ m2 : am_M, FrS mem m2 → sOut (P.reverse ++ out) m2 → sStk S2 m2 → Q none (am_SK n) m2) : am_ex (d + 2) 191 [.ref 221, .int (nI least)] (am_SK n) mem Q := by
  refine ex_in (c0 := kc_X12_settle) rfl (L := [some (.ref 221), some (.int (nI least))]) rfl ?_
  exact l_settle least hle h2 P out mem hP ho hs hl hQ
theorem l_nots {d n : Nat} {mem : am_M} {Q : am_P} (h : Nat) (hh : h ≤ 96) (h19 : mem 221 19 = nI h) (hQ : Q (some (.int (nI (cntU (mem 230) h)))) (am_SK n) mem) (r : Nat) : ∀ b, b + r = h → cntU (mem 230) b ≤ b → am_ev kc_X12_notsOpen d 4 [some (.ref 221), some (.int (nI (cntU (mem 230) b))), some (.int (nI b))] [] (am_SK n) mem Q := by
  induction r with
  | zero =>
    intro b hb hc
    refine ev_iload rfl rfl ?_
    refine ev_aload rfl rfl ?_
    refine ev_getI (c := 12) (j := 19) rfl ?_ (hq := k_221 n)
    rw [h19]
    refine ev_icmp_geN (p2 := 37) rfl rfl (fun cnd9 => ?_) (fun cnd9 => ?_)
    · skip
      refine ev_iload rfl rfl ?_
      refine ev_iret rfl ?_
      rw [show h = b by omega] at hQ
      exact hQ
    · omega
  | succ r ih =>
    intro b hb hc
    refine ev_iload rfl rfl ?_
    refine ev_aload rfl rfl ?_
    refine ev_getI (c := 12) (j := 19) rfl ?_ (hq := k_221 n)
    rw [h19]
    refine ev_icmp_geN (p2 := 37) rfl rfl (fun cnd9 => ?_) (fun cnd9 => ?_)
    · omega
    · skip
      refine ev_iload rfl rfl ?_
      refine ev_aload rfl rfl ?_
      refine ev_getR (c := 12) (j := 18) rfl ?_ (hq := k_221 n)
      refine ev_iload rfl rfl ?_
      refine ev_ialdN rfl rfl ?_ (hq := k_230 n)
      refine ev_iconst (x := (-10)) rfl rfl ?_
      refine ev_icmp_ne (p2 := 28) rfl rfl (fun cnd21 => ?_) (fun cnd21 => ?_)
      · skip
        refine ev_iconst (x := nI 0) rfl rfl ?_
        refine ev_iaddN rfl ?_
        refine ev_istore rfl rfl (Nat.le_of_ble_eq_true rfl) ?_
        refine ev_iincN rfl rfl rfl ?_
        refine ev_goto (p2 := 4) rfl rfl ?_
        have e := ih (b + 1) (by omega)
        unfold cntU at e
        first
        | (rw [if_pos cnd21] at e; exact e (by omega))
        | (rw [if_neg cnd21] at e; exact e (by omega))
      · skip
        refine ev_iconst (x := nI 1) rfl rfl ?_
        refine ev_goto (p2 := 29) rfl rfl ?_
        refine ev_iaddN rfl ?_
        refine ev_istore rfl rfl (Nat.le_of_ble_eq_true rfl) ?_
        refine ev_iincN rfl rfl rfl ?_
        refine ev_goto (p2 := 4) rfl rfl ?_
        have e := ih (b + 1) (by omega)
        unfold cntU at e
        first
        | (rw [if_pos cnd21] at e; exact e (by omega))
        | (rw [if_neg cnd21] at e; exact e (by omega))
theorem c_X12_notsOpen {d n : Nat} {mem : am_M} {Q : am_P} {S : List Int32} (hs : sStk S mem) (hl : S.length ≤ 96) (hQ : Q (some (.int (nI (cntN S)))) (am_SK n) mem) : am_ex (d + 1) 195 [.ref 221] (am_SK n) mem Q := by
  refine ex_in (c0 := kc_X12_notsOpen) rfl (L := [some (.ref 221), none, none]) rfl ?_
  refine ev_iconst (x := nI 0) rfl rfl ?_
  refine ev_istore rfl rfl (Nat.le_of_ble_eq_true rfl) ?_
  refine ev_iconst (x := nI 0) rfl rfl ?_
  refine ev_istore rfl rfl (Nat.le_of_ble_eq_true rfl) ?_
  exact l_nots S.length hl hs.1 (by rw [cntU_N hs.2]; exact hQ) S.length 0 (by omega) (Nat.le_refl _)
