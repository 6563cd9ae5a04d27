section E23
variable {L : Nat} {xs : Nat → Int32} {d : Nat} {Q : AQ} {M M0 M1 M2 : AM} {n N k0 : Nat} {f : Nat → Nat → Nat} {io : Nat → Option Nat} {C : Nat → Bool} {T : PV} {x1 x2 x3 : Int32}
theorem l_ne0 {a : Nat} (h : a ≠ 0) (ha : a < 2 ^ 31) : ¬ lN a = 0 := fun z => h ((pk_lEQ (a := a) (b := 0) (by omega) (by decide)).mp z)
theorem m_gcd : ∀ (j a b : Nat), b ≤ j → a < 2 ^ 20 → b < 2 ^ 20 → Q (some (.long (lN (Nat.gcd a b)))) M → v_Md_commonOf L xs d Q 6 [(4, .long (lN a)), (6, .long (lN b))] [] M
  | 0, a, b, hb, ha, hb2, kk => by
    have : b = 0 := by omega
    subst this
    rw [Nat.gcd_zero_right] at kk
    exact u_Md_commonOf_6 ⟨fun _ => kk, fun z => absurd ((lg_cmp_eq _ _).mpr rfl) z⟩
  | j + 1, a, b, hb, ha, hb2, kk => by
    by_cases b0 : b = 0
    · subst b0
      rw [Nat.gcd_zero_right] at kk
      exact u_Md_commonOf_6 ⟨fun _ => kk, fun z => absurd ((lg_cmp_eq _ _).mpr rfl) z⟩
    · have hm : a % b < b := Nat.mod_lt a (by omega)
      have nz : ¬ lN b = 0 := l_ne0 b0 (by omega)
      rw [gcd_st] at kk
      refine u_Md_commonOf_6 ⟨fun z => absurd ((lg_cmp_eq _ _).mp z) nz, fun _ => ⟨nz, ?_⟩⟩
      rw [show lrem (lN a) (lN b) = lN (a % b) from pk_lRem (by omega) (by omega) (by omega)]
      exact m_gcd j b (a % b) (by omega) hb2 (by omega) kk
theorem dgo_W {G : Nat → Bool} {pl s : Nat} : ioW f (dgo T n f C G pl s) := fun p a h => by
  have := (dgo_lt h).2.2.1
  unfold thr at this
  simp only [Bool.and_eq_true, decide_eq_true_eq] at this
  exact this
/-- a mean: the sum, or the number, by what both share -/
def meV (part S c : Nat) : Int64 := if c = 0 then -2 else if part = 0 then lN (S / Nat.gcd S c) else lN (c / Nat.gcd S c)
theorem x_mean {S c part : Nat} {x2 : Int32} (hc : c ≤ 15) (hS : S < 2 ^ 20) (hp : part < 2) (h0 : c ≠ 0) (kk : Q (some (.long (meV part S c))) M) : am_Call (gG L xs) (d + 1) c_Mo_sharedDivisor [.int (nI S), .int (nI c)] M (fun r M' => v_Mo_mean L xs (d + 1) Q 86 [(3, .int (nI part)), (4, .int (nI c)), (5, .int (nI S))] (r.toList ++ []) M') := by
  have hg : Nat.gcd S c ≤ c := Nat.gcd_le_right S (by omega)
  have hg0 : 0 < Nat.gcd S c := Nat.gcd_pos_of_pos_right S (by omega)
  have hd1 := Nat.div_le_self S (Nat.gcd S c)
  have hd2 := Nat.div_le_self c (Nat.gcd S c)
  refine t_Mo_sharedDivisor (s_gcd c S c 0 (Nat.le_refl _) (by omega) hS (by omega) (u_Mo_mean_86 ⟨fun _ => ⟨fun z => ⟨nI_ne0 (by omega) (by omega), ?_⟩, fun z => ⟨nI_ne0 (by omega) (by omega), ?_⟩⟩, fun z => absurd ((n_leI (a := 1) (by decide) (by omega)).mpr (by omega)) z⟩))
  · have hp1 : part ≠ 0 := fun y => z (by rw [y]; rfl)
    unfold meV at kk
    rw [if_neg h0, if_neg hp1] at kk
    rw [n_div (by omega) hg0 (by omega), l_64 (by omega)]
    exact kk
  · have hp0 : part = 0 := (nI_eq (b := 0) (by omega) (by decide)).mp z
    unfold meV at kk
    rw [if_neg h0, if_pos hp0] at kk
    rw [n_div (by omega) hg0 (by omega), l_64 (by omega)]
    exact kk
theorem m_partOf {S c part : Nat} (hc : c ≤ 15) (hS : S < 2 ^ 20) (hp : part < 2) (h0 : c ≠ 0) (kk : Q (some (.long (meV part S c))) M) : am_Call (gG L xs) (d + 3) c_Md_partOf [.long (lN S), .long (lN c), .int (nI part)] M Q := by
  have hg : Nat.gcd S c ≤ c := Nat.gcd_le_right S (by omega)
  have hg0 : 0 < Nat.gcd S c := Nat.gcd_pos_of_pos_right S (by omega)
  have nz : ¬ lN (Nat.gcd S c) = 0 := l_ne0 (by omega) (by omega)
  unfold meV at kk
  rw [if_neg h0] at kk
  refine t_Md_partOf ⟨fun z => t_Md_commonOf (m_gcd S c S (Nat.le_refl _) (by omega) hS (by
    rw [Nat.gcd_comm]
    refine u_Md_partOf_15 ⟨fun y => ⟨nz, ?_⟩, fun y => ⟨nz, ?_⟩⟩
    · rw [if_neg (fun w => y (by rw [w]; rfl))] at kk
      rw [pk_lDiv (by omega) hg0 (by omega)]
      exact kk
    · rw [if_pos ((nI_eq (b := 0) (by omega) (by decide)).mp y)] at kk
      rw [pk_lDiv (by omega) hg0 (by omega)]
      exact kk)), fun z => ?_⟩
  have s0 : S = 0 := (pk_lEQ (a := S) (b := 0) (by omega) (by decide)).mp ((lg_cmp_eq _ _).mp z)
  subst s0
  rw [Nat.gcd_zero_left, Nat.zero_div, Nat.div_self (by omega)] at kk
  rw [l_64 (by omega)]
  have h2 : part = 0 ∨ part = 1 := by omega
  rcases h2 with rfl | rfl
  · exact kk
  · exact kk
theorem j_mean (hI : Inv M) (hd : 100 ≤ d) : JnL L xs d c_Mo_mean c_Md_mean [.ref 0, .int x1, .int x2, .int x3] [.ref 40, .int x1, .int x2, .int x3] M := by
  obtain ⟨n, f, T, hx, hr⟩ := hI.s
  obtain ⟨d, rfl⟩ : ∃ a, d = a + 6 := ⟨d - 6, by omega⟩
  have hn := hx.2.2.2
  by_cases hv : 0 ≤ x1.toInt ∧ x1.toInt ≤ 100 ∧ 0 ≤ x2.toInt ∧ x2.toInt ≤ 1 ∧ 0 ≤ x3.toInt ∧ x3.toInt ≤ 1
  · obtain ⟨v1, v2, v3, v4, v5, v6⟩ := hv
    obtain ⟨k, rfl, hk, -⟩ := n_ofI v1
    obtain ⟨w, rfl, hw, -⟩ := n_ofI v3
    obtain ⟨part, rfl, hp, -⟩ := n_ofI v5
    have hw2 : w < 2 := by omega
    have hp2 : part < 2 := by omega
    have hk100 : k ≤ 100 := by omega
    obtain ⟨io, hio⟩ : ∃ io, io = dgo T n f (ein n) noG 5 k := ⟨_, rfl⟩
    have hioW : ioW f io := by rw [hio]; exact dgo_W
    have b1 := sm_le (g := gW f io) (b := 99) (n := n) (gW_le hx.2.2.1 hioW)
    have b2 := sm_le (g := gH f io) (b := 220) (n := n) (gH_le hx.2.2.1)
    have hc := cnt_le (fun p => (io p).isSome) n
    have z1 : nI w = 0 ↔ w = 0 := nI_eq (b := 0) (by omega) (by decide)
    obtain ⟨g, hg⟩ : ∃ g, g = if w = 0 then gW f io else gH f io := ⟨_, rfl⟩
    have hS : sm g n < 2 ^ 20 := by
      rw [hg]
      by_cases h : w = 0
      · rw [if_pos h]; omega
      · rw [if_neg h]; omega
    refine JnL.of2 (v := meV part (sm g n) (cnt (fun p => (io p).isSome) n)) (P := fr qK M) (fun Q kk => ?_) (fun M1 F Q kk => ?_)
    · refine t_Mo_mean ?_
      ((try simp only [lg_cmp_lt, lg_cmp_gt]); simp (disch := omega) only [Int64.lt_iff_toInt_lt, Int32.toInt_toInt64, Int64.reduceToInt, ← Int32.toInt_inj, Int32.lt_iff_toInt_lt, Int32.le_iff_toInt_le, Int32.reduceToInt, nI_toInt, false_implies, true_implies, and_true, true_and, not_true_eq_false, not_false_eq_true, forall_const, implies_true, false_and, and_false, true_or, or_true, eq_self])
      repeat' (first | (with_reducible refine And.intro ?_ ?_) | (with_reducible intro h; first | (exfalso; omega) | contradiction | skip))
      all_goals
        refine x_bg (by omega) hx (fun M1 f1 s1 g1 l1 => u_Mo_mean_36 (x_runs (pl := 5) (by omega) s1 g1 (by omega) (by decide) l1 (fun M2 f2 s2 g2 l2 => ?_)))
        rw [← hio] at g2 ⊢
        have K := kk _ (f1.q f2)
        refine u_Mo_mean_45 ⟨fun y => ⟨fun z => ?_, fun z => ?_⟩, fun y => ?_⟩
        · have h0 : cnt (fun p => (io p).isSome) n ≠ 0 := fun e => y (by rw [e]; rfl)
          have hw0 : ¬ w = 0 := fun e => z (z1.mpr e)
          rw [hg, if_neg hw0] at K
          rw [hg, if_neg hw0] at hS
          exact s_heightsW (by omega) g2 hx.2.2.1 hioW (u_Mo_mean_77 (x_mean (x2 := 0) (by omega) hS hp2 h0 K))
        · have h0 : cnt (fun p => (io p).isSome) n ≠ 0 := fun e => y (by rw [e]; rfl)
          have hw0 : w = 0 := z1.mp z
          rw [hg, if_pos hw0] at K
          rw [hg, if_pos hw0] at hS
          exact s_waitsW (by omega) g2 hx.2.2.1 hioW (u_Mo_mean_67 (x_mean (x2 := 0) (by omega) hS hp2 h0 K))
        · have h0 : cnt (fun p => (io p).isSome) n = 0 := (nI_eq (b := 0) (by omega) (by decide)).mp y
          rw [h0, show meV part (sm g n) 0 = -2 from rfl] at K
          exact K
    · refine t_Md_mean ?_
      ((try simp only [lg_cmp_lt, lg_cmp_gt]); simp (disch := omega) only [Int64.lt_iff_toInt_lt, Int32.toInt_toInt64, Int64.reduceToInt, ← Int32.toInt_inj, Int32.lt_iff_toInt_lt, Int32.le_iff_toInt_le, Int32.reduceToInt, nI_toInt, false_implies, true_implies, and_true, true_and, not_true_eq_false, not_false_eq_true, forall_const, implies_true, false_and, and_false, true_or, or_true, eq_self])
      repeat' (first | (with_reducible refine And.intro ?_ ?_) | (with_reducible intro h; first | (exfalso; omega) | contradiction | skip))
      refine m_bg (by omega) (hr.x F) (fun M4 f4 s4 g4 l4 => u_Md_mean_35 (m_go (by omega) s4 g4 (by omega) l4 (fun M5 f5 s5 g5 l5 => u_Md_mean_40 ?_)))
      have I5 : Inv M5 := hI.q2 F (f4.tt f5)
      have K := kk _ I5
      have e49 : ∀ p, p < 15 → M5.1 49 p = oI (io p) := fun p hp => by rw [hio]; exact g5.at hp
      have loop : ∀ j p, p + j = n → v_Md_mean L xs (d + 5) Q 46 [(0, .ref 40), (2, .int (nI w)), (3, .int (nI part)), (4, .long (lN (sm g p))), (6, .int (nI p))] [] M5 := by
        intro j
        induction j with
        | zero =>
          intro p hpn
          have hpe : p = n := by omega
          subst hpe
          refine u_Md_mean_46 ⟨fun _ => m_inM (by omega) s5 g5 (by omega) ?_, fun z => absurd ?_ z⟩
          · rw [← hio]
            refine u_Md_mean_119 ⟨fun y => m_inM (by omega) s5 g5 (by omega) ?_, fun y => ?_⟩
            · have h0 : cnt (fun p => (io p).isSome) p ≠ 0 := fun e => y (by rw [e]; rfl)
              rw [← hio]
              refine u_Md_mean_134 ?_
              rw [l_64 (by omega)]
              exact m_partOf (by omega) hS hp2 h0 (u_Md_mean_139 K)
            · have h0 : cnt (fun q => (io q).isSome) p = 0 := (nI_eq (b := 0) (by omega) (by decide)).mp y
              rw [h0, show meV part (sm g p) 0 = -2 from rfl] at K
              exact K
          · rw [s5.1]; exact nI_le (by omega) (by omega)
        | succ j ih =>
          intro p hpn
          have R := ih (p + 1) (by omega)
          have hok := hx.2.2.1 p (by omega)
          rw [show sm g (p + 1) = sm g p + g p from rfl, ← lN_add] at R
          have q0 : vp_in ((5 : Int32) * nI p + 0) 75 ∧ M5.1 41 (((5 : Int32) * nI p + 0).toNatClampNeg) = nI (f 0 p) := s5.2.1.at 0 (by decide) (by omega)
          have q1 : vp_in ((5 : Int32) * nI p + 1) 75 ∧ M5.1 41 (((5 : Int32) * nI p + 1).toNatClampNeg) = nI (f 1 p) := s5.2.1.at 1 (by decide) (by omega)
          refine u_Md_mean_46 ⟨fun z => absurd z (by rw [s5.1]; exact nI_ge (by omega) (by omega)), fun _ => ⟨(n_vp (by omega)).mpr (by omega), ?_⟩⟩
          rw [n_cl (show p < 2 ^ 31 by omega), e49 p (by omega), q0.2, q1.2, nI_1]
          cases z : io p with
          | none =>
            have g0 : g p = 0 := by
              rw [hg]
              by_cases h : w = 0
              · rw [if_pos h]; exact gW_n z
              · rw [if_neg h]; exact gH_n z
            rw [g0, lN_add, Nat.add_zero] at R
            exact ⟨fun _ => R, fun y => absurd (by decide) y⟩
          | some a =>
            have h1 := hioW p a z
            rw [show oI (some a) = nI a from rfl, n_sub h1.1, l_64 (show f 0 p < 2 ^ 31 by omega), l_64 (show a - f 1 p < 2 ^ 31 by omega)]
            refine ⟨fun y => absurd y (nI_pos (by omega)), fun _ => ⟨fun y => ⟨q0.1, ?_⟩, fun y => ⟨q1.1, ?_⟩⟩⟩
            · have g0 : g p = f 0 p := by rw [hg, if_neg (fun h => y (z1.mpr h))]; exact gH_s z
              rw [g0] at R; exact R
            · have g0 : g p = a - f 1 p := by rw [hg, if_pos (z1.mp y)]; exact gW_s z
              rw [g0] at R; exact R
      exact loop n 0 (by omega)
  · refine JnL.no (-9223372036854775808) hI (fun Q k => ?_) (fun Q k => ?_)
    · refine t_Mo_mean ?_
      ((try simp only [lg_cmp_lt, lg_cmp_gt]); simp (disch := omega) only [Int64.lt_iff_toInt_lt, Int32.toInt_toInt64, Int64.reduceToInt, ← Int32.toInt_inj, Int32.lt_iff_toInt_lt, Int32.le_iff_toInt_le, Int32.reduceToInt, nI_toInt, false_implies, true_implies, and_true, true_and, not_true_eq_false, not_false_eq_true, forall_const, implies_true, false_and, and_false, true_or, or_true, eq_self])
      repeat' (first | (with_reducible refine And.intro ?_ ?_) | (with_reducible intro h; first | (exfalso; omega) | contradiction | skip))
      all_goals first | exact k | (exfalso; omega)
    · refine t_Md_mean ?_
      ((try simp only [lg_cmp_lt, lg_cmp_gt]); simp (disch := omega) only [Int64.lt_iff_toInt_lt, Int32.toInt_toInt64, Int64.reduceToInt, ← Int32.toInt_inj, Int32.lt_iff_toInt_lt, Int32.le_iff_toInt_le, Int32.reduceToInt, nI_toInt, false_implies, true_implies, and_true, true_and, not_true_eq_false, not_false_eq_true, forall_const, implies_true, false_and, and_false, true_or, or_true, eq_self])
      repeat' (first | (with_reducible refine And.intro ?_ ?_) | (with_reducible intro h; first | (exfalso; omega) | contradiction | skip))
      all_goals first | exact k | (exfalso; omega)
end E23
