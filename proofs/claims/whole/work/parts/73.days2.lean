section D3
variable {L : Nat} {xs : Nat → Int32} {d : Nat} {Q : AQ} {M M1 M2 : AM} {T : PV} {f : Nat → Nat → Nat} {n k0 : Nat} {C G : Nat → Bool} {io : Nat → Option Nat} {x1 x2 x3 : Int32}
theorem oI_n2 {o : Option Nat} (h : ∀ a, o = some a → a < 2 ^ 20) : (oI o = -2) = (o = none) := propext (oI_eq (fun a z => by have := h a z; omega))
def wnt (f : Nat → Nat → Nat) (io : Nat → Option Nat) (k : Nat) : Nat → Bool := fun p => (io p).isNone && decide (f 1 p + f 2 p ≤ k)
theorem s_wentWithout (hd : 2 ≤ d) (h1 : crw 16 17 n f M) (hi : ∀ p, p < 15 → M.1 19 p = oI (io p)) (hio : ioB io) (hok : okP n f) (hk : k0 < 2 ^ 20) (kk : Q (some (.int (nI (cnt (wnt f io k0) n)))) M) : am_Call (gG L xs) d c_Day_wentWithout [.ref 15, .int (nI k0)] M Q := by
  obtain ⟨d, rfl⟩ : ∃ a, d = a + 2 := ⟨d - 2, by omega⟩
  have hn := h1.2.1
  have loop : ∀ j p, p + j = n → v_Day_wentWithout L xs (d + 1) Q 4 [(0, .ref 15), (1, .int (nI k0)), (2, .int (nI (cnt (wnt f io k0) p))), (3, .int (nI p))] [] M := by
    intro j
    induction j with
    | zero =>
      intro p hp
      have : p = n := by omega
      subst this
      exact u_Day_wentWithout_4 ⟨fun _ => kk, fun z => absurd (by rw [h1.1]; exact nI_le (Nat.le_refl _) (by omega)) z⟩
    | succ j ih =>
      intro p hp
      have nx := ih (p + 1) (by omega)
      rw [cnt_s] at nx
      have q1 : vp_in ((1 : Int32) * 15 + nI p) 75 ∧ M.1 17 (((1 : Int32) * 15 + nI p).toNatClampNeg) = nI (f 1 p) := h1.at (w := 1) (by decide) (by omega)
      have q2 : vp_in ((2 : Int32) * 15 + nI p) 75 ∧ M.1 17 (((2 : Int32) * 15 + nI p).toNatClampNeg) = nI (f 2 p) := h1.at (w := 2) (by decide) (by omega)
      obtain ⟨o1, o2, o3, o4, o5, o6, o7⟩ := hok p (by omega)
      refine u_Day_wentWithout_4 ⟨fun z => absurd z (by rw [h1.1]; exact nI_ge (by omega) (by omega)), fun _ => ⟨fun z => absurd z (nI_pos (by omega)), fun _ => ⟨q1.1, q2.1, (n_vp (by omega)).mpr (by omega), ?_⟩⟩⟩
      rw [q1.2, q2.2, n_cl (by omega), hi p (by omega), oI_n2 (hio p), nI_add, n_ltI (by omega) (by omega), nI_1, nI_1]
      refine ⟨fun h => ?_, fun h => ⟨fun h2 => ?_, fun h2 => ?_⟩⟩
      · have : wnt f io k0 p = false := by
          cases z : io p with
          | none => exact absurd z h
          | some a => simp [wnt, z]
        rw [this] at nx; exact nx
      · have : wnt f io k0 p = false := by simp [wnt]; intro _; omega
        rw [this] at nx; exact nx
      · have : wnt f io k0 p = true := by simp [wnt, h]; omega
        rw [this] at nx; exact nx
  exact t_Day_wentWithout (loop n 0 (by omega))
theorem m_without (h6 : M.1 40 6 = nI n) (hP : pM n f M) (hi : ∀ p, p < 15 → M.1 49 p = oI (io p)) (hio : ioB io) (hok : okP n f) (hk : k0 < 2 ^ 20) (kk : Q (some (.int (nI (cnt (wnt f io k0) n)))) M) : v_Md_day L xs d Q 60 [(0, .ref 40), (1, .int (nI k0)), (3, .int 0), (4, .int 0)] [] M := by
  have hn := hP.1
  have loop : ∀ j p, p + j = n → v_Md_day L xs d Q 60 [(0, .ref 40), (1, .int (nI k0)), (3, .int (nI (cnt (wnt f io k0) p))), (4, .int (nI p))] [] M := by
    intro j
    induction j with
    | zero =>
      intro p hp
      have : p = n := by omega
      subst this
      exact u_Md_day_60 ⟨fun _ => kk, fun z => absurd (by rw [h6]; exact nI_le (Nat.le_refl _) (by omega)) z⟩
    | succ j ih =>
      intro p hp
      have nx := ih (p + 1) (by omega)
      rw [cnt_s] at nx
      have q1 : vp_in ((5 * nI p) + 1) 75 ∧ M.1 41 (((5 * nI p) + 1).toNatClampNeg) = nI (f 1 p) := hP.at 1 (by decide) (by omega)
      have q2 : vp_in ((5 * nI p) + 2) 75 ∧ M.1 41 (((5 * nI p) + 2).toNatClampNeg) = nI (f 2 p) := hP.at 2 (by decide) (by omega)
      obtain ⟨o1, o2, o3, o4, o5, o6, o7⟩ := hok p (by omega)
      refine u_Md_day_60 ⟨fun z => absurd z (by rw [h6]; exact nI_ge (by omega) (by omega)), fun _ => ⟨(n_vp (by omega)).mpr (by omega), ?_⟩⟩
      rw [q1.2, q2.2, n_cl (by omega), hi p (by omega), oI_ge (hio p), nI_add, n_ltI (by omega) (by omega), nI_1, nI_1, show nI (cnt (wnt f io k0) p) + 0 = nI (cnt (wnt f io k0) p + 0) from nI_add _ 0]
      refine ⟨fun h => ?_, fun h => ⟨q1.1, q2.1, fun h2 => ?_, fun h2 => ?_⟩⟩
      · have : wnt f io k0 p = false := by
          cases z : io p with
          | none => exact absurd z h
          | some a => simp [wnt, z]
        rw [this] at nx; exact nx
      · have : wnt f io k0 p = false := by simp [wnt]; intro _; omega
        rw [this] at nx; exact nx
      · have hnn : io p = none := by
          cases z : io p with
          | none => rfl
          | some a => exact absurd (by rw [z]; simp) h
        have : wnt f io k0 p = true := by simp [wnt, hnn]; omega
        rw [this] at nx; exact nx
  exact loop n 0 (by omega)
theorem j_day (hI : Inv M) (hd : 100 ≤ d) : Jn L xs d c_Mo_day c_Md_day [.ref 0, .int x1, .int x2] [.ref 40, .int x1, .int x2] M := by
  obtain ⟨n, f, T, hx, hr⟩ := hI.s
  obtain ⟨d, rfl⟩ : ∃ a, d = a + 6 := ⟨d - 6, by omega⟩
  have hn := hx.2.2.2
  by_cases hv : 0 ≤ x1.toInt ∧ x1.toInt ≤ 100 ∧ 0 ≤ x2.toInt ∧ x2.toInt ≤ 2
  · obtain ⟨v1, v2, v3, v4⟩ := hv
    obtain ⟨s, rfl, hs, -⟩ := n_ofI v1
    obtain ⟨w, rfl, hw, -⟩ := n_ofI v3
    have e0 : nI w = 0 ↔ w = 0 := nI_eq (b := 0) (by omega) (by decide)
    have e1 : nI w = 1 ↔ w = 1 := nI_eq (b := 1) (by omega) (by decide)
    have e2 : nI w = 2 ↔ w = 2 := nI_eq (b := 2) (by omega) (by decide)
    refine Jn.of (v := if w = 0 then nI (cnt (fun p => (dgo T n f (ein n) noG 5 s p).isSome) n) else if w = 1 then nI (cnt (wnt f (dgo T n f (ein n) noG 5 s) s) n) else nI (dlg T n f (ein n) noG 5 s)) (P := fr qK M) ?_ (fun M1 F => ?_)
    · refine t_Mo_day ?_
      ((try simp only [lg_cmp_lt, lg_cmp_gt]); simp (disch := omega) only [Int64.lt_iff_toInt_lt, Int32.toInt_toInt64, Int64.reduceToInt, ← Int32.toInt_inj, Int32.lt_iff_toInt_lt, Int32.le_iff_toInt_le, Int32.reduceToInt, nI_toInt, false_implies, true_implies, and_true, true_and, not_true_eq_false, not_false_eq_true, forall_const, implies_true, false_and, and_false, true_or, or_true, eq_self])
      repeat' (first | (with_reducible refine And.intro ?_ ?_) | (with_reducible intro h; first | (exfalso; omega) | contradiction | skip))
      refine x_bg (by omega) hx (fun M1 f1 s1 g1 l1 => u_Mo_day_29 (x_runs (pl := 5) (by omega) s1 g1 (by omega) (by decide) l1 (fun M2 f2 s2 g2 l2 => u_Mo_day_38 ?_)))
      have F : fr qK M M2 := f1.q f2
      refine ⟨fun z => ⟨fun y => ⟨?_, F⟩, fun y => ?_⟩, fun z => ⟨?_, F⟩⟩
      · rw [l2, if_neg (fun q => z (e0.mpr q)), if_neg (fun q => y (e1.mpr q))]
      · refine s_wentWithout (by omega) g2.1 g2.2.2.2.2 (dgo_ioB (by omega)) s2.2.2.1 (by omega) (u_Mo_day_58 ⟨?_, F⟩)
        rw [if_neg (fun q => z (e0.mpr q)), if_pos (e1.mp y)]
      · rw [if_pos (e0.mp z)]
    · refine t_Md_day ?_
      ((try simp only [lg_cmp_lt, lg_cmp_gt]); simp (disch := omega) only [Int64.lt_iff_toInt_lt, Int32.toInt_toInt64, Int64.reduceToInt, ← Int32.toInt_inj, Int32.lt_iff_toInt_lt, Int32.le_iff_toInt_le, Int32.reduceToInt, nI_toInt, false_implies, true_implies, and_true, true_and, not_true_eq_false, not_false_eq_true, forall_const, implies_true, false_and, and_false, true_or, or_true, eq_self])
      repeat' (first | (with_reducible refine And.intro ?_ ?_) | (with_reducible intro h; first | (exfalso; omega) | contradiction | skip))
      refine m_bg (by omega) (hr.x F) (fun M4 f4 s4 g4 l4 => u_Md_day_25 (m_go (by omega) s4 g4 (by omega) l4 (fun M5 f5 s5 g5 l5 => u_Md_day_30 ?_)))
      have I5 : Inv M5 := hI.q2 F (f4.tt f5)
      refine ⟨fun z => m_inM (by omega) s5 g5 (by omega) (u_Md_day_47 ⟨?_, I5⟩), fun z => ⟨fun y => ?_, fun y => ⟨?_, I5⟩⟩⟩
      · rw [if_pos (e0.mp z)]
      · have hw1 : w = 1 := by
          have : ¬ w = 0 := fun q => z (e0.mpr q)
          have : ¬ w = 2 := fun q => y (e2.mpr q)
          omega
        refine m_without s5.1 s5.2.1 (fun p hp => g5.at hp) (dgo_ioB (by omega)) s5.2.2.2.2.1 (by omega) ⟨?_, I5⟩
        rw [if_neg (fun q => z (e0.mpr q)), if_pos hw1]
      · rw [l5, if_neg (fun q => z (e0.mpr q)), if_neg (by have := e2.mp y; omega)]
  · refine Jn.of (v := -1) (P := fun M1 => M1 = M) ?_ (fun M1 F => ?_)
    · refine t_Mo_day ?_
      ((try simp only [lg_cmp_lt, lg_cmp_gt]); simp (disch := omega) only [Int64.lt_iff_toInt_lt, Int32.toInt_toInt64, Int64.reduceToInt, ← Int32.toInt_inj, Int32.lt_iff_toInt_lt, Int32.le_iff_toInt_le, Int32.reduceToInt, nI_toInt, false_implies, true_implies, and_true, true_and, not_true_eq_false, not_false_eq_true, forall_const, implies_true, false_and, and_false, true_or, or_true, eq_self])
      repeat' (first | (with_reducible refine And.intro ?_ ?_) | (with_reducible intro h; first | (exfalso; omega) | contradiction | skip))
      all_goals exact ⟨rfl, rfl⟩
    · subst F
      refine t_Md_day ?_
      ((try simp only [lg_cmp_lt, lg_cmp_gt]); simp (disch := omega) only [Int64.lt_iff_toInt_lt, Int32.toInt_toInt64, Int64.reduceToInt, ← Int32.toInt_inj, Int32.lt_iff_toInt_lt, Int32.le_iff_toInt_le, Int32.reduceToInt, nI_toInt, false_implies, true_implies, and_true, true_and, not_true_eq_false, not_false_eq_true, forall_const, implies_true, false_and, and_false, true_or, or_true, eq_self])
      repeat' (first | (with_reducible refine And.intro ?_ ?_) | (with_reducible intro h; first | (exfalso; omega) | contradiction | skip))
      all_goals first | exact ⟨rfl, hI⟩ | exact hI
theorem Jn.of2 {d cx cm : Nat} {ax am : List Value} {v : Int32} {P : AM → Prop} (hx : ∀ Q : AQ, (∀ M1, P M1 → Q (some (.int v)) M1) → am_Call (gG L xs) d cx ax M Q) (hm : ∀ M1, P M1 → ∀ Q : AQ, (∀ M2, Inv M2 → Q (some (.int v)) M2) → am_Call (gG L xs) d cm am M1 Q) : Jn L xs d cx cm ax am M :=
  Jn.of (P := P) (hx _ (fun M1 p => ⟨rfl, p⟩)) (fun M1 p => hm M1 p _ (fun M2 i => ⟨rfl, i⟩))
theorem JnL.of2 {d cx cm : Nat} {ax am : List Value} {v : Int64} {P : AM → Prop} (hx : ∀ Q : AQ, (∀ M1, P M1 → Q (some (.long v)) M1) → am_Call (gG L xs) d cx ax M Q) (hm : ∀ M1, P M1 → ∀ Q : AQ, (∀ M2, Inv M2 → Q (some (.long v)) M2) → am_Call (gG L xs) d cm am M1 Q) : JnL L xs d cx cm ax am M :=
  JnL.of (P := P) (hx _ (fun M1 p => ⟨rfl, p⟩)) (fun M1 p => hm M1 p _ (fun M2 i => ⟨rfl, i⟩))
/-- a refusal changes nothing -/
theorem Jn.no {d cx cm : Nat} {ax am : List Value} (v : Int32) (hI : Inv M) (hx : ∀ Q : AQ, Q (some (.int v)) M → am_Call (gG L xs) d cx ax M Q) (hm : ∀ Q : AQ, Q (some (.int v)) M → am_Call (gG L xs) d cm am M Q) : Jn L xs d cx cm ax am M :=
  Jn.of2 (v := v) (P := fun M1 => M1 = M) (fun Q k => hx Q (k M rfl)) (fun M1 e Q k => by subst e; exact hm Q (k _ hI))
theorem JnL.no {d cx cm : Nat} {ax am : List Value} (v : Int64) (hI : Inv M) (hx : ∀ Q : AQ, Q (some (.long v)) M → am_Call (gG L xs) d cx ax M Q) (hm : ∀ Q : AQ, Q (some (.long v)) M → am_Call (gG L xs) d cm am M Q) : JnL L xs d cx cm ax am M :=
  JnL.of2 (v := v) (P := fun M1 => M1 = M) (fun Q k => hx Q (k M rfl)) (fun M1 e Q k => by subst e; exact hm Q (k _ hI))
theorem j_gates (hI : Inv M) (hd : 100 ≤ d) : Jn L xs d c_Mo_gates c_Md_gates [.ref 0, .int x1, .int x2] [.ref 40, .int x1, .int x2] M := by
  obtain ⟨n, f, T, hx, hr⟩ := hI.s
  obtain ⟨d, rfl⟩ : ∃ a, d = a + 6 := ⟨d - 6, by omega⟩
  have hn := hx.2.2.2
  have e1 := hx.1.1
  have e6 := hr.1
  have ept : (nI n - 1).toInt = (n : Int) - 1 := n_pt (by omega)
  have hB : 2 ^ n ≤ 4096 := Nat.pow_le_pow_right (n := 2) (by decide) hn
  have hB0 : 0 < 2 ^ n := Nat.two_pow_pos n
  have hall := n_all (n := n) (by omega)
  obtain ⟨B, hBe⟩ : ∃ B, B = 2 ^ n := ⟨_, rfl⟩
  rw [← hBe] at hB hB0 hall
  by_cases hv : (0 ≤ x1.toInt ∧ x1.toInt < B) ∧ (x2.toInt = -1 ∨ (0 ≤ x2.toInt ∧ x2.toInt < n))
  · obtain ⟨⟨v1, v2⟩, v3⟩ := hv
    obtain ⟨m, rfl, hm, -⟩ := n_ofI v1
    have hmB : m < B := by omega
    have hset : nI m = sI m.testBit := sI_nat (by omega)
    refine Jn.of2 (v := if x2.toInt = -1 then nI (cnt (fun p => (dgo T n f (ein n) m.testBit 5 100 p).isSome) n) else oI (dgo T n f (ein n) m.testBit 5 100 x2.toNatClampNeg)) (P := fr qK M) (fun Q k => ?_) (fun M1 F Q k => ?_)
    · have main : ∀ Q' : AQ, (∀ M', fr qK M M' → dayX n f (ein n) (dgo T n f (ein n) m.testBit 5 100) M' → v_Mo_gates L xs (d + 5) Q' 46 [(0, .ref 0), (2, .int x2)] [.int (nI (cnt (fun p => (dgo T n f (ein n) m.testBit 5 100 p).isSome) n))] M') → am_Call (gG L xs) (d + 5) c_Day_begins [.ref 15, .ref 1] M (fun r M' => v_Mo_gates L xs (d + 5) Q' 36 [(0, .ref 0), (1, .int (nI m)), (2, .int x2)] (r.toList ++ []) M') := by
        intro Q' k
        refine x_bg (by omega) hx (fun M1 f1 s1 g1 l1 => u_Mo_gates_36 ?_)
        rw [hset]
        exact x_two (k0 := 100) (by omega) s1 g1 (by omega) l1 (fun M2 f2 s2 g2 => k M2 (f1.q f2) g2)
      refine t_Mo_gates ?_
      ((try simp only [lg_cmp_lt, lg_cmp_gt]); simp (disch := omega) only [e1, hall, t_1, Int64.lt_iff_toInt_lt, Int32.toInt_toInt64, Int64.reduceToInt, ← Int32.toInt_inj, Int32.lt_iff_toInt_lt, Int32.le_iff_toInt_le, Int32.reduceToInt, nI_toInt, false_implies, true_implies, and_true, true_and, not_true_eq_false, not_false_eq_true, forall_const, implies_true, false_and, and_false, true_or, or_true, eq_self])
      repeat' (first | (with_reducible refine And.intro ?_ ?_) | (with_reducible intro h; first | (exfalso; omega) | contradiction | skip))
      all_goals
        refine main _ (fun M2 F g2 => u_Mo_gates_46 ?_)
        have e16 := g2.1.1
        have k := k M2 F
        rcases v3 with v3 | ⟨v3, v4⟩
        · simp only [v3, if_true] at k
          ((try simp only [lg_cmp_lt, lg_cmp_gt]); simp (disch := omega) only [e16, v3, Int64.lt_iff_toInt_lt, Int32.toInt_toInt64, Int64.reduceToInt, ← Int32.toInt_inj, Int32.lt_iff_toInt_lt, Int32.le_iff_toInt_le, Int32.reduceToInt, nI_toInt, false_implies, true_implies, and_true, true_and, not_true_eq_false, not_false_eq_true, forall_const, implies_true, false_and, and_false, true_or, or_true, eq_self])
          repeat' (first | (with_reducible refine And.intro ?_ ?_) | (with_reducible intro h; first | (exfalso; omega) | contradiction | skip))
          all_goals first | exact k | (exfalso; omega)
        · obtain ⟨p, rfl, hp, -⟩ := n_ofI v3
          have hnp : (nI p).toInt = p := nI_toInt (by omega)
          have gi := g2.2.2.2.2 p (by omega)
          rw [if_neg (by omega), n_cl (by omega)] at k
          rw [n_cl (by omega), gi]
          ((try simp only [lg_cmp_lt, lg_cmp_gt]); simp (disch := omega) only [e16, Int64.lt_iff_toInt_lt, Int32.toInt_toInt64, Int64.reduceToInt, ← Int32.toInt_inj, Int32.lt_iff_toInt_lt, Int32.le_iff_toInt_le, Int32.reduceToInt, nI_toInt, false_implies, true_implies, and_true, true_and, not_true_eq_false, not_false_eq_true, forall_const, implies_true, false_and, and_false, true_or, or_true, eq_self])
          repeat' (first | (with_reducible refine And.intro ?_ ?_) | (with_reducible intro h; first | (exfalso; omega) | contradiction | skip))
          all_goals first | exact k | (rw [n_vp (by omega)]; omega) | (exfalso; omega)
    · have main : ∀ Q' : AQ, (∀ M', fs yK eJ M1 M' → rS n f T M' → dayM n 0 f (ein n) m.testBit (dgo T n f (ein n) m.testBit 5 100) M' → v_Md_gates L xs (d + 5) Q' 49 [(0, .ref 40), (2, .int x2)] [] M') → am_Call (gG L xs) (d + 5) c_Md_begins1 [.ref 40] M1 (fun r M' => v_Md_gates L xs (d + 5) Q' 38 [(0, .ref 40), (1, .int (nI m)), (2, .int x2)] (r.toList ++ []) M') := by
        intro Q' k
        refine m_bg (by omega) (hr.x F) (fun M4 f4 s4 g4 l4 => u_Md_gates_38 ?_)
        rw [hset]
        have fw : fs yK eJ M4 (am_wi M4 40 21 (sI m.testBit)) := fs.rf.s (by decide)
        exact m_go (k0 := 100) (by omega) (s4.keep fw) g4.w21 (by omega) (by rw [wi_sl (by decide)]; exact l4) (fun M5 f5 s5 g5 l5 => k M5 ((f4.tt fw).tt f5) s5 g5)
      have e6' : M1.1 40 6 = nI n := (hr.x F).1
      refine t_Md_gates ?_
      ((try simp only [lg_cmp_lt, lg_cmp_gt]); simp (disch := omega) only [e6', ept, hall, t_1, Int64.lt_iff_toInt_lt, Int32.toInt_toInt64, Int64.reduceToInt, ← Int32.toInt_inj, Int32.lt_iff_toInt_lt, Int32.le_iff_toInt_le, Int32.reduceToInt, nI_toInt, false_implies, true_implies, and_true, true_and, not_true_eq_false, not_false_eq_true, forall_const, implies_true, false_and, and_false, true_or, or_true, eq_self])
      repeat' (first | (with_reducible refine And.intro ?_ ?_) | (with_reducible intro h; first | (exfalso; omega) | contradiction | skip))
      all_goals
        refine main _ (fun M5 f5 s5 g5 => u_Md_gates_49 ?_)
        have I5 : Inv M5 := hI.q2 F f5
        rcases v3 with v3 | ⟨v3, v4⟩
        · have k := k M5 I5
          simp only [v3, if_true] at k
          refine ⟨fun z => ?_, fun z => m_inM (by omega) s5 g5 (by omega) (u_Md_gates_57 k)⟩
          rw [Int32.le_iff_toInt_le, v3] at z
          exact absurd z (by decide)
        · obtain ⟨p, rfl, hp, -⟩ := n_ofI v3
          have hnp : (nI p).toInt = p := nI_toInt (by omega)
          refine ⟨fun z => ⟨(n_vp (by omega)).mpr (by omega), ?_⟩, fun z => absurd (nI_pos' (by omega)) z⟩
          have k := k M5 I5
          rw [if_neg (by omega), n_cl (by omega)] at k
          rw [n_cl (by omega), g5.at (by omega)]
          exact k
  · refine Jn.no (-1) hI (fun Q k => ?_) (fun Q k => ?_)
    · refine t_Mo_gates ?_
      ((try simp only [lg_cmp_lt, lg_cmp_gt]); simp (disch := omega) only [e1, hall, t_1, Int64.lt_iff_toInt_lt, Int32.toInt_toInt64, Int64.reduceToInt, ← Int32.toInt_inj, Int32.lt_iff_toInt_lt, Int32.le_iff_toInt_le, Int32.reduceToInt, nI_toInt, false_implies, true_implies, and_true, true_and, not_true_eq_false, not_false_eq_true, forall_const, implies_true, false_and, and_false, true_or, or_true, eq_self])
      repeat' (first | (with_reducible refine And.intro ?_ ?_) | (with_reducible intro h; first | (exfalso; omega) | contradiction | skip))
      all_goals first | exact k | (exfalso; omega)
    · refine t_Md_gates ?_
      ((try simp only [lg_cmp_lt, lg_cmp_gt]); simp (disch := omega) only [e6, ept, hall, t_1, Int64.lt_iff_toInt_lt, Int32.toInt_toInt64, Int64.reduceToInt, ← Int32.toInt_inj, Int32.lt_iff_toInt_lt, Int32.le_iff_toInt_le, Int32.reduceToInt, nI_toInt, false_implies, true_implies, and_true, true_and, not_true_eq_false, not_false_eq_true, forall_const, implies_true, false_and, and_false, true_or, or_true, eq_self])
      repeat' (first | (with_reducible refine And.intro ?_ ?_) | (with_reducible intro h; first | (exfalso; omega) | contradiction | skip))
      all_goals first | exact k | (exfalso; omega)
end D3
