section E15
variable {L : Nat} {xs : Nat → Int32} {d : Nat} {Q : AQ} {M M1 M2 : AM} {x x1 x2 x3 x4 x5 : Int32} {n w p v nw bn k0 k1 a b e c nu s0 j i0 m : Nat} {f : Nat → Nat → Nat} {io : Nat → Option Nat} {aw : Nat → Bool} {T : PV} {g : Nat → Int32}
theorem m_pj {k : Nat} (h0 : s0 < 6) (hk : k ≤ 60) (hi : i0 < 2 ^ 31) (hm : m ≤ 12) (h58 : M.1 58 s0 = nI k) (hr : ∀ i, i < k → M.2 59 (60 * s0 + i) = Int32.toInt64 (g i)) : ∀ (j c n : Nat) (f : Nat → Nat → Nat) (M1 : AM), c + j = m → fs [41] [6] M M1 → M1.1 40 6 = nI n → pM n f M1 → n ≤ 12 → okP n f → (∀ M2, fs [41] [6] M M2 → M2.1 40 6 = nI (pj g k i0 j c n f).2.1 → pM (pj g k i0 j c n f).2.1 (pj g k i0 j c n f).2.2 M2 → Q (some (.int (nI (pj g k i0 j c n f).1))) M2) → v_Md_people L xs (d + 2) Q 69 [(0, .ref 40), (1, .int (nI s0)), (2, .int (nI i0)), (3, .int (nI m)), (4, .int (nI c)), (5, .int 1)] [] M1
  | 0, c, n, f, M1, hc, F, h1, h2, hn, ho, kk => by
    have : c = m := by omega
    subst this
    exact u_Md_people_69 ⟨fun z => absurd z (by decide), fun _ => ⟨fun _ => kk M1 F h1 h2, fun z => absurd ((n_leI (by omega) (by omega)).mpr (Nat.le_refl _)) z⟩⟩
  | j + 1, c, n, f, M1, hc, F, h1, h2, hn, ho, kk => by
    have e58 : M1.1 58 s0 = nI k := by rw [F.i 58]; exact h58
    have er : ∀ i, i < k → M1.2 59 (60 * s0 + i) = Int32.toInt64 (g i) := fun i hi => by rw [F.2.2 59 (by decide)]; exact hr i hi
    have no : ¬ (i0 + 3 * c + 2 < k ∧ n < 12 ∧ ok3 (g (i0 + 3 * c)) (g (i0 + 3 * c + 1)) (g (i0 + 3 * c + 2))) → v_Md_people L xs (d + 2) Q 69 [(0, .ref 40), (1, .int (nI s0)), (2, .int (nI i0)), (3, .int (nI m)), (4, .int (nI c)), (5, .int 0)] [] M1 := fun z => by
      unfold pj at kk
      rw [if_neg z] at kk
      exact u_Md_people_69 ⟨fun _ => kk M1 F h1 h2, fun z => absurd rfl z⟩
    have ti : (nI i0).toInt = (i0 : Int) := nI_toInt hi
    have ts := t_s3 (k := k) (c := c) (by omega) (by omega)
    refine u_Md_people_69 ⟨fun z => absurd z (by decide), fun _ => ⟨fun z => absurd ((n_leI (by omega) (by omega)).mp z) (by omega), fun _ => ?_⟩⟩
    rw [n_cl (show s0 < 2 ^ 31 by omega), e58, h1]
    refine ⟨(n_vp (by omega)).mpr (by omega), fun z => no (fun y => ?_), fun z => ⟨fun q => no (fun y => ?_), fun q => ?_⟩⟩
    · rw [Int32.lt_iff_toInt_lt, ts, ti] at z
      omega
    · have := (n_leI (a := 12) (by decide) (by omega)).mp q
      omega
    · rw [Int32.lt_iff_toInt_lt, ts, ti] at z
      have q7 : n < 12 := by
        have : ¬ 12 ≤ n := fun y => q ((n_leI (a := 12) (by decide) (by omega)).mpr y)
        omega
      have h3 : i0 + 3 * c + 2 < k := by omega
      have e0 : (60 : Int32) * nI s0 + nI i0 + 3 * nI c = nI (60 * s0 + (i0 + 3 * c)) := by
        rw [show (60 : Int32) * nI s0 = nI (60 * s0) from n_mul 60 s0, show (3 : Int32) * nI c = nI (3 * c) from n_mul 3 c, nI_add, nI_add, Nat.add_assoc]
      rw [e0, show nI (60 * s0 + (i0 + 3 * c)) + 1 = nI (60 * s0 + (i0 + 3 * c + 1)) from nI_add _ 1, show nI (60 * s0 + (i0 + 3 * c)) + 2 = nI (60 * s0 + (i0 + 3 * c + 2)) from nI_add _ 2, n_cl (show 60 * s0 + (i0 + 3 * c) < 2 ^ 31 by omega), n_cl (show 60 * s0 + (i0 + 3 * c + 1) < 2 ^ 31 by omega), n_cl (show 60 * s0 + (i0 + 3 * c + 2) < 2 ^ 31 by omega), er _ (by omega), er _ (by omega), er _ h3]
      refine ⟨(n_vp (by omega)).mpr (by omega), (n_vp (by omega)).mpr (by omega), (n_vp (by omega)).mpr (by omega), fun q => no (fun y => ?_), fun qq1 => ⟨fun q => no (fun y => ?_), fun qq2 => ⟨fun q => no (fun y => ?_), fun qq3 => ⟨fun q => no (fun y => ?_), fun qq4 => ⟨fun q => no (fun y => ?_), fun qq5 => ⟨fun q => no (fun y => ?_), fun qq6 => ?_⟩⟩⟩⟩⟩⟩
      · obtain ⟨-, -, y1, y2, y3⟩ := y
        ((try simp only [lg_cmp_lt, lg_cmp_gt] at q); simp (disch := omega) only [Int64.lt_iff_toInt_lt, Int32.toInt_toInt64, Int64.reduceToInt, ← Int32.toInt_inj, Int32.lt_iff_toInt_lt, Int32.le_iff_toInt_le, Int32.reduceToInt, nI_toInt, false_implies, true_implies, and_true, true_and, not_true_eq_false, not_false_eq_true, forall_const, implies_true, false_and, and_false, true_or, or_true, eq_self] at q)
        omega
      · obtain ⟨-, -, y1, y2, y3⟩ := y
        ((try simp only [lg_cmp_lt, lg_cmp_gt] at q); simp (disch := omega) only [Int64.lt_iff_toInt_lt, Int32.toInt_toInt64, Int64.reduceToInt, ← Int32.toInt_inj, Int32.lt_iff_toInt_lt, Int32.le_iff_toInt_le, Int32.reduceToInt, nI_toInt, false_implies, true_implies, and_true, true_and, not_true_eq_false, not_false_eq_true, forall_const, implies_true, false_and, and_false, true_or, or_true, eq_self] at q)
        omega
      · obtain ⟨-, -, y1, y2, y3⟩ := y
        ((try simp only [lg_cmp_lt, lg_cmp_gt] at q); simp (disch := omega) only [Int64.lt_iff_toInt_lt, Int32.toInt_toInt64, Int64.reduceToInt, ← Int32.toInt_inj, Int32.lt_iff_toInt_lt, Int32.le_iff_toInt_le, Int32.reduceToInt, nI_toInt, false_implies, true_implies, and_true, true_and, not_true_eq_false, not_false_eq_true, forall_const, implies_true, false_and, and_false, true_or, or_true, eq_self] at q)
        omega
      · obtain ⟨-, -, y1, y2, y3⟩ := y
        ((try simp only [lg_cmp_lt, lg_cmp_gt] at q); simp (disch := omega) only [Int64.lt_iff_toInt_lt, Int32.toInt_toInt64, Int64.reduceToInt, ← Int32.toInt_inj, Int32.lt_iff_toInt_lt, Int32.le_iff_toInt_le, Int32.reduceToInt, nI_toInt, false_implies, true_implies, and_true, true_and, not_true_eq_false, not_false_eq_true, forall_const, implies_true, false_and, and_false, true_or, or_true, eq_self] at q)
        omega
      · obtain ⟨-, -, y1, y2, y3⟩ := y
        ((try simp only [lg_cmp_lt, lg_cmp_gt] at q); simp (disch := omega) only [Int64.lt_iff_toInt_lt, Int32.toInt_toInt64, Int64.reduceToInt, ← Int32.toInt_inj, Int32.lt_iff_toInt_lt, Int32.le_iff_toInt_le, Int32.reduceToInt, nI_toInt, false_implies, true_implies, and_true, true_and, not_true_eq_false, not_false_eq_true, forall_const, implies_true, false_and, and_false, true_or, or_true, eq_self] at q)
        omega
      · obtain ⟨-, -, y1, y2, y3⟩ := y
        ((try simp only [lg_cmp_lt, lg_cmp_gt] at q); simp (disch := omega) only [Int64.lt_iff_toInt_lt, Int32.toInt_toInt64, Int64.reduceToInt, ← Int32.toInt_inj, Int32.lt_iff_toInt_lt, Int32.le_iff_toInt_le, Int32.reduceToInt, nI_toInt, false_implies, true_implies, and_true, true_and, not_true_eq_false, not_false_eq_true, forall_const, implies_true, false_and, and_false, true_or, or_true, eq_self] at q)
        omega
      · have hok : ok3 (g (i0 + 3 * c)) (g (i0 + 3 * c + 1)) (g (i0 + 3 * c + 2)) := by
          ((try simp only [lg_cmp_lt, lg_cmp_gt] at qq1); simp (disch := omega) only [Int64.lt_iff_toInt_lt, Int32.toInt_toInt64, Int64.reduceToInt, ← Int32.toInt_inj, Int32.lt_iff_toInt_lt, Int32.le_iff_toInt_le, Int32.reduceToInt, nI_toInt, false_implies, true_implies, and_true, true_and, not_true_eq_false, not_false_eq_true, forall_const, implies_true, false_and, and_false, true_or, or_true, eq_self] at qq1)
          ((try simp only [lg_cmp_lt, lg_cmp_gt] at qq2); simp (disch := omega) only [Int64.lt_iff_toInt_lt, Int32.toInt_toInt64, Int64.reduceToInt, ← Int32.toInt_inj, Int32.lt_iff_toInt_lt, Int32.le_iff_toInt_le, Int32.reduceToInt, nI_toInt, false_implies, true_implies, and_true, true_and, not_true_eq_false, not_false_eq_true, forall_const, implies_true, false_and, and_false, true_or, or_true, eq_self] at qq2)
          ((try simp only [lg_cmp_lt, lg_cmp_gt] at qq3); simp (disch := omega) only [Int64.lt_iff_toInt_lt, Int32.toInt_toInt64, Int64.reduceToInt, ← Int32.toInt_inj, Int32.lt_iff_toInt_lt, Int32.le_iff_toInt_le, Int32.reduceToInt, nI_toInt, false_implies, true_implies, and_true, true_and, not_true_eq_false, not_false_eq_true, forall_const, implies_true, false_and, and_false, true_or, or_true, eq_self] at qq3)
          ((try simp only [lg_cmp_lt, lg_cmp_gt] at qq4); simp (disch := omega) only [Int64.lt_iff_toInt_lt, Int32.toInt_toInt64, Int64.reduceToInt, ← Int32.toInt_inj, Int32.lt_iff_toInt_lt, Int32.le_iff_toInt_le, Int32.reduceToInt, nI_toInt, false_implies, true_implies, and_true, true_and, not_true_eq_false, not_false_eq_true, forall_const, implies_true, false_and, and_false, true_or, or_true, eq_self] at qq4)
          ((try simp only [lg_cmp_lt, lg_cmp_gt] at qq5); simp (disch := omega) only [Int64.lt_iff_toInt_lt, Int32.toInt_toInt64, Int64.reduceToInt, ← Int32.toInt_inj, Int32.lt_iff_toInt_lt, Int32.le_iff_toInt_le, Int32.reduceToInt, nI_toInt, false_implies, true_implies, and_true, true_and, not_true_eq_false, not_false_eq_true, forall_const, implies_true, false_and, and_false, true_or, or_true, eq_self] at qq5)
          ((try simp only [lg_cmp_lt, lg_cmp_gt] at qq6); simp (disch := omega) only [Int64.lt_iff_toInt_lt, Int32.toInt_toInt64, Int64.reduceToInt, ← Int32.toInt_inj, Int32.lt_iff_toInt_lt, Int32.le_iff_toInt_le, Int32.reduceToInt, nI_toInt, false_implies, true_implies, and_true, true_and, not_true_eq_false, not_false_eq_true, forall_const, implies_true, false_and, and_false, true_or, or_true, eq_self] at qq6)
          exact ⟨by omega, by omega, by omega⟩
        have hok' := hok
        obtain ⟨y1, y2, y3⟩ := hok'
        have g0 := i_nat (x := g (i0 + 3 * c)) (by omega)
        have g1 := i_nat (x := g (i0 + 3 * c + 1)) (by omega)
        have g2 := i_nat (x := g (i0 + 3 * c + 2)) (by omega)
        unfold pj at kk
        rw [if_pos ⟨h3, q7, hok⟩] at kk
        obtain ⟨a, ea⟩ : ∃ a, a = (g (i0 + 3 * c)).toInt.toNat := ⟨_, rfl⟩
        obtain ⟨b, eb⟩ : ∃ b, b = (g (i0 + 3 * c + 1)).toInt.toNat := ⟨_, rfl⟩
        obtain ⟨e, ee⟩ : ∃ e, e = (g (i0 + 3 * c + 2)).toInt.toNat := ⟨_, rfl⟩
        have ha : 100 ≤ a ∧ a ≤ 220 := by omega
        have hb : b ≤ 99 := by omega
        have he : 1 ≤ e ∧ e ≤ 99 := by omega
        rw [← ea] at g0 kk
        rw [← eb] at g1 kk
        rw [← ee] at g2 kk
        rw [t_nar, t_nar, t_nar, g0, g1, g2, (q5 n).1, (q5 n).2.1, (q5 n).2.2.1, (q5 n).2.2.2.1, (q5 n).2.2.2.2, n_cl (show 5 * n + 0 < 2 ^ 31 by omega), n_cl (show 5 * n + 1 < 2 ^ 31 by omega), n_cl (show 5 * n + 2 < 2 ^ 31 by omega), n_cl (show 5 * n + 3 < 2 ^ 31 by omega), n_cl (show 5 * n + 4 < 2 ^ 31 by omega)]
        simp only [show ∀ (k : Nat) (v : Int32) (q : AM), (am_wi q 41 k v).1 40 6 = q.1 40 6 from fun k v q => by rw [wi_ne (by decide)], h1]
        rw [nI_1, nI_1]
        exact ⟨(n_vp (by omega)).mpr (by omega), (n_vp (by omega)).mpr (by omega), (n_vp (by omega)).mpr (by omega), (n_vp (by omega)).mpr (by omega), (n_vp (by omega)).mpr (by omega), m_pj h0 hk hi hm h58 hr j (c + 1) (n + 1) _ _ (by omega) ((((((F.c (by decide) (by decide)).c (by decide) (by decide)).c (by decide) (by decide)).c (by decide) (by decide)).c (by decide) (by decide)).s (by decide)) wi_eq ((h2.new (by omega)).keep (wi_ne (by decide))) (by omega) (ho.new ha hb he) kk⟩
theorem j_people (hI : Inv M) (hd : 100 ≤ d) : Jn L xs d c_Mo_people c_Md_people [.ref 0, .int x1, .int x2, .int x3] [.ref 40, .int x1, .int x2, .int x3] M := by
  have hI0 := hI
  obtain ⟨n, f, T, bn, hP, hL, hT, hC, hD, hA, hS, h23⟩ := hI
  obtain ⟨d, rfl⟩ : ∃ a, d = a + 9 := ⟨d - 9, by omega⟩
  have hbn := hA.1
  by_cases hv : 0 ≤ x1.toInt ∧ x1.toInt < 6 ∧ 1 ≤ x3.toInt ∧ x3.toInt ≤ 12
  · obtain ⟨v1, v2, v3, v4⟩ := hv
    obtain ⟨s0, rfl, hk, -⟩ := n_ofI v1
    obtain ⟨m, rfl, hm, -⟩ := n_ofI (x := x3) (by omega)
    have hs0 : s0 < 6 := by omega
    have tm : (nI m).toInt = (m : Int) := nI_toInt (by omega)
    have hm12 : m ≤ 12 := by omega
    have ts : (nI s0).toInt = (s0 : Int) := nI_toInt (by omega)
    have cx : ∀ Q : AQ, ((¬ M.1 22 s0 = -1 → (¬ M.1 23 s0 = 1 → Q (some (.int (-12))) M) ∧ (M.1 23 s0 = 1 → am_Call (gG L xs) (d + 8) c_Mo_joinFromRow [.ref 0, .int (nI s0), .int x2, .int (nI m)] M (fun r M' => v_Mo_people L xs (d + 8) Q 55 [] (r.toList ++ []) M'))) ∧ (M.1 22 s0 = -1 → (¬ M.1 23 s0 = -1 → (¬ M.1 23 s0 = 1 → Q (some (.int (-12))) M) ∧ (M.1 23 s0 = 1 → am_Call (gG L xs) (d + 8) c_Mo_joinFromRow [.ref 0, .int (nI s0), .int x2, .int (nI m)] M (fun r M' => v_Mo_people L xs (d + 8) Q 55 [] (r.toList ++ []) M'))) ∧ (M.1 23 s0 = -1 → Q (some (.int 0)) M))) → am_Call (gG L xs) (d + 9) c_Mo_people [.ref 0, .int (nI s0), .int x2, .int (nI m)] M Q := fun Q W => t_Mo_people (by
      rw [n_cl (show s0 < 2 ^ 31 by omega)]
      exact ⟨fun z => absurd z (nI_pos (by omega)), fun _ => ⟨fun z => absurd ((n_leI (a := 6) (by decide) (by omega)).mp z) (by omega), fun _ => ⟨fun z => absurd ((n_ltI (b := 1) (by omega) (by decide)).mp z) (by omega), fun _ => ⟨fun _ => ⟨(n_vp (by omega)).mpr (by omega), W⟩, fun z => absurd ((n_leI (b := 12) (by omega) (by decide)).mpr hm12) z⟩⟩⟩⟩)
    have cm : ∀ (Q : AQ) (M1 : AM), ((M1.1 57 s0 < 0 → (¬ M1.1 57 s0 = 51 → v_Md_people L xs (d + 8) Q 69 [(0, .ref 40), (1, .int (nI s0)), (2, .int x2), (3, .int (nI m)), (4, .int (0 : Int32)), (5, .int 0)] [] M1) ∧ (M1.1 57 s0 = 51 → (x2 < 0 → v_Md_people L xs (d + 8) Q 69 [(0, .ref 40), (1, .int (nI s0)), (2, .int x2), (3, .int (nI m)), (4, .int (0 : Int32)), (5, .int 0)] [] M1) ∧ (¬ x2 < 0 → v_Md_people L xs (d + 8) Q 69 [(0, .ref 40), (1, .int (nI s0)), (2, .int x2), (3, .int (nI m)), (4, .int (0 : Int32)), (5, .int 1)] [] M1))) ∧ (¬ M1.1 57 s0 < 0 → (M1.1 57 s0 = 51 → (x2 < 0 → v_Md_people L xs (d + 8) Q 69 [(0, .ref 40), (1, .int (nI s0)), (2, .int x2), (3, .int (nI m)), (4, .int (0 : Int32)), (5, .int 0)] [] M1) ∧ (¬ x2 < 0 → v_Md_people L xs (d + 8) Q 69 [(0, .ref 40), (1, .int (nI s0)), (2, .int x2), (3, .int (nI m)), (4, .int (0 : Int32)), (5, .int 1)] [] M1)) ∧ (¬ M1.1 57 s0 = 51 → Q (some (.int (-12))) M1))) → am_Call (gG L xs) (d + 9) c_Md_people [.ref 40, .int (nI s0), .int x2, .int (nI m)] M1 Q := fun Q M1 W => t_Md_people (by
      rw [n_cl (show s0 < 2 ^ 31 by omega)]
      exact ⟨fun z => absurd z (g_nn (by omega)), fun _ => ⟨fun z => absurd z (by
        intro z
        ((try simp only [lg_cmp_lt, lg_cmp_gt] at z); simp (disch := omega) only [ts, Int64.lt_iff_toInt_lt, Int32.toInt_toInt64, Int64.reduceToInt, ← Int32.toInt_inj, Int32.lt_iff_toInt_lt, Int32.le_iff_toInt_le, Int32.reduceToInt, nI_toInt, false_implies, true_implies, and_true, true_and, not_true_eq_false, not_false_eq_true, forall_const, implies_true, false_and, and_false, true_or, or_true, eq_self] at z)
        omega), fun _ => ⟨Or.inr rfl, fun z => absurd z (by
        intro z
        ((try simp only [lg_cmp_lt, lg_cmp_gt] at z); simp (disch := omega) only [tm, Int64.lt_iff_toInt_lt, Int32.toInt_toInt64, Int64.reduceToInt, ← Int32.toInt_inj, Int32.lt_iff_toInt_lt, Int32.le_iff_toInt_le, Int32.reduceToInt, nI_toInt, false_implies, true_implies, and_true, true_and, not_true_eq_false, not_false_eq_true, forall_const, implies_true, false_and, and_false, true_or, or_true, eq_self] at z)
        omega), fun _ => ⟨fun z => absurd z (by
        intro z
        ((try simp only [lg_cmp_lt, lg_cmp_gt] at z); simp (disch := omega) only [tm, Int64.lt_iff_toInt_lt, Int32.toInt_toInt64, Int64.reduceToInt, ← Int32.toInt_inj, Int32.lt_iff_toInt_lt, Int32.le_iff_toInt_le, Int32.reduceToInt, nI_toInt, false_implies, true_implies, and_true, true_and, not_true_eq_false, not_false_eq_true, forall_const, implies_true, false_and, and_false, true_or, or_true, eq_self] at z)
        omega), fun _ => ⟨(n_vp (by omega)).mpr (by omega), W⟩⟩⟩⟩⟩)
    rcases hS s0 hs0 with ⟨e57, e22, e23⟩ | ⟨b, hb, e57, e22, e23⟩ | ⟨s, k0, hs, hk0, e57, e22, e23, e24, e58, hrow⟩
    · have ret : ∀ (Q : AQ), Q (some (.int 0)) M → v_Md_people L xs (d + 8) Q 69 [(0, .ref 40), (1, .int (nI s0)), (2, .int x2), (3, .int (nI m)), (4, .int (0 : Int32)), (5, .int 0)] [] M := fun Q k => u_Md_people_69 ⟨fun _ => k, fun z => absurd rfl z⟩
      refine Jn.no 0 hI0 (fun Q k => cx Q ?_) (fun Q k => cm Q M ?_)
      · rw [e22, e23]
        exact ⟨fun z => absurd rfl z, fun _ => ⟨fun z => absurd rfl z, fun _ => k⟩⟩
      · rw [e57]
        exact ⟨fun _ => ⟨fun _ => ret Q k, fun z => absurd z (by decide)⟩, fun z => absurd (by decide) z⟩
    · refine Jn.no (-12) hI0 (fun Q k => cx Q ?_) (fun Q k => cm Q M ?_)
      · rw [e22, e23]
        exact ⟨fun _ => ⟨fun _ => k, fun z => absurd z (by decide)⟩, fun z => absurd (show nI b < 0 by rw [z]; decide) (nI_pos (by omega))⟩
      · rw [e57]
        exact ⟨fun z => absurd z (nI_pos (by omega)), fun _ => ⟨fun z => absurd ((nI_eq (b := 51) (by omega) (by decide)).mp z) (by omega), fun _ => k⟩⟩
    · have n1 : ¬ nI s = -1 := fun z => absurd (show nI s < 0 by rw [z]; decide) (nI_pos (by omega))
      by_cases h1 : s = 1
      · subst h1
        have hg : ∀ i, ∃ z : Int32, i < k0 → M.2 59 (60 * s0 + i) = z.toInt64 := fun i => by
          by_cases hi : i < k0
          · obtain ⟨z, hz⟩ := (hrow i hi).2 rfl
            exact ⟨z, fun _ => hz⟩
          · exact ⟨0, fun y => absurd y hi⟩
        obtain ⟨g, hg⟩ : ∃ g : Nat → Int32, ∀ i, i < k0 → M.2 59 (60 * s0 + i) = (g i).toInt64 := ⟨fun i => Classical.choose (hg i), fun i => Classical.choose_spec (hg i)⟩
        obtain ⟨p1, p2, p3, p4, p5, p6⟩ := hP
        have e57' : ∀ M1 : AM, fr [1, 2] M M1 → M1.1 57 s0 = 51 := fun M1 F => by rw [F.i 57, e57]; rfl
        by_cases hx : x2 < 0
        · refine Jn.no 0 hI0 (fun Q k => cx Q ?_) (fun Q k => cm Q M ?_)
          · rw [e22, e23]
            refine ⟨fun z => absurd rfl z, fun _ => ⟨fun _ => ⟨fun z => absurd rfl z, fun _ => t_Mo_joinFromRow (u_Mo_joinFromRow_3 ⟨fun z => ?_, fun _ => ⟨fun _ => u_Mo_people_55 k, fun z => absurd hx z⟩⟩)⟩, fun z => absurd z n1⟩⟩
            exact absurd ((n_leI (b := 0) (by omega) (by decide)).mp z) (by omega)
          · have ret : v_Md_people L xs (d + 8) Q 69 [(0, .ref 40), (1, .int (nI s0)), (2, .int x2), (3, .int (nI m)), (4, .int (0 : Int32)), (5, .int 0)] [] M := u_Md_people_69 ⟨fun _ => k, fun z => absurd rfl z⟩
            rw [e57' M fr.rf]
            exact ⟨fun z => absurd z (by decide), fun _ => ⟨fun _ => ⟨fun _ => ret, fun z => absurd hx z⟩, fun z => absurd rfl z⟩⟩
        · obtain ⟨i0, rfl, hi, hi2⟩ := n_ofI (x := x2) (by rw [Int32.lt_iff_toInt_lt] at hx; have h0 : (0 : Int32).toInt = 0 := by decide
                                                           omega)
          obtain ⟨o1, o2, o3⟩ := pj_ok (g := g) (i0 := i0) (k := k0) m 0 n f p3 p4
          refine Jn.of2 (v := nI (pj g k0 i0 m 0 n f).1) (P := fun M2 => fr [1, 2] M M2 ∧ crw 1 2 (pj g k0 i0 m 0 n f).2.1 (pj g k0 i0 m 0 n f).2.2 M2 ∧ cch 1 3 (pj g k0 i0 m 0 n f).2.1 (pj g k0 i0 m 0 n f).2.2 M2) (fun Q k => cx Q ?_) (fun M1 h Q k => cm Q M1 ?_)
          · rw [e22, e23]
            exact ⟨fun z => absurd rfl z, fun _ => ⟨fun _ => ⟨fun z => absurd rfl z, fun _ => t_Mo_joinFromRow (x_pj (d := d + 3) hs0 hk0 hi2 hm12 e23 e24 (fun i hi => by rw [(hrow i hi).1]; exact hg i hi) m 0 n f M (by omega) fr.rf p1 p2 p3 p4 (fun M2 a1 a2 a3 => u_Mo_people_55 (k _ ⟨a1, a2, a3⟩)))⟩, fun z => absurd z n1⟩⟩
          · obtain ⟨F1, r1, r2⟩ := h
            have W := m_pj (L := L) (xs := xs) (d := d + 6) (Q := Q) (M := M1) (g := g) hs0 hk0 hi2 hm12 (by rw [F1.i 58]; exact e58) (fun i hi => by rw [F1.l 59]; exact hg i hi) m 0 n f M1 (by omega) fs.rf (by rw [F1.i 40]; exact p5) (p6.keep (F1.i 41)) p3 p4 (fun M2 F2 b1 b2 => k _ (by
              have F : fs [1, 2, 41] [6] M M2 := (fs.of (J := [6]) F1 (by decide) (by decide)).tt (F2.to (by decide) (by decide))
              exact ⟨_, _, T, bn, ⟨r1.fr (by rw [F2.i 1]) (F2.i 2), r2.congr (by rw [F2.i 1]) (F2.i 3) (fun _ _ => ⟨rfl, rfl⟩), o2, o3, b1, b2⟩, hL.keep F (by decide) (by decide), hT.keep F (by decide) (by decide), (hC.keep F (by decide) (by decide)).more o1, (hD.keep F (by decide) (by decide)).more o1, hA.keep F (by decide) (by decide), hS.keep F (by decide), by rw [F.j 23]; exact h23⟩))
            rw [e57' M1 F1]
            exact ⟨fun z => absurd z (by decide), fun _ => ⟨fun _ => ⟨fun z => absurd z hx, fun _ => W⟩, fun z => absurd rfl z⟩⟩
      · have ns : ¬ nI s = 1 := fun z => h1 ((nI_eq (b := 1) (by omega) (by decide)).mp z)
        refine Jn.no (-12) hI0 (fun Q k => cx Q ?_) (fun Q k => cm Q M ?_)
        · rw [e22, e23]
          exact ⟨fun z => absurd rfl z, fun _ => ⟨fun _ => ⟨fun _ => k, fun z => absurd z ns⟩, fun z => absurd z n1⟩⟩
        · rw [e57]
          exact ⟨fun z => absurd z (nI_pos (by omega)), fun _ => ⟨fun z => absurd ((nI_eq (b := 51) (by omega) (by decide)).mp z) (by omega), fun _ => k⟩⟩
  · refine Jn.no (-1) hI0 (fun Q k => ?_) (fun Q k => ?_)
    · refine t_Mo_people ⟨fun _ => k, fun z1 => ⟨fun _ => k, fun z2 => ⟨fun _ => k, fun z3 => ⟨fun z4 => ?_, fun _ => k⟩⟩⟩⟩
      exfalso
      ((try simp only [lg_cmp_lt, lg_cmp_gt] at z1); simp (disch := omega) only [Int64.lt_iff_toInt_lt, Int32.toInt_toInt64, Int64.reduceToInt, ← Int32.toInt_inj, Int32.lt_iff_toInt_lt, Int32.le_iff_toInt_le, Int32.reduceToInt, nI_toInt, false_implies, true_implies, and_true, true_and, not_true_eq_false, not_false_eq_true, forall_const, implies_true, false_and, and_false, true_or, or_true, eq_self] at z1)
      ((try simp only [lg_cmp_lt, lg_cmp_gt] at z2); simp (disch := omega) only [Int64.lt_iff_toInt_lt, Int32.toInt_toInt64, Int64.reduceToInt, ← Int32.toInt_inj, Int32.lt_iff_toInt_lt, Int32.le_iff_toInt_le, Int32.reduceToInt, nI_toInt, false_implies, true_implies, and_true, true_and, not_true_eq_false, not_false_eq_true, forall_const, implies_true, false_and, and_false, true_or, or_true, eq_self] at z2)
      ((try simp only [lg_cmp_lt, lg_cmp_gt] at z3); simp (disch := omega) only [Int64.lt_iff_toInt_lt, Int32.toInt_toInt64, Int64.reduceToInt, ← Int32.toInt_inj, Int32.lt_iff_toInt_lt, Int32.le_iff_toInt_le, Int32.reduceToInt, nI_toInt, false_implies, true_implies, and_true, true_and, not_true_eq_false, not_false_eq_true, forall_const, implies_true, false_and, and_false, true_or, or_true, eq_self] at z3)
      ((try simp only [lg_cmp_lt, lg_cmp_gt] at z4); simp (disch := omega) only [Int64.lt_iff_toInt_lt, Int32.toInt_toInt64, Int64.reduceToInt, ← Int32.toInt_inj, Int32.lt_iff_toInt_lt, Int32.le_iff_toInt_le, Int32.reduceToInt, nI_toInt, false_implies, true_implies, and_true, true_and, not_true_eq_false, not_false_eq_true, forall_const, implies_true, false_and, and_false, true_or, or_true, eq_self] at z4)
      omega
    · refine t_Md_people ⟨fun _ => ⟨Or.inl rfl, k⟩, fun z1 => ⟨fun _ => ⟨Or.inl rfl, k⟩, fun z2 => ⟨Or.inr rfl, fun _ => k, fun z3 => ⟨fun _ => k, fun z4 => ?_⟩⟩⟩⟩
      exfalso
      ((try simp only [lg_cmp_lt, lg_cmp_gt] at z1); simp (disch := omega) only [Int64.lt_iff_toInt_lt, Int32.toInt_toInt64, Int64.reduceToInt, ← Int32.toInt_inj, Int32.lt_iff_toInt_lt, Int32.le_iff_toInt_le, Int32.reduceToInt, nI_toInt, false_implies, true_implies, and_true, true_and, not_true_eq_false, not_false_eq_true, forall_const, implies_true, false_and, and_false, true_or, or_true, eq_self] at z1)
      ((try simp only [lg_cmp_lt, lg_cmp_gt] at z2); simp (disch := omega) only [Int64.lt_iff_toInt_lt, Int32.toInt_toInt64, Int64.reduceToInt, ← Int32.toInt_inj, Int32.lt_iff_toInt_lt, Int32.le_iff_toInt_le, Int32.reduceToInt, nI_toInt, false_implies, true_implies, and_true, true_and, not_true_eq_false, not_false_eq_true, forall_const, implies_true, false_and, and_false, true_or, or_true, eq_self] at z2)
      ((try simp only [lg_cmp_lt, lg_cmp_gt] at z3); simp (disch := omega) only [Int64.lt_iff_toInt_lt, Int32.toInt_toInt64, Int64.reduceToInt, ← Int32.toInt_inj, Int32.lt_iff_toInt_lt, Int32.le_iff_toInt_le, Int32.reduceToInt, nI_toInt, false_implies, true_implies, and_true, true_and, not_true_eq_false, not_false_eq_true, forall_const, implies_true, false_and, and_false, true_or, or_true, eq_self] at z3)
      ((try simp only [lg_cmp_lt, lg_cmp_gt] at z4); simp (disch := omega) only [Int64.lt_iff_toInt_lt, Int32.toInt_toInt64, Int64.reduceToInt, ← Int32.toInt_inj, Int32.lt_iff_toInt_lt, Int32.le_iff_toInt_le, Int32.reduceToInt, nI_toInt, false_implies, true_implies, and_true, true_and, not_true_eq_false, not_false_eq_true, forall_const, implies_true, false_and, and_false, true_or, or_true, eq_self] at z4)
      omega
end E15
