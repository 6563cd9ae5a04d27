section E19
variable {L : Nat} {xs : Nat → Int32} {d : Nat} {Q : AQ} {M M0 M1 M2 : AM} {x x1 x2 x3 x4 x5 x6 x7 x8 : Int32} {own nb a b c h k dp n bn s0 : Nat}
def undF : Nat → Nat → Nat → Bool
  | 0, _, _ => false
  | j + 1, a, k => if a = k then true else if a = 0 then false else undF j (sABOVE a).toNatClampNeg k
theorem s_isUnder (hk : k < 8) : ∀ (j a i : Nat), i + j = 8 → a < 8 → Q (some (.int (b2i (undF j a k)))) M → v_Acts_isUnder L xs (d + 1) Q 4 [(1, .int (nI k)), (2, .int (nI a)), (3, .int (nI i))] [] M
  | 0, a, i, hi, ha, kk => by
    have : i = 8 := by omega
    subst this
    exact u_Acts_isUnder_4 ⟨fun _ => kk, fun z => absurd ((n_leI (a := 8) (b := 8) (by decide) (by decide)).mpr (Nat.le_refl _)) z⟩
  | j + 1, a, i, hi, ha, kk => by
    unfold undF at kk
    refine u_Acts_isUnder_4 ⟨fun z => absurd ((n_leI (a := 8) (by decide) (by omega)).mp z) (by omega), fun _ => ⟨fun z => absurd z (nI_pos (by omega)), fun _ => ⟨fun z => absurd ((n_leI (a := 8) (by decide) (by omega)).mp z) (by omega), fun _ => ⟨fun z => ⟨(n_vp (by omega)).mpr ha, ?_⟩, fun z => ?_⟩⟩⟩⟩
    · have e : a ≠ k := fun y => z (by rw [y])
      rw [if_neg e] at kk
      rw [n_cl (show a < 2 ^ 31 by omega), nI_1]
      by_cases a0 : a = 0
      · rw [if_pos a0] at kk
        subst a0
        exact u_Acts_isUnder_4 ⟨fun _ => kk, fun _ => ⟨fun _ => kk, fun z => absurd (by decide) z⟩⟩
      · rw [if_neg a0] at kk
        obtain ⟨b1, b2⟩ := ab_ok ⟨a, ha⟩ a0
        rw [b1]
        exact s_isUnder hk j _ (i + 1) (by omega) b2 kk
    · rw [if_pos (nk ha hk z)] at kk
      exact kk
def dpt (a : Nat) : Nat := [0, 1, 1, 2, 2, 3, 1, 3].getD a 0
theorem dpt_ok : ∀ a : Fin 8, a.val ≠ 0 → dpt (sABOVE a.val).toNatClampNeg < dpt a.val := by decide
theorem m_taken (hk : k < 8) (hs0 : s0 < 6) (hb : b < 50) (e57 : M.1 57 s0 = nI b) : ∀ (j a : Nat), a < 8 → dpt a < j → (undF j a k = true → Q (some (.int (M.1 55 b))) M) → (undF j a k = false → Q (some (.int (-12))) M) → v_Md_taken L xs (d + 1) Q 58 [(0, .ref 40), (1, .int (nI s0)), (2, .int (nI k)), (3, .int (nI a))] [] M
  | 0, a, ha, hj, _, _ => absurd hj (Nat.not_lt_zero _)
  | j + 1, a, ha, hj, q1, q0 => by
    unfold undF at q1 q0
    have ret : v_Md_taken L xs (d + 1) Q 58 [(0, .ref 40), (1, .int (nI s0)), (2, .int (nI k)), (3, .int (nI a))] [] M := by
      refine u_Md_taken_58 ⟨fun z => ?_, fun z => ⟨fun y => ?_, fun y => ?_⟩⟩
      · have e := nk ha hk z
        rw [if_pos e] at q1
        rw [n_cl (show s0 < 2 ^ 31 by omega), e57, n_cl (show b < 2 ^ 31 by omega)]
        exact ⟨(n_vp (by omega)).mpr hs0, (n_vp (by omega)).mpr hb, q1 rfl⟩
      · have e : a ≠ k := fun y => z (by rw [y])
        have a0 : a = 0 := by
          have := (n_leI (b := 0) (by omega) (by decide)).mp y
          omega
        rw [if_neg e, if_pos a0] at q0
        exact q0 rfl
      · have e : a ≠ k := fun y => z (by rw [y])
        have a0 : a ≠ 0 := fun w => y ((n_leI (b := 0) (by omega) (by decide)).mpr (by omega))
        rw [if_neg e, if_neg a0] at q1 q0
        have hd1 := dpt_ok ⟨a, ha⟩ a0
        obtain ⟨b1, b2⟩ := ab_ok ⟨a, ha⟩ a0
        have R := m_taken hk hs0 hb e57 j _ b2 (by dsimp only at hd1 ⊢; omega) q1 q0
        rw [← b1] at R
        refine ⟨fun z3 => ⟨fun z4 => ⟨fun z5 => ⟨fun z7 => ?_, fun z7 => ?_⟩, fun z5 => ?_⟩, fun z4 => ?_⟩, fun z3 => ?_⟩
        · have h8 : a = 1 ∨ a = 2 ∨ a = 6 := by
            have y3 : a ≠ 3 := fun w => z3 (by rw [w]; rfl)
            have y4 : a ≠ 4 := fun w => z4 (by rw [w]; rfl)
            have y5 : a ≠ 5 := fun w => z5 (by rw [w]; rfl)
            have y7 : a ≠ 7 := fun w => z7 (by rw [w]; rfl)
            omega
          rcases h8 with rfl | rfl | rfl <;> exact R
        · have := nk (b := 7) ha (by decide) z7
          subst this; exact R
        · have := nk (b := 5) ha (by decide) z5
          subst this; exact R
        · have := nk (b := 4) ha (by decide) z4
          subst this; exact R
        · have := nk (b := 3) ha (by decide) z3
          subst this; exact R
    exact ret
theorem j_taken (hI : Inv M) (hd : 100 ≤ d) : Jn L xs d c_Mo_taken c_Md_taken [.ref 0, .int x1, .int x2] [.ref 40, .int x1, .int x2] M := by
  have hI0 := hI
  obtain ⟨n, f, T, bn, hP, hL, hT, hC, hD, hA, hS, h23⟩ := hI
  obtain ⟨d, rfl⟩ : ∃ a, d = a + 9 := ⟨d - 9, by omega⟩
  obtain ⟨a1, a2, a3, ⟨kd, a4⟩, -⟩ := hA
  by_cases hv : 0 ≤ x1.toInt ∧ x1.toInt < 6 ∧ 0 ≤ x2.toInt ∧ x2.toInt ≤ 7
  · obtain ⟨v1, v2, v3, v4⟩ := hv
    obtain ⟨s0, rfl, hs, -⟩ := n_ofI v1
    obtain ⟨k, rfl, hk, -⟩ := n_ofI v3
    have hs0 : s0 < 6 := by omega
    have hk8 : k < 8 := by omega
    have ts : (nI s0).toInt = (s0 : Int) := nI_toInt (by omega)
    have tk : (nI k).toInt = (k : Int) := nI_toInt (by omega)
    have n8 : ∀ z : (8 : Int32) ≤ nI k, False := fun z => by
      have := (n_leI (a := 8) (by decide) (by omega)).mp z
      omega
    have n6 : ∀ z : (6 : Int32) ≤ nI s0, False := fun z => by
      have := (n_leI (a := 6) (by decide) (by omega)).mp z
      omega
    have g5 : ¬ 0 < lg_cmp (Int32.toInt64 (nI s0)) 5 := fun z => by
      ((try simp only [lg_cmp_lt, lg_cmp_gt] at z); simp (disch := omega) only [ts, Int64.lt_iff_toInt_lt, Int32.toInt_toInt64, Int64.reduceToInt, ← Int32.toInt_inj, Int32.lt_iff_toInt_lt, Int32.le_iff_toInt_le, Int32.reduceToInt, nI_toInt, false_implies, true_implies, and_true, true_and, not_true_eq_false, not_false_eq_true, forall_const, implies_true, false_and, and_false, true_or, or_true, eq_self] at z)
      omega
    have g7 : ¬ 0 < lg_cmp (Int32.toInt64 (nI k)) 7 := fun z => by
      ((try simp only [lg_cmp_lt, lg_cmp_gt] at z); simp (disch := omega) only [tk, Int64.lt_iff_toInt_lt, Int32.toInt_toInt64, Int64.reduceToInt, ← Int32.toInt_inj, Int32.lt_iff_toInt_lt, Int32.le_iff_toInt_le, Int32.reduceToInt, nI_toInt, false_implies, true_implies, and_true, true_and, not_true_eq_false, not_false_eq_true, forall_const, implies_true, false_and, and_false, true_or, or_true, eq_self] at z)
      omega
    have b1 : ∀ {b : Nat}, b < 50 → ¬ nI b = -1 := fun hb z => absurd (show nI _ < 0 by rw [z]; decide) (nI_pos (by omega))
    rcases hS s0 hs0 with ⟨e57, e22, e23⟩ | ⟨b, hb, e57, e22, e23⟩ | ⟨s, k0, hs5, hk0, e57, e22, e23, -⟩
    · refine Jn.no (-11) hI0 (fun Q kq => t_Mo_taken ?_) (fun Q kq => t_Md_taken ?_)
      · rw [n_cl (show s0 < 2 ^ 31 by omega), e22, e23]
        exact ⟨fun z => absurd z (nI_pos (by omega)), fun _ => ⟨fun z => (n6 z).elim, fun _ => ⟨fun z => absurd z (nI_pos (by omega)), fun _ => ⟨fun z => (n8 z).elim, fun _ => ⟨(n_vp (by omega)).mpr hs0, fun z => absurd rfl z, fun _ => ⟨fun z => absurd rfl z, fun _ => kq⟩⟩⟩⟩⟩⟩
      · rw [n_cl (show s0 < 2 ^ 31 by omega), e57]
        exact ⟨fun z => absurd z (g_nn (by omega)), fun _ => ⟨fun z => absurd z g5, fun _ => ⟨Or.inr rfl, fun z => absurd z (g_nn (by omega)), fun _ => ⟨fun z => absurd z g7, fun _ => ⟨(n_vp (by omega)).mpr hs0, fun z => absurd z (by decide), fun _ => kq⟩⟩⟩⟩⟩
    · obtain ⟨q1, q2, q3⟩ := a4 b hb
      have hb50 : b < 50 := by omega
      refine Jn.no (if undF 8 (kd b) k then nI (kd b) else -12) hI0 (fun Q kq => t_Mo_taken ?_) (fun Q kq => t_Md_taken ?_)
      · rw [n_cl (show s0 < 2 ^ 31 by omega), e22, e23, n_cl (show b < 2 ^ 31 by omega), q2, a2]
        have W : am_Call (gG L xs) (d + 8) c_Acts_isUnder [.int (nI (kd b)), .int (nI k)] M (fun r M' => v_Mo_taken L xs (d + 8) Q 51 [(3, .int (nI (kd b)))] (r.toList ++ []) M') := t_Acts_isUnder (s_isUnder hk8 8 (kd b) 0 rfl q1 (u_Mo_taken_51 (by
          cases hu : undF 8 (kd b) k with
          | true =>
            rw [hu] at kq
            exact ⟨fun z => absurd z (by decide), fun _ => kq⟩
          | false =>
            rw [hu] at kq
            exact ⟨fun _ => kq, fun z => absurd rfl z⟩)))
        exact ⟨fun z => absurd z (nI_pos (by omega)), fun _ => ⟨fun z => (n6 z).elim, fun _ => ⟨fun z => absurd z (nI_pos (by omega)), fun _ => ⟨fun z => (n8 z).elim, fun _ => ⟨(n_vp (by omega)).mpr hs0, fun _ => ⟨fun z => absurd z (nI_pos (by omega)), fun _ => ⟨fun z => absurd ((n_leI (by omega) (by omega)).mp z) (by omega), fun _ => ⟨(n_vp (by omega)).mpr hb50, W⟩⟩⟩, fun z => absurd z (b1 hb50)⟩⟩⟩⟩⟩
      · rw [n_cl (show s0 < 2 ^ 31 by omega), e57, n_cl (show b < 2 ^ 31 by omega), q3]
        have hdp : dpt (kd b) < 8 := by
          have h8 : ∀ a : Fin 8, dpt a.val < 8 := by decide
          exact h8 ⟨kd b, q1⟩
        have W : v_Md_taken L xs (d + 8) Q 58 [(0, .ref 40), (1, .int (nI s0)), (2, .int (nI k)), (3, .int (nI (kd b)))] [] M := by
          cases hu : undF 8 (kd b) k with
          | true =>
            rw [hu] at kq
            exact m_taken hk8 hs0 hb50 e57 8 (kd b) q1 hdp (fun _ => by rw [q3]; exact kq) (fun z => by rw [hu] at z; cases z)
          | false =>
            rw [hu] at kq
            exact m_taken hk8 hs0 hb50 e57 8 (kd b) q1 hdp (fun z => by rw [hu] at z; cases z) (fun _ => kq)
        exact ⟨fun z => absurd z (g_nn (by omega)), fun _ => ⟨fun z => absurd z g5, fun _ => ⟨Or.inr rfl, fun z => absurd z (g_nn (by omega)), fun _ => ⟨fun z => absurd z g7, fun _ => ⟨(n_vp (by omega)).mpr hs0, fun _ => ⟨fun _ => ⟨(n_vp (by omega)).mpr hb50, W⟩, fun z => absurd ((n_ltI (b := 50) (by omega) (by decide)).mpr hb50) z⟩, fun z => absurd (nI_pos' (by omega)) z⟩⟩⟩⟩⟩
    · refine Jn.no (-12) hI0 (fun Q kq => t_Mo_taken ?_) (fun Q kq => t_Md_taken ?_)
      · rw [n_cl (show s0 < 2 ^ 31 by omega), e22, e23]
        have W : am_Call (gG L xs) (d + 8) c_Acts_isUnder [.int (-1), .int (nI k)] M (fun r M' => v_Mo_taken L xs (d + 8) Q 51 [(3, .int (-1))] (r.toList ++ []) M') := t_Acts_isUnder (u_Acts_isUnder_4 ⟨fun z => absurd z (by decide), fun _ => ⟨fun _ => u_Mo_taken_51 ⟨fun _ => kq, fun z => absurd rfl z⟩, fun z => absurd (by decide) z⟩⟩)
        exact ⟨fun z => absurd z (nI_pos (by omega)), fun _ => ⟨fun z => (n6 z).elim, fun _ => ⟨fun z => absurd z (nI_pos (by omega)), fun _ => ⟨fun z => (n8 z).elim, fun _ => ⟨(n_vp (by omega)).mpr hs0, fun z => absurd rfl z, fun _ => ⟨fun _ => ⟨fun _ => W, fun z => absurd (by decide) z⟩, fun z => absurd z (b1 (by omega))⟩⟩⟩⟩⟩⟩
      · rw [n_cl (show s0 < 2 ^ 31 by omega), e57]
        exact ⟨fun z => absurd z (g_nn (by omega)), fun _ => ⟨fun z => absurd z g5, fun _ => ⟨Or.inr rfl, fun z => absurd z (g_nn (by omega)), fun _ => ⟨fun z => absurd z g7, fun _ => ⟨(n_vp (by omega)).mpr hs0, fun _ => ⟨fun z => absurd ((n_ltI (b := 50) (by omega) (by decide)).mp z) (by omega), fun _ => kq⟩, fun z => absurd (nI_pos' (by omega)) z⟩⟩⟩⟩⟩
  · refine Jn.no (-1) hI0 (fun Q kq => ?_) (fun Q kq => ?_)
    · refine t_Mo_taken ⟨fun _ => kq, fun z1 => ⟨fun _ => kq, fun z2 => ⟨fun _ => kq, fun z3 => ⟨fun _ => kq, fun z4 => ?_⟩⟩⟩⟩
      exfalso
      ((try simp only [lg_cmp_lt, lg_cmp_gt] at z1); simp (disch := omega) only [Int64.lt_iff_toInt_lt, Int32.toInt_toInt64, Int64.reduceToInt, ← Int32.toInt_inj, Int32.lt_iff_toInt_lt, Int32.le_iff_toInt_le, Int32.reduceToInt, nI_toInt, false_implies, true_implies, and_true, true_and, not_true_eq_false, not_false_eq_true, forall_const, implies_true, false_and, and_false, true_or, or_true, eq_self] at z1)
      ((try simp only [lg_cmp_lt, lg_cmp_gt] at z2); simp (disch := omega) only [Int64.lt_iff_toInt_lt, Int32.toInt_toInt64, Int64.reduceToInt, ← Int32.toInt_inj, Int32.lt_iff_toInt_lt, Int32.le_iff_toInt_le, Int32.reduceToInt, nI_toInt, false_implies, true_implies, and_true, true_and, not_true_eq_false, not_false_eq_true, forall_const, implies_true, false_and, and_false, true_or, or_true, eq_self] at z2)
      ((try simp only [lg_cmp_lt, lg_cmp_gt] at z3); simp (disch := omega) only [Int64.lt_iff_toInt_lt, Int32.toInt_toInt64, Int64.reduceToInt, ← Int32.toInt_inj, Int32.lt_iff_toInt_lt, Int32.le_iff_toInt_le, Int32.reduceToInt, nI_toInt, false_implies, true_implies, and_true, true_and, not_true_eq_false, not_false_eq_true, forall_const, implies_true, false_and, and_false, true_or, or_true, eq_self] at z3)
      ((try simp only [lg_cmp_lt, lg_cmp_gt] at z4); simp (disch := omega) only [Int64.lt_iff_toInt_lt, Int32.toInt_toInt64, Int64.reduceToInt, ← Int32.toInt_inj, Int32.lt_iff_toInt_lt, Int32.le_iff_toInt_le, Int32.reduceToInt, nI_toInt, false_implies, true_implies, and_true, true_and, not_true_eq_false, not_false_eq_true, forall_const, implies_true, false_and, and_false, true_or, or_true, eq_self] at z4)
      omega
    · refine t_Md_taken ⟨fun _ => ⟨Or.inl rfl, kq⟩, fun z1 => ⟨fun _ => ⟨Or.inl rfl, kq⟩, fun z2 => ⟨Or.inr rfl, fun _ => kq, fun z3 => ⟨fun _ => kq, fun z4 => ?_⟩⟩⟩⟩
      exfalso
      ((try simp only [lg_cmp_lt, lg_cmp_gt] at z1); simp (disch := omega) only [Int64.lt_iff_toInt_lt, Int32.toInt_toInt64, Int64.reduceToInt, ← Int32.toInt_inj, Int32.lt_iff_toInt_lt, Int32.le_iff_toInt_le, Int32.reduceToInt, nI_toInt, false_implies, true_implies, and_true, true_and, not_true_eq_false, not_false_eq_true, forall_const, implies_true, false_and, and_false, true_or, or_true, eq_self] at z1)
      ((try simp only [lg_cmp_lt, lg_cmp_gt] at z2); simp (disch := omega) only [Int64.lt_iff_toInt_lt, Int32.toInt_toInt64, Int64.reduceToInt, ← Int32.toInt_inj, Int32.lt_iff_toInt_lt, Int32.le_iff_toInt_le, Int32.reduceToInt, nI_toInt, false_implies, true_implies, and_true, true_and, not_true_eq_false, not_false_eq_true, forall_const, implies_true, false_and, and_false, true_or, or_true, eq_self] at z2)
      ((try simp only [lg_cmp_lt, lg_cmp_gt] at z3); simp (disch := omega) only [Int64.lt_iff_toInt_lt, Int32.toInt_toInt64, Int64.reduceToInt, ← Int32.toInt_inj, Int32.lt_iff_toInt_lt, Int32.le_iff_toInt_le, Int32.reduceToInt, nI_toInt, false_implies, true_implies, and_true, true_and, not_true_eq_false, not_false_eq_true, forall_const, implies_true, false_and, and_false, true_or, or_true, eq_self] at z3)
      ((try simp only [lg_cmp_lt, lg_cmp_gt] at z4); simp (disch := omega) only [Int64.lt_iff_toInt_lt, Int32.toInt_toInt64, Int64.reduceToInt, ← Int32.toInt_inj, Int32.lt_iff_toInt_lt, Int32.le_iff_toInt_le, Int32.reduceToInt, nI_toInt, false_implies, true_implies, and_true, true_and, not_true_eq_false, not_false_eq_true, forall_const, implies_true, false_and, and_false, true_or, or_true, eq_self] at z4)
      omega
end E19
