section E1
variable {L : Nat} {xs : Nat → Int32} {d : Nat} {Q : AQ} {M M1 M2 : AM} {x1 x2 x3 : Int32}
theorem j_led (hI : Inv M) (hd : 100 ≤ d) : Jn L xs d c_Mo_led c_Md_led [.ref 0, .int x1] [.ref 40, .int x1] M := by
  have hI0 := hI
  obtain ⟨n, f, T, bn, hP, hL, hT, hC, hD, hA, hS, h23⟩ := hI
  obtain ⟨⟨nw, io, aw, d1, d2, d3, d4, d5, d6, d7, d8, -⟩, -⟩ := hD
  obtain ⟨d, rfl⟩ : ∃ a, d = a + 9 := ⟨d - 9, by omega⟩
  by_cases hv : 0 ≤ x1.toInt ∧ x1.toInt ≤ 5
  · obtain ⟨v1, v2⟩ := hv
    obtain ⟨k0, rfl, hk, -⟩ := n_ofI v1
    have hk5 : k0 ≤ 5 := by omega
    refine Jn.of2 (v := M.1 28 k0) (P := fun M1 => M1 = M) (fun Q k => ?_) (fun M1 e Q k => ?_)
    · refine t_Mo_led ⟨fun z => absurd z (nI_pos (by omega)), fun _ => ⟨fun _ => ⟨fun z => absurd ((n_ltI (a := 5) (by decide) (by omega)).mp z) (by omega), fun _ => ⟨(n_vp (by omega)).mpr (by omega), ?_⟩⟩, fun z => absurd ((n_leI (b := 5) (by omega) (by decide)).mpr hk5) z⟩⟩
      rw [n_cl (by omega)]
      exact k M rfl
    · subst e
      have K := k _ hI0
      refine t_Md_led ⟨fun z => ?_, fun z => ?_, fun z => ?_, fun z => ?_, fun z => ?_, fun z => ?_, fun z0 z1 z2 z3 z4 z5 => ?_⟩
      · have : k0 = 0 := (nI_eq (b := 0) (by omega) (by decide)).mp z
        subst this; rw [← d4]; exact K
      · have : k0 = 1 := (nI_eq (b := 1) (by omega) (by decide)).mp z
        subst this; rw [← d5]; exact K
      · have : k0 = 2 := (nI_eq (b := 2) (by omega) (by decide)).mp z
        subst this; rw [← d6]; exact K
      · have : k0 = 3 := (nI_eq (b := 3) (by omega) (by decide)).mp z
        subst this; rw [← d7]; exact K
      · have : k0 = 4 := (nI_eq (b := 4) (by omega) (by decide)).mp z
        subst this; rw [← d8]; exact K
      · have : k0 = 5 := (nI_eq (b := 5) (by omega) (by decide)).mp z
        subst this; rw [d3, ← d2]; exact K
      · exfalso
        have a0 : k0 ≠ 0 := fun y => z0 (by rw [y]; rfl)
        have a1 : k0 ≠ 1 := fun y => z1 (by rw [y]; rfl)
        have a2 : k0 ≠ 2 := fun y => z2 (by rw [y]; rfl)
        have a3 : k0 ≠ 3 := fun y => z3 (by rw [y]; rfl)
        have a4 : k0 ≠ 4 := fun y => z4 (by rw [y]; rfl)
        have a5 : k0 ≠ 5 := fun y => z5 (by rw [y]; rfl)
        omega
  · refine Jn.no (-1) hI0 (fun Q k => ?_) (fun Q k => ?_)
    · refine t_Mo_led ?_
      ((try simp only [lg_cmp_lt, lg_cmp_gt]); simp (disch := omega) only [Int64.lt_iff_toInt_lt, Int32.toInt_toInt64, Int64.reduceToInt, ← Int32.toInt_inj, Int32.lt_iff_toInt_lt, Int32.le_iff_toInt_le, Int32.reduceToInt, nI_toInt, false_implies, true_implies, and_true, true_and, not_true_eq_false, not_false_eq_true, forall_const, implies_true, false_and, and_false, true_or, or_true, eq_self])
      repeat' (first | (with_reducible refine And.intro ?_ ?_) | (with_reducible intro h; first | (exfalso; omega) | contradiction | skip))
      all_goals first | exact k | (exfalso; omega)
    · refine t_Md_led ?_
      ((try simp only [lg_cmp_lt, lg_cmp_gt]); simp (disch := omega) only [Int64.lt_iff_toInt_lt, Int32.toInt_toInt64, Int64.reduceToInt, ← Int32.toInt_inj, Int32.lt_iff_toInt_lt, Int32.le_iff_toInt_le, Int32.reduceToInt, nI_toInt, false_implies, true_implies, and_true, true_and, not_true_eq_false, not_false_eq_true, forall_const, implies_true, false_and, and_false, true_or, or_true, eq_self])
      repeat' (first | (with_reducible refine And.intro ?_ ?_) | (with_reducible intro h; first | (exfalso; omega) | contradiction | skip))
      all_goals first | exact k | (exfalso; omega)
theorem j_trace (hI : Inv M) (hd : 100 ≤ d) : Jn L xs d c_Mo_trace c_Md_trace [.ref 0, .int x1] [.ref 40, .int x1] M := by
  have hI0 := hI
  obtain ⟨n, f, T, bn, hP, hL, hT, hC, hD, ⟨b1, b2, b3, -, rn, r1, r2, r3, r4⟩, hS, h23⟩ := hI
  obtain ⟨d, rfl⟩ : ∃ a, d = a + 9 := ⟨d - 9, by omega⟩
  have e1 : (nI rn).toInt = rn := nI_toInt (by omega)
  by_cases hv : 0 ≤ x1.toInt ∧ x1.toInt < rn ∧ x1.toInt < 24
  · obtain ⟨v1, v2, v3⟩ := hv
    obtain ⟨k0, rfl, hk, -⟩ := n_ofI v1
    refine Jn.of2 (v := M.1 39 k0) (P := fun M1 => M1 = M) (fun Q k => ?_) (fun M1 e Q k => ?_)
    · have K := k M rfl
      refine t_Mo_trace ?_
      ((try simp only [lg_cmp_lt, lg_cmp_gt]); simp (disch := omega) only [r2, e1, n_vp, n_cl, Int64.lt_iff_toInt_lt, Int32.toInt_toInt64, Int64.reduceToInt, ← Int32.toInt_inj, Int32.lt_iff_toInt_lt, Int32.le_iff_toInt_le, Int32.reduceToInt, nI_toInt, false_implies, true_implies, and_true, true_and, not_true_eq_false, not_false_eq_true, forall_const, implies_true, false_and, and_false, true_or, or_true, eq_self])
      repeat' (first | (with_reducible refine And.intro ?_ ?_) | (with_reducible intro h; first | (exfalso; omega) | contradiction | skip))
      all_goals first | exact K | omega
    · subst e
      have K := k _ hI0
      rw [r4 k0 (by omega) (by omega)] at K
      refine t_Md_trace ?_
      ((try simp only [lg_cmp_lt, lg_cmp_gt]); simp (disch := omega) only [r3, e1, n_vp, n_cl, Int64.lt_iff_toInt_lt, Int32.toInt_toInt64, Int64.reduceToInt, ← Int32.toInt_inj, Int32.lt_iff_toInt_lt, Int32.le_iff_toInt_le, Int32.reduceToInt, nI_toInt, false_implies, true_implies, and_true, true_and, not_true_eq_false, not_false_eq_true, forall_const, implies_true, false_and, and_false, true_or, or_true, eq_self])
      repeat' (first | (with_reducible refine And.intro ?_ ?_) | (with_reducible intro h; first | (exfalso; omega) | contradiction | skip))
      all_goals first | exact K | omega
  · refine Jn.no (-1) hI0 (fun Q k => ?_) (fun Q k => ?_)
    · refine t_Mo_trace ?_
      ((try simp only [lg_cmp_lt, lg_cmp_gt]); simp (disch := omega) only [r2, e1, Int64.lt_iff_toInt_lt, Int32.toInt_toInt64, Int64.reduceToInt, ← Int32.toInt_inj, Int32.lt_iff_toInt_lt, Int32.le_iff_toInt_le, Int32.reduceToInt, nI_toInt, false_implies, true_implies, and_true, true_and, not_true_eq_false, not_false_eq_true, forall_const, implies_true, false_and, and_false, true_or, or_true, eq_self])
      repeat' (first | (with_reducible refine And.intro ?_ ?_) | (with_reducible intro h; first | (exfalso; omega) | contradiction | skip))
      all_goals first | exact k | (exfalso; omega)
    · refine t_Md_trace ?_
      ((try simp only [lg_cmp_lt, lg_cmp_gt]); simp (disch := omega) only [r3, e1, Int64.lt_iff_toInt_lt, Int32.toInt_toInt64, Int64.reduceToInt, ← Int32.toInt_inj, Int32.lt_iff_toInt_lt, Int32.le_iff_toInt_le, Int32.reduceToInt, nI_toInt, false_implies, true_implies, and_true, true_and, not_true_eq_false, not_false_eq_true, forall_const, implies_true, false_and, and_false, true_or, or_true, eq_self])
      repeat' (first | (with_reducible refine And.intro ?_ ?_) | (with_reducible intro h; first | (exfalso; omega) | contradiction | skip))
      all_goals first | exact k | (exfalso; omega)
theorem j_body (hI : Inv M) (hd : 100 ≤ d) : Jn L xs d c_Mo_body c_Md_body [.ref 0, .int x1] [.ref 40, .int x1] M := by
  have hI0 := hI
  obtain ⟨n, f, T, bn, hP, hL, hT, hC, hD, ⟨b1, b2, b3, ⟨kd, b4⟩, rn, r1, r2, r3, r4⟩, hS, h23⟩ := hI
  obtain ⟨d, rfl⟩ : ∃ a, d = a + 9 := ⟨d - 9, by omega⟩
  have e1 : (nI bn).toInt = bn := nI_toInt (by omega)
  by_cases hv : 0 ≤ x1.toInt ∧ x1.toInt < 8
  · obtain ⟨v1, v2⟩ := hv
    obtain ⟨k0, rfl, hk, -⟩ := n_ofI v1
    by_cases hb : bn < 50
    · have em : nI bn + 1 - 1 = nI bn := by rw [nI_1, n_top]
      refine Jn.of2 (v := nI bn) (P := fun M1 => M1 = am_wi (am_wi M 38 bn (nI k0)) 37 1 (nI (bn + 1))) (fun Q k => ?_) (fun M1 e Q k => ?_)
      · have K := k _ rfl
        refine t_Mo_body ?_
        rw [b2, em, nI_1, n_cl (by omega)]
        ((try simp only [lg_cmp_lt, lg_cmp_gt]); simp (disch := omega) only [e1, n_vp, Int64.lt_iff_toInt_lt, Int32.toInt_toInt64, Int64.reduceToInt, ← Int32.toInt_inj, Int32.lt_iff_toInt_lt, Int32.le_iff_toInt_le, Int32.reduceToInt, nI_toInt, false_implies, true_implies, and_true, true_and, not_true_eq_false, not_false_eq_true, forall_const, implies_true, false_and, and_false, true_or, or_true, eq_self])
        repeat' (first | (with_reducible refine And.intro ?_ ?_) | (with_reducible intro h; first | (exfalso; omega) | contradiction | skip))
        all_goals first | exact K | omega
      · have c40 : ∀ j, M1.1 40 j = M.1 40 j := fun j => by rw [e, wi_ne (by decide), wi_ne (by decide)]
        have F : fs [37, 38, 55] [40] M (am_wi (am_wi M1 55 bn (nI k0)) 40 40 (nI (bn + 1))) := by
          rw [e]; exact ((((fs.rf.c (by decide) (by decide)).c (by decide) (by decide)).c (by decide) (by decide)).s (by decide))
        have I2 : Inv (am_wi (am_wi M1 55 bn (nI k0)) 40 40 (nI (bn + 1))) := by
          refine ⟨n, f, T, bn + 1, hP.keep F (by decide) (by decide) (fun _ _ => by rw [F.i 41]), hL.keep F (by decide) (by decide), hT.keep F (by decide) (by decide), hC.keep F (by decide) (by decide), hD.keep F (by decide) (by decide), ⟨by omega, ?_, by rw [wi_eq], ⟨fun i => if i = bn then k0 else kd i, fun i hi => ?_⟩, rn, r1, ?_, ?_, fun i h1 h2 => ?_⟩, fun d hd => ?_, by rw [F.j 23]; exact h23⟩
          · rw [wi_ne (by decide), wi_ne (by decide), e, wi_eq]
          · have q1 : (am_wi (am_wi M1 55 bn (nI k0)) 40 40 (nI (bn + 1))).1 38 i = if i = bn then nI k0 else M.1 38 i := by
              rw [wi_ne (by decide), wi_ne (by decide), e, wi_ne (by decide), wi_rd, if_pos rfl]
            have q2 : (am_wi (am_wi M1 55 bn (nI k0)) 40 40 (nI (bn + 1))).1 55 i = if i = bn then nI k0 else M.1 55 i := by
              rw [wi_ne (by decide), wi_rd, if_pos rfl, e, wi_ne (by decide), wi_ne (by decide)]
            rw [q1, q2]
            by_cases h : i = bn
            · simp only [h, if_true]; exact ⟨by omega, trivial, trivial⟩
            · simp only [h, if_false]; exact b4 i (by omega)
          · rw [wi_ne (by decide), wi_ne (by decide), e, wi_sl (by decide), wi_ne (by decide)]; exact r2
          · rw [wi_sl (by decide), wi_ne (by decide), c40]; exact r3
          · rw [wi_ne (by decide), wi_ne (by decide), wi_ne (by decide), wi_ne (by decide), e, wi_ne (by decide), wi_ne (by decide), wi_ne (by decide), wi_ne (by decide)]; exact r4 i h1 h2
          · rcases hS.keep F (by decide) d hd with h | ⟨b, h1, h2⟩ | h
            · exact Or.inl h
            · exact Or.inr (Or.inl ⟨b, by omega, h2⟩)
            · exact Or.inr (Or.inr h)
        have K := k _ I2
        refine t_Md_body ?_
        rw [c40, b3, em, nI_1, n_cl (by omega)]
        ((try simp only [lg_cmp_lt, lg_cmp_gt]); simp (disch := omega) only [e1, n_vp, Int64.lt_iff_toInt_lt, Int32.toInt_toInt64, Int64.reduceToInt, ← Int32.toInt_inj, Int32.lt_iff_toInt_lt, Int32.le_iff_toInt_le, Int32.reduceToInt, nI_toInt, false_implies, true_implies, and_true, true_and, not_true_eq_false, not_false_eq_true, forall_const, implies_true, false_and, and_false, true_or, or_true, eq_self])
        repeat' (first | (with_reducible refine And.intro ?_ ?_) | (with_reducible intro h; first | (exfalso; omega) | contradiction | skip))
        all_goals first | exact K | omega
    · refine Jn.no (-3) hI0 (fun Q k => ?_) (fun Q k => ?_)
      · refine t_Mo_body ?_
        ((try simp only [lg_cmp_lt, lg_cmp_gt]); simp (disch := omega) only [b2, e1, Int64.lt_iff_toInt_lt, Int32.toInt_toInt64, Int64.reduceToInt, ← Int32.toInt_inj, Int32.lt_iff_toInt_lt, Int32.le_iff_toInt_le, Int32.reduceToInt, nI_toInt, false_implies, true_implies, and_true, true_and, not_true_eq_false, not_false_eq_true, forall_const, implies_true, false_and, and_false, true_or, or_true, eq_self])
        repeat' (first | (with_reducible refine And.intro ?_ ?_) | (with_reducible intro h; first | (exfalso; omega) | contradiction | skip))
        all_goals first | exact k | (exfalso; omega)
      · refine t_Md_body ?_
        ((try simp only [lg_cmp_lt, lg_cmp_gt]); simp (disch := omega) only [b3, e1, Int64.lt_iff_toInt_lt, Int32.toInt_toInt64, Int64.reduceToInt, ← Int32.toInt_inj, Int32.lt_iff_toInt_lt, Int32.le_iff_toInt_le, Int32.reduceToInt, nI_toInt, false_implies, true_implies, and_true, true_and, not_true_eq_false, not_false_eq_true, forall_const, implies_true, false_and, and_false, true_or, or_true, eq_self])
        repeat' (first | (with_reducible refine And.intro ?_ ?_) | (with_reducible intro h; first | (exfalso; omega) | contradiction | skip))
        all_goals first | exact k | (exfalso; omega)
  · refine Jn.no (-1) hI0 (fun Q k => ?_) (fun Q k => ?_)
    · refine t_Mo_body ?_
      ((try simp only [lg_cmp_lt, lg_cmp_gt]); simp (disch := omega) only [b2, e1, Int64.lt_iff_toInt_lt, Int32.toInt_toInt64, Int64.reduceToInt, ← Int32.toInt_inj, Int32.lt_iff_toInt_lt, Int32.le_iff_toInt_le, Int32.reduceToInt, nI_toInt, false_implies, true_implies, and_true, true_and, not_true_eq_false, not_false_eq_true, forall_const, implies_true, false_and, and_false, true_or, or_true, eq_self])
      repeat' (first | (with_reducible refine And.intro ?_ ?_) | (with_reducible intro h; first | (exfalso; omega) | contradiction | skip))
      all_goals first | exact k | (exfalso; omega)
    · refine t_Md_body ?_
      ((try simp only [lg_cmp_lt, lg_cmp_gt]); simp (disch := omega) only [b3, e1, Int64.lt_iff_toInt_lt, Int32.toInt_toInt64, Int64.reduceToInt, ← Int32.toInt_inj, Int32.lt_iff_toInt_lt, Int32.le_iff_toInt_le, Int32.reduceToInt, nI_toInt, false_implies, true_implies, and_true, true_and, not_true_eq_false, not_false_eq_true, forall_const, implies_true, false_and, and_false, true_or, or_true, eq_self])
      repeat' (first | (with_reducible refine And.intro ?_ ?_) | (with_reducible intro h; first | (exfalso; omega) | contradiction | skip))
      all_goals first | exact k | (exfalso; omega)
theorem iS.at_ne {bn : Nat} {M M' : AM} {d0 d : Nat} (h : iS bn M) (hd : d < 6) (hne : d ≠ d0) (e22 : M'.1 22 d = M.1 22 d) (e23 : M'.1 23 d = M.1 23 d) (e24 : M'.1 24 d = M.1 24 d) (e57 : M'.1 57 d = M.1 57 d) (e58 : M'.1 58 d = M.1 58 d) (e25 : ∀ i, i < 60 → M'.2 25 (60 * d + i) = M.2 25 (60 * d + i)) (e59 : ∀ i, i < 60 → M'.2 59 (60 * d + i) = M.2 59 (60 * d + i)) : (M'.1 57 d = -1 ∧ M'.1 22 d = -1 ∧ M'.1 23 d = -1) ∨ (∃ b, b < bn ∧ M'.1 57 d = nI b ∧ M'.1 22 d = nI b ∧ M'.1 23 d = -1) ∨ ∃ s k, s < 5 ∧ k ≤ 60 ∧ M'.1 57 d = nI (50 + s) ∧ M'.1 22 d = -1 ∧ M'.1 23 d = nI s ∧ M'.1 24 d = nI k ∧ M'.1 58 d = nI k ∧ ∀ i, i < k → M'.2 25 (60 * d + i) = M'.2 59 (60 * d + i) ∧ (s = 1 → ∃ z : Int32, M'.2 59 (60 * d + i) = z.toInt64) := by
  rw [e22, e23, e24, e57, e58]
  rcases h d hd with h | h | ⟨s, k, h1, h2, h3, h4, h5, h6, h7, h8⟩
  · exact Or.inl h
  · exact Or.inr (Or.inl h)
  · refine Or.inr (Or.inr ⟨s, k, h1, h2, h3, h4, h5, h6, h7, fun i hi => ?_⟩)
    rw [e25 i (by omega), e59 i (by omega)]
    exact h8 i hi
theorem j_keep (hI : Inv M) (hd : 100 ≤ d) : Jn L xs d c_Mo_keep c_Md_keep [.ref 0, .int x1, .int x2] [.ref 40, .int x1, .int x2] M := by
  have hI0 := hI
  obtain ⟨n, f, T, bn, hP, hL, hT, hC, hD, hA, hS, h23⟩ := hI
  have hA0 := hA
  obtain ⟨b1, b2, b3, -⟩ := hA
  obtain ⟨d, rfl⟩ : ∃ a, d = a + 9 := ⟨d - 9, by omega⟩
  have e1 : (nI bn).toInt = bn := nI_toInt (by omega)
  have ept : (nI bn - 1).toInt = (bn : Int) - 1 := n_pt (by omega)
  by_cases hv : 0 ≤ x1.toInt ∧ x1.toInt < 6 ∧ (x2.toInt = -1 ∨ (0 ≤ x2.toInt ∧ x2.toInt < bn))
  · obtain ⟨v1, v2, v3⟩ := hv
    obtain ⟨s0, rfl, hk, -⟩ := n_ofI v1
    refine Jn.of2 (v := 1) (P := fun M1 => M1 = am_wi (am_wi M 22 s0 x2) 23 s0 (-1)) (fun Q k => ?_) (fun M1 e Q k => ?_)
    · have K := k _ rfl
      refine t_Mo_keep ?_
      rw [n_cl (by omega), b2]
      ((try simp only [lg_cmp_lt, lg_cmp_gt]); simp (disch := omega) only [e1, n_vp, t_1, Int64.lt_iff_toInt_lt, Int32.toInt_toInt64, Int64.reduceToInt, ← Int32.toInt_inj, Int32.lt_iff_toInt_lt, Int32.le_iff_toInt_le, Int32.reduceToInt, nI_toInt, false_implies, true_implies, and_true, true_and, not_true_eq_false, not_false_eq_true, forall_const, implies_true, false_and, and_false, true_or, or_true, eq_self])
      repeat' (first | (with_reducible refine And.intro ?_ ?_) | (with_reducible intro h; first | (exfalso; omega) | contradiction | skip))
      all_goals first | exact K | (exfalso; omega) | omega
    · have F : fs [22, 23, 57, 58] [] M (am_wi (am_wi M1 57 s0 x2) 58 s0 0) := by
        rw [e]; exact ((((fs.rf.c (by decide) (by decide)).c (by decide) (by decide)).c (by decide) (by decide)).c (by decide) (by decide))
      have I2 : Inv (am_wi (am_wi M1 57 s0 x2) 58 s0 0) := by
        refine ⟨n, f, T, bn, hP.keep F (by decide) (by decide) (fun _ _ => by rw [F.i 41]), hL.keep F (by decide) (by decide), hT.keep F (by decide) (by decide), hC.keep F (by decide) (by decide), hD.keep F (by decide) (by decide), ?_, fun d hd => ?_, by rw [F.j 23]; exact h23⟩
        · exact hA0.keep F (by decide) (by decide)
        · by_cases h : d = s0
          · subst h
            have q22 : (am_wi (am_wi M1 57 d x2) 58 d 0).1 22 d = x2 := by rw [wi_ne (by decide), wi_ne (by decide), e, wi_ne (by decide), wi_eq]
            have q23 : (am_wi (am_wi M1 57 d x2) 58 d 0).1 23 d = -1 := by rw [wi_ne (by decide), wi_ne (by decide), e, wi_eq]
            have q57 : (am_wi (am_wi M1 57 d x2) 58 d 0).1 57 d = x2 := by rw [wi_ne (by decide), wi_eq]
            rw [q22, q23, q57]
            rcases v3 with v3 | ⟨v3, v4⟩
            · have : x2 = -1 := Int32.toInt_inj.mp (by rw [v3]; decide)
              exact Or.inl ⟨this, this, rfl⟩
            · obtain ⟨p, hp, hp2, -⟩ := n_ofI v3
              exact Or.inr (Or.inl ⟨p, by omega, hp, hp, rfl⟩)
          · refine hS.at_ne hd h ?_ ?_ ?_ ?_ ?_ (fun i _ => by rw [F.2.2 25 (by decide)]) (fun i _ => by rw [F.2.2 59 (by decide)])
            · rw [wi_ne (by decide), wi_ne (by decide), e, wi_ne (by decide), wi_sl h]
            · rw [wi_ne (by decide), wi_ne (by decide), e, wi_sl h, wi_ne (by decide)]
            · rw [F.i 24]
            · rw [wi_ne (by decide), wi_sl h, e, wi_ne (by decide), wi_ne (by decide)]
            · rw [wi_sl h, wi_ne (by decide), e, wi_ne (by decide), wi_ne (by decide)]
      have K := k _ I2
      have b3' : M1.1 40 40 = nI bn := by rw [e, wi_ne (by decide), wi_ne (by decide)]; exact b3
      refine t_Md_keep ?_
      rw [n_cl (by omega), b3']
      ((try simp only [lg_cmp_lt, lg_cmp_gt]); simp (disch := omega) only [ept, n_vp, t_1, Int64.lt_iff_toInt_lt, Int32.toInt_toInt64, Int64.reduceToInt, ← Int32.toInt_inj, Int32.lt_iff_toInt_lt, Int32.le_iff_toInt_le, Int32.reduceToInt, nI_toInt, false_implies, true_implies, and_true, true_and, not_true_eq_false, not_false_eq_true, forall_const, implies_true, false_and, and_false, true_or, or_true, eq_self])
      repeat' (first | (with_reducible refine And.intro ?_ ?_) | (with_reducible intro h; first | (exfalso; omega) | contradiction | skip))
      all_goals first | exact K | (exfalso; omega) | omega
  · refine Jn.no (-1) hI0 (fun Q k => ?_) (fun Q k => ?_)
    · refine t_Mo_keep ?_
      ((try simp only [lg_cmp_lt, lg_cmp_gt]); simp (disch := omega) only [b2, e1, t_1, Int64.lt_iff_toInt_lt, Int32.toInt_toInt64, Int64.reduceToInt, ← Int32.toInt_inj, Int32.lt_iff_toInt_lt, Int32.le_iff_toInt_le, Int32.reduceToInt, nI_toInt, false_implies, true_implies, and_true, true_and, not_true_eq_false, not_false_eq_true, forall_const, implies_true, false_and, and_false, true_or, or_true, eq_self])
      repeat' (first | (with_reducible refine And.intro ?_ ?_) | (with_reducible intro h; first | (exfalso; omega) | contradiction | skip))
      all_goals first | exact k | (exfalso; omega)
    · refine t_Md_keep ?_
      ((try simp only [lg_cmp_lt, lg_cmp_gt]); simp (disch := omega) only [b3, ept, t_1, Int64.lt_iff_toInt_lt, Int32.toInt_toInt64, Int64.reduceToInt, ← Int32.toInt_inj, Int32.lt_iff_toInt_lt, Int32.le_iff_toInt_le, Int32.reduceToInt, nI_toInt, false_implies, true_implies, and_true, true_and, not_true_eq_false, not_false_eq_true, forall_const, implies_true, false_and, and_false, true_or, or_true, eq_self])
      repeat' (first | (with_reducible refine And.intro ?_ ?_) | (with_reducible intro h; first | (exfalso; omega) | contradiction | skip))
      all_goals first | exact k | (exfalso; omega)
end E1
