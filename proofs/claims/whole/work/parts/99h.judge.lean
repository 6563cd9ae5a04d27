section E32
variable {L : Nat} {xs : Nat → Int32} {d : Nat} {Q : AQ} {M M0 M1 M2 : AM} {n N k0 p e v w r q s0 m : Nat} {f g h : Nat → Nat → Nat} {io : Nat → Option Nat} {C G : Nat → Bool} {T : PV} {x1 x2 x3 : Int32} {row : Nat → Int64}
/-- the first stroke, from one on, that is not as told -/
def unl (T : PV) (n : Nat) (f : Nat → Nat → Nat) (C : Nat → Bool) (row : Nat → Int64) : Nat → Nat → Option Nat
  | 0, _ => none
  | j + 1, s => if Int32.toInt64 (oM (pck T f s 5 n (wtg n f s C (dgo T n f C noG 5 s)))) = row s then unl T n f C row j (s + 1) else some s
theorem unl_b : ∀ j s x, unl T n f C row j s = some x → s ≤ x ∧ x < s + j
  | 0, s, x, h => by cases h
  | j + 1, s, x, h => by
    unfold unl at h
    split at h
    · have := unl_b j (s + 1) x h; omega
    · cases h; omega
theorem dgo_s {C : Nat → Bool} {s : Nat} : dgo T n f C noG 5 (s + 1) = upo (dgo T n f C noG 5 s) (pck T f s 5 n (wtg n f s C (dgo T n f C noG 5 s))) s := by
  rw [show dgo T n f C noG 5 (s + 1) = dst T n f C noG 5 s (dgo T n f C noG 5 s) from rfl, dst_noG]
theorem dlg_s {C : Nat → Bool} {s : Nat} : dlg T n f C noG 5 (s + 1) = max (dlg T n f C noG 5 s) (cnt (wtg n f s C (dgo T n f C noG 5 s)) n) := by
  rw [dlg, noG_w]
theorem s_cell0 {j : Nat} {v : Int64} (hd : 4 ≤ d) (h0 : s0 < 6) (h23 : M.1 23 s0 = nI 0) (h24 : M.1 24 s0 = nI k0) (hk : k0 ≤ 60) (hj : j < k0) (hr : M.2 25 (60 * s0 + j) = v) (kk : Q (some (.long v)) M) : am_Call (gG L xs) d c_Shelves_cell [.ref 21, .int (nI s0), .int (nI j)] M Q := by
  obtain ⟨d, rfl⟩ : ∃ a, d = a + 1 := ⟨d - 1, by omega⟩
  have ej : (nI j).toInt = (j : Int) := nI_toInt (by omega)
  have e60 : nI s0 * 60 + nI j = nI (s0 * 60 + j) := by
    rw [show nI s0 * 60 = nI (s0 * 60) from n_mul s0 60, nI_add]
  refine t_Shelves_cell (s_isPlace (by omega) h0 h23 h24 (by decide) hk (u_Shelves_cell_6 ⟨fun z => ?_, fun _ => ?_⟩))
  · rw [decide_eq_true (by omega)] at z
    exact absurd z (by decide)
  · rw [e60, n_cl (show s0 * 60 + j < 2 ^ 31 by omega), Nat.mul_comm s0 60, hr]
    exact ⟨(n_vp (by omega)).mpr (by omega), kk⟩
theorem x_unlike (hd : 9 ≤ d) (hx : xS n f T M) (hg : okP n g) (hX : dayX n g C nob M) (hlg : M.1 15 6 = nI 0) (h0 : s0 < 6) (hm : m ≤ 60) (h23 : M.1 23 s0 = nI 0) (h24 : M.1 24 s0 = nI m) (hrow : ∀ i, i < m → M.2 25 (60 * s0 + i) = row i) (kk : ∀ M', fr qK M M' → xS n f T M' → cwG n g M' → Q (some (.int (oI (unl T n g C row m 0)))) M') : am_Call (gG L xs) d c_Seen_goesOnUnlike [.ref 26, .int (nI s0)] M Q := by
  obtain ⟨d, rfl⟩ : ∃ a, d = a + 3 := ⟨d - 3, by omega⟩
  have hn := hx.2.2.2
  have loop : ∀ j s (M1 : AM), s + j = m → fr qK M M1 → xS n f T M1 → dayX n g C (dgo T n g C noG 5 s) M1 → M1.1 15 6 = nI (dlg T n g C noG 5 s) → unl T n g C row j s = unl T n g C row m 0 → v_Seen_goesOnUnlike L xs (d + 2) Q 11 [(0, .ref 26), (1, .int (nI s0)), (2, .int (nI m)), (3, .int (nI s))] [] M1 := by
    intro j
    induction j with
    | zero =>
      intro s M1 hs F s1 g1 l1 hu
      have : s = m := by omega
      subst this
      have K := kk M1 F s1 ⟨g1.cr, g1.cc⟩
      rw [← hu] at K
      exact u_Seen_goesOnUnlike_11 ⟨fun _ => K, fun z => absurd (nI_le (Nat.le_refl _) (by omega)) z⟩
    | succ j ih =>
      intro s M1 hs F s1 g1 l1 hu
      have hl := dlg_le (T := T) (N := n) (f := g) (C := C) (G := noG) (pl := 5) s
      refine u_Seen_goesOnUnlike_11 ⟨fun z => absurd ((n_leI (by omega) (by omega)).mp z) (by omega), fun _ => t_Day_passes ?_⟩
      rw [g1.2.2.1]
      refine s_opens (T := T) (C := C) (io := dgo T n g C noG 5 s) (pl := 5) (by omega) g1 hg s1.2.1 (by omega) (by decide) (fun p hp => ?_) l1 (by omega) (fun M2 f2 x2 e5 e6 => u_Day_passes_10 ?_)
      · simp only [Bool.and_eq_true, Option.isNone_iff_eq_none] at hp; exact hp
      · have hW : (fun p => thrN n g s p && (C p && (dgo T n g C noG 5 s p).isNone)) = wtg n g s C (dgo T n g C noG 5 s) := rfl
        rw [hW] at x2 e5 e6 ⊢
        rw [← dgo_s] at x2
        rw [← dlg_s] at e6
        have F2 : fr qK M M2 := F.q f2
        refine u_Seen_goesOnUnlike_24 (s_cell0 (v := row s) (by omega) h0 (by rw [F2.i 23]; exact h23) (by rw [F2.i 24]; exact h24) hm (by omega) (by rw [F2.l 25]; exact hrow s (by omega)) (u_Seen_goesOnUnlike_34 ⟨fun z => ?_, fun z => ?_⟩))
        · rw [lg_cmp_eq] at z
          rw [nI_1]
          refine ih (s + 1) M2 (by omega) F2 (s1.keep (fr.rf.q f2)) x2 e6 ?_
          rw [← hu, unl, if_pos z]
        · rw [lg_cmp_eq] at z
          have K := kk M2 F2 (s1.keep (fr.rf.q f2)) ⟨x2.cr, x2.cc⟩
          rw [← hu, unl, if_neg z] at K
          exact K
  have e1 : ¬ nI 0 = (-1 : Int32) := by decide
  refine t_Seen_goesOnUnlike ⟨fun z => absurd z (nI_pos (by omega)), fun _ => ⟨fun z => absurd ((n_leI (a := 6) (by decide) (by omega)).mp z) (by omega), fun _ => ⟨(n_vp (by omega)).mpr (by omega), ?_⟩⟩⟩
  rw [n_cl (show s0 < 2 ^ 31 by omega), h23, h24]
  exact ⟨fun z => absurd z e1, fun _ => loop m 0 M (by omega) fr.rf hx hX hlg rfl⟩
theorem m_unlike (hd : 73 ≤ d) (hr : rS n f T M) (hX : dayM n 0 f C noG nob M) (h28 : M.1 40 28 = nI 0) (h0 : s0 < 6) (hm : m ≤ 60) (h58 : M.1 58 s0 = nI m) (hrow : ∀ i, i < m → M.2 59 (60 * s0 + i) = row i) (kk : ∀ M', fs yK eJ M M' → rS n f T M' → Q (some (.int (oI (unl T n f C row m 0)))) M') : am_Call (gG L xs) d c_Md_firstFalse [.ref 40, .int (nI s0)] M Q := by
  obtain ⟨d, rfl⟩ : ∃ a, d = a + 1 := ⟨d - 1, by omega⟩
  have hn := hr.2.2.2.2.2
  have loop : ∀ j s (M1 : AM), s + j = m → fs yK eJ M M1 → rS n f T M1 → dayM n 0 f C noG (dgo T n f C noG 5 s) M1 → M1.1 40 28 = nI (dlg T n f C noG 5 s) → unl T n f C row j s = unl T n f C row m 0 → v_Md_firstFalse L xs d Q 2 [(0, .ref 40), (1, .int (nI s0)), (2, .int (nI s))] [] M1 := by
    intro j
    induction j with
    | zero =>
      intro s M1 hs F s1 g1 l1 hu
      have : s = m := by omega
      subst this
      have K := kk M1 F s1
      rw [← hu] at K
      refine u_Md_firstFalse_2 ⟨(n_vp (by omega)).mpr (by omega), ?_⟩
      rw [n_cl (show s0 < 2 ^ 31 by omega), F.i 58, h58]
      exact ⟨fun _ => K, fun z => absurd (nI_le (Nat.le_refl _) (by omega)) z⟩
    | succ j ih =>
      intro s M1 hs F s1 g1 l1 hu
      have hl := dlg_le (T := T) (N := n) (f := f) (C := C) (G := noG) (pl := 5) s
      refine u_Md_firstFalse_2 ⟨(n_vp (by omega)).mpr (by omega), ?_⟩
      rw [n_cl (show s0 < 2 ^ 31 by omega), F.i 58, h58]
      refine ⟨fun z => absurd ((n_leI (by omega) (by omega)).mp z) (by omega), fun _ => ?_⟩
      refine m_strokes (T := T) (pl := 5) (by omega) g1 s1.2.2.2.2.1 s1.2.2.1 (by omega) (dgo_ioB (by omega)) (by decide) s1.2.2.2.1 l1 (by omega) (fun M2 f2 x2 e2 => ?_)
      rw [show n + 0 = n from rfl, noG_w] at e2 ⊢
      rw [← dlg_s] at e2
      have F2 : fs yK eJ M M2 := F.e f2
      have s2 := s1.keep (f2.to (by decide) (by decide))
      have e60 : (60 : Int32) * nI s0 + nI s = nI (60 * s0 + s) := by
        rw [show (60 : Int32) * nI s0 = nI (60 * s0) from n_mul 60 s0, nI_add]
      refine u_Md_firstFalse_17 ?_
      rw [e60, n_cl (show 60 * s0 + s < 2 ^ 31 by omega), F2.2.2 59 (by decide), hrow s (by omega), lg_cmp_eq, lg_cmp_eq, nI_1]
      refine ⟨(n_vp (by omega)).mpr (by omega), ?_⟩
      have yes : row s = Int32.toInt64 (oM (pck T f s 5 n (wtg n f s C (dgo T n f C noG 5 s)))) → v_Md_firstFalse L xs d Q 2 [(0, .ref 40), (1, .int (nI s0)), (2, .int (nI (s + 1)))] [] M2 := fun z => by
        refine ih (s + 1) M2 (by omega) F2 s2 x2 e2 ?_
        rw [← hu, unl, if_pos z.symm]
      have no : ¬ row s = Int32.toInt64 (oM (pck T f s 5 n (wtg n f s C (dgo T n f C noG 5 s)))) → Q (some (.int (nI s))) M2 := fun z => by
        have K := kk M2 F2 s2
        rw [← hu, unl, if_neg (fun y => z y.symm)] at K
        exact K
      cases z : pck T f s 5 n (wtg n f s C (dgo T n f C noG 5 s)) with
      | none =>
        rw [z] at yes no
        exact ⟨fun y => absurd y (by decide), fun _ => ⟨yes, no⟩⟩
      | some a =>
        rw [z] at yes no
        have ha := (pck_some z).1
        exact ⟨fun _ => ⟨yes, no⟩, fun y => absurd (nI_pos' (by omega)) y⟩
  exact t_Md_firstFalse (loop m 0 M (by omega) fs.rf hr hX h28 rfl)
theorem j_judge (hI : Inv M) (hd : 100 ≤ d) : Jn L xs d c_Mo_judge c_Md_judge [.ref 0, .int x1] [.ref 40, .int x1] M := by
  have hI0 := hI
  obtain ⟨n, f, T, bn, hP, hL, hT, hC, hD, hA, hS, h23⟩ := hI
  have hx : xS n f T M := ⟨hP.1, hL.1, hP.2.2.2.1, hP.2.2.1⟩
  have hr : rS n f T M := ⟨hP.2.2.2.2.1, hP.2.2.2.2.2, hL.2, h23, hP.2.2.2.1, hP.2.2.1⟩
  obtain ⟨d, rfl⟩ : ∃ a, d = a + 9 := ⟨d - 9, by omega⟩
  have hbn := hA.1
  by_cases hv : 0 ≤ x1.toInt ∧ x1.toInt < 6
  · obtain ⟨v1, v2⟩ := hv
    obtain ⟨s0, rfl, hk, -⟩ := n_ofI v1
    have hs0 : s0 < 6 := by omega
    have ts : (nI s0).toInt = (s0 : Int) := nI_toInt (by omega)
    have g5 : ¬ 0 < lg_cmp (Int32.toInt64 (nI s0)) 5 := fun z => by
      ((try simp only [lg_cmp_lt, lg_cmp_gt] at z); simp (disch := omega) only [ts, Int64.lt_iff_toInt_lt, Int32.toInt_toInt64, Int64.reduceToInt, ← Int32.toInt_inj, Int32.lt_iff_toInt_lt, Int32.le_iff_toInt_le, Int32.reduceToInt, nI_toInt, false_implies, true_implies, and_true, true_and, not_true_eq_false, not_false_eq_true, forall_const, implies_true, false_and, and_false, true_or, or_true, eq_self] at z)
      omega
    rcases hS s0 hs0 with ⟨e57, e22, e23⟩ | ⟨b, hb, e57, e22, e23⟩ | ⟨s, k0, hs, hk0, e57, e22, e23, e24, e58, hrow⟩
    · refine Jn.no (-11) hI0 (fun Q k => t_Mo_judge ⟨fun z => absurd z (nI_pos (by omega)), fun _ => ⟨fun z => absurd ((n_leI (a := 6) (by decide) (by omega)).mp z) (by omega), fun _ => ⟨(n_vp (by omega)).mpr (by omega), ?_⟩⟩⟩) (fun Q k => t_Md_judge ⟨fun z => absurd z (g_nn (by omega)), fun _ => ⟨fun z => absurd z g5, fun _ => ⟨Or.inr rfl, (n_vp (by omega)).mpr (by omega), ?_⟩⟩⟩)
      · rw [n_cl (show s0 < 2 ^ 31 by omega), e22, e23]
        exact ⟨fun z => absurd rfl z, fun _ => ⟨fun z => absurd rfl z, fun _ => k⟩⟩
      · rw [n_cl (show s0 < 2 ^ 31 by omega), e57]
        exact ⟨fun z => absurd z (by decide), fun _ => k⟩
    · have n1 : ¬ nI b = -1 := fun z => absurd (show nI b < 0 by rw [z]; decide) (nI_pos (by omega))
      refine Jn.no (-12) hI0 (fun Q k => t_Mo_judge ⟨fun z => absurd z (nI_pos (by omega)), fun _ => ⟨fun z => absurd ((n_leI (a := 6) (by decide) (by omega)).mp z) (by omega), fun _ => ⟨(n_vp (by omega)).mpr (by omega), ?_⟩⟩⟩) (fun Q k => t_Md_judge ⟨fun z => absurd z (g_nn (by omega)), fun _ => ⟨fun z => absurd z g5, fun _ => ⟨Or.inr rfl, (n_vp (by omega)).mpr (by omega), ?_⟩⟩⟩)
      · rw [n_cl (show s0 < 2 ^ 31 by omega), e22, e23]
        exact ⟨fun _ => ⟨fun _ => k, fun z => absurd z (by decide)⟩, fun z => absurd z n1⟩
      · rw [n_cl (show s0 < 2 ^ 31 by omega), e57]
        exact ⟨fun _ => ⟨fun _ => k, fun z => absurd ((nI_eq (b := 50) (by omega) (by decide)).mp z) (by omega)⟩, fun z => absurd (nI_pos' (by omega)) z⟩
    · have n1 : ¬ nI s = -1 := fun z => absurd (show nI s < 0 by rw [z]; decide) (nI_pos (by omega))
      by_cases hs1 : s = 0
      · subst hs1
        refine Jn.of2 (v := oI (unl T n f (ein n) (fun i => M.2 59 (60 * s0 + i)) k0 0)) (P := fr qK M) (fun Q k => t_Mo_judge ⟨fun z => absurd z (nI_pos (by omega)), fun _ => ⟨fun z => absurd ((n_leI (a := 6) (by decide) (by omega)).mp z) (by omega), fun _ => ⟨(n_vp (by omega)).mpr (by omega), ?_⟩⟩⟩) (fun M1 F Q k => t_Md_judge ⟨fun z => absurd z (g_nn (by omega)), fun _ => ⟨fun z => absurd z g5, fun _ => ⟨Or.inr rfl, (n_vp (by omega)).mpr (by omega), ?_⟩⟩⟩)
        · rw [n_cl (show s0 < 2 ^ 31 by omega), e22, e23]
          refine ⟨fun z => absurd rfl z, fun _ => ⟨fun _ => ⟨fun z => absurd rfl z, fun _ => ?_⟩, fun z => absurd z n1⟩⟩
          refine t_Seen_firstUnlike (x_bg (by omega) hx (fun M1 f1 s1 g1 l1 => u_Seen_firstUnlike_11 ?_))
          exact x_unlike (row := fun i => M.2 59 (60 * s0 + i)) (by omega) s1 hx.2.2.1 g1 l1 hs0 hk0 (by rw [f1.i 23]; exact e23) (by rw [f1.i 24]; exact e24) (fun i hi => by rw [f1.l 25]; exact (hrow i hi).1) (fun M2 f2 _ _ => u_Seen_firstUnlike_16 (u_Mo_judge_20 (k _ (f1.q f2 (fun _ h => h)))))
        · have s1 := hr.x F
          rw [n_cl (show s0 < 2 ^ 31 by omega), F.i 57, e57]
          refine ⟨fun _ => ⟨fun z => absurd rfl z, fun _ => ?_⟩, fun z => absurd (nI_pos' (by omega)) z⟩
          refine m_bg (by omega) s1 (fun M2 f2 s2 g2 l2 => u_Md_judge_18 ?_)
          exact m_unlike (row := fun i => M.2 59 (60 * s0 + i)) (by omega) s2 g2 l2 hs0 hk0 (by rw [f2.i 58, F.i 58]; exact e58) (fun i hi => by rw [f2.2.2 59 (by decide), F.l 59]) (fun M3 f3 s3 => u_Md_judge_23 (k _ (hI0.q2 F (f2.tt f3))))
      · have ns : ¬ nI s = 0 := fun z => hs1 ((nI_eq (b := 0) (by omega) (by decide)).mp z)
        refine Jn.no (-12) hI0 (fun Q k => t_Mo_judge ⟨fun z => absurd z (nI_pos (by omega)), fun _ => ⟨fun z => absurd ((n_leI (a := 6) (by decide) (by omega)).mp z) (by omega), fun _ => ⟨(n_vp (by omega)).mpr (by omega), ?_⟩⟩⟩) (fun Q k => t_Md_judge ⟨fun z => absurd z (g_nn (by omega)), fun _ => ⟨fun z => absurd z g5, fun _ => ⟨Or.inr rfl, (n_vp (by omega)).mpr (by omega), ?_⟩⟩⟩)
        · rw [n_cl (show s0 < 2 ^ 31 by omega), e22, e23]
          exact ⟨fun z => absurd rfl z, fun _ => ⟨fun _ => ⟨fun _ => k, fun z => absurd z ns⟩, fun z => absurd z n1⟩⟩
        · rw [n_cl (show s0 < 2 ^ 31 by omega), e57]
          exact ⟨fun _ => ⟨fun _ => k, fun z => absurd ((nI_eq (b := 50) (by omega) (by decide)).mp z) (by omega)⟩, fun z => absurd (nI_pos' (by omega)) z⟩
  · refine Jn.no (-1) hI0 (fun Q k => ?_) (fun Q k => ?_)
    · refine t_Mo_judge ?_
      ((try simp only [lg_cmp_lt, lg_cmp_gt]); simp (disch := omega) only [Int64.lt_iff_toInt_lt, Int32.toInt_toInt64, Int64.reduceToInt, ← Int32.toInt_inj, Int32.lt_iff_toInt_lt, Int32.le_iff_toInt_le, Int32.reduceToInt, nI_toInt, false_implies, true_implies, and_true, true_and, not_true_eq_false, not_false_eq_true, forall_const, implies_true, false_and, and_false, true_or, or_true, eq_self])
      repeat' (first | (with_reducible refine And.intro ?_ ?_) | (with_reducible intro h; first | (exfalso; omega) | contradiction | skip))
      all_goals first | exact k | (exfalso; omega)
    · refine t_Md_judge ?_
      ((try simp only [lg_cmp_lt, lg_cmp_gt]); simp (disch := omega) only [Int64.lt_iff_toInt_lt, Int32.toInt_toInt64, Int64.reduceToInt, ← Int32.toInt_inj, Int32.lt_iff_toInt_lt, Int32.le_iff_toInt_le, Int32.reduceToInt, nI_toInt, false_implies, true_implies, and_true, true_and, not_true_eq_false, not_false_eq_true, forall_const, implies_true, false_and, and_false, true_or, or_true, eq_self])
      repeat' (first | (with_reducible refine And.intro ?_ ?_) | (with_reducible intro h; first | (exfalso; omega) | contradiction | skip))
      all_goals first | exact k | (exfalso; omega)
end E32
