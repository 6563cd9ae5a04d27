section E21
variable {L : Nat} {xs : Nat → Int32} {d : Nat} {Q : AQ} {M M0 M1 M2 : AM} {x x1 x2 x3 x4 x5 x6 x7 x8 : Int32} {a b c h k n bn s s0 s1 k0 k1 i j m : Nat}
theorem j_shift (hI : Inv M) (hd : 100 ≤ d) : Jn L xs d c_Mo_shift c_Md_shift [.ref 0, .int x1, .int x2, .int x3, .int x4, .int x5] [.ref 40, .int x1, .int x2, .int x3, .int x4, .int x5] M := by
  have hI0 := hI
  obtain ⟨n, f, T, bn, hP, hL, hT, hC, hD, hA, hS, h23⟩ := hI
  obtain ⟨d, rfl⟩ : ∃ a, d = a + 9 := ⟨d - 9, by omega⟩
  have hbn := hA.1
  by_cases hv : 0 ≤ x1.toInt ∧ x1.toInt < 6 ∧ 0 ≤ x3.toInt ∧ x3.toInt < 6
  · obtain ⟨v1, v2, v3, v4⟩ := hv
    obtain ⟨s0, rfl, hs, -⟩ := n_ofI v1
    obtain ⟨s1, rfl, hs', -⟩ := n_ofI v3
    have hs0 : s0 < 6 := by omega
    have hs1 : s1 < 6 := by omega
    rcases hS s0 hs0 with ⟨ae57, ae22, ae23⟩ | ⟨ab, ahb, ae57, ae22, ae23⟩ | ⟨as, ak0, ahs, ahk0, ae57, ae22, ae23, ae24, ae58, ahrow⟩ <;> rcases hS s1 hs1 with ⟨ce57, ce22, ce23⟩ | ⟨cb, chb, ce57, ce22, ce23⟩ | ⟨cs, ck0, chs, chk0, ce57, ce22, ce23, ce24, ce58, chrow⟩
    · refine Jn.no (-11) hI0 (fun Q k => ?_) (fun Q k => ?_)
      · refine t_Mo_shift ?_
        rw [n_cl (show s0 < 2 ^ 31 by omega), n_cl (show s1 < 2 ^ 31 by omega), ae22, ae23, ce22, ce23]
        ((try simp only [lg_cmp_lt, lg_cmp_gt]); simp (disch := omega) only [n_vp, t_1, Int64.lt_iff_toInt_lt, Int32.toInt_toInt64, Int64.reduceToInt, ← Int32.toInt_inj, Int32.lt_iff_toInt_lt, Int32.le_iff_toInt_le, Int32.reduceToInt, nI_toInt, false_implies, true_implies, and_true, true_and, not_true_eq_false, not_false_eq_true, forall_const, implies_true, false_and, and_false, true_or, or_true, eq_self])
        repeat' (first | (with_reducible refine And.intro ?_ ?_) | (with_reducible intro h; first | (exfalso; omega) | contradiction | skip))
        all_goals first | exact k | (exfalso; omega) | omega
      · refine t_Md_shift ?_
        rw [n_cl (show s0 < 2 ^ 31 by omega), n_cl (show s1 < 2 ^ 31 by omega), ae57, ce57]
        ((try simp only [lg_cmp_lt, lg_cmp_gt]); simp (disch := omega) only [n_vp, t_1, Int64.lt_iff_toInt_lt, Int32.toInt_toInt64, Int64.reduceToInt, ← Int32.toInt_inj, Int32.lt_iff_toInt_lt, Int32.le_iff_toInt_le, Int32.reduceToInt, nI_toInt, false_implies, true_implies, and_true, true_and, not_true_eq_false, not_false_eq_true, forall_const, implies_true, false_and, and_false, true_or, or_true, eq_self])
        repeat' (first | (with_reducible refine And.intro ?_ ?_) | (with_reducible intro h; first | (exfalso; omega) | contradiction | skip))
        all_goals first | exact k | (exfalso; omega) | omega
    · refine Jn.no (-11) hI0 (fun Q k => ?_) (fun Q k => ?_)
      · refine t_Mo_shift ?_
        rw [n_cl (show s0 < 2 ^ 31 by omega), n_cl (show s1 < 2 ^ 31 by omega), ae22, ae23, ce22, ce23]
        ((try simp only [lg_cmp_lt, lg_cmp_gt]); simp (disch := omega) only [n_vp, t_1, Int64.lt_iff_toInt_lt, Int32.toInt_toInt64, Int64.reduceToInt, ← Int32.toInt_inj, Int32.lt_iff_toInt_lt, Int32.le_iff_toInt_le, Int32.reduceToInt, nI_toInt, false_implies, true_implies, and_true, true_and, not_true_eq_false, not_false_eq_true, forall_const, implies_true, false_and, and_false, true_or, or_true, eq_self])
        repeat' (first | (with_reducible refine And.intro ?_ ?_) | (with_reducible intro h; first | (exfalso; omega) | contradiction | skip))
        all_goals first | exact k | (exfalso; omega) | omega
      · refine t_Md_shift ?_
        rw [n_cl (show s0 < 2 ^ 31 by omega), n_cl (show s1 < 2 ^ 31 by omega), ae57, ce57]
        ((try simp only [lg_cmp_lt, lg_cmp_gt]); simp (disch := omega) only [n_vp, t_1, Int64.lt_iff_toInt_lt, Int32.toInt_toInt64, Int64.reduceToInt, ← Int32.toInt_inj, Int32.lt_iff_toInt_lt, Int32.le_iff_toInt_le, Int32.reduceToInt, nI_toInt, false_implies, true_implies, and_true, true_and, not_true_eq_false, not_false_eq_true, forall_const, implies_true, false_and, and_false, true_or, or_true, eq_self])
        repeat' (first | (with_reducible refine And.intro ?_ ?_) | (with_reducible intro h; first | (exfalso; omega) | contradiction | skip))
        all_goals first | exact k | (exfalso; omega) | omega
    · refine Jn.no (-11) hI0 (fun Q k => ?_) (fun Q k => ?_)
      · refine t_Mo_shift ?_
        rw [n_cl (show s0 < 2 ^ 31 by omega), n_cl (show s1 < 2 ^ 31 by omega), ae22, ae23, ce22, ce23]
        ((try simp only [lg_cmp_lt, lg_cmp_gt]); simp (disch := omega) only [n_vp, t_1, Int64.lt_iff_toInt_lt, Int32.toInt_toInt64, Int64.reduceToInt, ← Int32.toInt_inj, Int32.lt_iff_toInt_lt, Int32.le_iff_toInt_le, Int32.reduceToInt, nI_toInt, false_implies, true_implies, and_true, true_and, not_true_eq_false, not_false_eq_true, forall_const, implies_true, false_and, and_false, true_or, or_true, eq_self])
        repeat' (first | (with_reducible refine And.intro ?_ ?_) | (with_reducible intro h; first | (exfalso; omega) | contradiction | skip))
        all_goals first | exact k | (exfalso; omega) | omega
      · refine t_Md_shift ?_
        rw [n_cl (show s0 < 2 ^ 31 by omega), n_cl (show s1 < 2 ^ 31 by omega), ae57, ce57]
        ((try simp only [lg_cmp_lt, lg_cmp_gt]); simp (disch := omega) only [n_vp, t_1, Int64.lt_iff_toInt_lt, Int32.toInt_toInt64, Int64.reduceToInt, ← Int32.toInt_inj, Int32.lt_iff_toInt_lt, Int32.le_iff_toInt_le, Int32.reduceToInt, nI_toInt, false_implies, true_implies, and_true, true_and, not_true_eq_false, not_false_eq_true, forall_const, implies_true, false_and, and_false, true_or, or_true, eq_self])
        repeat' (first | (with_reducible refine And.intro ?_ ?_) | (with_reducible intro h; first | (exfalso; omega) | contradiction | skip))
        all_goals first | exact k | (exfalso; omega) | omega
    · refine Jn.no (-11) hI0 (fun Q k => ?_) (fun Q k => ?_)
      · refine t_Mo_shift ?_
        rw [n_cl (show s0 < 2 ^ 31 by omega), n_cl (show s1 < 2 ^ 31 by omega), ae22, ae23, ce22, ce23]
        ((try simp only [lg_cmp_lt, lg_cmp_gt]); simp (disch := omega) only [n_vp, t_1, Int64.lt_iff_toInt_lt, Int32.toInt_toInt64, Int64.reduceToInt, ← Int32.toInt_inj, Int32.lt_iff_toInt_lt, Int32.le_iff_toInt_le, Int32.reduceToInt, nI_toInt, false_implies, true_implies, and_true, true_and, not_true_eq_false, not_false_eq_true, forall_const, implies_true, false_and, and_false, true_or, or_true, eq_self])
        repeat' (first | (with_reducible refine And.intro ?_ ?_) | (with_reducible intro h; first | (exfalso; omega) | contradiction | skip))
        all_goals first | exact k | (exfalso; omega) | omega
      · refine t_Md_shift ?_
        rw [n_cl (show s0 < 2 ^ 31 by omega), n_cl (show s1 < 2 ^ 31 by omega), ae57, ce57]
        ((try simp only [lg_cmp_lt, lg_cmp_gt]); simp (disch := omega) only [n_vp, t_1, Int64.lt_iff_toInt_lt, Int32.toInt_toInt64, Int64.reduceToInt, ← Int32.toInt_inj, Int32.lt_iff_toInt_lt, Int32.le_iff_toInt_le, Int32.reduceToInt, nI_toInt, false_implies, true_implies, and_true, true_and, not_true_eq_false, not_false_eq_true, forall_const, implies_true, false_and, and_false, true_or, or_true, eq_self])
        repeat' (first | (with_reducible refine And.intro ?_ ?_) | (with_reducible intro h; first | (exfalso; omega) | contradiction | skip))
        all_goals first | exact k | (exfalso; omega) | omega
    · refine Jn.no (-12) hI0 (fun Q k => ?_) (fun Q k => ?_)
      · refine t_Mo_shift ?_
        rw [n_cl (show s0 < 2 ^ 31 by omega), n_cl (show s1 < 2 ^ 31 by omega), ae22, ae23, ce22, ce23]
        ((try simp only [lg_cmp_lt, lg_cmp_gt]); simp (disch := omega) only [n_vp, t_1, Int64.lt_iff_toInt_lt, Int32.toInt_toInt64, Int64.reduceToInt, ← Int32.toInt_inj, Int32.lt_iff_toInt_lt, Int32.le_iff_toInt_le, Int32.reduceToInt, nI_toInt, false_implies, true_implies, and_true, true_and, not_true_eq_false, not_false_eq_true, forall_const, implies_true, false_and, and_false, true_or, or_true, eq_self])
        repeat' (first | (with_reducible refine And.intro ?_ ?_) | (with_reducible intro h; first | (exfalso; omega) | contradiction | skip))
        all_goals first | exact k | (exfalso; omega) | omega
      · refine t_Md_shift ?_
        rw [n_cl (show s0 < 2 ^ 31 by omega), n_cl (show s1 < 2 ^ 31 by omega), ae57, ce57]
        ((try simp only [lg_cmp_lt, lg_cmp_gt]); simp (disch := omega) only [n_vp, t_1, Int64.lt_iff_toInt_lt, Int32.toInt_toInt64, Int64.reduceToInt, ← Int32.toInt_inj, Int32.lt_iff_toInt_lt, Int32.le_iff_toInt_le, Int32.reduceToInt, nI_toInt, false_implies, true_implies, and_true, true_and, not_true_eq_false, not_false_eq_true, forall_const, implies_true, false_and, and_false, true_or, or_true, eq_self])
        repeat' (first | (with_reducible refine And.intro ?_ ?_) | (with_reducible intro h; first | (exfalso; omega) | contradiction | skip))
        all_goals first | exact k | (exfalso; omega) | omega
    · refine Jn.no (-12) hI0 (fun Q k => ?_) (fun Q k => ?_)
      · refine t_Mo_shift ?_
        rw [n_cl (show s0 < 2 ^ 31 by omega), n_cl (show s1 < 2 ^ 31 by omega), ae22, ae23, ce22, ce23]
        ((try simp only [lg_cmp_lt, lg_cmp_gt]); simp (disch := omega) only [n_vp, t_1, Int64.lt_iff_toInt_lt, Int32.toInt_toInt64, Int64.reduceToInt, ← Int32.toInt_inj, Int32.lt_iff_toInt_lt, Int32.le_iff_toInt_le, Int32.reduceToInt, nI_toInt, false_implies, true_implies, and_true, true_and, not_true_eq_false, not_false_eq_true, forall_const, implies_true, false_and, and_false, true_or, or_true, eq_self])
        repeat' (first | (with_reducible refine And.intro ?_ ?_) | (with_reducible intro h; first | (exfalso; omega) | contradiction | skip))
        all_goals first | exact k | (exfalso; omega) | omega
      · refine t_Md_shift ?_
        rw [n_cl (show s0 < 2 ^ 31 by omega), n_cl (show s1 < 2 ^ 31 by omega), ae57, ce57]
        ((try simp only [lg_cmp_lt, lg_cmp_gt]); simp (disch := omega) only [n_vp, t_1, Int64.lt_iff_toInt_lt, Int32.toInt_toInt64, Int64.reduceToInt, ← Int32.toInt_inj, Int32.lt_iff_toInt_lt, Int32.le_iff_toInt_le, Int32.reduceToInt, nI_toInt, false_implies, true_implies, and_true, true_and, not_true_eq_false, not_false_eq_true, forall_const, implies_true, false_and, and_false, true_or, or_true, eq_self])
        repeat' (first | (with_reducible refine And.intro ?_ ?_) | (with_reducible intro h; first | (exfalso; omega) | contradiction | skip))
        all_goals first | exact k | (exfalso; omega) | omega
    · refine Jn.no (-11) hI0 (fun Q k => ?_) (fun Q k => ?_)
      · refine t_Mo_shift ?_
        rw [n_cl (show s0 < 2 ^ 31 by omega), n_cl (show s1 < 2 ^ 31 by omega), ae22, ae23, ce22, ce23]
        ((try simp only [lg_cmp_lt, lg_cmp_gt]); simp (disch := omega) only [n_vp, t_1, Int64.lt_iff_toInt_lt, Int32.toInt_toInt64, Int64.reduceToInt, ← Int32.toInt_inj, Int32.lt_iff_toInt_lt, Int32.le_iff_toInt_le, Int32.reduceToInt, nI_toInt, false_implies, true_implies, and_true, true_and, not_true_eq_false, not_false_eq_true, forall_const, implies_true, false_and, and_false, true_or, or_true, eq_self])
        repeat' (first | (with_reducible refine And.intro ?_ ?_) | (with_reducible intro h; first | (exfalso; omega) | contradiction | skip))
        all_goals first | exact k | (exfalso; omega) | omega
      · refine t_Md_shift ?_
        rw [n_cl (show s0 < 2 ^ 31 by omega), n_cl (show s1 < 2 ^ 31 by omega), ae57, ce57]
        ((try simp only [lg_cmp_lt, lg_cmp_gt]); simp (disch := omega) only [n_vp, t_1, Int64.lt_iff_toInt_lt, Int32.toInt_toInt64, Int64.reduceToInt, ← Int32.toInt_inj, Int32.lt_iff_toInt_lt, Int32.le_iff_toInt_le, Int32.reduceToInt, nI_toInt, false_implies, true_implies, and_true, true_and, not_true_eq_false, not_false_eq_true, forall_const, implies_true, false_and, and_false, true_or, or_true, eq_self])
        repeat' (first | (with_reducible refine And.intro ?_ ?_) | (with_reducible intro h; first | (exfalso; omega) | contradiction | skip))
        all_goals first | exact k | (exfalso; omega) | omega
    · refine Jn.no (-12) hI0 (fun Q k => ?_) (fun Q k => ?_)
      · refine t_Mo_shift ?_
        rw [n_cl (show s0 < 2 ^ 31 by omega), n_cl (show s1 < 2 ^ 31 by omega), ae22, ae23, ce22, ce23]
        ((try simp only [lg_cmp_lt, lg_cmp_gt]); simp (disch := omega) only [n_vp, t_1, Int64.lt_iff_toInt_lt, Int32.toInt_toInt64, Int64.reduceToInt, ← Int32.toInt_inj, Int32.lt_iff_toInt_lt, Int32.le_iff_toInt_le, Int32.reduceToInt, nI_toInt, false_implies, true_implies, and_true, true_and, not_true_eq_false, not_false_eq_true, forall_const, implies_true, false_and, and_false, true_or, or_true, eq_self])
        repeat' (first | (with_reducible refine And.intro ?_ ?_) | (with_reducible intro h; first | (exfalso; omega) | contradiction | skip))
        all_goals first | exact k | (exfalso; omega) | omega
      · refine t_Md_shift ?_
        rw [n_cl (show s0 < 2 ^ 31 by omega), n_cl (show s1 < 2 ^ 31 by omega), ae57, ce57]
        ((try simp only [lg_cmp_lt, lg_cmp_gt]); simp (disch := omega) only [n_vp, t_1, Int64.lt_iff_toInt_lt, Int32.toInt_toInt64, Int64.reduceToInt, ← Int32.toInt_inj, Int32.lt_iff_toInt_lt, Int32.le_iff_toInt_le, Int32.reduceToInt, nI_toInt, false_implies, true_implies, and_true, true_and, not_true_eq_false, not_false_eq_true, forall_const, implies_true, false_and, and_false, true_or, or_true, eq_self])
        repeat' (first | (with_reducible refine And.intro ?_ ?_) | (with_reducible intro h; first | (exfalso; omega) | contradiction | skip))
        all_goals first | exact k | (exfalso; omega) | omega
    · by_cases hss : as = cs
      · subst hss
        have n1 : ¬ nI as = -1 := fun z => absurd (show nI as < 0 by rw [z]; decide) (nI_pos (by omega))
        have n6 : ∀ {q : Nat}, q < 6 → ¬ (6 : Int32) ≤ nI q := fun hq z => by
          have := (n_leI (a := 6) (by decide) (by omega)).mp z
          omega
        have ts0 : (nI s0).toInt = (s0 : Int) := nI_toInt (by omega)
        have ts1 : (nI s1).toInt = (s1 : Int) := nI_toInt (by omega)
        have g5 : ¬ 0 < lg_cmp (Int32.toInt64 (nI s0)) 5 := fun z => by
          ((try simp only [lg_cmp_lt, lg_cmp_gt] at z); simp (disch := omega) only [ts0, Int64.lt_iff_toInt_lt, Int32.toInt_toInt64, Int64.reduceToInt, ← Int32.toInt_inj, Int32.lt_iff_toInt_lt, Int32.le_iff_toInt_le, Int32.reduceToInt, nI_toInt, false_implies, true_implies, and_true, true_and, not_true_eq_false, not_false_eq_true, forall_const, implies_true, false_and, and_false, true_or, or_true, eq_self] at z)
          omega
        have g5' : ¬ 0 < lg_cmp (Int32.toInt64 (nI s1)) 5 := fun z => by
          ((try simp only [lg_cmp_lt, lg_cmp_gt] at z); simp (disch := omega) only [ts1, Int64.lt_iff_toInt_lt, Int32.toInt_toInt64, Int64.reduceToInt, ← Int32.toInt_inj, Int32.lt_iff_toInt_lt, Int32.le_iff_toInt_le, Int32.reduceToInt, nI_toInt, false_implies, true_implies, and_true, true_and, not_true_eq_false, not_false_eq_true, forall_const, implies_true, false_and, and_false, true_or, or_true, eq_self] at z)
          omega
        have cx : ∀ Q : AQ, am_Call (gG L xs) (d + 8) c_Shelves_isSpan [.ref 21, .int (nI s0), .int x2, .int x5] M (fun r M' => v_Mo_shift L xs (d + 8) Q 67 [(0, .ref 0), (1, .int (nI s0)), (2, .int x2), (3, .int (nI s1)), (4, .int x4), (5, .int x5)] (r.toList ++ []) M') → am_Call (gG L xs) (d + 9) c_Mo_shift [.ref 0, .int (nI s0), .int x2, .int (nI s1), .int x4, .int x5] M Q := fun Q W => t_Mo_shift (by
          rw [n_cl (show s0 < 2 ^ 31 by omega), n_cl (show s1 < 2 ^ 31 by omega), ae22, ae23, ce22, ce23]
          exact ⟨fun z => absurd z (nI_pos (by omega)), fun _ => ⟨fun z => absurd z (n6 hs0), fun _ => ⟨fun z => absurd z (nI_pos (by omega)), fun _ => ⟨fun z => absurd z (n6 hs1), fun _ => ⟨(n_vp (by omega)).mpr hs0, fun z => absurd rfl z, fun _ => ⟨fun _ => ⟨(n_vp (by omega)).mpr hs1, fun z => absurd rfl z, fun _ => ⟨fun _ => ⟨fun z => absurd rfl z, fun _ => W⟩, fun z => absurd z n1⟩⟩, fun z => absurd z n1⟩⟩⟩⟩⟩⟩)
        by_cases hv2 : 0 ≤ x5.toInt ∧ 0 ≤ x2.toInt ∧ x2.toInt + x5.toInt ≤ ak0 ∧ 0 ≤ x4.toInt ∧ x4.toInt + x5.toInt ≤ ck0
        · obtain ⟨y1, y2, y3, y4, y5⟩ := hv2
          obtain ⟨m, rfl, hm, -⟩ := n_ofI y1
          obtain ⟨i, rfl, hi, -⟩ := n_ofI y2
          obtain ⟨j, rfl, hj, -⟩ := n_ofI y4
          have hik : i + m ≤ ak0 := by omega
          have hjk : j + m ≤ ck0 := by omega
          refine Jn.of2 (v := nI m) (P := fun M1 => M1 = am_cpl M 25 25 (s0 * 60 + i) (s1 * 60 + j) m) (fun Q k => ?_) (fun M1 e Q k => ?_)
          · have sp : ∀ (Q : AQ), Q (some (.int 1)) M → am_Call (gG L xs) (d + 7) c_Shelves_isSpan [.ref 21, .int (nI s0), .int (nI i), .int (nI m)] M Q := fun Q kq => s_isSpan (by omega) hs0 ae23 ae24 ahs ahk0 (fun _ => kq) (fun z => absurd ⟨y1, y2, y3⟩ z)
            have sp' : ∀ (Q : AQ), Q (some (.int 1)) M → am_Call (gG L xs) (d + 7) c_Shelves_isSpan [.ref 21, .int (nI s1), .int (nI j), .int (nI m)] M Q := fun Q kq => s_isSpan (by omega) hs1 ce23 ce24 ahs chk0 (fun _ => kq) (fun z => absurd ⟨y1, y4, y5⟩ z)
            refine cx Q (s_isSpan (by omega) hs0 ae23 ae24 ahs ahk0 (fun _ => u_Mo_shift_67 ⟨fun z => absurd z (by decide), fun _ => s_isSpan (by omega) hs1 ce23 ce24 ahs chk0 (fun _ => u_Mo_shift_82 ⟨fun _ => t_Shelves_moves (sp _ (u_Shelves_moves_8 ⟨fun z => absurd z (by decide), fun _ => sp' _ (u_Shelves_moves_20 ⟨fun z => absurd z (by decide), fun _ => ?_⟩)⟩)), fun z => absurd z (by decide)⟩) (fun z => absurd ⟨y1, y4, y5⟩ z)⟩) (fun z => absurd ⟨y1, y2, y3⟩ z))
            have e1 : nI s0 * 60 + nI i = nI (s0 * 60 + i) := by rw [show nI s0 * 60 = nI (s0 * 60) from n_mul s0 60, nI_add]
            have e2 : nI s1 * 60 + nI j = nI (s1 * 60 + j) := by rw [show nI s1 * 60 = nI (s1 * 60) from n_mul s1 60, nI_add]
            rw [e1, e2, n_cl (show s0 * 60 + i < 2 ^ 31 by omega), n_cl (show s1 * 60 + j < 2 ^ 31 by omega), n_cl (show m < 2 ^ 31 by omega)]
            exact ⟨nI_pos (by omega), nI_pos (by omega), nI_pos (by omega), by omega, by omega, u_Mo_shift_102 (k _ rfl)⟩
          · have f1 : fr [25] M M1 := by rw [e]; exact fr.rf.cpl (by decide)
            have tm : (nI m).toInt = (m : Int) := nI_toInt (by omega)
            have h25 : ∀ t, M1.2 25 t = if s1 * 60 + j ≤ t ∧ t < s1 * 60 + j + m then M.2 25 (s0 * 60 + i + (t - (s1 * 60 + j))) else M.2 25 t := fun t => by rw [e, cpl_rd, if_pos rfl]
            refine t_Md_shift ?_
            rw [n_cl (show s0 < 2 ^ 31 by omega), n_cl (show s1 < 2 ^ 31 by omega), f1.i 57, f1.i 58, ae57, ce57, ae58, ce58]
            have ea := t_sub (k := ak0) (x := nI m) ahk0 y1
            have ec := t_sub (k := ck0) (x := nI m) chk0 y1
            refine ⟨fun z => absurd z (g_nn (by omega)), fun _ => ⟨fun z => absurd z g5, fun _ => ⟨Or.inr rfl, fun z => absurd z (g_nn (by omega)), fun _ => ⟨fun z => absurd z g5', fun _ => ⟨(n_vp (by omega)).mpr hs0, fun z => absurd z (nI_pos (by omega)), fun _ => ⟨(n_vp (by omega)).mpr hs1, fun _ => ⟨fun z => absurd ((n_ltI (b := 50) (by omega) (by decide)).mp z) (by omega), fun _ => ⟨fun _ => ⟨fun z => absurd z (nI_pos (by omega)), fun _ => ⟨fun z => absurd z (nI_pos (by omega)), fun _ => ⟨fun z => absurd z (nI_pos (by omega)), fun _ => ⟨fun z => ?_, fun _ => ⟨fun _ => ?_, fun z => ?_⟩⟩⟩⟩⟩, fun z => absurd rfl z⟩⟩, fun z => absurd (nI_pos' (by omega)) z⟩⟩⟩⟩⟩⟩
            · exfalso
              ((try simp only [lg_cmp_lt, lg_cmp_gt] at z); simp (disch := omega) only [ea, Int64.lt_iff_toInt_lt, Int32.toInt_toInt64, Int64.reduceToInt, ← Int32.toInt_inj, Int32.lt_iff_toInt_lt, Int32.le_iff_toInt_le, Int32.reduceToInt, nI_toInt, false_implies, true_implies, and_true, true_and, not_true_eq_false, not_false_eq_true, forall_const, implies_true, false_and, and_false, true_or, or_true, eq_self] at z)
              omega
            · refine m_carry (by omega) (by omega) (by omega) (fun M2 F2 h59 => k _ ?_)
              have F : fs [25, 59, 60] [] M M2 := (fs.of (J := []) f1 (by decide) (by decide)).tt (F2.to (by decide) (by decide))
              refine ⟨n, f, T, bn, hP.keep F (by decide) (by decide) (fun k _ => by rw [F.i 41]), hL.keep F (by decide) (by decide), hT.keep F (by decide) (by decide), hC.keep F (by decide) (by decide), hD.keep F (by decide) (by decide), hA.keep F (by decide) (by decide), fun q hq => ?_, by rw [F.j 23]; exact h23⟩
              rw [F.i 57, F.i 22, F.i 23, F.i 24, F.i 58]
              rcases hS q hq with z | z | ⟨s, k2, r1, r2, r3, r4, r5, r6, r7, r8⟩
              · exact Or.inl z
              · exact Or.inr (Or.inl z)
              · refine Or.inr (Or.inr ⟨s, k2, r1, r2, r3, r4, r5, r6, r7, fun p hp => ?_⟩)
                rw [F2.2.2 25 (by decide), h25, h59, f1.l 59]
                by_cases hin : s1 * 60 + j ≤ 60 * q + p ∧ 60 * q + p < s1 * 60 + j + m
                · rw [if_pos hin, if_pos hin]
                  have hq1 : q = s1 := by omega
                  subst hq1
                  have hss : s = as := by
                    have := r5.symm.trans ce23
                    exact (nI_eq (by omega) (by omega)).mp this
                  subst hss
                  have := ahrow (i + (60 * q + p - (q * 60 + j))) (by omega)
                  rw [show s0 * 60 + i + (60 * q + p - (q * 60 + j)) = 60 * s0 + (i + (60 * q + p - (q * 60 + j))) by omega]
                  exact this
                · rw [if_neg hin, if_neg hin]
                  exact r8 p hp
            · exfalso
              ((try simp only [lg_cmp_lt, lg_cmp_gt] at z); simp (disch := omega) only [ec, Int64.lt_iff_toInt_lt, Int32.toInt_toInt64, Int64.reduceToInt, ← Int32.toInt_inj, Int32.lt_iff_toInt_lt, Int32.le_iff_toInt_le, Int32.reduceToInt, nI_toInt, false_implies, true_implies, and_true, true_and, not_true_eq_false, not_false_eq_true, forall_const, implies_true, false_and, and_false, true_or, or_true, eq_self] at z)
              omega
        · have by5 : 0 ≤ x5.toInt → (nI ak0 - x5).toInt = (ak0 : Int) - x5.toInt ∧ (nI ck0 - x5).toInt = (ck0 : Int) - x5.toInt := fun hx => ⟨t_sub ahk0 hx, t_sub chk0 hx⟩
          refine Jn.no (-13) hI0 (fun Q k => cx Q (s_isSpan (by omega) hs0 ae23 ae24 ahs ahk0 (fun y => u_Mo_shift_67 ⟨fun z => absurd z (by decide), fun _ => s_isSpan (by omega) hs1 ce23 ce24 ahs chk0 (fun y' => absurd ⟨y.1, y.2.1, y.2.2, y'.2.1, y'.2.2⟩ hv2) (fun _ => u_Mo_shift_82 ⟨fun z => absurd rfl z, fun _ => k⟩)⟩) (fun _ => u_Mo_shift_67 ⟨fun _ => k, fun z => absurd rfl z⟩))) (fun Q k => ?_)
          refine t_Md_shift ?_
          rw [n_cl (show s0 < 2 ^ 31 by omega), n_cl (show s1 < 2 ^ 31 by omega), ae57, ce57, ae58, ce58]
          refine ⟨fun z => absurd z (g_nn (by omega)), fun _ => ⟨fun z => absurd z g5, fun _ => ⟨Or.inr rfl, fun z => absurd z (g_nn (by omega)), fun _ => ⟨fun z => absurd z g5', fun _ => ⟨(n_vp (by omega)).mpr hs0, fun z => absurd z (nI_pos (by omega)), fun _ => ⟨(n_vp (by omega)).mpr hs1, fun _ => ⟨fun z => absurd ((n_ltI (b := 50) (by omega) (by decide)).mp z) (by omega), fun _ => ⟨fun _ => ⟨fun _ => k, fun z5 => ⟨fun _ => k, fun z2 => ⟨fun _ => k, fun z4 => ⟨fun _ => k, fun z6 => ⟨fun z7 => ?_, fun _ => k⟩⟩⟩⟩⟩, fun z => absurd rfl z⟩⟩, fun z => absurd (nI_pos' (by omega)) z⟩⟩⟩⟩⟩⟩
          exfalso
          ((try simp only [lg_cmp_lt, lg_cmp_gt] at z5); simp (disch := omega) only [Int64.lt_iff_toInt_lt, Int32.toInt_toInt64, Int64.reduceToInt, ← Int32.toInt_inj, Int32.lt_iff_toInt_lt, Int32.le_iff_toInt_le, Int32.reduceToInt, nI_toInt, false_implies, true_implies, and_true, true_and, not_true_eq_false, not_false_eq_true, forall_const, implies_true, false_and, and_false, true_or, or_true, eq_self] at z5)
          ((try simp only [lg_cmp_lt, lg_cmp_gt] at z2); simp (disch := omega) only [Int64.lt_iff_toInt_lt, Int32.toInt_toInt64, Int64.reduceToInt, ← Int32.toInt_inj, Int32.lt_iff_toInt_lt, Int32.le_iff_toInt_le, Int32.reduceToInt, nI_toInt, false_implies, true_implies, and_true, true_and, not_true_eq_false, not_false_eq_true, forall_const, implies_true, false_and, and_false, true_or, or_true, eq_self] at z2)
          ((try simp only [lg_cmp_lt, lg_cmp_gt] at z4); simp (disch := omega) only [Int64.lt_iff_toInt_lt, Int32.toInt_toInt64, Int64.reduceToInt, ← Int32.toInt_inj, Int32.lt_iff_toInt_lt, Int32.le_iff_toInt_le, Int32.reduceToInt, nI_toInt, false_implies, true_implies, and_true, true_and, not_true_eq_false, not_false_eq_true, forall_const, implies_true, false_and, and_false, true_or, or_true, eq_self] at z4)
          obtain ⟨ea, ec⟩ := by5 (by omega)
          ((try simp only [lg_cmp_lt, lg_cmp_gt] at z6); simp (disch := omega) only [ea, Int64.lt_iff_toInt_lt, Int32.toInt_toInt64, Int64.reduceToInt, ← Int32.toInt_inj, Int32.lt_iff_toInt_lt, Int32.le_iff_toInt_le, Int32.reduceToInt, nI_toInt, false_implies, true_implies, and_true, true_and, not_true_eq_false, not_false_eq_true, forall_const, implies_true, false_and, and_false, true_or, or_true, eq_self] at z6)
          ((try simp only [lg_cmp_lt, lg_cmp_gt] at z7); simp (disch := omega) only [ec, Int64.lt_iff_toInt_lt, Int32.toInt_toInt64, Int64.reduceToInt, ← Int32.toInt_inj, Int32.lt_iff_toInt_lt, Int32.le_iff_toInt_le, Int32.reduceToInt, nI_toInt, false_implies, true_implies, and_true, true_and, not_true_eq_false, not_false_eq_true, forall_const, implies_true, false_and, and_false, true_or, or_true, eq_self] at z7)
          exact hv2 ⟨by omega, by omega, by omega, by omega, by omega⟩
      · refine Jn.no (-12) hI0 (fun Q k => ?_) (fun Q k => ?_)
        · refine t_Mo_shift ?_
          rw [n_cl (show s0 < 2 ^ 31 by omega), n_cl (show s1 < 2 ^ 31 by omega), ae22, ae23, ce22, ce23]
          ((try simp only [lg_cmp_lt, lg_cmp_gt]); simp (disch := omega) only [n_vp, t_1, Int64.lt_iff_toInt_lt, Int32.toInt_toInt64, Int64.reduceToInt, ← Int32.toInt_inj, Int32.lt_iff_toInt_lt, Int32.le_iff_toInt_le, Int32.reduceToInt, nI_toInt, false_implies, true_implies, and_true, true_and, not_true_eq_false, not_false_eq_true, forall_const, implies_true, false_and, and_false, true_or, or_true, eq_self])
          repeat' (first | (with_reducible refine And.intro ?_ ?_) | (with_reducible intro h; first | (exfalso; omega) | contradiction | skip))
          all_goals first | exact k | (exfalso; omega) | omega
        · refine t_Md_shift ?_
          rw [n_cl (show s0 < 2 ^ 31 by omega), n_cl (show s1 < 2 ^ 31 by omega), ae57, ce57]
          ((try simp only [lg_cmp_lt, lg_cmp_gt]); simp (disch := omega) only [n_vp, t_1, Int64.lt_iff_toInt_lt, Int32.toInt_toInt64, Int64.reduceToInt, ← Int32.toInt_inj, Int32.lt_iff_toInt_lt, Int32.le_iff_toInt_le, Int32.reduceToInt, nI_toInt, false_implies, true_implies, and_true, true_and, not_true_eq_false, not_false_eq_true, forall_const, implies_true, false_and, and_false, true_or, or_true, eq_self])
          repeat' (first | (with_reducible refine And.intro ?_ ?_) | (with_reducible intro h; first | (exfalso; omega) | contradiction | skip))
          all_goals first | exact k | (exfalso; omega) | omega
  · refine Jn.no (-1) hI0 (fun Q k => ?_) (fun Q k => ?_)
    · refine t_Mo_shift ⟨fun _ => k, fun z1 => ⟨fun _ => k, fun z2 => ⟨fun _ => k, fun z3 => ⟨fun _ => k, fun z4 => ?_⟩⟩⟩⟩
      exfalso
      ((try simp only [lg_cmp_lt, lg_cmp_gt] at z1); simp (disch := omega) only [Int64.lt_iff_toInt_lt, Int32.toInt_toInt64, Int64.reduceToInt, ← Int32.toInt_inj, Int32.lt_iff_toInt_lt, Int32.le_iff_toInt_le, Int32.reduceToInt, nI_toInt, false_implies, true_implies, and_true, true_and, not_true_eq_false, not_false_eq_true, forall_const, implies_true, false_and, and_false, true_or, or_true, eq_self] at z1)
      ((try simp only [lg_cmp_lt, lg_cmp_gt] at z2); simp (disch := omega) only [Int64.lt_iff_toInt_lt, Int32.toInt_toInt64, Int64.reduceToInt, ← Int32.toInt_inj, Int32.lt_iff_toInt_lt, Int32.le_iff_toInt_le, Int32.reduceToInt, nI_toInt, false_implies, true_implies, and_true, true_and, not_true_eq_false, not_false_eq_true, forall_const, implies_true, false_and, and_false, true_or, or_true, eq_self] at z2)
      ((try simp only [lg_cmp_lt, lg_cmp_gt] at z3); simp (disch := omega) only [Int64.lt_iff_toInt_lt, Int32.toInt_toInt64, Int64.reduceToInt, ← Int32.toInt_inj, Int32.lt_iff_toInt_lt, Int32.le_iff_toInt_le, Int32.reduceToInt, nI_toInt, false_implies, true_implies, and_true, true_and, not_true_eq_false, not_false_eq_true, forall_const, implies_true, false_and, and_false, true_or, or_true, eq_self] at z3)
      ((try simp only [lg_cmp_lt, lg_cmp_gt] at z4); simp (disch := omega) only [Int64.lt_iff_toInt_lt, Int32.toInt_toInt64, Int64.reduceToInt, ← Int32.toInt_inj, Int32.lt_iff_toInt_lt, Int32.le_iff_toInt_le, Int32.reduceToInt, nI_toInt, false_implies, true_implies, and_true, true_and, not_true_eq_false, not_false_eq_true, forall_const, implies_true, false_and, and_false, true_or, or_true, eq_self] at z4)
      omega
    · refine t_Md_shift ⟨fun _ => ⟨Or.inl rfl, k⟩, fun z1 => ⟨fun _ => ⟨Or.inl rfl, k⟩, fun z2 => ⟨Or.inr rfl, fun _ => ⟨Or.inl rfl, k⟩, fun z3 => ⟨fun _ => ⟨Or.inl rfl, k⟩, fun z4 => ?_⟩⟩⟩⟩
      exfalso
      ((try simp only [lg_cmp_lt, lg_cmp_gt] at z1); simp (disch := omega) only [Int64.lt_iff_toInt_lt, Int32.toInt_toInt64, Int64.reduceToInt, ← Int32.toInt_inj, Int32.lt_iff_toInt_lt, Int32.le_iff_toInt_le, Int32.reduceToInt, nI_toInt, false_implies, true_implies, and_true, true_and, not_true_eq_false, not_false_eq_true, forall_const, implies_true, false_and, and_false, true_or, or_true, eq_self] at z1)
      ((try simp only [lg_cmp_lt, lg_cmp_gt] at z2); simp (disch := omega) only [Int64.lt_iff_toInt_lt, Int32.toInt_toInt64, Int64.reduceToInt, ← Int32.toInt_inj, Int32.lt_iff_toInt_lt, Int32.le_iff_toInt_le, Int32.reduceToInt, nI_toInt, false_implies, true_implies, and_true, true_and, not_true_eq_false, not_false_eq_true, forall_const, implies_true, false_and, and_false, true_or, or_true, eq_self] at z2)
      ((try simp only [lg_cmp_lt, lg_cmp_gt] at z3); simp (disch := omega) only [Int64.lt_iff_toInt_lt, Int32.toInt_toInt64, Int64.reduceToInt, ← Int32.toInt_inj, Int32.lt_iff_toInt_lt, Int32.le_iff_toInt_le, Int32.reduceToInt, nI_toInt, false_implies, true_implies, and_true, true_and, not_true_eq_false, not_false_eq_true, forall_const, implies_true, false_and, and_false, true_or, or_true, eq_self] at z3)
      ((try simp only [lg_cmp_lt, lg_cmp_gt] at z4); simp (disch := omega) only [Int64.lt_iff_toInt_lt, Int32.toInt_toInt64, Int64.reduceToInt, ← Int32.toInt_inj, Int32.lt_iff_toInt_lt, Int32.le_iff_toInt_le, Int32.reduceToInt, nI_toInt, false_implies, true_implies, and_true, true_and, not_true_eq_false, not_false_eq_true, forall_const, implies_true, false_and, and_false, true_or, or_true, eq_self] at z4)
      omega
end E21