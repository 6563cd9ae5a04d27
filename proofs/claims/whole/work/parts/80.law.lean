section E4
variable {L : Nat} {xs : Nat → Int32} {d : Nat} {Q : AQ} {M M1 M2 : AM} {x1 x2 x3 x4 x5 : Int32} {s0 s k0 : Nat}
theorem j_feed (hI : Inv M) (hd : 100 ≤ d) : Jn L xs d c_Mo_feed c_Md_feed [.ref 0, .int x1] [.ref 40, .int x1] M := by
  have hI0 := hI
  obtain ⟨n, f, T, bn, hP, hL, hT, hC, hD, hA, hS, h23⟩ := hI
  obtain ⟨d, rfl⟩ : ∃ a, d = a + 9 := ⟨d - 9, by omega⟩
  obtain ⟨e, tp, he, h8, h11, t9, t46⟩ := hT
  have e1 : (nI e).toInt = e := nI_toInt (by omega)
  by_cases hv : 0 ≤ x1.toInt ∧ x1.toInt ≤ 255
  · by_cases hp : e < 120
    · refine Jn.of2 (v := nI (e + 1)) (P := fun M1 => M1 = am_wi (am_wi M 9 e x1) 8 1 (nI (e + 1))) (fun Q k => ?_) (fun M1 q Q k => ?_)
      · have K := k _ rfl
        refine t_Mo_feed ?_
        rw [h8, n_cl (by omega), nI_1]
        ((try simp only [lg_cmp_lt, lg_cmp_gt]); simp (disch := omega) only [n_vp, Int64.lt_iff_toInt_lt, Int32.toInt_toInt64, Int64.reduceToInt, ← Int32.toInt_inj, Int32.lt_iff_toInt_lt, Int32.le_iff_toInt_le, Int32.reduceToInt, nI_toInt, false_implies, true_implies, and_true, true_and, not_true_eq_false, not_false_eq_true, forall_const, implies_true, false_and, and_false, true_or, or_true, eq_self])
        repeat' (first | (with_reducible refine And.intro ?_ ?_) | (with_reducible intro h; first | (exfalso; omega) | contradiction | skip))
        all_goals first | exact K | (exfalso; omega) | omega
      · have F : fs [8, 9, 46] [11] M (am_wi (am_wi M1 46 e x1) 40 11 (nI (e + 1))) := by
          rw [q]; exact ((((fs.rf.c (by decide) (by decide)).c (by decide) (by decide)).c (by decide) (by decide)).s (by decide))
        have I2 : Inv (am_wi (am_wi M1 46 e x1) 40 11 (nI (e + 1))) := by
          refine ⟨n, f, T, bn, hP.keep F (by decide) (by decide) (fun _ _ => by rw [F.i 41]), hL.keep F (by decide) (by decide), ⟨e + 1, fun k => if k = e then x1 else tp k, by omega, ?_, wi_eq, fun j hj => ?_, fun j hj => ?_⟩, hC.keep F (by decide) (by decide), hD.keep F (by decide) (by decide), hA.keep F (by decide) (by decide), hS.keep F (by decide), by rw [F.j 23]; exact h23⟩
          · rw [wi_ne (by decide), wi_ne (by decide), q, wi_eq]
          · rw [wi_ne (by decide), wi_ne (by decide), q, wi_ne (by decide), wi_rd, if_pos rfl]
            dsimp only
            by_cases h : j = e
            · rw [if_pos h, if_pos h]
            · rw [if_neg h, if_neg h]; exact t9 j (by omega)
          · rw [wi_ne (by decide), wi_rd, if_pos rfl, q, wi_ne (by decide), wi_ne (by decide)]
            dsimp only
            by_cases h : j = e
            · rw [if_pos h, if_pos h]
            · rw [if_neg h, if_neg h]; exact t46 j (by omega)
        have K := k _ I2
        have f11 : M1.1 40 11 = nI e := by rw [q, wi_ne (by decide), wi_ne (by decide)]; exact h11
        refine t_Md_feed ?_
        rw [f11, n_cl (by omega), nI_1]
        ((try simp only [lg_cmp_lt, lg_cmp_gt]); simp (disch := omega) only [n_vp, Int64.lt_iff_toInt_lt, Int32.toInt_toInt64, Int64.reduceToInt, ← Int32.toInt_inj, Int32.lt_iff_toInt_lt, Int32.le_iff_toInt_le, Int32.reduceToInt, nI_toInt, false_implies, true_implies, and_true, true_and, not_true_eq_false, not_false_eq_true, forall_const, implies_true, false_and, and_false, true_or, or_true, eq_self])
        repeat' (first | (with_reducible refine And.intro ?_ ?_) | (with_reducible intro h; first | (exfalso; omega) | contradiction | skip))
        all_goals first | exact K | (exfalso; omega) | omega
    · refine Jn.no (-3) hI0 (fun Q k => ?_) (fun Q k => ?_)
      · refine t_Mo_feed ?_
        rw [h8]
        ((try simp only [lg_cmp_lt, lg_cmp_gt]); simp (disch := omega) only [n_vp, Int64.lt_iff_toInt_lt, Int32.toInt_toInt64, Int64.reduceToInt, ← Int32.toInt_inj, Int32.lt_iff_toInt_lt, Int32.le_iff_toInt_le, Int32.reduceToInt, nI_toInt, false_implies, true_implies, and_true, true_and, not_true_eq_false, not_false_eq_true, forall_const, implies_true, false_and, and_false, true_or, or_true, eq_self])
        repeat' (first | (with_reducible refine And.intro ?_ ?_) | (with_reducible intro h; first | (exfalso; omega) | contradiction | skip))
        all_goals first | exact k | (exfalso; omega)
      · refine t_Md_feed ?_
        rw [h11]
        ((try simp only [lg_cmp_lt, lg_cmp_gt]); simp (disch := omega) only [n_vp, Int64.lt_iff_toInt_lt, Int32.toInt_toInt64, Int64.reduceToInt, ← Int32.toInt_inj, Int32.lt_iff_toInt_lt, Int32.le_iff_toInt_le, Int32.reduceToInt, nI_toInt, false_implies, true_implies, and_true, true_and, not_true_eq_false, not_false_eq_true, forall_const, implies_true, false_and, and_false, true_or, or_true, eq_self])
        repeat' (first | (with_reducible refine And.intro ?_ ?_) | (with_reducible intro h; first | (exfalso; omega) | contradiction | skip))
        all_goals first | exact k | (exfalso; omega)
  · refine Jn.no (-1) hI0 (fun Q k => ?_) (fun Q k => ?_)
    · refine t_Mo_feed ?_
      rw [h8]
      ((try simp only [lg_cmp_lt, lg_cmp_gt]); simp (disch := omega) only [n_vp, Int64.lt_iff_toInt_lt, Int32.toInt_toInt64, Int64.reduceToInt, ← Int32.toInt_inj, Int32.lt_iff_toInt_lt, Int32.le_iff_toInt_le, Int32.reduceToInt, nI_toInt, false_implies, true_implies, and_true, true_and, not_true_eq_false, not_false_eq_true, forall_const, implies_true, false_and, and_false, true_or, or_true, eq_self])
      repeat' (first | (with_reducible refine And.intro ?_ ?_) | (with_reducible intro h; first | (exfalso; omega) | contradiction | skip))
      all_goals first | exact k | (exfalso; omega)
    · refine t_Md_feed ?_
      rw [h11]
      ((try simp only [lg_cmp_lt, lg_cmp_gt]); simp (disch := omega) only [n_vp, Int64.lt_iff_toInt_lt, Int32.toInt_toInt64, Int64.reduceToInt, ← Int32.toInt_inj, Int32.lt_iff_toInt_lt, Int32.le_iff_toInt_le, Int32.reduceToInt, nI_toInt, false_implies, true_implies, and_true, true_and, not_true_eq_false, not_false_eq_true, forall_const, implies_true, false_and, and_false, true_or, or_true, eq_self])
      repeat' (first | (with_reducible refine And.intro ?_ ?_) | (with_reducible intro h; first | (exfalso; omega) | contradiction | skip))
      all_goals first | exact k | (exfalso; omega)
theorem j_law (hI : Inv M) (hd : 100 ≤ d) : Jn L xs d c_Mo_law c_Md_law [.ref 0] [.ref 40] M := by
  obtain ⟨n, f, T, bn, hP, hL, hT, hC, hD, hA, hS, h23⟩ := hI
  obtain ⟨e, tp, he, h8, h11, t9, t46⟩ := hT
  have it0 : ∀ M' : AM, M'.1 8 1 = nI 0 → M'.1 40 11 = nI 0 → iT M' := fun M' a b => ⟨0, fun _ => 0, by omega, a, b, fun k hk => by omega, fun k hk => by omega⟩
  cases ho : (txl (chT tp e) e).1 with
  | false =>
    refine Jn.of2 (v := -100 - nI (txl (chT tp e) e).2.1) (P := fun M1 => fr [8, 10, 11] M M1 ∧ M1.1 8 1 = nI 0) (fun Q k => ?_) (fun M1 q Q k => ?_)
    · exact x_law he (by omega) h8 t9 (fun M' _ a b => k M' ⟨a, b⟩) (fun M' z => by rw [ho] at z; cases z)
    · obtain ⟨q1, q2⟩ := q
      refine m_law he (by omega) (by rw [q1.i 40]; exact h11) (by rw [q1.i 46]; exact t46) (fun M' _ a b => k M' ?_) (fun M' z => by rw [ho] at z; cases z)
      have F : fs [8, 10, 11] [11, 14, 15, 16, 17, 18] M M' := (fs.of q1 (by decide) (by decide)).tt (a.to (by decide) (by decide))
      exact ⟨n, f, T, bn, hP.keep F (by decide) (by decide) (fun _ _ => by rw [F.i 41]), hL.keep F (by decide) (by decide), it0 M' (by rw [a.i 8]; exact q2) b, hC.keep F (by decide) (by decide), hD.keep F (by decide) (by decide), hA.keep F (by decide) (by decide), hS.keep F (by decide), by rw [F.j 23]; exact h23⟩
  | true =>
    refine Jn.of2 (v := 1) (P := fun M1 => fr [4, 5, 6, 8, 10, 11] M M1 ∧ M1.1 8 1 = nI 0 ∧ lawX (txT (chT tp e) e) M1) (fun Q k => ?_) (fun M1 q Q k => ?_)
    · exact x_law he (by omega) h8 t9 (fun M' z => by rw [ho] at z; cases z) (fun M' _ a b c => k M' ⟨a, b, c⟩)
    · obtain ⟨q1, q2, q3⟩ := q
      refine m_law he (by omega) (by rw [q1.i 40]; exact h11) (by rw [q1.i 46]; exact t46) (fun M' z => by rw [ho] at z; cases z) (fun M' _ a b c c2 => k M' ?_)
      have F : fs [4, 5, 6, 8, 10, 11, 47] [11, 13, 14, 15, 16, 17, 18] M M' := (fs.of q1 (by decide) (by decide)).tt (a.to (by decide) (by decide))
      exact ⟨n, f, txT (chT tp e) e, bn, hP.keep F (by decide) (by decide) (fun _ _ => by rw [F.i 41]), ⟨q3.keep (by rw [a.i 4]) (a.i 5) (a.i 6), Or.inr ⟨e, tp, he, c, c2, ho, rfl⟩⟩, it0 M' (by rw [a.i 8]; exact q2) b, hC.keep F (by decide) (by decide), hD.keep F (by decide) (by decide), hA.keep F (by decide) (by decide), hS.keep F (by decide), by rw [F.j 23]; exact h23⟩
theorem j_tall (hI : Inv M) (hd : 100 ≤ d) : Jn L xs d c_Mo_tall c_Md_tall [.ref 0, .int x1, .int x2] [.ref 40, .int x1, .int x2] M := by
  obtain ⟨n, f, T, hx, hr⟩ := hI.s
  obtain ⟨d, rfl⟩ : ∃ a, d = a + 9 := ⟨d - 9, by omega⟩
  have hn := hx.2.2.2
  have e1 := hx.1.1
  have e6 := hr.1
  have ept : (nI n - 1).toInt = (n : Int) - 1 := n_pt (by omega)
  by_cases hv : 0 ≤ x1.toInt ∧ x1.toInt < n ∧ 0 ≤ x2.toInt
  · obtain ⟨v1, v2, v3⟩ := hv
    obtain ⟨p, rfl, hp, -⟩ := n_ofI v1
    obtain ⟨m, rfl, hm, hm31⟩ := n_ofI v3
    have hpn : p < n := by omega
    have ed : nI m / 100 = nI (m / 100) := n_div (d := 100) hm31 (by decide) (by decide)
    have er : irem (nI m) 100 = nI (m % 100) := n_rem (d := 100) hm31 (by decide) (by decide)
    have edi : (nI (m / 100)).toInt = (m / 100 : Nat) := nI_toInt (by omega)
    by_cases hs : m / 100 ≤ 999
    · refine Jn.of2 (v := T (nmf f (m / 100) (m % 100) p)) (P := fr qK M) (fun Q k => ?_) (fun M1 F Q k => ?_)
      · refine t_Mo_tall ?_
        rw [ed, er, e1]
        ((try simp only [lg_cmp_lt, lg_cmp_gt]); simp (disch := omega) only [edi, Int64.lt_iff_toInt_lt, Int32.toInt_toInt64, Int64.reduceToInt, ← Int32.toInt_inj, Int32.lt_iff_toInt_lt, Int32.le_iff_toInt_le, Int32.reduceToInt, nI_toInt, false_implies, true_implies, and_true, true_and, not_true_eq_false, not_false_eq_true, forall_const, implies_true, false_and, and_false, true_or, or_true, eq_self])
        repeat' (first | (with_reducible refine And.intro ?_ ?_) | (with_reducible intro h; first | (exfalso; omega) | contradiction | skip))
        all_goals first | (exfalso; omega) | exact s_tallness (by omega) isCr1 ⟨by decide, by decide⟩ hx.1 hpn hx.2.1 (fun M' hf => u_Mo_tall_48 (k M' (hf.to (by decide))))
      · have r1 := hr.x F
        refine t_Md_tall ?_
        rw [ed, er, r1.1]
        ((try simp only [lg_cmp_lt, lg_cmp_gt]); simp (disch := omega) only [edi, ept, Int64.lt_iff_toInt_lt, Int32.toInt_toInt64, Int64.reduceToInt, ← Int32.toInt_inj, Int32.lt_iff_toInt_lt, Int32.le_iff_toInt_le, Int32.reduceToInt, nI_toInt, false_implies, true_implies, and_true, true_and, not_true_eq_false, not_false_eq_true, forall_const, implies_true, false_and, and_false, true_or, or_true, eq_self])
        repeat' (first | (with_reducible refine And.intro ?_ ?_) | (with_reducible intro h; first | (exfalso; omega) | contradiction | skip))
        all_goals first | (exfalso; omega) | exact m_tallAt (by omega) r1.2.1 r1.2.2.1 hpn (fun M' hf => u_Md_tall_34 (k M' (hI.q2 F (hf.to (by decide) (by decide)))))
    · refine Jn.no (-2000000000) hI (fun Q k => ?_) (fun Q k => ?_)
      · refine t_Mo_tall ?_
        rw [ed, e1]
        ((try simp only [lg_cmp_lt, lg_cmp_gt]); simp (disch := omega) only [edi, Int64.lt_iff_toInt_lt, Int32.toInt_toInt64, Int64.reduceToInt, ← Int32.toInt_inj, Int32.lt_iff_toInt_lt, Int32.le_iff_toInt_le, Int32.reduceToInt, nI_toInt, false_implies, true_implies, and_true, true_and, not_true_eq_false, not_false_eq_true, forall_const, implies_true, false_and, and_false, true_or, or_true, eq_self])
        repeat' (first | (with_reducible refine And.intro ?_ ?_) | (with_reducible intro h; first | (exfalso; omega) | contradiction | skip))
        all_goals first | exact k | (exfalso; omega)
      · refine t_Md_tall ?_
        rw [ed, e6]
        ((try simp only [lg_cmp_lt, lg_cmp_gt]); simp (disch := omega) only [edi, ept, Int64.lt_iff_toInt_lt, Int32.toInt_toInt64, Int64.reduceToInt, ← Int32.toInt_inj, Int32.lt_iff_toInt_lt, Int32.le_iff_toInt_le, Int32.reduceToInt, nI_toInt, false_implies, true_implies, and_true, true_and, not_true_eq_false, not_false_eq_true, forall_const, implies_true, false_and, and_false, true_or, or_true, eq_self])
        repeat' (first | (with_reducible refine And.intro ?_ ?_) | (with_reducible intro h; first | (exfalso; omega) | contradiction | skip))
        all_goals first | exact k | (exfalso; omega)
  · refine Jn.no (-2000000000) hI (fun Q k => ?_) (fun Q k => ?_)
    · refine t_Mo_tall ?_
      rw [e1]
      ((try simp only [lg_cmp_lt, lg_cmp_gt]); simp (disch := omega) only [Int64.lt_iff_toInt_lt, Int32.toInt_toInt64, Int64.reduceToInt, ← Int32.toInt_inj, Int32.lt_iff_toInt_lt, Int32.le_iff_toInt_le, Int32.reduceToInt, nI_toInt, false_implies, true_implies, and_true, true_and, not_true_eq_false, not_false_eq_true, forall_const, implies_true, false_and, and_false, true_or, or_true, eq_self])
      repeat' (first | (with_reducible refine And.intro ?_ ?_) | (with_reducible intro h; first | (exfalso; omega) | contradiction | skip))
      all_goals first | exact k | (exfalso; omega)
    · refine t_Md_tall ?_
      rw [e6]
      ((try simp only [lg_cmp_lt, lg_cmp_gt]); simp (disch := omega) only [ept, Int64.lt_iff_toInt_lt, Int32.toInt_toInt64, Int64.reduceToInt, ← Int32.toInt_inj, Int32.lt_iff_toInt_lt, Int32.le_iff_toInt_le, Int32.reduceToInt, nI_toInt, false_implies, true_implies, and_true, true_and, not_true_eq_false, not_false_eq_true, forall_const, implies_true, false_and, and_false, true_or, or_true, eq_self])
      repeat' (first | (with_reducible refine And.intro ?_ ?_) | (with_reducible intro h; first | (exfalso; omega) | contradiction | skip))
      all_goals first | exact k | (exfalso; omega)
end E4
