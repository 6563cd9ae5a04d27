section E7
variable {L : Nat} {xs : Nat → Int32} {d : Nat} {Q : AQ} {M M1 M2 : AM} {x1 x2 x3 x4 x5 : Int32} {n w p v nw bn : Nat} {f : Nat → Nat → Nat} {io : Nat → Option Nat} {aw : Nat → Bool} {T : PV}
theorem g_nn (hp : p < 2 ^ 20) : ¬ lg_cmp (Int32.toInt64 (nI p)) 0 < 0 := fun z => by
  have ep : (nI p).toInt = (p : Int) := nI_toInt (by omega)
  ((try simp only [lg_cmp_lt, lg_cmp_gt] at z); simp (disch := omega) only [ep, Int64.lt_iff_toInt_lt, Int32.toInt_toInt64, Int64.reduceToInt, ← Int32.toInt_inj, Int32.lt_iff_toInt_lt, Int32.le_iff_toInt_le, Int32.reduceToInt, nI_toInt, false_implies, true_implies, and_true, true_and, not_true_eq_false, not_false_eq_true, forall_const, implies_true, false_and, and_false, true_or, or_true, eq_self] at z)
  omega
theorem g_top (hp : p < n) (hn : n ≤ 15) : ¬ 0 < lg_cmp (Int32.toInt64 (nI p)) (Int32.toInt64 (nI n - 1)) := fun z => by
  have ep : (nI p).toInt = (p : Int) := nI_toInt (by omega)
  have ept : (nI n - 1).toInt = (n : Int) - 1 := n_pt (by omega)
  ((try simp only [lg_cmp_lt, lg_cmp_gt] at z); simp (disch := omega) only [ep, ept, Int64.lt_iff_toInt_lt, Int32.toInt_toInt64, Int64.reduceToInt, ← Int32.toInt_inj, Int32.lt_iff_toInt_lt, Int32.le_iff_toInt_le, Int32.reduceToInt, nI_toInt, false_implies, true_implies, and_true, true_and, not_true_eq_false, not_false_eq_true, forall_const, implies_true, false_and, and_false, true_or, or_true, eq_self] at z)
  omega
theorem j_of (hI : Inv M) (hd : 100 ≤ d) : Jn L xs d c_Mo_of c_Md_of [.ref 0, .int x1, .int x2] [.ref 40, .int x1, .int x2] M := by
  have hI0 := hI
  obtain ⟨n, f, T, bn, hP, hL, hT, hC, hD, hA, hS, h23⟩ := hI
  obtain ⟨d, rfl⟩ : ∃ a, d = a + 9 := ⟨d - 9, by omega⟩
  have hD0 := hD
  obtain ⟨⟨nw, io, aw, d1, d2, d3, d4, d5, d6, d7, d8, d9, d10, d11, d12, d13, d14⟩, -⟩ := hD
  have hP0 := hP
  obtain ⟨p1, p2, p3, p4, p5, p6⟩ := hP
  have e1 := p1.1
  have ept : (nI n - 1).toInt = (n : Int) - 1 := n_pt (by omega)
  have et : (nI n).toInt = (n : Int) := nI_toInt (by omega)
  by_cases hv : 0 ≤ x1.toInt ∧ x1.toInt < n
  · obtain ⟨v1, v2⟩ := hv
    obtain ⟨p, rfl, hp, -⟩ := n_ofI v1
    have ep : (nI p).toInt = (p : Int) := nI_toInt (by omega)
    have hpn : p < n := by omega
    by_cases h10 : x2 = 10
    · subst h10
      refine Jn.of2 (v := b2i (dW n f nw io aw p)) (P := fun M1 => wP n f M M1) (fun Q k => ?_) (fun M1 h Q k => ?_)
      · have K : am_Call (gG L xs) (d + 8) c_Deed_waitingNow [.ref 27] M (fun r M' => v_Mo_of L xs (d + 8) Q 43 [(1, .int (nI p))] (r.toList ++ []) M') := x_waits (by omega) hP0 d1 d2 d9 d10 (fun M' h => u_Mo_of_43 (by
          have K := k M' h
          rw [sI_bit _ (by omega)]
          exact K))
        refine t_Mo_of ⟨fun z => absurd z (nI_pos (by omega)), fun _ => ⟨fun z => ?_, fun _ => ⟨fun z => absurd z (by decide), fun _ => ⟨fun _ => ⟨fun z => absurd rfl z, fun _ => K⟩, fun z => absurd (by decide) z⟩⟩⟩⟩
        rw [e1, n_leI (by omega) (by omega)] at z; omega
      · have F : fs [1, 3] [] M M1 := h.s
        have hI1 := Inv.wp hP0 hL hT hC hD0 hA hS h23 h
        have K := k _ hI1
        have G : ∀ {R : Prop}, R → R := fun h => h
        have W := m_wnow (N := Q (some (.int 0)) M1) (Y := Q (some (.int 1)) M1) hpn (h.pp hP0).2.2.2.2.2 p4 p3 d1 (by rw [F.j 7]; exact d3) (by rw [F.j 9]; exact d11) (by rw [F.i 45]; exact (d14 p (by omega)).2) d13 (fun z => by rw [z] at K; exact K) (fun z => by rw [z] at K; exact K)
        refine t_Md_of ⟨fun z => ?_, fun _ => ⟨fun z => ?_, fun _ => ⟨Or.inr rfl, fun z => absurd z (by decide), fun _ => ⟨fun _ => ⟨fun z => absurd rfl z, fun _ => W⟩, fun z => absurd (by decide) z⟩⟩⟩⟩
        · rw [lg_cmp_lt] at z
          exfalso
          ((try simp only [lg_cmp_lt, lg_cmp_gt] at z); simp (disch := omega) only [ep, Int64.lt_iff_toInt_lt, Int32.toInt_toInt64, Int64.reduceToInt, ← Int32.toInt_inj, Int32.lt_iff_toInt_lt, Int32.le_iff_toInt_le, Int32.reduceToInt, nI_toInt, false_implies, true_implies, and_true, true_and, not_true_eq_false, not_false_eq_true, forall_const, implies_true, false_and, and_false, true_or, or_true, eq_self] at z)
          omega
        · rw [F.j 6, p5] at z
          exfalso
          ((try simp only [lg_cmp_lt, lg_cmp_gt] at z); simp (disch := omega) only [ep, ept, Int64.lt_iff_toInt_lt, Int32.toInt_toInt64, Int64.reduceToInt, ← Int32.toInt_inj, Int32.lt_iff_toInt_lt, Int32.le_iff_toInt_le, Int32.reduceToInt, nI_toInt, false_implies, true_implies, and_true, true_and, not_true_eq_false, not_false_eq_true, forall_const, implies_true, false_and, and_false, true_or, or_true, eq_self] at z)
          omega
    · by_cases h11 : x2 = 11
      · subst h11
        refine Jn.no (oI (io p)) hI0 (fun Q k => ?_) (fun Q k => ?_)
        · refine t_Mo_of ⟨fun z => absurd z (nI_pos (by omega)), fun _ => ⟨fun z => ?_, fun _ => ⟨fun z => absurd z (by decide), fun _ => ⟨fun _ => ⟨fun _ => ⟨fun z => absurd rfl z, fun _ => ⟨fun z => ?_, fun _ => ⟨(n_vp (by omega)).mpr (by omega), ?_⟩⟩⟩, fun z => absurd z (by decide)⟩, fun z => absurd (by decide) z⟩⟩⟩⟩
          · rw [e1, n_leI (by omega) (by omega)] at z; omega
          · exact absurd ((n_leI (a := 12) (by decide) (by omega)).mp z) (by omega)
          · rw [n_cl (by omega), (d14 p (by omega)).1]; exact k
        · refine t_Md_of ⟨fun z => ?_, fun _ => ⟨fun z => ?_, fun _ => ⟨Or.inr rfl, fun z => absurd z (by decide), fun _ => ⟨fun _ => ⟨fun _ => ⟨fun z => absurd rfl z, fun _ => ⟨(n_vp (by omega)).mpr (by omega), ?_⟩⟩, fun z => absurd z (by decide)⟩, fun z => absurd (by decide) z⟩⟩⟩⟩
          · rw [lg_cmp_lt] at z
            exfalso
            ((try simp only [lg_cmp_lt, lg_cmp_gt] at z); simp (disch := omega) only [ep, Int64.lt_iff_toInt_lt, Int32.toInt_toInt64, Int64.reduceToInt, ← Int32.toInt_inj, Int32.lt_iff_toInt_lt, Int32.le_iff_toInt_le, Int32.reduceToInt, nI_toInt, false_implies, true_implies, and_true, true_and, not_true_eq_false, not_false_eq_true, forall_const, implies_true, false_and, and_false, true_or, or_true, eq_self] at z)
            omega
          · rw [p5] at z
            exfalso
            ((try simp only [lg_cmp_lt, lg_cmp_gt] at z); simp (disch := omega) only [ep, ept, Int64.lt_iff_toInt_lt, Int32.toInt_toInt64, Int64.reduceToInt, ← Int32.toInt_inj, Int32.lt_iff_toInt_lt, Int32.le_iff_toInt_le, Int32.reduceToInt, nI_toInt, false_implies, true_implies, and_true, true_and, not_true_eq_false, not_false_eq_true, forall_const, implies_true, false_and, and_false, true_or, or_true, eq_self] at z)
            omega
          · rw [n_cl (by omega), (d14 p (by omega)).2]; exact k
      · by_cases hw : 0 ≤ x2.toInt ∧ x2.toInt < 5
        · obtain ⟨w1, w2⟩ := hw
          obtain ⟨w, rfl, hw, -⟩ := n_ofI w1
          have ew : (nI w).toInt = (w : Int) := nI_toInt (by omega)
          refine Jn.no (nI (f w p)) hI0 (fun Q k => ?_) (fun Q k => ?_)
          · refine t_Mo_of ⟨fun z => absurd z (nI_pos (by omega)), fun _ => ⟨fun z => ?_, fun _ => ⟨fun z => absurd z (nI_pos (by omega)), fun _ => ⟨fun z => ?_, fun _ => ⟨n_ixv (by omega), ?_⟩⟩⟩⟩⟩
            · rw [e1, n_leI (by omega) (by omega)] at z; omega
            · exact absurd ((n_leI (a := 5) (by decide) (by omega)).mp z) (by omega)
            · rw [n_ix (by omega), p1.2.2 w p (by omega) hpn]; exact k
          · have e5 : (5 : Int32) * nI p + nI w = nI (5 * p + w) := by simp only [nl_lum, nI_add]
            have g1 : ¬ lg_cmp (Int32.toInt64 (nI p)) 0 < 0 := fun z => by
              ((try simp only [lg_cmp_lt, lg_cmp_gt] at z); simp (disch := omega) only [ep, Int64.lt_iff_toInt_lt, Int32.toInt_toInt64, Int64.reduceToInt, ← Int32.toInt_inj, Int32.lt_iff_toInt_lt, Int32.le_iff_toInt_le, Int32.reduceToInt, nI_toInt, false_implies, true_implies, and_true, true_and, not_true_eq_false, not_false_eq_true, forall_const, implies_true, false_and, and_false, true_or, or_true, eq_self] at z)
              omega
            have g2 : ¬ 0 < lg_cmp (Int32.toInt64 (nI p)) (Int32.toInt64 (M.1 40 6 - 1)) := fun z => by
              rw [p5] at z
              ((try simp only [lg_cmp_lt, lg_cmp_gt] at z); simp (disch := omega) only [ep, ept, Int64.lt_iff_toInt_lt, Int32.toInt_toInt64, Int64.reduceToInt, ← Int32.toInt_inj, Int32.lt_iff_toInt_lt, Int32.le_iff_toInt_le, Int32.reduceToInt, nI_toInt, false_implies, true_implies, and_true, true_and, not_true_eq_false, not_false_eq_true, forall_const, implies_true, false_and, and_false, true_or, or_true, eq_self] at z)
              omega
            have g3 : ¬ lg_cmp (Int32.toInt64 (nI w)) 0 < 0 := fun z => by
              ((try simp only [lg_cmp_lt, lg_cmp_gt] at z); simp (disch := omega) only [ew, Int64.lt_iff_toInt_lt, Int32.toInt_toInt64, Int64.reduceToInt, ← Int32.toInt_inj, Int32.lt_iff_toInt_lt, Int32.le_iff_toInt_le, Int32.reduceToInt, nI_toInt, false_implies, true_implies, and_true, true_and, not_true_eq_false, not_false_eq_true, forall_const, implies_true, false_and, and_false, true_or, or_true, eq_self] at z)
              omega
            have g4 : ¬ 0 < lg_cmp (Int32.toInt64 (nI w)) 4 := fun z => by
              ((try simp only [lg_cmp_lt, lg_cmp_gt] at z); simp (disch := omega) only [ew, Int64.lt_iff_toInt_lt, Int32.toInt_toInt64, Int64.reduceToInt, ← Int32.toInt_inj, Int32.lt_iff_toInt_lt, Int32.le_iff_toInt_le, Int32.reduceToInt, nI_toInt, false_implies, true_implies, and_true, true_and, not_true_eq_false, not_false_eq_true, forall_const, implies_true, false_and, and_false, true_or, or_true, eq_self] at z)
              omega
            refine t_Md_of ⟨fun z => absurd z g1, fun _ => ⟨fun z => absurd z g2, fun _ => ⟨Or.inr rfl, fun z => absurd z g3, fun _ => ⟨fun z => absurd z g4, fun _ => ?_⟩⟩⟩⟩
            rw [e5, n_cl (show 5 * p + w < 2 ^ 31 by omega), p6.2 w p (by omega) hpn]
            exact ⟨(n_vp (by omega)).mpr (by omega), k⟩
        · have g1 : ¬ lg_cmp (Int32.toInt64 (nI p)) 0 < 0 := fun z => by
            ((try simp only [lg_cmp_lt, lg_cmp_gt] at z); simp (disch := omega) only [ep, Int64.lt_iff_toInt_lt, Int32.toInt_toInt64, Int64.reduceToInt, ← Int32.toInt_inj, Int32.lt_iff_toInt_lt, Int32.le_iff_toInt_le, Int32.reduceToInt, nI_toInt, false_implies, true_implies, and_true, true_and, not_true_eq_false, not_false_eq_true, forall_const, implies_true, false_and, and_false, true_or, or_true, eq_self] at z)
            omega
          have g2 : ¬ 0 < lg_cmp (Int32.toInt64 (nI p)) (Int32.toInt64 (M.1 40 6 - 1)) := fun z => by
            rw [p5] at z
            ((try simp only [lg_cmp_lt, lg_cmp_gt] at z); simp (disch := omega) only [ep, ept, Int64.lt_iff_toInt_lt, Int32.toInt_toInt64, Int64.reduceToInt, ← Int32.toInt_inj, Int32.lt_iff_toInt_lt, Int32.le_iff_toInt_le, Int32.reduceToInt, nI_toInt, false_implies, true_implies, and_true, true_and, not_true_eq_false, not_false_eq_true, forall_const, implies_true, false_and, and_false, true_or, or_true, eq_self] at z)
            omega
          refine Jn.no (-1) hI0 (fun Q k => ?_) (fun Q k => ?_)
          · refine t_Mo_of ⟨fun z => absurd z (nI_pos (by omega)), fun _ => ⟨fun z => ?_, fun _ => ⟨fun z => ⟨fun _ => ⟨fun _ => k, fun y => absurd y h11⟩, fun y => absurd y h10⟩, fun z1 => ⟨fun z => ⟨fun _ => ⟨fun _ => k, fun y => absurd y h11⟩, fun y => absurd y h10⟩, fun z2 => ?_⟩⟩⟩⟩
            · rw [e1, n_leI (by omega) (by omega)] at z; omega
            · exfalso
              ((try simp only [lg_cmp_lt, lg_cmp_gt] at z1); simp (disch := omega) only [Int64.lt_iff_toInt_lt, Int32.toInt_toInt64, Int64.reduceToInt, ← Int32.toInt_inj, Int32.lt_iff_toInt_lt, Int32.le_iff_toInt_le, Int32.reduceToInt, nI_toInt, false_implies, true_implies, and_true, true_and, not_true_eq_false, not_false_eq_true, forall_const, implies_true, false_and, and_false, true_or, or_true, eq_self] at z1)
              ((try simp only [lg_cmp_lt, lg_cmp_gt] at z2); simp (disch := omega) only [Int64.lt_iff_toInt_lt, Int32.toInt_toInt64, Int64.reduceToInt, ← Int32.toInt_inj, Int32.lt_iff_toInt_lt, Int32.le_iff_toInt_le, Int32.reduceToInt, nI_toInt, false_implies, true_implies, and_true, true_and, not_true_eq_false, not_false_eq_true, forall_const, implies_true, false_and, and_false, true_or, or_true, eq_self] at z2)
              omega
          · refine t_Md_of ⟨fun z => absurd z g1, fun _ => ⟨fun z => absurd z g2, fun _ => ⟨Or.inr rfl, fun z => ⟨fun _ => ⟨fun _ => k, fun y => absurd y h11⟩, fun y => absurd y h10⟩, fun z1 => ⟨fun z => ⟨fun _ => ⟨fun _ => k, fun y => absurd y h11⟩, fun y => absurd y h10⟩, fun z2 => ?_⟩⟩⟩⟩
            exfalso
            ((try simp only [lg_cmp_lt, lg_cmp_gt] at z1); simp (disch := omega) only [Int64.lt_iff_toInt_lt, Int32.toInt_toInt64, Int64.reduceToInt, ← Int32.toInt_inj, Int32.lt_iff_toInt_lt, Int32.le_iff_toInt_le, Int32.reduceToInt, nI_toInt, false_implies, true_implies, and_true, true_and, not_true_eq_false, not_false_eq_true, forall_const, implies_true, false_and, and_false, true_or, or_true, eq_self] at z1)
            ((try simp only [lg_cmp_lt, lg_cmp_gt] at z2); simp (disch := omega) only [Int64.lt_iff_toInt_lt, Int32.toInt_toInt64, Int64.reduceToInt, ← Int32.toInt_inj, Int32.lt_iff_toInt_lt, Int32.le_iff_toInt_le, Int32.reduceToInt, nI_toInt, false_implies, true_implies, and_true, true_and, not_true_eq_false, not_false_eq_true, forall_const, implies_true, false_and, and_false, true_or, or_true, eq_self] at z2)
            omega
  · refine Jn.no (-1) hI0 (fun Q k => ?_) (fun Q k => ?_)
    · refine t_Mo_of ⟨fun _ => k, fun z1 => ⟨fun _ => k, fun z2 => ?_⟩⟩
      exfalso
      rw [e1] at z2
      ((try simp only [lg_cmp_lt, lg_cmp_gt] at z1); simp (disch := omega) only [Int64.lt_iff_toInt_lt, Int32.toInt_toInt64, Int64.reduceToInt, ← Int32.toInt_inj, Int32.lt_iff_toInt_lt, Int32.le_iff_toInt_le, Int32.reduceToInt, nI_toInt, false_implies, true_implies, and_true, true_and, not_true_eq_false, not_false_eq_true, forall_const, implies_true, false_and, and_false, true_or, or_true, eq_self] at z1)
      ((try simp only [lg_cmp_lt, lg_cmp_gt] at z2); simp (disch := omega) only [et, Int64.lt_iff_toInt_lt, Int32.toInt_toInt64, Int64.reduceToInt, ← Int32.toInt_inj, Int32.lt_iff_toInt_lt, Int32.le_iff_toInt_le, Int32.reduceToInt, nI_toInt, false_implies, true_implies, and_true, true_and, not_true_eq_false, not_false_eq_true, forall_const, implies_true, false_and, and_false, true_or, or_true, eq_self] at z2)
      omega
    · refine t_Md_of ⟨fun _ => ⟨Or.inl rfl, k⟩, fun z1 => ⟨fun _ => ⟨Or.inl rfl, k⟩, fun z2 => ?_⟩⟩
      exfalso
      rw [p5] at z2
      ((try simp only [lg_cmp_lt, lg_cmp_gt] at z1); simp (disch := omega) only [Int64.lt_iff_toInt_lt, Int32.toInt_toInt64, Int64.reduceToInt, ← Int32.toInt_inj, Int32.lt_iff_toInt_lt, Int32.le_iff_toInt_le, Int32.reduceToInt, nI_toInt, false_implies, true_implies, and_true, true_and, not_true_eq_false, not_false_eq_true, forall_const, implies_true, false_and, and_false, true_or, or_true, eq_self] at z1)
      ((try simp only [lg_cmp_lt, lg_cmp_gt] at z2); simp (disch := omega) only [ept, Int64.lt_iff_toInt_lt, Int32.toInt_toInt64, Int64.reduceToInt, ← Int32.toInt_inj, Int32.lt_iff_toInt_lt, Int32.le_iff_toInt_le, Int32.reduceToInt, nI_toInt, false_implies, true_implies, and_true, true_and, not_true_eq_false, not_false_eq_true, forall_const, implies_true, false_and, and_false, true_or, or_true, eq_self] at z2)
      omega
end E7
