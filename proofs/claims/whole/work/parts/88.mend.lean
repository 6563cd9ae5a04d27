section E12
variable {L : Nat} {xs : Nat → Int32} {d : Nat} {Q : AQ} {M M1 M2 : AM} {x x1 x2 x3 x4 x5 : Int32} {n w p v nw bn k0 k1 : Nat} {f : Nat → Nat → Nat} {io : Nat → Option Nat} {aw : Nat → Bool} {T : PV} {P W B A : Nat → Nat}
theorem j_mend (hI : Inv M) (hd : 100 ≤ d) : Jn L xs d c_Mo_mend c_Md_mend [.ref 0, .int x1, .int x2, .int x3] [.ref 40, .int x1, .int x2, .int x3] M := by
  have hI0 := hI
  obtain ⟨n, f, T, bn, hP, hL, hT, hC, hD, hA, hS, h23⟩ := hI
  obtain ⟨d, rfl⟩ : ∃ a, d = a + 9 := ⟨d - 9, by omega⟩
  have hP0 := hP
  obtain ⟨p1, p2, p3, p4, p5, p6⟩ := hP
  have e1 := p1.1
  have ept : (nI n - 1).toInt = (n : Int) - 1 := n_pt (by omega)
  have et : (nI n).toInt = (n : Int) := nI_toInt (by omega)
  by_cases hv : 0 ≤ x1.toInt ∧ x1.toInt < n
  · obtain ⟨v1, v2⟩ := hv
    obtain ⟨p, rfl, hp, -⟩ := n_ofI v1
    have hpn : p < n := by omega
    by_cases hw : 0 ≤ x2.toInt ∧ x2.toInt < 5
    · obtain ⟨w1, w2⟩ := hw
      obtain ⟨w, rfl, hw, -⟩ := n_ofI w1
      have ew : (nI w).toInt = (w : Int) := nI_toInt (by omega)
      have hw5 : w < 5 := by omega
      have e5p : (5 : Int32) * nI p + nI w = nI (5 * p + w) := by simp only [nl_lum, nI_add]
      have g4 : ¬ 0 < lg_cmp (Int32.toInt64 (nI w)) 4 := fun z => by
        ((try simp only [lg_cmp_lt, lg_cmp_gt] at z); simp (disch := omega) only [ew, Int64.lt_iff_toInt_lt, Int32.toInt_toInt64, Int64.reduceToInt, ← Int32.toInt_inj, Int32.lt_iff_toInt_lt, Int32.le_iff_toInt_le, Int32.reduceToInt, nI_toInt, false_implies, true_implies, and_true, true_and, not_true_eq_false, not_false_eq_true, forall_const, implies_true, false_and, and_false, true_or, or_true, eq_self] at z)
        omega
      have cm : ∀ (Q : AQ) (M1 : AM), M1.1 40 6 = nI n → am_Call (gG L xs) (d + 8) c_Md_mayBecome [.int (nI w), .int x3] M1 (fun r M' => v_Md_mend L xs (d + 8) Q 26 [(0, .ref 40), (1, .int (nI p)), (2, .int (nI w)), (3, .int x3)] (r.toList ++ []) M') → am_Call (gG L xs) (d + 9) c_Md_mend [.ref 40, .int (nI p), .int (nI w), .int x3] M1 Q := fun Q M1 e6 W =>
        t_Md_mend ⟨fun z => absurd z (g_nn (by omega)), fun _ => ⟨fun z => by rw [e6] at z; exact absurd z (g_top hpn (by omega)), fun _ => ⟨Or.inr rfl, fun z => absurd z (g_nn (by omega)), fun _ => ⟨fun z => absurd z g4, fun _ => W⟩⟩⟩⟩
      have c1 : ¬ M.1 1 1 ≤ nI p := by rw [e1, n_leI (by omega) (by omega)]; omega
      have c2 : ¬ (5 : Int32) ≤ nI w := fun z => absurd ((n_leI (a := 5) (by decide) (by omega)).mp z) (by omega)
      have cx : ∀ Q : AQ, (x3.toInt < (sLEAST w).toInt → Q (some (.int (-1))) M) → ((sGREATEST w).toInt < x3.toInt → Q (some (.int (-1))) M) → (¬ x3.toInt < (sLEAST w).toInt → ¬ (sGREATEST w).toInt < x3.toInt → ((nI (f w p)) = x3 → Q (some (.int (nI (f w p)))) M) ∧ (¬ nI (f w p) = x3 → am_Call (gG L xs) (d + 8) c_Changes_happens [.ref 32, .int (nI p), .int (nI w), .int x3] M (fun r M' => v_Mo_mend L xs (d + 8) Q 48 [(4, .int (nI (f w p)))] (r.toList ++ []) M'))) → am_Call (gG L xs) (d + 9) c_Mo_mend [.ref 0, .int (nI p), .int (nI w), .int x3] M Q := fun Q k1 k2 k3 => by
        refine t_Mo_mend ?_
        rw [n_cl (show w < 2 ^ 31 by omega), n_ix (by omega), p1.2.2 w p hw5 hpn]
        rw [Int32.lt_iff_toInt_lt (x := x3), Int32.lt_iff_toInt_lt (y := x3)]
        exact ⟨fun z => absurd z (nI_pos (by omega)), fun _ => ⟨fun z => absurd z c1, fun _ => ⟨fun z => absurd z (nI_pos (by omega)), fun _ => ⟨fun z => absurd z c2, fun _ => ⟨(n_vp (by omega)).mpr (by omega), k1, fun z1 => ⟨k2, fun z2 => ⟨n_ixv (by omega), k3 z1 z2⟩⟩⟩⟩⟩⟩⟩
      by_cases hx : (sLEAST w).toInt ≤ x3.toInt ∧ x3.toInt ≤ (sGREATEST w).toInt
      · obtain ⟨y1, y2⟩ := hx
        obtain ⟨v, rfl, hok⟩ := okV.is hw5 y1 y2
        have hv1 : v < 1000 := by
          obtain ⟨o0, o1, o2, o3, o4⟩ := hok
          have h5 : w = 0 ∨ w = 1 ∨ w = 2 ∨ w = 3 ∨ w = 4 := by omega
          rcases h5 with h | h | h | h | h
          · have := o0 h; omega
          · have := o1 h; omega
          · have := o2 h; omega
          · have := o3 h; omega
          · have := o4 h; omega
        have hb := okV.of p4 hpn w hw5
        have hb1 : f w p < 1000 := by
          obtain ⟨o0, o1, o2, o3, o4⟩ := hb
          have h5 : w = 0 ∨ w = 1 ∨ w = 2 ∨ w = 3 ∨ w = 4 := by omega
          rcases h5 with h | h | h | h | h
          · have := o0 h; omega
          · have := o1 h; omega
          · have := o2 h; omega
          · have := o3 h; omega
          · have := o4 h; omega
        by_cases he : f w p = v
        · refine Jn.no (nI (f w p)) hI0 (fun Q k => cx Q (fun z => by omega) (fun z => by omega) (fun _ _ => ⟨fun _ => k, fun z => absurd (by rw [he]) z⟩)) (fun Q k => cm Q M p5 (m_mayB (by omega) hw5 (fun _ _ => u_Md_mend_26 ⟨fun z => absurd z (by decide), fun _ => ?_⟩) (fun z => absurd ⟨y1, y2⟩ z)))
          rw [e5p]
          refine t_Md_becomes ?_
          rw [n_cl (show 5 * p + w < 2 ^ 31 by omega), p6.2 w p hw5 hpn]
          exact ⟨(n_vp (by omega)).mpr (by omega), fun z => absurd (by rw [he]) z, fun _ => u_Md_mend_39 k⟩
        · obtain ⟨dn, kp, P, W, B, A, c1, c2, c3, c4, c5, c6, c7⟩ := hC
          have rX : recX dn P W B A M := fun i hi => by
            obtain ⟨-, -, -, -, r1, r2, r3, r4, -⟩ := c7 i (by omega)
            exact ⟨r1, r2, r3, r4⟩
          have rM : recM dn P W B A M := fun i hi => by
            obtain ⟨-, -, -, -, -, -, -, -, r5, r6, r7⟩ := c7 i (by omega)
            exact ⟨r5, r6, r7⟩
          refine Jn.of2 (v := nI (f w p)) (P := fun M' => setd n (upf f w p v) M' ∧ fr hK M M' ∧ (dn < 40 → M'.1 32 5 = nI (dn + 1) ∧ M'.1 32 6 = nI (dn + 1) ∧ recX (dn + 1) (udN P dn p) (udN W dn w) (udN B dn (f w p)) (udN A dn v) M') ∧ (dn = 40 → M'.1 32 5 = nI 40 ∧ M'.1 32 6 = nI 40 ∧ recX 40 (udN (fun i => P (i + 1)) 39 p) (udN (fun i => W (i + 1)) 39 w) (udN (fun i => B (i + 1)) 39 (f w p)) (udN (fun i => A (i + 1)) 39 v) M')) (fun Q k => cx Q (fun z => by omega) (fun z => by omega) (fun _ _ => ⟨fun z => absurd ((nI_eq (by omega) (by omega)).mp z) he, fun _ => ?_⟩)) (fun M1 e Q k => ?_)
          · exact s_happens (by omega) p1 p2 hw5 hpn p3 (by omega) c3 rX (fun M' a1 a2 a3 a4 => u_Mo_mend_48 (k _ ⟨a1, a2, a3, a4⟩))
          · obtain ⟨a1, a2, a3, a4⟩ := e
            refine cm Q M1 (by rw [a2.i 40]; exact p5) (m_mayB (by omega) hw5 (fun _ _ => u_Md_mend_26 ⟨fun z => absurd z (by decide), fun _ => ?_⟩) (fun z => absurd ⟨y1, y2⟩ z))
            rw [e5p]
            refine m_becomes (by omega) hw5 hpn p3 (p6.keep (a2.i 41)) he ⟨hb1, hv1⟩ (show dn ≤ 40 by omega) (by rw [a2.i 40]; exact c5) (fun i hi => by rw [a2.i 42, a2.i 43, a2.i 44]; exact rM i hi) (fun M2 b1 F2 b2 b3 => u_Md_mend_39 (k _ ?_))
            have F : fs [1, 2, 32, 33, 34, 35, 36, 41, 42, 43, 44] [4, 5] M M2 := (fs.of (J := [4, 5]) a2 (by decide) (by decide)).tt (F2.to (by decide) (by decide))
            have hCn : iC n M2 := by
              by_cases h4 : dn = 40
              · obtain ⟨s1, s2, s3⟩ := a4 h4
                obtain ⟨t1, t2, t3⟩ := b3 h4
                refine ⟨40, 40, udN (fun i => P (i + 1)) 39 p, udN (fun i => W (i + 1)) 39 w, udN (fun i => B (i + 1)) 39 (f w p), udN (fun i => A (i + 1)) 39 v, Nat.le_refl _, Nat.le_refl _, by rw [F2.i 32]; exact s1, by rw [F2.i 32]; exact s2, t1, t2, fun i hi => ?_⟩
                obtain ⟨u1, u2, u3, u4⟩ := s3 i hi
                obtain ⟨z1, z2, z3⟩ := t3 i hi
                rw [F2.i 33, F2.i 34, F2.i 35, F2.i 36]
                refine ⟨?_, ?_, ?_, ?_, u1, u2, u3, u4, z1, z2, z3⟩ <;> unfold udN <;> by_cases e : i = 39
                · rw [if_pos e]; exact hpn
                · rw [if_neg e]; exact (c7 (i + 1) (by omega)).1
                · rw [if_pos e]; exact hw5
                · rw [if_neg e]; exact (c7 (i + 1) (by omega)).2.1
                · rw [if_pos e, if_pos e]; exact hb
                · rw [if_neg e, if_neg e]; exact (c7 (i + 1) (by omega)).2.2.1
                · rw [if_pos e, if_pos e]; exact hok
                · rw [if_neg e, if_neg e]; exact (c7 (i + 1) (by omega)).2.2.2.1
              · obtain ⟨s1, s2, s3⟩ := a3 (by omega)
                obtain ⟨t1, t2, t3⟩ := b2 (by omega)
                refine ⟨dn + 1, dn + 1, udN P dn p, udN W dn w, udN B dn (f w p), udN A dn v, Nat.le_refl _, by omega, by rw [F2.i 32]; exact s1, by rw [F2.i 32]; exact s2, t1, t2, fun i hi => ?_⟩
                obtain ⟨u1, u2, u3, u4⟩ := s3 i hi
                obtain ⟨z1, z2, z3⟩ := t3 i hi
                rw [F2.i 33, F2.i 34, F2.i 35, F2.i 36]
                refine ⟨?_, ?_, ?_, ?_, u1, u2, u3, u4, z1, z2, z3⟩ <;> unfold udN <;> by_cases e : i = dn
                · rw [if_pos e]; exact hpn
                · rw [if_neg e]; exact (c7 i (by omega)).1
                · rw [if_pos e]; exact hw5
                · rw [if_neg e]; exact (c7 i (by omega)).2.1
                · rw [if_pos e, if_pos e]; exact hb
                · rw [if_neg e, if_neg e]; exact (c7 i (by omega)).2.2.1
                · rw [if_pos e, if_pos e]; exact hok
                · rw [if_neg e, if_neg e]; exact (c7 i (by omega)).2.2.2.1
            exact ⟨n, upf f w p v, T, bn, ⟨a1.1.fr (by rw [F2.i 1]) (F2.i 2), a1.2.congr (by rw [F2.i 1]) (F2.i 3) (fun _ _ => ⟨rfl, rfl⟩), p3, p4.up hok, by rw [F.j 6]; exact p5, b1⟩, hL.keep F (by decide) (by decide), hT.keep F (by decide) (by decide), hCn, hD.keep F (by decide) (by decide), hA.keep F (by decide) (by decide), hS.keep F (by decide), by rw [F.j 23]; exact h23⟩
      · refine Jn.no (-1) hI0 (fun Q k => cx Q (fun _ => k) (fun _ => k) (fun z1 z2 => absurd (show _ ∧ _ from ⟨by omega, by omega⟩) hx)) (fun Q k => cm Q M p5 (m_mayB (by omega) hw5 (fun z1 z2 => absurd ⟨z1, z2⟩ hx) (fun _ => u_Md_mend_26 ⟨fun _ => k, fun z => absurd rfl z⟩)))
    · refine Jn.no (-1) hI0 (fun Q k => ?_) (fun Q k => ?_)
      · refine t_Mo_mend ⟨fun _ => k, fun _ => ⟨fun _ => k, fun _ => ⟨fun _ => k, fun z1 => ⟨fun _ => k, fun z2 => ?_⟩⟩⟩⟩
        exfalso
        ((try simp only [lg_cmp_lt, lg_cmp_gt] at z1); simp (disch := omega) only [Int64.lt_iff_toInt_lt, Int32.toInt_toInt64, Int64.reduceToInt, ← Int32.toInt_inj, Int32.lt_iff_toInt_lt, Int32.le_iff_toInt_le, Int32.reduceToInt, nI_toInt, false_implies, true_implies, and_true, true_and, not_true_eq_false, not_false_eq_true, forall_const, implies_true, false_and, and_false, true_or, or_true, eq_self] at z1)
        ((try simp only [lg_cmp_lt, lg_cmp_gt] at z2); simp (disch := omega) only [Int64.lt_iff_toInt_lt, Int32.toInt_toInt64, Int64.reduceToInt, ← Int32.toInt_inj, Int32.lt_iff_toInt_lt, Int32.le_iff_toInt_le, Int32.reduceToInt, nI_toInt, false_implies, true_implies, and_true, true_and, not_true_eq_false, not_false_eq_true, forall_const, implies_true, false_and, and_false, true_or, or_true, eq_self] at z2)
        omega
      · refine t_Md_mend ⟨fun _ => ⟨Or.inl rfl, k⟩, fun _ => ⟨fun _ => ⟨Or.inl rfl, k⟩, fun _ => ⟨Or.inr rfl, fun _ => k, fun z1 => ⟨fun _ => k, fun z2 => ?_⟩⟩⟩⟩
        exfalso
        ((try simp only [lg_cmp_lt, lg_cmp_gt] at z1); simp (disch := omega) only [Int64.lt_iff_toInt_lt, Int32.toInt_toInt64, Int64.reduceToInt, ← Int32.toInt_inj, Int32.lt_iff_toInt_lt, Int32.le_iff_toInt_le, Int32.reduceToInt, nI_toInt, false_implies, true_implies, and_true, true_and, not_true_eq_false, not_false_eq_true, forall_const, implies_true, false_and, and_false, true_or, or_true, eq_self] at z1)
        ((try simp only [lg_cmp_lt, lg_cmp_gt] at z2); simp (disch := omega) only [Int64.lt_iff_toInt_lt, Int32.toInt_toInt64, Int64.reduceToInt, ← Int32.toInt_inj, Int32.lt_iff_toInt_lt, Int32.le_iff_toInt_le, Int32.reduceToInt, nI_toInt, false_implies, true_implies, and_true, true_and, not_true_eq_false, not_false_eq_true, forall_const, implies_true, false_and, and_false, true_or, or_true, eq_self] at z2)
        omega
  · refine Jn.no (-1) hI0 (fun Q k => ?_) (fun Q k => ?_)
    · refine t_Mo_mend ⟨fun _ => k, fun z1 => ⟨fun _ => k, fun z2 => ?_⟩⟩
      exfalso
      rw [e1] at z2
      ((try simp only [lg_cmp_lt, lg_cmp_gt] at z1); simp (disch := omega) only [Int64.lt_iff_toInt_lt, Int32.toInt_toInt64, Int64.reduceToInt, ← Int32.toInt_inj, Int32.lt_iff_toInt_lt, Int32.le_iff_toInt_le, Int32.reduceToInt, nI_toInt, false_implies, true_implies, and_true, true_and, not_true_eq_false, not_false_eq_true, forall_const, implies_true, false_and, and_false, true_or, or_true, eq_self] at z1)
      ((try simp only [lg_cmp_lt, lg_cmp_gt] at z2); simp (disch := omega) only [et, Int64.lt_iff_toInt_lt, Int32.toInt_toInt64, Int64.reduceToInt, ← Int32.toInt_inj, Int32.lt_iff_toInt_lt, Int32.le_iff_toInt_le, Int32.reduceToInt, nI_toInt, false_implies, true_implies, and_true, true_and, not_true_eq_false, not_false_eq_true, forall_const, implies_true, false_and, and_false, true_or, or_true, eq_self] at z2)
      omega
    · refine t_Md_mend ⟨fun _ => ⟨Or.inl rfl, k⟩, fun z1 => ⟨fun _ => ⟨Or.inl rfl, k⟩, fun z2 => ?_⟩⟩
      exfalso
      rw [p5] at z2
      ((try simp only [lg_cmp_lt, lg_cmp_gt] at z1); simp (disch := omega) only [Int64.lt_iff_toInt_lt, Int32.toInt_toInt64, Int64.reduceToInt, ← Int32.toInt_inj, Int32.lt_iff_toInt_lt, Int32.le_iff_toInt_le, Int32.reduceToInt, nI_toInt, false_implies, true_implies, and_true, true_and, not_true_eq_false, not_false_eq_true, forall_const, implies_true, false_and, and_false, true_or, or_true, eq_self] at z1)
      ((try simp only [lg_cmp_lt, lg_cmp_gt] at z2); simp (disch := omega) only [ept, Int64.lt_iff_toInt_lt, Int32.toInt_toInt64, Int64.reduceToInt, ← Int32.toInt_inj, Int32.lt_iff_toInt_lt, Int32.le_iff_toInt_le, Int32.reduceToInt, nI_toInt, false_implies, true_implies, and_true, true_and, not_true_eq_false, not_false_eq_true, forall_const, implies_true, false_and, and_false, true_or, or_true, eq_self] at z2)
      omega
end E12
