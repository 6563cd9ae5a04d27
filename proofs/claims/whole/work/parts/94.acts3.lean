section E18
variable {L : Nat} {xs : Nat → Int32} {d : Nat} {Q : AQ} {M M0 M1 M2 : AM} {x x1 x2 x3 x4 x5 x6 x7 x8 : Int32} {own nb a b c h k dp n bn : Nat} {s : Nat × (Nat → Int32)}
theorem nk {a b : Nat} (h : a < 8) (hb : b < 8) (z : nI a = nI b) : a = b := (nI_eq (by omega) (by omega)).mp z
theorem m_O0 (hk : k < 8) (h3 : k ≠ 3) (h5 : k ≠ 5) (h4 : k ≠ 4) (h7 : k ≠ 7) (hr : RM own nb s M0 M) (hs : s.1 + 100 < 2 ^ 20) (kk : ∀ M', RM own nb (o0 nb x s).2 M0 M' → Q (some (.int (o0 nb x s).1)) M') : am_Call (gG L xs) (d + 2) c_Md_opensAs [.ref 40, .int (nI k), .int x] M Q :=
  t_Md_opensAs ⟨fun z => absurd (nk (b := 3) hk (by decide) z) h3, fun _ => ⟨fun _ => ⟨fun z => absurd (nk (b := 4) hk (by decide) z) h4, fun _ => ⟨fun _ => m_nt (A := fun M' => Q (some (.int (x ^^^ M'.1 40 45))) M') 11 hr (by omega) (fun M1 r1 => by rw [r1.2.2.1]; exact kk _ r1), fun z => absurd (nk (b := 7) hk (by decide) z) h7⟩⟩, fun z => absurd (nk (b := 5) hk (by decide) z) h5⟩⟩
theorem m_O (ho : own < 8) (hk : k < 8) (hr : RM own nb s M0 M) (hs : s.1 + 110 < 2 ^ 20) (kk : ∀ M', RM own nb (fO own nb k x s).2 M0 M' → Q (some (.int (fO own nb k x s).1)) M') : am_Call (gG L xs) (d + 4) c_Md_opensAs [.ref 40, .int (nI k), .int x] M Q := by
  by_cases h3 : k = 3
  · subst h3
    exact t_Md_opensAs ⟨fun _ => m_nt (A := fun M' => am_Call (gG L xs) (d + 3) c_Md_opensAs [.ref 40, .int 2, .int x] M' (fun r M' => v_Md_opensAs L xs (d + 3) Q 22 [] (r.toList ++ []) M')) 40 hr (by omega) (fun M1 r1 => m_O0 (k := 2) (by decide) (by decide) (by decide) (by decide) (by decide) r1 (by rw [nt_1]; omega) (fun M2 r2 => u_Md_opensAs_22 (kk _ r2))), fun z => absurd rfl z⟩
  · by_cases h5 : k = 5
    · subst h5
      exact t_Md_opensAs ⟨fun z => absurd z (by decide), fun _ => ⟨fun z => absurd rfl z, fun _ => m_nt (A := fun M' => am_Call (gG L xs) (d + 3) c_Md_opensAs [.ref 40, .int 2, .int x] M' (fun r M' => v_Md_opensAs L xs (d + 3) Q 22 [] (r.toList ++ []) M')) 40 hr (by omega) (fun M1 r1 => m_O0 (k := 2) (by decide) (by decide) (by decide) (by decide) (by decide) r1 (by rw [nt_1]; omega) (fun M2 r2 => u_Md_opensAs_22 (kk _ r2)))⟩⟩
    · have h50 : (∀ M', RM own nb (fW nb own 2 (o0 nb x (nt 50 s)).2).2 M0 M' → Q (some (.int ((o0 nb x (nt 50 s)).1 - (fW nb own 2 (o0 nb x (nt 50 s)).2).1))) M') → (24 ≤ (M.1 40 43) → am_Call (gG L xs) (d + 3) c_Md_opensAs [.ref 40, .int 1, .int x] (am_wi M 40 43 ((M.1 40 43) + 1)) (fun r M' => v_Md_opensAs L xs (d + 3) Q 48 [(0, .ref 40)] (r.toList ++ []) M')) ∧ (¬ 24 ≤ (M.1 40 43) → (vp_in (M.1 40 43) 24) ∧ (am_Call (gG L xs) (d + 3) c_Md_opensAs [.ref 40, .int 1, .int x] (am_wi (am_wi M 56 ((M.1 40 43).toNatClampNeg) (50 : Int32)) 40 43 ((M.1 40 43) + 1)) (fun r M' => v_Md_opensAs L xs (d + 3) Q 48 [(0, .ref 40)] (r.toList ++ []) M'))) := fun kq =>
        m_nt (A := fun M' => am_Call (gG L xs) (d + 3) c_Md_opensAs [.ref 40, .int 1, .int x] M' (fun r M' => v_Md_opensAs L xs (d + 3) Q 48 [(0, .ref 40)] (r.toList ++ []) M')) 50 hr (by omega) (fun M1 r1 => m_O0 (k := 1) (by decide) (by decide) (by decide) (by decide) (by decide) r1 (by rw [nt_1]; omega) (fun M2 r2 => u_Md_opensAs_48 (by
          rw [r2.2.1]
          exact m_W ho r2 (by show s.1 + 1 + 1 + 100 < _; omega) (fun M3 r3 => u_Md_opensAs_59 (kq _ r3)))))
      by_cases h4 : k = 4
      · subst h4
        exact t_Md_opensAs ⟨fun z => absurd z (by decide), fun _ => ⟨fun _ => ⟨fun _ => h50 kk, fun z => absurd rfl z⟩, fun z => absurd z (by decide)⟩⟩
      · by_cases h7 : k = 7
        · subst h7
          exact t_Md_opensAs ⟨fun z => absurd z (by decide), fun _ => ⟨fun _ => ⟨fun z => absurd z (by decide), fun _ => ⟨fun z => absurd rfl z, fun _ => h50 kk⟩⟩, fun z => absurd z (by decide)⟩⟩
        · have e : fO own nb k x s = o0 nb x s := by
            unfold fO
            rw [if_neg (fun y => by rcases y with y | y <;> contradiction), if_neg (fun y => by rcases y with y | y <;> contradiction)]
          rw [e] at kk
          exact m_O0 hk h3 h5 h4 h7 hr (by omega) kk
theorem m_C0 (ho : own < 8) (hk : k < 8) (h3 : k ≠ 3) (h5 : k ≠ 5) (h2 : k ≠ 2) (h7 : k ≠ 7) (hr : RM own nb s M0 M) (hs : s.1 + 110 < 2 ^ 20) (kk : ∀ M', RM own nb (c0 own nb x s).2 M0 M' → Q (some (.int (c0 own nb x s).1)) M') : am_Call (gG L xs) (d + 4) c_Md_countsAs [.ref 40, .int (nI k), .int x] M Q :=
  t_Md_countsAs ⟨fun z => absurd (nk (b := 3) hk (by decide) z) h3, fun _ => ⟨fun _ => ⟨fun _ => ⟨fun _ => m_nt (A := fun M' => am_Call (gG L xs) (d + 3) c_Md_waitsAs [.ref 40, .int (M'.1 40 44), .int x] M' (fun r M' => v_Md_countsAs L xs (d + 3) Q 90 [] (r.toList ++ []) M')) 10 hr (by omega) (fun M1 r1 => by
    rw [r1.2.1]
    exact m_W ho r1 (by rw [nt_1]; omega) (fun M2 r2 => u_Md_countsAs_90 (kk _ r2))), fun z => absurd (nk (b := 7) hk (by decide) z) h7⟩, fun z => absurd (nk (b := 2) hk (by decide) z) h2⟩, fun z => absurd (nk (b := 5) hk (by decide) z) h5⟩⟩
theorem m_C2 (ho : own < 8) (hr : RM own nb s M0 M) (hs : s.1 + 120 < 2 ^ 20) (kk : ∀ M', RM own nb (c2 own nb x s).2 M0 M' → Q (some (.int (c2 own nb x s).1)) M') : am_Call (gG L xs) (d + 5) c_Md_countsAs [.ref 40, .int 2, .int x] M Q :=
  t_Md_countsAs ⟨fun z => absurd z (by decide), fun _ => ⟨fun _ => ⟨fun z => absurd rfl z, fun _ => m_nt (A := fun M' => am_Call (gG L xs) (d + 4) c_Md_countsAs [.ref 40, .int 0, .int x] M' (fun r M' => v_Md_countsAs L xs (d + 4) Q 42 [] (r.toList ++ []) M')) 30 hr (by omega) (fun M1 r1 => m_C0 (k := 0) ho (by decide) (by decide) (by decide) (by decide) (by decide) r1 (by rw [nt_1]; omega) (fun M2 r2 => u_Md_countsAs_42 (kk _ r2)))⟩, fun z => absurd z (by decide)⟩⟩
theorem m_C (ho : own < 8) (hk : k < 8) (hr : RM own nb s M0 M) (hs : s.1 + 130 < 2 ^ 20) (kk : ∀ M', RM own nb (fC own nb k x s).2 M0 M' → Q (some (.int (fC own nb k x s).1)) M') : am_Call (gG L xs) (d + 6) c_Md_countsAs [.ref 40, .int (nI k), .int x] M Q := by
  have h41 : (∀ M', RM own nb (c2 own nb (x + 1) (nt 41 s)).2 M0 M' → Q (some (.int (c2 own nb (x + 1) (nt 41 s)).1)) M') → (24 ≤ (M.1 40 43) → am_Call (gG L xs) (d + 5) c_Md_countsAs [.ref 40, .int 2, .int (x + 1)] (am_wi M 40 43 ((M.1 40 43) + 1)) (fun r M' => v_Md_countsAs L xs (d + 5) Q 24 [] (r.toList ++ []) M')) ∧ (¬ 24 ≤ (M.1 40 43) → (vp_in (M.1 40 43) 24) ∧ (am_Call (gG L xs) (d + 5) c_Md_countsAs [.ref 40, .int 2, .int (x + 1)] (am_wi (am_wi M 56 ((M.1 40 43).toNatClampNeg) (41 : Int32)) 40 43 ((M.1 40 43) + 1)) (fun r M' => v_Md_countsAs L xs (d + 5) Q 24 [] (r.toList ++ []) M'))) := fun kq =>
    m_nt (A := fun M' => am_Call (gG L xs) (d + 5) c_Md_countsAs [.ref 40, .int 2, .int (x + 1)] M' (fun r M' => v_Md_countsAs L xs (d + 5) Q 24 [] (r.toList ++ []) M')) 41 hr (by omega) (fun M1 r1 => m_C2 ho r1 (by rw [nt_1]; omega) (fun M2 r2 => u_Md_countsAs_24 (kq _ r2)))
  by_cases h3 : k = 3
  · subst h3
    exact t_Md_countsAs ⟨fun _ => h41 kk, fun z => absurd rfl z⟩
  · by_cases h5 : k = 5
    · subst h5
      exact t_Md_countsAs ⟨fun z => absurd z (by decide), fun _ => ⟨fun z => absurd rfl z, fun _ => h41 kk⟩⟩
    · by_cases h2 : k = 2
      · subst h2
        exact m_C2 ho hr (by omega) kk
      · by_cases h7 : k = 7
        · subst h7
          exact t_Md_countsAs ⟨fun z => absurd z (by decide), fun _ => ⟨fun _ => ⟨fun _ => ⟨fun z => absurd rfl z, fun _ => m_nt (A := fun M' => am_Call (gG L xs) (d + 5) c_Md_countsAs [.ref 40, .int 4, .int x] M' (fun r M' => v_Md_countsAs L xs (d + 5) Q 62 [(0, .ref 40)] (r.toList ++ []) M')) 80 hr (by omega) (fun M1 r1 => m_C0 (k := 4) ho (by decide) (by decide) (by decide) (by decide) (by decide) r1 (by rw [nt_1]; omega) (fun M2 r2 => u_Md_countsAs_62 (by
            rw [r2.2.1]
            have := c0_le (own := own) (nb := nb) (x := x) (s := nt 80 s)
            rw [nt_1] at this
            exact m_O ho ho r2 (by omega) (fun M3 r3 => u_Md_countsAs_73 (kk _ r3)))))⟩, fun z => absurd z (by decide)⟩, fun z => absurd z (by decide)⟩⟩
        · have e : fC own nb k x s = c0 own nb x s := by
            unfold fC
            rw [if_neg (fun y => by rcases y with y | y <;> contradiction), if_neg h2, if_neg h7]
          rw [e] at kk
          exact m_C0 ho hk h3 h5 h2 h7 hr (by omega) kk
theorem m_T0 (ho : own < 8) (hk : k < 8) (h5 : k ≠ 5) (h7 : k ≠ 7) (hr : RM own nb s M0 M) (hs : s.1 + 150 < 2 ^ 20) (kk : ∀ M', RM own nb (t0 own nb x s).2 M0 M' → Q (some (.int (t0 own nb x s).1)) M') : am_Call (gG L xs) (d + 7) c_Md_tellsAs [.ref 40, .int (nI k), .int x] M Q :=
  t_Md_tellsAs ⟨fun _ => ⟨fun _ => m_nt (A := fun M' => am_Call (gG L xs) (d + 6) c_Md_countsAs [.ref 40, .int (M'.1 40 44), .int x] M' (fun r M' => v_Md_tellsAs L xs (d + 6) Q 55 [(0, .ref 40)] (r.toList ++ []) M')) 2 hr (by omega) (fun M1 r1 => by
    rw [r1.2.1]
    refine m_C ho ho r1 (by rw [nt_1]; omega) (fun M2 r2 => u_Md_tellsAs_55 ?_)
    rw [r2.2.1]
    have := fC_le (own := own) (nb := nb) (k := own) (x := x) (s := nt 2 s)
    rw [nt_1] at this
    exact m_O ho ho r2 (by omega) (fun M3 r3 => u_Md_tellsAs_66 (kk _ r3))), fun z => absurd (nk (b := 7) hk (by decide) z) h7⟩, fun z => absurd (nk (b := 5) hk (by decide) z) h5⟩
theorem m_T (ho : own < 8) (hk : k < 8) (hr : RM own nb s M0 M) (hs : s.1 + 160 < 2 ^ 20) (kk : ∀ M', RM own nb (fT own nb k x s).2 M0 M' → Q (some (.int (fT own nb k x s).1)) M') : am_Call (gG L xs) (d + 8) c_Md_tellsAs [.ref 40, .int (nI k), .int x] M Q := by
  by_cases h5 : k = 5
  · subst h5
    exact t_Md_tellsAs ⟨fun z => absurd rfl z, fun _ => m_nt (A := fun M' => am_Call (gG L xs) (d + 7) c_Md_tellsAs [.ref 40, .int 3, .int x] M' (fun r M' => v_Md_tellsAs L xs (d + 7) Q 17 [] (r.toList ++ []) M')) 60 hr (by omega) (fun M1 r1 => m_T0 (k := 3) ho (by decide) (by decide) (by decide) r1 (by rw [nt_1]; omega) (fun M2 r2 => u_Md_tellsAs_17 (kk _ r2)))⟩
  · by_cases h7 : k = 7
    · subst h7
      exact t_Md_tellsAs ⟨fun _ => ⟨fun z => absurd rfl z, fun _ => m_nt (A := fun M' => am_Call (gG L xs) (d + 7) c_Md_tellsAs [.ref 40, .int 4, .int x] M' (fun r M' => v_Md_tellsAs L xs (d + 7) Q 38 [] (r.toList ++ []) M')) 81 hr (by omega) (fun M1 r1 => m_T0 (k := 4) ho (by decide) (by decide) (by decide) r1 (by rw [nt_1]; omega) (fun M2 r2 => u_Md_tellsAs_38 (kk _ r2)))⟩, fun z => absurd z (by decide)⟩
    · have e : fT own nb k x s = t0 own nb x s := by
        unfold fT
        rw [if_neg h5, if_neg h7]
      rw [e] at kk
      exact m_T0 ho hk h5 h7 hr (by omega) kk
theorem j_act (hI : Inv M) (hd : 100 ≤ d) : Jn L xs d c_Mo_act c_Md_act [.ref 0, .int x1, .int x2, .int x3] [.ref 40, .int x1, .int x2, .int x3] M := by
  have hI0 := hI
  obtain ⟨n, f, T, bn, hP, hL, hT, hC, hD, hA, hS, h23⟩ := hI
  obtain ⟨d, rfl⟩ : ∃ a, d = a + 16 := ⟨d - 16, by omega⟩
  obtain ⟨a1, a2, a3, ⟨kd, a4⟩, rn, r1, r2, r3, r4⟩ := hA
  have ebt : (nI bn - 1).toInt = (bn : Int) - 1 := n_pt (by omega)
  have eb : (nI bn).toInt = (bn : Int) := nI_toInt (by omega)
  -- the end
  have fin : ∀ (M1 M2 : AM) (s : Nat × (Nat → Int32)), s.1 < 2 ^ 20 → fr [37, 39] M M1 → M1.1 37 1 = M.1 37 1 → M1.1 37 3 = nI s.1 → (∀ i, i < 24 → i < s.1 → M1.1 39 i = s.2 i) → fs [56] [43, 44, 45] M1 M2 → M2.1 40 43 = nI s.1 → (∀ i, i < 24 → i < s.1 → M2.1 56 i = s.2 i) → Inv M2 := by
    intro M1 M2 s hs f1 b1 b3 b4 F2 c1 c2
    have F : fs [37, 39, 56] [43, 44, 45] M M2 := (fs.of (J := [43, 44, 45]) f1 (by decide) (by decide)).tt (F2.to (by decide) (by decide))
    exact ⟨n, f, T, bn, hP.keep F (by decide) (by decide) (fun k _ => by rw [F.i 41]), hL.keep F (by decide) (by decide), hT.keep F (by decide) (by decide), hC.keep F (by decide) (by decide), hD.keep F (by decide) (by decide), ⟨a1, by rw [F2.i 37, b1]; exact a2, by rw [F.j 40]; exact a3, ⟨kd, fun i hi => by rw [F.i 38, F.i 55]; exact a4 i hi⟩, s.1, hs, by rw [F2.i 37]; exact b3, c1, fun i hi hi2 => by rw [F2.i 39, b4 i hi2 hi, c2 i hi2 hi]⟩, hS.keep F (by decide), by rw [F.j 23]; exact h23⟩
  have e37 : (am_wi M 37 3 0).1 37 1 = nI bn := by rw [wi_sl (by decide)]; exact a2
  have no0 : ∀ (Q : AQ), (∀ M1, M1 = am_wi M 37 3 0 → Q (some (.int 0)) M1) → (¬ (0 ≤ x1.toInt ∧ x1.toInt < bn) ∨ ¬ (0 ≤ x2.toInt ∧ x2.toInt < 4)) → am_Call (gG L xs) (d + 16) c_Mo_act [.ref 0, .int x1, .int x2, .int x3] M Q := fun Q kq hv => by
    have K := kq _ rfl
    refine t_Mo_act (t_Acts_does ?_)
    rw [e37]
    refine ⟨fun _ => u_Mo_act_10 K, fun z1 => ⟨fun _ => u_Mo_act_10 K, fun z2 => ⟨fun _ => u_Mo_act_10 K, fun z3 => ⟨fun z4 => ?_, fun _ => u_Mo_act_10 K⟩⟩⟩⟩
    exfalso
    ((try simp only [lg_cmp_lt, lg_cmp_gt] at z1); simp (disch := omega) only [Int64.lt_iff_toInt_lt, Int32.toInt_toInt64, Int64.reduceToInt, ← Int32.toInt_inj, Int32.lt_iff_toInt_lt, Int32.le_iff_toInt_le, Int32.reduceToInt, nI_toInt, false_implies, true_implies, and_true, true_and, not_true_eq_false, not_false_eq_true, forall_const, implies_true, false_and, and_false, true_or, or_true, eq_self] at z1)
    ((try simp only [lg_cmp_lt, lg_cmp_gt] at z2); simp (disch := omega) only [eb, Int64.lt_iff_toInt_lt, Int32.toInt_toInt64, Int64.reduceToInt, ← Int32.toInt_inj, Int32.lt_iff_toInt_lt, Int32.le_iff_toInt_le, Int32.reduceToInt, nI_toInt, false_implies, true_implies, and_true, true_and, not_true_eq_false, not_false_eq_true, forall_const, implies_true, false_and, and_false, true_or, or_true, eq_self] at z2)
    ((try simp only [lg_cmp_lt, lg_cmp_gt] at z3); simp (disch := omega) only [Int64.lt_iff_toInt_lt, Int32.toInt_toInt64, Int64.reduceToInt, ← Int32.toInt_inj, Int32.lt_iff_toInt_lt, Int32.le_iff_toInt_le, Int32.reduceToInt, nI_toInt, false_implies, true_implies, and_true, true_and, not_true_eq_false, not_false_eq_true, forall_const, implies_true, false_and, and_false, true_or, or_true, eq_self] at z3)
    ((try simp only [lg_cmp_lt, lg_cmp_gt] at z4); simp (disch := omega) only [Int64.lt_iff_toInt_lt, Int32.toInt_toInt64, Int64.reduceToInt, ← Int32.toInt_inj, Int32.lt_iff_toInt_lt, Int32.le_iff_toInt_le, Int32.reduceToInt, nI_toInt, false_implies, true_implies, and_true, true_and, not_true_eq_false, not_false_eq_true, forall_const, implies_true, false_and, and_false, true_or, or_true, eq_self] at z4)
    omega
  have zer : ∀ (M1 : AM), M1 = am_wi M 37 3 0 → fr [37, 39] M M1 ∧ M1.1 37 1 = M.1 37 1 ∧ M1.1 37 3 = nI 0 := fun M1 e => by
    subst e
    exact ⟨fr.rf.wi (by decide), by rw [wi_sl (by decide)], wi_eq⟩
  by_cases hv : 0 ≤ x1.toInt ∧ x1.toInt < bn
  · obtain ⟨v1, v2⟩ := hv
    obtain ⟨nb, rfl, hb, -⟩ := n_ofI v1
    have hbn : nb < bn := by omega
    obtain ⟨q1, q2, q3⟩ := a4 nb hbn
    have enb : (nI nb).toInt = (nb : Int) := nI_toInt (by omega)
    have cm : ∀ (Q : AQ) (M1 : AM), M1.1 40 40 = nI bn → M1.1 55 nb = nI (kd nb) → ((x2 = 0 → am_Call (gG L xs) (d + 15) c_Md_waitsAs [.ref 40, .int (nI (kd nb)), .int x3] (am_wi (am_wi (am_wi M1 40 43 0) 40 44 (nI (kd nb))) 40 45 (nI nb)) (fun r M' => v_Md_act L xs (d + 15) Q 69 [] (r.toList ++ []) M')) ∧ (x2 = 1 → am_Call (gG L xs) (d + 15) c_Md_countsAs [.ref 40, .int (nI (kd nb)), .int x3] (am_wi (am_wi (am_wi M1 40 43 0) 40 44 (nI (kd nb))) 40 45 (nI nb)) (fun r M' => v_Md_act L xs (d + 15) Q 79 [] (r.toList ++ []) M')) ∧ (x2 = 2 → am_Call (gG L xs) (d + 15) c_Md_opensAs [.ref 40, .int (nI (kd nb)), .int x3] (am_wi (am_wi (am_wi M1 40 43 0) 40 44 (nI (kd nb))) 40 45 (nI nb)) (fun r M' => v_Md_act L xs (d + 15) Q 89 [] (r.toList ++ []) M')) ∧ (x2 = 3 → am_Call (gG L xs) (d + 15) c_Md_tellsAs [.ref 40, .int (nI (kd nb)), .int x3] (am_wi (am_wi (am_wi M1 40 43 0) 40 44 (nI (kd nb))) 40 45 (nI nb)) (fun r M' => v_Md_act L xs (d + 15) Q 99 [] (r.toList ++ []) M')) ∧ (¬ x2 = 0 → ¬ x2 = 1 → ¬ x2 = 2 → ¬ x2 = 3 → Q (some (.int 0)) (am_wi (am_wi (am_wi M1 40 43 0) 40 44 (nI (kd nb))) 40 45 (nI nb)))) → am_Call (gG L xs) (d + 16) c_Md_act [.ref 40, .int (nI nb), .int x2, .int x3] M1 Q := fun Q M1 e40 e55 W => by
      have e1 : (am_wi M1 40 43 0).1 40 40 = nI bn := by rw [wi_sl (by decide)]; exact e40
      have e2 : (am_wi M1 40 43 0).1 55 nb = nI (kd nb) := by rw [wi_ne (by decide)]; exact e55
      have e3 : (am_wi (am_wi (am_wi M1 40 43 0) 40 44 (nI (kd nb))) 40 45 (nI nb)).1 40 44 = nI (kd nb) := by rw [wi_sl (by decide), wi_eq]
      refine t_Md_act ?_
      rw [e1, n_cl (show nb < 2 ^ 31 by omega), e2, e3]
      exact ⟨fun z => absurd z (g_nn (by omega)), fun _ => ⟨fun z => absurd z (by
        intro z
        ((try simp only [lg_cmp_lt, lg_cmp_gt] at z); simp (disch := omega) only [enb, ebt, Int64.lt_iff_toInt_lt, Int32.toInt_toInt64, Int64.reduceToInt, ← Int32.toInt_inj, Int32.lt_iff_toInt_lt, Int32.le_iff_toInt_le, Int32.reduceToInt, nI_toInt, false_implies, true_implies, and_true, true_and, not_true_eq_false, not_false_eq_true, forall_const, implies_true, false_and, and_false, true_or, or_true, eq_self] at z)
        omega), fun _ => ⟨Or.inr rfl, (n_vp (by omega)).mpr (by omega), W⟩⟩⟩
    by_cases hw : 0 ≤ x2.toInt ∧ x2.toInt < 4
    · obtain ⟨w1, w2⟩ := hw
      obtain ⟨a, rfl, ha, -⟩ := n_ofI w1
      have ha4 : a < 4 := by omega
      have hle := fA_le (nb := nb) (k := kd nb) (a := a) (x := x3)
      refine Jn.of2 (v := (fA nb (kd nb) a x3).1) (P := fun M1 => RX (kd nb) nb (fA nb (kd nb) a x3).2 M M1) (fun Q k => ?_) (fun M1 h Q k => ?_)
      · refine t_Mo_act (t_Acts_does ?_)
        have e38 : (am_wi M 37 3 0).1 38 nb = nI (kd nb) := by rw [wi_ne (by decide)]; exact q2
        rw [e37, n_cl (show nb < 2 ^ 31 by omega), e38]
        refine ⟨fun z => absurd z (nI_pos (by omega)), fun _ => ⟨fun z => absurd ((n_leI (by omega) (by omega)).mp z) (by omega), fun _ => ⟨fun z => absurd z (nI_pos (by omega)), fun _ => ⟨fun _ => ⟨(n_vp (by omega)).mpr (by omega), ?_⟩, fun z => absurd ((n_ltI (b := 4) (by omega) (by decide)).mpr ha4) z⟩⟩⟩⟩
        refine x_act (M0 := M) q1 ha4 ⟨((fr.rf.wi (by decide)).wi (by decide)).wi (by decide), ?_, ?_, wi_eq, ?_, fun i _ z => by cases z⟩ (fun M' r => u_Acts_does_50 (u_Mo_act_10 (k _ r)))
        · rw [wi_sl (by decide), wi_sl (by decide), wi_sl (by decide)]
        · rw [wi_sl (by decide), wi_eq]
        · rw [wi_sl (by decide), wi_sl (by decide), wi_eq]; rfl
      · obtain ⟨f1, b1, b4, b5, b3, bt⟩ := h
        have R0 : RM (kd nb) nb (0, fun _ => 0) (am_wi (am_wi (am_wi M1 40 43 0) 40 44 (nI (kd nb))) 40 45 (nI nb)) (am_wi (am_wi (am_wi M1 40 43 0) 40 44 (nI (kd nb))) 40 45 (nI nb)) := ⟨fs.rf, by rw [wi_sl (by decide), wi_eq], wi_eq, by rw [wi_sl (by decide), wi_sl (by decide), wi_eq]; rfl, fun i _ z => by cases z⟩
        have K : ∀ M2, RM (kd nb) nb (fA nb (kd nb) a x3).2 (am_wi (am_wi (am_wi M1 40 43 0) 40 44 (nI (kd nb))) 40 45 (nI nb)) M2 → Q (some (.int (fA nb (kd nb) a x3).1)) M2 := fun M2 r => k _ (fin M1 M2 (fA nb (kd nb) a x3).2 (by omega) f1 b1 b3 bt ((((fs.rf.s (by decide)).s (by decide)).s (by decide)).tt (r.1.to (by decide) (by decide))) r.2.2.2.1 r.2.2.2.2)
        refine cm Q M1 (by rw [f1.i 40]; exact a3) (by rw [f1.i 55]; exact q3) ⟨fun z => ?_, fun z => ?_, fun z => ?_, fun z => ?_, fun z0 z1 z2 z3 => ?_⟩
        · have : a = 0 := (nI_eq (b := 0) (by omega) (by decide)).mp z
          subst this
          exact m_W q1 R0 (by decide) (fun M2 r => u_Md_act_69 (K M2 r))
        · have : a = 1 := (nI_eq (b := 1) (by omega) (by decide)).mp z
          subst this
          exact m_C q1 q1 R0 (by decide) (fun M2 r => u_Md_act_79 (K M2 r))
        · have : a = 2 := (nI_eq (b := 2) (by omega) (by decide)).mp z
          subst this
          exact m_O q1 q1 R0 (by decide) (fun M2 r => u_Md_act_89 (K M2 r))
        · have : a = 3 := (nI_eq (b := 3) (by omega) (by decide)).mp z
          subst this
          exact m_T q1 q1 R0 (by decide) (fun M2 r => u_Md_act_99 (K M2 r))
        · exfalso
          have y0 : a ≠ 0 := fun y => z0 (by rw [y]; rfl)
          have y1 : a ≠ 1 := fun y => z1 (by rw [y]; rfl)
          have y2 : a ≠ 2 := fun y => z2 (by rw [y]; rfl)
          have y3 : a ≠ 3 := fun y => z3 (by rw [y]; rfl)
          omega
    · refine Jn.of2 (v := 0) (P := fun M1 => M1 = am_wi M 37 3 0) (fun Q k => no0 Q k (Or.inr hw)) (fun M1 e Q k => ?_)
      obtain ⟨f1, b1, b3⟩ := zer M1 e
      have t0 : (0 : Int32).toInt = 0 := by decide
      have t1 : (1 : Int32).toInt = 1 := by decide
      have t2 : (2 : Int32).toInt = 2 := by decide
      have t3 : (3 : Int32).toInt = 3 := by decide
      refine cm Q M1 (by rw [f1.i 40]; exact a3) (by rw [f1.i 55]; exact q3) ⟨fun z => ?_, fun z => ?_, fun z => ?_, fun z => ?_, fun _ _ _ _ => k _ (fin M1 _ (0, fun _ => 0) (by decide) f1 b1 b3 (fun i _ z => by cases z) (((fs.rf.s (by decide)).s (by decide)).s (by decide)) ?_ (fun i _ z => by cases z))⟩
      · subst z; exact absurd ⟨by omega, by omega⟩ hw
      · subst z; exact absurd ⟨by omega, by omega⟩ hw
      · subst z; exact absurd ⟨by omega, by omega⟩ hw
      · subst z; exact absurd ⟨by omega, by omega⟩ hw
      · rw [wi_sl (by decide), wi_sl (by decide), wi_eq]; rfl
  · refine Jn.of2 (v := 0) (P := fun M1 => M1 = am_wi M 37 3 0) (fun Q k => no0 Q k (Or.inl hv)) (fun M1 e Q k => ?_)
    obtain ⟨f1, b1, b3⟩ := zer M1 e
    have K := k _ (fin M1 (am_wi M1 40 43 0) (0, fun _ => 0) (by decide) f1 b1 b3 (fun i _ z => by cases z) (fs.rf.s (by decide)) wi_eq (fun i _ z => by cases z))
    refine t_Md_act ⟨fun _ => ⟨Or.inl rfl, K⟩, fun z1 => ⟨fun _ => ⟨Or.inl rfl, K⟩, fun z2 => ?_⟩⟩
    exfalso
    rw [wi_sl (by decide), f1.i 40, a3] at z2
    ((try simp only [lg_cmp_lt, lg_cmp_gt] at z1); simp (disch := omega) only [Int64.lt_iff_toInt_lt, Int32.toInt_toInt64, Int64.reduceToInt, ← Int32.toInt_inj, Int32.lt_iff_toInt_lt, Int32.le_iff_toInt_le, Int32.reduceToInt, nI_toInt, false_implies, true_implies, and_true, true_and, not_true_eq_false, not_false_eq_true, forall_const, implies_true, false_and, and_false, true_or, or_true, eq_self] at z1)
    ((try simp only [lg_cmp_lt, lg_cmp_gt] at z2); simp (disch := omega) only [ebt, Int64.lt_iff_toInt_lt, Int32.toInt_toInt64, Int64.reduceToInt, ← Int32.toInt_inj, Int32.lt_iff_toInt_lt, Int32.le_iff_toInt_le, Int32.reduceToInt, nI_toInt, false_implies, true_implies, and_true, true_and, not_true_eq_false, not_false_eq_true, forall_const, implies_true, false_and, and_false, true_or, or_true, eq_self] at z2)
    omega
end E18
