section E14
variable {L : Nat} {xs : Nat → Int32} {d : Nat} {Q : AQ} {M M1 M2 : AM} {x x1 x2 x3 x4 x5 : Int32} {n w p v nw bn k0 k1 a b e c nu s0 j i0 m : Nat} {f : Nat → Nat → Nat} {io : Nat → Option Nat} {aw : Nat → Bool} {T : PV} {g : Nat → Int32}
theorem t_nar (z : Int32) : Int64.toInt32 (Int32.toInt64 z) = z := by simp
theorem t_s3 {k c : Nat} (hk : k < 2 ^ 20) (hc : c < 2 ^ 20) : ((nI k - 3) - 3 * nI c).toInt = (k : Int) - 3 - 3 * c := by
  have e1 : (3 : Int32) * nI c = nI (3 * c) := n_mul 3 c
  have e2 : (nI k - 3) - nI (3 * c) = nI k - nI (3 + 3 * c) := by
    have h := nI_add 3 (3 * c)
    rw [← h, show nI 3 = (3 : Int32) from rfl]
    grind
  rw [e1, e2, pk_sub_toInt (by omega) (by omega)]
  omega
theorem s_cell {v : Int64} (hd : 4 ≤ d) (h0 : s0 < 6) (h23 : M.1 23 s0 = nI 1) (h24 : M.1 24 s0 = nI k0) (hk : k0 ≤ 60) (hj : j < k0) (hr : M.2 25 (60 * s0 + j) = v) (kk : Q (some (.long v)) M) : am_Call (gG L xs) d c_Shelves_cell [.ref 21, .int (nI s0), .int (nI j)] M Q := by
  obtain ⟨d, rfl⟩ : ∃ a, d = a + 1 := ⟨d - 1, by omega⟩
  have ej : (nI j).toInt = (j : Int) := nI_toInt (by omega)
  have e60 : nI s0 * 60 + nI j = nI (s0 * 60 + j) := by
    rw [show nI s0 * 60 = nI (s0 * 60) from n_mul s0 60, nI_add]
  refine t_Shelves_cell (s_isPlace (by omega) h0 h23 h24 (by decide) hk (u_Shelves_cell_6 ⟨fun z => ?_, fun _ => ?_⟩))
  · rw [decide_eq_true (by omega)] at z
    exact absurd z (by decide)
  · rw [e60, n_cl (show s0 * 60 + j < 2 ^ 31 by omega), Nat.mul_comm s0 60, hr]
    exact ⟨(n_vp (by omega)).mpr (by omega), kk⟩
abbrev ok3 (x y z : Int32) : Prop := (100 ≤ x.toInt ∧ x.toInt ≤ 220) ∧ (0 ≤ y.toInt ∧ y.toInt ≤ 99) ∧ 1 ≤ z.toInt ∧ z.toInt ≤ 99
/-- who joins from a row -/
def pj (g : Nat → Int32) (k i0 : Nat) : Nat → Nat → Nat → (Nat → Nat → Nat) → Nat × Nat × (Nat → Nat → Nat)
  | 0, c, n, f => (c, n, f)
  | j + 1, c, n, f => if i0 + 3 * c + 2 < k ∧ n < 12 ∧ ok3 (g (i0 + 3 * c)) (g (i0 + 3 * c + 1)) (g (i0 + 3 * c + 2)) then pj g k i0 j (c + 1) (n + 1) (newf f n (g (i0 + 3 * c)).toInt.toNat (g (i0 + 3 * c + 1)).toInt.toNat (g (i0 + 3 * c + 2)).toInt.toNat) else (c, n, f)
theorem i_nat {x : Int32} (h : 0 ≤ x.toInt) : x = nI x.toInt.toNat := by
  obtain ⟨k, e, hk, -⟩ := n_ofI h
  rw [show x.toInt.toNat = k from by omega]; exact e
theorem pj_ok {k : Nat} : ∀ (j c n : Nat) (f : Nat → Nat → Nat), n ≤ 12 → okP n f → n ≤ (pj g k i0 j c n f).2.1 ∧ (pj g k i0 j c n f).2.1 ≤ 12 ∧ okP (pj g k i0 j c n f).2.1 (pj g k i0 j c n f).2.2
  | 0, c, n, f, hn, ho => ⟨Nat.le_refl _, hn, ho⟩
  | j + 1, c, n, f, hn, ho => by
    unfold pj
    split
    · rename_i z
      obtain ⟨z1, z2, z3, z4, z5⟩ := z
      have := pj_ok (k := k) j (c + 1) (n + 1) _ (by omega) (ho.new (a := (g (i0 + 3 * c)).toInt.toNat) (b := (g (i0 + 3 * c + 1)).toInt.toNat) (e := (g (i0 + 3 * c + 2)).toInt.toNat) (by omega) (by omega) (by omega))
      exact ⟨by omega, this.2⟩
    · exact ⟨Nat.le_refl _, hn, ho⟩
theorem x_pj {k : Nat} (h0 : s0 < 6) (hk : k ≤ 60) (hi : i0 < 2 ^ 31) (hm : m ≤ 12) (h23 : M.1 23 s0 = nI 1) (h24 : M.1 24 s0 = nI k) (hr : ∀ i, i < k → M.2 25 (60 * s0 + i) = Int32.toInt64 (g i)) : ∀ (j c n : Nat) (f : Nat → Nat → Nat) (M1 : AM), c + j = m → fr [1, 2] M M1 → crw 1 2 n f M1 → cch 1 3 n f M1 → n ≤ 12 → okP n f → (∀ M2, fr [1, 2] M M2 → crw 1 2 (pj g k i0 j c n f).2.1 (pj g k i0 j c n f).2.2 M2 → cch 1 3 (pj g k i0 j c n f).2.1 (pj g k i0 j c n f).2.2 M2 → Q (some (.int (nI (pj g k i0 j c n f).1))) M2) → v_Mo_joinFromRow L xs (d + 4) Q 3 [(0, .ref 0), (1, .int (nI s0)), (2, .int (nI i0)), (3, .int (nI m)), (4, .int (nI c))] [] M1
  | 0, c, n, f, M1, hc, F, h1, h2, hn, ho, kk => by
    have : c = m := by omega
    subst this
    exact u_Mo_joinFromRow_3 ⟨fun _ => kk M1 F h1 h2, fun z => absurd ((n_leI (by omega) (by omega)).mpr (Nat.le_refl _)) z⟩
  | j + 1, c, n, f, M1, hc, F, h1, h2, hn, ho, kk => by
    have e23 : M1.1 23 s0 = nI 1 := by rw [F.i 23]; exact h23
    have e24 : M1.1 24 s0 = nI k := by rw [F.i 24]; exact h24
    have er : ∀ i, i < k → M1.2 25 (60 * s0 + i) = Int32.toInt64 (g i) := fun i hi => by rw [F.l 25]; exact hr i hi
    have no : ¬ (i0 + 3 * c + 2 < k ∧ n < 12 ∧ ok3 (g (i0 + 3 * c)) (g (i0 + 3 * c + 1)) (g (i0 + 3 * c + 2))) → Q (some (.int (nI c))) M1 := fun z => by
      unfold pj at kk
      rw [if_neg z] at kk
      exact kk M1 F h1 h2
    refine u_Mo_joinFromRow_3 ⟨fun z => absurd ((n_leI (by omega) (by omega)).mp z) (by omega), fun _ => ⟨fun z => absurd z (nI_pos (by omega)), fun _ => ⟨fun z60 => ?_, fun z => no (fun y => ?_)⟩⟩⟩
    · have z60 := (n_leI (b := 60) (by omega) (by decide)).mp z60
      have e3 : nI i0 + 3 * nI c = nI (i0 + 3 * c) := by rw [show (3 : Int32) * nI c = nI (3 * c) from n_mul 3 c, nI_add]
      rw [e3]
      have t0 : (nI (i0 + 3 * c)).toInt = ((i0 + 3 * c : Nat) : Int) := nI_toInt (by omega)
      have t2 : (nI (i0 + 3 * c + 2)).toInt = ((i0 + 3 * c + 2 : Nat) : Int) := nI_toInt (by omega)
      refine s_isPlace (by omega) h0 e23 e24 (by decide) hk (u_Mo_joinFromRow_40 ⟨fun z => no (fun y => ?_), fun _ => ?_⟩)
      · rw [decide_eq_true (by omega)] at z; exact absurd z (by decide)
      · rw [show nI (i0 + 3 * c) + 2 = nI (i0 + 3 * c + 2) from nI_add _ 2]
        refine s_isPlace (by omega) h0 e23 e24 (by decide) hk (u_Mo_joinFromRow_55 ⟨fun z => ?_, fun z => no (fun y => ?_)⟩)
        · have h3 : i0 + 3 * c + 2 < k := by
            have := b2i_n0.mp z
            have := of_decide_eq_true this
            omega
          refine s_cell (by omega) h0 e23 e24 hk (by omega) (er _ (by omega)) (u_Mo_joinFromRow_71 ?_)
          rw [show nI (i0 + 3 * c) + 1 = nI (i0 + 3 * c + 1) from nI_add _ 1]
          refine s_cell (by omega) h0 e23 e24 hk (by omega) (er _ (by omega)) (u_Mo_joinFromRow_86 ?_)
          rw [show nI (i0 + 3 * c) + 2 = nI (i0 + 3 * c + 2) from nI_add _ 2]
          refine s_cell (by omega) h0 e23 e24 hk h3 (er _ h3) (u_Mo_joinFromRow_101 ?_)
          rw [t_nar, t_nar, t_nar, h1.1]
          have eL0 : sLEAST (0 : Int32).toNatClampNeg = 100 := rfl
          have eG0 : sGREATEST (0 : Int32).toNatClampNeg = 220 := rfl
          have eL1 : sLEAST (1 : Int32).toNatClampNeg = 0 := rfl
          have eG1 : sGREATEST (1 : Int32).toNatClampNeg = 99 := rfl
          have eL2 : sLEAST (2 : Int32).toNatClampNeg = 1 := rfl
          have eG2 : sGREATEST (2 : Int32).toNatClampNeg = 99 := rfl
          rw [eL0, eG0, eL1, eG1, eL2, eG2]
          refine ⟨(n_vp (a := 0) (by decide)).mpr (by decide), fun q => no (fun y => ?_), fun q1 => ⟨fun q => no (fun y => ?_), fun q2 => ⟨(n_vp (a := 1) (by decide)).mpr (by decide), fun q => no (fun y => ?_), fun q3 => ⟨fun q => no (fun y => ?_), fun q4 => ⟨(n_vp (a := 2) (by decide)).mpr (by decide), fun q => no (fun y => ?_), fun q5 => ⟨fun q => no (fun y => ?_), fun q6 => ⟨fun q7 => ⟨fun _ => ?_, fun q => ?_⟩, fun q => no (fun y => ?_)⟩⟩⟩⟩⟩⟩⟩
          · obtain ⟨-, -, y1, y2, y3⟩ := y
            ((try simp only [lg_cmp_lt, lg_cmp_gt] at q); simp (disch := omega) only [Int64.lt_iff_toInt_lt, Int32.toInt_toInt64, Int64.reduceToInt, ← Int32.toInt_inj, Int32.lt_iff_toInt_lt, Int32.le_iff_toInt_le, Int32.reduceToInt, nI_toInt, false_implies, true_implies, and_true, true_and, not_true_eq_false, not_false_eq_true, forall_const, implies_true, false_and, and_false, true_or, or_true, eq_self] at q)
            omega
          · obtain ⟨-, -, y1, y2, y3⟩ := y
            ((try simp only [lg_cmp_lt, lg_cmp_gt] at q); simp (disch := omega) only [Int64.lt_iff_toInt_lt, Int32.toInt_toInt64, Int64.reduceToInt, ← Int32.toInt_inj, Int32.lt_iff_toInt_lt, Int32.le_iff_toInt_le, Int32.reduceToInt, nI_toInt, false_implies, true_implies, and_true, true_and, not_true_eq_false, not_false_eq_true, forall_const, implies_true, false_and, and_false, true_or, or_true, eq_self] at q)
            omega
          · obtain ⟨-, -, y1, y2, y3⟩ := y
            ((try simp only [lg_cmp_lt, lg_cmp_gt] at q); simp (disch := omega) only [Int64.lt_iff_toInt_lt, Int32.toInt_toInt64, Int64.reduceToInt, ← Int32.toInt_inj, Int32.lt_iff_toInt_lt, Int32.le_iff_toInt_le, Int32.reduceToInt, nI_toInt, false_implies, true_implies, and_true, true_and, not_true_eq_false, not_false_eq_true, forall_const, implies_true, false_and, and_false, true_or, or_true, eq_self] at q)
            omega
          · obtain ⟨-, -, y1, y2, y3⟩ := y
            ((try simp only [lg_cmp_lt, lg_cmp_gt] at q); simp (disch := omega) only [Int64.lt_iff_toInt_lt, Int32.toInt_toInt64, Int64.reduceToInt, ← Int32.toInt_inj, Int32.lt_iff_toInt_lt, Int32.le_iff_toInt_le, Int32.reduceToInt, nI_toInt, false_implies, true_implies, and_true, true_and, not_true_eq_false, not_false_eq_true, forall_const, implies_true, false_and, and_false, true_or, or_true, eq_self] at q)
            omega
          · obtain ⟨-, -, y1, y2, y3⟩ := y
            ((try simp only [lg_cmp_lt, lg_cmp_gt] at q); simp (disch := omega) only [Int64.lt_iff_toInt_lt, Int32.toInt_toInt64, Int64.reduceToInt, ← Int32.toInt_inj, Int32.lt_iff_toInt_lt, Int32.le_iff_toInt_le, Int32.reduceToInt, nI_toInt, false_implies, true_implies, and_true, true_and, not_true_eq_false, not_false_eq_true, forall_const, implies_true, false_and, and_false, true_or, or_true, eq_self] at q)
            omega
          · obtain ⟨-, -, y1, y2, y3⟩ := y
            ((try simp only [lg_cmp_lt, lg_cmp_gt] at q); simp (disch := omega) only [Int64.lt_iff_toInt_lt, Int32.toInt_toInt64, Int64.reduceToInt, ← Int32.toInt_inj, Int32.lt_iff_toInt_lt, Int32.le_iff_toInt_le, Int32.reduceToInt, nI_toInt, false_implies, true_implies, and_true, true_and, not_true_eq_false, not_false_eq_true, forall_const, implies_true, false_and, and_false, true_or, or_true, eq_self] at q)
            omega
          · have q7 := (n_ltI (b := 12) (by omega) (by decide)).mp q7
            have hok : ok3 (g (i0 + 3 * c)) (g (i0 + 3 * c + 1)) (g (i0 + 3 * c + 2)) := by
              ((try simp only [lg_cmp_lt, lg_cmp_gt] at q1); simp (disch := omega) only [Int64.lt_iff_toInt_lt, Int32.toInt_toInt64, Int64.reduceToInt, ← Int32.toInt_inj, Int32.lt_iff_toInt_lt, Int32.le_iff_toInt_le, Int32.reduceToInt, nI_toInt, false_implies, true_implies, and_true, true_and, not_true_eq_false, not_false_eq_true, forall_const, implies_true, false_and, and_false, true_or, or_true, eq_self] at q1)
              ((try simp only [lg_cmp_lt, lg_cmp_gt] at q2); simp (disch := omega) only [Int64.lt_iff_toInt_lt, Int32.toInt_toInt64, Int64.reduceToInt, ← Int32.toInt_inj, Int32.lt_iff_toInt_lt, Int32.le_iff_toInt_le, Int32.reduceToInt, nI_toInt, false_implies, true_implies, and_true, true_and, not_true_eq_false, not_false_eq_true, forall_const, implies_true, false_and, and_false, true_or, or_true, eq_self] at q2)
              ((try simp only [lg_cmp_lt, lg_cmp_gt] at q3); simp (disch := omega) only [Int64.lt_iff_toInt_lt, Int32.toInt_toInt64, Int64.reduceToInt, ← Int32.toInt_inj, Int32.lt_iff_toInt_lt, Int32.le_iff_toInt_le, Int32.reduceToInt, nI_toInt, false_implies, true_implies, and_true, true_and, not_true_eq_false, not_false_eq_true, forall_const, implies_true, false_and, and_false, true_or, or_true, eq_self] at q3)
              ((try simp only [lg_cmp_lt, lg_cmp_gt] at q4); simp (disch := omega) only [Int64.lt_iff_toInt_lt, Int32.toInt_toInt64, Int64.reduceToInt, ← Int32.toInt_inj, Int32.lt_iff_toInt_lt, Int32.le_iff_toInt_le, Int32.reduceToInt, nI_toInt, false_implies, true_implies, and_true, true_and, not_true_eq_false, not_false_eq_true, forall_const, implies_true, false_and, and_false, true_or, or_true, eq_self] at q4)
              ((try simp only [lg_cmp_lt, lg_cmp_gt] at q5); simp (disch := omega) only [Int64.lt_iff_toInt_lt, Int32.toInt_toInt64, Int64.reduceToInt, ← Int32.toInt_inj, Int32.lt_iff_toInt_lt, Int32.le_iff_toInt_le, Int32.reduceToInt, nI_toInt, false_implies, true_implies, and_true, true_and, not_true_eq_false, not_false_eq_true, forall_const, implies_true, false_and, and_false, true_or, or_true, eq_self] at q5)
              ((try simp only [lg_cmp_lt, lg_cmp_gt] at q6); simp (disch := omega) only [Int64.lt_iff_toInt_lt, Int32.toInt_toInt64, Int64.reduceToInt, ← Int32.toInt_inj, Int32.lt_iff_toInt_lt, Int32.le_iff_toInt_le, Int32.reduceToInt, nI_toInt, false_implies, true_implies, and_true, true_and, not_true_eq_false, not_false_eq_true, forall_const, implies_true, false_and, and_false, true_or, or_true, eq_self] at q6)
              exact ⟨by omega, by omega, by omega⟩
            have hok' := hok
            obtain ⟨y1, y2, y3⟩ := hok'
            have g0 := i_nat (x := g (i0 + 3 * c)) (by omega)
            have g1 := i_nat (x := g (i0 + 3 * c + 1)) (by omega)
            have g2 := i_nat (x := g (i0 + 3 * c + 2)) (by omega)
            unfold pj at kk
            rw [if_pos ⟨h3, q7, hok⟩] at kk
            obtain ⟨a, ea⟩ : ∃ a, a = (g (i0 + 3 * c)).toInt.toNat := ⟨_, rfl⟩
            obtain ⟨b, eb⟩ : ∃ b, b = (g (i0 + 3 * c + 1)).toInt.toNat := ⟨_, rfl⟩
            obtain ⟨e, ee⟩ : ∃ e, e = (g (i0 + 3 * c + 2)).toInt.toNat := ⟨_, rfl⟩
            have ha : 100 ≤ a ∧ a ≤ 220 := by omega
            have hb : b ≤ 99 := by omega
            have he : 1 ≤ e ∧ e ≤ 99 := by omega
            rw [← ea] at g0 kk
            rw [← eb] at g1 kk
            rw [← ee] at g2 kk
            rw [g0, g1, g2, nI_1, nI_1, (q15 n).1, (q15 n).2.1, (q15 n).2.2.1, (q15 n).2.2.2.1, (q15 n).2.2.2.2, n_cl (show 0 + n < 2 ^ 31 by omega), n_cl (show 15 + n < 2 ^ 31 by omega), n_cl (show 30 + n < 2 ^ 31 by omega), n_cl (show 45 + n < 2 ^ 31 by omega), n_cl (show 60 + n < 2 ^ 31 by omega)]
            exact ⟨(n_vp (by omega)).mpr (by omega), (n_vp (by omega)).mpr (by omega), (n_vp (by omega)).mpr (by omega), (n_vp (by omega)).mpr (by omega), (n_vp (by omega)).mpr (by omega), x_pj h0 hk hi hm h23 h24 hr j (c + 1) (n + 1) _ _ (by omega) (((((((F.wi (by decide)).wi (by decide)).wi (by decide)).wi (by decide)).wi (by decide)).wi (by decide)).wi (by decide)) (h1.new (by omega) (by decide)) (Or.inl wi_eq) (by omega) (ho.new ha hb he) kk⟩
          · exact absurd ((n_ltI (b := 15) (by omega) (by decide)).mpr (by omega)) q
          · exact q ((n_ltI (b := 12) (by omega) (by decide)).mpr y.2.1)
        · have := b2i_0.mp z
          have := of_decide_eq_false this
          omega
    · exact z ((n_leI (b := 60) (by omega) (by decide)).mpr (by omega))
end E14
