section E13
variable {L : Nat} {xs : Nat → Int32} {d : Nat} {Q : AQ} {M M1 M2 : AM} {x x1 x2 x3 x4 x5 : Int32} {n w p v nw bn k0 k1 a b e c nu : Nat} {f : Nat → Nat → Nat} {io : Nat → Option Nat} {aw : Nat → Bool} {T : PV}
/-- one more: height a, comes at b, stays for e -/
def newf (f : Nat → Nat → Nat) (n a b e : Nat) : Nat → Nat → Nat := fun w p => if p = n then (if w = 0 then a else if w = 1 then b else if w = 2 then e else if w = 3 then 0 else 5) else f w p
theorem newf_at {w : Nat} : newf f n a b e w n = (if w = 0 then a else if w = 1 then b else if w = 2 then e else if w = 3 then 0 else 5) := if_pos rfl
theorem newf_ne {w p : Nat} (h : p ≠ n) : newf f n a b e w p = f w p := if_neg h
theorem crw.new (h : crw c nu n f M) (hn : n < 15) (hne : nu ≠ c) : crw c nu (n + 1) (newf f n a b e) (am_wi (am_wi (am_wi (am_wi (am_wi (am_wi (am_wi M c 1 (nI (n + 1))) nu (0 + n) (nI a)) nu (15 + n) (nI b)) nu (30 + n) (nI e)) nu (45 + n) 0) nu (60 + n) 5) c 3 1) := by
  refine ⟨?_, by omega, fun w p hw hp => ?_⟩
  · rw [wi_sl (by decide), wi_ne hne.symm, wi_ne hne.symm, wi_ne hne.symm, wi_ne hne.symm, wi_ne hne.symm, wi_eq]
  · rw [wi_ne hne, wi_rd, if_pos rfl, wi_rd, if_pos rfl, wi_rd, if_pos rfl, wi_rd, if_pos rfl, wi_rd, if_pos rfl, wi_ne hne]
    by_cases hpn : p = n
    · subst hpn
      rw [newf_at]
      have h5 : w = 0 ∨ w = 1 ∨ w = 2 ∨ w = 3 ∨ w = 4 := by omega
      rcases h5 with rfl | rfl | rfl | rfl | rfl
      · rw [if_neg (by omega), if_neg (by omega), if_neg (by omega), if_neg (by omega), if_pos (by omega)]; rfl
      · rw [if_neg (by omega), if_neg (by omega), if_neg (by omega), if_pos (by omega)]; rfl
      · rw [if_neg (by omega), if_neg (by omega), if_pos (by omega)]; rfl
      · rw [if_neg (by omega), if_pos (by omega)]; rfl
      · rw [if_pos (by omega)]; rfl
    · rw [newf_ne hpn, if_neg (by omega), if_neg (by omega), if_neg (by omega), if_neg (by omega), if_neg (by omega)]
      exact h.2.2 w p hw (by omega)
theorem pM.new (h : pM n f M) (hn : n < 15) : pM (n + 1) (newf f n a b e) (am_wi (am_wi (am_wi (am_wi (am_wi M 41 (5 * n + 0) (nI a)) 41 (5 * n + 1) (nI b)) 41 (5 * n + 2) (nI e)) 41 (5 * n + 3) 0) 41 (5 * n + 4) 5) := by
  refine ⟨by omega, fun w p hw hp => ?_⟩
  rw [wi_rd, if_pos rfl, wi_rd, if_pos rfl, wi_rd, if_pos rfl, wi_rd, if_pos rfl, wi_rd, if_pos rfl]
  by_cases hpn : p = n
  · subst hpn
    rw [newf_at]
    have h5 : w = 0 ∨ w = 1 ∨ w = 2 ∨ w = 3 ∨ w = 4 := by omega
    rcases h5 with rfl | rfl | rfl | rfl | rfl
    · rw [if_neg (by omega), if_neg (by omega), if_neg (by omega), if_neg (by omega), if_pos (by omega)]; rfl
    · rw [if_neg (by omega), if_neg (by omega), if_neg (by omega), if_pos (by omega)]; rfl
    · rw [if_neg (by omega), if_neg (by omega), if_pos (by omega)]; rfl
    · rw [if_neg (by omega), if_pos (by omega)]; rfl
    · rw [if_pos (by omega)]; rfl
  · rw [newf_ne hpn, if_neg (by omega), if_neg (by omega), if_neg (by omega), if_neg (by omega), if_neg (by omega)]
    exact h.2 w p hw (by omega)
theorem okP.new (h : okP n f) (ha : 100 ≤ a ∧ a ≤ 220) (hb : b ≤ 99) (he : 1 ≤ e ∧ e ≤ 99) : okP (n + 1) (newf f n a b e) := by
  intro p hp
  by_cases hpn : p = n
  · subst hpn
    simp only [newf_at]
    refine ⟨ha.1, ha.2, hb, he.1, he.2, Nat.zero_le _, ?_⟩
    exact (by decide : 5 ≤ 99)
  · have := h p (by omega)
    simp only [newf_ne hpn]
    exact this
theorem q15 (n : Nat) : (0 : Int32) + nI n = nI (0 + n) ∧ (15 : Int32) + nI n = nI (15 + n) ∧ (30 : Int32) + nI n = nI (30 + n) ∧ (45 : Int32) + nI n = nI (45 + n) ∧ (60 : Int32) + nI n = nI (60 + n) := ⟨nI_add 0 n, nI_add 15 n, nI_add 30 n, nI_add 45 n, nI_add 60 n⟩
theorem q5 (n : Nat) : (5 : Int32) * nI n + 0 = nI (5 * n + 0) ∧ (5 : Int32) * nI n + 1 = nI (5 * n + 1) ∧ (5 : Int32) * nI n + 2 = nI (5 * n + 2) ∧ (5 : Int32) * nI n + 3 = nI (5 * n + 3) ∧ (5 : Int32) * nI n + 4 = nI (5 * n + 4) := by
  rw [show (5 : Int32) * nI n = nI (5 * n) from n_mul 5 n]
  exact ⟨nI_add _ 0, nI_add _ 1, nI_add _ 2, nI_add _ 3, nI_add _ 4⟩
abbrev pK : List Nat := [1, 2, 41]
theorem Inv.new (hP : iP n f M) (hL : iL T M) (hT : iT M) (hC : iC n M) (hD : iD n M) (hA : iA bn M) (hS : iS bn M) (h23 : M.1 40 23 = -1) (F : fs pK [6] M M2) (r1 : crw 1 2 (n + 1) (newf f n a b e) M2) (r2 : M2.1 1 3 = 1) (r3 : pM (n + 1) (newf f n a b e) M2) (r4 : M2.1 40 6 = nI (n + 1)) (hn : n < 12) (ha : 100 ≤ a ∧ a ≤ 220) (hb : b ≤ 99) (he : 1 ≤ e ∧ e ≤ 99) : Inv M2 :=
  ⟨n + 1, newf f n a b e, T, bn, ⟨r1, Or.inl r2, by omega, hP.2.2.2.1.new ha hb he, r4, r3⟩, hL.keep F (by decide) (by decide), hT.keep F (by decide) (by decide), (hC.keep F (by decide) (by decide)).more (by omega), (hD.keep F (by decide) (by decide)).more (by omega), hA.keep F (by decide) (by decide), hS.keep F (by decide), by rw [F.j 23]; exact h23⟩
theorem j_person (hI : Inv M) (hd : 100 ≤ d) : Jn L xs d c_Mo_person c_Md_person [.ref 0, .int x1, .int x2] [.ref 40, .int x1, .int x2] M := by
  have hI0 := hI
  obtain ⟨n, f, T, bn, hP, hL, hT, hC, hD, hA, hS, h23⟩ := hI
  obtain ⟨d, rfl⟩ : ∃ a, d = a + 9 := ⟨d - 9, by omega⟩
  have hP0 := hP
  obtain ⟨p1, p2, p3, p4, p5, p6⟩ := hP
  have e1 := p1.1
  have eL0 : sLEAST (0 : Int32).toNatClampNeg = 100 := rfl
  have eG0 : sGREATEST (0 : Int32).toNatClampNeg = 220 := rfl
  have eL1 : sLEAST (1 : Int32).toNatClampNeg = 0 := rfl
  have eG1 : sGREATEST (1 : Int32).toNatClampNeg = 99 := rfl
  have v0 : vp_in (0 : Int32) 5 := (n_vp (a := 0) (by decide)).mpr (by decide)
  have v1 : vp_in (1 : Int32) 5 := (n_vp (a := 1) (by decide)).mpr (by decide)
  by_cases hx : 100 ≤ x1.toInt ∧ x1.toInt ≤ 220 ∧ 0 ≤ x2.toInt ∧ x2.toInt ≤ 99
  · obtain ⟨y1, y2, y3, y4⟩ := hx
    have cx : ∀ Q : AQ, _ → am_Call (gG L xs) (d + 9) c_Mo_person [.ref 0, .int x1, .int x2] M Q := fun Q W => t_Mo_person (by
      rw [eL0, eG0, eL1, eG1]
      exact ⟨v0, fun z => absurd z (by
        intro z
        ((try simp only [lg_cmp_lt, lg_cmp_gt] at z); simp (disch := omega) only [Int64.lt_iff_toInt_lt, Int32.toInt_toInt64, Int64.reduceToInt, ← Int32.toInt_inj, Int32.lt_iff_toInt_lt, Int32.le_iff_toInt_le, Int32.reduceToInt, nI_toInt, false_implies, true_implies, and_true, true_and, not_true_eq_false, not_false_eq_true, forall_const, implies_true, false_and, and_false, true_or, or_true, eq_self] at z)
        omega), fun _ => ⟨fun z => absurd z (by
        intro z
        ((try simp only [lg_cmp_lt, lg_cmp_gt] at z); simp (disch := omega) only [Int64.lt_iff_toInt_lt, Int32.toInt_toInt64, Int64.reduceToInt, ← Int32.toInt_inj, Int32.lt_iff_toInt_lt, Int32.le_iff_toInt_le, Int32.reduceToInt, nI_toInt, false_implies, true_implies, and_true, true_and, not_true_eq_false, not_false_eq_true, forall_const, implies_true, false_and, and_false, true_or, or_true, eq_self] at z)
        omega), fun _ => ⟨v1, fun z => absurd z (by
        intro z
        ((try simp only [lg_cmp_lt, lg_cmp_gt] at z); simp (disch := omega) only [Int64.lt_iff_toInt_lt, Int32.toInt_toInt64, Int64.reduceToInt, ← Int32.toInt_inj, Int32.lt_iff_toInt_lt, Int32.le_iff_toInt_le, Int32.reduceToInt, nI_toInt, false_implies, true_implies, and_true, true_and, not_true_eq_false, not_false_eq_true, forall_const, implies_true, false_and, and_false, true_or, or_true, eq_self] at z)
        omega), fun _ => ⟨fun z => absurd z (by
        intro z
        ((try simp only [lg_cmp_lt, lg_cmp_gt] at z); simp (disch := omega) only [Int64.lt_iff_toInt_lt, Int32.toInt_toInt64, Int64.reduceToInt, ← Int32.toInt_inj, Int32.lt_iff_toInt_lt, Int32.le_iff_toInt_le, Int32.reduceToInt, nI_toInt, false_implies, true_implies, and_true, true_and, not_true_eq_false, not_false_eq_true, forall_const, implies_true, false_and, and_false, true_or, or_true, eq_self] at z)
        omega), fun _ => W⟩⟩⟩⟩)
    have cm : ∀ (Q : AQ) (M1 : AM), _ → am_Call (gG L xs) (d + 9) c_Md_person [.ref 40, .int x1, .int x2] M1 Q := fun Q M1 W => t_Md_person (by
      exact ⟨fun z => absurd z (by
        intro z
        ((try simp only [lg_cmp_lt, lg_cmp_gt] at z); simp (disch := omega) only [Int64.lt_iff_toInt_lt, Int32.toInt_toInt64, Int64.reduceToInt, ← Int32.toInt_inj, Int32.lt_iff_toInt_lt, Int32.le_iff_toInt_le, Int32.reduceToInt, nI_toInt, false_implies, true_implies, and_true, true_and, not_true_eq_false, not_false_eq_true, forall_const, implies_true, false_and, and_false, true_or, or_true, eq_self] at z)
        omega), fun _ => ⟨fun z => absurd z (by
        intro z
        ((try simp only [lg_cmp_lt, lg_cmp_gt] at z); simp (disch := omega) only [Int64.lt_iff_toInt_lt, Int32.toInt_toInt64, Int64.reduceToInt, ← Int32.toInt_inj, Int32.lt_iff_toInt_lt, Int32.le_iff_toInt_le, Int32.reduceToInt, nI_toInt, false_implies, true_implies, and_true, true_and, not_true_eq_false, not_false_eq_true, forall_const, implies_true, false_and, and_false, true_or, or_true, eq_self] at z)
        omega), fun _ => ⟨fun z => absurd z (by
        intro z
        ((try simp only [lg_cmp_lt, lg_cmp_gt] at z); simp (disch := omega) only [Int64.lt_iff_toInt_lt, Int32.toInt_toInt64, Int64.reduceToInt, ← Int32.toInt_inj, Int32.lt_iff_toInt_lt, Int32.le_iff_toInt_le, Int32.reduceToInt, nI_toInt, false_implies, true_implies, and_true, true_and, not_true_eq_false, not_false_eq_true, forall_const, implies_true, false_and, and_false, true_or, or_true, eq_self] at z)
        omega), fun _ => ⟨fun z => absurd z (by
        intro z
        ((try simp only [lg_cmp_lt, lg_cmp_gt] at z); simp (disch := omega) only [Int64.lt_iff_toInt_lt, Int32.toInt_toInt64, Int64.reduceToInt, ← Int32.toInt_inj, Int32.lt_iff_toInt_lt, Int32.le_iff_toInt_le, Int32.reduceToInt, nI_toInt, false_implies, true_implies, and_true, true_and, not_true_eq_false, not_false_eq_true, forall_const, implies_true, false_and, and_false, true_or, or_true, eq_self] at z)
        omega), fun _ => ⟨fun z => absurd z (by decide), fun _ => ⟨fun z => absurd z (by decide), fun _ => W⟩⟩⟩⟩⟩⟩)
    by_cases h12 : n = 12
    · subst h12
      refine Jn.no (-3) hI0 (fun Q k => cx Q ⟨fun z => ?_, fun _ => k⟩) (fun Q k => cm Q M ⟨fun z => absurd p5 z, fun _ => k⟩)
      rw [e1] at z
      exact absurd ((n_ltI (b := 12) (by decide) (by decide)).mp z) (by decide)
    · obtain ⟨a, rfl, ha, -⟩ := n_ofI (x := x1) (by omega)
      obtain ⟨b, rfl, hb, -⟩ := n_ofI (x := x2) (by omega)
      refine Jn.of2 (v := nI n) (P := fun M1 => fr [1, 2] M M1 ∧ crw 1 2 (n + 1) (newf f n a b 99) M1 ∧ M1.1 1 3 = 1) (fun Q k => cx Q ⟨fun _ => ⟨fun _ => ?_, fun z => ?_⟩, fun z => ?_⟩) (fun M1 h Q k => cm Q M1 ⟨fun z => ?_, fun z => ?_⟩)
      · rw [e1, nI_1, (q15 n).1, (q15 n).2.1, (q15 n).2.2.1, (q15 n).2.2.2.1, (q15 n).2.2.2.2, n_cl (show 0 + n < 2 ^ 31 by omega), n_cl (show 15 + n < 2 ^ 31 by omega), n_cl (show 30 + n < 2 ^ 31 by omega), n_cl (show 45 + n < 2 ^ 31 by omega), n_cl (show 60 + n < 2 ^ 31 by omega)]
        exact ⟨(n_vp (by omega)).mpr (by omega), (n_vp (by omega)).mpr (by omega), (n_vp (by omega)).mpr (by omega), (n_vp (by omega)).mpr (by omega), (n_vp (by omega)).mpr (by omega), k _ ⟨((((((fr.rf.wi (by decide)).wi (by decide)).wi (by decide)).wi (by decide)).wi (by decide)).wi (by decide)).wi (by decide), p1.new (by omega) (by decide), wi_eq⟩⟩
      · rw [e1] at z
        exact absurd ((n_ltI (b := 15) (by omega) (by decide)).mpr (by omega)) z
      · rw [e1] at z
        exact absurd ((n_ltI (b := 12) (by omega) (by decide)).mpr (by omega)) z
      · obtain ⟨f1, r1, r2⟩ := h
        have e6 : M1.1 40 6 = nI n := by rw [f1.i 40]; exact p5
        have g : ∀ (q : AM), q.1 40 6 = nI n → nI n + 1 - 1 = nI n := fun _ _ => by rw [nI_1, n_top]
        simp only [show ∀ (k : Nat) (v : Int32) (q : AM), (am_wi q 41 k v).1 40 6 = q.1 40 6 from fun k v q => by rw [wi_ne (by decide)], e6]
        rw [(q5 n).1, (q5 n).2.1, (q5 n).2.2.1, (q5 n).2.2.2.1, (q5 n).2.2.2.2, n_cl (show 5 * n + 0 < 2 ^ 31 by omega), n_cl (show 5 * n + 1 < 2 ^ 31 by omega), n_cl (show 5 * n + 2 < 2 ^ 31 by omega), n_cl (show 5 * n + 3 < 2 ^ 31 by omega), n_cl (show 5 * n + 4 < 2 ^ 31 by omega), nI_1, n_top]
        refine ⟨(n_vp (by omega)).mpr (by omega), (n_vp (by omega)).mpr (by omega), (n_vp (by omega)).mpr (by omega), (n_vp (by omega)).mpr (by omega), (n_vp (by omega)).mpr (by omega), k _ ?_⟩
        have F : fs pK [6] M M1 := fs.of f1 (by decide) (by decide)
        have P6 : pM n f M1 := p6.keep (f1.i 41)
        refine Inv.new (a := a) (b := b) (e := 99) hP0 hL hT hC hD hA hS h23 ((((((F.c (by decide) (by decide)).c (by decide) (by decide)).c (by decide) (by decide)).c (by decide) (by decide)).c (by decide) (by decide)).s (by decide)) (r1.fr ?_ ?_) ?_ ((P6.new (by omega)).keep ?_) wi_eq (by omega) (by omega) (by omega) (by decide)
        · simp [wi_rd]
        · rw [wi_ne (by decide), wi_ne (by decide), wi_ne (by decide), wi_ne (by decide), wi_ne (by decide), wi_ne (by decide)]
        · rw [wi_ne (by decide), wi_ne (by decide), wi_ne (by decide), wi_ne (by decide), wi_ne (by decide), wi_ne (by decide)]; exact r2
        · rw [wi_ne (by decide)]; rfl
      · rw [h.1.i 40, p5] at z
        exact absurd ((nI_eq (b := 12) (by omega) (by decide)).mp z) h12
  · refine Jn.no (-1) hI0 (fun Q k => ?_) (fun Q k => ?_)
    · refine t_Mo_person ?_
      rw [eL0, eG0, eL1, eG1]
      refine ⟨v0, fun _ => k, fun z1 => ⟨fun _ => k, fun z2 => ⟨v1, fun _ => k, fun z3 => ⟨fun _ => k, fun z4 => ?_⟩⟩⟩⟩
      exfalso
      ((try simp only [lg_cmp_lt, lg_cmp_gt] at z1); simp (disch := omega) only [Int64.lt_iff_toInt_lt, Int32.toInt_toInt64, Int64.reduceToInt, ← Int32.toInt_inj, Int32.lt_iff_toInt_lt, Int32.le_iff_toInt_le, Int32.reduceToInt, nI_toInt, false_implies, true_implies, and_true, true_and, not_true_eq_false, not_false_eq_true, forall_const, implies_true, false_and, and_false, true_or, or_true, eq_self] at z1)
      ((try simp only [lg_cmp_lt, lg_cmp_gt] at z2); simp (disch := omega) only [Int64.lt_iff_toInt_lt, Int32.toInt_toInt64, Int64.reduceToInt, ← Int32.toInt_inj, Int32.lt_iff_toInt_lt, Int32.le_iff_toInt_le, Int32.reduceToInt, nI_toInt, false_implies, true_implies, and_true, true_and, not_true_eq_false, not_false_eq_true, forall_const, implies_true, false_and, and_false, true_or, or_true, eq_self] at z2)
      ((try simp only [lg_cmp_lt, lg_cmp_gt] at z3); simp (disch := omega) only [Int64.lt_iff_toInt_lt, Int32.toInt_toInt64, Int64.reduceToInt, ← Int32.toInt_inj, Int32.lt_iff_toInt_lt, Int32.le_iff_toInt_le, Int32.reduceToInt, nI_toInt, false_implies, true_implies, and_true, true_and, not_true_eq_false, not_false_eq_true, forall_const, implies_true, false_and, and_false, true_or, or_true, eq_self] at z3)
      ((try simp only [lg_cmp_lt, lg_cmp_gt] at z4); simp (disch := omega) only [Int64.lt_iff_toInt_lt, Int32.toInt_toInt64, Int64.reduceToInt, ← Int32.toInt_inj, Int32.lt_iff_toInt_lt, Int32.le_iff_toInt_le, Int32.reduceToInt, nI_toInt, false_implies, true_implies, and_true, true_and, not_true_eq_false, not_false_eq_true, forall_const, implies_true, false_and, and_false, true_or, or_true, eq_self] at z4)
      omega
    · refine t_Md_person ⟨fun _ => k, fun z1 => ⟨fun _ => k, fun z2 => ⟨fun _ => k, fun z3 => ⟨fun _ => k, fun z4 => ?_⟩⟩⟩⟩
      exfalso
      ((try simp only [lg_cmp_lt, lg_cmp_gt] at z1); simp (disch := omega) only [Int64.lt_iff_toInt_lt, Int32.toInt_toInt64, Int64.reduceToInt, ← Int32.toInt_inj, Int32.lt_iff_toInt_lt, Int32.le_iff_toInt_le, Int32.reduceToInt, nI_toInt, false_implies, true_implies, and_true, true_and, not_true_eq_false, not_false_eq_true, forall_const, implies_true, false_and, and_false, true_or, or_true, eq_self] at z1)
      ((try simp only [lg_cmp_lt, lg_cmp_gt] at z2); simp (disch := omega) only [Int64.lt_iff_toInt_lt, Int32.toInt_toInt64, Int64.reduceToInt, ← Int32.toInt_inj, Int32.lt_iff_toInt_lt, Int32.le_iff_toInt_le, Int32.reduceToInt, nI_toInt, false_implies, true_implies, and_true, true_and, not_true_eq_false, not_false_eq_true, forall_const, implies_true, false_and, and_false, true_or, or_true, eq_self] at z2)
      ((try simp only [lg_cmp_lt, lg_cmp_gt] at z3); simp (disch := omega) only [Int64.lt_iff_toInt_lt, Int32.toInt_toInt64, Int64.reduceToInt, ← Int32.toInt_inj, Int32.lt_iff_toInt_lt, Int32.le_iff_toInt_le, Int32.reduceToInt, nI_toInt, false_implies, true_implies, and_true, true_and, not_true_eq_false, not_false_eq_true, forall_const, implies_true, false_and, and_false, true_or, or_true, eq_self] at z3)
      ((try simp only [lg_cmp_lt, lg_cmp_gt] at z4); simp (disch := omega) only [Int64.lt_iff_toInt_lt, Int32.toInt_toInt64, Int64.reduceToInt, ← Int32.toInt_inj, Int32.lt_iff_toInt_lt, Int32.le_iff_toInt_le, Int32.reduceToInt, nI_toInt, false_implies, true_implies, and_true, true_and, not_true_eq_false, not_false_eq_true, forall_const, implies_true, false_and, and_false, true_or, or_true, eq_self] at z4)
      omega
end E13
