section E11
variable {L : Nat} {xs : Nat → Int32} {d : Nat} {Q : AQ} {M M1 M2 : AM} {x x1 x2 x3 x4 x5 : Int32} {n w p v nw bn k0 k1 : Nat} {f : Nat → Nat → Nat} {io : Nat → Option Nat} {aw : Nat → Bool} {T : PV} {P W B A : Nat → Nat}
theorem cps_rd (M : AM) (a b s n c j : Nat) : (am_cpi M a b s 0 n).1 c j = if c = b then (if j < n then M.1 a (s + j) else M.1 b j) else M.1 c j := by
  show am_ur M.1 b (va_cpy (M.1 a) (M.1 b) s 0 n) c j = _
  by_cases h : c = b
  · subst h
    rw [if_pos rfl, am_ur_eq]
    show (if 0 ≤ j ∧ j < 0 + n then M.1 a (s + (j - 0)) else M.1 c j) = _
    by_cases h2 : j < n
    · rw [if_pos h2, if_pos (by omega), Nat.sub_zero]
    · rw [if_neg h2, if_neg (by omega)]
  · rw [if_neg h, am_ur_ne h]
theorem m_mayB (hd : 2 ≤ d) (hw : w < 5) (k1 : (sLEAST w).toInt ≤ x.toInt → x.toInt ≤ (sGREATEST w).toInt → Q (some (.int 1)) M) (k0 : ¬ ((sLEAST w).toInt ≤ x.toInt ∧ x.toInt ≤ (sGREATEST w).toInt) → Q (some (.int 0)) M) : am_Call (gG L xs) d c_Md_mayBecome [.int (nI w), .int x] M Q := by
  obtain ⟨d, rfl⟩ : ∃ a, d = a + 2 := ⟨d - 2, by omega⟩
  have h5 : w = 0 ∨ w = 1 ∨ w = 2 ∨ w = 3 ∨ w = 4 := by omega
  rcases h5 with rfl | rfl | rfl | rfl | rfl
  · rw [show (sLEAST 0).toInt = 100 from by decide, show (sGREATEST 0).toInt = 220 from by decide] at k1 k0
    exact t_Md_mayBecome ⟨fun _ => ⟨fun z1 => ⟨Or.inl rfl, k0 (by
        ((try simp only [lg_cmp_lt, lg_cmp_gt] at z1); simp (disch := omega) only [Int64.lt_iff_toInt_lt, Int32.toInt_toInt64, Int64.reduceToInt, ← Int32.toInt_inj, Int32.lt_iff_toInt_lt, Int32.le_iff_toInt_le, Int32.reduceToInt, nI_toInt, false_implies, true_implies, and_true, true_and, not_true_eq_false, not_false_eq_true, forall_const, implies_true, false_and, and_false, true_or, or_true, eq_self] at z1)
        omega)⟩, fun z1 => ⟨fun z2 => ⟨Or.inl rfl, k0 (by
        ((try simp only [lg_cmp_lt, lg_cmp_gt] at z2); simp (disch := omega) only [Int64.lt_iff_toInt_lt, Int32.toInt_toInt64, Int64.reduceToInt, ← Int32.toInt_inj, Int32.lt_iff_toInt_lt, Int32.le_iff_toInt_le, Int32.reduceToInt, nI_toInt, false_implies, true_implies, and_true, true_and, not_true_eq_false, not_false_eq_true, forall_const, implies_true, false_and, and_false, true_or, or_true, eq_self] at z2)
        omega)⟩, fun z2 => ⟨Or.inr rfl, k1 (by
        ((try simp only [lg_cmp_lt, lg_cmp_gt] at z1); simp (disch := omega) only [Int64.lt_iff_toInt_lt, Int32.toInt_toInt64, Int64.reduceToInt, ← Int32.toInt_inj, Int32.lt_iff_toInt_lt, Int32.le_iff_toInt_le, Int32.reduceToInt, nI_toInt, false_implies, true_implies, and_true, true_and, not_true_eq_false, not_false_eq_true, forall_const, implies_true, false_and, and_false, true_or, or_true, eq_self] at z1)
        omega) (by
        ((try simp only [lg_cmp_lt, lg_cmp_gt] at z2); simp (disch := omega) only [Int64.lt_iff_toInt_lt, Int32.toInt_toInt64, Int64.reduceToInt, ← Int32.toInt_inj, Int32.lt_iff_toInt_lt, Int32.le_iff_toInt_le, Int32.reduceToInt, nI_toInt, false_implies, true_implies, and_true, true_and, not_true_eq_false, not_false_eq_true, forall_const, implies_true, false_and, and_false, true_or, or_true, eq_self] at z2)
        omega)⟩⟩⟩, fun z => absurd z (by decide), fun z => absurd z (by decide), fun z1 z2 z3 => absurd rfl z1⟩
  · rw [show (sLEAST 1).toInt = 0 from by decide, show (sGREATEST 1).toInt = 99 from by decide] at k1 k0
    exact t_Md_mayBecome ⟨fun z => absurd z (by decide), fun z => absurd z (by decide), fun z => absurd z (by decide), fun _ _ _ => ⟨fun z1 => ⟨Or.inl rfl, k0 (by
        ((try simp only [lg_cmp_lt, lg_cmp_gt] at z1); simp (disch := omega) only [Int64.lt_iff_toInt_lt, Int32.toInt_toInt64, Int64.reduceToInt, ← Int32.toInt_inj, Int32.lt_iff_toInt_lt, Int32.le_iff_toInt_le, Int32.reduceToInt, nI_toInt, false_implies, true_implies, and_true, true_and, not_true_eq_false, not_false_eq_true, forall_const, implies_true, false_and, and_false, true_or, or_true, eq_self] at z1)
        omega)⟩, fun z1 => ⟨fun z2 => ⟨Or.inl rfl, k0 (by
        ((try simp only [lg_cmp_lt, lg_cmp_gt] at z2); simp (disch := omega) only [Int64.lt_iff_toInt_lt, Int32.toInt_toInt64, Int64.reduceToInt, ← Int32.toInt_inj, Int32.lt_iff_toInt_lt, Int32.le_iff_toInt_le, Int32.reduceToInt, nI_toInt, false_implies, true_implies, and_true, true_and, not_true_eq_false, not_false_eq_true, forall_const, implies_true, false_and, and_false, true_or, or_true, eq_self] at z2)
        omega)⟩, fun z2 => ⟨Or.inr rfl, k1 (by
        ((try simp only [lg_cmp_lt, lg_cmp_gt] at z1); simp (disch := omega) only [Int64.lt_iff_toInt_lt, Int32.toInt_toInt64, Int64.reduceToInt, ← Int32.toInt_inj, Int32.lt_iff_toInt_lt, Int32.le_iff_toInt_le, Int32.reduceToInt, nI_toInt, false_implies, true_implies, and_true, true_and, not_true_eq_false, not_false_eq_true, forall_const, implies_true, false_and, and_false, true_or, or_true, eq_self] at z1)
        omega) (by
        ((try simp only [lg_cmp_lt, lg_cmp_gt] at z2); simp (disch := omega) only [Int64.lt_iff_toInt_lt, Int32.toInt_toInt64, Int64.reduceToInt, ← Int32.toInt_inj, Int32.lt_iff_toInt_lt, Int32.le_iff_toInt_le, Int32.reduceToInt, nI_toInt, false_implies, true_implies, and_true, true_and, not_true_eq_false, not_false_eq_true, forall_const, implies_true, false_and, and_false, true_or, or_true, eq_self] at z2)
        omega)⟩⟩⟩⟩
  · rw [show (sLEAST 2).toInt = 1 from by decide, show (sGREATEST 2).toInt = 99 from by decide] at k1 k0
    exact t_Md_mayBecome ⟨fun z => absurd z (by decide), fun _ => ⟨fun z1 => ⟨Or.inl rfl, k0 (by
        ((try simp only [lg_cmp_lt, lg_cmp_gt] at z1); simp (disch := omega) only [Int64.lt_iff_toInt_lt, Int32.toInt_toInt64, Int64.reduceToInt, ← Int32.toInt_inj, Int32.lt_iff_toInt_lt, Int32.le_iff_toInt_le, Int32.reduceToInt, nI_toInt, false_implies, true_implies, and_true, true_and, not_true_eq_false, not_false_eq_true, forall_const, implies_true, false_and, and_false, true_or, or_true, eq_self] at z1)
        omega)⟩, fun z1 => ⟨fun z2 => ⟨Or.inl rfl, k0 (by
        ((try simp only [lg_cmp_lt, lg_cmp_gt] at z2); simp (disch := omega) only [Int64.lt_iff_toInt_lt, Int32.toInt_toInt64, Int64.reduceToInt, ← Int32.toInt_inj, Int32.lt_iff_toInt_lt, Int32.le_iff_toInt_le, Int32.reduceToInt, nI_toInt, false_implies, true_implies, and_true, true_and, not_true_eq_false, not_false_eq_true, forall_const, implies_true, false_and, and_false, true_or, or_true, eq_self] at z2)
        omega)⟩, fun z2 => ⟨Or.inr rfl, k1 (by
        ((try simp only [lg_cmp_lt, lg_cmp_gt] at z1); simp (disch := omega) only [Int64.lt_iff_toInt_lt, Int32.toInt_toInt64, Int64.reduceToInt, ← Int32.toInt_inj, Int32.lt_iff_toInt_lt, Int32.le_iff_toInt_le, Int32.reduceToInt, nI_toInt, false_implies, true_implies, and_true, true_and, not_true_eq_false, not_false_eq_true, forall_const, implies_true, false_and, and_false, true_or, or_true, eq_self] at z1)
        omega) (by
        ((try simp only [lg_cmp_lt, lg_cmp_gt] at z2); simp (disch := omega) only [Int64.lt_iff_toInt_lt, Int32.toInt_toInt64, Int64.reduceToInt, ← Int32.toInt_inj, Int32.lt_iff_toInt_lt, Int32.le_iff_toInt_le, Int32.reduceToInt, nI_toInt, false_implies, true_implies, and_true, true_and, not_true_eq_false, not_false_eq_true, forall_const, implies_true, false_and, and_false, true_or, or_true, eq_self] at z2)
        omega)⟩⟩⟩, fun z => absurd z (by decide), fun z1 z2 z3 => absurd rfl z2⟩
  · rw [show (sLEAST 3).toInt = 0 from by decide, show (sGREATEST 3).toInt = 20 from by decide] at k1 k0
    exact t_Md_mayBecome ⟨fun z => absurd z (by decide), fun z => absurd z (by decide), fun _ => ⟨fun z1 => ⟨Or.inl rfl, k0 (by
        ((try simp only [lg_cmp_lt, lg_cmp_gt] at z1); simp (disch := omega) only [Int64.lt_iff_toInt_lt, Int32.toInt_toInt64, Int64.reduceToInt, ← Int32.toInt_inj, Int32.lt_iff_toInt_lt, Int32.le_iff_toInt_le, Int32.reduceToInt, nI_toInt, false_implies, true_implies, and_true, true_and, not_true_eq_false, not_false_eq_true, forall_const, implies_true, false_and, and_false, true_or, or_true, eq_self] at z1)
        omega)⟩, fun z1 => ⟨fun z2 => ⟨Or.inl rfl, k0 (by
        ((try simp only [lg_cmp_lt, lg_cmp_gt] at z2); simp (disch := omega) only [Int64.lt_iff_toInt_lt, Int32.toInt_toInt64, Int64.reduceToInt, ← Int32.toInt_inj, Int32.lt_iff_toInt_lt, Int32.le_iff_toInt_le, Int32.reduceToInt, nI_toInt, false_implies, true_implies, and_true, true_and, not_true_eq_false, not_false_eq_true, forall_const, implies_true, false_and, and_false, true_or, or_true, eq_self] at z2)
        omega)⟩, fun z2 => ⟨Or.inr rfl, k1 (by
        ((try simp only [lg_cmp_lt, lg_cmp_gt] at z1); simp (disch := omega) only [Int64.lt_iff_toInt_lt, Int32.toInt_toInt64, Int64.reduceToInt, ← Int32.toInt_inj, Int32.lt_iff_toInt_lt, Int32.le_iff_toInt_le, Int32.reduceToInt, nI_toInt, false_implies, true_implies, and_true, true_and, not_true_eq_false, not_false_eq_true, forall_const, implies_true, false_and, and_false, true_or, or_true, eq_self] at z1)
        omega) (by
        ((try simp only [lg_cmp_lt, lg_cmp_gt] at z2); simp (disch := omega) only [Int64.lt_iff_toInt_lt, Int32.toInt_toInt64, Int64.reduceToInt, ← Int32.toInt_inj, Int32.lt_iff_toInt_lt, Int32.le_iff_toInt_le, Int32.reduceToInt, nI_toInt, false_implies, true_implies, and_true, true_and, not_true_eq_false, not_false_eq_true, forall_const, implies_true, false_and, and_false, true_or, or_true, eq_self] at z2)
        omega)⟩⟩⟩, fun z1 z2 z3 => absurd rfl z3⟩
  · rw [show (sLEAST 4).toInt = 0 from by decide, show (sGREATEST 4).toInt = 99 from by decide] at k1 k0
    exact t_Md_mayBecome ⟨fun z => absurd z (by decide), fun z => absurd z (by decide), fun z => absurd z (by decide), fun _ _ _ => ⟨fun z1 => ⟨Or.inl rfl, k0 (by
        ((try simp only [lg_cmp_lt, lg_cmp_gt] at z1); simp (disch := omega) only [Int64.lt_iff_toInt_lt, Int32.toInt_toInt64, Int64.reduceToInt, ← Int32.toInt_inj, Int32.lt_iff_toInt_lt, Int32.le_iff_toInt_le, Int32.reduceToInt, nI_toInt, false_implies, true_implies, and_true, true_and, not_true_eq_false, not_false_eq_true, forall_const, implies_true, false_and, and_false, true_or, or_true, eq_self] at z1)
        omega)⟩, fun z1 => ⟨fun z2 => ⟨Or.inl rfl, k0 (by
        ((try simp only [lg_cmp_lt, lg_cmp_gt] at z2); simp (disch := omega) only [Int64.lt_iff_toInt_lt, Int32.toInt_toInt64, Int64.reduceToInt, ← Int32.toInt_inj, Int32.lt_iff_toInt_lt, Int32.le_iff_toInt_le, Int32.reduceToInt, nI_toInt, false_implies, true_implies, and_true, true_and, not_true_eq_false, not_false_eq_true, forall_const, implies_true, false_and, and_false, true_or, or_true, eq_self] at z2)
        omega)⟩, fun z2 => ⟨Or.inr rfl, k1 (by
        ((try simp only [lg_cmp_lt, lg_cmp_gt] at z1); simp (disch := omega) only [Int64.lt_iff_toInt_lt, Int32.toInt_toInt64, Int64.reduceToInt, ← Int32.toInt_inj, Int32.lt_iff_toInt_lt, Int32.le_iff_toInt_le, Int32.reduceToInt, nI_toInt, false_implies, true_implies, and_true, true_and, not_true_eq_false, not_false_eq_true, forall_const, implies_true, false_and, and_false, true_or, or_true, eq_self] at z1)
        omega) (by
        ((try simp only [lg_cmp_lt, lg_cmp_gt] at z2); simp (disch := omega) only [Int64.lt_iff_toInt_lt, Int32.toInt_toInt64, Int64.reduceToInt, ← Int32.toInt_inj, Int32.lt_iff_toInt_lt, Int32.le_iff_toInt_le, Int32.reduceToInt, nI_toInt, false_implies, true_implies, and_true, true_and, not_true_eq_false, not_false_eq_true, forall_const, implies_true, false_and, and_false, true_or, or_true, eq_self] at z2)
        omega)⟩⟩⟩⟩
theorem okV.is (hw : w < 5) (h1 : (sLEAST w).toInt ≤ x.toInt) (h2 : x.toInt ≤ (sGREATEST w).toInt) : ∃ v, x = nI v ∧ okV w v := by
  have h5 : w = 0 ∨ w = 1 ∨ w = 2 ∨ w = 3 ∨ w = 4 := by omega
  rcases h5 with rfl | rfl | rfl | rfl | rfl
  · rw [show (sLEAST 0).toInt = 100 from by decide] at h1
    rw [show (sGREATEST 0).toInt = 220 from by decide] at h2
    obtain ⟨v, e, hv, -⟩ := n_ofI (x := x) (by omega)
    refine ⟨v, e, ?_, ?_, ?_, ?_, ?_⟩ <;> intro z <;> omega
  · rw [show (sLEAST 1).toInt = 0 from by decide] at h1
    rw [show (sGREATEST 1).toInt = 99 from by decide] at h2
    obtain ⟨v, e, hv, -⟩ := n_ofI (x := x) (by omega)
    refine ⟨v, e, ?_, ?_, ?_, ?_, ?_⟩ <;> intro z <;> omega
  · rw [show (sLEAST 2).toInt = 1 from by decide] at h1
    rw [show (sGREATEST 2).toInt = 99 from by decide] at h2
    obtain ⟨v, e, hv, -⟩ := n_ofI (x := x) (by omega)
    refine ⟨v, e, ?_, ?_, ?_, ?_, ?_⟩ <;> intro z <;> omega
  · rw [show (sLEAST 3).toInt = 0 from by decide] at h1
    rw [show (sGREATEST 3).toInt = 20 from by decide] at h2
    obtain ⟨v, e, hv, -⟩ := n_ofI (x := x) (by omega)
    refine ⟨v, e, ?_, ?_, ?_, ?_, ?_⟩ <;> intro z <;> omega
  · rw [show (sLEAST 4).toInt = 0 from by decide] at h1
    rw [show (sGREATEST 4).toInt = 99 from by decide] at h2
    obtain ⟨v, e, hv, -⟩ := n_ofI (x := x) (by omega)
    refine ⟨v, e, ?_, ?_, ?_, ?_, ?_⟩ <;> intro z <;> omega
theorem s_set (h1 : crw 1 2 n f M) (h2 : cch 1 3 n f M) (hw : w < 5) (hp : p < n) (hn : n ≤ 12) (kk : ∀ M', setd n (upf f w p v) M' → fr [1, 2] M M' → Q none M') : am_Call (gG L xs) (d + 1) c_Crowd_setNumber [.ref 1, .int (nI w), .int (nI p), .int (nI v)] M Q := by
  refine t_Crowd_setNumber isCr1 ?_
  rw [n_ix (by omega), h1.1]
  refine ⟨fun z => absurd z (nI_pos (by omega)), fun _ => ⟨fun z => absurd ((n_leI (a := 5) (by decide) (by omega)).mp z) (by omega), fun _ => ⟨fun z => absurd z (nI_pos (by omega)), fun _ => ⟨fun _ => ⟨n_ixv (by omega), fun _ => ?_, fun g1 => ⟨fun g2 => ?_, fun _ => ?_⟩⟩, fun z => absurd (nI_lt hp (by omega)) z⟩⟩⟩⟩
  · exact kk _ (setd.a h1 hw hp) ((fr.rf.wi (by decide)).wi (by decide))
  · exact kk _ (setd.b h1 h2 hw hp (fun z => g1 (by rw [z]; rfl)) (fun z => g2 (by rw [z]; rfl))) (fr.rf.wi (by decide))
  · exact kk _ (setd.a h1 hw hp) ((fr.rf.wi (by decide)).wi (by decide))
def udN (g : Nat → Nat) (i v : Nat) : Nat → Nat := fun j => if j = i then v else g j
theorem udN_eq {g : Nat → Nat} {i v : Nat} : udN g i v i = v := if_pos rfl
theorem udN_ne {g : Nat → Nat} {i v j : Nat} (h : j ≠ i) : udN g i v j = g j := if_neg h
def recX (k : Nat) (P W B A : Nat → Nat) (M : AM) : Prop := ∀ i, i < k → M.1 33 i = nI (P i) ∧ M.1 34 i = nI (W i) ∧ M.1 35 i = nI (B i) ∧ M.1 36 i = nI (A i)
def recM (k : Nat) (P W B A : Nat → Nat) (M : AM) : Prop := ∀ i, i < k → M.1 42 i = nI (5 * P i + W i) ∧ M.1 43 i = nI (B i) ∧ M.1 44 i = nI (A i)
abbrev hK : List Nat := [1, 2, 32, 33, 34, 35, 36]
theorem s_h13 (h1 : crw 1 2 n f M) (h2 : cch 1 3 n f M) (hw : w < 5) (hp : p < n) (hn : n ≤ 12) (hk : k0 < 40) (e5 : M.1 32 5 = nI k0) (hr : recX k0 P W B A M) (kk : ∀ M', setd n (upf f w p v) M' → fr hK M M' → M'.1 32 5 = nI (k0 + 1) → M'.1 32 6 = nI (k0 + 1) → recX (k0 + 1) (udN P k0 p) (udN W k0 w) (udN B k0 (f w p)) (udN A k0 v) M' → Q none M') : v_Changes_happens L xs (d + 1) Q 13 [(0, .ref 32), (1, .int (nI p)), (2, .int (nI w)), (3, .int (nI v))] [] M := by
  have e5' : ∀ a b : Int32, (am_wi (am_wi M 33 k0 a) 34 k0 b).1 32 5 = nI k0 := fun a b => by rw [wi_ne (by decide), wi_ne (by decide)]; exact e5
  have e1' : ∀ a b : Int32, (am_wi (am_wi M 33 k0 a) 34 k0 b).1 1 1 = nI n := fun a b => by rw [wi_ne (by decide), wi_ne (by decide)]; exact h1.1
  have e2' : ∀ a b : Int32, (am_wi (am_wi M 33 k0 a) 34 k0 b).1 2 (w * 15 + p) = nI (f w p) := fun a b => by rw [wi_ne (by decide), wi_ne (by decide)]; exact h1.2.2 w p hw hp
  refine u_Changes_happens_13 ?_
  rw [e5, n_cl (show k0 < 2 ^ 31 by omega), e5', e1', n_cl (show k0 < 2 ^ 31 by omega), n_ix (by omega), e2', nI_1]
  refine ⟨(n_vp (by omega)).mpr hk, fun z => absurd z (nI_pos (by omega)), fun _ => ⟨fun z => absurd ((n_leI (a := 5) (by decide) (by omega)).mp z) (by omega), fun _ => ⟨fun z => absurd z (nI_pos (by omega)), fun _ => ⟨fun z => absurd ((n_leI (by omega) (by omega)).mp z) (by omega), fun _ => ⟨n_ixv (by omega), (n_vp (by omega)).mpr hk, ?_⟩⟩⟩⟩⟩
  generalize hM0 : am_wi (am_wi (am_wi (am_wi (am_wi (am_wi M 33 k0 (nI p)) 34 k0 (nI w)) 35 k0 (nI (f w p))) 36 k0 (nI v)) 32 5 (nI (k0 + 1))) 32 6 (nI (k0 + 1)) = M0
  have F0 : fr [32, 33, 34, 35, 36] M M0 := by rw [← hM0]; exact (((((fr.rf.wi (by decide)).wi (by decide)).wi (by decide)).wi (by decide)).wi (by decide)).wi (by decide)
  refine s_set (h1.fr (by rw [F0.i 1]) (F0.i 2)) (h2.congr (by rw [F0.i 1]) (F0.i 3) (fun _ _ => ⟨rfl, rfl⟩)) hw hp hn (fun M' hs f1 => u_Changes_happens_89 (kk M' hs (F0.tr f1 (by decide) (by decide)) ?_ ?_ (fun i hi => ?_)))
  · rw [f1.i 32, ← hM0]; simp [wi_rd]
  · rw [f1.i 32, ← hM0]; simp [wi_rd]
  · rw [f1.i 33, f1.i 34, f1.i 35, f1.i 36, ← hM0]
    by_cases e : i = k0
    · subst e; simp [wi_rd, udN]
    · have := hr i (by omega)
      simp [wi_rd, udN, e, this]
theorem s_happens (hd : 2 ≤ d) (h1 : crw 1 2 n f M) (h2 : cch 1 3 n f M) (hw : w < 5) (hp : p < n) (hn : n ≤ 12) (hk : k0 ≤ 40) (e5 : M.1 32 5 = nI k0) (hr : recX k0 P W B A M)
    (kk : ∀ M', setd n (upf f w p v) M' → fr hK M M' → (k0 < 40 → M'.1 32 5 = nI (k0 + 1) ∧ M'.1 32 6 = nI (k0 + 1) ∧ recX (k0 + 1) (udN P k0 p) (udN W k0 w) (udN B k0 (f w p)) (udN A k0 v) M') → (k0 = 40 → M'.1 32 5 = nI 40 ∧ M'.1 32 6 = nI 40 ∧ recX 40 (udN (fun i => P (i + 1)) 39 p) (udN (fun i => W (i + 1)) 39 w) (udN (fun i => B (i + 1)) 39 (f w p)) (udN (fun i => A (i + 1)) 39 v) M') → Q none M') : am_Call (gG L xs) d c_Changes_happens [.ref 32, .int (nI p), .int (nI w), .int (nI v)] M Q := by
  obtain ⟨d, rfl⟩ : ∃ a, d = a + 2 := ⟨d - 2, by omega⟩
  refine e_Changes_happens (b_Changes_happens_0 (fun z => ?_) (fun z => b_Changes_happens_9 (t_Changes_forgetsOldest ?_)))
  · rw [e5] at z
    have z := (n_ltI (a := k0) (b := 40) (by omega) (by decide)).mp z
    exact s_h13 h1 h2 hw hp hn z e5 hr (fun M' a1 a2 a3 a4 a5 => kk M' a1 a2 (fun _ => ⟨a3, a4, a5⟩) (fun y => by omega))
  · rw [e5] at z
    have z : ¬ k0 < 40 := fun y => z ((n_ltI (a := k0) (b := 40) (by omega) (by decide)).mpr y)
    have h40 : k0 = 40 := by omega
    subst h40
    generalize hM0 : am_wi (am_cpi (am_cpi (am_cpi (am_cpi M 33 33 1 0 39) 34 34 1 0 39) 35 35 1 0 39) 36 36 1 0 39) 32 5 39 = M0
    have F0 : fr [32, 33, 34, 35, 36] M M0 := by rw [← hM0]; exact ((((fr.rf.cpi (by decide)).cpi (by decide)).cpi (by decide)).cpi (by decide)).wi (by decide)
    have r0 : recX 39 (fun i => P (i + 1)) (fun i => W (i + 1)) (fun i => B (i + 1)) (fun i => A (i + 1)) M0 := fun i hi => by
      have := hr (i + 1) (by omega)
      rw [← hM0, wi_ne (by decide), wi_ne (by decide), wi_ne (by decide), wi_ne (by decide)]
      refine ⟨?_, ?_, ?_, ?_⟩
      · rw [← this.1]; simp [cps_rd, hi, Nat.add_comm]
      · rw [← this.2.1]; simp [cps_rd, hi, Nat.add_comm]
      · rw [← this.2.2.1]; simp [cps_rd, hi, Nat.add_comm]
      · rw [← this.2.2.2]; simp [cps_rd, hi, Nat.add_comm]
    exact s_h13 (h1.fr (by rw [F0.i 1]) (F0.i 2)) (h2.congr (by rw [F0.i 1]) (F0.i 3) (fun _ _ => ⟨rfl, rfl⟩)) hw hp hn (k0 := 39) (by decide) (by rw [← hM0]; simp [wi_rd]; rfl) r0 (fun M' a1 a2 a3 a4 a5 => kk M' a1 (F0.tr a2 (by decide) (by decide)) (fun y => by omega) (fun _ => ⟨a3, a4, a5⟩))
theorem m_becomes (hd : 1 ≤ d) (hw : w < 5) (hp : p < n) (hn : n ≤ 12) (h6 : pM n f M) (hne : f w p ≠ v) (hok : f w p < 1000 ∧ v < 1000) (hk : k0 ≤ 40) (e5 : M.1 40 5 = nI k0) (hr : recM k0 P W B A M)
    (kk : ∀ M', pM n (upf f w p v) M' → fs [41, 42, 43, 44] [4, 5] M M' → (k0 < 40 → M'.1 40 5 = nI (k0 + 1) ∧ M'.1 40 4 = nI (k0 + 1) ∧ recM (k0 + 1) (udN P k0 p) (udN W k0 w) (udN B k0 (f w p)) (udN A k0 v) M') → (k0 = 40 → M'.1 40 5 = nI 40 ∧ M'.1 40 4 = nI 40 ∧ recM 40 (udN (fun i => P (i + 1)) 39 p) (udN (fun i => W (i + 1)) 39 w) (udN (fun i => B (i + 1)) 39 (f w p)) (udN (fun i => A (i + 1)) 39 v) M') → Q (some (.int (nI (f w p)))) M') : am_Call (gG L xs) d c_Md_becomes [.ref 40, .int (nI (5 * p + w)), .int (nI v)] M Q := by
  obtain ⟨d, rfl⟩ : ∃ a, d = a + 1 := ⟨d - 1, by omega⟩
  have q := h6.2 w p hw hp
  refine t_Md_becomes ?_
  rw [n_cl (show 5 * p + w < 2 ^ 31 by omega), q, e5]
  refine ⟨(n_vp (by omega)).mpr (by omega), fun _ => ⟨fun z => ?_, fun z => ?_⟩, fun z => absurd ((nI_eq (by omega) (by omega)).mp z) hne⟩
  · have hk4 : k0 ≠ 40 := fun y => z (by rw [y]; rfl)
    rw [n_cl (show k0 < 2 ^ 31 by omega), nI_1]
    refine ⟨(n_vp (by omega)).mpr (by omega), kk _ ?_ ?_ (fun _ => ⟨?_, ?_, fun i hi => ?_⟩) (fun y => absurd y hk4)⟩
    · exact (h6.keep (by rw [wi_ne (by decide), wi_ne (by decide), wi_ne (by decide), wi_ne (by decide), wi_ne (by decide)])).up hw hp
    · exact (((((fs.rf.c (by decide) (by decide)).c (by decide) (by decide)).c (by decide) (by decide)).s (by decide)).s (by decide)).c (by decide) (by decide)
    · simp [wi_rd]
    · simp [wi_rd]
    · by_cases e : i = k0
      · subst e; simp [wi_rd, udN]
      · have := hr i (by omega)
        simp [wi_rd, udN, e, this]
  · have hk4 : k0 = 40 := (nI_eq (b := 40) (by omega) (by decide)).mp z
    subst hk4
    have loop : ∀ j i (M2 : AM), i + j = 40 → 1 ≤ i → fs [42, 43, 44] [] M M2 → (∀ a, a < i - 1 → M2.1 42 a = M.1 42 (a + 1) ∧ M2.1 43 a = M.1 43 (a + 1) ∧ M2.1 44 a = M.1 44 (a + 1)) → (∀ a, i ≤ a → M2.1 42 a = M.1 42 a ∧ M2.1 43 a = M.1 43 a ∧ M2.1 44 a = M.1 44 a) → v_Md_becomes L xs d Q 26 [(0, .ref 40), (1, .int (nI (5 * p + w))), (2, .int (nI v)), (3, .int (nI (f w p))), (4, .int (nI i))] [] M2 := by
      intro j
      induction j with
      | zero =>
        intro i M2 hi h1 F lo hi2
        have hi4 : i = 40 := by omega
        subst hi4
        refine u_Md_becomes_26 ⟨fun _ => ?_, fun z => absurd ((n_leI (a := 40) (b := 40) (by decide) (by decide)).mpr (Nat.le_refl _)) z⟩
        rw [F.j 5, e5, show nI 40 - 1 = nI 39 from n_top (a := 39), n_cl (show 39 < 2 ^ 31 by decide), n_cl (show 5 * p + w < 2 ^ 31 by omega), nI_1]
        refine ⟨(n_vp (by omega)).mpr (by omega), (n_vp (by omega)).mpr (by omega), kk _ ?_ ?_ (fun y => by omega) (fun _ => ⟨?_, ?_, fun i hi => ?_⟩)⟩
        · exact (h6.keep (by rw [wi_ne (by decide), wi_ne (by decide), wi_ne (by decide), wi_ne (by decide), wi_ne (by decide), wi_ne (by decide), F.i 41])).up hw hp
        · exact (((((((F.to (by decide) (by decide)).s (by decide)).c (by decide) (by decide)).c (by decide) (by decide)).c (by decide) (by decide)).s (by decide)).s (by decide)).c (by decide) (by decide)
        · simp [wi_rd]
        · simp [wi_rd]
        · by_cases e : i = 39
          · subst e; simp [wi_rd, udN]
          · have h3 := hr (i + 1) (by omega)
            have h4 := lo i (by omega)
            simp [wi_rd, udN, e, h3, h4]
      | succ j ih =>
        intro i M2 hi h1 F lo hi2
        have e1 : nI i - 1 = nI (i - 1) := by rw [show nI i - 1 = nI i - nI 1 from rfl, n_sub h1]
        refine u_Md_becomes_26 ⟨fun z => absurd ((n_leI (a := 40) (by decide) (by omega)).mp z) (by omega), fun _ => ⟨(n_vp (by omega)).mpr (by omega), ?_, ?_⟩⟩
        · rw [e1]; exact (n_vp (by omega)).mpr (by omega)
        · rw [e1, n_cl (show i - 1 < 2 ^ 31 by omega), n_cl (show i < 2 ^ 31 by omega), nI_1]
          have h4 := hi2 i (Nat.le_refl _)
          refine ih (i + 1) _ (by omega) (by omega) (((F.c (by decide) (by decide)).c (by decide) (by decide)).c (by decide) (by decide)) (fun a ha => ?_) (fun a ha => ?_)
          · by_cases e : a = i - 1
            · subst e
              have e9 : i - 1 + 1 = i := by omega
              simp [wi_rd, e9, h4]
            · have h3 := lo a (by omega)
              simp [wi_rd, e, h3]
          · have h3 := hi2 a (by omega)
            have e : ¬ a = i - 1 := by omega
            simp [wi_rd, e, h3]
    exact loop 39 1 M (by decide) (Nat.le_refl _) fs.rf (fun a ha => by omega) (fun a _ => ⟨rfl, rfl, rfl⟩)
end E11