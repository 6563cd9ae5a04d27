section E20
variable {L : Nat} {xs : Nat → Int32} {d : Nat} {Q : AQ} {M M0 M1 M2 : AM} {x x1 x2 x3 x4 x5 x6 x7 x8 : Int32} {a b c h k n bn s s0 s1 k0 k1 i j m : Nat}
theorem t_sub (hk : k ≤ 60) (hx : 0 ≤ x.toInt) : (nI k - x).toInt = (k : Int) - x.toInt := by
  obtain ⟨m, rfl, hm, hm2⟩ := n_ofI hx
  rw [Int32.toInt_sub, nI_toInt (show k < 2 ^ 31 by omega), nI_toInt hm2]
  exact Int.bmod_eq_of_le (by omega) (by omega)
theorem s_isSpan (hd : 3 ≤ d) (h0 : s0 < 6) (h23 : M.1 23 s0 = nI s) (h24 : M.1 24 s0 = nI k) (hs : s < 5) (hk : k ≤ 60) (k1 : 0 ≤ x3.toInt ∧ 0 ≤ x2.toInt ∧ x2.toInt + x3.toInt ≤ k → Q (some (.int 1)) M) (k0 : ¬ (0 ≤ x3.toInt ∧ 0 ≤ x2.toInt ∧ x2.toInt + x3.toInt ≤ k) → Q (some (.int 0)) M) : am_Call (gG L xs) d c_Shelves_isSpan [.ref 21, .int (nI s0), .int x2, .int x3] M Q := by
  obtain ⟨d, rfl⟩ : ∃ a, d = a + 3 := ⟨d - 3, by omega⟩
  have ek : (nI k).toInt = (k : Int) := nI_toInt (by omega)
  refine t_Shelves_isSpan ?_
  rw [n_cl (show s0 < 2 ^ 31 by omega), h23, h24]
  refine ⟨fun z => absurd z (nI_pos (by omega)), fun _ => ⟨fun z => absurd ((n_leI (a := 6) (by decide) (by omega)).mp z) (by omega), fun _ => ⟨(n_vp (by omega)).mpr h0, fun z => absurd (show nI s < 0 by rw [z]; decide) (nI_pos (by omega)), fun _ => ⟨fun z => k0 (fun y => ?_), fun z3 => ⟨fun z => k0 (fun y => ?_), fun z2 => ⟨fun z => k0 (fun y => ?_), fun zk => ?_⟩⟩⟩⟩⟩⟩
  · ((try simp only [lg_cmp_lt, lg_cmp_gt] at z); simp (disch := omega) only [Int64.lt_iff_toInt_lt, Int32.toInt_toInt64, Int64.reduceToInt, ← Int32.toInt_inj, Int32.lt_iff_toInt_lt, Int32.le_iff_toInt_le, Int32.reduceToInt, nI_toInt, false_implies, true_implies, and_true, true_and, not_true_eq_false, not_false_eq_true, forall_const, implies_true, false_and, and_false, true_or, or_true, eq_self] at z)
    omega
  · ((try simp only [lg_cmp_lt, lg_cmp_gt] at z); simp (disch := omega) only [Int64.lt_iff_toInt_lt, Int32.toInt_toInt64, Int64.reduceToInt, ← Int32.toInt_inj, Int32.lt_iff_toInt_lt, Int32.le_iff_toInt_le, Int32.reduceToInt, nI_toInt, false_implies, true_implies, and_true, true_and, not_true_eq_false, not_false_eq_true, forall_const, implies_true, false_and, and_false, true_or, or_true, eq_self] at z)
    omega
  · ((try simp only [lg_cmp_lt, lg_cmp_gt] at z); simp (disch := omega) only [ek, Int64.lt_iff_toInt_lt, Int32.toInt_toInt64, Int64.reduceToInt, ← Int32.toInt_inj, Int32.lt_iff_toInt_lt, Int32.le_iff_toInt_le, Int32.reduceToInt, nI_toInt, false_implies, true_implies, and_true, true_and, not_true_eq_false, not_false_eq_true, forall_const, implies_true, false_and, and_false, true_or, or_true, eq_self] at z)
    omega
  · ((try simp only [lg_cmp_lt, lg_cmp_gt] at z3); simp (disch := omega) only [Int64.lt_iff_toInt_lt, Int32.toInt_toInt64, Int64.reduceToInt, ← Int32.toInt_inj, Int32.lt_iff_toInt_lt, Int32.le_iff_toInt_le, Int32.reduceToInt, nI_toInt, false_implies, true_implies, and_true, true_and, not_true_eq_false, not_false_eq_true, forall_const, implies_true, false_and, and_false, true_or, or_true, eq_self] at z3)
    ((try simp only [lg_cmp_lt, lg_cmp_gt] at z2); simp (disch := omega) only [Int64.lt_iff_toInt_lt, Int32.toInt_toInt64, Int64.reduceToInt, ← Int32.toInt_inj, Int32.lt_iff_toInt_lt, Int32.le_iff_toInt_le, Int32.reduceToInt, nI_toInt, false_implies, true_implies, and_true, true_and, not_true_eq_false, not_false_eq_true, forall_const, implies_true, false_and, and_false, true_or, or_true, eq_self] at z2)
    ((try simp only [lg_cmp_lt, lg_cmp_gt] at zk); simp (disch := omega) only [ek, Int64.lt_iff_toInt_lt, Int32.toInt_toInt64, Int64.reduceToInt, ← Int32.toInt_inj, Int32.lt_iff_toInt_lt, Int32.le_iff_toInt_le, Int32.reduceToInt, nI_toInt, false_implies, true_implies, and_true, true_and, not_true_eq_false, not_false_eq_true, forall_const, implies_true, false_and, and_false, true_or, or_true, eq_self] at zk)
    have es := t_sub (k := k) (x := x2) hk (by omega)
    refine ⟨fun z => k0 (fun y => ?_), fun z => k1 ?_⟩
    · ((try simp only [lg_cmp_lt, lg_cmp_gt] at z); simp (disch := omega) only [es, Int64.lt_iff_toInt_lt, Int32.toInt_toInt64, Int64.reduceToInt, ← Int32.toInt_inj, Int32.lt_iff_toInt_lt, Int32.le_iff_toInt_le, Int32.reduceToInt, nI_toInt, false_implies, true_implies, and_true, true_and, not_true_eq_false, not_false_eq_true, forall_const, implies_true, false_and, and_false, true_or, or_true, eq_self] at z)
      omega
    · ((try simp only [lg_cmp_lt, lg_cmp_gt] at z); simp (disch := omega) only [es, Int64.lt_iff_toInt_lt, Int32.toInt_toInt64, Int64.reduceToInt, ← Int32.toInt_inj, Int32.lt_iff_toInt_lt, Int32.le_iff_toInt_le, Int32.reduceToInt, nI_toInt, false_implies, true_implies, and_true, true_and, not_true_eq_false, not_false_eq_true, forall_const, implies_true, false_and, and_false, true_or, or_true, eq_self] at z)
      exact ⟨by omega, by omega, by omega⟩
theorem cpl_rd (M : AM) (a b sp dp n c j : Nat) : (am_cpl M a b sp dp n).2 c j = if c = b then (if dp ≤ j ∧ j < dp + n then M.2 a (sp + (j - dp)) else M.2 b j) else M.2 c j := by
  show am_ur M.2 b (va_cpy (M.2 a) (M.2 b) sp dp n) c j = _
  by_cases h : c = b
  · subst h
    rw [if_pos rfl, am_ur_eq]
    rfl
  · rw [if_neg h, am_ur_ne h]
theorem m_carry (hx : s0 * 60 + i + n ≤ 360) (hy : s1 * 60 + j + n ≤ 360) (hn : n ≤ 60) (kk : ∀ M2, fs [59, 60] [] M M2 → (∀ t, M2.2 59 t = if s1 * 60 + j ≤ t ∧ t < s1 * 60 + j + n then M.2 59 (s0 * 60 + i + (t - (s1 * 60 + j))) else M.2 59 t) → Q (some (.int (nI n))) M2) : v_Md_shift L xs d Q 113 [(0, .ref 40), (1, .int (nI s0)), (2, .int (nI i)), (3, .int (nI s1)), (4, .int (nI j)), (5, .int (nI n)), (6, .int (nI 0))] [] M := by
  have ex : ∀ p : Nat, (60 : Int32) * nI s0 + nI i + nI p = nI (s0 * 60 + i + p) := fun p => by
    rw [show (60 : Int32) * nI s0 = nI (60 * s0) from n_mul 60 s0, nI_add, nI_add, Nat.mul_comm]
  have ey : ∀ p : Nat, (60 : Int32) * nI s1 + nI j + nI p = nI (s1 * 60 + j + p) := fun p => by
    rw [show (60 : Int32) * nI s1 = nI (60 * s1) from n_mul 60 s1, nI_add, nI_add, Nat.mul_comm]
  have loop2 : ∀ q p (M1 : AM), p + q = n → fs [59, 60] [] M M1 → (∀ t, t < n → M1.2 60 t = M.2 59 (s0 * 60 + i + t)) → (∀ t, M1.2 59 t = if s1 * 60 + j ≤ t ∧ t < s1 * 60 + j + p then M.2 59 (s0 * 60 + i + (t - (s1 * 60 + j))) else M.2 59 t) → v_Md_shift L xs d Q 150 [(0, .ref 40), (3, .int (nI s1)), (4, .int (nI j)), (5, .int (nI n)), (6, .int (nI p))] [] M1 := by
    intro q
    induction q with
    | zero =>
      intro p M1 hp F h60 h59
      have : p = n := by omega
      subst this
      exact u_Md_shift_150 ⟨fun _ => kk M1 F h59, fun z => absurd ((n_leI (by omega) (by omega)).mpr (Nat.le_refl _)) z⟩
    | succ q ih =>
      intro p M1 hp F h60 h59
      refine u_Md_shift_150 ⟨fun z => absurd ((n_leI (by omega) (by omega)).mp z) (by omega), fun _ => ?_⟩
      rw [ey, n_cl (show p < 2 ^ 31 by omega), n_cl (show s1 * 60 + j + p < 2 ^ 31 by omega), nI_1]
      refine ⟨(n_vp (by omega)).mpr (by omega), (n_vp (by omega)).mpr (by omega), ih (p + 1) _ (by omega) (F.wl (by decide)) (fun t ht => ?_) (fun t => ?_)⟩
      · rw [wl_rd, if_neg (by decide)]; exact h60 t ht
      · rw [wl_rd, if_pos rfl]
        by_cases e : t = s1 * 60 + j + p
        · rw [if_pos e, if_pos (by omega), h60 p (by omega)]
          rw [show t - (s1 * 60 + j) = p by omega]
        · rw [if_neg e, h59 t]
          by_cases e2 : s1 * 60 + j ≤ t ∧ t < s1 * 60 + j + p
          · rw [if_pos e2, if_pos (by omega)]
          · rw [if_neg e2, if_neg (by omega)]
  have loop1 : ∀ q p (M1 : AM), p + q = n → fs [59, 60] [] M M1 → (∀ t, t < p → M1.2 60 t = M.2 59 (s0 * 60 + i + t)) → M1.2 59 = M.2 59 → v_Md_shift L xs d Q 113 [(0, .ref 40), (1, .int (nI s0)), (2, .int (nI i)), (3, .int (nI s1)), (4, .int (nI j)), (5, .int (nI n)), (6, .int (nI p))] [] M1 := by
    intro q
    induction q with
    | zero =>
      intro p M1 hp F h60 h59
      have : p = n := by omega
      subst this
      refine u_Md_shift_113 ⟨fun _ => loop2 p 0 M1 (by omega) F h60 (fun t => ?_), fun z => absurd ((n_leI (by omega) (by omega)).mpr (Nat.le_refl _)) z⟩
      rw [if_neg (by omega), h59]
    | succ q ih =>
      intro p M1 hp F h60 h59
      refine u_Md_shift_113 ⟨fun z => absurd ((n_leI (by omega) (by omega)).mp z) (by omega), fun _ => ?_⟩
      rw [ex, n_cl (show p < 2 ^ 31 by omega), n_cl (show s0 * 60 + i + p < 2 ^ 31 by omega), nI_1, h59]
      refine ⟨(n_vp (by omega)).mpr (by omega), (n_vp (by omega)).mpr (by omega), ih (p + 1) _ (by omega) (F.wl (by decide)) (fun t ht => ?_) ?_⟩
      · rw [wl_rd, if_pos rfl]
        by_cases e : t = p
        · rw [if_pos e, e]
        · rw [if_neg e]; exact h60 t (by omega)
      · funext t
        rw [wl_rd, if_neg (by decide), h59]
  exact loop1 n 0 M (by omega) fs.rf (fun t ht => by omega) rfl
end E20
