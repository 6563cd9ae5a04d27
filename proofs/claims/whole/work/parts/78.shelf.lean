section E2
variable {L : Nat} {xs : Nat → Int32} {d : Nat} {Q : AQ} {M M1 M2 : AM} {x1 x2 x3 : Int32} {s0 s k0 : Nat} {v : Int64}
theorem s_isPlace (hd : 3 ≤ d) (h0 : s0 < 6) (h23 : M.1 23 s0 = nI s) (h24 : M.1 24 s0 = nI k0) (hs : s < 5) (hk : k0 ≤ 60) (kk : Q (some (.int (b2i (decide (0 ≤ x2.toInt ∧ x2.toInt < k0))))) M) : am_Call (gG L xs) d c_Shelves_isPlace [.ref 21, .int (nI s0), .int x2] M Q := by
  obtain ⟨d, rfl⟩ : ∃ a, d = a + 3 := ⟨d - 3, by omega⟩
  refine t_Shelves_isPlace ?_
  rw [n_cl (by omega), h23, h24]
  by_cases h : 0 ≤ x2.toInt ∧ x2.toInt < k0
  · rw [decide_eq_true h] at kk
    ((try simp only [lg_cmp_lt, lg_cmp_gt]); simp (disch := omega) only [n_vp, t_1, Int64.lt_iff_toInt_lt, Int32.toInt_toInt64, Int64.reduceToInt, ← Int32.toInt_inj, Int32.lt_iff_toInt_lt, Int32.le_iff_toInt_le, Int32.reduceToInt, nI_toInt, false_implies, true_implies, and_true, true_and, not_true_eq_false, not_false_eq_true, forall_const, implies_true, false_and, and_false, true_or, or_true, eq_self])
    repeat' (first | (with_reducible refine And.intro ?_ ?_) | (with_reducible intro h; first | (exfalso; omega) | contradiction | skip))
    all_goals first | exact kk | (exfalso; omega) | omega
  · rw [decide_eq_false h] at kk
    ((try simp only [lg_cmp_lt, lg_cmp_gt]); simp (disch := omega) only [n_vp, t_1, Int64.lt_iff_toInt_lt, Int32.toInt_toInt64, Int64.reduceToInt, ← Int32.toInt_inj, Int32.lt_iff_toInt_lt, Int32.le_iff_toInt_le, Int32.reduceToInt, nI_toInt, false_implies, true_implies, and_true, true_and, not_true_eq_false, not_false_eq_true, forall_const, implies_true, false_and, and_false, true_or, or_true, eq_self])
    repeat' (first | (with_reducible refine And.intro ?_ ?_) | (with_reducible intro h; first | (exfalso; omega) | contradiction | skip))
    all_goals first | exact kk | (exfalso; omega) | omega
def nrw (s : Nat) (v : Int64) : Int64 := if s = 0 then Int32.toInt64 (Int8.toInt32 (Int32.toInt8 (Int64.toInt32 v))) else if s = 1 then Int32.toInt64 (Int16.toInt32 (Int32.toInt16 (Int64.toInt32 v))) else if s = 2 then Int32.toInt64 (Int64.toInt32 v) else if s = 4 then (if v = 0 then 0 else 1) else v
theorem s_narrowed (hs : s < 5) (kk : Q (some (.long (nrw s v))) M) : am_Call (gG L xs) (d + 1) c_Shelves_narrowed [.int (nI s), .long v] M Q := by
  have e0 : nI s = 0 ↔ s = 0 := nI_eq (b := 0) (by omega) (by decide)
  have e1 : nI s = 1 ↔ s = 1 := nI_eq (b := 1) (by omega) (by decide)
  have e2 : nI s = 2 ↔ s = 2 := nI_eq (b := 2) (by omega) (by decide)
  have e4 : nI s = 4 ↔ s = 4 := nI_eq (b := 4) (by omega) (by decide)
  refine t_Shelves_narrowed ?_
  rw [e0, e1, e2, e4, lg_cmp_eq]
  refine ⟨fun h => ?_, fun h => ?_, fun h => ?_, fun h => ⟨fun h2 => ?_, fun h2 => ?_⟩, fun a b c e => ?_⟩
  · subst h; exact kk
  · subst h; exact kk
  · subst h; exact kk
  · subst h; simp only [nrw, h2] at kk; exact kk
  · subst h; simp only [nrw, h2] at kk; exact kk
  · simp only [nrw, a, b, c, e, if_false] at kk; exact kk
theorem m_asSort (hs : s < 5) (kk : Q (some (.long (nrw s v))) M) : am_Call (gG L xs) (d + 1) c_Md_asSort [.int (nI s), .long v] M Q := by
  have e0 : nI s = 0 ↔ s = 0 := nI_eq (b := 0) (by omega) (by decide)
  have e1 : nI s = 1 ↔ s = 1 := nI_eq (b := 1) (by omega) (by decide)
  have e2 : nI s = 2 ↔ s = 2 := nI_eq (b := 2) (by omega) (by decide)
  have e4 : nI s = 4 ↔ s = 4 := nI_eq (b := 4) (by omega) (by decide)
  refine t_Md_asSort ?_
  rw [e0, e1, e2, e4, lg_cmp_eq]
  refine ⟨fun a => ⟨fun b => ⟨fun c => ⟨fun e => ?_, fun e => ⟨fun h2 => ?_, fun h2 => ?_⟩⟩, fun h => ?_⟩, fun h => ?_⟩, fun h => ?_⟩
  · simp only [nrw, a, b, c, e, if_false] at kk; exact kk
  · subst e; simp only [nrw, h2] at kk; exact kk
  · subst e; simp only [nrw, h2] at kk; exact kk
  · subst h; exact kk
  · subst h; exact kk
  · subst h; exact kk
theorem j_element (hI : Inv M) (hd : 100 ≤ d) : JnL L xs d c_Mo_element c_Md_element [.ref 0, .int x1, .int x2] [.ref 40, .int x1, .int x2] M := by
  have hI0 := hI
  obtain ⟨n, f, T, bn, hP, hL, hT, hC, hD, hA, hS, h23⟩ := hI
  obtain ⟨d, rfl⟩ : ∃ a, d = a + 9 := ⟨d - 9, by omega⟩
  have hbn := hA.1
  by_cases hv : 0 ≤ x1.toInt ∧ x1.toInt < 6
  · obtain ⟨v1, v2⟩ := hv
    obtain ⟨s0, rfl, hk, -⟩ := n_ofI v1
    have hs0 : s0 < 6 := by omega
    rcases hS s0 hs0 with ⟨e57, e22, e23⟩ | ⟨b, hb, e57, e22, e23⟩ | ⟨s, k0, hs, hk0, e57, e22, e23, e24, e58, hrow⟩
    · refine JnL.no (-9223372036854775808) hI0 (fun Q k => ?_) (fun Q k => ?_)
      · refine t_Mo_element ?_
        rw [n_cl (by omega), e22, e23]
        ((try simp only [lg_cmp_lt, lg_cmp_gt]); simp (disch := omega) only [n_vp, t_1, Int64.lt_iff_toInt_lt, Int32.toInt_toInt64, Int64.reduceToInt, ← Int32.toInt_inj, Int32.lt_iff_toInt_lt, Int32.le_iff_toInt_le, Int32.reduceToInt, nI_toInt, false_implies, true_implies, and_true, true_and, not_true_eq_false, not_false_eq_true, forall_const, implies_true, false_and, and_false, true_or, or_true, eq_self])
        repeat' (first | (with_reducible refine And.intro ?_ ?_) | (with_reducible intro h; first | (exfalso; omega) | contradiction | skip))
        all_goals first | exact k | (exfalso; omega) | omega
      · refine t_Md_element ?_
        rw [n_cl (by omega), e57]
        ((try simp only [lg_cmp_lt, lg_cmp_gt]); simp (disch := omega) only [n_vp, t_1, Int64.lt_iff_toInt_lt, Int32.toInt_toInt64, Int64.reduceToInt, ← Int32.toInt_inj, Int32.lt_iff_toInt_lt, Int32.le_iff_toInt_le, Int32.reduceToInt, nI_toInt, false_implies, true_implies, and_true, true_and, not_true_eq_false, not_false_eq_true, forall_const, implies_true, false_and, and_false, true_or, or_true, eq_self])
        repeat' (first | (with_reducible refine And.intro ?_ ?_) | (with_reducible intro h; first | (exfalso; omega) | contradiction | skip))
        all_goals first | exact k | (exfalso; omega) | omega
    · refine JnL.no (-9223372036854775808) hI0 (fun Q k => ?_) (fun Q k => ?_)
      · refine t_Mo_element ?_
        rw [n_cl (by omega), e22, e23]
        ((try simp only [lg_cmp_lt, lg_cmp_gt]); simp (disch := omega) only [n_vp, t_1, Int64.lt_iff_toInt_lt, Int32.toInt_toInt64, Int64.reduceToInt, ← Int32.toInt_inj, Int32.lt_iff_toInt_lt, Int32.le_iff_toInt_le, Int32.reduceToInt, nI_toInt, false_implies, true_implies, and_true, true_and, not_true_eq_false, not_false_eq_true, forall_const, implies_true, false_and, and_false, true_or, or_true, eq_self])
        repeat' (first | (with_reducible refine And.intro ?_ ?_) | (with_reducible intro h; first | (exfalso; omega) | contradiction | skip))
        all_goals first | exact k | (exfalso; omega) | omega
      · refine t_Md_element ?_
        rw [n_cl (by omega), e57]
        ((try simp only [lg_cmp_lt, lg_cmp_gt]); simp (disch := omega) only [n_vp, t_1, Int64.lt_iff_toInt_lt, Int32.toInt_toInt64, Int64.reduceToInt, ← Int32.toInt_inj, Int32.lt_iff_toInt_lt, Int32.le_iff_toInt_le, Int32.reduceToInt, nI_toInt, false_implies, true_implies, and_true, true_and, not_true_eq_false, not_false_eq_true, forall_const, implies_true, false_and, and_false, true_or, or_true, eq_self])
        repeat' (first | (with_reducible refine And.intro ?_ ?_) | (with_reducible intro h; first | (exfalso; omega) | contradiction | skip))
        all_goals first | exact k | (exfalso; omega) | omega
    · by_cases hp : 0 ≤ x2.toInt ∧ x2.toInt < k0
      · obtain ⟨p1, p2⟩ := hp
        obtain ⟨i, rfl, hi, -⟩ := n_ofI p1
        have hik : i < k0 := by omega
        have ex : nI s0 * 60 + nI i = nI (60 * s0 + i) := by rw [show (60 : Int32) = nI 60 from rfl, n_mul, nI_add, Nat.mul_comm]
        have ey : 60 * nI s0 + nI i = nI (60 * s0 + i) := by rw [show (60 : Int32) = nI 60 from rfl, n_mul, nI_add]
        refine JnL.of2 (v := M.2 25 (60 * s0 + i)) (P := fun M1 => M1 = M) (fun Q k => ?_) (fun M1 e Q k => ?_)
        · have K := k M rfl
          refine t_Mo_element ?_
          rw [n_cl (by omega), e22, e23]
          ((try simp only [lg_cmp_lt, lg_cmp_gt]); simp (disch := omega) only [n_vp, t_1, Int64.lt_iff_toInt_lt, Int32.toInt_toInt64, Int64.reduceToInt, ← Int32.toInt_inj, Int32.lt_iff_toInt_lt, Int32.le_iff_toInt_le, Int32.reduceToInt, nI_toInt, false_implies, true_implies, and_true, true_and, not_true_eq_false, not_false_eq_true, forall_const, implies_true, false_and, and_false, true_or, or_true, eq_self])
          repeat' (first | (with_reducible refine And.intro ?_ ?_) | (with_reducible intro h; first | (exfalso; omega) | contradiction | skip))
          all_goals first | omega | skip
          refine s_isPlace (by omega) hs0 e23 e24 hs hk0 (u_Mo_element_17 ⟨fun _ => ?_, fun z => ?_⟩)
          · refine t_Shelves_cell (s_isPlace (by omega) hs0 e23 e24 hs hk0 (u_Shelves_cell_6 ⟨fun z => ?_, fun _ => ?_⟩))
            · rw [b2i_0] at z; simp only [decide_eq_false_iff_not] at z; omega
            · rw [ex, n_cl (by omega)]
              exact ⟨(n_vp (by omega)).mpr (by omega), u_Mo_element_33 K⟩
          · rw [b2i_0] at z; simp only [decide_eq_false_iff_not] at z; omega
        · subst e
          have K := k _ hI0
          rw [(hrow i hik).1] at K
          refine t_Md_element ?_
          rw [n_cl (show s0 < 2 ^ 31 by omega), e57, e58, ey, n_cl (show 60 * s0 + i < 2 ^ 31 by omega)]
          ((try simp only [lg_cmp_lt, lg_cmp_gt]); simp (disch := omega) only [n_vp, t_1, Int64.lt_iff_toInt_lt, Int32.toInt_toInt64, Int64.reduceToInt, ← Int32.toInt_inj, Int32.lt_iff_toInt_lt, Int32.le_iff_toInt_le, Int32.reduceToInt, nI_toInt, false_implies, true_implies, and_true, true_and, not_true_eq_false, not_false_eq_true, forall_const, implies_true, false_and, and_false, true_or, or_true, eq_self])
          repeat' (first | (with_reducible refine And.intro ?_ ?_) | (with_reducible intro h; first | (exfalso; omega) | contradiction | skip))
          all_goals first | exact K | (exfalso; omega) | omega
      · refine JnL.no (-9223372036854775808) hI0 (fun Q k => ?_) (fun Q k => ?_)
        · refine t_Mo_element ?_
          rw [n_cl (by omega), e22, e23]
          ((try simp only [lg_cmp_lt, lg_cmp_gt]); simp (disch := omega) only [n_vp, t_1, Int64.lt_iff_toInt_lt, Int32.toInt_toInt64, Int64.reduceToInt, ← Int32.toInt_inj, Int32.lt_iff_toInt_lt, Int32.le_iff_toInt_le, Int32.reduceToInt, nI_toInt, false_implies, true_implies, and_true, true_and, not_true_eq_false, not_false_eq_true, forall_const, implies_true, false_and, and_false, true_or, or_true, eq_self])
          repeat' (first | (with_reducible refine And.intro ?_ ?_) | (with_reducible intro h; first | (exfalso; omega) | contradiction | skip))
          all_goals first | omega | skip
          refine s_isPlace (by omega) hs0 e23 e24 hs hk0 (u_Mo_element_17 ⟨fun z => ?_, fun _ => k⟩)
          rw [b2i_n0] at z; simp only [decide_eq_true_eq] at z; omega
        · refine t_Md_element ?_
          rw [n_cl (by omega), e57, e58]
          ((try simp only [lg_cmp_lt, lg_cmp_gt]); simp (disch := omega) only [n_vp, t_1, Int64.lt_iff_toInt_lt, Int32.toInt_toInt64, Int64.reduceToInt, ← Int32.toInt_inj, Int32.lt_iff_toInt_lt, Int32.le_iff_toInt_le, Int32.reduceToInt, nI_toInt, false_implies, true_implies, and_true, true_and, not_true_eq_false, not_false_eq_true, forall_const, implies_true, false_and, and_false, true_or, or_true, eq_self])
          repeat' (first | (with_reducible refine And.intro ?_ ?_) | (with_reducible intro h; first | (exfalso; omega) | contradiction | skip))
          all_goals first | exact k | (exfalso; omega) | omega
  · refine JnL.no (-9223372036854775808) hI0 (fun Q k => ?_) (fun Q k => ?_)
    · refine t_Mo_element ?_
      ((try simp only [lg_cmp_lt, lg_cmp_gt]); simp (disch := omega) only [t_1, Int64.lt_iff_toInt_lt, Int32.toInt_toInt64, Int64.reduceToInt, ← Int32.toInt_inj, Int32.lt_iff_toInt_lt, Int32.le_iff_toInt_le, Int32.reduceToInt, nI_toInt, false_implies, true_implies, and_true, true_and, not_true_eq_false, not_false_eq_true, forall_const, implies_true, false_and, and_false, true_or, or_true, eq_self])
      repeat' (first | (with_reducible refine And.intro ?_ ?_) | (with_reducible intro h; first | (exfalso; omega) | contradiction | skip))
      all_goals first | exact k | (exfalso; omega)
    · refine t_Md_element ?_
      ((try simp only [lg_cmp_lt, lg_cmp_gt]); simp (disch := omega) only [t_1, Int64.lt_iff_toInt_lt, Int32.toInt_toInt64, Int64.reduceToInt, ← Int32.toInt_inj, Int32.lt_iff_toInt_lt, Int32.le_iff_toInt_le, Int32.reduceToInt, nI_toInt, false_implies, true_implies, and_true, true_and, not_true_eq_false, not_false_eq_true, forall_const, implies_true, false_and, and_false, true_or, or_true, eq_self])
      repeat' (first | (with_reducible refine And.intro ?_ ?_) | (with_reducible intro h; first | (exfalso; omega) | contradiction | skip))
      all_goals first | exact k | (exfalso; omega)
theorem fs.wl {K J : List Nat} {M M1 : AM} {a j : Nat} {v : Int64} (h : fs K J M M1) (ha : a ∈ K) : fs K J M (am_wl M1 a j v) :=
  ⟨fun b hb h4 => h.1 b hb h4, fun i hi => h.2.1 i hi, fun b hb => by
    show am_up M1.2 a j v b = _
    rw [am_up_ne (fun z => hb (by rw [z]; exact ha))]; exact h.2.2 b hb⟩
theorem j_put (hI : Inv M) (hd : 100 ≤ d) : Jn L xs d c_Mo_put c_Md_put [.ref 0, .int x1, .int x2, .long v] [.ref 40, .int x1, .int x2, .long v] M := by
  have hI0 := hI
  obtain ⟨n, f, T, bn, hP, hL, hT, hC, hD, hA, hS, h23⟩ := hI
  obtain ⟨d, rfl⟩ : ∃ a, d = a + 9 := ⟨d - 9, by omega⟩
  have hbn := hA.1
  by_cases hv : 0 ≤ x1.toInt ∧ x1.toInt < 6
  · obtain ⟨v1, v2⟩ := hv
    obtain ⟨s0, rfl, hk, -⟩ := n_ofI v1
    have hs0 : s0 < 6 := by omega
    rcases hS s0 hs0 with ⟨e57, e22, e23⟩ | ⟨b, hb, e57, e22, e23⟩ | ⟨s, k0, hs, hk0, e57, e22, e23, e24, e58, hrow⟩
    · refine Jn.no (-11) hI0 (fun Q k => ?_) (fun Q k => ?_)
      · refine t_Mo_put ?_
        rw [n_cl (by omega), e22, e23]
        ((try simp only [lg_cmp_lt, lg_cmp_gt]); simp (disch := omega) only [n_vp, t_1, Int64.lt_iff_toInt_lt, Int32.toInt_toInt64, Int64.reduceToInt, ← Int32.toInt_inj, Int32.lt_iff_toInt_lt, Int32.le_iff_toInt_le, Int32.reduceToInt, nI_toInt, false_implies, true_implies, and_true, true_and, not_true_eq_false, not_false_eq_true, forall_const, implies_true, false_and, and_false, true_or, or_true, eq_self])
        repeat' (first | (with_reducible refine And.intro ?_ ?_) | (with_reducible intro h; first | (exfalso; omega) | contradiction | skip))
        all_goals first | exact k | (exfalso; omega) | omega
      · refine t_Md_put ?_
        rw [n_cl (by omega), e57]
        ((try simp only [lg_cmp_lt, lg_cmp_gt]); simp (disch := omega) only [n_vp, t_1, Int64.lt_iff_toInt_lt, Int32.toInt_toInt64, Int64.reduceToInt, ← Int32.toInt_inj, Int32.lt_iff_toInt_lt, Int32.le_iff_toInt_le, Int32.reduceToInt, nI_toInt, false_implies, true_implies, and_true, true_and, not_true_eq_false, not_false_eq_true, forall_const, implies_true, false_and, and_false, true_or, or_true, eq_self])
        repeat' (first | (with_reducible refine And.intro ?_ ?_) | (with_reducible intro h; first | (exfalso; omega) | contradiction | skip))
        all_goals first | exact k | (exfalso; omega) | omega
    · refine Jn.no (-12) hI0 (fun Q k => ?_) (fun Q k => ?_)
      · refine t_Mo_put ?_
        rw [n_cl (by omega), e22, e23]
        ((try simp only [lg_cmp_lt, lg_cmp_gt]); simp (disch := omega) only [n_vp, t_1, Int64.lt_iff_toInt_lt, Int32.toInt_toInt64, Int64.reduceToInt, ← Int32.toInt_inj, Int32.lt_iff_toInt_lt, Int32.le_iff_toInt_le, Int32.reduceToInt, nI_toInt, false_implies, true_implies, and_true, true_and, not_true_eq_false, not_false_eq_true, forall_const, implies_true, false_and, and_false, true_or, or_true, eq_self])
        repeat' (first | (with_reducible refine And.intro ?_ ?_) | (with_reducible intro h; first | (exfalso; omega) | contradiction | skip))
        all_goals first | exact k | (exfalso; omega) | omega
      · refine t_Md_put ?_
        rw [n_cl (by omega), e57]
        ((try simp only [lg_cmp_lt, lg_cmp_gt]); simp (disch := omega) only [n_vp, t_1, Int64.lt_iff_toInt_lt, Int32.toInt_toInt64, Int64.reduceToInt, ← Int32.toInt_inj, Int32.lt_iff_toInt_lt, Int32.le_iff_toInt_le, Int32.reduceToInt, nI_toInt, false_implies, true_implies, and_true, true_and, not_true_eq_false, not_false_eq_true, forall_const, implies_true, false_and, and_false, true_or, or_true, eq_self])
        repeat' (first | (with_reducible refine And.intro ?_ ?_) | (with_reducible intro h; first | (exfalso; omega) | contradiction | skip))
        all_goals first | exact k | (exfalso; omega) | omega
    · by_cases hp : 0 ≤ x2.toInt ∧ x2.toInt < k0
      · obtain ⟨p1, p2⟩ := hp
        obtain ⟨i, rfl, hi, -⟩ := n_ofI p1
        have hik : i < k0 := by omega
        have ex : nI s0 * 60 + nI i = nI (60 * s0 + i) := by rw [show (60 : Int32) = nI 60 from rfl, n_mul, nI_add, Nat.mul_comm]
        have ey : 60 * nI s0 + nI i = nI (60 * s0 + i) := by rw [show (60 : Int32) = nI 60 from rfl, n_mul, nI_add]
        have es : nI (50 + s) - 50 = nI s := by rw [show (50 : Int32) = nI 50 from rfl, n_sub (by omega), Nat.add_sub_cancel_left]
        refine Jn.of2 (v := 1) (P := fun M1 => M1 = am_wl M 25 (60 * s0 + i) (nrw s v)) (fun Q k => ?_) (fun M1 e Q k => ?_)
        · have K := k _ rfl
          refine t_Mo_put ?_
          rw [n_cl (by omega), e22, e23]
          ((try simp only [lg_cmp_lt, lg_cmp_gt]); simp (disch := omega) only [n_vp, t_1, Int64.lt_iff_toInt_lt, Int32.toInt_toInt64, Int64.reduceToInt, ← Int32.toInt_inj, Int32.lt_iff_toInt_lt, Int32.le_iff_toInt_le, Int32.reduceToInt, nI_toInt, false_implies, true_implies, and_true, true_and, not_true_eq_false, not_false_eq_true, forall_const, implies_true, false_and, and_false, true_or, or_true, eq_self])
          repeat' (first | (with_reducible refine And.intro ?_ ?_) | (with_reducible intro h; first | (exfalso; omega) | contradiction | skip))
          all_goals first | omega | skip
          refine s_isPlace (by omega) hs0 e23 e24 hs hk0 (u_Mo_put_24 ⟨fun _ => ?_, fun z => ?_⟩)
          · refine t_Shelves_sets (s_isPlace (by omega) hs0 e23 e24 hs hk0 (u_Shelves_sets_6 ⟨fun z => ?_, fun _ => ⟨(n_vp (by omega)).mpr (by omega), ?_⟩⟩))
            · rw [b2i_0] at z; simp only [decide_eq_false_iff_not] at z; omega
            · rw [n_cl (show s0 < 2 ^ 31 by omega), e23, ex]
              refine s_narrowed hs (u_Shelves_sets_29 ⟨(n_vp (by omega)).mpr (by omega), ?_⟩)
              rw [n_cl (by omega)]
              exact u_Mo_put_40 K
          · rw [b2i_0] at z; simp only [decide_eq_false_iff_not] at z; omega
        · have F : fs [25, 59] [] M (am_wl M1 59 (60 * s0 + i) (nrw s v)) := by
            rw [e]; exact (fs.rf.wl (by decide)).wl (by decide)
          have I2 : Inv (am_wl M1 59 (60 * s0 + i) (nrw s v)) := by
            refine ⟨n, f, T, bn, hP.keep F (by decide) (by decide) (fun _ _ => by rw [F.i 41]), hL.keep F (by decide) (by decide), hT.keep F (by decide) (by decide), hC.keep F (by decide) (by decide), hD.keep F (by decide) (by decide), hA.keep F (by decide) (by decide), fun d hd => ?_, by rw [F.j 23]; exact h23⟩
            have q25 : ∀ j, (am_wl M1 59 (60 * s0 + i) (nrw s v)).2 25 j = if j = 60 * s0 + i then nrw s v else M.2 25 j := fun j => by
              rw [wl_rd, if_neg (by decide), e, wl_rd, if_pos rfl]
            have q59 : ∀ j, (am_wl M1 59 (60 * s0 + i) (nrw s v)).2 59 j = if j = 60 * s0 + i then nrw s v else M.2 59 j := fun j => by
              rw [wl_rd, if_pos rfl, e, wl_rd, if_neg (show ¬ (59 : Nat) = 25 by decide)]
            by_cases h : d = s0
            · subst h
              refine Or.inr (Or.inr ⟨s, k0, hs, hk0, by rw [F.i 57]; exact e57, by rw [F.i 22]; exact e22, by rw [F.i 23]; exact e23, by rw [F.i 24]; exact e24, by rw [F.i 58]; exact e58, fun j hj => ?_⟩)
              rw [q25, q59]
              by_cases h2 : 60 * d + j = 60 * d + i
              · rw [if_pos h2, if_pos h2]
                refine ⟨rfl, fun hs1 => ?_⟩
                subst hs1
                exact ⟨_, rfl⟩
              · rw [if_neg h2, if_neg h2]; exact hrow j hj
            · exact hS.at_ne hd h (by rw [F.i 22]) (by rw [F.i 23]) (by rw [F.i 24]) (by rw [F.i 57]) (by rw [F.i 58]) (fun j hj => by rw [q25, if_neg (by omega)]) (fun j hj => by rw [q59, if_neg (by omega)])
          have K := k _ I2
          have f57 : M1.1 57 s0 = nI (50 + s) := by rw [e]; exact e57
          have f58 : M1.1 58 s0 = nI k0 := by rw [e]; exact e58
          refine t_Md_put ?_
          rw [n_cl (show s0 < 2 ^ 31 by omega), f57, f58, es, ey]
          ((try simp only [lg_cmp_lt, lg_cmp_gt]); simp (disch := omega) only [n_vp, t_1, Int64.lt_iff_toInt_lt, Int32.toInt_toInt64, Int64.reduceToInt, ← Int32.toInt_inj, Int32.lt_iff_toInt_lt, Int32.le_iff_toInt_le, Int32.reduceToInt, nI_toInt, false_implies, true_implies, and_true, true_and, not_true_eq_false, not_false_eq_true, forall_const, implies_true, false_and, and_false, true_or, or_true, eq_self])
          repeat' (first | (with_reducible refine And.intro ?_ ?_) | (with_reducible intro h; first | (exfalso; omega) | contradiction | skip))
          all_goals first | omega | skip
          refine m_asSort hs (u_Md_put_36 ⟨(n_vp (by omega)).mpr (by omega), fun z => absurd rfl z, fun _ => ?_⟩)
          rw [n_cl (by omega)]
          exact K
      · refine Jn.no (-13) hI0 (fun Q k => ?_) (fun Q k => ?_)
        · refine t_Mo_put ?_
          rw [n_cl (by omega), e22, e23]
          ((try simp only [lg_cmp_lt, lg_cmp_gt]); simp (disch := omega) only [n_vp, t_1, Int64.lt_iff_toInt_lt, Int32.toInt_toInt64, Int64.reduceToInt, ← Int32.toInt_inj, Int32.lt_iff_toInt_lt, Int32.le_iff_toInt_le, Int32.reduceToInt, nI_toInt, false_implies, true_implies, and_true, true_and, not_true_eq_false, not_false_eq_true, forall_const, implies_true, false_and, and_false, true_or, or_true, eq_self])
          repeat' (first | (with_reducible refine And.intro ?_ ?_) | (with_reducible intro h; first | (exfalso; omega) | contradiction | skip))
          all_goals first | omega | skip
          refine s_isPlace (by omega) hs0 e23 e24 hs hk0 (u_Mo_put_24 ⟨fun z => ?_, fun _ => k⟩)
          rw [b2i_n0] at z; simp only [decide_eq_true_eq] at z; omega
        · refine t_Md_put ?_
          rw [n_cl (by omega), e57, e58]
          ((try simp only [lg_cmp_lt, lg_cmp_gt]); simp (disch := omega) only [n_vp, t_1, Int64.lt_iff_toInt_lt, Int32.toInt_toInt64, Int64.reduceToInt, ← Int32.toInt_inj, Int32.lt_iff_toInt_lt, Int32.le_iff_toInt_le, Int32.reduceToInt, nI_toInt, false_implies, true_implies, and_true, true_and, not_true_eq_false, not_false_eq_true, forall_const, implies_true, false_and, and_false, true_or, or_true, eq_self])
          repeat' (first | (with_reducible refine And.intro ?_ ?_) | (with_reducible intro h; first | (exfalso; omega) | contradiction | skip))
          all_goals first | exact k | (exfalso; omega) | omega
  · refine Jn.no (-1) hI0 (fun Q k => ?_) (fun Q k => ?_)
    · refine t_Mo_put ?_
      ((try simp only [lg_cmp_lt, lg_cmp_gt]); simp (disch := omega) only [t_1, Int64.lt_iff_toInt_lt, Int32.toInt_toInt64, Int64.reduceToInt, ← Int32.toInt_inj, Int32.lt_iff_toInt_lt, Int32.le_iff_toInt_le, Int32.reduceToInt, nI_toInt, false_implies, true_implies, and_true, true_and, not_true_eq_false, not_false_eq_true, forall_const, implies_true, false_and, and_false, true_or, or_true, eq_self])
      repeat' (first | (with_reducible refine And.intro ?_ ?_) | (with_reducible intro h; first | (exfalso; omega) | contradiction | skip))
      all_goals first | exact k | (exfalso; omega)
    · refine t_Md_put ?_
      ((try simp only [lg_cmp_lt, lg_cmp_gt]); simp (disch := omega) only [t_1, Int64.lt_iff_toInt_lt, Int32.toInt_toInt64, Int64.reduceToInt, ← Int32.toInt_inj, Int32.lt_iff_toInt_lt, Int32.le_iff_toInt_le, Int32.reduceToInt, nI_toInt, false_implies, true_implies, and_true, true_and, not_true_eq_false, not_false_eq_true, forall_const, implies_true, false_and, and_false, true_or, or_true, eq_self])
      repeat' (first | (with_reducible refine And.intro ?_ ?_) | (with_reducible intro h; first | (exfalso; omega) | contradiction | skip))
      all_goals first | exact k | (exfalso; omega)
end E2
