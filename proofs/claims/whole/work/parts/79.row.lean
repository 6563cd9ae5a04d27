section E3
variable {L : Nat} {xs : Nat → Int32} {d : Nat} {Q : AQ} {M M1 M2 : AM} {x1 x2 x3 x4 x5 : Int32} {s0 s k0 : Nat}
theorem s_fillL {lo hi : Nat} (hd : 2 ≤ d) (h1 : lo ≤ hi) (h2 : hi ≤ 360) (kk : ∀ M', M'.1 = M.1 → (∀ b, b ≠ 25 → M'.2 b = M.2 b) → (∀ j, M'.2 25 j = if lo ≤ j ∧ j < hi then 0 else M.2 25 j) → Q none M') : am_Call (gG L xs) d c_J_fillL [.ref 25, .int (nI lo), .int (nI hi), .long 0] M Q := by
  obtain ⟨d, rfl⟩ : ∃ a, d = a + 2 := ⟨d - 2, by omega⟩
  have ha : gSh[25]? = some (.inr (true, 360)) := rfl
  have loop : ∀ j p M1, p + j = hi → lo ≤ p → M1.1 = M.1 → (∀ b, b ≠ 25 → M1.2 b = M.2 b) → (∀ j, M1.2 25 j = if lo ≤ j ∧ j < p then 0 else M.2 25 j) → v_J_fillL L xs (d + 1) Q 10 [(0, .ref 25), (2, .int (nI hi)), (3, .long 0), (5, .int (nI p))] [] M1 := by
    intro j
    induction j with
    | zero =>
      intro p M1 hp hl a1 a2 a3
      have : p = hi := by omega
      subst this
      exact u_J_fillL_10 ha ⟨fun _ => kk M1 a1 a2 a3, fun z => absurd (nI_le (Nat.le_refl _) (by omega)) z⟩
    | succ j ih =>
      intro p M1 hp hl a1 a2 a3
      refine u_J_fillL_10 ha ⟨fun z => absurd z (nI_ge (by omega) (by omega)), fun _ => ⟨(n_vp (by omega)).mpr (by omega), ?_⟩⟩
      rw [n_cl (by omega), nI_1]
      refine ih (p + 1) _ (by omega) (by omega) a1 (fun b hb => ?_) (fun q => ?_)
      · show am_up M1.2 25 p 0 b = _
        rw [am_up_ne hb]; exact a2 b hb
      · rw [wl_rd, if_pos rfl, a3]
        by_cases h : q = p
        · subst h; rw [if_pos rfl, if_pos ⟨hl, by omega⟩]
        · rw [if_neg h]
          by_cases h3 : lo ≤ q ∧ q < p
          · rw [if_pos h3, if_pos ⟨h3.1, by omega⟩]
          · rw [if_neg h3, if_neg (fun z => h3 ⟨z.1, by omega⟩)]
  refine t_J_fillL ha (t_J_rangeCheck ⟨fun _ => ⟨fun _ => ⟨fun _ => u_J_fillL_7 ha (loop (hi - lo) lo M (by omega) (Nat.le_refl _) rfl (fun _ _ => rfl) (fun j => by rw [if_neg (by omega)])), fun z => absurd ((n_leI (b := 360) (by omega) (by decide)).mpr h2) z⟩, fun z => absurd (nI_pos' (by omega)) z⟩, fun z => absurd (nI_le h1 (by omega)) z⟩)
theorem j_row (hI : Inv M) (hd : 100 ≤ d) : Jn L xs d c_Mo_row c_Md_row [.ref 0, .int x1, .int x2, .int x3] [.ref 40, .int x1, .int x2, .int x3] M := by
  have hI0 := hI
  obtain ⟨n, f, T, bn, hP, hL, hT, hC, hD, hA, hS, h23⟩ := hI
  obtain ⟨d, rfl⟩ : ∃ a, d = a + 9 := ⟨d - 9, by omega⟩
  by_cases hv : 0 ≤ x1.toInt ∧ x1.toInt < 6 ∧ 0 ≤ x2.toInt ∧ x2.toInt ≤ 4 ∧ x3.toInt ≤ 60
  · obtain ⟨v1, v2, v3, v4, v5⟩ := hv
    by_cases hp : 0 ≤ x3.toInt
    · obtain ⟨s0, rfl, hk, -⟩ := n_ofI v1
      obtain ⟨s, rfl, hs, -⟩ := n_ofI v3
      obtain ⟨k0, rfl, hk0, -⟩ := n_ofI hp
      have ex : nI s0 * 60 = nI (60 * s0) := by rw [show (60 : Int32) = nI 60 from rfl, n_mul, Nat.mul_comm]
      have ey : 60 * nI s0 = nI (60 * s0) := by rw [show (60 : Int32) = nI 60 from rfl, n_mul]
      have ez : nI (60 * s0) + 60 = nI (60 * s0 + 60) := by rw [show (60 : Int32) = nI 60 from rfl, nI_add]
      have e50 : 50 + nI s = nI (50 + s) := by rw [show (50 : Int32) = nI 50 from rfl, nI_add]
      refine Jn.of2 (v := 1) (P := fun M1 => M1.1 = (am_wi (am_wi (am_wi M 22 s0 (-1)) 23 s0 (nI s)) 24 s0 (nI k0)).1 ∧ (∀ b, b ≠ 25 → M1.2 b = M.2 b) ∧ ∀ j, M1.2 25 j = if 60 * s0 ≤ j ∧ j < 60 * s0 + k0 then 0 else M.2 25 j) (fun Q k => ?_) (fun M1 e Q k => ?_)
      · refine t_Mo_row ?_
        ((try simp only [lg_cmp_lt, lg_cmp_gt]); simp (disch := omega) only [Int64.lt_iff_toInt_lt, Int32.toInt_toInt64, Int64.reduceToInt, ← Int32.toInt_inj, Int32.lt_iff_toInt_lt, Int32.le_iff_toInt_le, Int32.reduceToInt, nI_toInt, false_implies, true_implies, and_true, true_and, not_true_eq_false, not_false_eq_true, forall_const, implies_true, false_and, and_false, true_or, or_true, eq_self])
        repeat' (first | (with_reducible refine And.intro ?_ ?_) | (with_reducible intro h; first | (exfalso; omega) | contradiction | skip))
        refine t_Shelves_lays ?_
        rw [n_cl (by omega), ex, nI_add]
        ((try simp only [lg_cmp_lt, lg_cmp_gt]); simp (disch := omega) only [n_vp, Int64.lt_iff_toInt_lt, Int32.toInt_toInt64, Int64.reduceToInt, ← Int32.toInt_inj, Int32.lt_iff_toInt_lt, Int32.le_iff_toInt_le, Int32.reduceToInt, nI_toInt, false_implies, true_implies, and_true, true_and, not_true_eq_false, not_false_eq_true, forall_const, implies_true, false_and, and_false, true_or, or_true, eq_self])
        repeat' (first | (with_reducible refine And.intro ?_ ?_) | (with_reducible intro h; first | (exfalso; omega) | contradiction | skip))
        all_goals first | omega | skip
        exact s_fillL (by omega) (by omega) (by omega) (fun M' a1 a2 a3 => u_Shelves_lays_57 (u_Mo_row_41 (k M' ⟨a1, a2, a3⟩)))
      · obtain ⟨a1, a2, a3⟩ := e
        have r1 : ∀ b j, M1.1 b j = (am_wi (am_wi (am_wi M 22 s0 (-1)) 23 s0 (nI s)) 24 s0 (nI k0)).1 b j := fun b j => by rw [a1]
        have fin : ∀ M2 : AM, (M2.1 = (am_wi (am_wi M1 57 s0 (nI (50 + s))) 58 s0 (nI k0)).1) → (∀ b, b ≠ 59 → M2.2 b = M1.2 b) → (∀ j, M2.2 59 j = if 60 * s0 ≤ j ∧ j < 60 * s0 + 60 then 0 else M.2 59 j) → Inv M2 := by
          intro M2 c1 c2 c3
          have r2 : ∀ b j, M2.1 b j = (am_wi (am_wi M1 57 s0 (nI (50 + s))) 58 s0 (nI k0)).1 b j := fun b j => by rw [c1]
          have rr : ∀ b, b ∉ [22, 23, 24, 57, 58] → M2.1 b = M.1 b := fun b hb => by
            simp only [List.mem_cons, List.not_mem_nil, or_false, not_or] at hb
            rw [c1, wi_ne hb.2.2.2.2, wi_ne hb.2.2.2.1, a1, wi_ne hb.2.2.1, wi_ne hb.2.1, wi_ne hb.1]
          have F : fs [22, 23, 24, 25, 57, 58, 59] [] M M2 := by
            refine ⟨fun b hb _ => rr b (fun z => hb ?_), fun j _ => by rw [rr 40 (by decide)], fun b hb => ?_⟩
            · simp only [List.mem_cons, List.not_mem_nil, or_false] at z ⊢; omega
            · simp only [List.mem_cons, List.not_mem_nil, or_false, not_or] at hb
              rw [c2 b (by omega), a2 b (by omega)]
          refine ⟨n, f, T, bn, hP.keep F (by decide) (by decide) (fun _ _ => by rw [F.i 41]), hL.keep F (by decide) (by decide), hT.keep F (by decide) (by decide), hC.keep F (by decide) (by decide), hD.keep F (by decide) (by decide), hA.keep F (by decide) (by decide), fun d hd => ?_, by rw [F.j 23]; exact h23⟩
          by_cases h : d = s0
          · subst h
            refine Or.inr (Or.inr ⟨s, k0, by omega, by omega, ?_, ?_, ?_, ?_, ?_, fun j hj => ?_⟩)
            · rw [r2, wi_ne (by decide), wi_eq]
            · rw [r2, wi_ne (by decide), wi_ne (by decide), r1, wi_ne (by decide), wi_ne (by decide), wi_eq]
            · rw [r2, wi_ne (by decide), wi_ne (by decide), r1, wi_ne (by decide), wi_eq]
            · rw [r2, wi_ne (by decide), wi_ne (by decide), r1, wi_eq]
            · rw [r2, wi_eq]
            · rw [c2 25 (by decide), a3, c3, if_pos (by omega), if_pos (by omega)]
              exact ⟨rfl, fun _ => ⟨0, rfl⟩⟩
          · refine hS.at_ne hd h ?_ ?_ ?_ ?_ ?_ (fun j hj => ?_) (fun j hj => ?_)
            · rw [r2, wi_ne (by decide), wi_ne (by decide), r1, wi_ne (by decide), wi_ne (by decide), wi_sl h]
            · rw [r2, wi_ne (by decide), wi_ne (by decide), r1, wi_ne (by decide), wi_sl h, wi_ne (by decide)]
            · rw [r2, wi_ne (by decide), wi_ne (by decide), r1, wi_sl h, wi_ne (by decide), wi_ne (by decide)]
            · rw [r2, wi_ne (by decide), wi_sl h, r1, wi_ne (by decide), wi_ne (by decide), wi_ne (by decide)]
            · rw [r2, wi_sl h, wi_ne (by decide), r1, wi_ne (by decide), wi_ne (by decide), wi_ne (by decide)]
            · rw [c2 25 (by decide), a3, if_neg (by omega)]
            · rw [c3, if_neg (by omega)]
        have loop : ∀ j p M2, p + j = 60 * s0 + 60 → 60 * s0 ≤ p → (M2.1 = (am_wi (am_wi M1 57 s0 (nI (50 + s))) 58 s0 (nI k0)).1) → (∀ b, b ≠ 59 → M2.2 b = M1.2 b) → (∀ j, M2.2 59 j = if 60 * s0 ≤ j ∧ j < p then 0 else M.2 59 j) → v_Md_row L xs (d + 8) Q 57 [(0, .ref 40), (1, .int (nI s0)), (4, .int (nI p))] [] M2 := by
          intro j
          induction j with
          | zero =>
            intro p M2 hp hl c1 c2 c3
            have : p = 60 * s0 + 60 := by omega
            refine u_Md_row_57 ?_
            rw [ey, ez]
            refine ⟨fun _ => k M2 (fin M2 c1 c2 (by rw [← this]; exact c3)), fun z => absurd (nI_le (by omega) (by omega)) z⟩
          | succ j ih =>
            intro p M2 hp hl c1 c2 c3
            refine u_Md_row_57 ?_
            rw [ey, ez]
            refine ⟨fun z => absurd z (nI_ge (by omega) (by omega)), fun _ => ⟨(n_vp (by omega)).mpr (by omega), ?_⟩⟩
            rw [n_cl (by omega), nI_1]
            refine ih (p + 1) _ (by omega) (by omega) c1 (fun b hb => ?_) (fun q => ?_)
            · show am_up M2.2 59 p 0 b = _
              rw [am_up_ne hb]; exact c2 b hb
            · rw [wl_rd, if_pos rfl, c3]
              by_cases h : q = p
              · subst h; rw [if_pos rfl, if_pos ⟨hl, by omega⟩]
              · rw [if_neg h]
                by_cases h3 : 60 * s0 ≤ q ∧ q < p
                · rw [if_pos h3, if_pos ⟨h3.1, by omega⟩]
                · rw [if_neg h3, if_neg (fun z => h3 ⟨z.1, by omega⟩)]
        refine t_Md_row ?_
        rw [n_cl (show s0 < 2 ^ 31 by omega), e50, ey]
        ((try simp only [lg_cmp_lt, lg_cmp_gt]); simp (disch := omega) only [n_vp, Int64.lt_iff_toInt_lt, Int32.toInt_toInt64, Int64.reduceToInt, ← Int32.toInt_inj, Int32.lt_iff_toInt_lt, Int32.le_iff_toInt_le, Int32.reduceToInt, nI_toInt, false_implies, true_implies, and_true, true_and, not_true_eq_false, not_false_eq_true, forall_const, implies_true, false_and, and_false, true_or, or_true, eq_self])
        repeat' (first | (with_reducible refine And.intro ?_ ?_) | (with_reducible intro h; first | (exfalso; omega) | contradiction | skip))
        all_goals first | omega | skip
        exact loop 60 (60 * s0) _ (by omega) (Nat.le_refl _) rfl (fun _ _ => rfl) (fun j => by rw [if_neg (by omega)]; exact congrFun (a2 59 (by decide)) j)
    · refine Jn.no (-14) hI0 (fun Q k => ?_) (fun Q k => ?_)
      · refine t_Mo_row ?_
        ((try simp only [lg_cmp_lt, lg_cmp_gt]); simp (disch := omega) only [t_1, Int64.lt_iff_toInt_lt, Int32.toInt_toInt64, Int64.reduceToInt, ← Int32.toInt_inj, Int32.lt_iff_toInt_lt, Int32.le_iff_toInt_le, Int32.reduceToInt, nI_toInt, false_implies, true_implies, and_true, true_and, not_true_eq_false, not_false_eq_true, forall_const, implies_true, false_and, and_false, true_or, or_true, eq_self])
        repeat' (first | (with_reducible refine And.intro ?_ ?_) | (with_reducible intro h; first | (exfalso; omega) | contradiction | skip))
        all_goals first | exact k | (exfalso; omega)
      · refine t_Md_row ?_
        ((try simp only [lg_cmp_lt, lg_cmp_gt]); simp (disch := omega) only [t_1, Int64.lt_iff_toInt_lt, Int32.toInt_toInt64, Int64.reduceToInt, ← Int32.toInt_inj, Int32.lt_iff_toInt_lt, Int32.le_iff_toInt_le, Int32.reduceToInt, nI_toInt, false_implies, true_implies, and_true, true_and, not_true_eq_false, not_false_eq_true, forall_const, implies_true, false_and, and_false, true_or, or_true, eq_self])
        repeat' (first | (with_reducible refine And.intro ?_ ?_) | (with_reducible intro h; first | (exfalso; omega) | contradiction | skip))
        all_goals first | exact k | (exfalso; omega)
  · refine Jn.no (-1) hI0 (fun Q k => ?_) (fun Q k => ?_)
    · refine t_Mo_row ?_
      ((try simp only [lg_cmp_lt, lg_cmp_gt]); simp (disch := omega) only [t_1, Int64.lt_iff_toInt_lt, Int32.toInt_toInt64, Int64.reduceToInt, ← Int32.toInt_inj, Int32.lt_iff_toInt_lt, Int32.le_iff_toInt_le, Int32.reduceToInt, nI_toInt, false_implies, true_implies, and_true, true_and, not_true_eq_false, not_false_eq_true, forall_const, implies_true, false_and, and_false, true_or, or_true, eq_self])
      repeat' (first | (with_reducible refine And.intro ?_ ?_) | (with_reducible intro h; first | (exfalso; omega) | contradiction | skip))
      all_goals first | exact k | (exfalso; omega)
    · refine t_Md_row ?_
      ((try simp only [lg_cmp_lt, lg_cmp_gt]); simp (disch := omega) only [t_1, Int64.lt_iff_toInt_lt, Int32.toInt_toInt64, Int64.reduceToInt, ← Int32.toInt_inj, Int32.lt_iff_toInt_lt, Int32.le_iff_toInt_le, Int32.reduceToInt, nI_toInt, false_implies, true_implies, and_true, true_and, not_true_eq_false, not_false_eq_true, forall_const, implies_true, false_and, and_false, true_or, or_true, eq_self])
      repeat' (first | (with_reducible refine And.intro ?_ ?_) | (with_reducible intro h; first | (exfalso; omega) | contradiction | skip))
      all_goals first | exact k | (exfalso; omega)
end E3
