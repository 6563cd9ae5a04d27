section D6
variable {L : Nat} {xs : Nat → Int32} {d : Nat} {Q : AQ} {M M1 M2 : AM} {T : PV} {f : Nat → Nat → Nat} {n k0 : Nat} {C G : Nat → Bool} {io : Nat → Option Nat} {x1 x2 x3 : Int32}
/-- the best of the first sets: which, how many -/
def gtO (o : Option Nat) (x : Nat) : Bool := match o with
  | none => true
  | some y => decide (y < x)
def bst (c : Nat → Nat) : Nat → Nat × Option Nat
  | 0 => (0, none)
  | m + 1 => if gtO (bst c m).2 (c m) then (m, some (c m)) else bst c m
theorem bst_b {c : Nat → Nat} {n : Nat} (h : ∀ m, c m ≤ n) : ∀ m, (bst c m).1 ≤ m ∧ ∀ y, (bst c m).2 = some y → y ≤ n
  | 0 => ⟨Nat.le_refl _, fun y z => by cases z⟩
  | m + 1 => by
    have ih := bst_b h m
    rw [bst]
    by_cases hg : gtO (bst c m).2 (c m) = true
    · rw [if_pos hg]; exact ⟨Nat.le_succ m, fun y z => by cases z; exact h m⟩
    · rw [if_neg hg]; exact ⟨by omega, ih.2⟩
theorem bst_stop {c : Nat → Nat} {n m : Nat} (h : ∀ m, c m ≤ n) (hm : (bst c m).2 = some n) : ∀ j, bst c (m + j) = bst c m
  | 0 => rfl
  | j + 1 => by
    have ih := bst_stop h hm j
    rw [← Nat.add_assoc, bst, ih, hm, if_neg (by simp [gtO, h (m + j)])]
theorem j_bestSet (hI : Inv M) (hd : 100 ≤ d) : Jn L xs d c_Mo_bestSet c_Md_bestSet [.ref 0, .int x1, .int x2] [.ref 40, .int x1, .int x2] M := by
  obtain ⟨n, f, T, hx, hr⟩ := hI.s
  obtain ⟨d, rfl⟩ : ∃ a, d = a + 9 := ⟨d - 9, by omega⟩
  have hn := hx.2.2.2
  have e1 := hx.1.1
  have e6 := hr.1
  have e8 : (nI n).toInt = n := nI_toInt (by omega)
  by_cases hv : (0 ≤ x1.toInt ∧ x1.toInt ≤ 100 ∧ 0 ≤ x2.toInt ∧ x2.toInt ≤ 1) ∧ n ≤ 8
  · obtain ⟨⟨v1, v2, v3, v4⟩, hn8⟩ := hv
    obtain ⟨s, rfl, hs, -⟩ := n_ofI v1
    obtain ⟨w, rfl, hw, -⟩ := n_ofI v3
    have ew : nI w = 0 ↔ w = 0 := nI_eq (b := 0) (by omega) (by decide)
    have hB : 2 ^ n ≤ 256 := Nat.pow_le_pow_right (n := 2) (by decide) hn8
    have hB0 : 0 < 2 ^ n := Nat.two_pow_pos n
    have hall := n_all (n := n) (by omega)
    have hshl := n_shl1 (p := n) (by omega)
    obtain ⟨B, hBe⟩ : ∃ B, B = 2 ^ n := ⟨_, rfl⟩
    rw [← hBe] at hB hB0 hall hshl
    have hE : nI (B - 1) = sI (ein n) := by rw [← hall]; exact sI_all (by omega)
    generalize hc : (fun m : Nat => cnt (fun p => (dgo T n f (ein n) m.testBit 5 s p).isSome) n) = c
    have hcm : ∀ m, c m = cnt (fun p => (dgo T n f (ein n) m.testBit 5 s p).isSome) n := fun m => by rw [← hc]
    have hcn : ∀ m, c m ≤ n := fun m => by rw [hcm]; exact cnt_le _ n
    have hbb := bst_b hcn
    have oMb : ∀ m, oM (bst c m).2 = -1 ∨ ∃ y, y ≤ n ∧ (bst c m).2 = some y ∧ oM (bst c m).2 = nI y := fun m => by
      cases z : (bst c m).2 with
      | none => exact Or.inl rfl
      | some y => exact Or.inr ⟨y, (hbb m).2 y z, rfl, rfl⟩
    refine Jn.of2 (v := if w = 0 then nI (bst c B).1 else oM (bst c B).2) (P := fr qK M) (fun Q k => ?_) (fun M1 F Q k => ?_)
    · have fin : ∀ M1, fr qK M M1 → ∀ m, bst c m = bst c B → (¬ nI w = 0 → Q (some (.int (oM (bst c m).2))) M1) ∧ (nI w = 0 → Q (some (.int (nI (bst c m).1))) M1) := by
        intro M1 F m hm
        have K := k M1 F
        rw [hm]
        refine ⟨fun z => ?_, fun z => ?_⟩
        · rw [if_neg (fun y => z (ew.mpr y))] at K; exact K
        · rw [if_pos (ew.mp z)] at K; exact K
      have loop : ∀ j m M1, m + j = B → fr qK M M1 → xS n f T M1 → crw 16 17 n f M1 → cch 16 18 n f M1 → v_Wishes_fullestSet L xs (d + 7) (fun r M' => v_Mo_bestSet L xs (d + 8) Q 40 [] (r.toList ++ []) M') 19 [(0, .ref 20), (1, .int (nI s)), (2, .int (nI w)), (3, .int (oM (bst c m).2)), (4, .int (nI (bst c m).1)), (5, .int (nI m))] [] M1 := by
        intro j
        induction j with
        | zero =>
          intro m M1 hm F s1 c1 c2
          have hmB : m = B := by omega
          have ff := fin M1 F m (by rw [hmB])
          refine u_Wishes_fullestSet_19 ?_
          rw [s1.1.1, hall]
          exact ⟨fun _ => ⟨fun z => u_Mo_bestSet_40 (ff.1 z), fun z => u_Mo_bestSet_40 (ff.2 z)⟩, fun z => absurd ((n_ltI (by omega) (by omega)).mpr (by omega)) z⟩
        | succ j ih =>
          intro m M1 hm F s1 c1 c2
          have hset : nI m = sI m.testBit := sI_nat (by omega)
          refine u_Wishes_fullestSet_19 ?_
          rw [s1.1.1, hall]
          refine ⟨fun z => absurd ((n_ltI (by omega) (by omega)).mp z) (by omega), fun _ => ⟨fun z => ?_, fun z => ?_⟩⟩
          · have hs : (bst c m).2 = some n := by
              rcases oMb m with e | ⟨y, y1, y2, y3⟩
              · rw [e] at z; exact absurd (show nI n < 0 from Int32.lt_of_le_of_lt z (by decide)) (nI_pos (by omega))
              · rw [y3, n_leI (by omega) (by omega)] at z
                rw [y2]; congr 1; omega
            have ff := fin M1 F m (by rw [show B = m + (B - m) from by omega, bst_stop hcn hs])
            exact ⟨fun z => u_Mo_bestSet_40 (ff.1 z), fun z => u_Mo_bestSet_40 (ff.2 z)⟩
          · rw [hE]
            refine x_again (C := ein n) (by omega) s1 c1 c2 (fun M2 f2 s2 g2 l2 => u_Wishes_fullestSet_56 ?_)
            rw [hset]
            refine x_two (by omega) s2 g2 (by omega) l2 (fun M3 f3 s3 g3 => ?_)
            rw [← hset, ← hcm m]
            have nx := ih (m + 1) M3 (by omega) ((F.q f2).q f3) s3 g3.1 g3.2.1
            rw [bst] at nx
            have hcmn := hcn m
            refine u_Wishes_fullestSet_66 ⟨fun y => ?_, fun y => ?_⟩
            · rw [nI_1]
              have hcond : gtO (bst c m).2 (c m) = true := by
                rcases oMb m with e | ⟨q, y1, y2, y3⟩
                · cases h : (bst c m).2 with
                  | none => rfl
                  | some q => rw [h] at e; exact absurd (show nI q < 0 by rw [show nI q = -1 from e]; decide) (nI_pos (by have := (hbb m).2 q h; omega))
                · rw [y3, n_ltI (by omega) (by omega)] at y
                  rw [y2]; simp [gtO, y]
              rw [if_pos hcond] at nx
              exact nx
            · rw [nI_1]
              have hcond : ¬ gtO (bst c m).2 (c m) = true := by
                rcases oMb m with e | ⟨q, y1, y2, y3⟩
                · rw [e] at y; exact absurd (show (-1 : Int32) < nI (c m) from Int32.lt_of_lt_of_le (by decide) (nI_pos' (by omega))) y
                · rw [y3, n_ltI (by omega) (by omega)] at y
                  rw [y2]; simp [gtO]; omega
              rw [if_neg hcond] at nx
              exact nx
      refine t_Mo_bestSet ?_
      ((try simp only [lg_cmp_lt, lg_cmp_gt]); simp (disch := omega) only [e1, e8, Int64.lt_iff_toInt_lt, Int32.toInt_toInt64, Int64.reduceToInt, ← Int32.toInt_inj, Int32.lt_iff_toInt_lt, Int32.le_iff_toInt_le, Int32.reduceToInt, nI_toInt, false_implies, true_implies, and_true, true_and, not_true_eq_false, not_false_eq_true, forall_const, implies_true, false_and, and_false, true_or, or_true, eq_self])
      repeat' (first | (with_reducible refine And.intro ?_ ?_) | (with_reducible intro h; first | (exfalso; omega) | contradiction | skip))
      all_goals exact t_Wishes_fullestSet (x_bg (by omega) hx (fun M1 f1 s1 g1 l1 => u_Wishes_fullestSet_11 (loop B 0 M1 (by omega) f1 s1 g1.1 g1.2.1)))
    · have loop : ∀ j m M4, m + j = B → fs yK eJ M1 M4 → rS n f T M4 → v_Md_bestSet L xs (d + 8) Q 39 [(0, .ref 40), (1, .int (nI s)), (2, .int (nI w)), (3, .int (nI (bst c m).1)), (4, .int (oM (bst c m).2)), (5, .int (nI m))] [] M4 := by
        intro j
        induction j with
        | zero =>
          intro m M4 hm F4 s4
          have hmB : m = B := by omega
          have K := k M4 (hI.q2 F F4)
          rw [← hmB] at K
          refine u_Md_bestSet_39 ?_
          rw [s4.1, hshl]
          refine ⟨fun _ => ⟨fun z => ?_, fun z => ?_⟩, fun z => absurd ((n_leI (by omega) (by omega)).mpr (by omega)) z⟩
          · rw [if_neg (fun y => z (ew.mpr y))] at K; exact K
          · rw [if_pos (ew.mp z)] at K; exact K
        | succ j ih =>
          intro m M4 hm F4 s4
          have hset : nI m = sI m.testBit := sI_nat (by omega)
          have hcmn := hcn m
          refine u_Md_bestSet_39 ?_
          rw [s4.1, hshl]
          refine ⟨fun z => absurd ((n_leI (by omega) (by omega)).mp z) (by omega), fun _ => ?_⟩
          refine m_bg (by omega) s4 (fun M5 f5 s5 g5 l5 => u_Md_bestSet_54 ?_)
          rw [hset]
          have fw : fs yK eJ M5 (am_wi M5 40 21 (sI m.testBit)) := fs.rf.s (by decide)
          refine m_go (by omega) (s5.keep fw) g5.w21 (by omega) (by rw [wi_sl (by decide)]; exact l5) (fun M6 f6 s6 g6 l6 => ?_)
          rw [← hset]
          refine u_Md_bestSet_65 (m_inM (by omega) s6 g6 (by omega) ?_)
          have F6 : fs yK eJ M1 M6 := ((F4.tt f5).tt fw).tt f6
          have nx := ih (m + 1) M6 (by omega) F6 s6
          rw [bst] at nx
          have hlt : ∀ x : Int32, x = nI (c m) → (x ≤ oM (bst c m).2 ↔ ¬ gtO (bst c m).2 (c m) = true) := by
            intro x hx'
            subst hx'
            rcases oMb m with e | ⟨q, y1, y2, y3⟩
            · rw [e]
              have hn2 : (bst c m).2 = none := by
                cases h : (bst c m).2 with
                | none => rfl
                | some q => rw [h] at e; exact absurd (show nI q < 0 by rw [show nI q = -1 from e]; decide) (nI_pos (by have := (hbb m).2 q h; omega))
              rw [hn2]
              exact ⟨fun z => absurd (show nI (c m) < 0 from Int32.lt_of_le_of_lt z (by decide)) (nI_pos (by omega)), fun z => absurd rfl z⟩
            · rw [y3, y2, n_leI (by omega) (by omega)]; simp [gtO]
          rw [← hcm m]
          refine u_Md_bestSet_69 ⟨fun y => ?_, fun y => ?_⟩
          · rw [if_neg ((hlt _ rfl).mp y)] at nx
            refine m_inM (by omega) s6 g6 (by omega) ?_
            rw [← hcm m]
            refine u_Md_bestSet_85 ⟨fun _ => ?_, fun y2 => absurd y y2⟩
            rw [nI_1]; exact nx
          · rw [if_pos (Decidable.byContradiction (fun y2 => y ((hlt _ rfl).mpr y2)))] at nx
            refine m_inM (by omega) s6 g6 (by omega) ?_
            rw [← hcm m]
            refine u_Md_bestSet_85 ⟨fun y2 => absurd y2 y, fun _ => ?_⟩
            refine m_inM (by omega) s6 g6 (by omega) ?_
            rw [← hcm m]
            refine u_Md_bestSet_94 ?_
            rw [nI_1]; exact nx
      have e6' := (hr.x F).1
      refine t_Md_bestSet ?_
      ((try simp only [lg_cmp_lt, lg_cmp_gt]); simp (disch := omega) only [e6', e8, Int64.lt_iff_toInt_lt, Int32.toInt_toInt64, Int64.reduceToInt, ← Int32.toInt_inj, Int32.lt_iff_toInt_lt, Int32.le_iff_toInt_le, Int32.reduceToInt, nI_toInt, false_implies, true_implies, and_true, true_and, not_true_eq_false, not_false_eq_true, forall_const, implies_true, false_and, and_false, true_or, or_true, eq_self])
      repeat' (first | (with_reducible refine And.intro ?_ ?_) | (with_reducible intro h; first | (exfalso; omega) | contradiction | skip))
      all_goals exact loop B 0 M1 (by omega) fs.rf (hr.x F)
  · by_cases hv2 : 0 ≤ x1.toInt ∧ x1.toInt ≤ 100 ∧ 0 ≤ x2.toInt ∧ x2.toInt ≤ 1
    · refine Jn.no (-5) hI (fun Q k => ?_) (fun Q k => ?_)
      · refine t_Mo_bestSet ?_
        ((try simp only [lg_cmp_lt, lg_cmp_gt]); simp (disch := omega) only [e1, e8, Int64.lt_iff_toInt_lt, Int32.toInt_toInt64, Int64.reduceToInt, ← Int32.toInt_inj, Int32.lt_iff_toInt_lt, Int32.le_iff_toInt_le, Int32.reduceToInt, nI_toInt, false_implies, true_implies, and_true, true_and, not_true_eq_false, not_false_eq_true, forall_const, implies_true, false_and, and_false, true_or, or_true, eq_self])
        repeat' (first | (with_reducible refine And.intro ?_ ?_) | (with_reducible intro h; first | (exfalso; omega) | contradiction | skip))
        all_goals first | exact k | (exfalso; omega)
      · refine t_Md_bestSet ?_
        ((try simp only [lg_cmp_lt, lg_cmp_gt]); simp (disch := omega) only [e6, e8, Int64.lt_iff_toInt_lt, Int32.toInt_toInt64, Int64.reduceToInt, ← Int32.toInt_inj, Int32.lt_iff_toInt_lt, Int32.le_iff_toInt_le, Int32.reduceToInt, nI_toInt, false_implies, true_implies, and_true, true_and, not_true_eq_false, not_false_eq_true, forall_const, implies_true, false_and, and_false, true_or, or_true, eq_self])
        repeat' (first | (with_reducible refine And.intro ?_ ?_) | (with_reducible intro h; first | (exfalso; omega) | contradiction | skip))
        all_goals first | exact k | (exfalso; omega)
    · refine Jn.no (-1) hI (fun Q k => ?_) (fun Q k => ?_)
      · refine t_Mo_bestSet ?_
        ((try simp only [lg_cmp_lt, lg_cmp_gt]); simp (disch := omega) only [e1, e8, Int64.lt_iff_toInt_lt, Int32.toInt_toInt64, Int64.reduceToInt, ← Int32.toInt_inj, Int32.lt_iff_toInt_lt, Int32.le_iff_toInt_le, Int32.reduceToInt, nI_toInt, false_implies, true_implies, and_true, true_and, not_true_eq_false, not_false_eq_true, forall_const, implies_true, false_and, and_false, true_or, or_true, eq_self])
        repeat' (first | (with_reducible refine And.intro ?_ ?_) | (with_reducible intro h; first | (exfalso; omega) | contradiction | skip))
        all_goals first | exact k | (exfalso; omega)
      · refine t_Md_bestSet ?_
        ((try simp only [lg_cmp_lt, lg_cmp_gt]); simp (disch := omega) only [e6, e8, Int64.lt_iff_toInt_lt, Int32.toInt_toInt64, Int64.reduceToInt, ← Int32.toInt_inj, Int32.lt_iff_toInt_lt, Int32.le_iff_toInt_le, Int32.reduceToInt, nI_toInt, false_implies, true_implies, and_true, true_and, not_true_eq_false, not_false_eq_true, forall_const, implies_true, false_and, and_false, true_or, or_true, eq_self])
        repeat' (first | (with_reducible refine And.intro ?_ ?_) | (with_reducible intro h; first | (exfalso; omega) | contradiction | skip))
        all_goals first | exact k | (exfalso; omega)
end D6
