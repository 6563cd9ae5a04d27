section E34
variable {L : Nat} {xs : Nat → Int32} {d : Nat} {Q : AQ} {M M0 M1 M2 : AM} {n N k0 p e v w r q s0 m acc : Nat} {f g h : Nat → Nat → Nat} {io : Nat → Option Nat} {C G : Nat → Bool} {T : PV} {x1 x2 x3 z : Int32} {row : Nat → Int64}
/-- how many sets fit, and who is in all of them -/
def wst (ok : Nat → Bool) (n : Nat) : Nat → Nat × (Nat → Bool)
  | 0 => (0, ein n)
  | m + 1 => if ok m then ((wst ok n m).1 + 1, fun p => (wst ok n m).2 p && m.testBit p) else wst ok n m
theorem wst_le {ok : Nat → Bool} {n : Nat} : ∀ m, (wst ok n m).1 ≤ m
  | 0 => Nat.le_refl _
  | m + 1 => by
    have ih := wst_le (ok := ok) (n := n) m
    unfold wst
    split
    · show (wst ok n m).1 + 1 ≤ m + 1; omega
    · omega
def wthV (w : Nat) (s : Nat × (Nat → Bool)) : Int32 := if w = 0 then nI s.1 else if s.1 = 0 then -2 else sI s.2
/-- does a set fit -/
def fit (T : PV) (n : Nat) (f : Nat → Nat → Nat) (row : Nat → Int64) (k0 m : Nat) : Bool := (unl T n f m.testBit row k0 0).isNone
theorem unl_2 {C : Nat → Bool} (hk : k0 ≤ 60) : oI (unl T n f C row k0 0) = -2 ↔ unl T n f C row k0 0 = none :=
  oI_eq (fun a h => by have := unl_b k0 0 a h; omega)
theorem s_againN (hd : 2 ≤ d) (h1 : crw 16 17 N f M) (h2 : cch 16 18 N f M) (hm : m < 2 ^ 15) (k : ∀ M', fr [15, 19] M M' → dayX N f m.testBit nob M' → M'.1 15 6 = nI 0 → Q none M') : am_Call (gG L xs) d c_Day_again [.ref 15, .int (nI m)] M Q := by
  rw [sI_nat hm]
  exact s_again hd h1 h2 k
theorem dayM.n20 {io : Nat → Option Nat} (h : dayM n 0 f C G io M) (hm : m < 2 ^ 15) : dayM n 0 f m.testBit G io (am_wi M 40 20 (nI m)) := by
  rw [sI_nat hm]
  exact h.w20
theorem sI_andN {F : Nat → Bool} (hm : m < 2 ^ 15) : sI F &&& nI m = sI (fun p => F p && m.testBit p) := by
  rw [sI_nat hm, sI_and]
theorem x_fits (hd : 12 ≤ d) (hx : xS n f T M) (hn8 : n ≤ 8) (h0 : s0 < 6) (hk0 : k0 ≤ 60) (h23 : M.1 23 s0 = nI 0) (h24 : M.1 24 s0 = nI k0) (hrow : ∀ i, i < k0 → M.2 25 (60 * s0 + i) = row i) (hw : w < 2) (kk : ∀ M', fr qK M M' → Q (some (.int (wthV w (wst (fit T n f row k0) n (2 ^ n))))) M') : am_Call (gG L xs) d c_Seen_setsThatFit [.ref 26, .int (nI s0), .int (nI w)] M Q := by
  obtain ⟨d, rfl⟩ : ∃ a, d = a + 2 := ⟨d - 2, by omega⟩
  have hn := hx.2.2.2
  have w0 : nI w = 0 ↔ w = 0 := nI_eq (b := 0) (by omega) (by decide)
  have hB : 2 ^ n ≤ 256 := Nat.pow_le_pow_right (n := 2) (by decide) hn8
  have hB0 : 0 < 2 ^ n := Nat.two_pow_pos n
  have hall := n_all (n := n) (by omega)
  obtain ⟨B, hBe⟩ : ∃ B, B = 2 ^ n := ⟨_, rfl⟩
  rw [← hBe] at hB hB0 hall kk
  have loop : ∀ j m (M1 : AM), m + j = B → fr qK M M1 → xS n f T M1 → cwG n f M1 → v_Seen_setsThatFit L xs (d + 1) Q 25 [(0, .ref 26), (1, .int (nI s0)), (2, .int (nI w)), (3, .int (nI (wst (fit T n f row k0) n m).1)), (4, .int (sI (wst (fit T n f row k0) n m).2)), (5, .int (nI m))] [] M1 := by
    intro j
    induction j with
    | zero =>
      intro m M1 hm F s1 c1
      have : m = B := by omega
      subst this
      have K := kk M1 F
      have hl := wst_le (ok := fit T n f row k0) (n := n) m
      unfold wthV at K
      refine u_Seen_setsThatFit_25 ?_
      rw [s1.1.1, hall]
      refine ⟨fun _ => ⟨fun y => ⟨fun z => ?_, fun z => ?_⟩, fun y => ?_⟩, fun y => absurd ((n_ltI (by omega) (by omega)).mpr (by omega)) y⟩
      · rw [if_neg (fun q => y (w0.mpr q)), if_neg (fun q => z (by rw [q]; rfl))] at K; exact K
      · rw [if_neg (fun q => y (w0.mpr q)), if_pos ((nI_eq (b := 0) (by omega) (by decide)).mp z)] at K; exact K
      · rw [if_pos (w0.mp y)] at K; exact K
    | succ j ih =>
      intro m M1 hm F s1 c1
      refine u_Seen_setsThatFit_25 ?_
      rw [s1.1.1, hall]
      refine ⟨fun y => absurd ((n_ltI (by omega) (by omega)).mp y) (by omega), fun _ => ?_⟩
      refine s_againN (by omega) c1.1 c1.2 (by omega) (fun M2 f2 g2 l2 => u_Seen_setsThatFit_46 ?_)
      have F2 : fr qK M M2 := F.q f2
      refine x_unlike (row := row) (m := k0) (by omega) (s1.keep (fr.rf.q f2)) hx.2.2.1 g2 l2 h0 hk0 (by rw [F2.i 23]; exact h23) (by rw [F2.i 24]; exact h24) (fun i hi => by rw [F2.l 25]; exact hrow i hi) (fun M3 f3 s3 c3 => ?_)
      have R := ih (m + 1) M3 (by omega) (F2.q f3 (fun _ h => h)) s3 c3
      rw [wst] at R
      refine u_Seen_setsThatFit_51 ⟨fun y => ?_, fun y => ?_⟩
      · rw [if_pos (by unfold fit; rw [(unl_2 hk0).mp y]; rfl)] at R
        rw [sI_andN (by omega), nI_1, nI_1]
        exact R
      · rw [if_neg (by unfold fit; intro q; exact y ((unl_2 hk0).mpr (Option.isNone_iff_eq_none.mp q)))] at R
        rw [nI_1]
        exact R
  refine t_Seen_setsThatFit (x_bg (by omega) hx (fun M1 f1 s1 g1 _ => u_Seen_setsThatFit_11 ?_))
  have W := loop B 0 M1 (by omega) f1 s1 ⟨g1.cr, g1.cc⟩
  rw [s1.1.1, sI_all (by omega)]
  exact W
theorem m_fits (hd : 76 ≤ d) (hr : rS n f T M) (hn8 : n ≤ 8) (h0 : s0 < 6) (hk0 : k0 ≤ 60) (h58 : M.1 58 s0 = nI k0) (hrow : ∀ i, i < k0 → M.2 59 (60 * s0 + i) = row i) (hw : w < 2) (kk : ∀ M', fs yK eJ M M' → Q (some (.int (wthV w (wst (fit T n f row k0) n (2 ^ n))))) M') : v_Md_with L xs d Q 62 [(0, .ref 40), (1, .int (nI s0)), (2, .int (nI w)), (3, .int 0), (4, .int (((1 : Int32) <<< ((M.1 40 6) &&& 31)) - 1)), (5, .int 0)] [] M := by
  have hn := hr.2.2.2.2.2
  have w0 : nI w = 0 ↔ w = 0 := nI_eq (b := 0) (by omega) (by decide)
  have hB : 2 ^ n ≤ 256 := Nat.pow_le_pow_right (n := 2) (by decide) hn8
  have hB0 : 0 < 2 ^ n := Nat.two_pow_pos n
  have hshl := n_shl1 (p := n) (by omega)
  obtain ⟨B, hBe⟩ : ∃ B, B = 2 ^ n := ⟨_, rfl⟩
  rw [← hBe] at hB hB0 hshl kk
  have loop : ∀ j m (M1 : AM), m + j = B → fs yK eJ M M1 → rS n f T M1 → v_Md_with L xs d Q 62 [(0, .ref 40), (1, .int (nI s0)), (2, .int (nI w)), (3, .int (nI (wst (fit T n f row k0) n m).1)), (4, .int (sI (wst (fit T n f row k0) n m).2)), (5, .int (nI m))] [] M1 := by
    intro j
    induction j with
    | zero =>
      intro m M1 hm F s1
      have : m = B := by omega
      subst this
      have K := kk M1 F
      have hl := wst_le (ok := fit T n f row k0) (n := n) m
      unfold wthV at K
      refine u_Md_with_62 ?_
      rw [s1.1, hshl]
      refine ⟨fun _ => ⟨fun y => ⟨fun z => ?_, fun z => ?_⟩, fun y => ?_⟩, fun y => absurd ((n_leI (by omega) (by omega)).mpr (by omega)) y⟩
      · rw [if_neg (fun q => y (w0.mpr q)), if_neg (fun q => z (by rw [q]; rfl))] at K; exact K
      · rw [if_neg (fun q => y (w0.mpr q)), if_pos ((nI_eq (b := 0) (by omega) (by decide)).mp z)] at K; exact K
      · rw [if_pos (w0.mp y)] at K; exact K
    | succ j ih =>
      intro m M1 hm F s1
      refine u_Md_with_62 ?_
      rw [s1.1, hshl]
      refine ⟨fun y => absurd ((n_leI (by omega) (by omega)).mp y) (by omega), fun _ => ?_⟩
      refine m_bg (by omega) s1 (fun M2 f2 s2 g2 l2 => u_Md_with_77 ?_)
      have fw : fs yK eJ M2 (am_wi M2 40 20 (nI m)) := fs.rf.s (by decide)
      have F2 : fs yK eJ M (am_wi M2 40 20 (nI m)) := (F.tt f2).tt fw
      refine m_unlike (row := row) (m := k0) (by omega) (s2.keep fw) (g2.n20 (by omega)) (by rw [wi_sl (by decide)]; exact l2) h0 hk0 (by rw [F2.i 58]; exact h58) (fun i hi => by rw [F2.2.2 59 (by decide)]; exact hrow i hi) (fun M3 f3 s3 => ?_)
      have R := ih (m + 1) M3 (by omega) (F2.tt f3) s3
      rw [wst] at R
      refine u_Md_with_88 ⟨fun y => ?_, fun y => ?_⟩
      · rw [if_neg (by unfold fit; intro q; exact y ((unl_2 hk0).mpr (Option.isNone_iff_eq_none.mp q)))] at R
        rw [nI_1]
        exact R
      · rw [if_pos (by unfold fit; rw [(unl_2 hk0).mp y]; rfl)] at R
        rw [sI_andN (by omega), nI_1, nI_1]
        exact R
  have W := loop B 0 M (by omega) fs.rf hr
  rw [hr.1, sI_all (by omega)]
  exact W
theorem j_with (hI : Inv M) (hd : 100 ≤ d) : Jn L xs d c_Mo_with c_Md_with [.ref 0, .int x1, .int x2] [.ref 40, .int x1, .int x2] M := by
  have hI0 := hI
  obtain ⟨n, f, T, bn, hP, hL, hT, hC, hD, hA, hS, h23⟩ := hI
  have hx : xS n f T M := ⟨hP.1, hL.1, hP.2.2.2.1, hP.2.2.1⟩
  have hr : rS n f T M := ⟨hP.2.2.2.2.1, hP.2.2.2.2.2, hL.2, h23, hP.2.2.2.1, hP.2.2.1⟩
  have hn := hx.2.2.2
  obtain ⟨d, rfl⟩ : ∃ a, d = a + 9 := ⟨d - 9, by omega⟩
  have hbn := hA.1
  by_cases hv : (0 ≤ x1.toInt ∧ x1.toInt < 6) ∧ 0 ≤ x2.toInt ∧ x2.toInt ≤ 1
  · obtain ⟨⟨v1, v2⟩, v3, v4⟩ := hv
    obtain ⟨s0, rfl, hk, -⟩ := n_ofI v1
    obtain ⟨w, rfl, hw, -⟩ := n_ofI v3
    have hs0 : s0 < 6 := by omega
    have hw2 : w < 2 := by omega
    have ts : (nI s0).toInt = (s0 : Int) := nI_toInt (by omega)
    have tw : (nI w).toInt = (w : Int) := nI_toInt (by omega)
    have hw01 : nI w = 0 ∨ nI w = 1 := by
      have h2 : w = 0 ∨ w = 1 := by omega
      rcases h2 with rfl | rfl
      · exact Or.inl rfl
      · exact Or.inr rfl
    have g5 : ¬ 0 < lg_cmp (Int32.toInt64 (nI s0)) 5 := fun z => by
      ((try simp only [lg_cmp_lt, lg_cmp_gt] at z); simp (disch := omega) only [ts, Int64.lt_iff_toInt_lt, Int32.toInt_toInt64, Int64.reduceToInt, ← Int32.toInt_inj, Int32.lt_iff_toInt_lt, Int32.le_iff_toInt_le, Int32.reduceToInt, nI_toInt, false_implies, true_implies, and_true, true_and, not_true_eq_false, not_false_eq_true, forall_const, implies_true, false_and, and_false, true_or, or_true, eq_self] at z)
      omega
    have w5 : ¬ 0 < lg_cmp (Int32.toInt64 (nI w)) 1 := fun z => by
      ((try simp only [lg_cmp_lt, lg_cmp_gt] at z); simp (disch := omega) only [tw, Int64.lt_iff_toInt_lt, Int32.toInt_toInt64, Int64.reduceToInt, ← Int32.toInt_inj, Int32.lt_iff_toInt_lt, Int32.le_iff_toInt_le, Int32.reduceToInt, nI_toInt, false_implies, true_implies, and_true, true_and, not_true_eq_false, not_false_eq_true, forall_const, implies_true, false_and, and_false, true_or, or_true, eq_self] at z)
      omega
    have cx : ∀ (Q : AQ), ((¬ (M.1 22 s0) = (-1) → (¬ (M.1 23 s0) = (0 : Int32) → Q (some (.int (-12 : Int32))) M) ∧ ((M.1 23 s0) = (0 : Int32) → ((M.1 1 1) ≤ 8 → am_Call (gG L xs) (d + 8) c_Seen_setsThatFit [.ref 26, .int (nI s0), .int (nI w)] M (fun r M' => v_Mo_with L xs (d + 8) Q 45 [] (r.toList ++ []) M')) ∧ (¬ (M.1 1 1) ≤ 8 → Q (some (.int (-5))) M))) ∧ ((M.1 22 s0) = (-1) → (¬ (M.1 23 s0) = (-1) → (¬ (M.1 23 s0) = (0 : Int32) → Q (some (.int (-12 : Int32))) M) ∧ ((M.1 23 s0) = (0 : Int32) → ((M.1 1 1) ≤ 8 → am_Call (gG L xs) (d + 8) c_Seen_setsThatFit [.ref 26, .int (nI s0), .int (nI w)] M (fun r M' => v_Mo_with L xs (d + 8) Q 45 [] (r.toList ++ []) M')) ∧ (¬ (M.1 1 1) ≤ 8 → Q (some (.int (-5))) M))) ∧ ((M.1 23 s0) = (-1) → Q (some (.int (-11 : Int32))) M))) → am_Call (gG L xs) (d + 9) c_Mo_with [.ref 0, .int (nI s0), .int (nI w)] M Q := by
      intro Q W
      refine t_Mo_with ?_
      rw [n_cl (show s0 < 2 ^ 31 by omega)]
      exact ⟨fun _ => ⟨fun z => absurd z (nI_pos (by omega)), fun _ => ⟨fun z => absurd ((n_leI (a := 6) (by decide) (by omega)).mp z) (by omega), fun _ => ⟨(n_vp (by omega)).mpr (by omega), W⟩⟩⟩, fun z0 => ⟨fun z1 => absurd (hw01.resolve_left z0) z1, fun _ => ⟨fun z => absurd z (nI_pos (by omega)), fun _ => ⟨fun z => absurd ((n_leI (a := 6) (by decide) (by omega)).mp z) (by omega), fun _ => ⟨(n_vp (by omega)).mpr (by omega), W⟩⟩⟩⟩⟩
    have cm : ∀ (Q : AQ) (M1 : AM), ((0 ≤ (M1.1 57 s0) → (¬ (M1.1 57 s0) = 50 → Q (some (.int (-12 : Int32))) M1) ∧ ((M1.1 57 s0) = 50 → ((M1.1 40 6) ≤ 8 → v_Md_with L xs (d + 8) Q 62 [(0, .ref 40), (1, .int (nI s0)), (2, .int (nI w)), (3, .int 0), (4, .int (((1 : Int32) <<< ((M1.1 40 6) &&& 31)) - 1)), (5, .int 0)] [] M1) ∧ (¬ (M1.1 40 6) ≤ 8 → Q (some (.int (-5))) M1))) ∧ (¬ 0 ≤ (M1.1 57 s0) → Q (some (.int (-11 : Int32))) M1)) → am_Call (gG L xs) (d + 9) c_Md_with [.ref 40, .int (nI s0), .int (nI w)] M1 Q := by
      intro Q M1 W
      refine t_Md_with ?_
      rw [n_cl (show s0 < 2 ^ 31 by omega)]
      exact ⟨fun z => absurd z (g_nn (by omega)), fun _ => ⟨fun z => absurd z g5, fun _ => ⟨Or.inr rfl, (n_vp (by omega)).mpr (by omega), fun z => ⟨fun y => ⟨fun q => absurd q (g_nn (by omega)), fun _ => ⟨fun q => absurd q w5, fun _ => (W.1 z).1 y⟩⟩, fun y => ⟨fun q => absurd q (g_nn (by omega)), fun _ => ⟨fun q => absurd q w5, fun _ => (W.1 z).2 y⟩⟩⟩, fun z => ⟨fun q => absurd q (g_nn (by omega)), fun _ => ⟨fun q => absurd q w5, fun _ => W.2 z⟩⟩⟩⟩⟩
    rcases hS s0 hs0 with ⟨e57, e22, e23⟩ | ⟨b, hb, e57, e22, e23⟩ | ⟨s, k0, hs, hk0, e57, e22, e23, e24, e58, hrow⟩
    · refine Jn.no (-11) hI0 (fun Q k => cx Q ?_) (fun Q k => cm Q M ?_)
      · rw [e22, e23]
        exact ⟨fun z => absurd rfl z, fun _ => ⟨fun z => absurd rfl z, fun _ => k⟩⟩
      · rw [e57]
        exact ⟨fun z => absurd z (by decide), fun _ => k⟩
    · have n1 : ¬ nI b = -1 := fun z => absurd (show nI b < 0 by rw [z]; decide) (nI_pos (by omega))
      refine Jn.no (-12) hI0 (fun Q k => cx Q ?_) (fun Q k => cm Q M ?_)
      · rw [e22, e23]
        exact ⟨fun _ => ⟨fun _ => k, fun z => absurd z (by decide)⟩, fun z => absurd z n1⟩
      · rw [e57]
        exact ⟨fun _ => ⟨fun _ => k, fun z => absurd ((nI_eq (b := 50) (by omega) (by decide)).mp z) (by omega)⟩, fun z => absurd (nI_pos' (by omega)) z⟩
    · have n1 : ¬ nI s = -1 := fun z => absurd (show nI s < 0 by rw [z]; decide) (nI_pos (by omega))
      by_cases hs1 : s = 0
      · subst hs1
        have e8 : nI n ≤ 8 ↔ n ≤ 8 := n_leI (b := 8) (by omega) (by decide)
        by_cases hn8 : n ≤ 8
        · refine Jn.of2 (v := wthV w (wst (fit T n f (fun i => M.2 59 (60 * s0 + i)) k0) n (2 ^ n))) (P := fr qK M) (fun Q k => cx Q ?_) (fun M1 F Q k => cm Q M1 ?_)
          · have X := x_fits (L := L) (xs := xs) (d := d + 8) (row := fun i => M.2 59 (60 * s0 + i)) (Q := fun r M' => v_Mo_with L xs (d + 8) Q 45 [] (r.toList ++ []) M') (by omega) hx hn8 hs0 hk0 e23 e24 (fun i hi => (hrow i hi).1) hw2 (fun M1 f1 => u_Mo_with_45 (k _ f1))
            rw [e22, e23, hx.1.1, e8]
            exact ⟨fun z => absurd rfl z, fun _ => ⟨fun _ => ⟨fun z => absurd rfl z, fun _ => ⟨fun _ => X, fun z => absurd hn8 z⟩⟩, fun z => absurd z n1⟩⟩
          · have s1 := hr.x F
            have X := m_fits (L := L) (xs := xs) (d := d + 8) (row := fun i => M.2 59 (60 * s0 + i)) (Q := Q) (by omega) s1 hn8 hs0 hk0 (by rw [F.i 58]; exact e58) (fun i hi => by rw [F.l 59]) hw2 (fun M2 f2 => k _ (hI0.q2 F f2))
            rw [F.i 57, e57]
            refine ⟨fun _ => ⟨fun z => absurd rfl z, fun _ => ⟨fun _ => X, fun z => absurd (by rw [s1.1]; exact e8.mpr hn8) z⟩⟩, fun z => absurd (nI_pos' (by omega)) z⟩
        · refine Jn.no (-5) hI0 (fun Q k => cx Q ?_) (fun Q k => cm Q M ?_)
          · rw [e22, e23, hx.1.1, e8]
            exact ⟨fun z => absurd rfl z, fun _ => ⟨fun _ => ⟨fun z => absurd rfl z, fun _ => ⟨fun z => absurd z hn8, fun _ => k⟩⟩, fun z => absurd z n1⟩⟩
          · rw [e57]
            exact ⟨fun _ => ⟨fun z => absurd rfl z, fun _ => ⟨fun z => absurd (e8.mp (by rw [← hr.1]; exact z)) hn8, fun _ => k⟩⟩, fun z => absurd (nI_pos' (by omega)) z⟩
      · have ns : ¬ nI s = 0 := fun z => hs1 ((nI_eq (b := 0) (by omega) (by decide)).mp z)
        refine Jn.no (-12) hI0 (fun Q k => cx Q ?_) (fun Q k => cm Q M ?_)
        · rw [e22, e23]
          exact ⟨fun z => absurd rfl z, fun _ => ⟨fun _ => ⟨fun _ => k, fun z => absurd z ns⟩, fun z => absurd z n1⟩⟩
        · rw [e57]
          exact ⟨fun _ => ⟨fun _ => k, fun z => absurd ((nI_eq (b := 50) (by omega) (by decide)).mp z) (by omega)⟩, fun z => absurd (nI_pos' (by omega)) z⟩
  · refine Jn.no (-1) hI0 (fun Q k => ?_) (fun Q k => ?_)
    · refine t_Mo_with ?_
      ((try simp only [lg_cmp_lt, lg_cmp_gt]); simp (disch := omega) only [Int64.lt_iff_toInt_lt, Int32.toInt_toInt64, Int64.reduceToInt, ← Int32.toInt_inj, Int32.lt_iff_toInt_lt, Int32.le_iff_toInt_le, Int32.reduceToInt, nI_toInt, false_implies, true_implies, and_true, true_and, not_true_eq_false, not_false_eq_true, forall_const, implies_true, false_and, and_false, true_or, or_true, eq_self])
      repeat' (first | (with_reducible refine And.intro ?_ ?_) | (with_reducible intro h; first | (exfalso; omega) | contradiction | skip))
      all_goals first | exact k | (exfalso; omega)
    · refine t_Md_with ?_
      ((try simp only [lg_cmp_lt, lg_cmp_gt]); simp (disch := omega) only [Int64.lt_iff_toInt_lt, Int32.toInt_toInt64, Int64.reduceToInt, ← Int32.toInt_inj, Int32.lt_iff_toInt_lt, Int32.le_iff_toInt_le, Int32.reduceToInt, nI_toInt, false_implies, true_implies, and_true, true_and, not_true_eq_false, not_false_eq_true, forall_const, implies_true, false_and, and_false, true_or, or_true, eq_self])
      repeat' (first | (with_reducible refine And.intro ?_ ?_) | (with_reducible intro h; first | (exfalso; omega) | contradiction | skip))
      all_goals first | exact k | (exfalso; omega) | (rw [vp_in_iff]; omega)
end E34
