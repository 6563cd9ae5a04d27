section E31
variable {L : Nat} {xs : Nat → Int32} {d : Nat} {Q : AQ} {M M0 M1 M2 : AM} {n N k0 p e v w r q : Nat} {f g h : Nat → Nat → Nat} {io : Nat → Option Nat} {C G : Nat → Bool} {T : PV} {x1 x2 x3 : Int32}
theorem rS.of (hr : rS n f T M) (h40 : M1.1 40 = M.1 40) (h41 : M1.1 41 = M.1 41) (h47 : M1.1 47 = M.1 47) : rS n f T M1 :=
  ⟨by rw [h40]; exact hr.1, hr.2.1.keep h41, hr.2.2.1.keep (by rw [h40]) h47, by rw [h40]; exact hr.2.2.2.1, hr.2.2.2.2⟩
theorem rS.congr (hr : rS n g T M) (e : ∀ w p, w < 5 → p < n → g w p = f w p) : rS n f T M :=
  ⟨hr.1, ⟨hr.2.1.1, fun w k hw hk => by rw [← e w k hw hk]; exact hr.2.1.2 w k hw hk⟩, hr.2.2.1, hr.2.2.2.1, fun p hp => by
    have := hr.2.2.2.2.1 p hp
    rw [e 0 p (by decide) hp, e 1 p (by decide) hp, e 2 p (by decide) hp, e 3 p (by decide) hp, e 4 p (by decide) hp] at this
    exact this, hr.2.2.2.2.2⟩
/-- the first q have their own number back -/
def bk (f g : Nat → Nat → Nat) (w q : Nat) : Nat → Nat → Nat := fun a b => if a = w ∧ b < q then f w b else g a b
theorem bk_up : upf (bk f g w q) w q (f w q) = bk f g w (q + 1) := by
  funext a b
  unfold upf bk
  by_cases h1 : a = w
  · by_cases h2 : b = q
    · rw [if_pos ⟨h1, h2⟩, if_pos ⟨h1, by omega⟩, h2]
    · rw [if_neg (fun z => h2 z.2)]
      by_cases h3 : b < q
      · rw [if_pos ⟨h1, h3⟩, if_pos ⟨h1, by omega⟩]
      · rw [if_neg (fun z => h3 z.2), if_neg (fun z => h3 (by omega))]
  · rw [if_neg (fun z => h1 z.1), if_neg (fun z => h1 z.1), if_neg (fun z => h1 z.1)]
theorem bk_0 : bk f g w 0 = g := by
  funext a b
  unfold bk
  rw [if_neg (fun z => by omega)]
theorem bk_n (h3 : ∀ a b, a ≠ w → g a b = f a b) (a b : Nat) (hb : b < q) : bk f g w q a b = f a b := by
  unfold bk
  by_cases h1 : a = w
  · rw [if_pos ⟨h1, hb⟩, h1]
  · rw [if_neg (fun z => h1 z.1)]; exact h3 a b h1
theorem b2i_or0 {b : Bool} : b2i b ||| 0 = b2i b := by cases b <;> decide
theorem b2i_or1 {b : Bool} : b2i b ||| 1 = 1 := by cases b <;> decide
theorem m_round (hd : 77 ≤ d) (hr : rS n g T M) (kk : ∀ M', fs rK rJ M M' → rS n (rnd T n g n).1 T M' → M'.1 52 = M.1 52 → v_Md_allWear L xs d Q 52 [(0, .ref 40), (1, .int x1), (2, .int x2), (3, .int (b2i (rnd T n g n).2))] [] M') : v_Md_allWear L xs d Q 70 [(0, .ref 40), (1, .int x1), (2, .int x2), (3, .int 0), (4, .int 0)] [] M := by
  have hn := hr.2.2.2.2.2
  have loop : ∀ j q (M1 : AM), q + j = n → fs rK rJ M M1 → rS n (rnd T n g q).1 T M1 → M1.1 52 = M.1 52 → v_Md_allWear L xs d Q 70 [(0, .ref 40), (1, .int x1), (2, .int x2), (3, .int (b2i (rnd T n g q).2)), (4, .int (nI q))] [] M1 := by
    intro j
    induction j with
    | zero =>
      intro q M1 hq F s1 k52
      have : q = n := by omega
      subst this
      exact u_Md_allWear_70 ⟨fun _ => kk M1 F s1 k52, fun z => absurd (by rw [s1.1]; exact nI_le (Nat.le_refl _) (by omega)) z⟩
    | succ j ih =>
      intro q M1 hq F s1 k52
      have hqn : q < n := by omega
      have hb3 := (s1.2.2.2.2.1 q hqn).2.2.2.2.2.1
      refine u_Md_allWear_70 ⟨fun z => absurd z (by rw [s1.1]; exact nI_ge hqn (by omega)), fun _ => m_chooses (by omega) s1 hqn (fun M2 f2 s2 k2 => ?_)⟩
      have hch := chs_le (T := T) (n := n) (g := (rnd T n g q).1) (p := q)
      have q3 : vp_in ((5 : Int32) * nI q + 3) 75 ∧ M2.1 41 (((5 : Int32) * nI q + 3).toNatClampNeg) = nI ((rnd T n g q).1 3 q) := s2.2.1.at 3 (by decide) hqn
      have s3 := s2.up (w := 3) (p := q) (v := chs T n (rnd T n g q).1 q) (by decide) hqn (okV3 hch)
      have R := ih (q + 1) (am_wi M2 41 (5 * q + 3) (nI (chs T n (rnd T n g q).1 q))) (by omega) ((F.tt f2).c (by decide) (by decide)) s3 (by rw [wi_ne (by decide), k2]; exact k52)
      rw [← nI_1] at R
      have ei : nI (chs T n (rnd T n g q).1 q) = nI ((rnd T n g q).1 3 q) ↔ chs T n (rnd T n g q).1 q = (rnd T n g q).1 3 q := nI_eq (by omega) (by omega)
      refine u_Md_allWear_85 ⟨q3.1, ?_⟩
      rw [q3.2, show (5 : Int32) * nI q + 3 = nI (5 * q + 3) from (q5 q).2.2.2.1, n_cl (show 5 * q + 3 < 2 ^ 31 by omega)]
      refine ⟨fun z => ?_, fun z => ?_⟩
      · have e2 : (rnd T n g (q + 1)).2 = (rnd T n g q).2 := by
          show ((rnd T n g q).2 || !decide (chs T n (rnd T n g q).1 q = (rnd T n g q).1 3 q)) = _
          rw [decide_eq_true (ei.mp z)]; simp
        rw [e2] at R
        rw [b2i_or0]
        exact R
      · have e2 : (rnd T n g (q + 1)).2 = true := by
          show ((rnd T n g q).2 || !decide (chs T n (rnd T n g q).1 q = (rnd T n g q).1 3 q)) = _
          rw [decide_eq_false (fun y => z (ei.mpr y))]; simp
        rw [e2] at R
        rw [b2i_or1]
        exact R
  exact loop n 0 M (by omega) fs.rf hr rfl
theorem m_wornBack {v : Int32} (hr : rS n g T M) (h3 : not3 f g) (hf : okP n f) (h52 : ∀ q, q < n → M.1 52 q = nI (f 3 q)) (kk : ∀ M', fs rK rJ M M' → rS n f T M' → Q (some (.int v)) M') : v_Md_allWear L xs d Q 165 [(0, .ref 40), (4, .int v), (5, .int 0)] [] M := by
  have hn := hr.2.2.2.2.2
  have loop : ∀ j q (M1 : AM), q + j = n → fs rK rJ M M1 → M1.1 52 = M.1 52 → rS n (bk f g 3 q) T M1 → v_Md_allWear L xs d Q 165 [(0, .ref 40), (4, .int v), (5, .int (nI q))] [] M1 := by
    intro j
    induction j with
    | zero =>
      intro q M1 hq F k52 s1
      have : q = n := by omega
      subst this
      exact u_Md_allWear_165 ⟨fun _ => kk M1 F (s1.congr (fun a b ha hb => bk_n h3 a b hb)), fun z => absurd (by rw [s1.1]; exact nI_le (Nat.le_refl _) (by omega)) z⟩
    | succ j ih =>
      intro q M1 hq F k52 s1
      have hqn : q < n := by omega
      have hb3 := (hf q hqn).2.2.2.2.2.1
      refine u_Md_allWear_165 ⟨fun z => absurd z (by rw [s1.1]; exact nI_ge hqn (by omega)), fun _ => ⟨(n_vp (by omega)).mpr (by omega), ?_⟩⟩
      rw [show (5 : Int32) * nI q + 3 = nI (5 * q + 3) from (q5 q).2.2.2.1, n_cl (show 5 * q + 3 < 2 ^ 31 by omega), n_cl (show q < 2 ^ 31 by omega), k52, h52 q hqn, nI_1]
      refine ⟨(n_vp (by omega)).mpr (by omega), ?_⟩
      have s2 := s1.up (w := 3) (p := q) (v := f 3 q) (by decide) hqn (okV3 hb3)
      rw [bk_up] at s2
      exact ih (q + 1) _ (by omega) (F.c (by decide) (by decide)) (by rw [wi_ne (by decide)]; exact k52) s2
  exact loop n 0 M (by omega) fs.rf rfl (by rw [bk_0]; exact hr)
theorem m_allWear (hd : 78 ≤ d) (hr : rS n f T M) (h1 : oneOr n x1) (kk : ∀ M', fs rK rJ M M' → rS n f T M' → Q (some (.int (awV x1 (aww T n 20 0 f)))) M') : v_Md_allWear L xs d Q 18 [(0, .ref 40), (1, .int x1), (2, .int 0)] [] M := by
  have hn := hr.2.2.2.2.2
  have hf := hr.2.2.2.2.1
  have main : ∀ j r g (M1 : AM), r + j = 20 → fs rK rJ M M1 → rS n g T M1 → not3 f g → (∀ q, q < n → M1.1 52 q = nI (f 3 q)) → aww T n j r g = aww T n 20 0 f → v_Md_allWear L xs d Q 52 [(0, .ref 40), (1, .int x1), (2, .int (nI r)), (3, .int 1)] [] M1 := by
    intro j
    induction j with
    | zero =>
      intro r g M1 hr F s1 h3 h52 ha
      refine u_Md_allWear_52 ⟨fun z => absurd z (by decide), fun _ => ⟨fun _ => ?_, fun z => absurd ((n_leI (a := 20) (by decide) (by omega)).mpr (by omega)) z⟩⟩
      refine m_wornBack s1 h3 hf h52 (fun M2 f2 s2 => ?_)
      have K := kk M2 (F.tt f2) s2
      rw [← ha] at K
      exact K
    | succ j ih =>
      intro r g M1 hr F s1 h3 h52 ha
      refine u_Md_allWear_52 ⟨fun z => absurd z (by decide), fun _ => ⟨fun z => absurd ((n_leI (a := 20) (by decide) (by omega)).mp z) (by omega), fun _ => ?_⟩⟩
      rw [nI_1]
      refine m_round (by omega) s1 (fun M2 f2 s2 k2 => ?_)
      have hk := (rnd_ok (T := T) s1.2.2.2.2.1 h3 n).2
      have h52' : ∀ q, q < n → M2.1 52 q = nI (f 3 q) := fun q hq => by rw [k2]; exact h52 q hq
      have R := ih (r + 1) (rnd T n g n).1 M2 (by omega) (F.tt f2) s2 hk h52'
      cases z : (rnd T n g n).2 with
      | true =>
        refine R ?_
        rw [← ha, aww, if_pos z]
      | false =>
        have ha2 : aww T n 20 0 f = some (r + 1, (rnd T n g n).1) := by
          rw [← ha, aww, if_neg (fun y => by rw [z] at y; cases y)]
        have K := fun M3 f3 s3 => kk M3 ((F.tt f2).tt f3) s3
        rw [ha2] at K
        refine u_Md_allWear_52 ⟨fun _ => ?_, fun y => absurd rfl y⟩
        rcases h1 with h1 | ⟨p, hp, h1⟩
        · subst h1
          rw [awV_1] at K
          exact ⟨fun y => absurd y (by decide), fun _ => m_wornBack s2 hk hf h52' (fun M3 f3 s3 => K M3 f3 s3)⟩
        · subst h1
          have q3 : vp_in ((5 : Int32) * nI p + 3) 75 ∧ M2.1 41 (((5 : Int32) * nI p + 3).toNatClampNeg) = nI ((rnd T n g n).1 3 p) := s2.2.1.at 3 (by decide) hp
          rw [awV_p (by omega)] at K
          refine ⟨fun _ => ⟨q3.1, ?_⟩, fun y => absurd (nI_pos' (by omega)) y⟩
          rw [q3.2]
          exact m_wornBack s2 hk hf h52' (fun M3 f3 s3 => K M3 f3 s3)
  have loop : ∀ j q (M1 : AM), q + j = n → fs rK rJ M M1 → rS n f T M1 → (∀ i, i < q → M1.1 52 i = nI (f 3 i)) → v_Md_allWear L xs d Q 18 [(0, .ref 40), (1, .int x1), (2, .int (nI q))] [] M1 := by
    intro j
    induction j with
    | zero =>
      intro q M1 hq F s1 h52
      have : q = n := by omega
      subst this
      exact u_Md_allWear_18 ⟨fun _ => main 20 0 f M1 (by omega) F s1 (fun _ _ _ => rfl) h52 rfl, fun z => absurd (by rw [s1.1]; exact nI_le (Nat.le_refl _) (by omega)) z⟩
    | succ j ih =>
      intro q M1 hq F s1 h52
      have hqn : q < n := by omega
      have q3 : vp_in ((5 : Int32) * nI q + 3) 75 ∧ M1.1 41 (((5 : Int32) * nI q + 3).toNatClampNeg) = nI (f 3 q) := s1.2.1.at 3 (by decide) hqn
      refine u_Md_allWear_18 ⟨fun z => absurd z (by rw [s1.1]; exact nI_ge hqn (by omega)), fun _ => ⟨q3.1, (n_vp (by omega)).mpr (by omega), ?_⟩⟩
      rw [q3.2, n_cl (show q < 2 ^ 31 by omega), nI_1]
      refine ih (q + 1) _ (by omega) (F.c (by decide) (by decide)) (s1.of (wi_ne (by decide)) (wi_ne (by decide)) (wi_ne (by decide))) (fun i hi => ?_)
      rw [wi_rd, if_pos rfl]
      by_cases z : i = q
      · rw [if_pos z, z]
      · rw [if_neg z]; exact h52 i (by omega)
  exact loop n 0 M (by omega) fs.rf hr (fun i hi => by omega)
theorem j_allWear (hI : Inv M) (hd : 100 ≤ d) : Jn L xs d c_Mo_allWear c_Md_allWear [.ref 0, .int x1] [.ref 40, .int x1] M := by
  obtain ⟨n, f, T, hx, hr⟩ := hI.s
  obtain ⟨d, rfl⟩ : ∃ a, d = a + 6 := ⟨d - 6, by omega⟩
  have hn := hx.2.2.2
  have e1 := hx.1.1
  have e6 := hr.1
  have ept : (nI n - 1).toInt = (n : Int) - 1 := n_pt (by omega)
  by_cases hv : x1.toInt = -1 ∨ (0 ≤ x1.toInt ∧ x1.toInt < n)
  · have h1 : oneOr n x1 := by
      rcases hv with hv | ⟨v1, v2⟩
      · exact Or.inl (Int32.toInt_inj.mp (by rw [hv]; decide))
      · obtain ⟨p, e, hp, -⟩ := n_ofI v1
        exact Or.inr ⟨p, by omega, e⟩
    refine Jn.of2 (v := awV x1 (aww T n 20 0 f)) (P := fr qK M) (fun Q kk => ?_) (fun M1 F Q kk => ?_)
    · have X := x_allChoose (L := L) (xs := xs) (d := d + 5) (Q := fun r M' => v_Mo_allWear L xs (d + 5) Q 18 [] (r.toList ++ []) M') (by omega) hx h1 (fun M1 f1 => u_Mo_allWear_18 (kk _ f1))
      refine t_Mo_allWear ?_
      ((try simp only [lg_cmp_lt, lg_cmp_gt]); simp (disch := omega) only [e1, t_1, Int64.lt_iff_toInt_lt, Int32.toInt_toInt64, Int64.reduceToInt, ← Int32.toInt_inj, Int32.lt_iff_toInt_lt, Int32.le_iff_toInt_le, Int32.reduceToInt, nI_toInt, false_implies, true_implies, and_true, true_and, not_true_eq_false, not_false_eq_true, forall_const, implies_true, false_and, and_false, true_or, or_true, eq_self])
      repeat' (first | (with_reducible refine And.intro ?_ ?_) | (with_reducible intro h; first | (exfalso; omega) | contradiction | skip))
      all_goals first | exact X | (exfalso; omega)
    · have s1 := hr.x F
      have e6' := s1.1
      have X := m_allWear (L := L) (xs := xs) (d := d + 5) (Q := Q) (by omega) s1 h1 (fun M2 f2 s2 => kk _ (hI.q3 hr F f2 s2))
      refine t_Md_allWear ?_
      ((try simp only [lg_cmp_lt, lg_cmp_gt]); simp (disch := omega) only [e6', ept, t_1, Int64.lt_iff_toInt_lt, Int32.toInt_toInt64, Int64.reduceToInt, ← Int32.toInt_inj, Int32.lt_iff_toInt_lt, Int32.le_iff_toInt_le, Int32.reduceToInt, nI_toInt, false_implies, true_implies, and_true, true_and, not_true_eq_false, not_false_eq_true, forall_const, implies_true, false_and, and_false, true_or, or_true, eq_self])
      repeat' (first | (with_reducible refine And.intro ?_ ?_) | (with_reducible intro h; first | (exfalso; omega) | contradiction | skip))
      all_goals first | exact X | (exfalso; omega)
  · refine Jn.no (-1) hI (fun Q k => ?_) (fun Q k => ?_)
    · refine t_Mo_allWear ?_
      ((try simp only [lg_cmp_lt, lg_cmp_gt]); simp (disch := omega) only [e1, t_1, Int64.lt_iff_toInt_lt, Int32.toInt_toInt64, Int64.reduceToInt, ← Int32.toInt_inj, Int32.lt_iff_toInt_lt, Int32.le_iff_toInt_le, Int32.reduceToInt, nI_toInt, false_implies, true_implies, and_true, true_and, not_true_eq_false, not_false_eq_true, forall_const, implies_true, false_and, and_false, true_or, or_true, eq_self])
      repeat' (first | (with_reducible refine And.intro ?_ ?_) | (with_reducible intro h; first | (exfalso; omega) | contradiction | skip))
      all_goals first | exact k | (exfalso; omega)
    · refine t_Md_allWear ?_
      ((try simp only [lg_cmp_lt, lg_cmp_gt]); simp (disch := omega) only [e6, ept, t_1, Int64.lt_iff_toInt_lt, Int32.toInt_toInt64, Int64.reduceToInt, ← Int32.toInt_inj, Int32.lt_iff_toInt_lt, Int32.le_iff_toInt_le, Int32.reduceToInt, nI_toInt, false_implies, true_implies, and_true, true_and, not_true_eq_false, not_false_eq_true, forall_const, implies_true, false_and, and_false, true_or, or_true, eq_self])
      repeat' (first | (with_reducible refine And.intro ?_ ?_) | (with_reducible intro h; first | (exfalso; omega) | contradiction | skip))
      all_goals first | exact k | (exfalso; omega)
end E31
