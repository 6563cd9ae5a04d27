section D4
variable {L : Nat} {xs : Nat → Int32} {d : Nat} {Q : AQ} {M M1 M2 : AM} {T : PV} {f : Nat → Nat → Nat} {n k0 : Nat} {C G : Nat → Bool} {io : Nat → Option Nat} {x1 x2 x3 : Int32}
def whr (a b : Option Nat) : Int32 := match b with
  | none => if a = none then -2 else 0
  | some b => match a with
    | none => 1
    | some a => if b < a then 1 else 0
theorem j_where (hI : Inv M) (hd : 100 ≤ d) : Jn L xs d c_Mo_where c_Md_where [.ref 0, .int x1] [.ref 40, .int x1] M := by
  obtain ⟨n, f, T, hx, hr⟩ := hI.s
  obtain ⟨d, rfl⟩ : ∃ a, d = a + 9 := ⟨d - 9, by omega⟩
  have hn := hx.2.2.2
  have e1 := hx.1.1
  have e6 := hr.1
  have ept : (nI n - 1).toInt = (n : Int) - 1 := n_pt (by omega)
  by_cases hv : 0 ≤ x1.toInt ∧ x1.toInt < n
  · obtain ⟨v1, v2⟩ := hv
    obtain ⟨p, rfl, hp, -⟩ := n_ofI v1
    have hpn : p < n := by omega
    have hset : (1 : Int32) <<< (nI p &&& 31) = sI (fun q => q == p) := sI_one (by omega)
    refine Jn.of2 (v := whr (dgo T n f (ein n) noG 5 100 p) (dgo T n f (ein n) (fun q => q == p) 5 100 p)) (P := fr qK M) (fun Q k => ?_) (fun M1 F Q k => ?_)
    · refine t_Mo_where ?_
      ((try simp only [lg_cmp_lt, lg_cmp_gt]); simp (disch := omega) only [e1, Int64.lt_iff_toInt_lt, Int32.toInt_toInt64, Int64.reduceToInt, ← Int32.toInt_inj, Int32.lt_iff_toInt_lt, Int32.le_iff_toInt_le, Int32.reduceToInt, nI_toInt, false_implies, true_implies, and_true, true_and, not_true_eq_false, not_false_eq_true, forall_const, implies_true, false_and, and_false, true_or, or_true, eq_self])
      repeat' (first | (with_reducible refine And.intro ?_ ?_) | (with_reducible intro h; first | (exfalso; omega) | contradiction | skip))
      refine t_Wishes_betterGate (x_bg (by omega) hx (fun M1 f1 s1 g1 l1 => u_Wishes_betterGate_11 (x_till (k0 := 100) (by omega) s1 g1 (by omega) hpn l1 (fun M2 f2 s2 g2 c2 => u_Wishes_betterGate_21 ?_))))
      rw [s2.1.1, sI_all (by omega)]
      refine x_again (C := ein n) (by omega) s2 g2 c2 (fun M3 f3 s3 g3 l3 => u_Wishes_betterGate_36 ?_)
      rw [hset]
      refine x_two (k0 := 100) (by omega) s3 g3 (by omega) l3 (fun M4 f4 s4 g4 => u_Wishes_betterGate_48 ?_)
      have K := k M4 (((f1.q f2).q f3).q f4)
      have gi := g4.2.2.2.2 p (by omega)
      refine ⟨fun z => absurd z (nI_pos (by omega)), fun _ => ⟨fun z => absurd z (by rw [g4.1.1]; exact nI_ge hpn (by omega)), fun _ => ⟨(n_vp (by omega)).mpr (by omega), ?_⟩⟩⟩
      rw [n_cl (by omega), gi]
      rcases dgo_v (T := T) (n := n) (f := f) (C := ein n) (G := noG) (k0 := 100) (p := p) (by omega) with ⟨a1, a2⟩ | ⟨a, a1, a2, a3, -⟩ <;> rcases dgo_v (T := T) (n := n) (f := f) (C := ein n) (G := fun q => q == p) (k0 := 100) (p := p) (by omega) with ⟨b1, b2⟩ | ⟨b, b1, b2, b3, -⟩
      · rw [a1, b1] at K ⊢
        exact ⟨fun z => absurd rfl z, fun _ => ⟨fun z => absurd rfl z, fun _ => u_Mo_where_21 K⟩⟩
      · rw [b3, a2]
        rw [a1, b2] at K
        exact ⟨fun _ => ⟨fun _ => u_Mo_where_21 K, fun z => absurd rfl z⟩, fun z => absurd z (by rw [nl_m2e (by omega)]; exact id)⟩
      · rw [a3, b2]
        rw [a2, b1] at K
        exact ⟨fun z => absurd rfl z, fun _ => ⟨fun _ => u_Mo_where_21 K, fun z => absurd z (by rw [nl_m2e (by omega)]; exact id)⟩⟩
      · rw [a3, b3]
        rw [a2, b2] at K
        have m2 : ¬ nI a = -2 := by rw [nl_m2e (by omega)]; exact id
        have m3 : ¬ nI b = -2 := by rw [nl_m2e (by omega)]; exact id
        refine ⟨fun _ => ⟨fun z => absurd z m2, fun _ => ⟨fun z => ?_, fun z => ?_⟩⟩, fun z => absurd z m3⟩
        · rw [n_leI (by omega) (by omega)] at z
          have K2 : Q (some (.int 0)) M4 := by have := K; simp only [whr] at this; rw [if_neg (by omega)] at this; exact this
          exact u_Mo_where_21 K2
        · rw [n_leI (by omega) (by omega)] at z
          have K2 : Q (some (.int 1)) M4 := by have := K; simp only [whr] at this; rw [if_pos (by omega)] at this; exact this
          exact u_Mo_where_21 K2
    · have e6' := (hr.x F).1
      refine t_Md_where ?_
      ((try simp only [lg_cmp_lt, lg_cmp_gt]); simp (disch := omega) only [e6', ept, Int64.lt_iff_toInt_lt, Int32.toInt_toInt64, Int64.reduceToInt, ← Int32.toInt_inj, Int32.lt_iff_toInt_lt, Int32.le_iff_toInt_le, Int32.reduceToInt, nI_toInt, false_implies, true_implies, and_true, true_and, not_true_eq_false, not_false_eq_true, forall_const, implies_true, false_and, and_false, true_or, or_true, eq_self])
      repeat' (first | (with_reducible refine And.intro ?_ ?_) | (with_reducible intro h; first | (exfalso; omega) | contradiction | skip))
      refine m_bg (by omega) (hr.x F) (fun M4 f4 s4 g4 l4 => u_Md_where_15 (m_go (k0 := 100) (by omega) s4 g4 (by omega) l4 (fun M5 f5 s5 g5 l5 => u_Md_where_21 ⟨(n_vp (by omega)).mpr (by omega), ?_⟩)))
      rw [n_cl (by omega), g5.at (by omega)]
      have rest : ∀ x : Int32, x = (match dgo T n f (ein n) noG 5 100 p with
          | none => 1000
          | some a => nI a) → am_Call (gG L xs) (d + 8) c_Md_begins1 [.ref 40] M5 (fun r M' => v_Md_where L xs (d + 8) Q 47 [(0, .ref 40), (1, .int (nI p)), (2, .int x)] (r.toList ++ []) M') := by
        intro x hx'
        refine m_bg (by omega) s5 (fun M6 f6 s6 g6 l6 => u_Md_where_47 ?_)
        rw [hset]
        have fw : fs yK eJ M6 (am_wi M6 40 21 (sI (fun q => q == p))) := fs.rf.s (by decide)
        refine m_go (k0 := 100) (by omega) (s6.keep fw) g6.w21 (by omega) (by rw [wi_sl (by decide)]; exact l6) (fun M7 f7 s7 g7 l7 => u_Md_where_60 ⟨(n_vp (by omega)).mpr (by omega), ?_⟩)
        rw [n_cl (by omega), g7.at (by omega)]
        have K := k M7 (hI.q2 F ((((f4.tt f5).tt f6).tt fw).tt f7))
        rw [hx']
        rcases dgo_v (T := T) (n := n) (f := f) (C := ein n) (G := noG) (k0 := 100) (p := p) (by omega) with ⟨a1, a2⟩ | ⟨a, a1, a2, a3, -⟩ <;> rcases dgo_v (T := T) (n := n) (f := f) (C := ein n) (G := fun q => q == p) (k0 := 100) (p := p) (by omega) with ⟨b1, b2⟩ | ⟨b, b1, b2, b3, -⟩
        · rw [a1, b1] at K ⊢
          exact ⟨fun z => absurd z (by decide), fun _ => ⟨fun z => absurd rfl z, fun _ => K⟩⟩
        · rw [b3, a1]
          rw [a1, b2] at K
          have m3 : ¬ nI b = 1000 := fun z => by have := (nI_eq (b := 1000) (by omega) (by decide)).mp z; omega
          exact ⟨fun _ => ⟨fun z => absurd rfl z, fun _ => ⟨fun _ => ⟨fun z => absurd ((n_leI (a := 1000) (by decide) (by omega)).mp z) (by omega), fun _ => K⟩, fun z => absurd z m3⟩⟩, fun z => absurd (nI_pos' (by omega)) z⟩
        · rw [a2, b2]
          rw [a2, b1] at K
          have m3 : ¬ nI a = 1000 := fun z => by have := (nI_eq (b := 1000) (by omega) (by decide)).mp z; omega
          exact ⟨fun z => absurd z (by decide), fun _ => ⟨fun _ => ⟨fun _ => K, fun z => absurd ((n_leI (b := 1000) (by omega) (by decide)).mpr (by omega)) z⟩, fun z => absurd z m3⟩⟩
        · rw [b3, a2]
          rw [a2, b2] at K
          simp only [whr] at K
          have m3 : ¬ nI a = 1000 := fun z => by have := (nI_eq (b := 1000) (by omega) (by decide)).mp z; omega
          refine ⟨fun _ => ⟨fun _ => ⟨fun z => ?_, fun z => ?_⟩, fun z => absurd z m3⟩, fun z => absurd (nI_pos' (by omega)) z⟩
          · rw [n_leI (by omega) (by omega)] at z
            rw [if_neg (by omega)] at K; exact K
          · rw [n_leI (by omega) (by omega)] at z
            rw [if_pos (by omega)] at K; exact K
      rcases dgo_v (T := T) (n := n) (f := f) (C := ein n) (G := noG) (k0 := 100) (p := p) (by omega) with ⟨a1, a2⟩ | ⟨a, a1, a2, a3, -⟩
      · rw [a2]
        exact ⟨fun z => absurd z (by decide), fun _ => rest _ (by rw [a1])⟩
      · rw [a3]
        exact ⟨fun _ => rest _ (by rw [a2]), fun z => absurd (nI_pos' (by omega)) z⟩
  · refine Jn.no (-1) hI (fun Q k => ?_) (fun Q k => ?_)
    · refine t_Mo_where ?_
      ((try simp only [lg_cmp_lt, lg_cmp_gt]); simp (disch := omega) only [e1, Int64.lt_iff_toInt_lt, Int32.toInt_toInt64, Int64.reduceToInt, ← Int32.toInt_inj, Int32.lt_iff_toInt_lt, Int32.le_iff_toInt_le, Int32.reduceToInt, nI_toInt, false_implies, true_implies, and_true, true_and, not_true_eq_false, not_false_eq_true, forall_const, implies_true, false_and, and_false, true_or, or_true, eq_self])
      repeat' (first | (with_reducible refine And.intro ?_ ?_) | (with_reducible intro h; first | (exfalso; omega) | contradiction | skip))
      all_goals first | exact k | (exfalso; omega)
    · refine t_Md_where ?_
      ((try simp only [lg_cmp_lt, lg_cmp_gt]); simp (disch := omega) only [e6, ept, Int64.lt_iff_toInt_lt, Int32.toInt_toInt64, Int64.reduceToInt, ← Int32.toInt_inj, Int32.lt_iff_toInt_lt, Int32.le_iff_toInt_le, Int32.reduceToInt, nI_toInt, false_implies, true_implies, and_true, true_and, not_true_eq_false, not_false_eq_true, forall_const, implies_true, false_and, and_false, true_or, or_true, eq_self])
      repeat' (first | (with_reducible refine And.intro ?_ ?_) | (with_reducible intro h; first | (exfalso; omega) | contradiction | skip))
      all_goals first | exact k | (exfalso; omega)
def ato (io : Nat → Option Nat) (n : Nat) : Int32 := if (∃ p, p < n ∧ io p = none) then -2 else nI (mx (fun p => (io p).getD 0) n)
theorem j_atLast (hI : Inv M) (hd : 100 ≤ d) : Jn L xs d c_Mo_atLast c_Md_atLast [.ref 0] [.ref 40] M := by
  obtain ⟨n, f, T, hx, hr⟩ := hI.s
  obtain ⟨d, rfl⟩ : ∃ a, d = a + 9 := ⟨d - 9, by omega⟩
  have hn := hx.2.2.2
  generalize hio : dgo T n f (ein n) noG 5 100 = io
  have hb : ∀ p a, io p = some a → a < 100 := fun p a h => by rw [← hio] at h; exact (dgo_lt h).1
  have hmx : ∀ p, mx (fun p => (io p).getD 0) p ≤ 100 := fun p => mx_le (fun q _ => by
    cases z : io q with
    | none => simp
    | some a => have := hb q a z; simp; omega)
  refine Jn.of2 (v := ato io n) (P := fr qK M) (fun Q k => ?_) (fun M1 F Q k => ?_)
  · refine t_Mo_atLast (x_bg (by omega) hx (fun M1 f1 s1 g1 l1 => u_Mo_atLast_11 (x_runs (k0 := 100) (pl := 5) (by omega) s1 g1 (by omega) (by decide) l1 (fun M2 f2 s2 g2 l2 => u_Mo_atLast_21 (t_Day_lastIn ?_)))))
    rw [hio] at g2
    have F : fr qK M M2 := f1.q f2
    have K := k M2 F
    rw [g2.2.2.1]
    refine ⟨fun z => ?_, fun z => u_Mo_atLast_29 ?_⟩
    · have hall : ∀ p, p < n → io p ≠ none := fun p hp => sI_left (N := n) (by omega) z p hp (by simp [ein, hp])
      have e : ato io n = nI (mx (fun p => (io p).getD 0) n) := by
        unfold ato
        rw [if_neg (fun ⟨p, h1, h2⟩ => hall p h1 h2)]
      rw [e] at K
      have loop : ∀ j p, p + j = n → v_Day_lastIn L xs (d + 7) (fun r M' => v_Mo_atLast L xs (d + 8) Q 29 [] (r.toList ++ []) M') 14 [(0, .ref 15), (1, .int (nI (mx (fun p => (io p).getD 0) p))), (2, .int (nI p))] [] M2 := by
        intro j
        induction j with
        | zero =>
          intro p hp
          have : p = n := by omega
          subst this
          exact u_Day_lastIn_14 ⟨fun _ => u_Mo_atLast_29 K, fun z => absurd (by rw [g2.1.1]; exact nI_le (Nat.le_refl _) (by omega)) z⟩
        | succ j ih =>
          intro p hp
          have nx := ih (p + 1) (by omega)
          refine u_Day_lastIn_14 ⟨fun z => absurd z (by rw [g2.1.1]; exact nI_ge (by omega) (by omega)), fun _ => ⟨(n_vp (by omega)).mpr (by omega), ?_⟩⟩
          rw [n_cl (by omega), g2.2.2.2.2 p (by omega), nI_1]
          cases z : io p with
          | none => exact absurd z (hall p (by omega))
          | some a =>
            have := hb p a z
            have := hmx p
            rw [show oI (some a) = nI a from rfl, n_imax (by omega) (by omega)]
            rw [mx, z] at nx
            exact nx
      exact loop n 0 (by omega)
    · have e : ato io n = -2 := by
        unfold ato
        refine if_pos ?_
        by_cases h : ∃ p, p < n ∧ io p = none
        · exact h
        · refine absurd (sI_0.mpr (fun p hp => ?_)) z
          by_cases hpn : p < n
          · cases y : io p with
            | none => exact absurd ⟨p, hpn, y⟩ h
            | some a => simp
          · simp [ein, hpn]
      rw [e] at K
      exact K
  · refine t_Md_atLast (m_bg (by omega) (hr.x F) (fun M4 f4 s4 g4 l4 => u_Md_atLast_4 (m_go (k0 := 100) (by omega) s4 g4 (by omega) l4 (fun M5 f5 s5 g5 l5 => u_Md_atLast_10 ?_))))
    rw [hio] at g5
    have K := k M5 (hI.q2 F (f4.tt f5))
    have loop : ∀ j p, p + j = n → (∀ q, q < p → io q ≠ none) → v_Md_atLast L xs (d + 8) Q 14 [(0, .ref 40), (1, .int (nI (mx (fun p => (io p).getD 0) p))), (2, .int (nI p))] [] M5 := by
      intro j
      induction j with
      | zero =>
        intro p hp hq
        have : p = n := by omega
        subst this
        unfold ato at K
        rw [if_neg (fun ⟨q, h1, h2⟩ => hq q h1 h2)] at K
        exact u_Md_atLast_14 ⟨fun _ => K, fun z => absurd (by rw [s5.1]; exact nI_le (Nat.le_refl _) (by omega)) z⟩
      | succ j ih =>
        intro p hp hq
        refine u_Md_atLast_14 ⟨fun z => absurd z (by rw [s5.1]; exact nI_ge (by omega) (by omega)), fun _ => ⟨(n_vp (by omega)).mpr (by omega), ?_⟩⟩
        rw [n_cl (by omega), g5.at (by omega), nI_1]
        cases z : io p with
        | none =>
          unfold ato at K
          rw [if_pos ⟨p, by omega, z⟩] at K
          exact ⟨fun h => absurd h (by decide), fun _ => K⟩
        | some a =>
          have hba := hb p a z
          have hm := hmx p
          have nx := ih (p + 1) (by omega) (fun q h => by
            by_cases e : q = p
            · subst e; rw [z]; simp
            · exact hq q (by omega))
          rw [mx, z] at nx
          rw [show oI (some a) = nI a from rfl, n_leI (by omega) (by omega)]
          refine ⟨fun _ => ⟨fun h => ?_, fun h => ?_⟩, fun h => absurd (nI_pos' (by omega)) h⟩
          · rw [show max (mx (fun p => (io p).getD 0) p) ((some a).getD 0) = mx (fun p => (io p).getD 0) p from Nat.max_eq_left h] at nx; exact nx
          · rw [show max (mx (fun p => (io p).getD 0) p) ((some a).getD 0) = a from Nat.max_eq_right (by show mx (fun p => (io p).getD 0) p ≤ a; omega)] at nx; exact nx
    exact loop n 0 (by omega) (fun q h => by omega)
end D4
