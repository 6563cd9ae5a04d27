section E26
variable {L : Nat} {xs : Nat → Int32} {d : Nat} {Q : AQ} {M M0 M1 M2 : AM} {n N k0 p e v w : Nat} {f : Nat → Nat → Nat} {io : Nat → Option Nat} {C G : Nat → Bool} {T : PV} {x1 x2 x3 : Int32}
theorem rS.up (h : rS n f T M) (hw : w < 5) (hp : p < n) (hv : okV w v) : rS n (upf f w p v) T (am_wi M 41 (5 * p + w) (nI v)) :=
  ⟨by rw [wi_ne (by decide)]; exact h.1, h.2.1.up hw hp, h.2.2.1.keep (by rw [wi_ne (by decide)]) (wi_ne (by decide)), by rw [wi_ne (by decide)]; exact h.2.2.2.1, h.2.2.2.2.1.up hv, h.2.2.2.2.2⟩
/-- Inv again where the reference laid its numbers back -/
theorem Inv.q3 (h : Inv M) (hr : rS n f T M) (f1 : fr qK M M1) (f2 : fs rK rJ M1 M2) (h2 : rS n f T M2) : Inv M2 := by
  refine h.q f1 f2 (fun n' hn' hn12 k hk => ?_) h2.2.2.2.1
  have e : n' = n := (nI_eq (by omega) (by have := hr.2.2.2.2.2; omega)).mp (hn'.symm.trans hr.1)
  subst e
  have e5 : k = 5 * (k / 5) + k % 5 := by omega
  have q1 := h2.2.1.2 (k % 5) (k / 5) (by omega) (by omega)
  have q2 := (hr.x f1).2.1.2 (k % 5) (k / 5) (by omega) (by omega)
  rw [← e5] at q1 q2
  rw [q1, q2]
theorem m_later (hd : 75 ≤ d) (hr : rS n f T M) (hp : p < n) (kk : ∀ M', fs rK rJ M M' → rS n f T M' → Q (some (.int (ltB (ltr T n f p 100)))) M') : v_Md_later L xs d Q 36 [(0, .ref 40), (1, .int (nI p)), (2, .int (nI (5 * p + 1))), (3, .int (nI (f 1 p))), (4, .int (ltB (ltr T n f p 0))), (5, .int (nI (ltL 1000 (ltr T n f p 0)))), (6, .int (nI 0))] [] M := by
  have hn := hr.2.2.2.2.2
  have hok := hr.2.2.2.2.1 p hp
  have loop : ∀ j e (M1 : AM), e + j = 100 → fs rK rJ M M1 → (∃ v, rS n (upf f 1 p v) T M1) → v_Md_later L xs d Q 36 [(0, .ref 40), (1, .int (nI p)), (2, .int (nI (5 * p + 1))), (3, .int (nI (f 1 p))), (4, .int (ltB (ltr T n f p e))), (5, .int (nI (ltL 1000 (ltr T n f p e)))), (6, .int (nI e))] [] M1 := by
    intro j
    induction j with
    | zero =>
      intro e M1 he F hv
      obtain ⟨v, s1⟩ := hv
      have : e = 100 := by omega
      subst this
      refine u_Md_later_36 ⟨fun _ => ?_, fun z => absurd ((n_ltI (a := 99) (b := 100) (by decide) (by decide)).mpr (by decide)) z⟩
      rw [n_cl (show 5 * p + 1 < 2 ^ 31 by omega)]
      have s2 := s1.up (w := 1) (p := p) (v := f 1 p) (by decide) hp ⟨fun z => by omega, fun _ => by omega, fun z => by omega, fun z => by omega, fun z => by omega⟩
      rw [upf_upf, upf_id] at s2
      exact ⟨(n_vp (by omega)).mpr (by omega), kk _ (F.c (by decide) (by decide)) s2⟩
    | succ j ih =>
      intro e M1 he F hv
      obtain ⟨v, s1⟩ := hv
      refine u_Md_later_36 ⟨fun z => absurd ((n_ltI (a := 99) (by decide) (by omega)).mp z) (by omega), fun _ => ?_⟩
      rw [n_cl (show 5 * p + 1 < 2 ^ 31 by omega)]
      refine ⟨(n_vp (by omega)).mpr (by omega), ?_⟩
      have s2 := s1.up (w := 1) (p := p) (v := e) (by decide) hp ⟨fun z => by omega, fun _ => by omega, fun z => by omega, fun z => by omega, fun z => by omega⟩
      rw [upf_upf] at s2
      refine m_dayW (k0 := 100) (by omega) s2 (by decide) (fun M' h => u_Md_later_55 h) (fun M2 f2 s3 e49 => ?_)
      have R := ih (e + 1) M2 (by omega) ((F.c (by decide) (by decide)).tt (f2.to (by decide) (by decide))) ⟨e, s3⟩
      refine u_Md_later_61 ?_
      rw [n_cl (show p < 2 ^ 31 by omega), e49 p (by omega), nI_1]
      refine ⟨(n_vp (by omega)).mpr (by omega), ?_⟩
      have hl : ltL 1000 (ltr T n f p e) ≤ 1000 := by
        cases z : ltr T n f p e with
        | none => exact Nat.le_refl _
        | some bl =>
          obtain ⟨b, l⟩ := bl
          have := (ltr_ok e (by omega) b l z).2
          show l ≤ 1000
          omega
      cases z : dgo T n (upf f 1 p e) (ein n) noG 5 100 p with
      | none =>
        have e1 : ltr T n f p (e + 1) = ltr T n f p e := by
          show (match dgo T n (upf f 1 p e) (ein n) noG 5 100 p with | none => _ | some a => _) = _
          rw [z]
        rw [e1] at R
        exact ⟨fun y => absurd y (by decide), fun _ => ⟨fun _ => R, fun y => absurd ((n_leI (b := 1000) (by omega) (by decide)).mpr hl) y⟩⟩
      | some a =>
        have ha := (dgo_lt z).1
        have hw := dgo_W p a z
        rw [show upf f 1 p e 1 p = e from if_pos ⟨rfl, rfl⟩] at hw
        rw [show oI (some a) = nI a from rfl, n_sub hw.1]
        refine ⟨fun _ => ⟨fun y => ?_, fun y => ?_⟩, fun y => absurd (nI_pos' (by omega)) y⟩
        · have hge := (n_leI (by omega) (by omega)).mp y
          have e1 : ltr T n f p (e + 1) = ltr T n f p e := by
            show (match dgo T n (upf f 1 p e) (ein n) noG 5 100 p with | none => _ | some a => _) = _
            rw [z]
            cases y2 : ltr T n f p e with
            | none =>
              rw [y2] at hge
              exact absurd (show 1000 ≤ a - e from hge) (by omega)
            | some bl =>
              obtain ⟨b, l⟩ := bl
              rw [y2] at hge
              exact if_neg (by have : l ≤ a - e := hge; omega)
          rw [e1] at R
          exact R
        · have hlt : a - e < ltL 1000 (ltr T n f p e) := by
            have : ¬ ltL 1000 (ltr T n f p e) ≤ a - e := fun q => y ((n_leI (by omega) (by omega)).mpr q)
            omega
          have e1 : ltr T n f p (e + 1) = some (e, a - e) := by
            show (match dgo T n (upf f 1 p e) (ein n) noG 5 100 p with | none => _ | some a => _) = _
            rw [z]
            cases y2 : ltr T n f p e with
            | none => rfl
            | some bl =>
              obtain ⟨b, l⟩ := bl
              rw [y2] at hlt
              exact if_pos hlt
          rw [e1] at R
          exact R
  exact loop 100 0 M (by omega) fs.rf ⟨f 1 p, by rw [upf_id]; exact hr⟩
theorem j_later (hI : Inv M) (hd : 100 ≤ d) : Jn L xs d c_Mo_later c_Md_later [.ref 0, .int x1] [.ref 40, .int x1] M := by
  obtain ⟨n, f, T, hx, hr⟩ := hI.s
  obtain ⟨d, rfl⟩ : ∃ a, d = a + 6 := ⟨d - 6, by omega⟩
  have hn := hx.2.2.2
  have e1 := hx.1.1
  have ept : (nI n - 1).toInt = (n : Int) - 1 := n_pt (by omega)
  have et : (nI n).toInt = (n : Int) := nI_toInt (by omega)
  by_cases hv : 0 ≤ x1.toInt ∧ x1.toInt < n
  · obtain ⟨v1, v2⟩ := hv
    obtain ⟨p, rfl, hp, -⟩ := n_ofI v1
    have hpn : p < n := by omega
    refine Jn.of2 (v := ltB (ltr T n f p 100)) (P := fr qK M) (fun Q k => ?_) (fun M1 F Q k => ?_)
    · refine t_Mo_later ⟨fun z => absurd z (nI_pos (by omega)), fun _ => ⟨fun z => by rw [e1, n_leI (by omega) (by omega)] at z; omega, fun _ => x_later (by omega) hx hpn (fun M1 f1 => u_Mo_later_21 (k _ f1))⟩⟩
    · have s1 := hr.x F
      have q1 : vp_in ((5 : Int32) * nI p + 1) 75 ∧ M1.1 41 (((5 : Int32) * nI p + 1).toNatClampNeg) = nI (f 1 p) := s1.2.1.at 1 (by decide) hpn
      have W := m_later (L := L) (xs := xs) (d := d + 5) (Q := Q) (by omega) s1 hpn (fun M2 f2 s2 => k _ (hI.q3 hr F f2 s2))
      refine t_Md_later ⟨fun z => absurd z (g_nn (by omega)), fun _ => ⟨fun z => by rw [s1.1] at z; exact absurd z (g_top hpn (by omega)), fun _ => ⟨Or.inr rfl, q1.1, ?_⟩⟩⟩
      rw [q1.2, show (5 : Int32) * nI p + 1 = nI (5 * p + 1) from (q5 p).2.1]
      exact W
  · refine Jn.no (-1) hI (fun Q k => ?_) (fun Q k => ?_)
    · refine t_Mo_later ⟨fun _ => k, fun z1 => ⟨fun _ => k, fun z2 => ?_⟩⟩
      exfalso
      rw [e1] at z2
      ((try simp only [lg_cmp_lt, lg_cmp_gt] at z1); simp (disch := omega) only [Int64.lt_iff_toInt_lt, Int32.toInt_toInt64, Int64.reduceToInt, ← Int32.toInt_inj, Int32.lt_iff_toInt_lt, Int32.le_iff_toInt_le, Int32.reduceToInt, nI_toInt, false_implies, true_implies, and_true, true_and, not_true_eq_false, not_false_eq_true, forall_const, implies_true, false_and, and_false, true_or, or_true, eq_self] at z1)
      ((try simp only [lg_cmp_lt, lg_cmp_gt] at z2); simp (disch := omega) only [et, Int64.lt_iff_toInt_lt, Int32.toInt_toInt64, Int64.reduceToInt, ← Int32.toInt_inj, Int32.lt_iff_toInt_lt, Int32.le_iff_toInt_le, Int32.reduceToInt, nI_toInt, false_implies, true_implies, and_true, true_and, not_true_eq_false, not_false_eq_true, forall_const, implies_true, false_and, and_false, true_or, or_true, eq_self] at z2)
      omega
    · refine t_Md_later ⟨fun _ => ⟨Or.inl rfl, k⟩, fun z1 => ⟨fun _ => ⟨Or.inl rfl, k⟩, fun z2 => ?_⟩⟩
      exfalso
      rw [hr.1] at z2
      ((try simp only [lg_cmp_lt, lg_cmp_gt] at z1); simp (disch := omega) only [Int64.lt_iff_toInt_lt, Int32.toInt_toInt64, Int64.reduceToInt, ← Int32.toInt_inj, Int32.lt_iff_toInt_lt, Int32.le_iff_toInt_le, Int32.reduceToInt, nI_toInt, false_implies, true_implies, and_true, true_and, not_true_eq_false, not_false_eq_true, forall_const, implies_true, false_and, and_false, true_or, or_true, eq_self] at z1)
      ((try simp only [lg_cmp_lt, lg_cmp_gt] at z2); simp (disch := omega) only [ept, Int64.lt_iff_toInt_lt, Int32.toInt_toInt64, Int64.reduceToInt, ← Int32.toInt_inj, Int32.lt_iff_toInt_lt, Int32.le_iff_toInt_le, Int32.reduceToInt, nI_toInt, false_implies, true_implies, and_true, true_and, not_true_eq_false, not_false_eq_true, forall_const, implies_true, false_and, and_false, true_or, or_true, eq_self] at z2)
      omega
end E26
