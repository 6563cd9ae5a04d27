section E38
variable {L : Nat} {xs : Nat → Int32} {d : Nat} {Q : AQ} {M M0 M1 M2 : AM} {n N k0 p e v w r q s k m o hi sb : Nat} {f g h : Nat → Nat → Nat} {io : Nat → Option Nat} {C G : Nat → Bool} {T : PV} {x1 x2 x3 z : Int32} {B B' : Option Nat}
theorem dayM.less (h : dayM n 0 f (ein n) G io M) (hm : m < 2 ^ 15) : dayM n 0 f (cmo n m) G io (am_wi M 40 20 ((M.1 40 20) &&& (nI m ^^^ (-1)))) := by
  obtain ⟨h1, h2, h3, ⟨C0, h4, h4'⟩, ⟨G0, h5, h5'⟩, h6, h7⟩ := h
  rw [h4, sI_nat hm, sI_andn]
  refine ⟨by rw [wi_sl (by decide)]; exact h1, by rw [wi_sl (by decide)]; exact h2, h3.keep (wi_ne (by decide)), ⟨fun p => C0 p && !m.testBit p, wi_eq, fun p hp => ?_⟩, ⟨G0, by rw [wi_sl (by decide)]; exact h5, h5'⟩, fun p h1 h2 => by omega, fun p hp => by rw [wi_ne (by decide)]; exact h7 p hp⟩
  show (C0 p && !m.testBit p) = (ein n p && !m.testBit p)
  rw [h4' p hp]
theorem spM_uq {ok : Nat → Bool} {c b : Nat → Nat} (h1 : spM ok c b hi B) (hB : spM ok c b hi B') : B = B' := by
  cases B with
  | none =>
    cases B' with
    | none => rfl
    | some y => have := h1 y hB.1; rw [hB.2.1] at this; cases this
  | some x =>
    cases B' with
    | none => have := hB x h1.1; rw [h1.2.1] at this; cases this
    | some y =>
      have k1 := h1.2.2 y hB.1 hB.2.1
      have k2 := hB.2.2 x h1.1 h1.2.1
      unfold lek at k1 k2
      congr 1
      omega
theorem spM_ex {ok : Nat → Bool} {c b : Nat → Nat} : ∀ hi, ∃ B, spM ok c b hi B
  | 0 => ⟨none, fun e he => by omega⟩
  | hi + 1 => by
    obtain ⟨B, hB⟩ := spM_ex (ok := ok) (c := c) (b := b) hi
    cases z : ok hi with
    | false => exact ⟨B, hB.no z⟩
    | true =>
      by_cases y : btr c b hi B
      · exact ⟨_, hB.yes z y⟩
      · exact ⟨_, hB.nb y⟩
theorem m_sent (hd : 76 ≤ d) (hr : rS n f T M) (hk : k < n) (hs : s ≤ 30) (hr2 : r < 2) (hw : w < 2) (e10 : irem (nI sb) 10 = nI r) (hB : spM (fun e => !e.testBit k && suc (decide (r = 1)) s (sval T n f s k e)) (cst f n) bt (2 ^ n) B) (kk : ∀ M', fs yK eJ M M' → Q (some (.int (stV f n w B))) M') : v_Md_sent L xs (d + 1) Q 55 [(0, .ref 40), (1, .int (nI k)), (2, .int (nI sb)), (3, .int (nI w)), (4, .int (nI s)), (5, .int (-2)), (6, .int 0)] [] M := by
  have hn := hr.2.2.2.2.2
  have hok := hr.2.2.2.2.1
  have w1 : nI w = 1 ↔ w = 1 := nI_eq (b := 1) (by omega) (by decide)
  have r1 : nI r = 1 ↔ r = 1 := nI_eq (b := 1) (by omega) (by decide)
  have hN : 2 ^ n ≤ 4096 := Nat.pow_le_pow_right (n := 2) (by decide) hn
  have hshl := n_shl1 (p := n) (by omega)
  obtain ⟨N, hNe⟩ : ∃ N, N = 2 ^ n := ⟨_, rfl⟩
  rw [← hNe] at hN hshl hB
  obtain ⟨okr, hokr⟩ : ∃ g : Nat → Bool, g = fun e => !e.testBit k && suc (decide (r = 1)) s (sval T n f s k e) := ⟨_, rfl⟩
  rw [← hokr] at hB
  have loop : ∀ j m (M1 : AM) (B1 : Option Nat), m + j = N → fs yK eJ M M1 → rS n f T M1 → spM okr (cst f n) bt m B1 → v_Md_sent L xs (d + 1) Q 55 [(0, .ref 40), (1, .int (nI k)), (2, .int (nI sb)), (3, .int (nI w)), (4, .int (nI s)), (5, .int (oI B1)), (6, .int (nI m))] [] M1 := by
    intro j
    induction j with
    | zero =>
      intro m M1 B1 hm F s1 h1
      have em : m = N := by omega
      subst em
      have eB := spM_uq h1 hB
      subst eB
      have K := kk M1 F
      unfold stV at K
      refine u_Md_sent_55 ?_
      rw [s1.1, hshl]
      refine ⟨fun _ => ?_, fun z => absurd (nI_le (Nat.le_refl _) (by omega)) z⟩
      cases B1 with
      | none =>
        have K2 : Q (some (.int (-2))) M1 := by
          by_cases hw0 : w = 0
          · rw [if_pos hw0] at K; exact K
          · rw [if_neg hw0] at K; exact K
        exact ⟨fun _ => K2, fun z => absurd (by decide) z⟩
      | some b =>
        have hb := h1.1
        refine ⟨fun z => absurd z (nI_pos (by omega)), fun _ => ⟨fun z => ?_, fun z => ?_⟩⟩
        · have hw0 : w = 0 := by
            have : ¬ w = 1 := fun q => z (w1.mpr q)
            omega
          rw [if_pos hw0] at K
          exact m_priceOf (by omega) s1 (by omega) (u_Md_sent_214 K)
        · have hw0 : ¬ w = 0 := by have := w1.mp z; omega
          rw [if_neg hw0] at K
          exact K
    | succ j ih =>
      intro m M1 B1 hm F s1 h1
      have hm12 : m < 4096 := by omega
      have no : okr m = false → v_Md_sent L xs (d + 1) Q 55 [(0, .ref 40), (1, .int (nI k)), (2, .int (nI sb)), (3, .int (nI w)), (4, .int (nI s)), (5, .int (oI B1)), (6, .int (nI m + 1))] [] M1 := fun z => by
        rw [nI_1 m]
        exact ih (m + 1) M1 B1 (by omega) F s1 (h1.no z)
      have nx : ¬ btr (cst f n) bt m B1 → v_Md_sent L xs (d + 1) Q 55 [(0, .ref 40), (1, .int (nI k)), (2, .int (nI sb)), (3, .int (nI w)), (4, .int (nI s)), (5, .int (oI B1)), (6, .int (nI m + 1))] [] M1 := fun z => by
        rw [nI_1 m]
        exact ih (m + 1) M1 B1 (by omega) F s1 (h1.nb z)
      have try1 : m.testBit k = false → btr (cst f n) bt m B1 → am_Call (gG L xs) (d + 1) c_Md_begins1 [.ref 40] M1 (fun rr M' => v_Md_sent L xs (d + 1) Q 129 [(0, .ref 40), (1, .int (nI k)), (2, .int (nI sb)), (3, .int (nI w)), (4, .int (nI s)), (5, .int (oI B1)), (6, .int (nI m))] (rr.toList ++ []) M') := fun hmk hb => by
        refine m_bg (by omega) s1 (fun M2 f2 s2 g2 l2 => u_Md_sent_129 ?_)
        rw [nI_1 s]
        have fw : fs yK eJ M2 (am_wi M2 40 20 ((M2.1 40 20) &&& (nI m ^^^ (-1)))) := fs.rf.s (by decide)
        refine m_go (k0 := s + 1) (by omega) (s2.keep fw) (g2.less (by omega)) (by omega) (by rw [wi_sl (by decide)]; exact l2) (fun M3 f3 s3 g3 l3 => ?_)
        have F3 : fs yK eJ M M3 := ((F.tt f2).tt fw).tt f3
        have R := fun B2 h => ih (m + 1) M3 B2 (by omega) F3 s3 h
        have ev : M3.1 49 k = oI (sval T n f s k m) := g3.at (by omega)
        have keep : suc (decide (r = 1)) s (sval T n f s k m) = false → v_Md_sent L xs (d + 1) Q 55 [(0, .ref 40), (1, .int (nI k)), (2, .int (nI sb)), (3, .int (nI w)), (4, .int (nI s)), (5, .int (oI B1)), (6, .int (nI m + 1))] [] M3 := fun y => by
          rw [nI_1 m]
          refine R B1 (h1.no ?_)
          rw [hokr]
          show (!m.testBit k && suc (decide (r = 1)) s (sval T n f s k m)) = false
          rw [y, Bool.and_false]
        have set1 : suc (decide (r = 1)) s (sval T n f s k m) = true → v_Md_sent L xs (d + 1) Q 55 [(0, .ref 40), (1, .int (nI k)), (2, .int (nI sb)), (3, .int (nI w)), (4, .int (nI s)), (5, .int (nI m)), (6, .int (nI m + 1))] [] M3 := fun y => by
          rw [nI_1 m]
          refine R (some m) (h1.yes ?_ hb)
          rw [hokr]
          show (!m.testBit k && suc (decide (r = 1)) s (sval T n f s k m)) = true
          rw [y, hmk]; rfl
        refine u_Md_sent_150 ⟨(n_vp (by omega)).mpr (by omega), ?_⟩
        rw [n_cl (show k < 2 ^ 31 by omega), ev, e10, r1]
        cases zz : sval T n f s k m with
        | none =>
          rw [zz] at keep
          exact ⟨fun y => absurd y.symm (n2_ne (by omega)), fun _ => ⟨fun _ => keep rfl, fun _ => ⟨fun _ => keep rfl, fun y => absurd (by decide) y⟩⟩⟩
        | some a =>
          have ha : a < s + 1 := (dgo_lt (show dgo T n f (cmo n m) noG 5 (s + 1) k = some a from zz)).1
          rw [zz] at keep set1
          have ea : nI a = nI s ↔ a = s := nI_eq (by omega) (by omega)
          rw [show oI (some a) = nI a from rfl]
          refine ⟨fun y => set1 ?_, fun y => ⟨fun y2 => keep ?_, fun y2 => ⟨fun y3 => absurd y3 (nI_pos (by omega)), fun _ => set1 ?_⟩⟩⟩
          · show (decide (a = s) || decide (r = 1)) = true
            rw [decide_eq_true (ea.mp y)]; rfl
          · show (decide (a = s) || decide (r = 1)) = false
            rw [decide_eq_false (fun q => y (ea.mpr q)), decide_eq_false y2]; rfl
          · show (decide (a = s) || decide (r = 1)) = true
            rw [decide_eq_true y2, Bool.or_true]
      refine u_Md_sent_55 ?_
      rw [s1.1, hshl, n_bit (by omega) (by omega)]
      refine ⟨fun z => absurd ((n_leI (by omega) (by omega)).mp z) (by omega), fun _ => ⟨fun z => ?_, fun z => no ?_⟩⟩
      · have hmk : m.testBit k = false := by
          cases y : m.testBit k with
          | false => rfl
          | true => rw [y] at z; exact absurd rfl z
        cases B1 with
        | none => exact ⟨fun y => absurd y (by decide), fun _ => try1 hmk trivial⟩
        | some b =>
          have hcm := cst_le (m := m) hok hn
          have hcb := cst_le (m := b) hok hn
          have hbm := bt_le (m := m)
          have hbb := bt_le (m := b)
          have hbl : b < m := h1.1
          have lt : nI (cst f n m) - nI (cst f n b) < 0 ↔ cst f n m < cst f n b := d_lt (by omega) (by omega)
          have eq : nI (cst f n m) - nI (cst f n b) = 0 ↔ cst f n m = cst f n b := d_eq (by omega) (by omega)
          have lb : nI (bt b) ≤ nI (bt m) ↔ bt b ≤ bt m := n_leI (by omega) (by omega)
          refine ⟨fun _ => m_priceOf (by omega) s1 (by omega) (u_Md_sent_93 (m_priceOf (by omega) s1 (by omega) (u_Md_sent_99 ⟨fun y => try1 hmk (Or.inl (lt.mp y)), fun y => ⟨fun y2 => nx ?_, fun y2 => m_bitsOf (by omega) hm12 (u_Md_sent_117 (m_bitsOf (by omega) (by omega) (u_Md_sent_122 ⟨fun y3 => nx ?_, fun y3 => try1 hmk (Or.inr ⟨eq.mp y2, ?_⟩)⟩)))⟩⟩))), fun y => absurd (nI_pos' (by omega)) y⟩
          · intro q
            rcases q with q | ⟨q, -⟩
            · exact y (lt.mpr q)
            · exact y2 (eq.mpr q)
          · intro q
            have := lb.mp y3
            rcases q with q | ⟨-, q⟩
            · exact y (lt.mpr q)
            · omega
          · have : ¬ bt b ≤ bt m := fun q => y3 (lb.mpr q)
            omega
      · rw [hokr]
        show (!m.testBit k && suc (decide (r = 1)) s (sval T n f s k m)) = false
        rw [b2i_1.mp z]; rfl
  exact loop N 0 M none (by omega) fs.rf hr (fun e he => by omega)
theorem j_sent (hI : Inv M) (hd : 100 ≤ d) : Jn L xs d c_Mo_sent c_Md_sent [.ref 0, .int x1, .int x2, .int x3] [.ref 40, .int x1, .int x2, .int x3] M := by
  obtain ⟨n, f, T, hx, hr⟩ := hI.s
  obtain ⟨d, rfl⟩ : ∃ a, d = a + 6 := ⟨d - 6, by omega⟩
  have hn := hx.2.2.2
  have e1 := hx.1.1
  have e6 := hr.1
  have ept : (nI n - 1).toInt = (n : Int) - 1 := n_pt (by omega)
  by_cases h0 : 0 ≤ x2.toInt
  · obtain ⟨sb, rfl, hsb, hsb2⟩ := n_ofI h0
    have ed : nI sb / 10 = nI (sb / 10) := n_div (d := 10) hsb2 (by decide) (by decide)
    have er : irem (nI sb) 10 = nI (sb % 10) := n_rem (d := 10) hsb2 (by decide) (by decide)
    obtain ⟨s, hs⟩ : ∃ s, s = sb / 10 := ⟨_, rfl⟩
    obtain ⟨r, hr'⟩ : ∃ r, r = sb % 10 := ⟨_, rfl⟩
    rw [← hs] at ed
    rw [← hr'] at er
    have hs2 : s < 2 ^ 31 := by omega
    have hr3 : r < 10 := by omega
    by_cases hv : 0 ≤ x1.toInt ∧ x1.toInt < n ∧ s ≤ 30 ∧ r < 2 ∧ 0 ≤ x3.toInt ∧ x3.toInt ≤ 1
    · obtain ⟨v1, v2, v3, v4, v5, v6⟩ := hv
      obtain ⟨k, rfl, hk, -⟩ := n_ofI v1
      obtain ⟨w, rfl, hw, -⟩ := n_ofI v5
      have hkn : k < n := by omega
      have hw2 : w < 2 := by omega
      obtain ⟨B1, hB1⟩ := spM_ex (ok := fun e => decide (e &&& othN n f s k = e) && suc (decide (r = 1)) s (sval T n f s k e)) (c := cst f n) (b := bt) (othN n f s k + 1)
      obtain ⟨B, hB⟩ := spM_ex (ok := fun e => !e.testBit k && suc (decide (r = 1)) s (sval T n f s k e)) (c := cst f n) (b := bt) (2 ^ n)
      have eB : B1 = B := sent_eq hn hB1 hB
      subst eB
      refine Jn.of2 (v := stV f n w B1) (P := fr qK M) (fun Q kk => ?_) (fun M1 F Q kk => ?_)
      · have X := x_sent (L := L) (xs := xs) (d := d + 5) (Q := fun r M' => v_Mo_sent L xs (d + 5) Q 69 [] (r.toList ++ []) M') (by omega) hx hkn v3 v4 hw2 hB1 (fun M1 f1 => u_Mo_sent_69 (kk _ f1))
        have X0 : r = 0 → am_Call (gG L xs) (d + 5) c_Wishes_sentAway [.ref 20, .int (nI k), .int (nI s), .int 0, .int (nI w)] M (fun r M' => v_Mo_sent L xs (d + 5) Q 69 [] (r.toList ++ []) M') := fun z => by rw [z] at X; exact X
        have X1 : r = 1 → am_Call (gG L xs) (d + 5) c_Wishes_sentAway [.ref 20, .int (nI k), .int (nI s), .int 1, .int (nI w)] M (fun r M' => v_Mo_sent L xs (d + 5) Q 69 [] (r.toList ++ []) M') := fun z => by rw [z] at X; exact X
        refine t_Mo_sent ?_
        rw [ed, er]
        ((try simp only [lg_cmp_lt, lg_cmp_gt]); simp (disch := omega) only [e1, Int64.lt_iff_toInt_lt, Int32.toInt_toInt64, Int64.reduceToInt, ← Int32.toInt_inj, Int32.lt_iff_toInt_lt, Int32.le_iff_toInt_le, Int32.reduceToInt, nI_toInt, false_implies, true_implies, and_true, true_and, not_true_eq_false, not_false_eq_true, forall_const, implies_true, false_and, and_false, true_or, or_true, eq_self])
        repeat' (first | (with_reducible refine And.intro ?_ ?_) | (with_reducible intro h; first | (exfalso; omega) | contradiction | skip))
        all_goals first | exact X0 (by omega) | exact X1 (by omega) | (exfalso; omega)
      · have s1 := hr.x F
        have e6' := s1.1
        have X := m_sent (L := L) (xs := xs) (d := d + 4) (Q := Q) (sb := sb) (by omega) s1 hkn v3 v4 hw2 er hB (fun M2 f2 => kk _ (hI.q2 F f2))
        refine t_Md_sent ?_
        rw [ed, er]
        ((try simp only [lg_cmp_lt, lg_cmp_gt]); simp (disch := omega) only [e6', ept, Int64.lt_iff_toInt_lt, Int32.toInt_toInt64, Int64.reduceToInt, ← Int32.toInt_inj, Int32.lt_iff_toInt_lt, Int32.le_iff_toInt_le, Int32.reduceToInt, nI_toInt, false_implies, true_implies, and_true, true_and, not_true_eq_false, not_false_eq_true, forall_const, implies_true, false_and, and_false, true_or, or_true, eq_self])
        repeat' (first | (with_reducible refine And.intro ?_ ?_) | (with_reducible intro h; first | (exfalso; omega) | contradiction | skip))
        all_goals first | exact X | (exfalso; omega)
    · refine Jn.no (-1) hI (fun Q k => ?_) (fun Q k => ?_)
      · refine t_Mo_sent ?_
        rw [ed, er]
        ((try simp only [lg_cmp_lt, lg_cmp_gt]); simp (disch := omega) only [e1, Int64.lt_iff_toInt_lt, Int32.toInt_toInt64, Int64.reduceToInt, ← Int32.toInt_inj, Int32.lt_iff_toInt_lt, Int32.le_iff_toInt_le, Int32.reduceToInt, nI_toInt, false_implies, true_implies, and_true, true_and, not_true_eq_false, not_false_eq_true, forall_const, implies_true, false_and, and_false, true_or, or_true, eq_self])
        repeat' (first | (with_reducible refine And.intro ?_ ?_) | (with_reducible intro h; first | (exfalso; omega) | contradiction | skip))
        all_goals first | exact k | (exfalso; omega)
      · refine t_Md_sent ?_
        rw [ed, er]
        ((try simp only [lg_cmp_lt, lg_cmp_gt]); simp (disch := omega) only [e6, ept, Int64.lt_iff_toInt_lt, Int32.toInt_toInt64, Int64.reduceToInt, ← Int32.toInt_inj, Int32.lt_iff_toInt_lt, Int32.le_iff_toInt_le, Int32.reduceToInt, nI_toInt, false_implies, true_implies, and_true, true_and, not_true_eq_false, not_false_eq_true, forall_const, implies_true, false_and, and_false, true_or, or_true, eq_self])
        repeat' (first | (with_reducible refine And.intro ?_ ?_) | (with_reducible intro h; first | (exfalso; omega) | contradiction | skip))
        all_goals first | exact k | (exfalso; omega)
  · refine Jn.no (-1) hI (fun Q k => ?_) (fun Q k => ?_)
    · refine t_Mo_sent ?_
      ((try simp only [lg_cmp_lt, lg_cmp_gt]); simp (disch := omega) only [e1, Int64.lt_iff_toInt_lt, Int32.toInt_toInt64, Int64.reduceToInt, ← Int32.toInt_inj, Int32.lt_iff_toInt_lt, Int32.le_iff_toInt_le, Int32.reduceToInt, nI_toInt, false_implies, true_implies, and_true, true_and, not_true_eq_false, not_false_eq_true, forall_const, implies_true, false_and, and_false, true_or, or_true, eq_self])
      repeat' (first | (with_reducible refine And.intro ?_ ?_) | (with_reducible intro h; first | (exfalso; omega) | contradiction | skip))
      all_goals first | exact k | (exfalso; omega)
    · refine t_Md_sent ?_
      ((try simp only [lg_cmp_lt, lg_cmp_gt]); simp (disch := omega) only [e6, ept, Int64.lt_iff_toInt_lt, Int32.toInt_toInt64, Int64.reduceToInt, ← Int32.toInt_inj, Int32.lt_iff_toInt_lt, Int32.le_iff_toInt_le, Int32.reduceToInt, nI_toInt, false_implies, true_implies, and_true, true_and, not_true_eq_false, not_false_eq_true, forall_const, implies_true, false_and, and_false, true_or, or_true, eq_self])
      repeat' (first | (with_reducible refine And.intro ?_ ?_) | (with_reducible intro h; first | (exfalso; omega) | contradiction | skip))
      all_goals first | exact k | (exfalso; omega)
end E38
