section D5
variable {L : Nat} {xs : Nat → Int32} {d : Nat} {Q : AQ} {M M1 M2 : AM} {T : PV} {f : Nat → Nat → Nat} {n k0 : Nat} {C G : Nat → Bool} {io : Nat → Option Nat} {x1 x2 x3 : Int32}
/-- all are in -/
def aIn (io : Nat → Option Nat) (n : Nat) : Bool := decide (cnt (fun p => (io p).isSome) n = n)
theorem cnt_full {g : Nat → Bool} : ∀ {n : Nat}, cnt g n = n ↔ ∀ p, p < n → g p = true
  | 0 => ⟨fun _ p h => by omega, fun _ => rfl⟩
  | n + 1 => by
    rw [cnt_s]
    have hl := cnt_le g n
    constructor
    · intro h p hp
      by_cases hg : g n = true
      · rw [if_pos hg] at h
        by_cases e : p = n
        · rw [e]; exact hg
        · exact (cnt_full (n := n)).mp (by omega) p (by omega)
      · rw [if_neg hg] at h; omega
    · intro h
      rw [if_pos (h n (by omega)), cnt_full.mpr (fun p hp => h p (by omega))]
theorem out_all {n : Nat} {io : Nat → Option Nat} (hn : n ≤ 15) : sI (fun p => ein n p && (io p).isNone) = 0 ↔ aIn io n = true := by
  unfold aIn
  rw [decide_eq_true_eq, cnt_full, sI_0]
  constructor
  · intro h p hp
    have := h p (by omega)
    cases z : io p with
    | none => rw [z] at this; simp [ein, hp] at this
    | some a => rfl
  · intro h p hp
    by_cases hpn : p < n
    · have := h p hpn
      cases z : io p with
      | none => rw [z] at this; cases this
      | some a => simp
    · simp [ein, hpn]
/-- the least place from 5 - j on by which all are in -/
def rlp (ai : Nat → Bool) : Nat → Option Nat
  | 0 => none
  | j + 1 => if ai (4 - j) then some (4 - j) else rlp ai j
theorem j_rule (hI : Inv M) (hd : 100 ≤ d) : Jn L xs d c_Mo_rule c_Md_rule [.ref 0, .int x1] [.ref 40, .int x1] M := by
  obtain ⟨n, f, T, hx, hr⟩ := hI.s
  obtain ⟨d, rfl⟩ : ∃ a, d = a + 9 := ⟨d - 9, by omega⟩
  have hn := hx.2.2.2
  by_cases hv : 0 ≤ x1.toInt ∧ x1.toInt ≤ 100
  · obtain ⟨v1, v2⟩ := hv
    obtain ⟨s, rfl, hs, -⟩ := n_ofI v1
    refine Jn.of2 (v := oI (rlp (fun p => aIn (dgo T n f (ein n) noG p s) n) 5)) (P := fr qK M) (fun Q k => ?_) (fun M1 F Q k => ?_)
    · refine t_Mo_rule ?_
      ((try simp only [lg_cmp_lt, lg_cmp_gt]); simp (disch := omega) only [Int64.lt_iff_toInt_lt, Int32.toInt_toInt64, Int64.reduceToInt, ← Int32.toInt_inj, Int32.lt_iff_toInt_lt, Int32.le_iff_toInt_le, Int32.reduceToInt, nI_toInt, false_implies, true_implies, and_true, true_and, not_true_eq_false, not_false_eq_true, forall_const, implies_true, false_and, and_false, true_or, or_true, eq_self])
      repeat' (first | (with_reducible refine And.intro ?_ ?_) | (with_reducible intro h; first | (exfalso; omega) | contradiction | skip))
      have loop : ∀ j p M1, p + j = 5 → fr qK M M1 → xS n f T M1 → crw 16 17 n f M1 → cch 16 18 n f M1 → (∀ M', fr qK M M' → Q (some (.int (oI (rlp (fun p => aIn (dgo T n f (ein n) noG p s) n) j)))) M') → v_Wishes_placeForAll L xs (d + 7) (fun r M' => v_Mo_rule L xs (d + 8) Q 17 [] (r.toList ++ []) M') 13 [(0, .ref 20), (1, .int (nI s)), (2, .int (nI p))] [] M1 := by
        intro j
        induction j with
        | zero =>
          intro p M1 hp F s1 c1 c2 k
          exact u_Wishes_placeForAll_13 ⟨fun _ => u_Mo_rule_17 (k M1 F), fun z => absurd ((n_ltI (a := 4) (by decide) (by omega)).mpr (by omega)) z⟩
        | succ j ih =>
          intro p M1 hp F s1 c1 c2 k
          rw [rlp, show 4 - j = p from by omega] at k
          refine u_Wishes_placeForAll_13 ⟨fun z => absurd ((n_ltI (a := 4) (by decide) (by omega)).mp z) (by omega), fun _ => ?_⟩
          rw [s1.1.1, sI_all (by omega)]
          refine x_again (C := ein n) (by omega) s1 c1 c2 (fun M2 f2 s2 g2 l2 => u_Wishes_placeForAll_32 (x_runs (pl := p) (by omega) s2 g2 (by omega) (by omega) l2 (fun M3 f3 s3 g3 l3 => u_Wishes_placeForAll_41 ?_)))
          rw [g3.2.2.1, out_all (by omega)]
          refine ⟨fun z => ?_, fun z => ?_⟩
          · rw [if_neg z] at k
            rw [nI_1]
            exact ih (p + 1) M3 (by omega) ((F.q f2).q f3) s3 g3.1 g3.2.1 k
          · rw [if_pos z] at k
            exact u_Mo_rule_17 (k M3 ((F.q f2).q f3))
      exact t_Wishes_placeForAll (x_bg (by omega) hx (fun M1 f1 s1 g1 l1 => u_Wishes_placeForAll_11 (loop 5 0 M1 (by omega) f1 s1 g1.1 g1.2.1 k)))
    · refine t_Md_rule ?_
      ((try simp only [lg_cmp_lt, lg_cmp_gt]); simp (disch := omega) only [Int64.lt_iff_toInt_lt, Int32.toInt_toInt64, Int64.reduceToInt, ← Int32.toInt_inj, Int32.lt_iff_toInt_lt, Int32.le_iff_toInt_le, Int32.reduceToInt, nI_toInt, false_implies, true_implies, and_true, true_and, not_true_eq_false, not_false_eq_true, forall_const, implies_true, false_and, and_false, true_or, or_true, eq_self])
      repeat' (first | (with_reducible refine And.intro ?_ ?_) | (with_reducible intro h; first | (exfalso; omega) | contradiction | skip))
      -- the reference goes down
      have loop : ∀ j M4, j ≤ 5 → fs yK (23 :: eJ) M1 M4 → M4.1 40 6 = nI n → pM n f M4 → lawM T M4 → v_Md_rule L xs (d + 8) Q 14 [(0, .ref 40), (1, .int (nI s)), (2, .int (oI (rlp (fun p => aIn (dgo T n f (ein n) noG p s) n) (5 - j)))), (3, .int (nI j - 1))] [] M4 := by
        intro j
        induction j with
        | zero =>
          intro M4 hj F4 h6 hP hL
          refine u_Md_rule_14 ⟨fun _ => k _ (hI.q F ((F4.to (by decide) (by decide)).s (by decide)) (fun _ _ _ q _ => by rw [wi_ne (by decide), F4.i 41]) wi_eq), fun z => absurd (by decide) z⟩
        | succ p ih =>
          intro M4 hj F4 h6 hP hL
          rw [n_top]
          refine u_Md_rule_14 ⟨fun z => absurd z (nI_pos (by omega)), fun _ => ?_⟩
          have fw : fs yK (23 :: eJ) M1 (am_wi M4 40 23 (nI p)) := F4.s (by decide)
          refine m_begins (by omega) (by rw [wi_sl (by decide)]; exact h6) (hP.keep (wi_ne (by decide))) (fun M5 f5 g5 l5 => u_Md_rule_27 ?_)
          have hL5 : lawM T M5 := hL.keep (by rw [f5.j 13, wi_sl (by decide)]) (by rw [f5.i 47, wi_ne (by decide)])
          refine m_goes (T := T) (pl := p) (by omega) g5 hr.2.2.2.2.1 hL5 (by omega) (by omega) (by rw [f5.j 23, wi_eq, plI, if_neg (by omega)]) l5 (fun M6 f6 g6 l6 => u_Md_rule_32 ?_)
          have e6 : M6.1 40 6 = nI n := g6.1
          refine m_inMany (by omega) e6 (by omega) (fun q hq => g6.at (by omega)) (dgo_ioB (by omega)) (u_Md_rule_36 ?_)
          have hcl := cnt_le (fun q => (dgo T n f (ein n) noG p s q).isSome) n
          have F6 : fs yK (23 :: eJ) M1 M6 := (fw.tt (f5.to (by decide) (by decide))).tt (f6.to (by decide) (by decide))
          have nx := ih M6 (by omega) F6 e6 (g6.2.2.1) (hL5.keep (by rw [f6.j 13]) (f6.i 47))
          rw [e6, show nI p + (-1) = nI p - 1 from n_pm _]
          rw [show 5 - p = (5 - (p + 1)) + 1 from by omega, rlp, show 4 - (5 - (p + 1)) = p from by omega] at nx
          refine ⟨fun z => ?_, fun z => ?_⟩
          · rw [if_neg (fun y => z (by unfold aIn at y; rw [decide_eq_true_eq] at y; rw [show n + 0 = n from rfl, y]))] at nx
            exact nx
          · rw [if_pos (by unfold aIn; rw [decide_eq_true_eq]; exact (nI_eq (by omega) (by omega)).mp z)] at nx
            exact nx
      exact loop 5 M1 (by omega) fs.rf (hr.x F).1 (hr.x F).2.1 (hr.x F).2.2.1
  · refine Jn.no (-1) hI (fun Q k => ?_) (fun Q k => ?_)
    · refine t_Mo_rule ?_
      ((try simp only [lg_cmp_lt, lg_cmp_gt]); simp (disch := omega) only [Int64.lt_iff_toInt_lt, Int32.toInt_toInt64, Int64.reduceToInt, ← Int32.toInt_inj, Int32.lt_iff_toInt_lt, Int32.le_iff_toInt_le, Int32.reduceToInt, nI_toInt, false_implies, true_implies, and_true, true_and, not_true_eq_false, not_false_eq_true, forall_const, implies_true, false_and, and_false, true_or, or_true, eq_self])
      repeat' (first | (with_reducible refine And.intro ?_ ?_) | (with_reducible intro h; first | (exfalso; omega) | contradiction | skip))
      all_goals first | exact k | (exfalso; omega)
    · refine t_Md_rule ?_
      ((try simp only [lg_cmp_lt, lg_cmp_gt]); simp (disch := omega) only [Int64.lt_iff_toInt_lt, Int32.toInt_toInt64, Int64.reduceToInt, ← Int32.toInt_inj, Int32.lt_iff_toInt_lt, Int32.le_iff_toInt_le, Int32.reduceToInt, nI_toInt, false_implies, true_implies, and_true, true_and, not_true_eq_false, not_false_eq_true, forall_const, implies_true, false_and, and_false, true_or, or_true, eq_self])
      repeat' (first | (with_reducible refine And.intro ?_ ?_) | (with_reducible intro h; first | (exfalso; omega) | contradiction | skip))
      all_goals first | exact k | (exfalso; omega)
end D5
