section E35
variable {L : Nat} {xs : Nat → Int32} {d : Nat} {Q : AQ} {M M0 M1 M2 : AM} {n N k0 p e v w r q s0 m acc : Nat} {f g h : Nat → Nat → Nat} {io : Nat → Option Nat} {C G : Nat → Bool} {T : PV} {x1 x2 x3 z : Int32} {row : Nat → Int64}
/-- those of a set wear more -/
def hst (f : Nat → Nat → Nat) (m : Nat) : Nat → Nat → Nat := fun a b => if a = 3 then (if m.testBit b then min 20 (f 3 b + 10) else f 3 b) else f a b
theorem hst3 {b : Nat} : hst f m 3 b = if m.testBit b then min 20 (f 3 b + 10) else f 3 b := if_pos rfl
theorem hst_n {a b : Nat} (h : a ≠ 3) : hst f m a b = f a b := if_neg h
theorem hst_le {b : Nat} (h : f 3 b ≤ 20) : hst f m 3 b ≤ 20 := by
  rw [hst3]
  split
  · exact Nat.min_le_left _ _
  · exact h
theorem hst_ok (hf : okP n f) : okP n (hst f m) := fun p hp => by
  have := hf p hp
  rw [hst_n (a := 0) (by decide), hst_n (a := 1) (by decide), hst_n (a := 2) (by decide), hst_n (a := 4) (by decide)]
  exact ⟨this.1, this.2.1, this.2.2.1, this.2.2.2.1, this.2.2.2.2.1, hst_le this.2.2.2.2.2.1, this.2.2.2.2.2.2⟩
theorem hst_0 {a b : Nat} : hst f 0 a b = f a b := by
  by_cases h : a = 3
  · subst h; rw [hst3, Nat.zero_testBit]; rfl
  · exact hst_n h
theorem crw.cg {c nu : Nat} (hc : crw c nu n g M) (e : ∀ w p, w < 5 → p < n → g w p = f w p) : crw c nu n f M :=
  ⟨hc.1, hc.2.1, fun w p hw hp => by rw [← e w p hw hp]; exact hc.2.2 w p hw hp⟩
theorem cwG.cg (hc : cwG n g M) (e : ∀ w p, w < 5 → p < n → g w p = f w p) : cwG n f M :=
  ⟨hc.1.cg e, hc.2.congr rfl rfl (fun p hp => ⟨e 1 p (by decide) hp, e 2 p (by decide) hp⟩)⟩
def nsO : Option Nat → Option Nat
  | none => some 0
  | some _ => none
/-- may those of a set have worn heels -/
def hok (T : PV) (n : Nat) (f : Nat → Nat → Nat) (row : Nat → Int64) (k0 m : Nat) : Option Nat := nsO (unl T n (hst f m) (ein n) row k0 0)
theorem x_wears {y1 : Int32} (hx : xS n f T M) (hc : cwG n g M) (h3 : not3 f g) (hm : m < 2 ^ 15)
    (kk : ∀ M', fr qK M M' → xS n f T M' → cwG n (hst f m) M' → v_Seen_leastHeeled L xs (d + 1) Q 26 [(0, .ref 26), (1, .int y1), (2, .int (nI m)), (3, .int (nI n))] [] M') : v_Seen_leastHeeled L xs (d + 1) Q 26 [(0, .ref 26), (1, .int y1), (2, .int (nI m)), (3, .int 0)] [] M := by
  have hn := hx.2.2.2
  have loop : ∀ j q (M1 : AM), q + j = n → fr qK M M1 → xS n f T M1 → cwG n (bk (hst f m) g 3 q) M1 → v_Seen_leastHeeled L xs (d + 1) Q 26 [(0, .ref 26), (1, .int y1), (2, .int (nI m)), (3, .int (nI q))] [] M1 := by
    intro j
    induction j with
    | zero =>
      intro q M1 hq F s1 c1
      have : q = n := by omega
      subst this
      exact kk M1 F s1 (c1.cg (fun a b ha hb => bk_n (fun a b ha => by rw [h3 a b ha, hst_n ha]) a b hb))
    | succ j ih =>
      intro q M1 hq F s1 c1
      have hqn : q < n := by omega
      have hb3 := (hx.2.2.1 q hqn).2.2.2.2.2.1
      have e45 : ((3 : Int32) * 15 + nI q).toNatClampNeg = 45 + q := by
        rw [show (3 : Int32) * 15 = nI 45 from by decide, nI_add, n_cl (by omega)]
      have q3 : vp_in ((3 : Int32) * 15 + nI q) 75 ∧ M1.1 2 (((3 : Int32) * 15 + nI q).toNatClampNeg) = nI (f 3 q) := s1.1.at (w := 3) (by decide) hqn
      have R := ih (q + 1) (am_wi M1 17 (45 + q) (nI (hst f m 3 q))) (by omega) (F.wi (by decide)) (s1.keep (fr.rf.wi (by decide))) (by
        have := c1.dd.set3 (p := q) (v := hst f m 3 q) hqn
        rw [bk_up] at this
        exact this)
      rw [← nI_1] at R
      have hlt : nI q < M1.1 16 1 := by rw [c1.1.1]; exact nI_lt hqn (by omega)
      refine u_Seen_leastHeeled_26 ⟨fun y => absurd y (by rw [s1.1.1]; exact nI_ge hqn (by omega)), fun _ => ⟨fun y => absurd y (nI_pos (by omega)), fun _ => ⟨q3.1, ?_⟩⟩⟩
      rw [q3.2, e45, n_bit (by omega) (by omega)]
      refine ⟨fun y => ⟨fun _ => ?_, fun z => absurd hlt z⟩, fun y => ⟨fun _ => ?_, fun z => absurd hlt z⟩⟩
      · rw [hst3, if_neg (by rw [b2i_0.mp y]; decide)] at R
        exact R
      · rw [hst3, if_pos (b2i_n0.mp y)] at R
        rw [show nI (f 3 q) + 10 = nI (f 3 q + 10) from nI_add _ 10, show imin (20 : Int32) (nI (f 3 q + 10)) = nI (min 20 (f 3 q + 10)) from n_imin (a := 20) (by decide) (by omega)]
        exact R
  exact loop n 0 M (by omega) fr.rf hx (by rw [bk_0]; exact hc)
theorem x_heeled {K : Option Nat} (hd : 12 ≤ d) (hx : xS n f T M) (hn8 : n ≤ 8) (h0 : s0 < 6) (hk0 : k0 ≤ 60) (h23 : M.1 23 s0 = nI 0) (h24 : M.1 24 s0 = nI k0) (hrow : ∀ i, i < k0 → M.2 25 (60 * s0 + i) = row i) (hK : spL (hok T n f row k0) 0 (2 ^ n) K) (kk : ∀ M', fr qK M M' → Q (some (.int (oI K))) M') : am_Call (gG L xs) d c_Seen_leastHeeled [.ref 26, .int (nI s0)] M Q := by
  obtain ⟨d, rfl⟩ : ∃ a, d = a + 2 := ⟨d - 2, by omega⟩
  have hn := hx.2.2.2
  have hB : 2 ^ n ≤ 256 := Nat.pow_le_pow_right (n := 2) (by decide) hn8
  have hB0 : 0 < 2 ^ n := Nat.two_pow_pos n
  have hall := n_all (n := n) (by omega)
  obtain ⟨B, hBe⟩ : ∃ B, B = 2 ^ n := ⟨_, rfl⟩
  rw [← hBe] at hB hB0 hall hK
  have loop : ∀ j m g (M1 : AM), m + j = B → fr qK M M1 → xS n f T M1 → cwG n g M1 → not3 f g → (∀ e, 0 ≤ e → e < m → hok T n f row k0 e = none) → v_Seen_leastHeeled L xs (d + 1) Q 13 [(0, .ref 26), (1, .int (nI s0)), (2, .int (nI m))] [] M1 := by
    intro j
    induction j with
    | zero =>
      intro m g M1 hm F s1 c1 h3 ha
      have : m = B := by omega
      subst this
      have eK : none = K := spL.uq (K := none) (K' := K) ha hK
      subst eK
      have KK := kk M1 F
      refine u_Seen_leastHeeled_13 ?_
      rw [s1.1.1, hall]
      exact ⟨fun _ => KK, fun y => absurd ((n_ltI (by omega) (by omega)).mpr (by omega)) y⟩
    | succ j ih =>
      intro m g M1 hm F s1 c1 h3 ha
      refine u_Seen_leastHeeled_13 ?_
      rw [s1.1.1, hall]
      refine ⟨fun y => absurd ((n_ltI (by omega) (by omega)).mp y) (by omega), fun _ => ?_⟩
      refine x_wears s1 c1 h3 (by omega) (fun M2 f2 s2 c2 => ?_)
      have F2 : fr qK M M2 := F.q f2 (fun _ h => h)
      refine u_Seen_leastHeeled_26 ⟨fun _ => ?_, fun y => absurd (by rw [s2.1.1]; exact nI_le (Nat.le_refl _) (by omega)) y⟩
      rw [s2.1.1, sI_all (by omega)]
      refine s_again (C := ein n) (by omega) c2.1 c2.2 (fun M3 f3 g3 l3 => u_Seen_leastHeeled_107 ?_)
      have F3 : fr qK M M3 := F2.q f3
      refine x_unlike (row := row) (m := k0) (by omega) (s2.keep (fr.rf.q f3)) (hst_ok hx.2.2.1) g3 l3 h0 hk0 (by rw [F3.i 23]; exact h23) (by rw [F3.i 24]; exact h24) (fun i hi => by rw [F3.l 25]; exact hrow i hi) (fun M4 f4 s4 c4 => ?_)
      have F4 : fr qK M M4 := F3.q f4 (fun _ h => h)
      refine u_Seen_leastHeeled_112 ⟨fun y => ?_, fun y => ?_⟩
      · rw [nI_1]
        refine ih (m + 1) (hst f m) M4 (by omega) F4 s4 c4 (fun a b ha => hst_n ha) (fun e h1 h2 => ?_)
        by_cases q : e = m
        · subst q
          unfold hok
          cases z : unl T n (hst f e) (ein n) row k0 0 with
          | none => exact absurd ((unl_2 hk0).mpr z) y
          | some a => rfl
        · exact ha e h1 (by omega)
      · have hz : hok T n f row k0 m ≠ none := by
          unfold hok
          rw [(unl_2 hk0).mp y]
          intro q; cases q
        have eK : some m = K := spL.uq (K := some m) (K' := K) ⟨Nat.zero_le _, by omega, hz, ha⟩ hK
        subst eK
        exact kk M4 F4
  refine t_Seen_leastHeeled (x_bg (by omega) hx (fun M1 f1 s1 g1 _ => u_Seen_leastHeeled_11 ?_))
  exact loop B 0 f M1 (by omega) f1 s1 ⟨g1.cr, g1.cc⟩ (fun _ _ _ => rfl) (fun e _ h => by omega)
theorem m_wears (hd : 2 ≤ d) (hr : rS n g T M) (hf : okP n f) (h3 : not3 f g) (hm : m < 2 ^ 15) (h52 : ∀ q, q < n → M.1 52 q = nI (f 3 q)) (kk : ∀ M', fs rK rJ M M' → rS n (hst f m) T M' → M'.1 52 = M.1 52 → Q none M') : am_Call (gG L xs) d c_Md_wears [.ref 40, .int (nI m)] M Q := by
  obtain ⟨d, rfl⟩ : ∃ a, d = a + 2 := ⟨d - 2, by omega⟩
  have hn := hr.2.2.2.2.2
  have loop : ∀ j q (M1 : AM), q + j = n → fs rK rJ M M1 → rS n (bk (hst f m) g 3 q) T M1 → M1.1 52 = M.1 52 → v_Md_wears L xs (d + 1) Q 2 [(0, .ref 40), (1, .int (nI m)), (2, .int (nI q))] [] M1 := by
    intro j
    induction j with
    | zero =>
      intro q M1 hq F s1 k52
      have : q = n := by omega
      subst this
      exact u_Md_wears_2 ⟨fun _ => kk M1 F (s1.congr (fun a b ha hb => bk_n (fun a b ha => by rw [h3 a b ha, hst_n ha]) a b hb)) k52, fun y => absurd (by rw [s1.1]; exact nI_le (Nat.le_refl _) (by omega)) y⟩
    | succ j ih =>
      intro q M1 hq F s1 k52
      have hqn : q < n := by omega
      have hb3 := (hf q hqn).2.2.2.2.2.1
      have R := ih (q + 1) (am_wi M1 41 (5 * q + 3) (nI (hst f m 3 q))) (by omega) (F.c (by decide) (by decide)) (by
        have := s1.up (w := 3) (p := q) (v := hst f m 3 q) (by decide) hqn (okV3 (hst_le hb3))
        rw [bk_up] at this
        exact this) (by rw [wi_ne (by decide)]; exact k52)
      rw [← nI_1] at R
      refine u_Md_wears_2 ⟨fun y => absurd y (by rw [s1.1]; exact nI_ge hqn (by omega)), fun _ => ⟨(n_vp (by omega)).mpr (by omega), ?_⟩⟩
      rw [show (5 : Int32) * nI q + 3 = nI (5 * q + 3) from (q5 q).2.2.2.1, n_cl (show 5 * q + 3 < 2 ^ 31 by omega), n_cl (show q < 2 ^ 31 by omega), k52, h52 q hqn, n_bit (by omega) (by omega), show nI (f 3 q) + 0 = nI (f 3 q + 0) from nI_add _ 0, show nI (f 3 q) + 10 = nI (f 3 q + 10) from nI_add _ 10]
      have v5 : vp_in (nI (5 * q + 3)) 75 := (n_vp (by omega)).mpr (by omega)
      refine ⟨fun y => ⟨fun _ => ⟨v5, ?_⟩, fun z => absurd ((n_leI (b := 20) (by omega) (by decide)).mpr (by omega)) z⟩, fun y => ⟨fun z => ⟨v5, ?_⟩, fun z => ⟨v5, ?_⟩⟩⟩
      · rw [hst3, if_neg (fun q => y (b2i_1.mpr q))] at R
        exact R
      · have hz : f 3 q + 10 ≤ 20 := (n_leI (b := 20) (by omega) (by decide)).mp z
        rw [hst3, if_pos (b2i_1.mp y), Nat.min_eq_right hz] at R
        exact R
      · have hz : ¬ f 3 q + 10 ≤ 20 := fun q => z ((n_leI (b := 20) (by omega) (by decide)).mpr q)
        rw [hst3, if_pos (b2i_1.mp y), Nat.min_eq_left (by omega)] at R
        exact R
  exact t_Md_wears (loop n 0 M (by omega) fs.rf (by rw [bk_0]; exact hr) rfl)
theorem m_heeled {K : Option Nat} (hd : 76 ≤ d) (hr : rS n f T M) (hn8 : n ≤ 8) (h0 : s0 < 6) (hk0 : k0 ≤ 60) (h58 : M.1 58 s0 = nI k0) (hrow : ∀ i, i < k0 → M.2 59 (60 * s0 + i) = row i) (hK : spL (hok T n f row k0) 0 (2 ^ n) K) (kk : ∀ M', fs rK rJ M M' → rS n f T M' → Q (some (.int (oI K))) M') : v_Md_heeled L xs d Q 28 [(0, .ref 40), (1, .int (nI s0)), (2, .int 0)] [] M := by
  have hn := hr.2.2.2.2.2
  have hf := hr.2.2.2.2.1
  have hB : 2 ^ n ≤ 256 := Nat.pow_le_pow_right (n := 2) (by decide) hn8
  have hB0 : 0 < 2 ^ n := Nat.two_pow_pos n
  have hall := n_all (n := n) (by omega)
  obtain ⟨B, hBe⟩ : ∃ B, B = 2 ^ n := ⟨_, rfl⟩
  rw [← hBe] at hB hB0 hall hK
  have main : ∀ m g (M1 : AM) (K1 : Option Nat), m ≤ B → fs rK rJ M M1 → rS n g T M1 → not3 f g → (∀ q, q < n → M1.1 52 q = nI (f 3 q)) → spL (hok T n f row k0) m B K1 → v_Md_heeled L xs d Q 70 [(0, .ref 40), (1, .int (nI s0)), (2, .int (oI K1)), (3, .int (nI m + (-1)))] [] M1 := by
    intro m
    induction m with
    | zero =>
      intro g M1 K1 hm F s1 h3 h52 hK1
      have eK := hK1.uq hK
      subst eK
      refine u_Md_heeled_70 ⟨fun _ => m_wears (m := 0) (by omega) s1 hf h3 (by decide) h52 (fun M2 f2 s2 _ => u_Md_heeled_110 (kk M2 (F.tt f2) (s2.congr (fun a b _ _ => hst_0)))), fun y => absurd (by decide) y⟩
    | succ m ih =>
      intro g M1 K1 hm F s1 h3 h52 hK1
      rw [n_m1p]
      refine u_Md_heeled_70 ⟨fun y => absurd y (nI_pos (by omega)), fun _ => m_wears (m := m) (by omega) s1 hf h3 (by omega) h52 (fun M2 f2 s2 k2 => u_Md_heeled_79 ?_)⟩
      refine m_bg (by omega) s2 (fun M3 f3 s3 g3 l3 => u_Md_heeled_83 ?_)
      have F3 : fs rK rJ M M3 := (F.tt f2).tt (f3.to (by decide) (by decide))
      refine m_unlike (row := row) (m := k0) (by omega) s3 g3 l3 h0 hk0 (by rw [F3.i 58]; exact h58) (fun i hi => by rw [F3.2.2 59 (by decide)]; exact hrow i hi) (fun M4 f4 s4 => ?_)
      have F4 : fs rK rJ M M4 := F3.tt (f4.to (by decide) (by decide))
      have R := fun K2 h => ih (hst f m) M4 K2 (by omega) F4 s4 (fun a b ha => hst_n ha) (fun q hq => by rw [f4.i 52, f3.i 52, k2]; exact h52 q hq) h
      refine u_Md_heeled_88 ⟨fun y => ?_, fun y => ?_⟩
      · refine R K1 (hK1.dn0 ?_)
        unfold hok
        cases z : unl T n (hst f m) (ein n) row k0 0 with
        | none => exact absurd ((unl_2 hk0).mpr z) y
        | some a => rfl
      · refine R (some m) (spL.dn1 (by omega) ?_)
        unfold hok
        rw [(unl_2 hk0).mp y]
        intro q; cases q
  have loop : ∀ j q (M1 : AM), q + j = n → fs rK rJ M M1 → rS n f T M1 → (∀ i, i < q → M1.1 52 i = nI (f 3 i)) → v_Md_heeled L xs d Q 28 [(0, .ref 40), (1, .int (nI s0)), (2, .int (nI q))] [] M1 := by
    intro j
    induction j with
    | zero =>
      intro q M1 hq F s1 h52
      have : q = n := by omega
      subst this
      have W := main B f M1 none (Nat.le_refl _) F s1 (fun _ _ _ => rfl) h52 (fun e h1 h2 => by omega)
      obtain ⟨B1, rfl⟩ : ∃ a, B = a + 1 := ⟨B - 1, by omega⟩
      rw [n_m1p] at W
      refine u_Md_heeled_28 ⟨fun _ => ?_, fun z => absurd (by rw [s1.1]; exact nI_le (Nat.le_refl _) (by omega)) z⟩
      rw [s1.1, hall]
      exact W
    | succ j ih =>
      intro q M1 hq F s1 h52
      have hqn : q < n := by omega
      have q3 : vp_in ((5 : Int32) * nI q + 3) 75 ∧ M1.1 41 (((5 : Int32) * nI q + 3).toNatClampNeg) = nI (f 3 q) := s1.2.1.at 3 (by decide) hqn
      refine u_Md_heeled_28 ⟨fun z => absurd z (by rw [s1.1]; exact nI_ge hqn (by omega)), fun _ => ⟨q3.1, (n_vp (by omega)).mpr (by omega), ?_⟩⟩
      rw [q3.2, n_cl (show q < 2 ^ 31 by omega), nI_1]
      refine ih (q + 1) _ (by omega) (F.c (by decide) (by decide)) (s1.of (wi_ne (by decide)) (wi_ne (by decide)) (wi_ne (by decide))) (fun i hi => ?_)
      rw [wi_rd, if_pos rfl]
      by_cases z : i = q
      · rw [if_pos z, z]
      · rw [if_neg z]; exact h52 i (by omega)
  exact loop n 0 M (by omega) fs.rf hr (fun i hi => by omega)
theorem j_heeled (hI : Inv M) (hd : 100 ≤ d) : Jn L xs d c_Mo_heeled c_Md_heeled [.ref 0, .int x1] [.ref 40, .int x1] M := by
  have hI0 := hI
  obtain ⟨n, f, T, bn, hP, hL, hT, hC, hD, hA, hS, h23⟩ := hI
  have hx : xS n f T M := ⟨hP.1, hL.1, hP.2.2.2.1, hP.2.2.1⟩
  have hr : rS n f T M := ⟨hP.2.2.2.2.1, hP.2.2.2.2.2, hL.2, h23, hP.2.2.2.1, hP.2.2.1⟩
  have hn := hx.2.2.2
  obtain ⟨d, rfl⟩ : ∃ a, d = a + 9 := ⟨d - 9, by omega⟩
  have hbn := hA.1
  by_cases hv : 0 ≤ x1.toInt ∧ x1.toInt < 6
  · obtain ⟨v1, v2⟩ := hv
    obtain ⟨s0, rfl, hk, -⟩ := n_ofI v1
    have hs0 : s0 < 6 := by omega
    have ts : (nI s0).toInt = (s0 : Int) := nI_toInt (by omega)
    have g5 : ¬ 0 < lg_cmp (Int32.toInt64 (nI s0)) 5 := fun z => by
      ((try simp only [lg_cmp_lt, lg_cmp_gt] at z); simp (disch := omega) only [ts, Int64.lt_iff_toInt_lt, Int32.toInt_toInt64, Int64.reduceToInt, ← Int32.toInt_inj, Int32.lt_iff_toInt_lt, Int32.le_iff_toInt_le, Int32.reduceToInt, nI_toInt, false_implies, true_implies, and_true, true_and, not_true_eq_false, not_false_eq_true, forall_const, implies_true, false_and, and_false, true_or, or_true, eq_self] at z)
      omega
    have cx : ∀ (Q : AQ), ((¬ (M.1 22 s0) = (-1) → (¬ (M.1 23 s0) = (0 : Int32) → Q (some (.int (-12 : Int32))) M) ∧ ((M.1 23 s0) = (0 : Int32) → ((M.1 1 1) ≤ 8 → am_Call (gG L xs) (d + 8) c_Seen_leastHeeled [.ref 26, .int (nI s0)] M (fun r M' => v_Mo_heeled L xs (d + 8) Q 35 [] (r.toList ++ []) M')) ∧ (¬ (M.1 1 1) ≤ 8 → Q (some (.int (-5))) M))) ∧ ((M.1 22 s0) = (-1) → (¬ (M.1 23 s0) = (-1) → (¬ (M.1 23 s0) = (0 : Int32) → Q (some (.int (-12 : Int32))) M) ∧ ((M.1 23 s0) = (0 : Int32) → ((M.1 1 1) ≤ 8 → am_Call (gG L xs) (d + 8) c_Seen_leastHeeled [.ref 26, .int (nI s0)] M (fun r M' => v_Mo_heeled L xs (d + 8) Q 35 [] (r.toList ++ []) M')) ∧ (¬ (M.1 1 1) ≤ 8 → Q (some (.int (-5))) M))) ∧ ((M.1 23 s0) = (-1) → Q (some (.int (-11 : Int32))) M))) → am_Call (gG L xs) (d + 9) c_Mo_heeled [.ref 0, .int (nI s0)] M Q := by
      intro Q W
      refine t_Mo_heeled ?_
      rw [n_cl (show s0 < 2 ^ 31 by omega)]
      exact ⟨fun z => absurd z (nI_pos (by omega)), fun _ => ⟨fun z => absurd ((n_leI (a := 6) (by decide) (by omega)).mp z) (by omega), fun _ => ⟨(n_vp (by omega)).mpr (by omega), W⟩⟩⟩
    have cm : ∀ (Q : AQ) (M1 : AM), ((0 ≤ (M1.1 57 s0) → (¬ (M1.1 57 s0) = 50 → Q (some (.int (-12 : Int32))) M1) ∧ ((M1.1 57 s0) = 50 → ((M1.1 40 6) ≤ 8 → v_Md_heeled L xs (d + 8) Q 28 [(0, .ref 40), (1, .int (nI s0)), (2, .int 0)] [] M1) ∧ (¬ (M1.1 40 6) ≤ 8 → Q (some (.int (-5))) M1))) ∧ (¬ 0 ≤ (M1.1 57 s0) → Q (some (.int (-11 : Int32))) M1)) → am_Call (gG L xs) (d + 9) c_Md_heeled [.ref 40, .int (nI s0)] M1 Q := by
      intro Q M1 W
      refine t_Md_heeled ?_
      rw [n_cl (show s0 < 2 ^ 31 by omega)]
      exact ⟨fun z => absurd z (g_nn (by omega)), fun _ => ⟨fun z => absurd z g5, fun _ => ⟨Or.inr rfl, (n_vp (by omega)).mpr (by omega), W⟩⟩⟩
    rcases hS s0 hs0 with ⟨e57, e22, e23⟩ | ⟨b, hb, e57, e22, e23⟩ | ⟨s, k0, hs, hk0, e57, e22, e23, e24, e58, hrow⟩
    · refine Jn.no (-11) hI0 (fun Q k => cx Q ?_) (fun Q k => cm Q M ?_)
      · rw [e22, e23]
        exact ⟨fun z => absurd rfl z, fun _ => ⟨fun z => absurd rfl z, fun _ => k⟩⟩
      · rw [e57]
        exact ⟨fun z => absurd z (by decide), fun _ => k⟩
    · have n1 : ¬ nI b = -1 := fun z => absurd (show nI b < 0 by rw [z]; decide) (nI_pos (by omega))
      refine Jn.no (-12) hI0 (fun Q k => cx Q ?_) (fun Q k => cm Q M ?_)
      · rw [e22, e23]
        exact ⟨fun _ => ⟨fun _ => k, fun z => absurd z (by decide)⟩, fun z => absurd z n1⟩
      · rw [e57]
        exact ⟨fun _ => ⟨fun _ => k, fun z => absurd ((nI_eq (b := 50) (by omega) (by decide)).mp z) (by omega)⟩, fun z => absurd (nI_pos' (by omega)) z⟩
    · have n1 : ¬ nI s = -1 := fun z => absurd (show nI s < 0 by rw [z]; decide) (nI_pos (by omega))
      by_cases hs1 : s = 0
      · subst hs1
        have e8 : nI n ≤ 8 ↔ n ≤ 8 := n_leI (b := 8) (by omega) (by decide)
        by_cases hn8 : n ≤ 8
        · obtain ⟨K, hK⟩ := spL.ex (a := hok T n f (fun i => M.2 59 (60 * s0 + i)) k0) (lo := 0) (2 ^ n) (Nat.zero_le _)
          refine Jn.of2 (v := oI K) (P := fr qK M) (fun Q k => cx Q ?_) (fun M1 F Q k => cm Q M1 ?_)
          · have X := x_heeled (L := L) (xs := xs) (d := d + 8) (row := fun i => M.2 59 (60 * s0 + i)) (Q := fun r M' => v_Mo_heeled L xs (d + 8) Q 35 [] (r.toList ++ []) M') (by omega) hx hn8 hs0 hk0 e23 e24 (fun i hi => (hrow i hi).1) hK (fun M1 f1 => u_Mo_heeled_35 (k _ f1))
            rw [e22, e23, hx.1.1, e8]
            exact ⟨fun z => absurd rfl z, fun _ => ⟨fun _ => ⟨fun z => absurd rfl z, fun _ => ⟨fun _ => X, fun z => absurd hn8 z⟩⟩, fun z => absurd z n1⟩⟩
          · have s1 := hr.x F
            have X := m_heeled (L := L) (xs := xs) (d := d + 8) (row := fun i => M.2 59 (60 * s0 + i)) (Q := Q) (by omega) s1 hn8 hs0 hk0 (by rw [F.i 58]; exact e58) (fun i hi => by rw [F.l 59]) hK (fun M2 f2 s2 => k _ (hI0.q3 hr F f2 s2))
            rw [F.i 57, e57]
            refine ⟨fun _ => ⟨fun z => absurd rfl z, fun _ => ⟨fun _ => X, fun z => absurd (by rw [s1.1]; exact e8.mpr hn8) z⟩⟩, fun z => absurd (nI_pos' (by omega)) z⟩
        · refine Jn.no (-5) hI0 (fun Q k => cx Q ?_) (fun Q k => cm Q M ?_)
          · rw [e22, e23, hx.1.1, e8]
            exact ⟨fun z => absurd rfl z, fun _ => ⟨fun _ => ⟨fun z => absurd rfl z, fun _ => ⟨fun z => absurd z hn8, fun _ => k⟩⟩, fun z => absurd z n1⟩⟩
          · rw [e57]
            exact ⟨fun _ => ⟨fun z => absurd rfl z, fun _ => ⟨fun z => absurd (e8.mp (by rw [← hr.1]; exact z)) hn8, fun _ => k⟩⟩, fun z => absurd (nI_pos' (by omega)) z⟩
      · have ns : ¬ nI s = 0 := fun z => hs1 ((nI_eq (b := 0) (by omega) (by decide)).mp z)
        refine Jn.no (-12) hI0 (fun Q k => cx Q ?_) (fun Q k => cm Q M ?_)
        · rw [e22, e23]
          exact ⟨fun z => absurd rfl z, fun _ => ⟨fun _ => ⟨fun _ => k, fun z => absurd z ns⟩, fun z => absurd z n1⟩⟩
        · rw [e57]
          exact ⟨fun _ => ⟨fun _ => k, fun z => absurd ((nI_eq (b := 50) (by omega) (by decide)).mp z) (by omega)⟩, fun z => absurd (nI_pos' (by omega)) z⟩
  · refine Jn.no (-1) hI0 (fun Q k => ?_) (fun Q k => ?_)
    · refine t_Mo_heeled ?_
      ((try simp only [lg_cmp_lt, lg_cmp_gt]); simp (disch := omega) only [Int64.lt_iff_toInt_lt, Int32.toInt_toInt64, Int64.reduceToInt, ← Int32.toInt_inj, Int32.lt_iff_toInt_lt, Int32.le_iff_toInt_le, Int32.reduceToInt, nI_toInt, false_implies, true_implies, and_true, true_and, not_true_eq_false, not_false_eq_true, forall_const, implies_true, false_and, and_false, true_or, or_true, eq_self])
      repeat' (first | (with_reducible refine And.intro ?_ ?_) | (with_reducible intro h; first | (exfalso; omega) | contradiction | skip))
      all_goals first | exact k | (exfalso; omega)
    · refine t_Md_heeled ?_
      ((try simp only [lg_cmp_lt, lg_cmp_gt]); simp (disch := omega) only [Int64.lt_iff_toInt_lt, Int32.toInt_toInt64, Int64.reduceToInt, ← Int32.toInt_inj, Int32.lt_iff_toInt_lt, Int32.le_iff_toInt_le, Int32.reduceToInt, nI_toInt, false_implies, true_implies, and_true, true_and, not_true_eq_false, not_false_eq_true, forall_const, implies_true, false_and, and_false, true_or, or_true, eq_self])
      repeat' (first | (with_reducible refine And.intro ?_ ?_) | (with_reducible intro h; first | (exfalso; omega) | contradiction | skip))
      all_goals first | exact k | (exfalso; omega)
end E35
