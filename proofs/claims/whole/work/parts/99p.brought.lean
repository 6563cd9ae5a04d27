section E40
variable {L : Nat} {xs : Nat → Int32} {d : Nat} {Q : AQ} {M M0 M1 M2 : AM} {n N k0 p e v w r q s k m o hi h h' b j : Nat} {f g : Nat → Nat → Nat} {io : Nat → Option Nat} {C G : Nat → Bool} {T : PV} {x1 x2 x3 z : Int32}
theorem oI_2 {o : Option Nat} (ho : ∀ a, o = some a → a < 2 ^ 20) : oI o = -2 ↔ o = none := oI_eq (fun a z => by have := ho a z; omega)
theorem brV_s (hb : b ≤ 3) (hh : h ≤ 220) (K : Q (some (.int (brV w (some (b, h))))) M) (hw : w < 2) : (¬ nI w = 0 → (¬ nI b = 0 → Q (some (.int (nI h))) M) ∧ (nI b = 0 → Q (some (.int 0)) M)) ∧ (nI w = 0 → Q (some (.int (nI b))) M) := by
  have w0 : nI w = 0 ↔ w = 0 := nI_eq (b := 0) (by omega) (by decide)
  have b0 : nI b = 0 ↔ b = 0 := nI_eq (b := 0) (by omega) (by decide)
  have K2 : Q (some (.int (if w = 0 then nI b else if b = 0 then 0 else nI h))) M := K
  refine ⟨fun y => ⟨fun z => ?_, fun z => ?_⟩, fun y => ?_⟩
  · rw [if_neg (fun q => y (w0.mpr q)), if_neg (fun q => z (b0.mpr q))] at K2; exact K2
  · rw [if_neg (fun q => y (w0.mpr q)), if_pos (b0.mp z)] at K2; exact K2
  · rw [if_pos (w0.mp y)] at K2; exact K2
theorem x_brought (hd : 13 ≤ d) (hx : xS n f T M) (hk : k < n) (hs : s ≤ 99) (hw : w < 2) (kk : ∀ M', fr qK M M' → Q (some (.int (brV w (brg (hob T n f s k (dgo T n f (ein n) noG 5 s)) 4 0)))) M') : am_Call (gG L xs) d c_Wishes_boysFor [.ref 20, .int (nI k), .int (nI s), .int (nI w)] M Q := by
  obtain ⟨d, rfl⟩ : ∃ a, d = a + 3 := ⟨d - 3, by omega⟩
  have hn := hx.2.2.2
  obtain ⟨io, hio⟩ : ∃ io, io = dgo T n f (ein n) noG 5 s := ⟨_, rfl⟩
  have hio2 : ∀ p, n ≤ p → io p = none := fun p hp => by rw [hio]; exact dgo_out hp
  have hioB : ∀ p a, io p = some a → a < 2 ^ 20 := by rw [hio]; exact dgo_ioB (by omega)
  rw [← hio] at kk
  have loop : ∀ j b (M1 : AM), b + j = 4 → fr qK M M1 → xS n f T M1 → M1.1 15 3 = sI (fun p => ein n p && (io p).isNone) → bS n f M1 → brg (hob T n f s k io) j b = brg (hob T n f s k io) 4 0 → v_Wishes_boysFor L xs (d + 2) Q 40 [(0, .ref 20), (1, .int (nI k)), (2, .int (nI s)), (3, .int (nI w)), (4, .int (nI b))] [] M1 := by
    intro j
    induction j with
    | zero =>
      intro b M1 hb F s1 h15 c1 ha
      have K := kk M1 F
      rw [← ha] at K
      exact u_Wishes_boysFor_40 ⟨fun _ => K, fun z => absurd ((n_ltI (a := 3) (by decide) (by omega)).mpr (by omega)) z⟩
    | succ j ih =>
      intro b M1 hb F s1 h15 c1 ha
      refine u_Wishes_boysFor_40 ⟨fun z => absurd ((n_ltI (a := 3) (by decide) (by omega)).mp z) (by omega), fun _ => ?_⟩
      refine x_hob (by omega) s1 hk hs (by omega) hio2 h15 c1 (fun M2 f2 c2 => ?_)
      have F2 : fr qK M M2 := F.q f2
      cases z : hob T n f s k io b with
      | none =>
        rw [brg_n z] at ha
        refine u_Wishes_boysFor_54 ⟨fun y => absurd rfl y, fun _ => ?_⟩
        rw [nI_1]
        exact ih (b + 1) M2 (by omega) F2 (s1.kp f2) (by rw [f2.i 15]; exact h15) c2 ha
      | some h =>
        have hh := hob_b z
        rw [brg_s z] at ha
        have K := kk M2 F2
        rw [← ha] at K
        exact u_Wishes_boysFor_54 ⟨fun _ => brV_s (by omega) hh.2 K hw, fun y => absurd y (n2_ne (show h < 2 ^ 31 by omega))⟩
  refine t_Wishes_boysFor (x_bg (by omega) hx (fun M1 f1 s1 g1 l1 => u_Wishes_boysFor_11 (x_runs (pl := 5) (by omega) s1 g1 (by omega) (by decide) l1 (fun M2 f2 s2 g2 l2 => ?_))))
  rw [← hio] at g2 ⊢
  have F2 : fr qK M M2 := f1.q f2 (fun _ h => h)
  have W := loop 4 0 M2 (by omega) F2 s2 g2.2.2.1 ⟨n, f, Nat.le_refl _, g2.cr, g2.cc, fun _ _ _ _ => rfl⟩ rfl
  refine u_Wishes_boysFor_20 ⟨fun _ => W, fun _ => ⟨fun _ => W, fun _ => ⟨(n_vp (by omega)).mpr (by omega), ?_⟩⟩⟩
  rw [n_cl (show k < 2 ^ 31 by omega), g2.2.2.2.2 k (by omega), oI_2 (hioB k)]
  refine ⟨fun _ => W, fun z => ?_⟩
  have K := kk M2 F2
  rw [brg_no (hb := hob T n f s k io) (fun b => fH_no (fun h => hit_in z) _ _)] at K
  exact K
theorem m_try (hd : 75 ≤ d) (hr : rS n f T M) (hk : k < n) (hs : s ≤ 99) (hb : b ≤ 3) (hh : 100 ≤ h ∧ h ≤ 220) (no : ∀ M', fs rK rJ M M' → rS n f T M' → hit T n f s k (dgo T n f (ein n) noG 5 s) b h = false → v_Md_brought L xs (d + 1) Q 46 [(0, .ref 40), (1, .int (nI k)), (2, .int (nI s)), (3, .int (nI w)), (4, .int (nI b)), (5, .int (nI h + 1))] [] M')
    (yes : ∀ M', fs rK rJ M M' → rS n f T M' → hit T n f s k (dgo T n f (ein n) noG 5 s) b h = true → (¬ nI w = 0 → (¬ nI b = 0 → Q (some (.int (nI h))) M') ∧ (nI b = 0 → Q (some (.int 0)) M')) ∧ (nI w = 0 → Q (some (.int (nI b))) M')) : am_Call (gG L xs) (d + 1) c_Md_begins1 [.ref 40] M (fun rr M' => v_Md_brought L xs (d + 1) Q 70 [(0, .ref 40), (1, .int (nI k)), (2, .int (nI s)), (3, .int (nI w)), (4, .int (nI b)), (5, .int (nI h))] (rr.toList ++ []) M') := by
  have hn := hr.2.2.2.2.2
  have hf := hr.2.2.2.2.1
  obtain ⟨io, hio⟩ : ∃ io, io = dgo T n f (ein n) noG 5 s := ⟨_, rfl⟩
  have hioB : ioB io := by rw [hio]; exact dgo_ioB (by omega)
  rw [← hio] at no yes
  refine m_bg (by omega) hr (fun M2 f2 s2 g2 l2 => u_Md_brought_70 (m_go (k0 := s) (by omega) s2 g2 (by omega) l2 (fun M3 f3 s3 g3 l3 => u_Md_brought_75 ?_)))
  rw [← hio] at g3
  have F3 : fs rK rJ M M3 := (f2.tt f3).to (by decide) (by decide)
  have hdl := dlg_le (T := T) (N := n) (f := f) (C := ein n) (G := noG) (pl := 5) s
  have puts : ∀ j q (M4 : AM), q + j = b → fs [41] [] M3 M4 → pM (n + q) (bff f n s h q) M4 → v_Md_brought L xs (d + 1) Q 78 [(0, .ref 40), (1, .int (nI k)), (2, .int (nI s)), (3, .int (nI w)), (4, .int (nI b)), (5, .int (nI h)), (6, .int (nI q))] [] M4 := by
    intro j
    induction j with
    | zero =>
      intro q M4 hq f4 p4
      have eqb : q = b := by omega
      subst eqb
      refine u_Md_brought_78 ⟨fun _ => ?_, fun z => absurd (nI_le (Nat.le_refl _) (by omega)) z⟩
      obtain ⟨-, -, -, ⟨C0, g4, g4'⟩, ⟨G0, g5, g5'⟩, -, g7⟩ := g3
      have X : dayM n q (bff f n s h q) (ein (n + q)) noG io (am_wi M4 40 22 (nI q)) := by
        refine ⟨by rw [wi_sl (by decide), f4.j 6]; exact s3.1, wi_eq, p4.keep (wi_ne (by decide)), ⟨C0, by rw [wi_sl (by decide), f4.j 20]; exact g4, fun p hp => ?_⟩, ⟨G0, by rw [wi_sl (by decide), f4.j 21]; exact g5, g5'⟩, fun p h1 h2 => ⟨?_, rfl⟩, fun p hp => by rw [wi_ne (by decide), f4.i 49]; exact g7 p hp⟩
        · rw [g4' p hp]
          show decide (p < n) = decide (p < n + q)
          rw [decide_eq_true hp, decide_eq_true (by omega)]
        · show decide (p < n + q) = true
          exact decide_eq_true h2
      refine m_strokes (T := T) (pl := 5) (by omega) X (bff_ok hf hh hs q) (s3.2.2.1.keep (by rw [wi_sl (by decide), f4.j 13]) (by rw [wi_ne (by decide), f4.i 47])) (by omega) hioB (by decide) (by rw [wi_sl (by decide), f4.j 23]; exact s3.2.2.2.1) (by rw [wi_sl (by decide), f4.j 28]; exact l3) (by omega) (fun M5 f5 x5 e5 => ?_)
      rw [noG_w, brW_h]
      have F5 : fs rK rJ M M5 := ((F3.tt (f4.to (by decide) (by decide))).s (by decide)).tt (f5.to (by decide) (by decide))
      have s5 : rS n f T M5 := by
        refine ⟨by rw [f5.j 6, wi_sl (by decide), f4.j 6]; exact s3.1, ⟨by omega, fun w p hw hp => ?_⟩, s3.2.2.1.keep (by rw [f5.j 13, wi_sl (by decide), f4.j 13]) (by rw [f5.i 47, wi_ne (by decide), f4.i 47]), by rw [f5.j 23, wi_sl (by decide), f4.j 23]; exact s3.2.2.2.1, hf, hn⟩
        rw [f5.i 41, wi_ne (by decide), p4.2 w p hw (by omega), bff_lt hp]
      have eq : oI (pck T (bff f n s h q) s 5 (n + q) (brW n f s q io)) = nI k ↔ pck T (bff f n s h q) s 5 (n + q) (brW n f s q io) = some k := by
        cases z : pck T (bff f n s h q) s 5 (n + q) (brW n f s q io) with
        | none => exact ⟨fun y => absurd (show nI k < 0 by rw [← y]; decide) (nI_pos (by omega)), fun y => by cases y⟩
        | some a =>
          have ha := (pck_some z).1
          exact ⟨fun y => by rw [(nI_eq (a := a) (by omega) (by omega)).mp y], fun y => by cases y; rfl⟩
      refine u_Md_brought_117 ⟨fun z => no M5 F5 s5 ?_, fun z => yes M5 F5 s5 ?_⟩
      · unfold hit; exact decide_eq_false (fun y => z (eq.mpr y))
      · unfold hit; exact decide_eq_true (eq.mp z)
    | succ j ih =>
      intro q M4 hq f4 p4
      refine u_Md_brought_78 ⟨fun z => absurd ((n_leI (by omega) (by omega)).mp z) (by omega), fun _ => ?_⟩
      have R := ih (q + 1) _ (by omega) (((((f4.c (by decide) (by decide)).c (by decide) (by decide)).c (by decide) (by decide)).c (by decide) (by decide)).c (by decide) (by decide)) (p4.new (a := h) (b := s) (e := 1) (by omega))
      rw [f4.j 6, s3.1, nI_add, nI_1, (q5 (n + q)).1, (q5 (n + q)).2.1, (q5 (n + q)).2.2.1, (q5 (n + q)).2.2.2.1, (q5 (n + q)).2.2.2.2, n_cl (show 5 * (n + q) + 0 < 2 ^ 31 by omega), n_cl (show 5 * (n + q) + 1 < 2 ^ 31 by omega), n_cl (show 5 * (n + q) + 2 < 2 ^ 31 by omega), n_cl (show 5 * (n + q) + 3 < 2 ^ 31 by omega), n_cl (show 5 * (n + q) + 4 < 2 ^ 31 by omega)]
      exact ⟨(n_vp (by omega)).mpr (by omega), (n_vp (by omega)).mpr (by omega), (n_vp (by omega)).mpr (by omega), (n_vp (by omega)).mpr (by omega), (n_vp (by omega)).mpr (by omega), R⟩
  exact puts b 0 M3 (by omega) fs.rf s3.2.1
theorem m_brought (hd : 75 ≤ d) (hr : rS n f T M) (hk : k < n) (hs : s ≤ 99) (hw : w < 2) (kk : ∀ M', fs rK rJ M M' → rS n f T M' → Q (some (.int (brV w (brg (hob T n f s k (dgo T n f (ein n) noG 5 s)) 4 0)))) M') : v_Md_brought L xs (d + 1) Q 36 [(0, .ref 40), (1, .int (nI k)), (2, .int (nI s)), (3, .int (nI w)), (4, .int 0)] [] M := by
  obtain ⟨ob, hob'⟩ : ∃ ob, ob = hob T n f s k (dgo T n f (ein n) noG 5 s) := ⟨_, rfl⟩
  rw [← hob'] at kk
  have loop : ∀ j b (M1 : AM), b + j = 4 → fs rK rJ M M1 → rS n f T M1 → brg ob j b = brg ob 4 0 → v_Md_brought L xs (d + 1) Q 36 [(0, .ref 40), (1, .int (nI k)), (2, .int (nI s)), (3, .int (nI w)), (4, .int (nI b))] [] M1 := by
    intro j
    induction j with
    | zero =>
      intro b M1 hb F s1 ha
      have K := kk M1 F s1
      rw [← ha] at K
      exact u_Md_brought_36 ⟨fun _ => K, fun z => absurd ((n_ltI (a := 3) (by decide) (by omega)).mpr (by omega)) z⟩
    | succ j ih =>
      intro b M1 hb F s1 ha
      have b0 : 0 < nI b ↔ 0 < b := n_ltI (a := 0) (by decide) (by omega)
      refine u_Md_brought_36 ⟨fun z => absurd ((n_ltI (a := 3) (by decide) (by omega)).mp z) (by omega), fun _ => ?_⟩
      have nx : ob b = none → ∀ M2, fs rK rJ M1 M2 → rS n f T M2 → v_Md_brought L xs (d + 1) Q 36 [(0, .ref 40), (1, .int (nI k)), (2, .int (nI s)), (3, .int (nI w)), (4, .int (nI b + 1))] [] M2 := fun z M2 f2 s2 => by
        rw [nI_1]
        rw [brg_n z] at ha
        exact ih (b + 1) M2 (by omega) (F.tt f2) s2 ha
      have found : ∀ h, ob b = some h → ∀ M2, fs rK rJ M1 M2 → rS n f T M2 → (¬ nI w = 0 → (¬ nI b = 0 → Q (some (.int (nI h))) M2) ∧ (nI b = 0 → Q (some (.int 0)) M2)) ∧ (nI w = 0 → Q (some (.int (nI b))) M2) := fun h z M2 f2 s2 => by
        have hh := hob_b (show hob T n f s k (dgo T n f (ein n) noG 5 s) b = some h by rw [← hob']; exact z)
        rw [brg_s z] at ha
        have K := kk M2 (F.tt f2) s2
        rw [← ha] at K
        exact brV_s (by omega) hh.2 K hw
      by_cases hb0 : b = 0
      · have eob : ob b = fH (hit T n f s k (dgo T n f (ein n) noG 5 s) b) 1 100 := by rw [hob']; unfold hob; rw [if_pos hb0]
        have hz : ¬ (0 : Int32) < nI b := fun z => by have := b0.mp z; omega
        refine u_Md_brought_46 ⟨fun z => absurd z (by decide), fun _ => ⟨fun z => absurd z hz, fun _ => ⟨fun z => absurd rfl z, fun _ => ?_⟩⟩⟩
        refine m_try (h := 100) (by omega) s1 hk hs (by omega) ⟨Nat.le_refl _, by decide⟩ (fun M2 f2 s2 z => ?_) (fun M2 f2 s2 z => ?_)
        · rw [nI_1]
          have eo : ob b = none := by
            rw [eob]; unfold fH
            rw [if_neg (by rw [z]; decide)]; rfl
          exact u_Md_brought_46 ⟨fun z => absurd z (by decide), fun _ => ⟨fun z => absurd z hz, fun _ => ⟨fun _ => nx eo M2 f2 s2, fun z => absurd z (by decide)⟩⟩⟩
        · refine found 100 ?_ M2 f2 s2
          rw [eob]; unfold fH
          rw [if_pos z]
      · have eob : ob b = fH (hit T n f s k (dgo T n f (ein n) noG 5 s) b) 121 100 := by rw [hob']; unfold hob; rw [if_neg hb0]
        have heights : ∀ j2 h (M2 : AM), h + j2 = 221 → 100 ≤ h → fs rK rJ M1 M2 → rS n f T M2 → fH (hit T n f s k (dgo T n f (ein n) noG 5 s) b) j2 h = ob b → v_Md_brought L xs (d + 1) Q 46 [(0, .ref 40), (1, .int (nI k)), (2, .int (nI s)), (3, .int (nI w)), (4, .int (nI b)), (5, .int (nI h))] [] M2 := by
          intro j2
          induction j2 with
          | zero =>
            intro h M2 hj hh f2 s2 hf2
            have : h = 221 := by omega
            subst this
            exact u_Md_brought_46 ⟨fun _ => nx hf2.symm M2 f2 s2, fun z => absurd (by decide) z⟩
          | succ j2 ih2 =>
            intro h M2 hj hh f2 s2 hf2
            unfold fH at hf2
            refine u_Md_brought_46 ⟨fun z => absurd ((n_ltI (a := 220) (by decide) (by omega)).mp z) (by omega), fun _ => ⟨fun _ => ?_, fun z => absurd (b0.mpr (by omega)) z⟩⟩
            refine m_try (h := h) (by omega) s2 hk hs (by omega) ⟨hh, by omega⟩ (fun M3 f3 s3 z => ?_) (fun M3 f3 s3 z => ?_)
            · rw [nI_1]
              rw [if_neg (by rw [z]; decide)] at hf2
              exact ih2 (h + 1) M3 (by omega) (by omega) (f2.tt f3) s3 hf2
            · rw [if_pos z] at hf2
              exact found h hf2.symm M3 (f2.tt f3) s3
        exact heights 121 100 M1 (by omega) (by omega) fs.rf s1 eob.symm
  exact loop 4 0 M (by omega) fs.rf hr rfl
theorem j_brought (hI : Inv M) (hd : 100 ≤ d) : Jn L xs d c_Mo_brought c_Md_brought [.ref 0, .int x1, .int x2, .int x3] [.ref 40, .int x1, .int x2, .int x3] M := by
  obtain ⟨n, f, T, hx, hr⟩ := hI.s
  obtain ⟨d, rfl⟩ : ∃ a, d = a + 6 := ⟨d - 6, by omega⟩
  have hn := hx.2.2.2
  have e1 := hx.1.1
  have e6 := hr.1
  have ept : (nI n - 1).toInt = (n : Int) - 1 := n_pt (by omega)
  by_cases hv : 0 ≤ x1.toInt ∧ x1.toInt < n ∧ 0 ≤ x2.toInt ∧ x2.toInt ≤ 99 ∧ 0 ≤ x3.toInt ∧ x3.toInt ≤ 1
  · obtain ⟨v1, v2, v3, v4, v5, v6⟩ := hv
    obtain ⟨k, rfl, hk, -⟩ := n_ofI v1
    obtain ⟨s, rfl, hs, -⟩ := n_ofI v3
    obtain ⟨w, rfl, hw, -⟩ := n_ofI v5
    have hkn : k < n := by omega
    have hs99 : s ≤ 99 := by omega
    have hw2 : w < 2 := by omega
    refine Jn.of2 (v := brV w (brg (hob T n f s k (dgo T n f (ein n) noG 5 s)) 4 0)) (P := fr qK M) (fun Q kk => ?_) (fun M1 F Q kk => ?_)
    · have X := x_brought (L := L) (xs := xs) (d := d + 5) (Q := fun r M' => v_Mo_brought L xs (d + 5) Q 40 [] (r.toList ++ []) M') (by omega) hx hkn hs99 hw2 (fun M1 f1 => u_Mo_brought_40 (kk _ f1))
      refine t_Mo_brought ?_
      ((try simp only [lg_cmp_lt, lg_cmp_gt]); simp (disch := omega) only [e1, Int64.lt_iff_toInt_lt, Int32.toInt_toInt64, Int64.reduceToInt, ← Int32.toInt_inj, Int32.lt_iff_toInt_lt, Int32.le_iff_toInt_le, Int32.reduceToInt, nI_toInt, false_implies, true_implies, and_true, true_and, not_true_eq_false, not_false_eq_true, forall_const, implies_true, false_and, and_false, true_or, or_true, eq_self])
      repeat' (first | (with_reducible refine And.intro ?_ ?_) | (with_reducible intro h; first | (exfalso; omega) | contradiction | skip))
      all_goals first | exact X | (exfalso; omega)
    · have s1 := hr.x F
      have e6' := s1.1
      have X := m_brought (L := L) (xs := xs) (d := d + 4) (Q := Q) (by omega) s1 hkn hs99 hw2 (fun M2 f2 s2 => kk _ (hI.q3 hr F f2 s2))
      refine t_Md_brought ?_
      ((try simp only [lg_cmp_lt, lg_cmp_gt]); simp (disch := omega) only [e6', ept, Int64.lt_iff_toInt_lt, Int32.toInt_toInt64, Int64.reduceToInt, ← Int32.toInt_inj, Int32.lt_iff_toInt_lt, Int32.le_iff_toInt_le, Int32.reduceToInt, nI_toInt, false_implies, true_implies, and_true, true_and, not_true_eq_false, not_false_eq_true, forall_const, implies_true, false_and, and_false, true_or, or_true, eq_self])
      repeat' (first | (with_reducible refine And.intro ?_ ?_) | (with_reducible intro h; first | (exfalso; omega) | contradiction | skip))
      all_goals first | exact X | (exfalso; omega)
  · refine Jn.no (-1) hI (fun Q k => ?_) (fun Q k => ?_)
    · refine t_Mo_brought ?_
      ((try simp only [lg_cmp_lt, lg_cmp_gt]); simp (disch := omega) only [e1, Int64.lt_iff_toInt_lt, Int32.toInt_toInt64, Int64.reduceToInt, ← Int32.toInt_inj, Int32.lt_iff_toInt_lt, Int32.le_iff_toInt_le, Int32.reduceToInt, nI_toInt, false_implies, true_implies, and_true, true_and, not_true_eq_false, not_false_eq_true, forall_const, implies_true, false_and, and_false, true_or, or_true, eq_self])
      repeat' (first | (with_reducible refine And.intro ?_ ?_) | (with_reducible intro h; first | (exfalso; omega) | contradiction | skip))
      all_goals first | exact k | (exfalso; omega)
    · refine t_Md_brought ?_
      ((try simp only [lg_cmp_lt, lg_cmp_gt]); simp (disch := omega) only [e6, ept, Int64.lt_iff_toInt_lt, Int32.toInt_toInt64, Int64.reduceToInt, ← Int32.toInt_inj, Int32.lt_iff_toInt_lt, Int32.le_iff_toInt_le, Int32.reduceToInt, nI_toInt, false_implies, true_implies, and_true, true_and, not_true_eq_false, not_false_eq_true, forall_const, implies_true, false_and, and_false, true_or, or_true, eq_self])
      repeat' (first | (with_reducible refine And.intro ?_ ?_) | (with_reducible intro h; first | (exfalso; omega) | contradiction | skip))
      all_goals first | exact k | (exfalso; omega)
end E40
