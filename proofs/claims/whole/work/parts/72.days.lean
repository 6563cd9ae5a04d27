/-! ===== days in thought, both sides ===== -/
def xS (n : Nat) (f : Nat → Nat → Nat) (T : PV) (M : AM) : Prop := crw 1 2 n f M ∧ lawX T M ∧ okP n f ∧ n ≤ 12
def rS (n : Nat) (f : Nat → Nat → Nat) (T : PV) (M : AM) : Prop := M.1 40 6 = nI n ∧ pM n f M ∧ lawM T M ∧ M.1 40 23 = -1 ∧ okP n f ∧ n ≤ 12
abbrev eJ : List Nat := [14, 15, 16, 17, 18, 20, 21, 22, 27, 28]
section D1
variable {L : Nat} {xs : Nat → Int32} {d : Nat} {Q : AQ} {M M1 M2 : AM} {T : PV} {f : Nat → Nat → Nat} {n k0 : Nat} {C G : Nat → Bool}
theorem Inv.s (h : Inv M) : ∃ n f T, xS n f T M ∧ rS n f T M := by
  obtain ⟨n, f, T, bn, ⟨p1, p2, p3, p4, p5, p6⟩, hL, -, -, -, -, -, h23⟩ := h
  exact ⟨n, f, T, ⟨p1, hL.1, p4, p3⟩, ⟨p5, p6, hL.2, h23, p4, p3⟩⟩
theorem xS.keep (h : xS n f T M) (hf : fr qK M M1) : xS n f T M1 := ⟨h.1.fr (by rw [hf.i 1]) (hf.i 2), h.2.1.keep (by rw [hf.i 4]) (hf.i 5) (hf.i 6), h.2.2⟩
theorem rS.x (h : rS n f T M) (hf : fr qK M M1) : rS n f T M1 := ⟨by rw [hf.i 40]; exact h.1, h.2.1.keep (hf.i 41), h.2.2.1.keep (by rw [hf.i 40]) (hf.i 47), by rw [hf.i 40]; exact h.2.2.2.1, h.2.2.2.2⟩
theorem rS.keep (h : rS n f T M) (hf : fs yK eJ M M1) : rS n f T M1 := ⟨by rw [hf.j 6]; exact h.1, h.2.1.keep (hf.i 41), h.2.2.1.keep (by rw [hf.j 13]) (hf.i 47), by rw [hf.j 23]; exact h.2.2.2.1, h.2.2.2.2⟩
theorem Inv.q2 (h : Inv M) (f1 : fr qK M M1) (f2 : fs yK eJ M1 M2) : Inv M2 := by
  obtain ⟨n, f, T, hx, hr⟩ := h.s
  exact h.q f1 (f2.to (by decide) (by decide)) (fun _ _ _ k _ => by rw [f2.i 41]) (by rw [f2.j 23]; exact (hr.x f1).2.2.2.1)
theorem Inv.kv {M : AM} (h : Inv M) (v : Int32) : ∃ w : Int32, some (Value.int v) = some (Value.int w) ∧ some (Value.int v) = some (Value.int w) ∧ Inv M := ⟨_, rfl, rfl, h⟩
theorem Inv.kl {M : AM} (h : Inv M) (v : Int64) : ∃ w : Int64, some (Value.long v) = some (Value.long w) ∧ some (Value.long v) = some (Value.long w) ∧ Inv M := ⟨_, rfl, rfl, h⟩
theorem fr.q {K : List Nat} (h1 : fr qK M M1) (h2 : fr K M1 M2) (hk : ∀ b ∈ K, b ∈ qK := by decide) : fr qK M M2 := h1.tr h2 (fun _ h => h) hk
theorem fs.e {K J : List Nat} (h1 : fs yK eJ M M1) (h2 : fs K J M1 M2) (hk : ∀ b ∈ K, b ∈ yK := by decide) (hj : ∀ b ∈ J, b ∈ eJ := by decide) : fs yK eJ M M2 := h1.tt (h2.to hk hj)
theorem x_bg (hd : 3 ≤ d) (hS : xS n f T M) (kk : ∀ M', fr qK M M' → xS n f T M' → dayX n f (ein n) nob M' → M'.1 15 6 = nI 0 → Q none M') : am_Call (gG L xs) d c_Day_begins [.ref 15, .ref 1] M Q :=
  s_begins hd hS.1 (fun M' f1 g1 l1 => kk M' (f1.to (by decide)) (hS.keep (f1.to (by decide))) g1 l1)
theorem x_runs {pl : Nat} (hd : 5 ≤ d) (hS : xS n f T M) (hX : dayX n f C nob M) (hk : k0 < 2 ^ 20) (hpl : pl ≤ 5) (hlg : M.1 15 6 = nI 0) (kk : ∀ M', fr qK M M' → xS n f T M' → dayX n f C (dgo T n f C noG pl k0) M' → M'.1 15 6 = nI (dlg T n f C noG pl k0) → Q (some (.int (nI (cnt (fun p => (dgo T n f C noG pl k0 p).isSome) n)))) M') : am_Call (gG L xs) d c_Day_runs [.ref 15, .int (nI k0), .int (nI pl)] M Q :=
  s_runs hd hX hS.2.2.1 hS.2.1 hk hpl hlg (fun M' f1 g1 l1 => by
    rw [cnt_is (by have := hS.2.2.2; omega) (fun p hp => dgo_out hp)]
    exact kk M' (f1.to (by decide)) (hS.keep (f1.to (by decide))) g1 l1)
theorem x_till {p : Nat} (hd : 6 ≤ d) (hS : xS n f T M) (hX : dayX n f C nob M) (hk : k0 < 2 ^ 20) (hp : p < n) (hlg : M.1 15 6 = nI 0) (kk : ∀ M', fr qK M M' → xS n f T M' → crw 16 17 n f M' → cch 16 18 n f M' → Q (some (.int (oI (dgo T n f C noG 5 k0 p)))) M') : am_Call (gG L xs) d c_Day_till [.ref 15, .int (nI p), .int (nI k0)] M Q :=
  s_till hd hX hS.2.2.1 hS.2.1 hk hp hlg (fun M' f1 g1 g2 => kk M' (f1.to (by decide)) (hS.keep (f1.to (by decide))) g1 g2)
theorem x_two (hd : 5 ≤ d) (hS : xS n f T M) (hX : dayX n f C nob M) (hk : k0 < 2 ^ 20) (hlg : M.1 15 6 = nI 0) (kk : ∀ M', fr qK M M' → xS n f T M' → dayX n f C (dgo T n f C G 5 k0) M' → Q (some (.int (nI (cnt (fun p => (dgo T n f C G 5 k0 p).isSome) n)))) M') : am_Call (gG L xs) d c_Day_twoGates [.ref 15, .int (sI G), .int (nI k0)] M Q :=
  s_twoGates hd hX hS.2.2.1 hS.2.1 hk ⟨0, hlg, by omega⟩ (fun M' f1 g1 => by
    rw [cnt_is (by have := hS.2.2.2; omega) (fun p hp => dgo_out hp)]
    exact kk M' (f1.to (by decide)) (hS.keep (f1.to (by decide))) g1)
theorem x_again (hd : 2 ≤ d) (hS : xS n f T M) (h1 : crw 16 17 n f M) (h2 : cch 16 18 n f M) (kk : ∀ M', fr qK M M' → xS n f T M' → dayX n f C nob M' → M'.1 15 6 = nI 0 → Q none M') : am_Call (gG L xs) d c_Day_again [.ref 15, .int (sI C)] M Q :=
  s_again hd h1 h2 (fun M' f1 g1 l1 => kk M' (f1.to (by decide)) (hS.keep (f1.to (by decide))) g1 l1)
theorem m_bg (hd : 1 ≤ d) (hS : rS n f T M) (kk : ∀ M', fs yK eJ M M' → rS n f T M' → dayM n 0 f (ein n) noG nob M' → M'.1 40 28 = nI 0 → Q none M') : am_Call (gG L xs) d c_Md_begins1 [.ref 40] M Q :=
  m_begins hd hS.1 hS.2.1 (fun M' f1 g1 l1 => kk M' (f1.to (by decide) (by decide)) (hS.keep (f1.to (by decide) (by decide))) g1 l1)
theorem m_go (hd : 72 ≤ d) (hS : rS n f T M) (hX : dayM n 0 f C G nob M) (hk : k0 ≤ 1000) (h28 : M.1 40 28 = nI 0) (kk : ∀ M', fs yK eJ M M' → rS n f T M' → dayM n 0 f C G (dgo T n f C G 5 k0) M' → M'.1 40 28 = nI (dlg T n f C G 5 k0) → Q none M') : am_Call (gG L xs) d c_Md_goes [.ref 40, .int (nI k0)] M Q :=
  m_goes (T := T) (pl := 5) hd hX hS.2.2.2.2.1 hS.2.2.1 hk (by decide) hS.2.2.2.1 h28 (fun M' f1 g1 l1 => kk M' (f1.to (by decide) (by decide)) (hS.keep (f1.to (by decide) (by decide))) g1 l1)
theorem dayM.at {io : Nat → Option Nat} {b p : Nat} (h : dayM n b f C G io M) (hp : p < 15) : M.1 49 p = oI (io p) := h.2.2.2.2.2.2 p hp
theorem m_inM (hd : 1 ≤ d) (hS : rS n f T M) (hX : dayM n 0 f C G (dgo T n f C G 5 k0) M) (hk : k0 ≤ 2 ^ 20) (kk : Q (some (.int (nI (cnt (fun p => (dgo T n f C G 5 k0 p).isSome) n)))) M) : am_Call (gG L xs) d c_Md_inMany [.ref 40] M Q :=
  m_inMany hd hS.1 (by have := hS.2.2.2.2.2; omega) (fun p hp => hX.at (by have := hS.2.2.2.2.2; omega)) (dgo_ioB hk) kk
theorem dgo_v {p : Nat} (hk : k0 < 2 ^ 20) : (dgo T n f C G 5 k0 p = none ∧ oI (dgo T n f C G 5 k0 p) = -2) ∨ ∃ a, a < k0 ∧ dgo T n f C G 5 k0 p = some a ∧ oI (dgo T n f C G 5 k0 p) = nI a ∧ f 1 p ≤ a ∧ a < f 1 p + f 2 p := by
  cases z : dgo T n f C G 5 k0 p with
  | none => exact Or.inl ⟨rfl, rfl⟩
  | some a =>
    have h := dgo_lt z
    have := h.2.2.1
    unfold thr at this
    simp only [Bool.and_eq_true, decide_eq_true_eq] at this
    exact Or.inr ⟨a, h.1, rfl, rfl, this⟩
end D1
section D2
variable {L : Nat} {xs : Nat → Int32} {d : Nat} {Q : AQ} {M : AM} {T : PV} {f : Nat → Nat → Nat} {n k0 : Nat} {C G : Nat → Bool} {x1 x2 x3 : Int32}
theorem Jn.of {d cx cm : Nat} {ax am : List Value} {v : Int32} {P : AM → Prop} (hx : am_Call (gG L xs) d cx ax M (fun r M1 => r = some (.int v) ∧ P M1)) (hm : ∀ M1, P M1 → am_Call (gG L xs) d cm am M1 (fun r' M2 => r' = some (.int v) ∧ Inv M2)) : Jn L xs d cx cm ax am M :=
  hx.post (fun r M1 h => (hm M1 h.2).post (fun r' M2 h' => ⟨v, h.1, h'.1, h'.2⟩))
theorem JnL.of {d cx cm : Nat} {ax am : List Value} {v : Int64} {P : AM → Prop} (hx : am_Call (gG L xs) d cx ax M (fun r M1 => r = some (.long v) ∧ P M1)) (hm : ∀ M1, P M1 → am_Call (gG L xs) d cm am M1 (fun r' M2 => r' = some (.long v) ∧ Inv M2)) : JnL L xs d cx cm ax am M :=
  hx.post (fun r M1 h => (hm M1 h.2).post (fun r' M2 h' => ⟨v, h.1, h'.1, h'.2⟩))
theorem j_stroke (hI : Inv M) (hd : 100 ≤ d) : Jn L xs d c_Mo_stroke c_Md_stroke [.ref 0, .int x1, .int x2] [.ref 40, .int x1, .int x2] M := by
  obtain ⟨n, f, T, hx, hr⟩ := hI.s
  obtain ⟨d, rfl⟩ : ∃ a, d = a + 6 := ⟨d - 6, by omega⟩
  have hn := hx.2.2.2
  by_cases hv : 0 ≤ x1.toInt ∧ x1.toInt ≤ 99 ∧ 0 ≤ x2.toInt ∧ x2.toInt ≤ 1
  · obtain ⟨v1, v2, v3, v4⟩ := hv
    obtain ⟨s, rfl, hs, -⟩ := n_ofI v1
    obtain ⟨w, rfl, hw, -⟩ := n_ofI v3
    have hW : ∀ io, (fun p => thrN n f s p && (ein n p && (io p).isNone)) = wtg n f s (ein n) io := fun io => rfl
    have hlg := dlg_le (T := T) (N := n) (f := f) (C := ein n) (G := noG) (pl := 5) s
    have hcw := cnt_le (wtg n f s (ein n) (dgo T n f (ein n) noG 5 s)) n
    refine Jn.of (v := if w = 0 then oI (pck T f s 5 n (wtg n f s (ein n) (dgo T n f (ein n) noG 5 s))) else nI (cnt (wtg n f s (ein n) (dgo T n f (ein n) noG 5 s)) n)) (P := fr qK M) ?_ (fun M1 F => ?_)
    · refine t_Mo_stroke ?_
      ((try simp only [lg_cmp_lt, lg_cmp_gt]); simp (disch := omega) only [Int64.lt_iff_toInt_lt, Int32.toInt_toInt64, Int64.reduceToInt, ← Int32.toInt_inj, Int32.lt_iff_toInt_lt, Int32.le_iff_toInt_le, Int32.reduceToInt, nI_toInt, false_implies, true_implies, and_true, true_and, not_true_eq_false, not_false_eq_true, forall_const, implies_true, false_and, and_false, true_or, or_true, eq_self])
      repeat' (first | (with_reducible refine And.intro ?_ ?_) | (with_reducible intro h; first | (exfalso; omega) | contradiction | skip))
      all_goals
        refine x_bg (by omega) hx (fun M1 f1 s1 g1 l1 => u_Mo_stroke_30 (x_runs (pl := 5) (by omega) s1 g1 (by omega) (by decide) l1 (fun M2 f2 s2 g2 l2 => u_Mo_stroke_39 ?_)))
        refine t_Day_passes ?_
        rw [g2.2.2.1]
        refine s_opens (T := T) (C := ein n) (io := dgo T n f (ein n) noG 5 s) (pl := 5) (by omega) g2 s2.2.2.1 s2.2.1 (by omega) (by decide) (fun p hp => ?_) l2 (by omega) (fun M3 f3 x3 e5 e6 => u_Day_passes_10 ?_)
        · simp only [Bool.and_eq_true, Option.isNone_iff_eq_none] at hp; exact hp
        rw [hW] at x3 e5 e6 ⊢
        have F : fr qK M M3 := (f1.q f2).q f3
        have e1 : nI w = 1 ↔ w = 1 := nI_eq (b := 1) (by omega) (by decide)
        refine u_Mo_stroke_48 ⟨fun z => ⟨fun y => ⟨?_, F⟩, fun y => ⟨?_, F⟩⟩, fun z => ⟨?_, F⟩⟩
        · have : w = 0 := by have : ¬ w = 1 := fun q => z (e1.mpr q); omega
          rw [if_pos this]
          cases hp : pck T f s 5 n (wtg n f s (ein n) (dgo T n f (ein n) noG 5 s)) with
          | none => rw [hp] at y; exact absurd rfl y
          | some a => rfl
        · have : w = 0 := by have : ¬ w = 1 := fun q => z (e1.mpr q); omega
          rw [if_pos this]
          cases hp : pck T f s 5 n (wtg n f s (ein n) (dgo T n f (ein n) noG 5 s)) with
          | none => rfl
          | some a =>
            rw [hp] at y
            have := (pck_some hp).1
            exact absurd (show nI a < 0 by rw [show nI a = -1 from y]; decide) (nI_pos (by omega))
        · rw [if_neg (by have := e1.mp z; omega), e5]
    · refine t_Md_stroke ?_
      ((try simp only [lg_cmp_lt, lg_cmp_gt]); simp (disch := omega) only [Int64.lt_iff_toInt_lt, Int32.toInt_toInt64, Int64.reduceToInt, ← Int32.toInt_inj, Int32.lt_iff_toInt_lt, Int32.le_iff_toInt_le, Int32.reduceToInt, nI_toInt, false_implies, true_implies, and_true, true_and, not_true_eq_false, not_false_eq_true, forall_const, implies_true, false_and, and_false, true_or, or_true, eq_self])
      repeat' (first | (with_reducible refine And.intro ?_ ?_) | (with_reducible intro h; first | (exfalso; omega) | contradiction | skip))
      refine m_bg (by omega) (hr.x F) (fun M4 f4 s4 g4 l4 => u_Md_stroke_28 (m_go (by omega) s4 g4 (by omega) l4 (fun M5 f5 s5 g5 l5 => u_Md_stroke_33 ?_)))
      refine m_asks (T := T) (second := false) (by omega) g5 s5.2.2.2.2.1 s5.2.2.1 (by omega) (dgo_ioB (by omega)) (fun M6 f6 a6 => u_Md_stroke_39 ?_)
      rw [gtW_f, show n + 0 = n from rfl, noG_w] at a6
      rw [a6.1]
      have s6 := s5.keep (f6.to (by decide) (by decide))
      refine m_strokes (T := T) (pl := 5) (by omega) (g5.keep f6) s5.2.2.2.2.1 s6.2.2.1 (by omega) (dgo_ioB (by omega)) (by decide) s6.2.2.2.1 (by rw [f6.j 28]; exact l5) (by omega) (fun M7 f7 g7 l7 => ?_)
      rw [show n + 0 = n from rfl, noG_w]
      have I7 : Inv M7 := hI.q2 F (((f4.tt f5).e f6).e f7)
      have ew : nI w = 0 ↔ w = 0 := nI_eq (b := 0) (by omega) (by decide)
      refine u_Md_stroke_49 ⟨fun z => ⟨?_, I7⟩, fun z => ⟨?_, I7⟩⟩
      · rw [if_neg (fun y => z (ew.mpr y))]
      · rw [if_pos (ew.mp z)]
  · refine Jn.of (v := -1) (P := fun M1 => M1 = M) ?_ (fun M1 F => ?_)
    · refine t_Mo_stroke ?_
      ((try simp only [lg_cmp_lt, lg_cmp_gt]); simp (disch := omega) only [Int64.lt_iff_toInt_lt, Int32.toInt_toInt64, Int64.reduceToInt, ← Int32.toInt_inj, Int32.lt_iff_toInt_lt, Int32.le_iff_toInt_le, Int32.reduceToInt, nI_toInt, false_implies, true_implies, and_true, true_and, not_true_eq_false, not_false_eq_true, forall_const, implies_true, false_and, and_false, true_or, or_true, eq_self])
      repeat' (first | (with_reducible refine And.intro ?_ ?_) | (with_reducible intro h; first | (exfalso; omega) | contradiction | skip))
      all_goals exact ⟨rfl, rfl⟩
    · subst F
      refine t_Md_stroke ?_
      ((try simp only [lg_cmp_lt, lg_cmp_gt]); simp (disch := omega) only [Int64.lt_iff_toInt_lt, Int32.toInt_toInt64, Int64.reduceToInt, ← Int32.toInt_inj, Int32.lt_iff_toInt_lt, Int32.le_iff_toInt_le, Int32.reduceToInt, nI_toInt, false_implies, true_implies, and_true, true_and, not_true_eq_false, not_false_eq_true, forall_const, implies_true, false_and, and_false, true_or, or_true, eq_self])
      repeat' (first | (with_reducible refine And.intro ?_ ?_) | (with_reducible intro h; first | (exfalso; omega) | contradiction | skip))
      all_goals first | exact ⟨rfl, hI⟩ | exact hI
end D2
