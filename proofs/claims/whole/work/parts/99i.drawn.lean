section E33
variable {L : Nat} {xs : Nat → Int32} {d : Nat} {Q : AQ} {M M0 M1 M2 : AM} {n N k0 p e v w r q s0 m acc : Nat} {f g h : Nat → Nat → Nat} {io : Nat → Option Nat} {C G : Nat → Bool} {T : PV} {x1 x2 x3 z : Int32}
/-- the draw -/
def lcz (z : Int32) : Int32 := z * 1103515245 + 12345
def lcv (z : Int32) : Nat := (z.toBitVec.toNat / 256) % 60
theorem lcv_lt : lcv z < 60 := Nat.mod_lt _ (by decide)
theorem lcv_e (z : Int32) : irem (ushr z 8) 60 = nI (lcv z) := by
  have hz : nI z.toBitVec.toNat = z := Int32.toBitVec_inj.mp (by
    show BitVec.ofNat 32 z.toBitVec.toNat = z.toBitVec
    simp)
  have hl := z.toBitVec.isLt
  have e1 := n_us 8 8 (by decide) hl
  rw [hz] at e1
  rw [e1, show (60 : Int32) = nI 60 from rfl, n_rem (by omega) (by decide) (by decide)]
  rfl
theorem okV1 {v : Nat} (h : v < 60) : okV 1 v := ⟨fun z => by omega, fun _ => by omega, fun z => by omega, fun z => by omega, fun z => by omega⟩
/-- a day's draws, as far as the first q -/
def dwn (z : Int32) (g : Nat → Nat → Nat) : Nat → Int32 × (Nat → Nat → Nat)
  | 0 => (z, g)
  | q + 1 => (lcz (dwn z g q).1, upf (dwn z g q).2 1 q (lcv (lcz (dwn z g q).1)))
theorem dwn_ok (hg : okP n g) : ∀ q, okP n (dwn z g q).2
  | 0 => hg
  | q + 1 => (dwn_ok hg q).up (okV1 lcv_lt)
theorem dwn_not {w : Nat} (h1 : ∀ a b, a ≠ 1 → g a b = f a b) : ∀ q a b, a ≠ 1 → (dwn z g q).2 a b = f a b
  | 0, a, b, ha => h1 a b ha
  | q + 1, a, b, ha => by
    show upf (dwn z g q).2 1 q _ a b = _
    unfold upf
    rw [if_neg (fun y => ha y.1)]
    exact dwn_not (w := w) h1 q a b ha
/-- what a drawn day brings -/
def drS (T : PV) (n : Nat) (x3 : Int32) (g : Nat → Nat → Nat) : Nat := if x3 = -1 then cnt (fun p => (dgo T n g (ein n) noG 5 60 p).isSome) n else if (dgo T n g (ein n) noG 5 60 x3.toNatClampNeg).isSome then 1 else 0
def drs (T : PV) (n : Nat) (x3 : Int32) : Nat → Int32 → (Nat → Nat → Nat) → Nat → Nat
  | 0, _, _, acc => acc
  | j + 1, z, g, acc => drs T n x3 j (dwn z g n).1 (dwn z g n).2 (acc + drS T n x3 (dwn z g n).2)
theorem cwG.set1 (hc : cwG n g M) (hp : p < n) : cwG n (upf g 1 p v) (am_wi (am_wi M 17 (15 + p) (nI v)) 16 3 1) :=
  ⟨(hc.1.set (w := 1) (p := p) (v := v) (by decide) (by decide) hp).fr (by rw [wi_sl (by decide)]) (wi_ne (by decide)), Or.inl wi_eq⟩
theorem x_draws {y2 y5 y6 : Int32} (hx : xS n f T M) (hc : cwG n g M)
    (kk : ∀ M', fr qK M M' → xS n f T M' → cwG n (dwn z g n).2 M' → v_Seen_drawnDays L xs (d + 1) Q 29 [(0, .ref 26), (2, .int y2), (3, .int x3), (4, .int (dwn z g n).1), (5, .int y5), (6, .int y6), (7, .int (nI n))] [] M') : v_Seen_drawnDays L xs (d + 1) Q 29 [(0, .ref 26), (2, .int y2), (3, .int x3), (4, .int z), (5, .int y5), (6, .int y6), (7, .int 0)] [] M := by
  have hn := hx.2.2.2
  have loop : ∀ j q (M1 : AM), q + j = n → fr qK M M1 → xS n f T M1 → cwG n (dwn z g q).2 M1 → v_Seen_drawnDays L xs (d + 1) Q 29 [(0, .ref 26), (2, .int y2), (3, .int x3), (4, .int (dwn z g q).1), (5, .int y5), (6, .int y6), (7, .int (nI q))] [] M1 := by
    intro j
    induction j with
    | zero =>
      intro q M1 hq F s1 c1
      have : q = n := by omega
      subst this
      exact kk M1 F s1 c1
    | succ j ih =>
      intro q M1 hq F s1 c1
      have hqn : q < n := by omega
      have e15 : (1 : Int32) * 15 + nI q = nI (15 + q) := by rw [show (1 : Int32) * 15 = nI 15 from by decide, nI_add]
      have R := ih (q + 1) (am_wi (am_wi M1 17 (15 + q) (nI (lcv (lcz (dwn z g q).1)))) 16 3 1) (by omega) ((F.wi (by decide)).wi (by decide)) (s1.keep ((fr.rf.wi (by decide)).wi (by decide))) (c1.set1 hqn)
      rw [← nI_1] at R
      refine u_Seen_drawnDays_29 ⟨fun y => absurd y (by rw [s1.1.1]; exact nI_ge hqn (by omega)), fun _ => ⟨fun y => absurd y (nI_pos (by omega)), fun _ => ⟨fun _ => ?_, fun y => absurd (by rw [c1.1.1]; exact nI_lt hqn (by omega)) y⟩⟩⟩
      rw [lcv_e, e15, n_cl (show 15 + q < 2 ^ 31 by omega)]
      exact ⟨(n_vp (by omega)).mpr (by omega), R⟩
  exact loop n 0 M (by omega) fr.rf hx hc
theorem x_drawn (hd : 9 ≤ d) (hx : xS n f T M) (h1 : oneOr n x3) (hN : N ≤ 20) (kk : ∀ M', fr qK M M' → Q (some (.int (nI (drs T n x3 N x1 f 0)))) M') : am_Call (gG L xs) d c_Seen_drawnDays [.ref 26, .int x1, .int (nI N), .int x3] M Q := by
  obtain ⟨d, rfl⟩ : ∃ a, d = a + 3 := ⟨d - 3, by omega⟩
  have hn := hx.2.2.2
  have loop : ∀ j i z g acc (M1 : AM), i + j = N → fr qK M M1 → xS n f T M1 → okP n g → cwG n g M1 → drs T n x3 j z g acc = drs T n x3 N x1 f 0 → v_Seen_drawnDays L xs (d + 2) Q 20 [(0, .ref 26), (2, .int (nI N)), (3, .int x3), (4, .int z), (5, .int (nI acc)), (6, .int (nI i))] [] M1 := by
    intro j
    induction j with
    | zero =>
      intro i z g acc M1 hi F s1 hg c1 ha
      have K := kk M1 F
      rw [← ha] at K
      exact u_Seen_drawnDays_20 ⟨fun _ => K, fun y => absurd (nI_le (by omega) (by omega)) y⟩
    | succ j ih =>
      intro i z g acc M1 hi F s1 hg c1 ha
      refine u_Seen_drawnDays_20 ⟨fun y => absurd ((n_leI (by omega) (by omega)).mp y) (by omega), fun _ => ?_⟩
      refine x_draws s1 c1 (fun M2 f2 s2 c2 => ?_)
      have hok := dwn_ok (z := z) hg n
      obtain ⟨z', hz'⟩ : ∃ y, y = (dwn z g n).1 := ⟨_, rfl⟩
      obtain ⟨g', hg'⟩ : ∃ y, y = (dwn z g n).2 := ⟨_, rfl⟩
      rw [drs, ← hz', ← hg'] at ha
      rw [← hg'] at hok c2
      rw [← hz']
      refine u_Seen_drawnDays_29 ⟨fun _ => ?_, fun y => absurd (by rw [s2.1.1]; exact nI_le (Nat.le_refl _) (by omega)) y⟩
      rw [s2.1.1, sI_all (by omega)]
      refine s_again (C := ein n) (by omega) c2.1 c2.2 (fun M3 f3 g3 l3 => u_Seen_drawnDays_93 ?_)
      have s3 := s2.keep (M1 := M3) (f3.to (by decide))
      refine s_runs (n := 60) (pl := 5) (by omega) g3 hok s3.2.1 (by decide) (by decide) l3 (fun M4 f4 g4 l4 => ?_)
      have F4 : fr qK M M4 := ((F.q f2 (fun _ h => h)).q f3).q f4
      have s4 := s3.keep (M1 := M4) (f4.to (by decide))
      rw [cnt_is (by omega) (fun p hp => dgo_out hp)]
      have R := fun acc2 => ih (i + 1) z' g' acc2 M4 (by omega) F4 s4 hok ⟨g4.cr, g4.cc⟩
      refine u_Seen_drawnDays_103 ?_
      rw [nI_1]
      rcases h1 with h1 | ⟨p, hp, h1⟩
      · have R1 := R (acc + drS T n x3 g') ha
        subst h1
        refine ⟨fun y => absurd y (by decide), fun _ => ?_⟩
        rw [nI_add]
        exact R1
      · have R1 := R (acc + drS T n x3 g') ha
        subst h1
        unfold drS at R1
        rw [if_neg (fun y => absurd (show nI p < 0 by rw [show nI p = -1 from y]; decide) (nI_pos (by omega))), n_cl (by omega)] at R1
        refine ⟨fun _ => ⟨fun y => absurd y (nI_pos (by omega)), fun _ => ⟨fun y => absurd y (by rw [g4.1.1]; exact nI_ge hp (by omega)), fun _ => ⟨(n_vp (by omega)).mpr (by omega), ?_⟩⟩⟩, fun y => absurd (nI_pos' (by omega)) y⟩
        rw [n_cl (show p < 2 ^ 31 by omega), g4.2.2.2.2 p (by omega)]
        cases q : dgo T n g' (ein n) noG 5 60 p with
        | none =>
          rw [q] at R1
          exact ⟨fun _ => R1, fun y => absurd rfl y⟩
        | some t =>
          rw [q] at R1
          have ht := (dgo_lt q).1
          refine ⟨fun y => absurd (show nI t < 0 by rw [show nI t = -2 from y]; decide) (nI_pos (by omega)), fun _ => ?_⟩
          rw [nI_1]
          exact R1
  refine t_Seen_drawnDays (x_bg (by omega) hx (fun M1 f1 s1 g1 _ => u_Seen_drawnDays_11 ?_))
  exact loop N 0 x1 f 0 M1 (by omega) f1 s1 hx.2.2.1 ⟨g1.cr, g1.cc⟩ rfl
theorem m_draws {y2 y5 y6 : Int32} (hr : rS n g T M)
    (kk : ∀ M', fs rK rJ M M' → rS n (dwn z g n).2 T M' → M'.1 53 = M.1 53 → v_Md_drawn L xs d Q 82 [(0, .ref 40), (2, .int y2), (3, .int x3), (4, .int (dwn z g n).1), (5, .int y5), (6, .int y6), (7, .int (nI n))] [] M') : v_Md_drawn L xs d Q 82 [(0, .ref 40), (2, .int y2), (3, .int x3), (4, .int z), (5, .int y5), (6, .int y6), (7, .int 0)] [] M := by
  have hn := hr.2.2.2.2.2
  have loop : ∀ j q (M1 : AM), q + j = n → fs rK rJ M M1 → rS n (dwn z g q).2 T M1 → M1.1 53 = M.1 53 → v_Md_drawn L xs d Q 82 [(0, .ref 40), (2, .int y2), (3, .int x3), (4, .int (dwn z g q).1), (5, .int y5), (6, .int y6), (7, .int (nI q))] [] M1 := by
    intro j
    induction j with
    | zero =>
      intro q M1 hq F s1 k1
      have : q = n := by omega
      subst this
      exact kk M1 F s1 k1
    | succ j ih =>
      intro q M1 hq F s1 k1
      have hqn : q < n := by omega
      have R := ih (q + 1) (am_wi M1 41 (5 * q + 1) (nI (lcv (lcz (dwn z g q).1)))) (by omega) (F.c (by decide) (by decide)) (s1.up (by decide) hqn (okV1 lcv_lt)) (by rw [wi_ne (by decide)]; exact k1)
      rw [← nI_1] at R
      refine u_Md_drawn_82 ⟨fun y => absurd y (by rw [s1.1]; exact nI_ge hqn (by omega)), fun _ => ?_⟩
      rw [lcv_e, show (5 : Int32) * nI q + 1 = nI (5 * q + 1) from (q5 q).2.1, n_cl (show 5 * q + 1 < 2 ^ 31 by omega)]
      exact ⟨(n_vp (by omega)).mpr (by omega), R⟩
  exact loop n 0 M (by omega) fs.rf hr rfl
theorem m_comesBack {v : Int32} (hr : rS n g T M) (h3 : ∀ a b, a ≠ 1 → g a b = f a b) (hf : okP n f) (h53 : ∀ q, q < n → M.1 53 q = nI (f 1 q)) (kk : ∀ M', fs rK rJ M M' → rS n f T M' → Q (some (.int v)) M') : v_Md_drawn L xs d Q 177 [(0, .ref 40), (5, .int v), (6, .int 0)] [] M := by
  have hn := hr.2.2.2.2.2
  have loop : ∀ j q (M1 : AM), q + j = n → fs rK rJ M M1 → M1.1 53 = M.1 53 → rS n (bk f g 1 q) T M1 → v_Md_drawn L xs d Q 177 [(0, .ref 40), (5, .int v), (6, .int (nI q))] [] M1 := by
    intro j
    induction j with
    | zero =>
      intro q M1 hq F k1 s1
      have : q = n := by omega
      subst this
      exact u_Md_drawn_177 ⟨fun _ => kk M1 F (s1.congr (fun a b ha hb => bk_n h3 a b hb)), fun z => absurd (by rw [s1.1]; exact nI_le (Nat.le_refl _) (by omega)) z⟩
    | succ j ih =>
      intro q M1 hq F k1 s1
      have hqn : q < n := by omega
      have hb1 := (hf q hqn).2.2.1
      refine u_Md_drawn_177 ⟨fun z => absurd z (by rw [s1.1]; exact nI_ge hqn (by omega)), fun _ => ⟨(n_vp (by omega)).mpr (by omega), ?_⟩⟩
      rw [show (5 : Int32) * nI q + 1 = nI (5 * q + 1) from (q5 q).2.1, n_cl (show 5 * q + 1 < 2 ^ 31 by omega), n_cl (show q < 2 ^ 31 by omega), k1, h53 q hqn, nI_1]
      refine ⟨(n_vp (by omega)).mpr (by omega), ?_⟩
      have s2 := s1.up (w := 1) (p := q) (v := f 1 q) (by decide) hqn ⟨fun z => by omega, fun _ => hb1, fun z => by omega, fun z => by omega, fun z => by omega⟩
      rw [bk_up] at s2
      exact ih (q + 1) _ (by omega) (F.c (by decide) (by decide)) (by rw [wi_ne (by decide)]; exact k1) s2
  exact loop n 0 M (by omega) fs.rf rfl (by rw [bk_0]; exact hr)
theorem m_drawn (hd : 78 ≤ d) (hr : rS n f T M) (h1 : oneOr n x3) (hN : N ≤ 20) (kk : ∀ M', fs rK rJ M M' → rS n f T M' → Q (some (.int (nI (drs T n x3 N x1 f 0)))) M') : v_Md_drawn L xs d Q 31 [(0, .ref 40), (1, .int x1), (2, .int (nI N)), (3, .int x3), (4, .int 0)] [] M := by
  have hn := hr.2.2.2.2.2
  have hf := hr.2.2.2.2.1
  have main : ∀ j i z g acc (M1 : AM), i + j = N → fs rK rJ M M1 → rS n g T M1 → (∀ a b, a ≠ 1 → g a b = f a b) → (∀ q, q < n → M1.1 53 q = nI (f 1 q)) → drs T n x3 j z g acc = drs T n x3 N x1 f 0 → v_Md_drawn L xs d Q 73 [(0, .ref 40), (2, .int (nI N)), (3, .int x3), (4, .int z), (5, .int (nI acc)), (6, .int (nI i))] [] M1 := by
    intro j
    induction j with
    | zero =>
      intro i z g acc M1 hi F s1 h3 h53 ha
      refine u_Md_drawn_73 ⟨fun _ => m_comesBack s1 h3 hf h53 (fun M2 f2 s2 => ?_), fun y => absurd (nI_le (by omega) (by omega)) y⟩
      have K := kk M2 (F.tt f2) s2
      rw [← ha] at K
      exact K
    | succ j ih =>
      intro i z g acc M1 hi F s1 h3 h53 ha
      refine u_Md_drawn_73 ⟨fun y => absurd ((n_leI (by omega) (by omega)).mp y) (by omega), fun _ => ?_⟩
      refine m_draws s1 (fun M2 f2 s2 k2 => ?_)
      have h3' := dwn_not (z := z) (w := 0) h3 n
      obtain ⟨z', hz'⟩ : ∃ y, y = (dwn z g n).1 := ⟨_, rfl⟩
      obtain ⟨g', hg'⟩ : ∃ y, y = (dwn z g n).2 := ⟨_, rfl⟩
      rw [drs, ← hz', ← hg'] at ha
      rw [← hg'] at s2 h3'
      rw [← hz']
      refine u_Md_drawn_82 ⟨fun _ => ?_, fun y => absurd (by rw [s2.1]; exact nI_le (Nat.le_refl _) (by omega)) y⟩
      refine m_dayW (k0 := 60) (by omega) s2 (by decide) (fun M' h => u_Md_drawn_132 h) (fun M3 f3 s3 e49 => ?_)
      have F3 : fs rK rJ M M3 := (F.tt f2).tt (f3.to (by decide) (by decide))
      have h53' : ∀ q, q < n → M3.1 53 q = nI (f 1 q) := fun q hq => by rw [f3.i 53, k2]; exact h53 q hq
      have R1 := ih (i + 1) z' g' (acc + drS T n x3 g') M3 (by omega) F3 s3 h3' h53' ha
      refine u_Md_drawn_138 ?_
      rcases h1 with h1 | ⟨p, hp, h1⟩
      · subst h1
        refine ⟨fun y => absurd y (by decide), fun _ => ?_⟩
        refine m_inMany (io := dgo T n g' (ein n) noG 5 60) (by omega) s3.1 (by omega) (fun p hp => e49 p (by omega)) (dgo_ioB (by omega)) (u_Md_drawn_148 ?_)
        rw [nI_add, nI_1]
        exact R1
      · subst h1
        unfold drS at R1
        rw [if_neg (fun y => absurd (show nI p < 0 by rw [show nI p = -1 from y]; decide) (nI_pos (by omega))), n_cl (by omega)] at R1
        refine ⟨fun _ => ⟨(n_vp (by omega)).mpr (by omega), ?_⟩, fun y => absurd (nI_pos' (by omega)) y⟩
        rw [n_cl (show p < 2 ^ 31 by omega), e49 p (by omega), nI_1, nI_1, show nI acc + 0 = nI (acc + 0) from nI_add _ 0]
        cases q : dgo T n g' (ein n) noG 5 60 p with
        | none =>
          rw [q] at R1
          exact ⟨fun _ => R1, fun y => absurd (by decide) y⟩
        | some t =>
          rw [q] at R1
          have ht := (dgo_lt q).1
          exact ⟨fun y => absurd y (nI_pos (by omega)), fun _ => R1⟩
  have loop : ∀ j q (M1 : AM), q + j = n → fs rK rJ M M1 → rS n f T M1 → (∀ i, i < q → M1.1 53 i = nI (f 1 i)) → v_Md_drawn L xs d Q 31 [(0, .ref 40), (1, .int x1), (2, .int (nI N)), (3, .int x3), (4, .int (nI q))] [] M1 := by
    intro j
    induction j with
    | zero =>
      intro q M1 hq F s1 h53
      have : q = n := by omega
      subst this
      exact u_Md_drawn_31 ⟨fun _ => main N 0 x1 f 0 M1 (by omega) F s1 (fun _ _ _ => rfl) h53 rfl, fun z => absurd (by rw [s1.1]; exact nI_le (Nat.le_refl _) (by omega)) z⟩
    | succ j ih =>
      intro q M1 hq F s1 h53
      have hqn : q < n := by omega
      have q1 : vp_in ((5 : Int32) * nI q + 1) 75 ∧ M1.1 41 (((5 : Int32) * nI q + 1).toNatClampNeg) = nI (f 1 q) := s1.2.1.at 1 (by decide) hqn
      refine u_Md_drawn_31 ⟨fun z => absurd z (by rw [s1.1]; exact nI_ge hqn (by omega)), fun _ => ⟨q1.1, (n_vp (by omega)).mpr (by omega), ?_⟩⟩
      rw [q1.2, n_cl (show q < 2 ^ 31 by omega), nI_1]
      refine ih (q + 1) _ (by omega) (F.c (by decide) (by decide)) (s1.of (wi_ne (by decide)) (wi_ne (by decide)) (wi_ne (by decide))) (fun i hi => ?_)
      rw [wi_rd, if_pos rfl]
      by_cases z : i = q
      · rw [if_pos z, z]
      · rw [if_neg z]; exact h53 i (by omega)
  exact loop n 0 M (by omega) fs.rf hr (fun i hi => by omega)
theorem j_drawn (hI : Inv M) (hd : 100 ≤ d) : Jn L xs d c_Mo_drawn c_Md_drawn [.ref 0, .int x1, .int x2, .int x3] [.ref 40, .int x1, .int x2, .int x3] M := by
  obtain ⟨n, f, T, hx, hr⟩ := hI.s
  obtain ⟨d, rfl⟩ : ∃ a, d = a + 6 := ⟨d - 6, by omega⟩
  have hn := hx.2.2.2
  have e1 := hx.1.1
  have e6 := hr.1
  have ept : (nI n - 1).toInt = (n : Int) - 1 := n_pt (by omega)
  by_cases hv : (1 ≤ x2.toInt ∧ x2.toInt ≤ 20) ∧ (x3.toInt = -1 ∨ (0 ≤ x3.toInt ∧ x3.toInt < n))
  · obtain ⟨⟨v1, v2⟩, hv⟩ := hv
    obtain ⟨N, rfl, hN, -⟩ := n_ofI (x := x2) (by omega)
    have h1 : oneOr n x3 := by
      rcases hv with hv | ⟨v1, v2⟩
      · exact Or.inl (Int32.toInt_inj.mp (by rw [hv]; decide))
      · obtain ⟨p, e, hp, -⟩ := n_ofI v1
        exact Or.inr ⟨p, by omega, e⟩
    refine Jn.of2 (v := nI (drs T n x3 N x1 f 0)) (P := fr qK M) (fun Q kk => ?_) (fun M1 F Q kk => ?_)
    · have X := x_drawn (L := L) (xs := xs) (d := d + 5) (x1 := x1) (Q := fun r M' => v_Mo_drawn L xs (d + 5) Q 31 [] (r.toList ++ []) M') (by omega) hx h1 (by omega) (fun M1 f1 => u_Mo_drawn_31 (kk _ f1))
      refine t_Mo_drawn ?_
      ((try simp only [lg_cmp_lt, lg_cmp_gt]); simp (disch := omega) only [e1, t_1, Int64.lt_iff_toInt_lt, Int32.toInt_toInt64, Int64.reduceToInt, ← Int32.toInt_inj, Int32.lt_iff_toInt_lt, Int32.le_iff_toInt_le, Int32.reduceToInt, nI_toInt, false_implies, true_implies, and_true, true_and, not_true_eq_false, not_false_eq_true, forall_const, implies_true, false_and, and_false, true_or, or_true, eq_self])
      repeat' (first | (with_reducible refine And.intro ?_ ?_) | (with_reducible intro h; first | (exfalso; omega) | contradiction | skip))
      all_goals first | exact X | (exfalso; omega)
    · have s1 := hr.x F
      have e6' := s1.1
      have X := m_drawn (L := L) (xs := xs) (d := d + 5) (Q := Q) (x1 := x1) (by omega) s1 h1 (by omega) (fun M2 f2 s2 => kk _ (hI.q3 hr F f2 s2))
      refine t_Md_drawn ?_
      ((try simp only [lg_cmp_lt, lg_cmp_gt]); simp (disch := omega) only [e6', ept, t_1, Int64.lt_iff_toInt_lt, Int32.toInt_toInt64, Int64.reduceToInt, ← Int32.toInt_inj, Int32.lt_iff_toInt_lt, Int32.le_iff_toInt_le, Int32.reduceToInt, nI_toInt, false_implies, true_implies, and_true, true_and, not_true_eq_false, not_false_eq_true, forall_const, implies_true, false_and, and_false, true_or, or_true, eq_self])
      repeat' (first | (with_reducible refine And.intro ?_ ?_) | (with_reducible intro h; first | (exfalso; omega) | contradiction | skip))
      all_goals first | exact X | (exfalso; omega)
  · refine Jn.no (-1) hI (fun Q k => ?_) (fun Q k => ?_)
    · refine t_Mo_drawn ?_
      ((try simp only [lg_cmp_lt, lg_cmp_gt]); simp (disch := omega) only [e1, t_1, Int64.lt_iff_toInt_lt, Int32.toInt_toInt64, Int64.reduceToInt, ← Int32.toInt_inj, Int32.lt_iff_toInt_lt, Int32.le_iff_toInt_le, Int32.reduceToInt, nI_toInt, false_implies, true_implies, and_true, true_and, not_true_eq_false, not_false_eq_true, forall_const, implies_true, false_and, and_false, true_or, or_true, eq_self])
      repeat' (first | (with_reducible refine And.intro ?_ ?_) | (with_reducible intro h; first | (exfalso; omega) | contradiction | skip))
      all_goals first | exact k | (exfalso; omega)
    · refine t_Md_drawn ?_
      ((try simp only [lg_cmp_lt, lg_cmp_gt]); simp (disch := omega) only [e6, ept, t_1, Int64.lt_iff_toInt_lt, Int32.toInt_toInt64, Int64.reduceToInt, ← Int32.toInt_inj, Int32.lt_iff_toInt_lt, Int32.le_iff_toInt_le, Int32.reduceToInt, nI_toInt, false_implies, true_implies, and_true, true_and, not_true_eq_false, not_false_eq_true, forall_const, implies_true, false_and, and_false, true_or, or_true, eq_self])
      repeat' (first | (with_reducible refine And.intro ?_ ?_) | (with_reducible intro h; first | (exfalso; omega) | contradiction | skip))
      all_goals first | exact k | (exfalso; omega)
end E33
