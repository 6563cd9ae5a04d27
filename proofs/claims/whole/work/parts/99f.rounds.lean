section E30
variable {L : Nat} {xs : Nat → Int32} {d : Nat} {Q : AQ} {M M0 M1 M2 : AM} {n N k0 p e v w r : Nat} {f g h : Nat → Nat → Nat} {io : Nat → Option Nat} {C G : Nat → Bool} {T : PV} {x1 x2 x3 : Int32}
/-- one round: what each wears now, whether one changed -/
def rnd (T : PV) (n : Nat) (g : Nat → Nat → Nat) : Nat → (Nat → Nat → Nat) × Bool
  | 0 => (g, false)
  | q + 1 => (upf (rnd T n g q).1 3 q (chs T n (rnd T n g q).1 q), (rnd T n g q).2 || !decide (chs T n (rnd T n g q).1 q = (rnd T n g q).1 3 q))
/-- rounds, so many at most, r being over -/
def aww (T : PV) (n : Nat) : Nat → Nat → (Nat → Nat → Nat) → Option (Nat × (Nat → Nat → Nat))
  | 0, _, _ => none
  | j + 1, r, g => if (rnd T n g n).2 then aww T n j (r + 1) (rnd T n g n).1 else some (r + 1, (rnd T n g n).1)
def awV (x1 : Int32) : Option (Nat × (Nat → Nat → Nat)) → Int32
  | none => -2
  | some (r, g) => if x1 = -1 then nI r else nI (g 3 x1.toNatClampNeg)
theorem awV_1 : awV (-1) (some (r, g)) = nI r := by
  show (if (-1 : Int32) = -1 then nI r else nI (g 3 (-1 : Int32).toNatClampNeg)) = _
  rw [if_pos rfl]
theorem awV_p (hp : p < 2 ^ 31) : awV (nI p) (some (r, g)) = nI (g 3 p) := by
  show (if nI p = -1 then nI r else nI (g 3 (nI p).toNatClampNeg)) = _
  rw [if_neg (fun z => absurd (show nI p < 0 by rw [show nI p = -1 from z]; decide) (nI_pos hp)), n_cl hp]
/-- another number is the same -/
def not3 (f g : Nat → Nat → Nat) : Prop := ∀ w p, w ≠ 3 → g w p = f w p
theorem not3.up (hh : not3 f g) : not3 f (upf g 3 p v) := fun a b ha => by
  unfold upf
  rw [if_neg (fun z => ha z.1)]
  exact hh a b ha
theorem rnd_ok (hg : okP n g) (h3 : not3 f g) : ∀ q, okP n (rnd T n g q).1 ∧ not3 f (rnd T n g q).1
  | 0 => ⟨hg, h3⟩
  | q + 1 => by
    have ih := rnd_ok hg h3 q
    exact ⟨ih.1.up ⟨fun z => by omega, fun z => by omega, fun z => by omega, fun _ => chs_le, fun z => by omega⟩, ih.2.up⟩
theorem okV3 {v : Nat} (h : v ≤ 20) : okV 3 v := ⟨fun z => by omega, fun z => by omega, fun z => by omega, fun _ => h, fun z => by omega⟩
/-- the class's crowd of the day -/
def cwG (n : Nat) (g : Nat → Nat → Nat) (M : AM) : Prop := crw 16 17 n g M ∧ cch 16 18 n g M
theorem cwG.dd {w p : Nat} (hc : cwG n g M) : cwd n g w p M := ⟨g w p, by rw [upf_id]; exact hc.1, by rw [upf_id]; exact hc.2⟩
theorem cwd.set3 (hc : cwd n g 3 p M) (hp : p < n) : cwG n (upf g 3 p v) (am_wi M 17 (45 + p) (nI v)) := by
  obtain ⟨a, h1, h2⟩ := hc
  have h3 := h1.set (w := 3) (p := p) (v := v) (by decide) (by decide) hp
  rw [upf_upf] at h3
  refine ⟨h3, h2.congr (by rw [wi_ne (by decide)]) (wi_ne (by decide)) (fun q _ => ?_)⟩
  unfold upf
  rw [if_neg (fun z => by omega), if_neg (fun z => by omega), if_neg (fun z => by omega), if_neg (fun z => by omega)]
  exact ⟨rfl, rfl⟩
theorem b2i_n {b : Bool} : ¬ b2i b = 0 ↔ b = true := b2i_n0
theorem x_round {d' : Nat} (hd : 8 ≤ d) (hx : xS n f T M) (hg : okP n g) (hc : cwG n g M) (hr : r < 100)
    (kk : ∀ M', fr qK M M' → xS n f T M' → cwG n (rnd T n g n).1 M' → v_Wishes_allChoose L xs (d + 1) Q 33 [(0, .ref 20), (1, .int x1), (2, .ref 16), (3, .int (nI r)), (4, .int (b2i (rnd T n g n).2)), (5, .int (nI n))] [] M') : v_Wishes_allChoose L xs (d + 1) Q 33 [(0, .ref 20), (1, .int x1), (2, .ref 16), (3, .int (nI r)), (4, .int 0), (5, .int 0)] [] M := by
  have hn := hx.2.2.2
  have loop : ∀ j q (M1 : AM), q + j = n → fr qK M M1 → xS n f T M1 → cwG n (rnd T n g q).1 M1 → v_Wishes_allChoose L xs (d + 1) Q 33 [(0, .ref 20), (1, .int x1), (2, .ref 16), (3, .int (nI r)), (4, .int (b2i (rnd T n g q).2)), (5, .int (nI q))] [] M1 := by
    intro j
    induction j with
    | zero =>
      intro q M1 hq F s1 c1
      have : q = n := by omega
      subst this
      exact kk M1 F s1 c1
    | succ j ih =>
      intro q M1 hq F s1 c1
      have hqn : q < n := by omega
      have hok := (rnd_ok (T := T) hg (f := g) (fun _ _ _ => rfl) q).1
      have h3 : vp_in ((3 : Int32) * 15 + nI q) 75 ∧ M1.1 17 (((3 : Int32) * 15 + nI q).toNatClampNeg) = nI ((rnd T n g q).1 3 q) := c1.1.at (w := 3) (by decide) hqn
      have hb3 := (hok q hqn).2.2.2.2.2.1
      refine u_Wishes_allChoose_33 ⟨fun z => absurd z (by rw [c1.1.1]; exact nI_ge hqn (by omega)), fun _ => ⟨fun z => absurd z (nI_pos (by omega)), fun _ => ⟨h3.1, ?_⟩⟩⟩
      rw [h3.2]
      refine x_earliest (by omega) s1 hok c1.dd hqn (fun M2 f2 s2 c2 => ?_)
      have hch := chs_le (T := T) (n := n) (g := (rnd T n g q).1) (p := q)
      have e16 : M2.1 16 1 = nI n := by obtain ⟨a, a1, -⟩ := c2; exact a1.1
      have R := fun cc => ih (q + 1) (am_wi M2 17 (45 + q) (nI (chs T n (rnd T n g q).1 q))) (by omega) ((F.q f2 (fun _ h => h)).wi (by decide)) (s2.keep (fr.rf.wi (by decide))) cc
      have R1 := R (c2.set3 hqn)
      rw [← nI_1] at R1
      have ei : nI (chs T n (rnd T n g q).1 q) = nI ((rnd T n g q).1 3 q) ↔ chs T n (rnd T n g q).1 q = (rnd T n g q).1 3 q := nI_eq (by omega) (by omega)
      have e45 : ((3 : Int32) * 15 + nI q).toNatClampNeg = 45 + q := by
        rw [show (3 : Int32) * 15 = nI 45 from by decide, nI_add, n_cl (by omega)]
      refine u_Wishes_allChoose_57 ⟨fun z => absurd z (nI_pos (by omega)), fun _ => ⟨fun _ => ⟨h3.1, fun z => ?_, fun z => ?_⟩, fun z => absurd (by rw [e16]; exact nI_lt hqn (by omega)) z⟩⟩
      · rw [e45]
        have e2 : (rnd T n g (q + 1)).2 = (rnd T n g q).2 := by
          show ((rnd T n g q).2 || !decide (chs T n (rnd T n g q).1 q = (rnd T n g q).1 3 q)) = _
          rw [decide_eq_true (ei.mp z)]; simp
        rw [e2] at R1
        exact R1
      · rw [e45]
        have e2 : (rnd T n g (q + 1)).2 = true := by
          show ((rnd T n g q).2 || !decide (chs T n (rnd T n g q).1 q = (rnd T n g q).1 3 q)) = _
          rw [decide_eq_false (fun y => z (ei.mpr y))]; simp
        rw [e2] at R1
        exact R1
  exact loop n 0 M (by omega) fr.rf hx hc
def oneOr (n : Nat) (x : Int32) : Prop := x = -1 ∨ ∃ p, p < n ∧ x = nI p
theorem x_allChoose (hd : 12 ≤ d) (hx : xS n f T M) (h1 : oneOr n x1) (kk : ∀ M', fr qK M M' → Q (some (.int (awV x1 (aww T n 20 0 f)))) M') : am_Call (gG L xs) d c_Wishes_allChoose [.ref 20, .int x1] M Q := by
  obtain ⟨d, rfl⟩ : ∃ a, d = a + 2 := ⟨d - 2, by omega⟩
  have hn := hx.2.2.2
  have loop : ∀ j r g (M1 : AM), r + j = 20 → fr qK M M1 → xS n f T M1 → okP n g → cwG n g M1 → aww T n j r g = aww T n 20 0 f → v_Wishes_allChoose L xs (d + 1) Q 21 [(0, .ref 20), (1, .int x1), (2, .ref 16), (3, .int (nI (r + 1)))] [] M1 := by
    intro j
    induction j with
    | zero =>
      intro r g M1 hr F s1 hg c1 ha
      have K := kk M1 F
      rw [← ha] at K
      exact u_Wishes_allChoose_21 ⟨fun _ => K, fun z => absurd ((n_ltI (a := 20) (by decide) (by omega)).mpr (by omega)) z⟩
    | succ j ih =>
      intro r g M1 hr F s1 hg c1 ha
      refine u_Wishes_allChoose_21 ⟨fun z => absurd ((n_ltI (a := 20) (by decide) (by omega)).mp z) (by omega), fun _ => ?_⟩
      refine x_round (d' := 0) (by omega) s1 hg c1 (by omega) (fun M2 f2 s2 c2 => ?_)
      have F2 : fr qK M M2 := F.q f2 (fun _ h => h)
      have hok := (rnd_ok (T := T) hg (f := g) (fun _ _ _ => rfl) n).1
      have R := ih (r + 1) (rnd T n g n).1 M2 (by omega) F2 s2 hok c2
      have e16 := c2.1.1
      refine u_Wishes_allChoose_33 ⟨fun _ => ⟨fun z => ?_, fun z => ?_⟩, fun z => absurd (by rw [e16]; exact nI_le (Nat.le_refl _) (by omega)) z⟩
      · rw [nI_1]
        refine R ?_
        rw [← ha, aww, if_pos (b2i_n.mp z)]
      · have ha2 : aww T n 20 0 f = some (r + 1, (rnd T n g n).1) := by
          rw [← ha, aww, if_neg (fun y => absurd (b2i_0.mp z) (by rw [y]; decide))]
        have K := kk M2 F2
        rw [ha2] at K
        rcases h1 with h1 | ⟨p, hp, h1⟩
        · subst h1
          rw [awV_1] at K
          exact ⟨fun z => absurd z (by decide), fun _ => K⟩
        · subst h1
          have h3 : vp_in ((3 : Int32) * 15 + nI p) 75 ∧ M2.1 17 (((3 : Int32) * 15 + nI p).toNatClampNeg) = nI ((rnd T n g n).1 3 p) := c2.1.at (w := 3) (by decide) hp
          rw [awV_p (by omega)] at K
          refine ⟨fun _ => ⟨fun z => absurd z (nI_pos (by omega)), fun _ => ⟨fun z => absurd z (by rw [e16]; exact nI_ge hp (by omega)), fun _ => ⟨h3.1, ?_⟩⟩⟩, fun z => absurd (nI_pos' (by omega)) z⟩
          rw [h3.2]
          exact K
  refine t_Wishes_allChoose (x_bg (by omega) hx (fun M1 f1 s1 g1 _ => u_Wishes_allChoose_11 ?_))
  exact loop 20 0 f M1 (by omega) f1 s1 hx.2.2.1 ⟨g1.cr, g1.cc⟩ rfl
end E30
