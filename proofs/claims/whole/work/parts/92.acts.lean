section E16
variable {L : Nat} {xs : Nat → Int32} {d : Nat} {Q : AQ} {M M0 M1 M2 : AM} {x x1 x2 x3 x4 x5 x6 x7 x8 : Int32} {own nb a b c h k dp n : Nat} {s : Nat × (Nat → Int32)}
theorem k48_1 (k : Q (some (.int (x3 + (M.1 37 5)))) M) : v_Acts_plays L xs d Q 48 [(0, .ref 37), (3, .int x3), (6, .int x6), (7, .int 1), (8, .int x8)] [] M := u_Acts_plays_48 ⟨fun _ => k, fun z => absurd z (by decide), fun z => absurd z (by decide), fun z => absurd z (by decide), fun z => absurd z (by decide), fun z => absurd z (by decide), fun z => absurd z (by decide), fun z => absurd z (by decide), fun z => absurd z (by decide), fun z => absurd z (by decide), fun z => absurd z (by decide), fun z => absurd z (by decide), fun z => absurd z (by decide), fun z _ _ _ _ _ _ _ _ _ _ _ _ => absurd rfl z⟩
theorem k48_2 (k : am_Call (gG L xs) d c_Acts_plays [.ref 37, .int (M.1 37 4), .int 1, .int x3, .int x8] M (fun r M' => v_Acts_plays L xs d Q 183 [(0, .ref 37), (8, .int x8)] (r.toList ++ []) M')) : v_Acts_plays L xs d Q 48 [(0, .ref 37), (3, .int x3), (6, .int x6), (7, .int 2), (8, .int x8)] [] M := u_Acts_plays_48 ⟨fun z => absurd z (by decide), fun _ => k, fun z => absurd z (by decide), fun z => absurd z (by decide), fun z => absurd z (by decide), fun z => absurd z (by decide), fun z => absurd z (by decide), fun z => absurd z (by decide), fun z => absurd z (by decide), fun z => absurd z (by decide), fun z => absurd z (by decide), fun z => absurd z (by decide), fun z => absurd z (by decide), fun _ z _ _ _ _ _ _ _ _ _ _ _ => absurd rfl z⟩
theorem k48_10 (k : am_Call (gG L xs) d c_Acts_plays [.ref 37, .int (M.1 37 4), .int 0, .int x3, .int x8] M (fun r M' => v_Acts_plays L xs d Q 209 [] (r.toList ++ []) M')) : v_Acts_plays L xs d Q 48 [(0, .ref 37), (3, .int x3), (6, .int x6), (7, .int 10), (8, .int x8)] [] M := u_Acts_plays_48 ⟨fun z => absurd z (by decide), fun z => absurd z (by decide), fun _ => k, fun z => absurd z (by decide), fun z => absurd z (by decide), fun z => absurd z (by decide), fun z => absurd z (by decide), fun z => absurd z (by decide), fun z => absurd z (by decide), fun z => absurd z (by decide), fun z => absurd z (by decide), fun z => absurd z (by decide), fun z => absurd z (by decide), fun _ _ z _ _ _ _ _ _ _ _ _ _ => absurd rfl z⟩
theorem k48_11 (k : Q (some (.int (x3 ^^^ (M.1 37 5)))) M) : v_Acts_plays L xs d Q 48 [(0, .ref 37), (3, .int x3), (6, .int x6), (7, .int 11), (8, .int x8)] [] M := u_Acts_plays_48 ⟨fun z => absurd z (by decide), fun z => absurd z (by decide), fun z => absurd z (by decide), fun _ => k, fun z => absurd z (by decide), fun z => absurd z (by decide), fun z => absurd z (by decide), fun z => absurd z (by decide), fun z => absurd z (by decide), fun z => absurd z (by decide), fun z => absurd z (by decide), fun z => absurd z (by decide), fun z => absurd z (by decide), fun _ _ _ z _ _ _ _ _ _ _ _ _ => absurd rfl z⟩
theorem k48_20 (k : am_Call (gG L xs) d c_Acts_plays [.ref 37, .int x6, .int 0, .int x3, .int x8] M (fun r M' => v_Acts_plays L xs d Q 229 [] (r.toList ++ []) M')) : v_Acts_plays L xs d Q 48 [(0, .ref 37), (3, .int x3), (6, .int x6), (7, .int 20), (8, .int x8)] [] M := u_Acts_plays_48 ⟨fun z => absurd z (by decide), fun z => absurd z (by decide), fun z => absurd z (by decide), fun z => absurd z (by decide), fun _ => k, fun z => absurd z (by decide), fun z => absurd z (by decide), fun z => absurd z (by decide), fun z => absurd z (by decide), fun z => absurd z (by decide), fun z => absurd z (by decide), fun z => absurd z (by decide), fun z => absurd z (by decide), fun _ _ _ _ z _ _ _ _ _ _ _ _ => absurd rfl z⟩
theorem k48_30 (k : am_Call (gG L xs) d c_Acts_plays [.ref 37, .int x6, .int 1, .int x3, .int x8] M (fun r M' => v_Acts_plays L xs d Q 242 [] (r.toList ++ []) M')) : v_Acts_plays L xs d Q 48 [(0, .ref 37), (3, .int x3), (6, .int x6), (7, .int 30), (8, .int x8)] [] M := u_Acts_plays_48 ⟨fun z => absurd z (by decide), fun z => absurd z (by decide), fun z => absurd z (by decide), fun z => absurd z (by decide), fun z => absurd z (by decide), fun _ => k, fun z => absurd z (by decide), fun z => absurd z (by decide), fun z => absurd z (by decide), fun z => absurd z (by decide), fun z => absurd z (by decide), fun z => absurd z (by decide), fun z => absurd z (by decide), fun _ _ _ _ _ z _ _ _ _ _ _ _ => absurd rfl z⟩
theorem k48_40 (k : am_Call (gG L xs) d c_Acts_plays [.ref 37, .int x6, .int 2, .int x3, .int x8] M (fun r M' => v_Acts_plays L xs d Q 254 [] (r.toList ++ []) M')) : v_Acts_plays L xs d Q 48 [(0, .ref 37), (3, .int x3), (6, .int x6), (7, .int 40), (8, .int x8)] [] M := u_Acts_plays_48 ⟨fun z => absurd z (by decide), fun z => absurd z (by decide), fun z => absurd z (by decide), fun z => absurd z (by decide), fun z => absurd z (by decide), fun z => absurd z (by decide), fun _ => k, fun z => absurd z (by decide), fun z => absurd z (by decide), fun z => absurd z (by decide), fun z => absurd z (by decide), fun z => absurd z (by decide), fun z => absurd z (by decide), fun _ _ _ _ _ _ z _ _ _ _ _ _ => absurd rfl z⟩
theorem k48_41 (k : am_Call (gG L xs) d c_Acts_plays [.ref 37, .int x6, .int 1, .int (x3 + 1), .int x8] M (fun r M' => v_Acts_plays L xs d Q 269 [] (r.toList ++ []) M')) : v_Acts_plays L xs d Q 48 [(0, .ref 37), (3, .int x3), (6, .int x6), (7, .int 41), (8, .int x8)] [] M := u_Acts_plays_48 ⟨fun z => absurd z (by decide), fun z => absurd z (by decide), fun z => absurd z (by decide), fun z => absurd z (by decide), fun z => absurd z (by decide), fun z => absurd z (by decide), fun z => absurd z (by decide), fun _ => k, fun z => absurd z (by decide), fun z => absurd z (by decide), fun z => absurd z (by decide), fun z => absurd z (by decide), fun z => absurd z (by decide), fun _ _ _ _ _ _ _ z _ _ _ _ _ => absurd rfl z⟩
theorem k48_50 (k : am_Call (gG L xs) d c_Acts_plays [.ref 37, .int x6, .int 2, .int x3, .int x8] M (fun r M' => v_Acts_plays L xs d Q 280 [(0, .ref 37), (8, .int x8)] (r.toList ++ []) M')) : v_Acts_plays L xs d Q 48 [(0, .ref 37), (3, .int x3), (6, .int x6), (7, .int 50), (8, .int x8)] [] M := u_Acts_plays_48 ⟨fun z => absurd z (by decide), fun z => absurd z (by decide), fun z => absurd z (by decide), fun z => absurd z (by decide), fun z => absurd z (by decide), fun z => absurd z (by decide), fun z => absurd z (by decide), fun z => absurd z (by decide), fun _ => k, fun z => absurd z (by decide), fun z => absurd z (by decide), fun z => absurd z (by decide), fun z => absurd z (by decide), fun _ _ _ _ _ _ _ _ z _ _ _ _ => absurd rfl z⟩
theorem k48_60 (k : am_Call (gG L xs) d c_Acts_plays [.ref 37, .int x6, .int 3, .int x3, .int x8] M (fun r M' => v_Acts_plays L xs d Q 304 [] (r.toList ++ []) M')) : v_Acts_plays L xs d Q 48 [(0, .ref 37), (3, .int x3), (6, .int x6), (7, .int 60), (8, .int x8)] [] M := u_Acts_plays_48 ⟨fun z => absurd z (by decide), fun z => absurd z (by decide), fun z => absurd z (by decide), fun z => absurd z (by decide), fun z => absurd z (by decide), fun z => absurd z (by decide), fun z => absurd z (by decide), fun z => absurd z (by decide), fun z => absurd z (by decide), fun _ => k, fun z => absurd z (by decide), fun z => absurd z (by decide), fun z => absurd z (by decide), fun _ _ _ _ _ _ _ _ _ z _ _ _ => absurd rfl z⟩
theorem k48_70 (k : am_Call (gG L xs) d c_Acts_plays [.ref 37, .int x6, .int 0, .int x3, .int x8] M (fun r M' => v_Acts_plays L xs d Q 317 [] (r.toList ++ []) M')) : v_Acts_plays L xs d Q 48 [(0, .ref 37), (3, .int x3), (6, .int x6), (7, .int 70), (8, .int x8)] [] M := u_Acts_plays_48 ⟨fun z => absurd z (by decide), fun z => absurd z (by decide), fun z => absurd z (by decide), fun z => absurd z (by decide), fun z => absurd z (by decide), fun z => absurd z (by decide), fun z => absurd z (by decide), fun z => absurd z (by decide), fun z => absurd z (by decide), fun z => absurd z (by decide), fun _ => k, fun z => absurd z (by decide), fun z => absurd z (by decide), fun _ _ _ _ _ _ _ _ _ _ z _ _ => absurd rfl z⟩
theorem k48_80 (k : am_Call (gG L xs) d c_Acts_plays [.ref 37, .int x6, .int 1, .int x3, .int x8] M (fun r M' => v_Acts_plays L xs d Q 330 [(0, .ref 37), (8, .int x8)] (r.toList ++ []) M')) : v_Acts_plays L xs d Q 48 [(0, .ref 37), (3, .int x3), (6, .int x6), (7, .int 80), (8, .int x8)] [] M := u_Acts_plays_48 ⟨fun z => absurd z (by decide), fun z => absurd z (by decide), fun z => absurd z (by decide), fun z => absurd z (by decide), fun z => absurd z (by decide), fun z => absurd z (by decide), fun z => absurd z (by decide), fun z => absurd z (by decide), fun z => absurd z (by decide), fun z => absurd z (by decide), fun z => absurd z (by decide), fun _ => k, fun z => absurd z (by decide), fun _ _ _ _ _ _ _ _ _ _ _ z _ => absurd rfl z⟩
theorem k48_81 (k : am_Call (gG L xs) d c_Acts_plays [.ref 37, .int x6, .int 3, .int x3, .int x8] M (fun r M' => v_Acts_plays L xs d Q 354 [] (r.toList ++ []) M')) : v_Acts_plays L xs d Q 48 [(0, .ref 37), (3, .int x3), (6, .int x6), (7, .int 81), (8, .int x8)] [] M := u_Acts_plays_48 ⟨fun z => absurd z (by decide), fun z => absurd z (by decide), fun z => absurd z (by decide), fun z => absurd z (by decide), fun z => absurd z (by decide), fun z => absurd z (by decide), fun z => absurd z (by decide), fun z => absurd z (by decide), fun z => absurd z (by decide), fun z => absurd z (by decide), fun z => absurd z (by decide), fun z => absurd z (by decide), fun _ => k, fun _ _ _ _ _ _ _ _ _ _ _ _ z => absurd rfl z⟩
/-- a body is noted -/
def nt (b : Nat) (s : Nat × (Nat → Int32)) : Nat × (Nat → Int32) := (s.1 + 1, fun i => if i = s.1 then nI b else s.2 i)
def w0 (nb : Nat) (x : Int32) (s : Nat × (Nat → Int32)) : Int32 × Nat × (Nat → Int32) := (x + nI nb, nt 1 s)
def fW (nb k : Nat) (x : Int32) (s : Nat × (Nat → Int32)) : Int32 × Nat × (Nat → Int32) := if k = 1 ∨ k = 4 ∨ k = 7 then ((w0 nb x (nt 20 s)).1 + 3, (w0 nb x (nt 20 s)).2) else if k = 6 then ((w0 nb x (nt 70 s)).1 * 2, (w0 nb x (nt 70 s)).2) else w0 nb x s
def o0 (nb : Nat) (x : Int32) (s : Nat × (Nat → Int32)) : Int32 × Nat × (Nat → Int32) := (x ^^^ nI nb, nt 11 s)
def fO (own nb k : Nat) (x : Int32) (s : Nat × (Nat → Int32)) : Int32 × Nat × (Nat → Int32) := if k = 3 ∨ k = 5 then ((o0 nb x (nt 40 s)).1 * 3, (o0 nb x (nt 40 s)).2) else if k = 4 ∨ k = 7 then ((o0 nb x (nt 50 s)).1 - (fW nb own 2 (o0 nb x (nt 50 s)).2).1, (fW nb own 2 (o0 nb x (nt 50 s)).2).2) else o0 nb x s
def c0 (own nb : Nat) (x : Int32) (s : Nat × (Nat → Int32)) : Int32 × Nat × (Nat → Int32) := ((fW nb own x (nt 10 s)).1 * 2, (fW nb own x (nt 10 s)).2)
def c2 (own nb : Nat) (x : Int32) (s : Nat × (Nat → Int32)) : Int32 × Nat × (Nat → Int32) := (-(c0 own nb x (nt 30 s)).1, (c0 own nb x (nt 30 s)).2)
def fC (own nb k : Nat) (x : Int32) (s : Nat × (Nat → Int32)) : Int32 × Nat × (Nat → Int32) := if k = 3 ∨ k = 5 then c2 own nb (x + 1) (nt 41 s) else if k = 2 then c2 own nb x s else if k = 7 then ((c0 own nb x (nt 80 s)).1 + (fO own nb own 2 (c0 own nb x (nt 80 s)).2).1, (fO own nb own 2 (c0 own nb x (nt 80 s)).2).2) else c0 own nb x s
def t0 (own nb : Nat) (x : Int32) (s : Nat × (Nat → Int32)) : Int32 × Nat × (Nat → Int32) := ((fC own nb own x (nt 2 s)).1 - (fO own nb own 1 (fC own nb own x (nt 2 s)).2).1, (fO own nb own 1 (fC own nb own x (nt 2 s)).2).2)
def fT (own nb k : Nat) (x : Int32) (s : Nat × (Nat → Int32)) : Int32 × Nat × (Nat → Int32) := if k = 5 then ((t0 own nb x (nt 60 s)).1 ^^^ 5, (t0 own nb x (nt 60 s)).2) else if k = 7 then ((t0 own nb x (nt 81 s)).1 - 1, (t0 own nb x (nt 81 s)).2) else t0 own nb x s
theorem nt_1 : (nt b s).1 = s.1 + 1 := rfl
theorem fW_le : (fW nb k x s).2.1 ≤ s.1 + 2 := by
  unfold fW w0
  split
  · exact Nat.le_refl _
  · split
    · exact Nat.le_refl _
    · exact Nat.le_succ _
theorem fO_le : (fO own nb k x s).2.1 ≤ s.1 + 4 := by
  unfold fO o0
  split
  · show s.1 + 1 + 1 ≤ _; omega
  · split
    · have := fW_le (nb := nb) (k := own) (x := 2) (s := nt 11 (nt 50 s))
      simp only [nt_1] at this
      exact this
    · show s.1 + 1 ≤ _; omega
theorem c0_le : (c0 own nb x s).2.1 ≤ s.1 + 3 := by
  have := fW_le (nb := nb) (k := own) (x := x) (s := nt 10 s)
  rw [nt_1] at this
  unfold c0
  dsimp only
  omega
theorem c2_le : (c2 own nb x s).2.1 ≤ s.1 + 4 := by
  have := c0_le (own := own) (nb := nb) (x := x) (s := nt 30 s)
  rw [nt_1] at this
  unfold c2
  dsimp only
  omega
theorem fC_le : (fC own nb k x s).2.1 ≤ s.1 + 8 := by
  unfold fC
  split
  · have := c2_le (own := own) (nb := nb) (x := x + 1) (s := nt 41 s)
    rw [nt_1] at this
    omega
  · split
    · have := c2_le (own := own) (nb := nb) (x := x) (s := s)
      omega
    · split
      · have := c0_le (own := own) (nb := nb) (x := x) (s := nt 80 s)
        have h2 := fO_le (own := own) (nb := nb) (k := own) (x := 2) (s := (c0 own nb x (nt 80 s)).2)
        rw [nt_1] at this
        dsimp only
        omega
      · have := c0_le (own := own) (nb := nb) (x := x) (s := s)
        omega
theorem t0_le : (t0 own nb x s).2.1 ≤ s.1 + 13 := by
  have := fC_le (own := own) (nb := nb) (k := own) (x := x) (s := nt 2 s)
  have h2 := fO_le (own := own) (nb := nb) (k := own) (x := 1) (s := (fC own nb own x (nt 2 s)).2)
  rw [nt_1] at this
  unfold t0
  dsimp only
  omega
theorem fT_le : (fT own nb k x s).2.1 ≤ s.1 + 14 := by
  unfold fT
  split
  · have := t0_le (own := own) (nb := nb) (x := x) (s := nt 60 s)
    rw [nt_1] at this
    dsimp only
    omega
  · split
    · have := t0_le (own := own) (nb := nb) (x := x) (s := nt 81 s)
      rw [nt_1] at this
      dsimp only
      omega
    · have := t0_le (own := own) (nb := nb) (x := x) (s := s)
      omega
/-! the class -/
def RX (own nb : Nat) (s : Nat × (Nat → Int32)) (M0 M : AM) : Prop := fr [37, 39] M0 M ∧ M.1 37 1 = M0.1 37 1 ∧ M.1 37 4 = nI own ∧ M.1 37 5 = nI nb ∧ M.1 37 3 = nI s.1 ∧ ∀ i, i < 24 → i < s.1 → M.1 39 i = s.2 i
theorem x_notes (h : RX own nb s M0 M) (hb : s.1 < 2 ^ 20) (kk : ∀ M', RX own nb (nt b s) M0 M' → Q none M') : am_Call (gG L xs) (d + 1) c_Acts_notes [.ref 37, .int (nI b)] M Q := by
  obtain ⟨f1, h1, h4, h5, h3, ht⟩ := h
  refine t_Acts_notes ?_
  rw [h3, n_cl (show s.1 < 2 ^ 31 by omega), nI_1]
  refine ⟨fun z => ?_, fun z => ⟨?_, ?_⟩⟩
  · have z := (n_leI (a := 24) (by decide) (by omega)).mp z
    refine kk _ ⟨f1.wi (by decide), by rw [wi_sl (by decide)]; exact h1, by rw [wi_sl (by decide)]; exact h4, by rw [wi_sl (by decide)]; exact h5, wi_eq, fun i hi hi2 => ?_⟩
    rw [nt_1] at hi2
    rw [wi_ne (by decide)]
    show _ = if i = s.1 then _ else _
    rw [if_neg (by omega)]
    exact ht i hi (by omega)
  · have z : ¬ 24 ≤ s.1 := fun y => z ((n_leI (a := 24) (by decide) (by omega)).mpr y)
    exact (n_vp (by omega)).mpr (by omega)
  · refine kk _ ⟨(f1.wi (by decide)).wi (by decide), by rw [wi_sl (by decide), wi_ne (by decide)]; exact h1, by rw [wi_sl (by decide), wi_ne (by decide)]; exact h4, by rw [wi_sl (by decide), wi_ne (by decide)]; exact h5, wi_eq, fun i hi hi2 => ?_⟩
    rw [nt_1] at hi2
    rw [wi_ne (by decide), wi_rd, if_pos rfl]
    show _ = if i = s.1 then _ else _
    by_cases e : i = s.1
    · rw [if_pos e, if_pos e]
    · rw [if_neg e, if_neg e]; exact ht i hi (by omega)
/-- the kind that has a body -/
def hlF : Nat → Nat → Nat → Nat
  | 0, _, _ => 0
  | j + 1, k, a => if sBODY (k * 4 + a) = 0 then (if k = 0 then 0 else hlF j (sABOVE k).toNatClampNeg a) else k
theorem ab_ok : ∀ k : Fin 8, k.val ≠ 0 → sABOVE k.val = nI (sABOVE k.val).toNatClampNeg ∧ (sABOVE k.val).toNatClampNeg < 8 := by decide
theorem bd_0 : ∀ a : Fin 4, ¬ sBODY (0 * 4 + a.val) = 0 := by decide
theorem s_holder (ha : a < 4) : ∀ (j k : Nat) (i : Nat), i + j = 8 → k < 8 → (Q (some (.int (nI (hlF j k a)))) M) → v_Acts_holder L xs (d + 1) Q 4 [(1, .int (nI a)), (2, .int (nI k)), (3, .int (nI i))] [] M
  | 0, k, i, hi, hk, kk => by
    have : i = 8 := by omega
    subst this
    exact u_Acts_holder_4 ⟨fun _ => kk, fun z => absurd ((n_leI (a := 8) (b := 8) (by decide) (by decide)).mpr (Nat.le_refl _)) z⟩
  | j + 1, k, i, hi, hk, kk => by
    have e4 : nI k * 4 + nI a = nI (k * 4 + a) := by rw [show nI k * 4 = nI (k * 4) from n_mul k 4, nI_add]
    refine u_Acts_holder_4 ⟨fun z => absurd ((n_leI (a := 8) (by decide) (by omega)).mp z) (by omega), fun _ => ⟨fun z => absurd z (nI_pos (by omega)), fun _ => ⟨fun z => absurd ((n_leI (a := 8) (by decide) (by omega)).mp z) (by omega), fun _ => ?_⟩⟩⟩
    rw [e4, n_cl (show k * 4 + a < 2 ^ 31 by omega), n_cl (show k < 2 ^ 31 by omega)]
    refine ⟨(n_vp (by omega)).mpr (by omega), fun z => ⟨(n_vp (by omega)).mpr (by omega), ?_⟩, fun z => ?_⟩
    · have k0 : k ≠ 0 := fun y => by
        subst y
        exact bd_0 ⟨a, ha⟩ z
      obtain ⟨b1, b2⟩ := ab_ok ⟨k, hk⟩ k0
      unfold hlF at kk
      rw [if_pos z, if_neg k0] at kk
      rw [nI_1]
      rw [b1]
      exact s_holder ha j _ (i + 1) (by omega) b2 kk
    · unfold hlF at kk
      rw [if_neg z] at kk
      exact kk
theorem x_run {h : Nat} (hk : k < 8) (ha : a < 4) (hh : hlF 8 k a = h) (h8 : h < 8) (hdp : dp ≤ 40) (hbo : sBODY (h * 4 + a) = nI b) (hr : RX own nb s M0 M) (hs : s.1 < 2 ^ 20) (kk : ∀ M', RX own nb (nt b s) M0 M' → v_Acts_plays L xs (d + 2) Q 48 [(0, .ref 37), (3, .int x), (6, .int (sABOVE h)), (7, .int (nI b)), (8, .int (nI (dp + 1)))] [] M') : am_Call (gG L xs) (d + 3) c_Acts_plays [.ref 37, .int (nI k), .int (nI a), .int x, .int (nI dp)] M Q := by
  refine t_Acts_plays ⟨fun _ => t_Acts_holder (s_holder ha 8 k 0 rfl hk (u_Acts_plays_14 ?_)), fun z => absurd ((n_leI (b := 40) (by omega) (by decide)).mpr hdp) z⟩
  have e4 : nI h * 4 + nI a = nI (h * 4 + a) := by rw [show nI h * 4 = nI (h * 4) from n_mul h 4, nI_add]
  rw [hh, e4, n_cl (show h * 4 + a < 2 ^ 31 by omega), n_cl (show h < 2 ^ 31 by omega), hbo, nI_1]
  exact ⟨(n_vp (by omega)).mpr h8, (n_vp (by omega)).mpr (by omega), x_notes hr hs kk⟩

theorem x_W (hk : k < 8) (hdp : dp ≤ 40) (hdp1 : dp ≤ 39) (hr : RX own nb s M0 M) (hs : s.1 + 100 < 2 ^ 20) (kk : ∀ M', RX own nb (fW nb k x s).2 M0 M' → Q (some (.int (fW nb k x s).1)) M') : am_Call (gG L xs) (d + 6) c_Acts_plays [.ref 37, .int (nI k), .int 0, .int x, .int (nI dp)] M Q := by
  have h8 : k = 0 ∨ k = 1 ∨ k = 2 ∨ k = 3 ∨ k = 4 ∨ k = 5 ∨ k = 6 ∨ k = 7 := by omega
  rcases h8 with rfl | rfl | rfl | rfl | rfl | rfl | rfl | rfl
  · refine x_run (a := 0) (h := 0) (b := 1) (by decide) (by decide) (by decide) (by decide) hdp rfl hr (by omega) (fun M1 r1 => ?_)
    exact k48_1 (by rw [r1.2.2.2.1]; exact kk _ r1)
  · refine x_run (a := 0) (h := 1) (b := 20) (by decide) (by decide) (by decide) (by decide) hdp rfl hr (by omega) (fun M1 r1 => ?_)
    exact k48_20 (x_run (k := 0) (a := 0) (h := 0) (b := 1) (by decide) (by decide) (by decide) (by decide) (by omega) rfl r1 (by rw [nt_1]; omega) (fun M2 r2 => k48_1 (by rw [r2.2.2.2.1]; exact u_Acts_plays_229 (kk _ r2))))
  · refine x_run (a := 0) (h := 0) (b := 1) (by decide) (by decide) (by decide) (by decide) hdp rfl hr (by omega) (fun M1 r1 => ?_)
    exact k48_1 (by rw [r1.2.2.2.1]; exact kk _ r1)
  · refine x_run (a := 0) (h := 0) (b := 1) (by decide) (by decide) (by decide) (by decide) hdp rfl hr (by omega) (fun M1 r1 => ?_)
    exact k48_1 (by rw [r1.2.2.2.1]; exact kk _ r1)
  · refine x_run (a := 0) (h := 1) (b := 20) (by decide) (by decide) (by decide) (by decide) hdp rfl hr (by omega) (fun M1 r1 => ?_)
    exact k48_20 (x_run (k := 0) (a := 0) (h := 0) (b := 1) (by decide) (by decide) (by decide) (by decide) (by omega) rfl r1 (by rw [nt_1]; omega) (fun M2 r2 => k48_1 (by rw [r2.2.2.2.1]; exact u_Acts_plays_229 (kk _ r2))))
  · refine x_run (a := 0) (h := 0) (b := 1) (by decide) (by decide) (by decide) (by decide) hdp rfl hr (by omega) (fun M1 r1 => ?_)
    exact k48_1 (by rw [r1.2.2.2.1]; exact kk _ r1)
  · refine x_run (a := 0) (h := 6) (b := 70) (by decide) (by decide) (by decide) (by decide) hdp rfl hr (by omega) (fun M1 r1 => ?_)
    exact k48_70 (x_run (k := 0) (a := 0) (h := 0) (b := 1) (by decide) (by decide) (by decide) (by decide) (by omega) rfl r1 (by rw [nt_1]; omega) (fun M2 r2 => k48_1 (by rw [r2.2.2.2.1]; exact u_Acts_plays_317 (kk _ r2))))
  · refine x_run (a := 0) (h := 1) (b := 20) (by decide) (by decide) (by decide) (by decide) hdp rfl hr (by omega) (fun M1 r1 => ?_)
    exact k48_20 (x_run (k := 0) (a := 0) (h := 0) (b := 1) (by decide) (by decide) (by decide) (by decide) (by omega) rfl r1 (by rw [nt_1]; omega) (fun M2 r2 => k48_1 (by rw [r2.2.2.2.1]; exact u_Acts_plays_229 (kk _ r2))))
end E16