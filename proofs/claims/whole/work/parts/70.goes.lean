section SY
variable {L : Nat} {xs : Nat → Int32} {d : Nat} {Q : AQ} {M : AM} {T : PV} {f : Nat → Nat → Nat} {n b : Nat} {C G : Nat → Bool}
theorem dgo_ioB {N pl s : Nat} (hs : s ≤ 2 ^ 20) : ioB (dgo T N f C G pl s) := fun p a h => by have := (dgo_lt h).1; omega
theorem m_goes {pl k0 : Nat} (hd : 72 ≤ d) (hX : dayM n b f C G nob M) (hok : okP (n + b) f) (hL : lawM T M) (hk : k0 ≤ 1000) (hpl : pl ≤ 5) (h23 : M.1 40 23 = plI pl) (h28 : M.1 40 28 = nI 0)
    (kk : ∀ M', fs yK yJ M M' → dayM n b f C G (dgo T (n + b) f C G pl k0) M' → M'.1 40 28 = nI (dlg T (n + b) f C G pl k0) → Q none M') : am_Call (gG L xs) d c_Md_goes [.ref 40, .int (nI k0)] M Q := by
  obtain ⟨d, rfl⟩ : ∃ a, d = a + 1 := ⟨d - 1, by omega⟩
  have hN := hX.2.2.1.1
  have loop : ∀ j s M1, s + j = k0 → fs yK yJ M M1 → dayM n b f C G (dgo T (n + b) f C G pl s) M1 → M1.1 40 28 = nI (dlg T (n + b) f C G pl s) → v_Md_goes L xs d Q 2 [(0, .ref 40), (1, .int (nI k0)), (2, .int (nI s))] [] M1 := by
    intro j
    induction j with
    | zero =>
      intro s M1 hs g1 g2 g3
      have : s = k0 := by omega
      subst this
      exact u_Md_goes_2 ⟨fun _ => kk M1 g1 g2 g3, fun z => absurd (nI_le (Nat.le_refl _) (by omega)) z⟩
    | succ j ih =>
      intro s M1 hs g1 g2 g3
      have hl := dlg_le (T := T) (N := n + b) (f := f) (C := C) (G := G) (pl := pl) s
      refine u_Md_goes_2 ⟨fun z => absurd z (nI_ge (by omega) (by omega)), fun _ => ?_⟩
      refine m_strokes (by omega) g2 hok (hL.keep (by rw [g1.j 13]) (g1.i 47)) (by omega) (dgo_ioB (by omega)) hpl (by rw [g1.j 23]; exact h23) g3 (by omega) (fun M2 f2 x2 e2 => u_Md_goes_12 ?_)
      rw [nI_1]
      exact ih (s + 1) M2 (by omega) (g1.tt f2) x2 e2
  exact t_Md_goes (loop k0 0 M (by omega) fs.rf hX h28)
abbrev bJ : List Nat := [20, 21, 22, 28]
theorem m_begins (hd : 1 ≤ d) (h6 : M.1 40 6 = nI n) (hP : pM n f M) (kk : ∀ M', fs [49] bJ M M' → dayM n 0 f (ein n) noG nob M' → M'.1 40 28 = nI 0 → Q none M') : am_Call (gG L xs) d c_Md_begins1 [.ref 40] M Q := by
  obtain ⟨d, rfl⟩ : ∃ a, d = a + 1 := ⟨d - 1, by omega⟩
  have hN := hP.1
  refine t_Md_begins1 ?_
  rw [h6, sI_all (by omega)]
  generalize hM1 : am_wi (am_wi (am_wi (am_wi M 40 20 (sI (fun q => decide (q < n)))) 40 21 0) 40 22 0) 40 28 0 = M1
  have f1 : fs [49] bJ M M1 := by rw [← hM1]; exact (((fs.rf.s (by decide)).s (by decide)).s (by decide)).s (by decide)
  have e20 : M1.1 40 20 = sI (ein n) := by rw [← hM1, wi_sl (by decide), wi_sl (by decide), wi_sl (by decide), wi_eq]; rfl
  have e21 : M1.1 40 21 = 0 := by rw [← hM1, wi_sl (by decide), wi_sl (by decide), wi_eq]
  have e22 : M1.1 40 22 = nI 0 := by rw [← hM1, wi_sl (by decide), wi_eq]; rfl
  have e28 : M1.1 40 28 = nI 0 := by rw [← hM1, wi_eq]; rfl
  have loop : ∀ j p M2, p + j = 15 → fs [49] [] M1 M2 → (∀ q, q < p → M2.1 49 q = -2) → v_Md_begins1 L xs d Q 29 [(0, .ref 40), (1, .int (nI p))] [] M2 := by
    intro j
    induction j with
    | zero =>
      intro p M2 hp hf hq
      have : p = 15 := by omega
      subst this
      refine u_Md_begins1_29 ⟨fun _ => ?_, fun z => absurd ((n_leI (a := 15) (b := 15) (by decide) (by decide)).mpr (by decide)) z⟩
      refine kk M2 (f1.tt (hf.to (by decide) (by decide))) ⟨by rw [hf.j 6, f1.j 6]; exact h6, by rw [hf.j 22]; exact e22, hP.keep (by rw [hf.i 41, f1.i 41]), ⟨ein n, by rw [hf.j 20]; exact e20, fun _ _ => rfl⟩, ⟨noG, by rw [hf.j 21, e21, ← sI_z]; rfl, fun _ _ => rfl⟩, fun p h1 h2 => by omega, fun q h => hq q h⟩ (by rw [hf.j 28]; exact e28)
    | succ j ih =>
      intro p M2 hp hf hq
      refine u_Md_begins1_29 ⟨fun z => absurd ((n_leI (a := 15) (by decide) (by omega)).mp z) (by omega), fun _ => ⟨(n_vp (by omega)).mpr (by omega), ?_⟩⟩
      rw [n_cl (by omega), nI_1]
      refine ih (p + 1) _ (by omega) (hf.c (by decide) (by decide)) (fun q h => ?_)
      rw [wi_rd, if_pos rfl]
      by_cases z : q = p
      · rw [if_pos z]
      · rw [if_neg z]; exact hq q (by omega)
  exact loop 15 0 M1 (by omega) fs.rf (fun q h => by omega)
theorem m_inMany {io : Nat → Option Nat} (hd : 1 ≤ d) (h6 : M.1 40 6 = nI n) (hn : n ≤ 15) (hi : ∀ p, p < n → M.1 49 p = oI (io p)) (hio : ioB io) (kk : Q (some (.int (nI (cnt (fun p => (io p).isSome) n)))) M) : am_Call (gG L xs) d c_Md_inMany [.ref 40] M Q := by
  obtain ⟨d, rfl⟩ : ∃ a, d = a + 1 := ⟨d - 1, by omega⟩
  have loop : ∀ j p, p + j = n → v_Md_inMany L xs d Q 4 [(0, .ref 40), (1, .int (nI (cnt (fun p => (io p).isSome) p))), (2, .int (nI p))] [] M := by
    intro j
    induction j with
    | zero =>
      intro p hp
      have : p = n := by omega
      subst this
      exact u_Md_inMany_4 ⟨fun _ => kk, fun z => absurd (by rw [h6]; exact nI_le (Nat.le_refl _) (by omega)) z⟩
    | succ j ih =>
      intro p hp
      have nx := ih (p + 1) (by omega)
      rw [cnt_s] at nx
      refine u_Md_inMany_4 ⟨fun z => absurd z (by rw [h6]; exact nI_ge (by omega) (by omega)), fun _ => ⟨(n_vp (by omega)).mpr (by omega), ?_⟩⟩
      rw [n_cl (by omega), hi p (by omega), nI_1, nI_1, show nI (cnt (fun p => (io p).isSome) p) + 0 = nI (cnt (fun p => (io p).isSome) p + 0) from nI_add _ 0]
      cases z : io p with
      | none =>
        rw [z] at nx
        exact ⟨fun _ => nx, fun h => absurd (by decide) h⟩
      | some a =>
        rw [z] at nx
        have := hio p a z
        exact ⟨fun h => absurd h (nI_pos (by omega)), fun _ => nx⟩
  exact t_Md_inMany (loop n 0 (by omega))
/-- other sets come, or stand at the second gate -/
theorem dayM.w20 {C' : Nat → Bool} {io : Nat → Option Nat} (h : dayM n 0 f C G io M) : dayM n 0 f C' G io (am_wi M 40 20 (sI C')) := by
  obtain ⟨h1, h2, h3, -, ⟨G0, h5, h5'⟩, h6, h7⟩ := h
  exact ⟨by rw [wi_sl (by decide)]; exact h1, by rw [wi_sl (by decide)]; exact h2, h3.keep (wi_ne (by decide)), ⟨C', wi_eq, fun _ _ => rfl⟩, ⟨G0, by rw [wi_sl (by decide)]; exact h5, h5'⟩, fun p h1 h2 => by omega, fun p hp => by rw [wi_ne (by decide)]; exact h7 p hp⟩
theorem dayM.w21 {G' : Nat → Bool} {io : Nat → Option Nat} (h : dayM n 0 f C G io M) : dayM n 0 f C G' io (am_wi M 40 21 (sI G')) := by
  obtain ⟨h1, h2, h3, ⟨C0, h4, h4'⟩, -, h6, h7⟩ := h
  exact ⟨by rw [wi_sl (by decide)]; exact h1, by rw [wi_sl (by decide)]; exact h2, h3.keep (wi_ne (by decide)), ⟨C0, by rw [wi_sl (by decide)]; exact h4, h4'⟩, ⟨G', wi_eq, fun _ _ => rfl⟩, fun p h1 h2 => by omega, fun p hp => by rw [wi_ne (by decide)]; exact h7 p hp⟩
end SY
