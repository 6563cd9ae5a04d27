section E9
variable {L : Nat} {xs : Nat → Int32} {d : Nat} {Q : AQ} {M M1 M2 : AM} {x1 x2 x3 x4 x5 : Int32} {n w p v nw bn : Nat} {f : Nat → Nat → Nat} {io : Nat → Option Nat} {aw : Nat → Bool} {T : PV}
theorem cpi_rd (M : AM) (a b n c j : Nat) : (am_cpi M a b 0 0 n).1 c j = if c = b then (if j < n then M.1 a j else M.1 b j) else M.1 c j := by
  show am_ur M.1 b (va_cpy (M.1 a) (M.1 b) 0 0 n) c j = _
  by_cases h : c = b
  · subst h
    rw [if_pos rfl, am_ur_eq]
    show (if 0 ≤ j ∧ j < 0 + n then M.1 a (0 + (j - 0)) else M.1 c j) = _
    by_cases h2 : j < n
    · rw [if_pos h2, if_pos (by omega), Nat.sub_zero, Nat.zero_add]
    · rw [if_neg h2, if_neg (by omega)]
  · rw [if_neg h, am_ur_ne h]
theorem j_dawn (hI : Inv M) (hd : 100 ≤ d) : Jn L xs d c_Mo_dawn c_Md_dawn [.ref 0] [.ref 40] M := by
  obtain ⟨n, f, T, bn, hP, hL, hT, hC, hD, hA, hS, h23⟩ := hI
  obtain ⟨d, rfl⟩ : ∃ a, d = a + 9 := ⟨d - 9, by omega⟩
  obtain ⟨⟨nw, io, aw, d1, d2, d3, d4, d5, d6, d7, d8, d9, d10, d11, d12, d13, d14⟩, hD2⟩ := hD
  refine Jn.of2 (v := nI (cnt (fun p => (io p).isSome) 15)) (P := fun M1 => M1 = am_fl (am_wi (am_wi (am_wi (am_wi M 28 5 0) 28 6 0) 28 7 0) 28 3 ((M.1 28 3) + 1)) 29 12 (-2)) (fun Q k => ?_) (fun M1 e Q k => ?_)
  · refine t_Mo_dawn (t_Deed_dawns (t_Deed_numberIn ?_))
    rw [d9]
    exact s_bitCount (u_Deed_numberIn_10 (u_Deed_dawns_4 (s_fillI (n := 12) rfl (by decide) (u_Deed_dawns_47 (u_Mo_dawn_7 (k _ rfl))))))
  · have F1 : fs [28, 29] [] M M1 := by
      rw [e]
      exact fs.of (K := [28, 29]) (((((fr.rf.wi (by decide)).wi (by decide)).wi (by decide)).wi (by decide)).fl (by decide)) (by decide) (by decide)
    have hP1 := hP.keep F1 (by decide) (by decide) (fun k _ => by rw [F1.i 41])
    have h29 : ∀ p, p < 12 → M1.1 29 p = -2 := fun p hp => by rw [e, fl_rd, if_pos rfl, if_pos hp]
    have h28 : ∀ k, M1.1 28 k = if k = 3 then M.1 28 3 + 1 else if k = 7 then 0 else if k = 6 then 0 else if k = 5 then 0 else M.1 28 k := fun k => by rw [e, fl_rd, if_neg (by decide)]; simp only [wi_rd, if_true]
    have loop : ∀ j p (M2 : AM), p + j = 12 → fs [45] [] M1 M2 → (∀ q, q < p → M2.1 45 q = -2) → v_Md_dawn L xs (d + 8) Q 7 [(0, .ref 40), (1, .int (nI (cnt (fun p => (io p).isSome) 15))), (2, .int (nI p))] [] M2 := by
      intro j
      induction j with
      | zero =>
        intro p M2 hj F2 h45
        refine u_Md_dawn_7 ⟨fun _ => k _ ?_, fun z => ?_⟩
        · have F : fs [28, 29, 45] [9, 7, 34] M (am_wi (am_wi (am_wi M2 40 9 0) 40 7 0) 40 34 ((M2.1 40 34) + 1)) := ((((F1.to (by decide) (by decide)).tt (F2.to (by decide) (by decide))).s (by decide)).s (by decide)).s (by decide)
          have z0 : sI (fun p => ((fun _ => none : Nat → Option Nat) p).isSome) = 0 := sI_z
          have z1 : sI (fun _ => false) = 0 := sI_z
          refine ⟨n, f, T, bn, hP.keep F (by decide) (by decide) (fun k _ => by rw [F.i 41]), hL.keep F (by decide) (by decide), hT.keep F (by decide) (by decide), hC.keep F (by decide) (by decide), iD.mk ⟨0, fun _ => none, fun _ => false, by decide, ?_, ?_, ?_, ?_, ?_, ?_, ?_, ?_, ?_, ?_, fun _ _ => rfl, fun _ _ z => (by cases z), fun q hq => ⟨?_, ?_⟩⟩ (iD2.keep hD2 F), hA.keep F (by decide) (by decide), hS.keep F (by decide), by rw [F.j 23]; exact h23⟩
          · simp [wi_rd, F2.i 28, h28]; rfl
          · simp [wi_rd]; rfl
          · simp [wi_rd, F2.i 28, h28, F2.j 31, F1.j 31, d4]
          · simp [wi_rd, F2.i 28, h28, F2.j 32, F1.j 32, d5]
          · simp [wi_rd, F2.i 28, h28, F2.j 33, F1.j 33, d6]
          · simp [wi_rd, F2.i 28, h28, F2.j 34, F1.j 34, d7]
          · simp [wi_rd, F2.i 28, h28, F2.j 35, F1.j 35, d8]
          · rw [z0]; simp [wi_rd, F2.i 28, h28]
          · rw [z1]; simp [wi_rd, F2.i 28, h28]
          · rw [z1]; simp [wi_rd]
          · rw [wi_ne (by decide), wi_ne (by decide), wi_ne (by decide), F2.i 29]; exact h29 q hq
          · rw [wi_ne (by decide), wi_ne (by decide), wi_ne (by decide)]; exact h45 q (by omega)
        · exact absurd ((n_leI (a := 12) (by decide) (by omega)).mpr (by omega)) z
      | succ j ih =>
        intro p M2 hj F2 h45
        refine u_Md_dawn_7 ⟨fun z => ?_, fun _ => ⟨(n_vp (by omega)).mpr (by omega), ?_⟩⟩
        · exact absurd ((n_leI (a := 12) (by decide) (by omega)).mp z) (by omega)
        · rw [nI_1, n_cl (by omega)]
          refine ih (p + 1) _ (by omega) (F2.c (by decide) (by decide)) (fun q hq => ?_)
          rw [wi_rd, if_pos rfl]
          by_cases e : q = p
          · rw [if_pos e]
          · rw [if_neg e]; exact h45 q (by omega)
    refine t_Md_dawn (m_insideMany (io := io) (by omega) hP1 (fun p hp => by rw [F1.i 45]; exact (d14 p hp).2) d12 d13 (u_Md_dawn_4 (loop 12 0 M1 rfl fs.rf (fun q hq => by omega))))
def lede (k : Nat) : Nat := if k = 5 then 7 else 31 + k
theorem j_image (hI : Inv M) (hd : 100 ≤ d) : Jn L xs d c_Mo_image c_Md_image [.ref 0] [.ref 40] M := by
  obtain ⟨n, f, T, bn, hP, hL, hT, hC, hD, hA, hS, h23⟩ := hI
  obtain ⟨d, rfl⟩ : ∃ a, d = a + 9 := ⟨d - 9, by omega⟩
  have hD0 := hD
  obtain ⟨⟨nw, io, aw, d1, d2, d3, d4, d5, d6, d7, d8, d9, d10, d11, d12, d13, d14⟩, hD2⟩ := hD
  refine Jn.of2 (v := nI nw) (P := fun M1 => M1 = am_wi (am_cpi (am_cpi M 28 30 0 0 8) 29 31 0 0 12) 27 6 1) (fun Q k => ?_) (fun M1 e Q k => ?_)
  · refine t_Mo_image ?_
    rw [d2]
    exact k _ rfl
  · have F1 : fs [27, 30, 31] [] M M1 := by
      rw [e]
      exact fs.of (K := [27, 30, 31]) (((fr.rf.cpi (by decide)).cpi (by decide)).wi (by decide)) (by decide) (by decide)
    have h30 : ∀ k, k < 8 → M1.1 30 k = M.1 28 k := fun k hk => by rw [e]; simp [wi_rd, cpi_rd, hk]
    have h31 : ∀ k, k < 12 → M1.1 31 k = M.1 29 k := fun k hk => by rw [e]; simp [wi_rd, cpi_rd, hk]
    have h27 : M1.1 27 6 = 1 := by rw [e]; simp [wi_rd]
    have F2 : fs [54] [36, 37, 38] M1 (am_wi (am_wi (am_wi M1 40 36 1) 40 37 (M1.1 40 6)) 40 38 (M1.1 40 9)) := ((fs.rf.s (by decide)).s (by decide)).s (by decide)
    have g36 : (am_wi (am_wi (am_wi M1 40 36 1) 40 37 (M1.1 40 6)) 40 38 (M1.1 40 9)).1 40 36 = 1 := by simp [wi_rd]
    have g37 : (am_wi (am_wi (am_wi M1 40 36 1) 40 37 (M1.1 40 6)) 40 38 (M1.1 40 9)).1 40 37 = nI n := by simp [wi_rd]; rw [F1.j 6]; exact hP.2.2.2.2.1
    have g38 : (am_wi (am_wi (am_wi M1 40 36 1) 40 37 (M1.1 40 6)) 40 38 (M1.1 40 9)).1 40 38 = sI aw := by simp [wi_rd]; rw [F1.j 9]; exact d11
    generalize hM0 : am_wi (am_wi (am_wi M1 40 36 1) 40 37 (M1.1 40 6)) 40 38 (M1.1 40 9) = M0 at F2 g36 g37 g38
    have loop2 : ∀ j p (M2 : AM), p + j = 6 → fs [54] [] M0 M2 → (∀ q, q < 12 → M2.1 54 q = oI (io q)) → (∀ q, q < p → M2.1 54 (12 + q) = M.1 40 (lede q)) → v_Md_image L xs (d + 8) Q 49 [(0, .ref 40), (1, .int (nI p))] [] M2 := by
      intro j
      induction j with
      | zero =>
        intro p M2 hj F3 h54 hl
        have F : fs [27, 30, 31, 54] [36, 37, 38] M M2 := ((F1.to (by decide) (by decide)).tt (F2.to (by decide) (by decide))).tt (F3.to (by decide) (by decide))
        refine u_Md_image_49 ⟨fun _ => ?_, fun z => ?_⟩
        · rw [F.j 7, d3]
          refine k _ ⟨n, f, T, bn, hP.keep F (by decide) (by decide) (fun k _ => by rw [F.i 41]), hL.keep F (by decide) (by decide), hT.keep F (by decide) (by decide), hC.keep F (by decide) (by decide), iD.mk ⟨nw, io, aw, d1, by rw [F.i 28]; exact d2, by rw [F.j 7]; exact d3, by rw [F.i 28, F.j 31]; exact d4, by rw [F.i 28, F.j 32]; exact d5, by rw [F.i 28, F.j 33]; exact d6, by rw [F.i 28, F.j 34]; exact d7, by rw [F.i 28, F.j 35]; exact d8, by rw [F.i 28]; exact d9, by rw [F.i 28]; exact d10, by rw [F.j 9]; exact d11, d12, d13, fun p hp => by rw [F.i 29, F.i 45]; exact d14 p hp⟩ ⟨true, ?_, ?_, fun _ => ⟨nw, n, io, aw, d1, Nat.le_refl _, ?_, ?_, ?_, ?_, ?_, ?_, ?_, ?_, ?_, ?_, ?_, d12, d13, fun q hq => ⟨?_, h54 q hq⟩⟩⟩, hA.keep F (by decide) (by decide), hS.keep F (by decide), by rw [F.j 23]; exact h23⟩
          · rw [F3.i 27, F2.i 27, h27]; rfl
          · rw [F3.j 36, g36]; rfl
          · rw [F3.j 37, g37]
          · rw [F3.i 30, F2.i 30, h30 5 (by decide), d2]
          · rw [hl 5 (by omega)]; exact d3
          · rw [F3.i 30, F2.i 30, h30 0 (by decide), hl 0 (by omega)]; exact d4
          · rw [F3.i 30, F2.i 30, h30 1 (by decide), hl 1 (by omega)]; exact d5
          · rw [F3.i 30, F2.i 30, h30 2 (by decide), hl 2 (by omega)]; exact d6
          · rw [F3.i 30, F2.i 30, h30 3 (by decide), hl 3 (by omega)]; exact d7
          · rw [F3.i 30, F2.i 30, h30 4 (by decide), hl 4 (by omega)]; exact d8
          · rw [F3.i 30, F2.i 30, h30 6 (by decide)]; exact d9
          · rw [F3.i 30, F2.i 30, h30 7 (by decide)]; exact d10
          · rw [F3.j 38, g38]
          · rw [F3.i 31, F2.i 31, h31 q hq]; exact (d14 q hq).1
        · exact absurd ((n_leI (a := 6) (by decide) (by omega)).mpr (by omega)) z
      | succ j ih =>
        intro p M2 hj F3 h54 hl
        have e12 : (12 : Int32) + nI p = nI (12 + p) := by simp only [nl_dda]
        have go : ∀ s : Nat, M2.1 40 s = M.1 40 (lede p) → (vp_in (12 + nI p) 18) ∧ v_Md_image L xs (d + 8) Q 49 [(0, .ref 40), (1, .int (nI p + 1))] [] (am_wi M2 54 (12 + nI p).toNatClampNeg (M2.1 40 s)) := fun s hs => by
          rw [e12, n_cl (show 12 + p < 2 ^ 31 by omega), nI_1, hs]
          refine ⟨(n_vp (by omega)).mpr (by omega), ih (p + 1) _ (by omega) (F3.c (by decide) (by decide)) (fun q hq => ?_) (fun q hq => ?_)⟩
          · rw [wi_sl (by omega)]; exact h54 q hq
          · rw [wi_rd, if_pos rfl]
            by_cases e : q = p
            · rw [if_pos (by omega), e]
            · rw [if_neg (by omega)]; exact hl q (by omega)
        have hp : p < 6 := by omega
        have F : fs [27, 30, 31, 54] [36, 37, 38] M M2 := ((F1.to (by decide) (by decide)).tt (F2.to (by decide) (by decide))).tt (F3.to (by decide) (by decide))
        refine u_Md_image_49 ⟨fun z => ?_, fun _ => ⟨fun z => ?_, fun z => ?_, fun z => ?_, fun z => ?_, fun z => ?_, fun z => ?_, fun z0 z1 z2 z3 z4 z5 => ?_⟩⟩
        · exact absurd ((n_leI (a := 6) (by decide) (by omega)).mp z) (by omega)
        · have : p = 0 := (nI_eq (b := 0) (by omega) (by decide)).mp z
          subst this; exact go 31 (by rw [F.j 31]; rfl)
        · have : p = 1 := (nI_eq (b := 1) (by omega) (by decide)).mp z
          subst this; exact go 32 (by rw [F.j 32]; rfl)
        · have : p = 2 := (nI_eq (b := 2) (by omega) (by decide)).mp z
          subst this; exact go 33 (by rw [F.j 33]; rfl)
        · have : p = 3 := (nI_eq (b := 3) (by omega) (by decide)).mp z
          subst this; exact go 34 (by rw [F.j 34]; rfl)
        · have : p = 4 := (nI_eq (b := 4) (by omega) (by decide)).mp z
          subst this; exact go 35 (by rw [F.j 35]; rfl)
        · have : p = 5 := (nI_eq (b := 5) (by omega) (by decide)).mp z
          subst this; exact go 7 (by rw [F.j 7]; rfl)
        · exfalso
          have a0 : p ≠ 0 := fun y => z0 (by rw [y]; rfl)
          have a1 : p ≠ 1 := fun y => z1 (by rw [y]; rfl)
          have a2 : p ≠ 2 := fun y => z2 (by rw [y]; rfl)
          have a3 : p ≠ 3 := fun y => z3 (by rw [y]; rfl)
          have a4 : p ≠ 4 := fun y => z4 (by rw [y]; rfl)
          have a5 : p ≠ 5 := fun y => z5 (by rw [y]; rfl)
          omega
    have loop1 : ∀ j p (M2 : AM), p + j = 12 → fs [54] [] M0 M2 → (∀ q, q < p → M2.1 54 q = oI (io q)) → v_Md_image L xs (d + 8) Q 23 [(0, .ref 40), (1, .int (nI p))] [] M2 := by
      intro j
      induction j with
      | zero =>
        intro p M2 hj F3 h54
        refine u_Md_image_23 ⟨fun _ => loop2 6 0 M2 rfl F3 (fun q hq => h54 q (by omega)) (fun q hq => by omega), fun z => ?_⟩
        exact absurd ((n_leI (a := 12) (by decide) (by omega)).mpr (by omega)) z
      | succ j ih =>
        intro p M2 hj F3 h54
        refine u_Md_image_23 ⟨fun z => ?_, fun _ => ⟨(n_vp (by omega)).mpr (by omega), (n_vp (by omega)).mpr (by omega), ?_⟩⟩
        · exact absurd ((n_leI (a := 12) (by decide) (by omega)).mp z) (by omega)
        · rw [nI_1, n_cl (by omega)]
          refine ih (p + 1) _ (by omega) (F3.c (by decide) (by decide)) (fun q hq => ?_)
          rw [wi_rd, if_pos rfl]
          by_cases e : q = p
          · rw [if_pos e, e, F3.i 45, F2.i 45, F1.i 45]; exact (d14 p (by omega)).2
          · rw [if_neg e]; exact h54 q (by omega)
    refine t_Md_image ?_
    rw [hM0]
    exact loop1 12 0 M0 rfl fs.rf (fun q hq => by omega)
theorem j_back (hI : Inv M) (hd : 100 ≤ d) : Jn L xs d c_Mo_back c_Md_back [.ref 0] [.ref 40] M := by
  have hI0 := hI
  obtain ⟨n, f, T, bn, hP, hL, hT, hC, hD, hA, hS, h23⟩ := hI
  obtain ⟨d, rfl⟩ : ∃ a, d = a + 9 := ⟨d - 9, by omega⟩
  obtain ⟨-, hD2⟩ := hD
  have hD20 : iD2 n M := hD2
  obtain ⟨kb, k1, k2, k3⟩ := hD2
  cases kb with
  | false =>
    refine Jn.no (-5) hI0 (fun Q k => ?_) (fun Q k => ?_)
    · exact t_Mo_back ⟨Or.inl k1, fun z => absurd k1 z, fun _ => k⟩
    · exact t_Md_back ⟨fun z => absurd k2 z, fun _ => k⟩
  | true =>
    obtain ⟨nw, ip, io, aw, d1, dip, d37, d2, d3, d4, d5, d6, d7, d8, d9, d10, d11, d12, d13, d14⟩ := k3 rfl
    have hn := hP.2.2.1
    refine Jn.of2 (v := nI nw) (P := fun M1 => M1 = am_cpi (am_cpi M 30 28 0 0 8) 31 29 0 0 12) (fun Q k => ?_) (fun M1 e Q k => ?_)
    · refine t_Mo_back ⟨Or.inr k1, fun z => ?_, fun z => absurd (k1.symm.trans z) (by decide)⟩
      have K := k _ rfl
      have e5 : (am_cpi M 30 28 0 0 8).1 28 5 = nI nw := by rw [cpi_rd]; exact d2
      rw [e5]; exact K
    · have F1 : fs [28, 29] [] M M1 := by
        rw [e]
        exact fs.of (K := [28, 29]) ((fr.rf.cpi (by decide)).cpi (by decide)) (by decide) (by decide)
      have h28 : ∀ k, k < 8 → M1.1 28 k = M.1 30 k := fun k hk => by rw [e]; simp [cpi_rd, hk]
      have h29 : ∀ k, k < 12 → M1.1 29 k = M.1 31 k := fun k hk => by rw [e]; simp [cpi_rd, hk]
      have loop : ∀ j p (M2 : AM), p + j = 12 → fs [45] [] M1 M2 → (∀ q, q < p → M2.1 45 q = oI (io q)) → v_Md_back L xs (d + 8) Q 12 [(0, .ref 40), (1, .int (nI p))] [] M2 := by
        intro j
        induction j with
        | zero =>
          intro p M2 hj F2 h45
          refine u_Md_back_12 ⟨fun _ => ?_, fun z => ?_⟩
          · have F : fs [28, 29, 45] [9, 31, 32, 33, 34, 35, 7] M (am_wi (am_wi (am_wi (am_wi (am_wi (am_wi (am_wi M2 40 9 (M2.1 40 38)) 40 31 (M2.1 54 12)) 40 32 (M2.1 54 13)) 40 33 (M2.1 54 14)) 40 34 (M2.1 54 15)) 40 35 (M2.1 54 16)) 40 7 (M2.1 54 17)) := ((((((((F1.to (by decide) (by decide)).tt (F2.to (by decide) (by decide))).s (by decide)).s (by decide)).s (by decide)).s (by decide)).s (by decide)).s (by decide)).s (by decide)
            have h54 : M2.1 54 = M.1 54 := by rw [F2.i 54, F1.i 54]
            have h38 : M2.1 40 38 = M.1 40 38 := by rw [F2.j 38, F1.j 38]
            rw [show M2.1 54 17 = nI nw from by rw [h54]; exact d3]
            rw [show M2.1 54 17 = nI nw from by rw [h54]; exact d3] at F
            refine k _ ⟨n, f, T, bn, hP.keep F (by decide) (by decide) (fun k _ => by rw [F.i 41]), hL.keep F (by decide) (by decide), hT.keep F (by decide) (by decide), hC.keep F (by decide) (by decide), iD.mk ⟨nw, io, aw, d1, ?_, ?_, ?_, ?_, ?_, ?_, ?_, ?_, ?_, ?_, fun p hp => d12 p (by omega), d13, fun q hq => ⟨?_, ?_⟩⟩ (hD20.keep F), hA.keep F (by decide) (by decide), hS.keep F (by decide), by rw [F.j 23]; exact h23⟩
            · simp [wi_rd, F2.i 28, h28, d2]
            · simp [wi_rd]
            · simp [wi_rd, F2.i 28, h28, h54, d4]
            · simp [wi_rd, F2.i 28, h28, h54, d5]
            · simp [wi_rd, F2.i 28, h28, h54, d6]
            · simp [wi_rd, F2.i 28, h28, h54, d7]
            · simp [wi_rd, F2.i 28, h28, h54, d8]
            · simp [wi_rd, F2.i 28, h28, d9]
            · simp [wi_rd, F2.i 28, h28, d10]
            · simp [wi_rd, h38, d11]
            · simp [wi_rd, F2.i 29, h29 q hq, (d14 q hq).1]
            · simp [wi_rd, h45 q (show q < p by omega)]
          · exact absurd ((n_leI (a := 12) (by decide) (by omega)).mpr (by omega)) z
        | succ j ih =>
          intro p M2 hj F2 h45
          have h54 : M2.1 54 = M.1 54 := by rw [F2.i 54, F1.i 54]
          have go : ∀ v : Int32, v = oI (io p) → v_Md_back L xs (d + 8) Q 12 [(0, .ref 40), (1, .int (nI p + 1))] [] (am_wi M2 45 (nI p).toNatClampNeg v) := fun v hv => by
            rw [nI_1, n_cl (by omega)]
            refine ih (p + 1) _ (by omega) (F2.c (by decide) (by decide)) (fun q hq => ?_)
            rw [wi_rd, if_pos rfl]
            by_cases e : q = p
            · rw [if_pos e, e, hv]
            · rw [if_neg e]; exact h45 q (by omega)
          refine u_Md_back_12 ⟨fun z => ?_, fun _ => ⟨fun z => ⟨(n_vp (by omega)).mpr (by omega), go _ ?_⟩, fun z => ⟨(n_vp (by omega)).mpr (by omega), (n_vp (by omega)).mpr (by omega), go _ ?_⟩⟩⟩
          · exact absurd ((n_leI (a := 12) (by decide) (by omega)).mp z) (by omega)
          · rw [F2.j 37, F1.j 37, d37, n_leI (by omega) (by omega)] at z
            rw [d12 p z]; rfl
          · rw [n_cl (by omega), h54]; exact (d14 p (by omega)).2
      refine t_Md_back ⟨fun _ => loop 12 0 M1 rfl fs.rf (fun q hq => by omega), fun z => ?_⟩
      rw [F1.j 36, k2] at z
      exact absurd z (by decide)
end E9
