section E5
variable {L : Nat} {xs : Nat → Int32} {d : Nat} {Q : AQ} {M M1 M2 : AM} {x1 x2 x3 x4 x5 : Int32} {n w p v : Nat} {f : Nat → Nat → Nat}
/-- one number of one on the class's side -/
def setd (n : Nat) (f : Nat → Nat → Nat) (M : AM) : Prop := crw 1 2 n f M ∧ cch 1 3 n f M
theorem setd.a (h1 : crw 1 2 n f M) (hw : w < 5) (hp : p < n) : setd n (upf f w p v) (am_wi (am_wi M 2 (w * 15 + p) (nI v)) 1 3 1) :=
  ⟨(h1.set (by decide) hw hp).fr (by rw [wi_sl (by decide)]) (wi_ne (by decide)), Or.inl wi_eq⟩
theorem setd.b (h1 : crw 1 2 n f M) (h2 : cch 1 3 n f M) (hw : w < 5) (hp : p < n) (n1 : ¬ w = 1) (n2 : ¬ w = 2) : setd n (upf f w p v) (am_wi M 2 (w * 15 + p) (nI v)) :=
  ⟨h1.set (by decide) hw hp, h2.congr (by rw [wi_ne (by decide)]) (wi_ne (by decide)) (fun q _ => by
    unfold upf
    rw [if_neg (fun z => n1 z.1.symm), if_neg (fun z => n2 z.1.symm)]
    exact ⟨rfl, rfl⟩)⟩
theorem okV.of (h : okP n f) (hp : p < n) : ∀ w, w < 5 → okV w (f w p) := by
  intro w hw
  obtain ⟨o1, o2, o3, o4, o5, o6, o7⟩ := h p hp
  refine ⟨fun z => ?_, fun z => ?_, fun z => ?_, fun z => ?_, fun z => ?_⟩ <;> subst z <;> omega
theorem okP.up (h : okP n f) (hv : okV w v) : okP n (upf f w p v) := by
  intro q hq
  obtain ⟨o1, o2, o3, o4, o5, o6, o7⟩ := h q hq
  obtain ⟨v0, v1, v2, v3, v4⟩ := hv
  unfold upf
  refine ⟨?_, ?_, ?_, ?_, ?_, ?_, ?_⟩ <;> (split <;> rename_i z <;> first | assumption | (obtain ⟨z1, z2⟩ := z; subst z1; first | exact (v0 rfl).1 | exact (v0 rfl).2 | exact v1 rfl | exact (v2 rfl).1 | exact (v2 rfl).2 | exact v3 rfl | exact v4 rfl))
theorem pM.up (h : pM n f M) (hw : w < 5) (hp : p < n) : pM n (upf f w p v) (am_wi M 41 (5 * p + w) (nI v)) := by
  refine ⟨h.1, fun a b ha hb => ?_⟩
  rw [wi_rd, if_pos rfl]
  unfold upf
  by_cases e : a = w ∧ b = p
  · obtain ⟨rfl, rfl⟩ := e
    rw [if_pos rfl, if_pos ⟨rfl, rfl⟩]
  · rw [if_neg e, if_neg (fun z => e (by omega))]
    exact h.2 a b ha hb
theorem j_undo (hI : Inv M) (hd : 100 ≤ d) : Jn L xs d c_Mo_undo c_Md_undo [.ref 0] [.ref 40] M := by
  have hI0 := hI
  obtain ⟨n, f, T, bn, hP, hL, hT, hC, hD, hA, hS, h23⟩ := hI
  obtain ⟨p1, p2, p3, p4, p5, p6⟩ := hP
  obtain ⟨d, rfl⟩ : ∃ a, d = a + 9 := ⟨d - 9, by omega⟩
  obtain ⟨dn, kp, p, w, b, a, c1, c2, c3, c4, c5, c6, c7⟩ := hC
  cases dn with
  | zero =>
    refine Jn.no (-5) hI0 (fun Q k => ?_) (fun Q k => ?_)
    · refine t_Mo_undo ⟨fun z => absurd (by rw [c3]; rfl) z, fun _ => k⟩
    · refine t_Md_undo ⟨fun z => absurd (by rw [c5]; rfl) z, fun _ => k⟩
  | succ i =>
    obtain ⟨q1, q2, q3, q4, r1, r2, r3, r4, r5, r6, r7⟩ := c7 i (by omega)
    have z0 : ¬ nI (i + 1) = 0 := nI_ne0 (by omega) (by omega)
    refine Jn.of2 (v := nI i) (P := fun M1 => setd n (upf f (w i) (p i) (b i)) M1 ∧ fr [1, 2, 32] M M1 ∧ M1.1 32 5 = nI i ∧ M1.1 32 6 = nI kp) (fun Q k => ?_) (fun M1 e Q k => ?_)
    · refine t_Mo_undo ?_
      rw [c3, n_top, n_cl (by omega), r1, r2, r3, n_ix (by omega)]
      have g1 : crw 1 2 n f (am_wi M 32 5 (nI i)) := p1.fr (by rw [wi_ne (by decide)]) (wi_ne (by decide))
      have g2 : cch 1 3 n f (am_wi M 32 5 (nI i)) := p2.congr (by rw [wi_ne (by decide)]) (wi_ne (by decide)) (fun _ _ => ⟨rfl, rfl⟩)
      have fr0 : fr [1, 2, 32] M (am_wi M 32 5 (nI i)) := fr.rf.wi (by decide)
      rw [show (am_wi M 32 5 (nI i)).1 1 1 = nI n from by rw [wi_ne (by decide)]; exact p1.1]
      refine ⟨fun _ => ⟨fun z => absurd z (nI_nle (by omega) (by omega)), fun _ => ⟨(n_vp (by omega)).mpr (by omega), fun z => absurd z (nI_pos (by omega)), fun _ => ⟨fun z => absurd ((n_leI (a := 5) (by decide) (by omega)).mp z) (by omega), fun _ => ⟨fun z => absurd z (nI_pos (by omega)), fun _ => ⟨fun _ => ⟨n_ixv (by omega), fun h1 => ?_, fun h1 => ⟨fun h2 => ?_, fun h2 => ?_⟩⟩, fun z => absurd (nI_lt q1 (by omega)) z⟩⟩⟩⟩⟩, fun z => absurd z z0⟩
      · have K := k _ ⟨setd.a g1 q2 q1, (fr0.wi (by decide)).wi (by decide), by rw [wi_ne (by decide), wi_ne (by decide), wi_eq], by rw [wi_ne (by decide), wi_ne (by decide), wi_sl (by decide)]; exact c4⟩
        rw [wi_ne (by decide), wi_ne (by decide), wi_eq]; exact K
      · have K := k _ ⟨setd.b g1 g2 q2 q1 (fun z => h1 (by rw [z]; rfl)) (fun z => h2 (by rw [z]; rfl)), fr0.wi (by decide), by rw [wi_ne (by decide), wi_eq], by rw [wi_ne (by decide), wi_sl (by decide)]; exact c4⟩
        rw [wi_ne (by decide), wi_eq]; exact K
      · have K := k _ ⟨setd.a g1 q2 q1, (fr0.wi (by decide)).wi (by decide), by rw [wi_ne (by decide), wi_ne (by decide), wi_eq], by rw [wi_ne (by decide), wi_ne (by decide), wi_sl (by decide)]; exact c4⟩
        rw [wi_ne (by decide), wi_ne (by decide), wi_eq]; exact K
    · obtain ⟨⟨s1, s2⟩, F1, s3, s4⟩ := e
      have F : fs [1, 2, 32, 41] [5] M (am_wi (am_wi M1 40 5 (nI i)) 41 (5 * p i + w i) (nI (b i))) := ((fs.of (K' := [1, 2, 32, 41]) (J := [5]) F1 (by decide) (by decide)).s (by decide)).c (by decide) (by decide)
      have m6 : pM n f (am_wi M1 40 5 (nI i)) := p6.keep (by rw [wi_ne (by decide), F1.i 41])
      have I2 : Inv (am_wi (am_wi M1 40 5 (nI i)) 41 (5 * p i + w i) (nI (b i))) := by
        refine ⟨n, upf f (w i) (p i) (b i), T, bn, ⟨s1.fr (by rw [wi_ne (by decide), wi_ne (by decide)]) (by rw [wi_ne (by decide), wi_ne (by decide)]), s2.congr (by rw [wi_ne (by decide), wi_ne (by decide)]) (by rw [wi_ne (by decide), wi_ne (by decide)]) (fun _ _ => ⟨rfl, rfl⟩), p3, p4.up q3, by rw [F.j 6]; exact p5, m6.up q2 q1⟩, hL.keep F (by decide) (by decide), hT.keep F (by decide) (by decide), ⟨i, kp, p, w, b, a, by omega, c2, ?_, ?_, ?_, ?_, fun j hj => ?_⟩, hD.keep F (by decide) (by decide), hA.keep F (by decide) (by decide), hS.keep F (by decide), by rw [F.j 23]; exact h23⟩
        · rw [wi_ne (by decide), wi_ne (by decide)]; exact s3
        · rw [wi_ne (by decide), wi_ne (by decide)]; exact s4
        · rw [wi_ne (by decide), wi_eq]
        · rw [F.j 4]; exact c6
        · rw [F.i 33, F.i 34, F.i 35, F.i 36, F.i 42, F.i 43, F.i 44]; exact c7 j hj
      have K := k _ I2
      have e5 : M1.1 40 5 = nI (i + 1) := by rw [F1.i 40]; exact c5
      refine t_Md_undo ?_
      rw [e5, n_top, n_cl (by omega), F1.i 42, F1.i 43, r5, r6, n_cl (by omega)]
      exact ⟨fun _ => ⟨(n_vp (by omega)).mpr (by omega), (n_vp (by omega)).mpr (by omega), K⟩, fun z => absurd z z0⟩
theorem j_redo (hI : Inv M) (hd : 100 ≤ d) : Jn L xs d c_Mo_redo c_Md_redo [.ref 0] [.ref 40] M := by
  have hI0 := hI
  obtain ⟨n, f, T, bn, hP, hL, hT, hC, hD, hA, hS, h23⟩ := hI
  obtain ⟨p1, p2, p3, p4, p5, p6⟩ := hP
  obtain ⟨d, rfl⟩ : ∃ a, d = a + 9 := ⟨d - 9, by omega⟩
  obtain ⟨dn, kp, p, w, b, a, c1, c2, c3, c4, c5, c6, c7⟩ := hC
  by_cases hk : dn = kp
  · subst hk
    refine Jn.no (-5) hI0 (fun Q k => ?_) (fun Q k => ?_)
    · refine t_Mo_redo ?_
      rw [c3, c4, n_sub (Nat.le_refl _), Nat.sub_self]
      exact ⟨fun z => absurd rfl z, fun _ => k⟩
    · refine t_Md_redo ?_
      rw [c5, c6]
      exact ⟨fun z => absurd rfl z, fun _ => k⟩
  · obtain ⟨q1, q2, q3, q4, r1, r2, r3, r4, r5, r6, r7⟩ := c7 dn (by omega)
    have z0 : ¬ nI (kp - dn) = 0 := nI_ne0 (by omega) (by omega)
    refine Jn.of2 (v := nI (kp - (dn + 1))) (P := fun M1 => setd n (upf f (w dn) (p dn) (a dn)) M1 ∧ fr [1, 2, 32] M M1 ∧ M1.1 32 5 = nI (dn + 1) ∧ M1.1 32 6 = nI kp) (fun Q k => ?_) (fun M1 e Q k => ?_)
    · refine t_Mo_redo ?_
      have fr0 : fr [1, 2, 32] M M := fr.rf
      rw [c3, c4, n_sub (show dn ≤ kp by omega), n_cl (show dn < 2 ^ 31 by omega), r1, r2, r4, n_ix (by omega), p1.1]
      have cong : ∀ M' : AM, setd n (upf f (w dn) (p dn) (a dn)) M' → setd n (upf f (w dn) (p dn) (a dn)) (am_wi M' 32 5 (nI (dn + 1))) := fun M' h => ⟨h.1.fr (by rw [wi_ne (by decide)]) (wi_ne (by decide)), h.2.congr (by rw [wi_ne (by decide)]) (wi_ne (by decide)) (fun _ _ => ⟨rfl, rfl⟩)⟩
      refine ⟨fun _ => ⟨fun z => absurd ((n_leI (by omega) (by omega)).mp z) (by omega), fun _ => ⟨(n_vp (by omega)).mpr (by omega), fun z => absurd z (nI_pos (by omega)), fun _ => ⟨fun z => absurd ((n_leI (a := 5) (by decide) (by omega)).mp z) (by omega), fun _ => ⟨fun z => absurd z (nI_pos (by omega)), fun _ => ⟨fun _ => ⟨n_ixv (by omega), fun h1 => ?_, fun h1 => ⟨fun h2 => ?_, fun h2 => ?_⟩⟩, fun z => absurd (nI_lt q1 (by omega)) z⟩⟩⟩⟩⟩, fun z => absurd z z0⟩
      · have K := k _ ⟨cong _ (setd.a p1 q2 q1), ((fr0.wi (by decide)).wi (by decide)).wi (by decide), wi_eq, by rw [wi_sl (by decide), wi_ne (by decide), wi_ne (by decide)]; exact c4⟩
        rw [wi_ne (by decide), wi_ne (by decide), c3, c4, nI_1, n_sub (by omega)]; exact K
      · have K := k _ ⟨cong _ (setd.b p1 p2 q2 q1 (fun z => h1 (by rw [z]; rfl)) (fun z => h2 (by rw [z]; rfl))), (fr0.wi (by decide)).wi (by decide), wi_eq, by rw [wi_sl (by decide), wi_ne (by decide)]; exact c4⟩
        rw [wi_ne (by decide), c3, c4, nI_1, n_sub (by omega)]; exact K
      · have K := k _ ⟨cong _ (setd.a p1 q2 q1), ((fr0.wi (by decide)).wi (by decide)).wi (by decide), wi_eq, by rw [wi_sl (by decide), wi_ne (by decide), wi_ne (by decide)]; exact c4⟩
        rw [wi_ne (by decide), wi_ne (by decide), c3, c4, nI_1, n_sub (by omega)]; exact K
    · obtain ⟨⟨s1, s2⟩, F1, s3, s4⟩ := e
      have F : fs [1, 2, 32, 41] [5] M (am_wi (am_wi M1 41 (5 * p dn + w dn) (nI (a dn))) 40 5 (nI (dn + 1))) := ((fs.of (K' := [1, 2, 32, 41]) (J := [5]) F1 (by decide) (by decide)).c (by decide) (by decide)).s (by decide)
      have m6 : pM n f M1 := p6.keep (by rw [F1.i 41])
      have I2 : Inv (am_wi (am_wi M1 41 (5 * p dn + w dn) (nI (a dn))) 40 5 (nI (dn + 1))) := by
        refine ⟨n, upf f (w dn) (p dn) (a dn), T, bn, ⟨s1.fr (by rw [wi_ne (by decide), wi_ne (by decide)]) (by rw [wi_ne (by decide), wi_ne (by decide)]), s2.congr (by rw [wi_ne (by decide), wi_ne (by decide)]) (by rw [wi_ne (by decide), wi_ne (by decide)]) (fun _ _ => ⟨rfl, rfl⟩), p3, p4.up q4, by rw [F.j 6]; exact p5, (m6.up q2 q1).keep (wi_ne (by decide))⟩, hL.keep F (by decide) (by decide), hT.keep F (by decide) (by decide), ⟨dn + 1, kp, p, w, b, a, by omega, c2, ?_, ?_, ?_, ?_, fun j hj => ?_⟩, hD.keep F (by decide) (by decide), hA.keep F (by decide) (by decide), hS.keep F (by decide), by rw [F.j 23]; exact h23⟩
        · rw [wi_ne (by decide), wi_ne (by decide)]; exact s3
        · rw [wi_ne (by decide), wi_ne (by decide)]; exact s4
        · rw [wi_eq]
        · rw [F.j 4]; exact c6
        · rw [F.i 33, F.i 34, F.i 35, F.i 36, F.i 42, F.i 43, F.i 44]; exact c7 j hj
      have K := k _ I2
      have e5 : M1.1 40 5 = nI dn := by rw [F1.i 40]; exact c5
      have e4 : M1.1 40 4 = nI kp := by rw [F1.i 40]; exact c6
      refine t_Md_redo ?_
      rw [e5, e4, n_cl (show dn < 2 ^ 31 by omega), F1.i 42, F1.i 44, r5, r7, n_cl (show 5 * p dn + w dn < 2 ^ 31 by omega), nI_1, n_sub (by omega)]
      exact ⟨fun _ => ⟨(n_vp (by omega)).mpr (by omega), (n_vp (by omega)).mpr (by omega), K⟩, fun z => absurd ((nI_eq (by omega) (by omega)).mp z) hk⟩
end E5
