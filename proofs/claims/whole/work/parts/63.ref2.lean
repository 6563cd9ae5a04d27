section SN
variable {L : Nat} {xs : Nat → Int32} {e : Nat} {tp nm : Nat → Int32}
def mC (L : Nat) (xs : Nat → Int32) (e : Nat) (tp nm : Nat → Int32) (c D o i0 : Nat) (P : Nat → PR) : Prop := ∀ (i d : Nat) (M : AM) (Q : AQ), i0 ≤ i → i ≤ e → D ≤ d → rfM e tp i nm M → M.1 40 17 = -1 → M.1 40 18 = nI o → (∀ M' y, okM o nm (P i).1 (P i).2.1 (P i).2.2.2 M M' y → Q (some (.int y)) M') → am_Call (gG L xs) d c [.ref 40] M Q
theorem okM.st {o j : Nat} {v : PV} {M0 M : AM} (hf : fs [] fJ M0 M) (h15 : M.1 40 15 = nI j) (h17 : M.1 40 17 = -1) (h18 : M.1 40 18 = nI o) : okM o nm true j v M0 M (v nm) := ⟨hf, h15, fun _ => ⟨h17, h18, rfl⟩, fun z => by cases z⟩
theorem okM.ff {o j : Nat} {v : PV} {M0 M : AM} {y : Int32} (hf : fs [] fJ M0 M) (h15 : M.1 40 15 = nI j) (h17 : M.1 40 17 = nI j) : okM o nm false j v M0 M y := ⟨hf, h15, fun z => (by cases z), fun _ => h17⟩
theorem fJw15 {M0 M : AM} {v : Int32} (h : fs [] fJ M0 M) : fs [] fJ M0 (am_wi M 40 15 v) := h.s (by decide)
theorem m_either_loop {o i D d : Nat} {P : Nat → PR} {Q : AQ} {M0 : AM} (he : e ≤ 120) (hD : D ≤ d + 2) (hG : ∀ j, i < j → j ≤ e → pzG e j (P j)) (hS : mC L xs e tp nm c_Md_both D o (i + 1) P) :
    ∀ (k q j : Nat) (cs : PC) (v : PV) (M : AM), e < j + k → j ≤ e → i < j → fs [] fJ M0 M → rfM e tp j nm M → M.1 40 17 = -1 → M.1 40 18 = nI o →
      (∀ M' y, okM o nm (lp (chT tp e) P 0 k q j cs v).1 (lp (chT tp e) P 0 k q j cs v).2.1 (lp (chT tp e) P 0 k q j cs v).2.2.2 M0 M' y → Q (some (.int y)) M') →
      v_Md_either L xs (d + 2) Q 5 [(0, .ref 40), (1, .int (v nm))] [] M := by
  intro k
  induction k with
  | zero => intro q j cs v M h1 h2; omega
  | succ k ih =>
    intro q j cs v M h1 h2 h3 hf hR h17 h18 kk
    rw [lp] at kk
    have stop : ¬ rkO (chT tp e j) = 0 → Q (some (.int (v nm))) M := fun h => by
      rw [if_neg (fun z => h z.1)] at kk
      exact kk M _ (okM.st hf hR.2.1 h17 h18)
    have go : rkO (chT tp e j) = 0 → ∀ Q', (∀ M2 y, okM o nm (P (j + 1)).1 (P (j + 1)).2.1 (P (j + 1)).2.2.2 (am_wi M 40 15 (nI (j + 1))) M2 y → Q' (some (.int y)) M2) → am_Call (gG L xs) (d + 2) c_Md_both [.ref 40] (am_wi M 40 15 (nI (j + 1))) Q' := fun h Q' h' => by
      have hje := (chT_E tp e).lt (rkO_ne (c := chT tp e j) (by omega))
      exact hS (j + 1) (d + 2) _ Q' (by omega) (by omega) hD hR.go (by rw [wi_sl (by decide)]; exact h17) (by rw [wi_sl (by decide)]; exact h18) h'
    have fin : rkO (chT tp e j) = 0 → ∀ M2 y, okM o nm (P (j + 1)).1 (P (j + 1)).2.1 (P (j + 1)).2.2.2 (am_wi M 40 15 (nI (j + 1))) M2 y → (((P (j + 1)).1 = false → ∀ x, Q (some (.int x)) M2 ∧ M2.1 40 17 = nI (P (j + 1)).2.1) ∧ ((P (j + 1)).1 = true → v_Md_either L xs (d + 2) Q 5 [(0, .ref 40), (1, .int (lwJ (chT tp e j) (v nm) y))] [] M2)) ∧ rfM e tp (P (j + 1)).2.1 nm M2 ∧ (P (j + 1)).2.1 ≤ e := fun h M2 y hO => by
      have hje := (chT_E tp e).lt (rkO_ne (c := chT tp e j) (by omega))
      obtain ⟨g1, g2, g3⟩ := hG (j + 1) (by omega) (by omega)
      obtain ⟨o1, o2, o3, o4⟩ := hO
      have hf2 : fs [] fJ M0 M2 := (fJw15 hf).tt o1
      have hR2 : rfM e tp (P (j + 1)).2.1 nm M2 := hR.at ((fJw15 fs.rf).tt o1) o2
      rw [if_pos ⟨h, by omega⟩] at kk
      refine ⟨⟨fun hb x => ?_, fun hb => ?_⟩, hR2, g2⟩
      · simp only [hb, Bool.false_eq_true, if_false] at kk
        exact ⟨kk M2 x (okM.ff hf2 o2 (o4 hb)), o4 hb⟩
      · simp only [hb, if_true] at kk
        obtain ⟨p1, p2, p3⟩ := o3 hb
        have := ih (q + 1) (P (j + 1)).2.1 _ _ M2 (by omega) g2 (by omega) hf2 hR2 p1 p2 kk
        rw [← p3] at this
        exact this
    refine w_either_5 he h2 hR h17 (fun h => ?_) (fun h => stop (fun z => h (rk0.mp z)))
    have hr := rk0.mpr h
    refine go hr _ (fun M2 y hO => ?_)
    obtain ⟨⟨z0, z1⟩, -, hje2⟩ := fin hr M2 y hO
    cases hb : (P (j + 1)).1 with
    | false =>
      have Z : ∀ x, v_Md_either L xs (d + 2) Q 5 [(0, .ref 40), (1, .int x)] [] M2 := fun x => u_Md_either_5 ⟨fun _ => (z0 hb x).1, fun z => absurd (by rw [(z0 hb x).2]; exact nI_pos' (by omega)) z⟩
      exact u_Md_either_18 ⟨fun _ => Z _, fun _ => ⟨fun _ => Z _, fun _ => Z _⟩⟩
    | true =>
      have T := z1 hb
      rw [h] at T
      exact u_Md_either_18 ⟨fun z => by rw [show lwJ 124 (v nm) y = 1 from by simp [lwJ, z]] at T; exact T, fun z => ⟨fun z2 => by rw [show lwJ 124 (v nm) y = 0 from by simp [lwJ, z, z2]] at T; exact T, fun z2 => by rw [show lwJ 124 (v nm) y = 1 from by simp [lwJ, z, z2]] at T; exact T⟩⟩
theorem m_both_loop {o i D d : Nat} {P : Nat → PR} {Q : AQ} {M0 : AM} (he : e ≤ 120) (hD : D ≤ d + 2) (hG : ∀ j, i < j → j ≤ e → pzG e j (P j)) (hS : mC L xs e tp nm c_Md_compared D o (i + 1) P) :
    ∀ (k q j : Nat) (cs : PC) (v : PV) (M : AM), e < j + k → j ≤ e → i < j → fs [] fJ M0 M → rfM e tp j nm M → M.1 40 17 = -1 → M.1 40 18 = nI o →
      (∀ M' y, okM o nm (lp (chT tp e) P 1 k q j cs v).1 (lp (chT tp e) P 1 k q j cs v).2.1 (lp (chT tp e) P 1 k q j cs v).2.2.2 M0 M' y → Q (some (.int y)) M') →
      v_Md_both L xs (d + 2) Q 5 [(0, .ref 40), (1, .int (v nm))] [] M := by
  intro k
  induction k with
  | zero => intro q j cs v M h1 h2; omega
  | succ k ih =>
    intro q j cs v M h1 h2 h3 hf hR h17 h18 kk
    rw [lp] at kk
    have stop : ¬ rkO (chT tp e j) = 1 → Q (some (.int (v nm))) M := fun h => by
      rw [if_neg (fun z => h z.1)] at kk
      exact kk M _ (okM.st hf hR.2.1 h17 h18)
    have go : rkO (chT tp e j) = 1 → ∀ Q', (∀ M2 y, okM o nm (P (j + 1)).1 (P (j + 1)).2.1 (P (j + 1)).2.2.2 (am_wi M 40 15 (nI (j + 1))) M2 y → Q' (some (.int y)) M2) → am_Call (gG L xs) (d + 2) c_Md_compared [.ref 40] (am_wi M 40 15 (nI (j + 1))) Q' := fun h Q' h' => by
      have hje := (chT_E tp e).lt (rkO_ne (c := chT tp e j) (by omega))
      exact hS (j + 1) (d + 2) _ Q' (by omega) (by omega) hD hR.go (by rw [wi_sl (by decide)]; exact h17) (by rw [wi_sl (by decide)]; exact h18) h'
    have fin : rkO (chT tp e j) = 1 → ∀ M2 y, okM o nm (P (j + 1)).1 (P (j + 1)).2.1 (P (j + 1)).2.2.2 (am_wi M 40 15 (nI (j + 1))) M2 y → (((P (j + 1)).1 = false → ∀ x, Q (some (.int x)) M2 ∧ M2.1 40 17 = nI (P (j + 1)).2.1) ∧ ((P (j + 1)).1 = true → v_Md_both L xs (d + 2) Q 5 [(0, .ref 40), (1, .int (lwJ (chT tp e j) (v nm) y))] [] M2)) ∧ rfM e tp (P (j + 1)).2.1 nm M2 ∧ (P (j + 1)).2.1 ≤ e := fun h M2 y hO => by
      have hje := (chT_E tp e).lt (rkO_ne (c := chT tp e j) (by omega))
      obtain ⟨g1, g2, g3⟩ := hG (j + 1) (by omega) (by omega)
      obtain ⟨o1, o2, o3, o4⟩ := hO
      have hf2 : fs [] fJ M0 M2 := (fJw15 hf).tt o1
      have hR2 : rfM e tp (P (j + 1)).2.1 nm M2 := hR.at ((fJw15 fs.rf).tt o1) o2
      rw [if_pos ⟨h, by omega⟩] at kk
      refine ⟨⟨fun hb x => ?_, fun hb => ?_⟩, hR2, g2⟩
      · simp only [hb, Bool.false_eq_true, if_false] at kk
        exact ⟨kk M2 x (okM.ff hf2 o2 (o4 hb)), o4 hb⟩
      · simp only [hb, if_true] at kk
        obtain ⟨p1, p2, p3⟩ := o3 hb
        have := ih (q + 1) (P (j + 1)).2.1 _ _ M2 (by omega) g2 (by omega) hf2 hR2 p1 p2 kk
        rw [← p3] at this
        exact this
    refine w_both_5 he h2 hR h17 (fun h => ?_) (fun h => stop (fun z => h (rk1.mp z)))
    have hr := rk1.mpr h
    refine go hr _ (fun M2 y hO => ?_)
    obtain ⟨⟨z0, z1⟩, -, hje2⟩ := fin hr M2 y hO
    cases hb : (P (j + 1)).1 with
    | false =>
      have Z : ∀ x, v_Md_both L xs (d + 2) Q 5 [(0, .ref 40), (1, .int x)] [] M2 := fun x => u_Md_both_5 ⟨fun _ => (z0 hb x).1, fun z => absurd (by rw [(z0 hb x).2]; exact nI_pos' (by omega)) z⟩
      exact u_Md_both_18 ⟨fun _ => Z _, fun _ => ⟨fun _ => Z _, fun _ => Z _⟩⟩
    | true =>
      have T := z1 hb
      rw [h] at T
      exact u_Md_both_18 ⟨fun z => by rw [show lwJ 38 (v nm) y = 0 from by simp [lwJ, z]] at T; exact T, fun z => ⟨fun z2 => by rw [show lwJ 38 (v nm) y = 0 from by simp [lwJ, z, z2]] at T; exact T, fun z2 => by rw [show lwJ 38 (v nm) y = 1 from by simp [lwJ, z, z2]] at T; exact T⟩⟩
theorem m_sums_loop {o i D d : Nat} {P : Nat → PR} {Q : AQ} {M0 : AM} (he : e ≤ 120) (hD : D ≤ d + 1) (hG : ∀ j, i < j → j ≤ e → pzG e j (P j)) (hS : mC L xs e tp nm c_Md_product D o (i + 1) P) :
    ∀ (k q j : Nat) (cs : PC) (v : PV) (M : AM), e < j + k → j ≤ e → i < j → fs [] fJ M0 M → rfM e tp j nm M → M.1 40 17 = -1 → M.1 40 18 = nI o →
      (∀ M' y, okM o nm (lp (chT tp e) P 3 k q j cs v).1 (lp (chT tp e) P 3 k q j cs v).2.1 (lp (chT tp e) P 3 k q j cs v).2.2.2 M0 M' y → Q (some (.int y)) M') →
      v_Md_sums L xs (d + 1) Q 5 [(0, .ref 40), (1, .int (v nm))] [] M := by
  intro k
  induction k with
  | zero => intro q j cs v M h1 h2; omega
  | succ k ih =>
    intro q j cs v M h1 h2 h3 hf hR h17 h18 kk
    rw [lp] at kk
    have stop : ¬ rkO (chT tp e j) = 3 → Q (some (.int (v nm))) M := fun h => by
      rw [if_neg (fun z => h z.1)] at kk
      exact kk M _ (okM.st hf hR.2.1 h17 h18)
    have go : rkO (chT tp e j) = 3 → ∀ Q', (∀ M2 y, okM o nm (P (j + 1)).1 (P (j + 1)).2.1 (P (j + 1)).2.2.2 (am_wi M 40 15 (nI (j + 1))) M2 y → Q' (some (.int y)) M2) → am_Call (gG L xs) (d + 1) c_Md_product [.ref 40] (am_wi M 40 15 (nI (j + 1))) Q' := fun h Q' h' => by
      have hje := (chT_E tp e).lt (rkO_ne (c := chT tp e j) (by omega))
      exact hS (j + 1) (d + 1) _ Q' (by omega) (by omega) hD hR.go (by rw [wi_sl (by decide)]; exact h17) (by rw [wi_sl (by decide)]; exact h18) h'
    have fin : rkO (chT tp e j) = 3 → ∀ M2 y, okM o nm (P (j + 1)).1 (P (j + 1)).2.1 (P (j + 1)).2.2.2 (am_wi M 40 15 (nI (j + 1))) M2 y → (((P (j + 1)).1 = false → ∀ x, Q (some (.int x)) M2 ∧ M2.1 40 17 = nI (P (j + 1)).2.1) ∧ ((P (j + 1)).1 = true → v_Md_sums L xs (d + 1) Q 5 [(0, .ref 40), (1, .int (lwJ (chT tp e j) (v nm) y))] [] M2)) ∧ rfM e tp (P (j + 1)).2.1 nm M2 ∧ (P (j + 1)).2.1 ≤ e := fun h M2 y hO => by
      have hje := (chT_E tp e).lt (rkO_ne (c := chT tp e j) (by omega))
      obtain ⟨g1, g2, g3⟩ := hG (j + 1) (by omega) (by omega)
      obtain ⟨o1, o2, o3, o4⟩ := hO
      have hf2 : fs [] fJ M0 M2 := (fJw15 hf).tt o1
      have hR2 : rfM e tp (P (j + 1)).2.1 nm M2 := hR.at ((fJw15 fs.rf).tt o1) o2
      rw [if_pos ⟨h, by omega⟩] at kk
      refine ⟨⟨fun hb x => ?_, fun hb => ?_⟩, hR2, g2⟩
      · simp only [hb, Bool.false_eq_true, if_false] at kk
        exact ⟨kk M2 x (okM.ff hf2 o2 (o4 hb)), o4 hb⟩
      · simp only [hb, if_true] at kk
        obtain ⟨p1, p2, p3⟩ := o3 hb
        have := ih (q + 1) (P (j + 1)).2.1 _ _ M2 (by omega) g2 (by omega) hf2 hR2 p1 p2 kk
        rw [← p3] at this
        exact this
    refine w_sums_5 he h2 hR h17 (fun hr => ?_) (fun h => stop h)
    refine go hr _ (fun M2 y hO => ?_)
    obtain ⟨⟨z0, z1⟩, -, hje2⟩ := fin hr M2 y hO
    cases hb : (P (j + 1)).1 with
    | false =>
      have Z : ∀ x, v_Md_sums L xs (d + 1) Q 5 [(0, .ref 40), (1, .int x)] [] M2 := fun x => u_Md_sums_5 ⟨fun _ => (z0 hb x).1, fun z => absurd (by rw [(z0 hb x).2]; exact nI_pos' (by omega)) z⟩
      exact u_Md_sums_59 ⟨fun _ => Z _, fun _ => Z _⟩
    | true =>
      have T := z1 hb
      refine u_Md_sums_59 ⟨fun z => ?_, fun z => ?_⟩
      · rcases rk3 hr with h | h
        · rw [if_pos h] at z; exact absurd z (by decide)
        · rw [h, show lwJ 45 (v nm) y = v nm - y from rfl] at T; exact T
      · rcases rk3 hr with h | h
        · rw [h, show lwJ 43 (v nm) y = v nm + y from rfl] at T; exact T
        · rw [h] at z; exact absurd (by decide) z
theorem m_product_loop {o i D d : Nat} {P : Nat → PR} {Q : AQ} {M0 : AM} (he : e ≤ 120) (hD : D ≤ d + 1) (hG : ∀ j, i < j → j ≤ e → pzG e j (P j)) (hS : mC L xs e tp nm c_Md_one D o (i + 1) P) :
    ∀ (k q j : Nat) (cs : PC) (v : PV) (M : AM), e < j + k → j ≤ e → i < j → fs [] fJ M0 M → rfM e tp j nm M → M.1 40 17 = -1 → M.1 40 18 = nI o →
      (∀ M' y, okM o nm (lp (chT tp e) P 4 k q j cs v).1 (lp (chT tp e) P 4 k q j cs v).2.1 (lp (chT tp e) P 4 k q j cs v).2.2.2 M0 M' y → Q (some (.int y)) M') →
      v_Md_product L xs (d + 1) Q 10 [(0, .ref 40), (1, .int (v nm)), (2, .int (chT tp e j))] [] M := by
  intro k
  induction k with
  | zero => intro q j cs v M h1 h2; omega
  | succ k ih =>
    intro q j cs v M h1 h2 h3 hf hR h17 h18 kk
    rw [lp] at kk
    have stop : ¬ rkO (chT tp e j) = 4 → Q (some (.int (v nm))) M := fun h => by
      rw [if_neg (fun z => h z.1)] at kk
      exact kk M _ (okM.st hf hR.2.1 h17 h18)
    have go : rkO (chT tp e j) = 4 → ∀ Q', (∀ M2 y, okM o nm (P (j + 1)).1 (P (j + 1)).2.1 (P (j + 1)).2.2.2 (am_wi M 40 15 (nI (j + 1))) M2 y → Q' (some (.int y)) M2) → am_Call (gG L xs) (d + 1) c_Md_one [.ref 40] (am_wi M 40 15 (nI (j + 1))) Q' := fun h Q' h' => by
      have hje := (chT_E tp e).lt (rkO_ne (c := chT tp e j) (by omega))
      exact hS (j + 1) (d + 1) _ Q' (by omega) (by omega) hD hR.go (by rw [wi_sl (by decide)]; exact h17) (by rw [wi_sl (by decide)]; exact h18) h'
    have fin : rkO (chT tp e j) = 4 → ∀ M2 y, okM o nm (P (j + 1)).1 (P (j + 1)).2.1 (P (j + 1)).2.2.2 (am_wi M 40 15 (nI (j + 1))) M2 y → (((P (j + 1)).1 = false → ∀ x, Q (some (.int x)) M2 ∧ M2.1 40 17 = nI (P (j + 1)).2.1) ∧ ((P (j + 1)).1 = true → v_Md_product L xs (d + 1) Q 10 [(0, .ref 40), (1, .int (lwJ (chT tp e j) (v nm) y)), (2, .int (chT tp e ((P (j + 1)).2.1)))] [] M2)) ∧ rfM e tp (P (j + 1)).2.1 nm M2 ∧ (P (j + 1)).2.1 ≤ e := fun h M2 y hO => by
      have hje := (chT_E tp e).lt (rkO_ne (c := chT tp e j) (by omega))
      obtain ⟨g1, g2, g3⟩ := hG (j + 1) (by omega) (by omega)
      obtain ⟨o1, o2, o3, o4⟩ := hO
      have hf2 : fs [] fJ M0 M2 := (fJw15 hf).tt o1
      have hR2 : rfM e tp (P (j + 1)).2.1 nm M2 := hR.at ((fJw15 fs.rf).tt o1) o2
      rw [if_pos ⟨h, by omega⟩] at kk
      refine ⟨⟨fun hb x => ?_, fun hb => ?_⟩, hR2, g2⟩
      · simp only [hb, Bool.false_eq_true, if_false] at kk
        exact ⟨kk M2 x (okM.ff hf2 o2 (o4 hb)), o4 hb⟩
      · simp only [hb, if_true] at kk
        obtain ⟨p1, p2, p3⟩ := o3 hb
        have := ih (q + 1) (P (j + 1)).2.1 _ _ M2 (by omega) g2 (by omega) hf2 hR2 p1 p2 kk
        rw [← p3] at this
        exact this
    have call : rkO (chT tp e j) = 4 → am_Call (gG L xs) (d + 1) c_Md_one [.ref 40] (am_wi M 40 15 (nI (j + 1))) (fun r M' => v_Md_product L xs (d + 1) Q 49 [(0, .ref 40), (1, .int (v nm)), (2, .int (chT tp e j))] (r.toList ++ []) M') := fun hr => by
      refine go hr _ (fun M2 y hO => ?_)
      obtain ⟨⟨z0, z1⟩, hR2, hje2⟩ := fin hr M2 y hO
      refine w_product_49 he hje2 hR2 hr ?_
      cases hb : (P (j + 1)).1 with
      | false => exact u_Md_product_10 ⟨fun _ => (z0 hb _).1, fun z => absurd (by rw [(z0 hb 0).2]; exact nI_pos' (by omega)) z⟩
      | true => exact z1 hb
    refine u_Md_product_10 ⟨fun z => absurd z (by rw [h17]; decide), fun _ => ?_⟩
    rw [hR.2.1, nI_1]
    exact ⟨fun h => call (by rw [h]; decide), fun n42 => ⟨fun h => call (by rw [h]; decide), fun n47 => ⟨fun n37 => stop (fun z => (rk4 z).elim n42 (fun z => z.elim n47 n37)), fun h => call (by rw [h]; decide)⟩⟩⟩
theorem lp_2 {ch : Nat → Int32} {P : Nat → PR} : ∀ {k j : Nat} {cs : PC} {v : PV}, lp ch P 2 k 1 j cs v = (true, j, cs, v)
  | 0, _, _, _ => rfl
  | k + 1, j, cs, v => by rw [lp, if_neg (fun z => z.2 ⟨rfl, by omega⟩)]
theorem m_either {o fu D : Nat} (he : e ≤ 120) (hD : 3 ≤ D) (i0 : Nat) (hf : ∀ j, i0 ≤ j → j ≤ e → 7 * (e - j) + (5 - 0) < fu + 1) (hS : mC L xs e tp nm c_Md_both D o i0 (pz (chT tp e) fu 1 o)) : mC L xs e tp nm c_Md_either (D + 1) o i0 (pz (chT tp e) (fu + 1) 0 o) := by
  intro i d M Q h0 h1 h2 hR h17 h18 kk
  obtain ⟨d, rfl⟩ : ∃ a, d = a + 3 := ⟨d - 3, by omega⟩
  have hfi := hf i h0 h1
  have pe : pz (chT tp e) (fu + 1) 0 o i = (if (pz (chT tp e) fu 1 o i).1 then lp (chT tp e) (pz (chT tp e) fu 1 o) 0 fu 0 (pz (chT tp e) fu 1 o i).2.1 (pz (chT tp e) fu 1 o i).2.2.1 (pz (chT tp e) fu 1 o i).2.2.2 else (false, (pz (chT tp e) fu 1 o i).2.1, [], fun _ => 0)) := by rw [pz, if_pos (by decide)]
  rw [pe] at kk
  have hg := pz_good (chT_E tp e) fu 1 o i h1 (by omega)
  refine t_Md_either (hS i (d + 2) M _ h0 h1 (by omega) hR h17 h18 (fun M2 y hO => ?_))
  obtain ⟨o1, o2, o3, o4⟩ := hO
  have hR2 := hR.at o1 o2
  have hj := hg.2.1
  cases hb : (pz (chT tp e) fu 1 o i).1 with
  | false =>
    simp only [hb, Bool.false_eq_true, if_false] at kk
    have e17 := o4 hb
    have Q0 : ∀ x, Q (some (.int x)) M2 := fun x => kk M2 x (okM.ff o1 o2 e17)
    exact u_Md_either_4 (u_Md_either_5 ⟨fun _ => Q0 _, fun z => absurd (by rw [e17]; exact nI_pos' (by omega)) z⟩)
  | true =>
    simp only [hb, if_true] at kk
    obtain ⟨p1, p2, p3⟩ := o3 hb
    have hgi := (hg.2.2 hb).1
    subst p3
    exact u_Md_either_4 (m_either_loop (i := i) (D := D) (P := pz (chT tp e) fu 1 o) he (by omega) (fun j h3 h4 => pz_good (chT_E tp e) fu 1 o j h4 (by have := hf j (by omega) h4; omega)) (fun i' d' M' Q' a1 a2 a3 a4 a5 a6 a7 => hS i' d' M' Q' (by omega) a2 a3 a4 a5 a6 a7) fu 0 _ _ _ M2 (by omega) hj hgi o1 hR2 p1 p2 kk)
theorem m_both {o fu D : Nat} (he : e ≤ 120) (hD : 3 ≤ D) (i0 : Nat) (hf : ∀ j, i0 ≤ j → j ≤ e → 7 * (e - j) + (5 - 1) < fu + 1) (hS : mC L xs e tp nm c_Md_compared D o i0 (pz (chT tp e) fu 2 o)) : mC L xs e tp nm c_Md_both (D + 1) o i0 (pz (chT tp e) (fu + 1) 1 o) := by
  intro i d M Q h0 h1 h2 hR h17 h18 kk
  obtain ⟨d, rfl⟩ : ∃ a, d = a + 3 := ⟨d - 3, by omega⟩
  have hfi := hf i h0 h1
  have pe : pz (chT tp e) (fu + 1) 1 o i = (if (pz (chT tp e) fu 2 o i).1 then lp (chT tp e) (pz (chT tp e) fu 2 o) 1 fu 0 (pz (chT tp e) fu 2 o i).2.1 (pz (chT tp e) fu 2 o i).2.2.1 (pz (chT tp e) fu 2 o i).2.2.2 else (false, (pz (chT tp e) fu 2 o i).2.1, [], fun _ => 0)) := by rw [pz, if_pos (by decide)]
  rw [pe] at kk
  have hg := pz_good (chT_E tp e) fu 2 o i h1 (by omega)
  refine t_Md_both (hS i (d + 2) M _ h0 h1 (by omega) hR h17 h18 (fun M2 y hO => ?_))
  obtain ⟨o1, o2, o3, o4⟩ := hO
  have hR2 := hR.at o1 o2
  have hj := hg.2.1
  cases hb : (pz (chT tp e) fu 2 o i).1 with
  | false =>
    simp only [hb, Bool.false_eq_true, if_false] at kk
    have e17 := o4 hb
    have Q0 : ∀ x, Q (some (.int x)) M2 := fun x => kk M2 x (okM.ff o1 o2 e17)
    exact u_Md_both_4 (u_Md_both_5 ⟨fun _ => Q0 _, fun z => absurd (by rw [e17]; exact nI_pos' (by omega)) z⟩)
  | true =>
    simp only [hb, if_true] at kk
    obtain ⟨p1, p2, p3⟩ := o3 hb
    have hgi := (hg.2.2 hb).1
    subst p3
    exact u_Md_both_4 (m_both_loop (i := i) (D := D) (P := pz (chT tp e) fu 2 o) he (by omega) (fun j h3 h4 => pz_good (chT_E tp e) fu 2 o j h4 (by have := hf j (by omega) h4; omega)) (fun i' d' M' Q' a1 a2 a3 a4 a5 a6 a7 => hS i' d' M' Q' (by omega) a2 a3 a4 a5 a6 a7) fu 0 _ _ _ M2 (by omega) hj hgi o1 hR2 p1 p2 kk)
theorem m_sums {o fu D : Nat} (he : e ≤ 120) (hD : 3 ≤ D) (i0 : Nat) (hf : ∀ j, i0 ≤ j → j ≤ e → 7 * (e - j) + (5 - 3) < fu + 1) (hS : mC L xs e tp nm c_Md_product D o i0 (pz (chT tp e) fu 4 o)) : mC L xs e tp nm c_Md_sums (D + 1) o i0 (pz (chT tp e) (fu + 1) 3 o) := by
  intro i d M Q h0 h1 h2 hR h17 h18 kk
  obtain ⟨d, rfl⟩ : ∃ a, d = a + 3 := ⟨d - 3, by omega⟩
  have hfi := hf i h0 h1
  have pe : pz (chT tp e) (fu + 1) 3 o i = (if (pz (chT tp e) fu 4 o i).1 then lp (chT tp e) (pz (chT tp e) fu 4 o) 3 fu 0 (pz (chT tp e) fu 4 o i).2.1 (pz (chT tp e) fu 4 o i).2.2.1 (pz (chT tp e) fu 4 o i).2.2.2 else (false, (pz (chT tp e) fu 4 o i).2.1, [], fun _ => 0)) := by rw [pz, if_pos (by decide)]
  rw [pe] at kk
  have hg := pz_good (chT_E tp e) fu 4 o i h1 (by omega)
  refine t_Md_sums (hS i (d + 2) M _ h0 h1 (by omega) hR h17 h18 (fun M2 y hO => ?_))
  obtain ⟨o1, o2, o3, o4⟩ := hO
  have hR2 := hR.at o1 o2
  have hj := hg.2.1
  cases hb : (pz (chT tp e) fu 4 o i).1 with
  | false =>
    simp only [hb, Bool.false_eq_true, if_false] at kk
    have e17 := o4 hb
    have Q0 : ∀ x, Q (some (.int x)) M2 := fun x => kk M2 x (okM.ff o1 o2 e17)
    exact u_Md_sums_4 (u_Md_sums_5 ⟨fun _ => Q0 _, fun z => absurd (by rw [e17]; exact nI_pos' (by omega)) z⟩)
  | true =>
    simp only [hb, if_true] at kk
    obtain ⟨p1, p2, p3⟩ := o3 hb
    have hgi := (hg.2.2 hb).1
    subst p3
    exact u_Md_sums_4 (m_sums_loop (i := i) (D := D) (P := pz (chT tp e) fu 4 o) he (by omega) (fun j h3 h4 => pz_good (chT_E tp e) fu 4 o j h4 (by have := hf j (by omega) h4; omega)) (fun i' d' M' Q' a1 a2 a3 a4 a5 a6 a7 => hS i' d' M' Q' (by omega) a2 a3 a4 a5 a6 a7) fu 0 _ _ _ M2 (by omega) hj hgi o1 hR2 p1 p2 kk)
theorem m_product {o fu D : Nat} (he : e ≤ 120) (hD : 3 ≤ D) (i0 : Nat) (hf : ∀ j, i0 ≤ j → j ≤ e → 7 * (e - j) + (5 - 4) < fu + 1) (hS : mC L xs e tp nm c_Md_one D o i0 (pz (chT tp e) fu 5 o)) : mC L xs e tp nm c_Md_product (D + 1) o i0 (pz (chT tp e) (fu + 1) 4 o) := by
  intro i d M Q h0 h1 h2 hR h17 h18 kk
  obtain ⟨d, rfl⟩ : ∃ a, d = a + 3 := ⟨d - 3, by omega⟩
  have hfi := hf i h0 h1
  have pe : pz (chT tp e) (fu + 1) 4 o i = (if (pz (chT tp e) fu 5 o i).1 then lp (chT tp e) (pz (chT tp e) fu 5 o) 4 fu 0 (pz (chT tp e) fu 5 o i).2.1 (pz (chT tp e) fu 5 o i).2.2.1 (pz (chT tp e) fu 5 o i).2.2.2 else (false, (pz (chT tp e) fu 5 o i).2.1, [], fun _ => 0)) := by rw [pz, if_pos (by decide)]
  rw [pe] at kk
  have hg := pz_good (chT_E tp e) fu 5 o i h1 (by omega)
  refine t_Md_product (hS i (d + 2) M _ h0 h1 (by omega) hR h17 h18 (fun M2 y hO => ?_))
  obtain ⟨o1, o2, o3, o4⟩ := hO
  have hR2 := hR.at o1 o2
  have hj := hg.2.1
  cases hb : (pz (chT tp e) fu 5 o i).1 with
  | false =>
    simp only [hb, Bool.false_eq_true, if_false] at kk
    have e17 := o4 hb
    have Q0 : ∀ x, Q (some (.int x)) M2 := fun x => kk M2 x (okM.ff o1 o2 e17)
    exact w_product_4 he hj hR2 (u_Md_product_10 ⟨fun _ => Q0 _, fun z => absurd (by rw [e17]; exact nI_pos' (by omega)) z⟩)
  | true =>
    simp only [hb, if_true] at kk
    obtain ⟨p1, p2, p3⟩ := o3 hb
    have hgi := (hg.2.2 hb).1
    subst p3
    exact w_product_4 he hj hR2 (m_product_loop (d := d + 1) (i := i) (D := D) (P := pz (chT tp e) fu 5 o) he (by omega) (fun j h3 h4 => pz_good (chT_E tp e) fu 5 o j h4 (by have := hf j (by omega) h4; omega)) (fun i' d' M' Q' a1 a2 a3 a4 a5 a6 a7 => hS i' d' M' Q' (by omega) a2 a3 a4 a5 a6 a7) fu 0 _ _ _ M2 (by omega) hj hgi o1 hR2 p1 p2 kk)
theorem m_compared {o fu D : Nat} (he : e ≤ 120) (hD : 3 ≤ D) (i0 : Nat) (hf : ∀ j, i0 ≤ j → j ≤ e → 7 * (e - j) + (5 - 2) < fu + 1) (hS : mC L xs e tp nm c_Md_sums D o i0 (pz (chT tp e) fu 3 o)) : mC L xs e tp nm c_Md_compared (D + 1) o i0 (pz (chT tp e) (fu + 1) 2 o) := by
  intro i d M Q h0 h1 h2 hR h17 h18 kk
  obtain ⟨d, rfl⟩ : ∃ a, d = a + 3 := ⟨d - 3, by omega⟩
  have hfi := hf i h0 h1
  have pe : pz (chT tp e) (fu + 1) 2 o i = (if (pz (chT tp e) fu 3 o i).1 then lp (chT tp e) (pz (chT tp e) fu 3 o) 2 fu 0 (pz (chT tp e) fu 3 o i).2.1 (pz (chT tp e) fu 3 o i).2.2.1 (pz (chT tp e) fu 3 o i).2.2.2 else (false, (pz (chT tp e) fu 3 o i).2.1, [], fun _ => 0)) := by rw [pz, if_pos (by decide)]
  rw [pe] at kk
  have hg := pz_good (chT_E tp e) fu 3 o i h1 (by omega)
  refine t_Md_compared (hS i (d + 2) M _ h0 h1 (by omega) hR h17 h18 (fun M2 y hO => ?_))
  obtain ⟨o1, o2, o3, o4⟩ := hO
  have hR2 := hR.at o1 o2
  have hj := hg.2.1
  cases hb : (pz (chT tp e) fu 3 o i).1 with
  | false =>
    simp only [hb, Bool.false_eq_true, if_false] at kk
    have e17 := o4 hb
    have Q0 : ∀ x, Q (some (.int x)) M2 := fun x => kk M2 x (okM.ff o1 o2 e17)
    exact w_compared_4f he hj hR2 e17 (by omega) (Q0 _)
  | true =>
    simp only [hb, if_true] at kk
    obtain ⟨p1, p2, p3⟩ := o3 hb
    have hgi := (hg.2.2 hb).1
    subst p3
    obtain ⟨fu, rfl⟩ : ∃ a, fu = a + 1 := ⟨fu - 1, by omega⟩
    rw [lp] at kk
    refine w_compared_4 he hj hR2 p1 (fun hr => ?_) (fun hr => ?_)
    · rw [if_pos ⟨hr, by omega⟩] at kk
      have hje := (chT_E tp e).lt (rkO_ne (c := chT tp e (pz (chT tp e) (fu + 1) 3 o i).2.1) (by omega))
      have hg2 := pz_good (chT_E tp e) (fu + 1) 3 o ((pz (chT tp e) (fu + 1) 3 o i).2.1 + 1) (by omega) (by have := hf ((pz (chT tp e) (fu + 1) 3 o i).2.1 + 1) (by omega) (by omega); omega)
      refine hS ((pz (chT tp e) (fu + 1) 3 o i).2.1 + 1) (d + 2) _ _ (by omega) (by omega) (by omega) hR2.go (by rw [wi_sl (by decide)]; exact p1) (by rw [wi_sl (by decide)]; exact p2) (fun M3 y3 hO3 => ?_)
      obtain ⟨r1, r2, r3, r4⟩ := hO3
      have hf3 : fs [] fJ M M3 := (fJw15 o1).tt r1
      cases hb2 : (pz (chT tp e) (fu + 1) 3 o ((pz (chT tp e) (fu + 1) 3 o i).2.1 + 1)).1 with
      | false =>
        simp only [hb2, Bool.false_eq_true, if_false] at kk
        have Q1 : ∀ x, Q (some (.int x)) M3 := fun x => kk M3 x (okM.ff hf3 r2 (r4 hb2))
        exact u_Md_compared_51 ⟨fun _ => ⟨fun _ => ⟨fun _ => Q1 _, fun _ => Q1 _⟩, fun _ => ⟨fun _ => Q1 _, fun _ => Q1 _⟩⟩, fun _ => ⟨fun _ => Q1 _, fun _ => Q1 _⟩⟩
      | true =>
        simp only [hb2, if_true, Nat.zero_add, lp_2] at kk
        obtain ⟨t1, t2, t3⟩ := r3 hb2
        have K := kk M3 _ (okM.st hf3 r2 t1 t2)
        simp only [← t3] at K
        refine u_Md_compared_51 ⟨fun n60 => ⟨fun n61 => ?_, fun h61 => ?_⟩, fun h60 => ?_⟩
        · have h62 := (rk2 hr).elim (fun z => absurd z n60) (fun z => z.elim (fun z => absurd z n61) id)
          rw [h62] at K
          exact ⟨fun z => by simp only [lwJ, z, if_true] at K; exact K, fun z => by simp only [lwJ, z, if_false] at K; exact K⟩
        · rw [h61] at K
          exact ⟨fun z => by simp only [lwJ, z, if_false] at K; exact K, fun z => by simp only [lwJ, z, if_true] at K; exact K⟩
        · rw [h60] at K
          exact ⟨fun z => by simp only [lwJ, z, if_true] at K; exact K, fun z => by simp only [lwJ, z, if_false] at K; exact K⟩
    · rw [if_neg (fun z => hr z.1)] at kk
      exact kk M2 _ (okM.st o1 o2 p1 p2)
end SN
