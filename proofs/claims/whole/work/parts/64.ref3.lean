section SO
variable {L : Nat} {xs : Nat → Int32} {e : Nat} {tp nm : Nat → Int32}
theorem m_digits {o : Nat} {d : Nat} {Q : AQ} {M0 : AM} (he : e ≤ 120) (ho : M0.1 40 18 = nI o) (h17 : M0.1 40 17 = -1) : ∀ (k q i : Nat) (v : Int32) (M : AM), q + k = 4 → 0 < q → i ≤ e → fs [] [15] M0 M → rfM e tp i nm M →
    (∀ M', okM o nm true (numL (chT tp e) k i v).1 (fun _ => (numL (chT tp e) k i v).2) M0 M' (numL (chT tp e) k i v).2 → Q (some (.int (numL (chT tp e) k i v).2)) M') →
    v_Md_one L xs (d + 1) Q 176 [(0, .ref 40), (3, .int v), (4, .int (nI q))] [] M := by
  intro k
  induction k with
  | zero =>
    intro q i v M hq h0 hi hf hR kk
    have h17' : M.1 40 17 = -1 := by rw [hf.j 17]; exact h17
    exact w_one_176 he hi hR h17' (by omega) (fun h => by omega) (fun _ _ => kk M ⟨hf.to (by decide) (by decide), hR.2.1, fun _ => ⟨h17', by rw [hf.j 18]; exact ho, rfl⟩, fun z => by cases z⟩) (fun h => by omega)
  | succ k ih =>
    intro q i v M hq h0 hi hf hR kk
    have h17' : M.1 40 17 = -1 := by rw [hf.j 17]; exact h17
    rw [numL] at kk
    refine w_one_176 he hi hR h17' (by omega) (fun _ hd => ?_) (fun h _ => ?_) (fun h => by omega)
    · have hie := (chT_E tp e).lt (dig_ne hd)
      rw [if_pos hd] at kk
      exact ih (q + 1) (i + 1) _ _ (by omega) (by omega) (by omega) (hf.s (by decide)) hR.go kk
    · have hd : dig (chT tp e i) = false := h.elim (fun z => by omega) id
      rw [if_neg (by rw [hd]; decide)] at kk
      exact kk M ⟨hf.to (by decide) (by decide), hR.2.1, fun _ => ⟨h17', by rw [hf.j 18]; exact ho, rfl⟩, fun z => by cases z⟩
theorem m_one {fu : Nat} (he : e ≤ 120) (hO : ∀ o i0, o ≤ 6 → (∀ j, i0 ≤ j → j ≤ e → 7 * (e - j) < fu) → mC L xs e tp nm c_Md_one (7 * (7 - o) + 4) o i0 (pz (chT tp e) fu 5 o)) (hE : ∀ o i0, o ≤ 6 → (∀ j, i0 ≤ j → j ≤ e → 7 * (e - j) + 5 < fu) → mC L xs e tp nm c_Md_either (7 * (7 - o) + 9) o i0 (pz (chT tp e) fu 0 o)) :
    ∀ o i0, o ≤ 6 → (∀ j, i0 ≤ j → j ≤ e → 7 * (e - j) < fu + 1) → mC L xs e tp nm c_Md_one (7 * (7 - o) + 4) o i0 (pz (chT tp e) (fu + 1) 5 o) := by
  intro o i0 ho hf i d M Q h0 h1 h2 hR h17 h18 kk
  obtain ⟨d, rfl⟩ : ∃ a, d = a + 4 := ⟨d - 4, by omega⟩
  have hE' := chT_E tp e
  have hfi := hf i h0 h1
  rw [pz_5] at kk
  refine t_Md_one ⟨fun _ => s_byteAt he h1 hR ?_, fun z => absurd (by rw [h17]; decide) z⟩
  have wr : ∀ p : PR, p = (false, i, [], fun _ => 0) → (∀ M' y, okM o nm p.1 p.2.1 p.2.2.2 M M' y → Q (some (.int y)) M') → ((0 ≤ (M.1 40 17)) → Q (some (.int (0 : Int32))) (am_wi M 40 17 (M.1 40 17))) ∧ (¬ 0 ≤ (M.1 40 17) → Q (some (.int (0 : Int32))) (am_wi M 40 17 (M.1 40 15))) := by
    intro p hp k2
    subst hp
    refine ⟨fun z => absurd z (by rw [h17]; decide), fun _ => ?_⟩
    rw [hR.2.1]
    exact k2 _ _ (okM.ff (fs.rf.s (by decide)) (by rw [wi_sl (by decide)]; exact hR.2.1) wi_eq)
  have nest : i < e → ∃ M1, M1 = am_wi (am_wi M 40 18 (nI o + 1)) 40 15 (nI i + 1) ∧ fs [] fJ M M1 ∧ rfM e tp (i + 1) nm M1 ∧ M1.1 40 17 = -1 ∧ M1.1 40 18 = nI (o + 1) := by
    intro hie
    refine ⟨_, rfl, (fs.rf.s (by decide)).s (by decide), ?_, ?_, ?_⟩
    · rw [nI_1, nI_1]
      exact hR.at ((fs.rf.s (by decide)).s (by decide)) wi_eq
    · rw [wi_sl (by decide), wi_sl (by decide)]; exact h17
    · rw [wi_sl (by decide), wi_eq, nI_1]
  have e6 : nI o = 6 ↔ o = 6 := nI_eq (b := 6) (by omega) (by decide)
  have un : ∀ c : Int32, (c = 33 ∨ c = 45) → chT tp e i = c → (6 ≤ o → ∀ M' y, okM o nm false i (fun _ => 0) M M' y → Q (some (.int y)) M') → (¬ 6 ≤ o → ∀ M2 y, okM o nm (pz (chT tp e) fu 5 (o + 1) (i + 1)).1 (pz (chT tp e) fu 5 (o + 1) (i + 1)).2.1 (fun nm => if c = 33 then (if (pz (chT tp e) fu 5 (o + 1) (i + 1)).2.2.2 nm = 0 then 1 else 0) else -((pz (chT tp e) fu 5 (o + 1) (i + 1)).2.2.2 nm)) M M2 y → Q (some (.int y)) M2) →
      (¬ (M.1 40 18) = 6 → (¬ c = 40 → am_Call (gG L xs) (d + 2 + 1) c_Md_one [.ref 40] (am_wi (am_wi M 40 18 ((M.1 40 18) + 1)) 40 15 ((M.1 40 15) + 1)) (fun r M' => v_Md_one L xs (d + 2 + 1) Q 83 [(0, .ref 40), (1, .int c)] (r.toList ++ []) M'))) ∧ ((M.1 40 18) = 6 → ((0 ≤ (M.1 40 17)) → Q (some (.int (0 : Int32))) (am_wi M 40 17 (M.1 40 17))) ∧ (¬ 0 ≤ (M.1 40 17) → Q (some (.int (0 : Int32))) (am_wi M 40 17 (M.1 40 15)))) := by
    intro c hc hch k6 k
    have hie : i < e := hE'.lt (by rw [hch]; rcases hc with h | h <;> (rw [h]; decide))
    rw [h18, hR.2.1]
    refine ⟨fun n6 _ => ?_, fun h6 => ?_⟩
    · have ho6 : ¬ 6 ≤ o := fun z => n6 (e6.mpr (by omega))
      obtain ⟨M1, hM1, f1, R1, a17, a18⟩ := nest hie
      rw [← hM1]
      have hg := pz_good hE' fu 5 (o + 1) (i + 1) (by omega) (by omega)
      refine hO (o + 1) (i + 1) (by omega) (fun j h3 h4 => by have := hf j (by omega) h4; omega) (i + 1) _ M1 _ (by omega) (by omega) (by omega) R1 a17 a18 (fun M2 y hO2 => ?_)
      obtain ⟨o1, o2, o3, o4⟩ := hO2
      have f2 : fs [] fJ M M2 := f1.tt o1
      have f3 : ∀ v, fs [] fJ M (am_wi M2 40 18 v) := fun v => f2.s (by decide)
      have kb := k ho6
      cases hb : (pz (chT tp e) fu 5 (o + 1) (i + 1)).1 with
      | false =>
        rw [hb] at kb
        have Q1 : ∀ x v, Q (some (.int x)) (am_wi M2 40 18 v) := fun x v => kb _ x (okM.ff (f3 v) (by rw [wi_sl (by decide)]; exact o2) (by rw [wi_sl (by decide)]; exact o4 hb))
        refine u_Md_one_83 ⟨fun _ => ⟨fun _ => ⟨fun _ => Q1 _ _, fun _ => Q1 _ _⟩, fun _ => Q1 _ _⟩, fun z => ?_⟩
        rcases hc with h | h <;> (rw [h] at z; exact absurd z (by decide))
      | true =>
        rw [hb] at kb
        obtain ⟨p1, p2, p3⟩ := o3 hb
        have ok : okM o nm true (pz (chT tp e) fu 5 (o + 1) (i + 1)).2.1 (fun nm => if c = 33 then (if (pz (chT tp e) fu 5 (o + 1) (i + 1)).2.2.2 nm = 0 then 1 else 0) else -((pz (chT tp e) fu 5 (o + 1) (i + 1)).2.2.2 nm)) M (am_wi M2 40 18 (M2.1 40 18 - 1)) _ := okM.st (f3 _) (by rw [wi_sl (by decide)]; exact o2) (by rw [wi_sl (by decide)]; exact p1) (by rw [wi_eq, p2, n_top])
        have K := kb _ _ ok
        rw [← p3] at K
        refine u_Md_one_83 ⟨fun _ => ⟨fun n45 => ⟨fun n0 => ?_, fun h0 => ?_⟩, fun h45 => ?_⟩, fun z => ?_⟩
        · have h33 : c = 33 := hc.elim id (fun z => absurd z n45)
          rw [if_pos h33, if_neg n0] at K; exact K
        · have h33 : c = 33 := hc.elim id (fun z => absurd z n45)
          rw [if_pos h33, if_pos h0] at K; exact K
        · rw [if_neg (by rw [h45]; decide)] at K; exact K
        · rcases hc with h | h <;> (rw [h] at z; exact absurd z (by decide))
    · have ho6 : 6 ≤ o := by have := e6.mp h6; omega
      rw [← hR.2.1]
      exact wr _ rfl (k6 ho6)
  refine u_Md_one_13 ⟨fun h33 => ?_, fun n33 => ⟨fun h45 => ?_, fun n45 => ⟨fun n40 => ?_, fun h40 => ?_⟩⟩⟩
  · rw [h33, if_neg (by decide), if_neg (by decide)] at kk
    have := un 33 (Or.inl rfl) h33 (fun h6 => by rw [if_pos h6] at kk; exact kk) (fun h6 M2 y hok => by
      rw [if_neg h6, if_neg (by decide), if_pos rfl] at kk
      cases hb : (pz (chT tp e) fu 5 (o + 1) (i + 1)).1 with
      | false => simp only [hb, Bool.false_eq_true, if_false] at kk; rw [hb] at hok; exact kk M2 y ⟨hok.1, hok.2.1, fun z => (by cases z), hok.2.2.2⟩
      | true => simp only [hb, if_true] at kk; rw [hb] at hok; simp only [if_true] at hok; exact kk M2 y hok)
    rw [h33]
    exact ⟨fun n6 => ⟨this.1 n6, fun z => absurd z (by decide)⟩, this.2⟩
  · rw [h45, if_neg (by decide), if_neg (by decide)] at kk
    have := un 45 (Or.inr rfl) h45 (fun h6 => by rw [if_pos h6] at kk; exact kk) (fun h6 M2 y hok => by
      rw [if_neg h6, if_neg (by decide), if_neg (by decide), if_pos rfl] at kk
      cases hb : (pz (chT tp e) fu 5 (o + 1) (i + 1)).1 with
      | false => simp only [hb, Bool.false_eq_true, if_false] at kk; rw [hb] at hok; exact kk M2 y ⟨hok.1, hok.2.1, fun z => (by cases z), hok.2.2.2⟩
      | true =>
        simp only [hb, if_true] at kk; rw [hb] at hok
        obtain ⟨q1, q2, q3, q4⟩ := hok
        exact kk M2 y ⟨q1, q2, fun z => ⟨(q3 z).1, (q3 z).2.1, by have := (q3 z).2.2; dsimp only at this; rw [if_neg (by decide)] at this; exact this⟩, q4⟩)
    rw [h45]
    exact ⟨fun n6 => ⟨this.1 n6, fun z => absurd z (by decide)⟩, this.2⟩
  · have nam : ∀ c : Int32, ∀ k : Nat, chT tp e i = c → dig c = false → nmI c = k → k < 6 → Q (some (.int (M.1 48 k))) (am_wi M 40 15 ((M.1 40 15) + 1)) := by
      intro c k hc hd hk hk6
      have hie : i < e := hE'.lt (nmI_ne (by rw [hc, hk]; exact hk6))
      simp only [hc, hd, hk, hk6, if_true, Bool.false_eq_true, if_false] at kk
      rw [hR.2.1, nI_1, hR.2.2.2 k hk6]
      exact kk _ _ (okM.st (v := fun nm => nm k) (fs.rf.s (by decide)) wi_eq (by rw [wi_sl (by decide)]; exact h17) (by rw [wi_sl (by decide)]; exact h18))
    refine ⟨fun h => ⟨(n_vp (a := 1) (by decide)).mpr (by decide), nam _ 1 h (by decide) (by decide) (by decide)⟩, fun h => ⟨(n_vp (a := 0) (by decide)).mpr (by decide), nam _ 0 h (by decide) (by decide) (by decide)⟩, fun h => ⟨(n_vp (a := 4) (by decide)).mpr (by decide), nam _ 4 h (by decide) (by decide) (by decide)⟩, fun h => ⟨(n_vp (a := 5) (by decide)).mpr (by decide), nam _ 5 h (by decide) (by decide) (by decide)⟩, fun h => ⟨(n_vp (a := 3) (by decide)).mpr (by decide), nam _ 3 h (by decide) (by decide) (by decide)⟩, fun h => ⟨(n_vp (a := 2) (by decide)).mpr (by decide), nam _ 2 h (by decide) (by decide) (by decide)⟩, fun c1 c2 c3 c4 c5 c6 => ?_⟩
    have hn : ¬ nmI (chT tp e i) < 6 := by simp [nmI, c1, c2, c3, c4, c5, c6]
    refine w_one_176 (q := 0) he h1 hR h17 (by omega) (fun _ hd => ?_) (fun _ h => by omega) (fun _ hd => ?_)
    · have hie := hE'.lt (dig_ne hd)
      rw [if_pos hd] at kk
      have e4 : numL (chT tp e) 4 i 0 = numL (chT tp e) 3 (i + 1) (0 * 10 + (chT tp e i - 48)) := by rw [numL, if_pos hd]
      rw [e4] at kk
      exact m_digits he h18 h17 3 1 (i + 1) _ _ rfl (by omega) (by omega) (fs.rf.s (by decide)) hR.go (fun M' h => kk M' _ h)
    · rw [if_neg (by rw [hd]; decide), if_neg hn] at kk
      have z : (∀ M' y, okM o nm false i (fun _ => 0) M M' y → Q (some (.int y)) M') := by
        by_cases h6 : 6 ≤ o
        · rw [if_pos h6] at kk; exact kk
        · rw [if_neg h6, if_neg n40, if_neg n33, if_neg n45] at kk; exact kk
      exact z _ _ (okM.ff (fs.rf.s (by decide)) (by rw [wi_sl (by decide)]; exact hR.2.1) wi_eq)
  · rw [h40, if_neg (by decide), if_neg (by decide)] at kk
    have hie : i < e := hE'.lt (by rw [h40]; decide)
    refine ⟨fun n6 => ?_, fun h6 => ?_⟩
    · rw [h18] at n6
      have ho6 : ¬ 6 ≤ o := fun z => n6 (e6.mpr (by omega))
      rw [if_neg ho6, if_pos rfl] at kk
      rw [h18, hR.2.1, h40]
      obtain ⟨M1, hM1, f1, R1, a17, a18⟩ := nest hie
      rw [← hM1]
      have hg := pz_good hE' fu 0 (o + 1) (i + 1) (by omega) (by omega)
      refine hE (o + 1) (i + 1) (by omega) (fun j h3 h4 => by have := hf j (by omega) h4; omega) (i + 1) _ M1 _ (by omega) (by omega) (by omega) R1 a17 a18 (fun M2 y hO2 => ?_)
      obtain ⟨o1, o2, o3, o4⟩ := hO2
      have f2 : fs [] fJ M M2 := f1.tt o1
      have R2 : rfM e tp (pz (chT tp e) fu 0 (o + 1) (i + 1)).2.1 nm M2 := R1.at o1 o2
      have hj := hg.2.1
      cases hb : (pz (chT tp e) fu 0 (o + 1) (i + 1)).1 with
      | false =>
        simp only [hb, Bool.false_eq_true, if_false] at kk
        have e17 := o4 hb
        refine u_Md_one_76 ⟨fun z => absurd rfl z, fun _ => ⟨fun _ => ?_, fun z => absurd (by rw [e17]; exact nI_pos' (by omega)) z⟩⟩
        exact kk _ _ (okM.ff (f2.s (by decide)) (by rw [wi_sl (by decide)]; exact o2) (by rw [wi_eq]; exact e17))
      | true =>
        simp only [hb, if_true] at kk
        obtain ⟨p1, p2, p3⟩ := o3 hb
        subst p3
        refine w_one_paren he hj R2 p1 p2 (fun h41 => ?_) (fun n41 => ?_)
        · rw [if_pos h41] at kk
          exact kk _ _ (okM.st ((f2.s (by decide)).s (by decide)) (by rw [wi_sl (by decide), wi_eq]) (by rw [wi_sl (by decide), wi_sl (by decide)]; exact p1) wi_eq)
        · rw [if_neg n41] at kk
          exact kk _ _ (okM.ff (f2.s (by decide)) (by rw [wi_sl (by decide)]; exact o2) wi_eq)
    · rw [h18] at h6
      have ho6 : 6 ≤ o := by have := e6.mp h6; omega
      rw [if_pos ho6] at kk
      exact wr _ rfl kk
theorem m_all (he : e ≤ 120) : ∀ fu, (∀ o i0, o ≤ 6 → (∀ j, i0 ≤ j → j ≤ e → 7 * (e - j) < fu) → mC L xs e tp nm c_Md_one (7 * (7 - o) + 4) o i0 (pz (chT tp e) fu 5 o)) ∧ (∀ o i0, o ≤ 6 → (∀ j, i0 ≤ j → j ≤ e → 7 * (e - j) + 1 < fu) → mC L xs e tp nm c_Md_product (7 * (7 - o) + 5) o i0 (pz (chT tp e) fu 4 o)) ∧ (∀ o i0, o ≤ 6 → (∀ j, i0 ≤ j → j ≤ e → 7 * (e - j) + 2 < fu) → mC L xs e tp nm c_Md_sums (7 * (7 - o) + 6) o i0 (pz (chT tp e) fu 3 o)) ∧ (∀ o i0, o ≤ 6 → (∀ j, i0 ≤ j → j ≤ e → 7 * (e - j) + 3 < fu) → mC L xs e tp nm c_Md_compared (7 * (7 - o) + 7) o i0 (pz (chT tp e) fu 2 o)) ∧ (∀ o i0, o ≤ 6 → (∀ j, i0 ≤ j → j ≤ e → 7 * (e - j) + 4 < fu) → mC L xs e tp nm c_Md_both (7 * (7 - o) + 8) o i0 (pz (chT tp e) fu 1 o)) ∧ (∀ o i0, o ≤ 6 → (∀ j, i0 ≤ j → j ≤ e → 7 * (e - j) + 5 < fu) → mC L xs e tp nm c_Md_either (7 * (7 - o) + 9) o i0 (pz (chT tp e) fu 0 o))
  | 0 => by
    refine ⟨?_, ?_, ?_, ?_, ?_, ?_⟩ <;> (intro o i0 ho hf i d M Q h0 h1; have := hf i h0 h1; omega)
  | fu + 1 => by
    obtain ⟨a5, a4, a3, a2, a1, a0⟩ := m_all he fu
    refine ⟨m_one he a5 a0, ?_, ?_, ?_, ?_, ?_⟩
    · intro o i0 ho hf
      exact m_product he (by omega) i0 (fun j h3 h4 => by have := hf j h3 h4; omega) (a5 o i0 ho (fun j h3 h4 => by have := hf j h3 h4; omega))
    · intro o i0 ho hf
      exact m_sums he (by omega) i0 (fun j h3 h4 => by have := hf j h3 h4; omega) (a4 o i0 ho (fun j h3 h4 => by have := hf j h3 h4; omega))
    · intro o i0 ho hf
      exact m_compared he (by omega) i0 (fun j h3 h4 => by have := hf j h3 h4; omega) (a3 o i0 ho (fun j h3 h4 => by have := hf j h3 h4; omega))
    · intro o i0 ho hf
      exact m_both he (by omega) i0 (fun j h3 h4 => by have := hf j h3 h4; omega) (a2 o i0 ho (fun j h3 h4 => by have := hf j h3 h4; omega))
    · intro o i0 ho hf
      exact m_either he (by omega) i0 (fun j h3 h4 => by have := hf j h3 h4; omega) (a1 o i0 ho (fun j h3 h4 => by have := hf j h3 h4; omega))
/-- an expression from a place on, nothing open -/
theorem m_expr (he : e ≤ 120) {i d : Nat} {M : AM} {Q : AQ} (hi : i ≤ e) (hd : 58 ≤ d) (hR : rfM e tp i nm M) (h17 : M.1 40 17 = -1) (h18 : M.1 40 18 = nI 0) (kk : ∀ M' y, okM 0 nm (pz (chT tp e) FU 0 0 i).1 (pz (chT tp e) FU 0 0 i).2.1 (pz (chT tp e) FU 0 0 i).2.2.2 M M' y → Q (some (.int y)) M') : am_Call (gG L xs) d c_Md_either [.ref 40] M Q :=
  (m_all he FU).2.2.2.2.2 0 i (by omega) (fun j _ _ => by unfold FU; omega) i d M Q (Nat.le_refl _) hi hd hR h17 h18 kk
end SO
