/-! ===== the class's reader ===== -/
def chT (tp : Nat → Int32) (e : Nat) : Nat → Int32 := fun k => if k < e then tp k else 0
theorem chT_E (tp : Nat → Int32) (e : Nat) : chE (chT tp e) e := fun i hi => if_neg (by omega)
theorem chT_lt {tp : Nat → Int32} {e i : Nat} (h : i < e) : chT tp e i = tp i := if_pos h
theorem chT_ge {tp : Nat → Int32} {e i : Nat} (h : e ≤ i) : chT tp e i = 0 := if_neg (by omega)
def rdX (e : Nat) (tp : Nat → Int32) (i m : Nat) (M : AM) : Prop := M.1 8 1 = nI e ∧ M.1 8 2 = nI i ∧ M.1 8 5 = nI m ∧ ∀ k, k < e → M.1 9 k = tp k
def okX (e : Nat) (tp : Nat → Int32) (m : Nat) (b : Bool) (j : Nat) (c : PC) (M M' : AM) : Prop := fr [8, 10, 11] M M' ∧ M'.1 8 2 = nI j ∧ (b = true → rdX e tp j (m + c.length) M' ∧ cdR c m (M'.1 10) (M'.1 11) ∧ ∀ q, q < m → M'.1 10 q = M.1 10 q ∧ M'.1 11 q = M.1 11 q)
def rkR (c : Int32) : Int32 := if rkO c < 5 then nI (rkO c) else -1
section SR
variable {L : Nat} {xs : Nat → Int32} {d : Nat} {Q : AQ} {M M1 M2 : AM} {e i j m : Nat} {tp : Nat → Int32}
theorem rdX.go (h : rdX e tp i m M) : rdX e tp (i + 1) m (am_wi M 8 2 (nI (i + 1))) := ⟨by rw [wi_sl (by decide)]; exact h.1, wi_eq, by rw [wi_sl (by decide)]; exact h.2.2.1, fun k hk => by rw [wi_ne (by decide)]; exact h.2.2.2 k hk⟩
theorem okX.go {b : Bool} {c : PC} (h : rdX e tp i m M) (h2 : okX e tp m b j c (am_wi M 8 2 (nI (i + 1))) M2) : okX e tp m b j c M M2 := by
  obtain ⟨h1, h2, h3⟩ := h2
  refine ⟨fr.tr (fr.rf.wi (by decide)) h1 (fun b hb => hb) (fun b hb => hb), h2, fun z => ?_⟩
  obtain ⟨g1, g2, g3⟩ := h3 z
  refine ⟨g1, g2, fun q hq => ?_⟩
  have := g3 q hq
  rw [wi_ne (by decide), wi_ne (by decide)] at this
  exact this
theorem okX.no (h : rdX e tp i m M) : okX e tp m false i [] M M := ⟨fr.rf, h.2.1, fun z => by cases z⟩
theorem okX.app {b : Bool} {c c' : PC} (h1 : okX e tp m true i c M M1) (h2 : okX e tp (m + c.length) b j c' M1 M2) : okX e tp m b j (c ++ c') M M2 := by
  obtain ⟨a1, a2, a3⟩ := h1
  obtain ⟨a4, a5, a6⟩ := a3 rfl
  obtain ⟨b1, b2, b3⟩ := h2
  refine ⟨fr.tr a1 b1 (fun b hb => hb) (fun b hb => hb), b2, fun z => ?_⟩
  obtain ⟨b4, b5, b6⟩ := b3 z
  refine ⟨?_, ?_, fun q hq => ?_⟩
  · rw [List.length_append, ← Nat.add_assoc]; exact b4
  · rw [cdR_app]
    exact ⟨cdR_ext (fun q h1 h2 => b6 q h2) a5, b5⟩
  · have e1 := b6 q (by omega)
    have e2 := a6 q hq
    exact ⟨e1.1.trans e2.1, e1.2.trans e2.2⟩
theorem okX.mk {s t : Int32} (h : rdX e tp i m M) : okX e tp m true i [(s, t)] M (am_wi (am_wi (am_wi M 10 m s) 11 m t) 8 5 (nI (m + 1))) := by
  refine ⟨((fr.rf.wi (by decide)).wi (by decide)).wi (by decide), ?_, fun _ => ⟨⟨?_, ?_, wi_eq, fun k hk => ?_⟩, ⟨?_, ?_, trivial⟩, fun q hq => ⟨?_, ?_⟩⟩⟩
  · rw [wi_sl (by decide), wi_ne (by decide), wi_ne (by decide)]; exact h.2.1
  · rw [wi_sl (by decide), wi_ne (by decide), wi_ne (by decide)]; exact h.1
  · rw [wi_sl (by decide), wi_ne (by decide), wi_ne (by decide)]; exact h.2.1
  · rw [wi_ne (by decide), wi_ne (by decide), wi_ne (by decide)]; exact h.2.2.2 k hk
  · rw [wi_ne (by decide), wi_ne (by decide), wi_eq]
  · rw [wi_ne (by decide), wi_eq]
  · rw [wi_ne (by decide), wi_ne (by decide), wi_sl (by omega)]
  · rw [wi_ne (by decide), wi_sl (by omega), wi_ne (by decide)]
theorem s_rankOf {c : Int32} (k : Q (some (.int (rkR c))) M) : am_Call (gG L xs) (d + 1) c_Reader_rankOf [.int c] M Q := by
  refine t_Reader_rankOf ⟨fun h => ?_, fun h => ?_, fun h => ?_, fun h => ?_, fun h => ?_, fun h => ?_, fun h => ?_, fun h => ?_, fun h => ?_, fun h => ?_, fun h1 h2 h3 h4 h5 h6 h7 h8 h9 h0 => ?_⟩
  · subst h; rw [show rkR 37 = 4 from by decide] at k; exact k
  · subst h; rw [show rkR 38 = 1 from by decide] at k; exact k
  · subst h; rw [show rkR 42 = 4 from by decide] at k; exact k
  · subst h; rw [show rkR 43 = 3 from by decide] at k; exact k
  · subst h; rw [show rkR 45 = 3 from by decide] at k; exact k
  · subst h; rw [show rkR 47 = 4 from by decide] at k; exact k
  · subst h; rw [show rkR 60 = 2 from by decide] at k; exact k
  · subst h; rw [show rkR 61 = 2 from by decide] at k; exact k
  · subst h; rw [show rkR 62 = 2 from by decide] at k; exact k
  · subst h; rw [show rkR 124 = 0 from by decide] at k; exact k
  · have : rkR c = -1 := by simp [rkR, rkO, h1, h2, h3, h4, h5, h6, h7, h8, h9, h0]
    rw [this] at k; exact k
theorem s_isName {c : Int32} (k : Q (some (.int (b2i (decide (nmI c < 6))))) M) : am_Call (gG L xs) (d + 1) c_Reader_isName [.int c] M Q := by
  refine t_Reader_isName ⟨fun h => ?_, fun h1 => ⟨fun h => ?_, fun h2 => ⟨fun h => ?_, fun h3 => ⟨fun h => ?_, fun h4 => ⟨fun h => ?_, fun h5 => ⟨fun h6 => ?_, fun h => ?_⟩⟩⟩⟩⟩⟩
  · subst h; exact k
  · subst h; exact k
  · subst h; exact k
  · subst h; exact k
  · subst h; exact k
  · have : nmI c = 9 := by simp [nmI, h1, h2, h3, h4, h5, h6]
    rw [this] at k; exact k
  · subst h; exact k
theorem dig_iff {c : Int32} : dig c = true ↔ ¬ c < 48 ∧ ¬ 57 < c := by
  simp only [dig, Bool.and_eq_true, decide_eq_true_eq, Int32.not_lt]
theorem x_number (he : e ≤ 120) : ∀ (k i : Nat) (v : Int32) (M : AM), k ≤ 4 → i ≤ e → m ≤ 120 → rdX e tp i m M → (∀ M', okX e tp m true (numL (chT tp e) k i v).1 [(99, (numL (chT tp e) k i v).2)] M M' → Q (some (.int 1)) M') →
    v_Reader_digits L xs (d + 1) Q 4 [(0, .ref 8), (1, .int v), (2, .int (nI (4 - k)))] [] M := by
  intro k
  induction k with
  | zero =>
    intro i v M hk hi hm hR kk
    obtain ⟨r1, r2, r3, r4⟩ := hR
    refine u_Reader_digits_4 ?_
    rw [r3]
    (simp (disch := omega) only [nl_lt, nl_gt, nl_le, nl_ge, nl_eq, nl_qe, nl_add, nl_dda, nl_mul, nl_lum, nl_sub, nl_m1, nl_m1e, nl_m2e, nl_lt0, nl_ge0, c_m1lt, c_m2lt, c_0lem1, c_0lem2, c_00, c_10, c_01, n_leI, n_ltI, nI_eq, nI_add, n_mul, n_vp, n_cl, false_implies, true_implies, and_true, true_and, not_true_eq_false, not_false_eq_true, forall_const, implies_true, false_and, and_false])
    repeat' (first | (with_reducible refine And.intro ?_ ?_) | (with_reducible intro h; first | (exfalso; omega) | contradiction | skip))
    · omega
    · exact kk _ (okX.mk ⟨r1, r2, r3, r4⟩)
  | succ k ih =>
    intro i v M hk hi hm hR kk
    obtain ⟨r1, r2, r3, r4⟩ := hR
    have hR : rdX e tp i m M := ⟨r1, r2, r3, r4⟩
    have fin : dig (chT tp e i) = false → (nI m < 121 → vp_in (nI m) 121 ∧ Q (some (.int 1)) (am_wi (am_wi (am_wi M 10 (nI m).toNatClampNeg 99) 11 (nI m).toNatClampNeg v) 8 5 (nI m + 1))) ∧ (¬ nI m < 121 → Q (some (.int 1)) M) := by
      intro hd
      have e0 : numL (chT tp e) (k + 1) i v = (i, v) := by rw [numL, if_neg (by rw [hd]; decide)]
      rw [e0] at kk
      (simp (disch := omega) only [nl_lt, nl_gt, nl_le, nl_ge, nl_eq, nl_qe, nl_add, nl_dda, nl_mul, nl_lum, nl_sub, nl_m1, nl_m1e, nl_m2e, nl_lt0, nl_ge0, c_m1lt, c_m2lt, c_0lem1, c_0lem2, c_00, c_10, c_01, n_leI, n_ltI, nI_eq, nI_add, n_mul, n_vp, n_cl, false_implies, true_implies, and_true, true_and, not_true_eq_false, not_false_eq_true, forall_const, implies_true, false_and, and_false])
      repeat' (first | (with_reducible refine And.intro ?_ ?_) | (with_reducible intro h; first | (exfalso; omega) | contradiction | skip))
      · omega
      · exact kk _ (okX.mk hR)
    refine u_Reader_digits_4 ?_
    rw [r1, r2, r3]
    refine ⟨fun h => absurd ((n_leI (a := 4) (by decide) (by omega)).mp h) (by omega), fun _ => ⟨fun h => ?_, fun h => ?_⟩⟩
    · rw [n_leI (by omega) (by omega)] at h
      exact fin (by rw [chT_ge h]; decide)
    · rw [n_leI (by omega) (by omega)] at h
      have hie : i < e := by omega
      rw [n_cl (show i < 2 ^ 31 by omega), r4 i hie]
      refine ⟨(n_vp (by omega)).mpr (by omega), fun h1 => ?_, fun h1 => ⟨fun h2 => ?_, fun h2 => ?_⟩⟩
      · exact fin (by rw [chT_lt hie]; cases h : dig (tp i) with
          | false => rfl
          | true => exact absurd h1 (dig_iff.mp h).1)
      · exact fin (by rw [chT_lt hie]; cases h : dig (tp i) with
          | false => rfl
          | true => exact absurd h2 (dig_iff.mp h).2)
      · have hd : dig (chT tp e i) = true := by rw [chT_lt hie]; exact dig_iff.mpr ⟨h1, h2⟩
        have e1 : numL (chT tp e) (k + 1) i v = numL (chT tp e) k (i + 1) (v * 10 + (tp i - 48)) := by rw [numL, if_pos hd, chT_lt hie]
        rw [e1] at kk
        rw [nI_1, nI_1, show 4 - (k + 1) + 1 = 4 - k from by omega]
        exact ih (i + 1) _ _ (by omega) (by omega) hm hR.go (fun M' h => kk M' (okX.go hR h))
end SR
