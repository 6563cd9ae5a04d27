section E8
variable {L : Nat} {xs : Nat → Int32} {d : Nat} {Q : AQ} {M M1 M2 : AM} {x1 x2 x3 x4 x5 : Int32} {n w p v nw bn : Nat} {f : Nat → Nat → Nat} {io : Nat → Option Nat} {aw : Nat → Bool} {T : PV}
def iD1 (n : Nat) (M : AM) : Prop := ∃ (nw : Nat) (io : Nat → Option Nat) (aw : Nat → Bool), nw ≤ 999 ∧ M.1 28 5 = nI nw ∧ M.1 40 7 = nI nw ∧ M.1 28 0 = M.1 40 31 ∧ M.1 28 1 = M.1 40 32 ∧ M.1 28 2 = M.1 40 33 ∧ M.1 28 3 = M.1 40 34 ∧ M.1 28 4 = M.1 40 35 ∧ M.1 28 6 = sI (fun p => (io p).isSome) ∧ M.1 28 7 = sI aw ∧ M.1 40 9 = sI aw ∧ (∀ p, n ≤ p → io p = none) ∧ (∀ p a, io p = some a → a < 1000) ∧ ∀ p, p < 12 → M.1 29 p = oI (io p) ∧ M.1 45 p = oI (io p)
def iD2 (n : Nat) (M : AM) : Prop := ∃ kb : Bool, M.1 27 6 = b2i kb ∧ M.1 40 36 = b2i kb ∧ (kb = true → ∃ (nw ip : Nat) (io : Nat → Option Nat) (aw : Nat → Bool), nw ≤ 999 ∧ ip ≤ n ∧ M.1 40 37 = nI ip ∧ M.1 30 5 = nI nw ∧ M.1 54 17 = nI nw ∧ M.1 30 0 = M.1 54 12 ∧ M.1 30 1 = M.1 54 13 ∧ M.1 30 2 = M.1 54 14 ∧ M.1 30 3 = M.1 54 15 ∧ M.1 30 4 = M.1 54 16 ∧ M.1 30 6 = sI (fun p => (io p).isSome) ∧ M.1 30 7 = sI aw ∧ M.1 40 38 = sI aw ∧ (∀ p, ip ≤ p → io p = none) ∧ (∀ p a, io p = some a → a < 1000) ∧ ∀ p, p < 12 → M.1 31 p = oI (io p) ∧ M.1 54 p = oI (io p))
theorem iD2.keep {K J : List Nat} (h : iD2 n M) (hf : fs K J M M1) (hk : ∀ b ∈ [27, 30, 31, 54], b ∉ K := by decide) (hj : ∀ j ∈ [36, 37, 38], j ∉ J := by decide) : iD2 n M1 := by
  unfold iD2 at h ⊢
  rw [hf.i 27 (hk 27 (by decide)), hf.i 30 (hk 30 (by decide)), hf.i 31 (hk 31 (by decide)), hf.i 54 (hk 54 (by decide)), hf.j 36 (hj 36 (by decide)), hf.j 37 (hj 37 (by decide)), hf.j 38 (hj 38 (by decide))]
  exact h
theorem iD.mk (h1 : iD1 n M) (h2 : iD2 n M) : iD n M := ⟨h1, h2⟩
theorem j_take (hI : Inv M) (hd : 100 ≤ d) : Jn L xs d c_Mo_take c_Md_take [.ref 0, .int x1] [.ref 40, .int x1] M := by
  have hI0 := hI
  obtain ⟨n, f, T, bn, hP, hL, hT, hC, hD, hA, hS, h23⟩ := hI
  obtain ⟨d, rfl⟩ : ∃ a, d = a + 9 := ⟨d - 9, by omega⟩
  have hD0 := hD
  obtain ⟨⟨nw, io, aw, d1, d2, d3, d4, d5, d6, d7, d8, d9, d10, d11, d12, d13, d14⟩, hD2⟩ := hD
  have hP0 := hP
  obtain ⟨p1, p2, p3, p4, p5, p6⟩ := hP
  have e1 := p1.1
  have ept : (nI n - 1).toInt = (n : Int) - 1 := n_pt (by omega)
  have et : (nI n).toInt = (n : Int) := nI_toInt (by omega)
  by_cases hv : 0 ≤ x1.toInt ∧ x1.toInt < n
  · obtain ⟨v1, v2⟩ := hv
    obtain ⟨p, rfl, hp, -⟩ := n_ofI v1
    have hpn : p < n := by omega
    have cx : ∀ Q : AQ, (∀ M', wP n f M M' → v_Mo_take L xs (d + 8) Q 20 [(0, .ref 0), (1, .int (nI p))] [.int (sI (dW n f nw io aw))] M') → am_Call (gG L xs) (d + 9) c_Mo_take [.ref 0, .int (nI p)] M Q := fun Q k =>
      t_Mo_take ⟨fun z => absurd z (nI_pos (by omega)), fun _ => ⟨fun z => by rw [e1, n_leI (by omega) (by omega)] at z; omega, fun _ => x_waits (by omega) hP0 d1 d2 d9 d10 k⟩⟩
    have cm : ∀ (Q : AQ) (M1 : AM), M1.1 40 6 = nI n → _ → am_Call (gG L xs) (d + 9) c_Md_take [.ref 40, .int (nI p)] M1 Q := fun Q M1 e6 W =>
      t_Md_take ⟨fun z => absurd z (g_nn (by omega)), fun _ => ⟨fun z => by rw [e6] at z; exact absurd z (g_top hpn (by omega)), fun _ => ⟨Or.inr rfl, W⟩⟩⟩
    by_cases hw : dW n f nw io aw p = true
    · refine Jn.of2 (v := nI nw) (P := fun M1 => ∃ M', wP n f M M' ∧ M1 = am_wi (am_wi M' 28 7 ((M'.1 28 7) ||| ((1 : Int32) <<< (nI p &&& 31)))) 28 2 ((M'.1 28 2) + 1)) (fun Q k => cx Q (fun M' h => u_Mo_take_20 ⟨fun _ => ?_, fun z => ?_⟩)) (fun M1 e Q k => ?_)
      · have K := k _ ⟨M', h, rfl⟩
        rw [h.1.i 28, d2, ← h.1.i 28]
        exact K
      · rw [sI_bit _ (by omega), hw] at z
        exact absurd z (by decide)
      · obtain ⟨M', h, rfl⟩ := e
        have F0 : fs [1, 3, 28] [9, 33] M M' := h.s
        have F1 := (F0.c (a := 28) (j := 7) (v := (M'.1 28 7) ||| ((1 : Int32) <<< (nI p &&& 31))) (by decide) (by decide)).c (a := 28) (j := 2) (v := (M'.1 28 2) + 1) (by decide) (by decide)
        have P1 := h.pp hP0
        refine cm _ _ (by rw [F1.j 6]; exact p5) (m_wnow (aw := aw) (io := io) (nw := nw) hpn (p6.keep (F1.i 41)) p4 p3 d1 (by rw [F1.j 7]; exact d3) (by simp [wi_rd, h.1.i 40, d11]) (by rw [F1.i 45]; exact (d14 p (by omega)).2) d13 (fun z => by rw [z] at hw; cases hw) (fun _ => ?_))
        have e7 := F1.j 7
        rw [d3] at e7
        rw [e7]
        refine k _ ?_
        · have F := (F1.s (j := 9) (v := ((am_wi (am_wi M' 28 7 ((M'.1 28 7) ||| ((1 : Int32) <<< (nI p &&& 31)))) 28 2 ((M'.1 28 2) + 1)).1 40 9) ||| ((1 : Int32) <<< (nI p &&& 31))) (by decide)).s (j := 33) (v := ((am_wi (am_wi M' 28 7 ((M'.1 28 7) ||| ((1 : Int32) <<< (nI p &&& 31)))) 28 2 ((M'.1 28 2) + 1)).1 40 33) + 1) (by decide)
          have g28 := h.1.i 28
          have g40 := h.1.i 40
          have g29 := h.1.i 29
          have g45 := h.1.i 45
          have hor : sI aw ||| ((1 : Int32) <<< (nI p &&& 31)) = sI (fun q => aw q || q == p) := by rw [sI_one (by omega), sI_or]
          refine ⟨n, f, T, bn, ⟨P1.1.fr (by simp [wi_rd]) (by rw [wi_ne (by decide), wi_ne (by decide), wi_ne (by decide), wi_ne (by decide)]), P1.2.1.congr (by simp [wi_rd]) (by rw [wi_ne (by decide), wi_ne (by decide), wi_ne (by decide), wi_ne (by decide)]) (fun _ _ => ⟨rfl, rfl⟩), p3, p4, by rw [F.j 6]; exact p5, p6.keep (F.i 41)⟩, hL.keep F (by decide) (by decide), hT.keep F (by decide) (by decide), hC.keep F (by decide) (by decide), iD.mk ⟨nw, io, fun q => aw q || q == p, d1, ?_, ?_, ?_, ?_, ?_, ?_, ?_, ?_, ?_, ?_, d12, d13, fun q hq => ⟨?_, ?_⟩⟩ (iD2.keep hD2 F), hA.keep F (by decide) (by decide), hS.keep F (by decide), by rw [F.j 23]; exact h23⟩
          · simp [wi_rd, g28, g40, d2]
          · simp [wi_rd, g28, g40, d3]
          · simp [wi_rd, g28, g40, d4]
          · simp [wi_rd, g28, g40, d5]
          · simp [wi_rd, g28, g40, d6]
          · simp [wi_rd, g28, g40, d7]
          · simp [wi_rd, g28, g40, d8]
          · simp [wi_rd, g28, g40, d9]
          · rw [← hor]; simp [wi_rd, g28, g40, d10]
          · rw [← hor]; simp [wi_rd, g28, g40, d11]
          · rw [F.i 29]; exact (d14 q hq).1
          · rw [F.i 45]; exact (d14 q hq).2
    · have hw : dW n f nw io aw p = false := by
        cases z : dW n f nw io aw p with
        | false => rfl
        | true => exact absurd z hw
      refine Jn.of2 (v := -5) (P := fun M1 => wP n f M M1) (fun Q k => cx Q (fun M' h => u_Mo_take_20 ⟨fun z => ?_, fun z => k _ h⟩)) (fun M1 h Q k => ?_)
      · rw [sI_bit _ (by omega), hw] at z
        exact absurd rfl z
      · have F : fs [1, 3] [] M M1 := h.s
        have P1 := h.pp hP0
        have K := k _ (Inv.wp hP0 hL hT hC hD0 hA hS h23 h)
        exact cm _ _ (by rw [F.j 6]; exact p5) (m_wnow hpn P1.2.2.2.2.2 p4 p3 d1 (by rw [F.j 7]; exact d3) (by rw [F.j 9]; exact d11) (by rw [F.i 45]; exact (d14 p (by omega)).2) d13 (fun _ => K) (fun z => by rw [z] at hw; cases hw))
  · refine Jn.no (-1) hI0 (fun Q k => ?_) (fun Q k => ?_)
    · refine t_Mo_take ⟨fun _ => k, fun z1 => ⟨fun _ => k, fun z2 => ?_⟩⟩
      exfalso
      rw [e1] at z2
      ((try simp only [lg_cmp_lt, lg_cmp_gt] at z1); simp (disch := omega) only [Int64.lt_iff_toInt_lt, Int32.toInt_toInt64, Int64.reduceToInt, ← Int32.toInt_inj, Int32.lt_iff_toInt_lt, Int32.le_iff_toInt_le, Int32.reduceToInt, nI_toInt, false_implies, true_implies, and_true, true_and, not_true_eq_false, not_false_eq_true, forall_const, implies_true, false_and, and_false, true_or, or_true, eq_self] at z1)
      ((try simp only [lg_cmp_lt, lg_cmp_gt] at z2); simp (disch := omega) only [et, Int64.lt_iff_toInt_lt, Int32.toInt_toInt64, Int64.reduceToInt, ← Int32.toInt_inj, Int32.lt_iff_toInt_lt, Int32.le_iff_toInt_le, Int32.reduceToInt, nI_toInt, false_implies, true_implies, and_true, true_and, not_true_eq_false, not_false_eq_true, forall_const, implies_true, false_and, and_false, true_or, or_true, eq_self] at z2)
      omega
    · refine t_Md_take ⟨fun _ => ⟨Or.inl rfl, k⟩, fun z1 => ⟨fun _ => ⟨Or.inl rfl, k⟩, fun z2 => ?_⟩⟩
      exfalso
      rw [p5] at z2
      ((try simp only [lg_cmp_lt, lg_cmp_gt] at z1); simp (disch := omega) only [Int64.lt_iff_toInt_lt, Int32.toInt_toInt64, Int64.reduceToInt, ← Int32.toInt_inj, Int32.lt_iff_toInt_lt, Int32.le_iff_toInt_le, Int32.reduceToInt, nI_toInt, false_implies, true_implies, and_true, true_and, not_true_eq_false, not_false_eq_true, forall_const, implies_true, false_and, and_false, true_or, or_true, eq_self] at z1)
      ((try simp only [lg_cmp_lt, lg_cmp_gt] at z2); simp (disch := omega) only [ept, Int64.lt_iff_toInt_lt, Int32.toInt_toInt64, Int64.reduceToInt, ← Int32.toInt_inj, Int32.lt_iff_toInt_lt, Int32.le_iff_toInt_le, Int32.reduceToInt, nI_toInt, false_implies, true_implies, and_true, true_and, not_true_eq_false, not_false_eq_true, forall_const, implies_true, false_and, and_false, true_or, or_true, eq_self] at z2)
      omega
end E8
