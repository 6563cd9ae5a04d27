section E6
variable {L : Nat} {xs : Nat → Int32} {d : Nat} {Q : AQ} {M M1 M2 : AM} {x1 x2 x3 x4 x5 : Int32} {n w p v nw bn : Nat} {f : Nat → Nat → Nat} {io : Nat → Option Nat} {aw : Nat → Bool} {T : PV}
abbrev dW (n : Nat) (f : Nat → Nat → Nat) (nw : Nat) (io : Nat → Option Nat) (aw : Nat → Bool) : Nat → Bool := wtg n f nw (fun p => !aw p) io
/-- what counting those who wait writes -/
def wP (n : Nat) (f : Nat → Nat → Nat) (M M' : AM) : Prop := fr [1, 3] M M' ∧ M'.1 1 1 = M.1 1 1 ∧ cch 1 3 n f M'
theorem wP.pp (h : wP n f M M1) (hP : iP n f M) : iP n f M1 := by
  obtain ⟨f1, e1, c1⟩ := h
  obtain ⟨p1, p2, p3, p4, p5, p6⟩ := hP
  exact ⟨p1.fr e1 (f1.i 2), c1, p3, p4, by rw [f1.i 40]; exact p5, p6.keep (f1.i 41)⟩
theorem wP.s {K J : List Nat} (h : wP n f M M1) (hk : ∀ b ∈ [1, 3], b ∈ K := by decide) (h40 : (40 : Nat) ∉ ([1, 3] : List Nat) := by decide) : fs K J M M1 := fs.of h.1 h40 hk
theorem x_waits (hd : 4 ≤ d) (hP : iP n f M) (hw : nw ≤ 999) (d2 : M.1 28 5 = nI nw) (d9 : M.1 28 6 = sI (fun p => (io p).isSome)) (d10 : M.1 28 7 = sI aw) (kk : ∀ M', wP n f M M' → Q (some (.int (sI (dW n f nw io aw)))) M') : am_Call (gG L xs) d c_Deed_waitingNow [.ref 27] M Q := by
  obtain ⟨d, rfl⟩ : ∃ a, d = a + 2 := ⟨d - 2, by omega⟩
  obtain ⟨p1, p2, p3, p4, p5, p6⟩ := hP
  refine t_Deed_waitingNow ?_
  rw [d2, d9, d10, p1.1, sI_all (by omega), sI_andn, sI_andn]
  refine s_waiting (by omega) isCr1 ⟨by decide, by decide, by decide⟩ p1 p4 p2 (by omega) (fun M' f1 e1 c1 => u_Deed_waitingNow_40 ?_)
  have K := kk M' ⟨f1, e1, c1⟩
  have e : sI (fun p => thrN n f nw p && ((decide (p < n) && !(io p).isSome) && !aw p)) = sI (dW n f nw io aw) := sI_congr (fun p _ => by
    unfold dW wtg thrN; dsimp only
    cases decide (p < n) <;> cases thr f nw p <;> cases aw p <;> cases io p <;> rfl)
  rw [e]
  exact K
theorem dW_n (h : n ≤ p) : dW n f nw io aw p = false := by
  unfold dW wtg thrN
  rw [decide_eq_false (by omega)]
  rfl
theorem m_wnow {N Y : Prop} (hp : p < n) (h6 : pM n f M) (hok : okP n f) (hn : n ≤ 12) (hw : nw ≤ 999) (d3 : M.1 40 7 = nI nw) (d11 : M.1 40 9 = sI aw) (d45 : M.1 45 p = oI (io p)) (hio : ∀ p a, io p = some a → a < 1000) (hN : dW n f nw io aw p = false → N) (hY : dW n f nw io aw p = true → Y) :
    (vp_in ((5 * nI p) + 1) 75) ∧ (vp_in (nI p) 12) ∧ ((0 ≤ (M.1 45 (nI p).toNatClampNeg) → N) ∧ (¬ 0 ≤ (M.1 45 (nI p).toNatClampNeg) → (¬ (((M.1 40 9) >>> (nI p &&& 31)) &&& 1) = 1 → (vp_in ((5 * nI p) + 2) 75) ∧ (((lg_cmp (Int32.toInt64 (M.1 40 7)) (Int32.toInt64 (M.1 41 (((5 * nI p) + 1).toNatClampNeg)))) < 0 → N) ∧ (¬ (lg_cmp (Int32.toInt64 (M.1 40 7)) (Int32.toInt64 (M.1 41 (((5 * nI p) + 1).toNatClampNeg)))) < 0 → (0 < (lg_cmp (Int32.toInt64 (M.1 40 7)) (Int32.toInt64 (((M.1 41 (((5 * nI p) + 1).toNatClampNeg)) + (M.1 41 (((5 * nI p) + 2).toNatClampNeg))) - 1))) → N) ∧ (¬ 0 < (lg_cmp (Int32.toInt64 (M.1 40 7)) (Int32.toInt64 (((M.1 41 (((5 * nI p) + 1).toNatClampNeg)) + (M.1 41 (((5 * nI p) + 2).toNatClampNeg))) - 1))) → Y)))) ∧ ((((M.1 40 9) >>> (nI p &&& 31)) &&& 1) = 1 → N))) := by
  have q1 := h6.2 1 p (by decide) hp
  have q2 := h6.2 2 p (by decide) hp
  obtain ⟨o1, o2, o3, o4, o5, o6, o7⟩ := hok p hp
  have i1 : (5 : Int32) * nI p + 1 = nI (5 * p + 1) := by simp only [nl_lum, nl_add]
  have i2 : (5 : Int32) * nI p + 2 = nI (5 * p + 2) := by simp only [nl_lum, nl_add]
  have hW : dW n f nw io aw p = (decide (f 1 p ≤ nw) && decide (nw < f 1 p + f 2 p) && (!aw p && (io p).isNone)) := by
    unfold dW wtg thrN thr
    rw [decide_eq_true hp, Bool.true_and]
  have t1 : (nI (f 1 p)).toInt = f 1 p := nI_toInt (by omega)
  have t2 : (nI nw).toInt = nw := nI_toInt (by omega)
  have t3 := n_p2 (a := f 1 p) (b := f 2 p) (by omega) (by omega)
  rw [i1, i2, n_cl (show p < 2 ^ 31 by omega), n_cl (show 5 * p + 1 < 2 ^ 31 by omega), n_cl (show 5 * p + 2 < 2 ^ 31 by omega), d45, d11, d3, q1, q2, sI_bit _ (by omega)]
  have hge := oI_ge (o := io p) (fun a z => by have := hio p a z; omega)
  refine ⟨(n_vp (by omega)).mpr (by omega), (n_vp (by omega)).mpr (by omega), fun h => hN ?_, fun h => ⟨fun h1 => ⟨(n_vp (by omega)).mpr (by omega), fun h2 => hN ?_, fun h2 => ⟨fun h3 => hN ?_, fun h3 => hY ?_⟩⟩, fun h1 => hN ?_⟩⟩
  · rw [hW]
    cases z : io p with
    | none => exact absurd z (hge.mp h)
    | some a => simp
  · ((try simp only [lg_cmp_lt, lg_cmp_gt] at h2); simp (disch := omega) only [t1, t2, t3, Int64.lt_iff_toInt_lt, Int32.toInt_toInt64, Int64.reduceToInt, ← Int32.toInt_inj, Int32.lt_iff_toInt_lt, Int32.le_iff_toInt_le, Int32.reduceToInt, nI_toInt, false_implies, true_implies, and_true, true_and, not_true_eq_false, not_false_eq_true, forall_const, implies_true, false_and, and_false, true_or, or_true, eq_self] at h2)
    rw [hW, decide_eq_false (by omega)]; rfl
  · ((try simp only [lg_cmp_lt, lg_cmp_gt] at h3); simp (disch := omega) only [t1, t2, t3, Int64.lt_iff_toInt_lt, Int32.toInt_toInt64, Int64.reduceToInt, ← Int32.toInt_inj, Int32.lt_iff_toInt_lt, Int32.le_iff_toInt_le, Int32.reduceToInt, nI_toInt, false_implies, true_implies, and_true, true_and, not_true_eq_false, not_false_eq_true, forall_const, implies_true, false_and, and_false, true_or, or_true, eq_self] at h3)
    rw [hW, decide_eq_false (show ¬ nw < f 1 p + f 2 p by omega)]; simp
  · ((try simp only [lg_cmp_lt, lg_cmp_gt] at h2); simp (disch := omega) only [t1, t2, t3, Int64.lt_iff_toInt_lt, Int32.toInt_toInt64, Int64.reduceToInt, ← Int32.toInt_inj, Int32.lt_iff_toInt_lt, Int32.le_iff_toInt_le, Int32.reduceToInt, nI_toInt, false_implies, true_implies, and_true, true_and, not_true_eq_false, not_false_eq_true, forall_const, implies_true, false_and, and_false, true_or, or_true, eq_self] at h2)
    ((try simp only [lg_cmp_lt, lg_cmp_gt] at h3); simp (disch := omega) only [t1, t2, t3, Int64.lt_iff_toInt_lt, Int32.toInt_toInt64, Int64.reduceToInt, ← Int32.toInt_inj, Int32.lt_iff_toInt_lt, Int32.le_iff_toInt_le, Int32.reduceToInt, nI_toInt, false_implies, true_implies, and_true, true_and, not_true_eq_false, not_false_eq_true, forall_const, implies_true, false_and, and_false, true_or, or_true, eq_self] at h3)
    have z1 : aw p = false := by cases z : aw p with
      | false => rfl
      | true => rw [z] at h1; exact absurd rfl h1
    have z2 : io p = none := by cases z : io p with
      | none => rfl
      | some a => exact absurd (hge.mpr (by rw [z]; simp)) h
    rw [hW, decide_eq_true (by omega), decide_eq_true (by omega), z1, z2]; rfl
  · rw [hW, b2i_1.mp h1]; simp
theorem m_waitMany (hd : 4 ≤ d) (hP : iP n f M) (hw : nw ≤ 999) (d3 : M.1 40 7 = nI nw) (d11 : M.1 40 9 = sI aw) (d45 : ∀ p, p < 12 → M.1 45 p = oI (io p)) (hio : ∀ p a, io p = some a → a < 1000) (kk : Q (some (.int (nI (cnt (dW n f nw io aw) 15)))) M) : am_Call (gG L xs) d c_Md_waitMany [.ref 40] M Q := by
  obtain ⟨d, rfl⟩ : ∃ a, d = a + 3 := ⟨d - 3, by omega⟩
  obtain ⟨p1, p2, p3, p4, p5, p6⟩ := hP
  have hc : cnt (dW n f nw io aw) 15 = cnt (dW n f nw io aw) n := cnt_up (by omega) (fun p h1 _ => dW_n h1)
  have loop : ∀ j p, p + j = n → v_Md_waitMany L xs (d + 2) Q 4 [(0, .ref 40), (1, .int (nI (cnt (dW n f nw io aw) p))), (2, .int (nI p))] [] M := by
    intro j
    induction j with
    | zero =>
      intro p hj
      refine u_Md_waitMany_4 ⟨fun _ => ?_, fun z => ?_⟩
      · rw [hc] at kk
        rw [show p = n by omega]; exact kk
      · rw [p5, n_leI (by omega) (by omega)] at z; omega
    | succ j ih =>
      intro p hj
      refine u_Md_waitMany_4 ⟨fun z => ?_, fun z => m_wnow (by omega) p6 p4 p3 hw d3 d11 (d45 p (by omega)) hio (fun h => ?_) (fun h => ?_)⟩
      · rw [p5, n_leI (by omega) (by omega)] at z; omega
      · have K := ih (p + 1) (by omega)
        rw [cnt_s, h] at K
        rw [nI_1, show nI (cnt (dW n f nw io aw) p) + 0 = nI (cnt (dW n f nw io aw) p + 0) from nI_add _ 0]
        exact K
      · have K := ih (p + 1) (by omega)
        rw [cnt_s, h] at K
        rw [nI_1, nI_1]
        exact K
  exact t_Md_waitMany (loop n 0 (by omega))
theorem m_insideMany (hd : 1 ≤ d) (hP : iP n f M) (d45 : ∀ p, p < 12 → M.1 45 p = oI (io p)) (hno : ∀ p, n ≤ p → io p = none) (hio : ∀ p a, io p = some a → a < 1000) (kk : Q (some (.int (nI (cnt (fun p => (io p).isSome) 15)))) M) : am_Call (gG L xs) d c_Md_insideMany [.ref 40] M Q := by
  obtain ⟨d, rfl⟩ : ∃ a, d = a + 1 := ⟨d - 1, by omega⟩
  obtain ⟨p1, p2, p3, p4, p5, p6⟩ := hP
  have hc := cnt_is (N := n) (io := io) (by omega) hno
  have loop : ∀ j p, p + j = n → v_Md_insideMany L xs d Q 4 [(0, .ref 40), (1, .int (nI (cnt (fun p => (io p).isSome) p))), (2, .int (nI p))] [] M := by
    intro j
    induction j with
    | zero =>
      intro p hj
      refine u_Md_insideMany_4 ⟨fun _ => ?_, fun z => ?_⟩
      · rw [hc] at kk
        rw [show p = n by omega]; exact kk
      · rw [p5, n_leI (by omega) (by omega)] at z; omega
    | succ j ih =>
      intro p hj
      have K := ih (p + 1) (by omega)
      rw [cnt_s] at K
      refine u_Md_insideMany_4 ⟨fun z => ?_, fun z => ⟨(n_vp (by omega)).mpr (by omega), fun h => ?_, fun h => ?_⟩⟩
      · rw [p5, n_leI (by omega) (by omega)] at z; omega
      · rw [n_cl (by omega), d45 p (by omega)] at h
        cases z : io p with
        | none =>
          rw [z] at K
          rw [nI_1, show nI (cnt (fun p => (io p).isSome) p) + 0 = nI (cnt (fun p => (io p).isSome) p + 0) from nI_add _ 0]
          exact K
        | some a => rw [z] at h; exact absurd h (nI_pos (by have := hio p a z; omega))
      · rw [n_cl (by omega), d45 p (by omega)] at h
        cases z : io p with
        | none => rw [z] at h; exact absurd (by decide) h
        | some a =>
          rw [z] at K
          rw [nI_1, nI_1]
          exact K
  exact t_Md_insideMany (loop n 0 (by omega))
/-- Inv again when only the sums of the crowd were counted -/
theorem Inv.wp (hP : iP n f M) (hL : iL T M) (hT : iT M) (hC : iC n M) (hD : iD n M) (hA : iA bn M) (hS : iS bn M) (h23 : M.1 40 23 = -1) (h : wP n f M M1) : Inv M1 := by
  have F : fs [1, 3] [] M M1 := h.s
  exact ⟨n, f, T, bn, h.pp hP, hL.keep F (by decide) (by decide), hT.keep F (by decide) (by decide), hC.keep F (by decide) (by decide), hD.keep F (by decide) (by decide), hA.keep F (by decide) (by decide), hS.keep F (by decide), by rw [F.j 23]; exact h23⟩
theorem j_count (hI : Inv M) (hd : 100 ≤ d) : Jn L xs d c_Mo_count c_Md_count [.ref 0, .int x1] [.ref 40, .int x1] M := by
  have hI0 := hI
  obtain ⟨n, f, T, bn, hP, hL, hT, hC, hD, hA, hS, h23⟩ := hI
  obtain ⟨d, rfl⟩ : ∃ a, d = a + 9 := ⟨d - 9, by omega⟩
  have hD0 := hD
  obtain ⟨⟨nw, io, aw, d1, d2, d3, d4, d5, d6, d7, d8, d9, d10, d11, d12, d13, d14⟩, -⟩ := hD
  by_cases e0 : x1 = 0
  · subst e0
    refine Jn.no (nI n) hI0 (fun Q k => t_Mo_count ?_) (fun Q k => t_Md_count ?_) <;> refine ⟨?_, ?_, ?_, ?_, ?_, ?_, ?_, ?_⟩ <;> intro z <;> first | exact absurd z (by decide) | exact absurd rfl z | skip
    · rw [hP.1.1]; exact k
    · rw [hP.2.2.2.2.1]; exact k
  by_cases e1 : x1 = 1
  · subst e1
    refine Jn.of2 (v := nI (cnt (dW n f nw io aw) 15)) (P := fun M1 => wP n f M M1) (fun Q k => t_Mo_count ?_) (fun M1 h Q k => t_Md_count ?_) <;> refine ⟨?_, ?_, ?_, ?_, ?_, ?_, ?_, ?_⟩ <;> intro z <;> first | exact absurd z (by decide) | skip
    · refine x_waits (by omega) hP d1 d2 d9 d10 (fun M' h => ?_)
      exact u_Mo_count_59 (s_bitCount (u_Mo_count_62 (k _ h)))
    · exact fun y => absurd rfl y
    · have F : fs [1, 3] [] M M1 := h.s
      refine m_waitMany (by omega) (h.pp hP) d1 (by rw [F.j 7]; exact d3) (by rw [F.j 9]; exact d11) (fun p hp => by rw [F.i 45]; exact (d14 p hp).2) d13 ?_
      exact u_Md_count_53 (k _ (Inv.wp hP hL hT hC hD0 hA hS h23 h))
    · exact fun y => absurd rfl y
  by_cases e2 : x1 = 2
  · subst e2
    refine Jn.no (nI (cnt (fun p => (io p).isSome) 15)) hI0 (fun Q k => t_Mo_count ?_) (fun Q k => t_Md_count ?_) <;> refine ⟨?_, ?_, ?_, ?_, ?_, ?_, ?_, ?_⟩ <;> intro z <;> first | exact absurd z (by decide) | skip
    · refine t_Deed_numberIn ?_
      rw [d9]
      exact s_bitCount (u_Deed_numberIn_10 (u_Mo_count_70 k))
    · exact fun _ y => absurd rfl y
    · exact m_insideMany (by omega) hP (fun p hp => (d14 p hp).2) d12 d13 (u_Md_count_58 k)
    · exact fun _ y => absurd rfl y
  by_cases e3 : x1 = 3
  · subst e3
    obtain ⟨e, tp, t1, t2, t3, -⟩ := hT
    refine Jn.no (nI e) hI0 (fun Q k => t_Mo_count ?_) (fun Q k => t_Md_count ?_) <;> refine ⟨?_, ?_, ?_, ?_, ?_, ?_, ?_, ?_⟩ <;> intro z <;> first | exact absurd z (by decide) | skip
    · rw [t2]; exact k
    · exact fun _ _ y => absurd rfl y
    · rw [t3]; exact k
    · exact fun _ _ y => absurd rfl y
  by_cases e4 : x1 = 4
  · subst e4
    obtain ⟨dn, kp, p, w, b, a, c1, c2, c3, c4, c5, c6, c7⟩ := hC
    refine Jn.no (nI dn) hI0 (fun Q k => t_Mo_count ?_) (fun Q k => t_Md_count ?_) <;> refine ⟨?_, ?_, ?_, ?_, ?_, ?_, ?_, ?_⟩ <;> intro z <;> first | exact absurd z (by decide) | skip
    · rw [c3]; exact k
    · exact fun _ _ _ y => absurd rfl y
    · rw [c5]; exact k
    · exact fun _ _ _ y => absurd rfl y
  obtain ⟨a1, a2, a3, -, rn, r1, r2, r3, -⟩ := hA
  by_cases e5 : x1 = 5
  · subst e5
    refine Jn.no (nI bn) hI0 (fun Q k => t_Mo_count ?_) (fun Q k => t_Md_count ?_) <;> refine ⟨?_, ?_, ?_, ?_, ?_, ?_, ?_, ?_⟩ <;> intro z <;> first | exact absurd z (by decide) | skip
    · rw [a2]; exact k
    · exact fun _ _ _ _ y => absurd rfl y
    · rw [a3]; exact k
    · exact fun _ _ _ _ y => absurd rfl y
  by_cases e6 : x1 = 6
  · subst e6
    refine Jn.no (nI rn) hI0 (fun Q k => t_Mo_count ?_) (fun Q k => t_Md_count ?_) <;> refine ⟨?_, ?_, ?_, ?_, ?_, ?_, ?_, ?_⟩ <;> intro z <;> first | exact absurd z (by decide) | skip
    · rw [r2]; exact k
    · exact fun _ _ _ _ _ y => absurd rfl y
    · rw [r3]; exact k
    · exact fun _ _ _ _ _ y => absurd rfl y
  refine Jn.no (-1) hI0 (fun Q k => t_Mo_count ?_) (fun Q k => t_Md_count ?_) <;> refine ⟨?_, ?_, ?_, ?_, ?_, ?_, ?_, ?_⟩ <;> intro z <;> first | contradiction | (intros; exact k)
end E6
