section SX
variable {L : Nat} {xs : Nat → Int32} {d : Nat} {Q : AQ} {M : AM} {T : PV} {f : Nat → Nat → Nat} {n b s : Nat} {C G : Nat → Bool} {io : Nat → Option Nat}
def plI (pl : Nat) : Int32 := if pl = 5 then -1 else nI pl
abbrev yK : List Nat := [48, 49, 50, 51]
abbrev yJ : List Nat := [14, 15, 16, 17, 18, 27, 28]
theorem gtW_f {N : Nat} : gtW false N f s C G io = wtg N f s (fun p => C p && !G p) io := by unfold gtW; simp
theorem gtW_t {N : Nat} : gtW true N f s C G io = wtg N f s (fun p => C p && G p) io := by unfold gtW; simp
theorem pck_ix {N pl i : Nat} {W : Nat → Bool} (h : ixp pl (cnt W N) = some i) : pck T f s pl N W = rg (srt W (fun k => T (nmf f s (cnt W N) k)) N) i := by
  unfold pck; rw [h]
theorem pck_no {N pl : Nat} {W : Nat → Bool} (h : ixp pl (cnt W N) = none) : pck T f s pl N W = none := by
  unfold pck; rw [h]
theorem dayM.w28 {v : Int32} (h : dayM n b f C G io M) : dayM n b f C G io (am_wi M 40 28 v) := by
  obtain ⟨h1, h2, h3, ⟨C0, h4, h4'⟩, ⟨G0, h5, h5'⟩, h6, h7⟩ := h
  exact ⟨by rw [wi_sl (by decide)]; exact h1, by rw [wi_sl (by decide)]; exact h2, h3.keep (wi_ne (by decide)), ⟨C0, by rw [wi_sl (by decide)]; exact h4, h4'⟩, ⟨G0, by rw [wi_sl (by decide)]; exact h5, h5'⟩, h6, fun p hp => by rw [wi_ne (by decide)]; exact h7 p hp⟩
theorem dayM.w49 {p : Nat} (h : dayM n b f C G io M) : dayM n b f C G (upo io (some p) s) (am_wi M 49 p (nI s)) := by
  obtain ⟨h1, h2, h3, ⟨C0, h4, h4'⟩, ⟨G0, h5, h5'⟩, h6, h7⟩ := h
  refine ⟨by rw [wi_ne (by decide)]; exact h1, by rw [wi_ne (by decide)]; exact h2, h3.keep (wi_ne (by decide)), ⟨C0, by rw [wi_ne (by decide)]; exact h4, h4'⟩, ⟨G0, by rw [wi_ne (by decide)]; exact h5, h5'⟩, h6, fun q hq => ?_⟩
  rw [wi_rd, if_pos rfl, upo_at]
  by_cases e : q = p
  · subst e; rw [if_pos rfl, if_pos rfl]; rfl
  · rw [if_neg e, if_neg (fun z => e (by cases z; rfl))]; exact h7 q hq
theorem upo_comm {w1 w2 : Option Nat} : upo (upo io w2 s) w1 s = upo (upo io w1 s) w2 s := by
  funext p
  simp only [upo_at]
  by_cases h1 : w1 = some p <;> by_cases h2 : w2 = some p <;> simp [h1, h2]
theorem m_strokes {pl lg : Nat} (hd : 70 ≤ d) (hX : dayM n b f C G io M) (hok : okP (n + b) f) (hL : lawM T M) (hs : s < 2 ^ 20) (hio : ioB io) (hpl : pl ≤ 5) (h23 : M.1 40 23 = plI pl) (h28 : M.1 40 28 = nI lg) (hlg : lg ≤ 15)
    (kk : ∀ M', fs yK yJ M M' → dayM n b f C G (dst T (n + b) f C G pl s io) M' → M'.1 40 28 = nI (max lg (cnt (wtg (n + b) f s (fun p => C p && !G p) io) (n + b))) → Q (some (.int (oI (pck T f s pl (n + b) (wtg (n + b) f s (fun p => C p && !G p) io))))) M') : am_Call (gG L xs) d c_Md_strokes [.ref 40, .int (nI s)] M Q := by
  obtain ⟨d, rfl⟩ : ∃ a, d = a + 1 := ⟨d - 1, by omega⟩
  have hN := hX.2.2.1.1
  refine t_Md_strokes (m_asks (second := true) (by omega) hX hok hL hs hio (fun M1 f1 a1 => ?_))
  rw [gtW_t] at a1
  generalize hW2 : wtg (n + b) f s (fun p => C p && G p) io = W2 at a1
  generalize hw2 : pck T f s 4 (n + b) W2 = w2
  have hX1 := hX.keep f1
  have hL1 : lawM T M1 := hL.keep (by rw [f1.j 13]) (f1.i 47)
  have hc2 := cnt_le W2 (n + b)
  have hw2N : ∀ p, w2 = some p → p < n + b := fun p h => by rw [← hw2] at h; exact (pck_some h).1
  -- behind the second gate
  have go : v_Md_strokes L xs d Q 35 [(0, .ref 40), (1, .int (nI s)), (2, .int (oI w2))] [] M1 → True := fun _ => trivial
  have rest : am_Call (gG L xs) d c_Md_asksWaiting [.ref 40, .int (nI s), .int 0] M1 (fun r M' => v_Md_strokes L xs d Q 35 [(0, .ref 40), (1, .int (nI s)), (2, .int (oI w2))] (r.toList ++ []) M') := by
    refine m_asks (second := false) (by omega) hX1 hok hL1 hs hio (fun M2 f2 a2 => ?_)
    rw [gtW_f] at a2
    generalize hW1 : wtg (n + b) f s (fun p => C p && !G p) io = W1 at a2 kk
    have hX2 := hX1.keep f2
    have hc1 := cnt_le W1 (n + b)
    have f12 : fs yK yJ M M2 := (f1.to (by decide) (by decide)).tt (f2.to (by decide) (by decide))
    have e27 := a2.1
    have e28 : M2.1 40 28 = nI lg := by rw [f2.j 28, f1.j 28]; exact h28
    have e23 : M2.1 40 23 = plI pl := by rw [f2.j 23, f1.j 23]; exact h23
    -- nobody at the first gate
    have no : ∀ v : Int32, v = nI (max lg (cnt W1 (n + b))) → pck T f s pl (n + b) W1 = none → (oI w2 < 0 → Q (some (.int (-2 : Int32))) (am_wi M2 40 28 v)) ∧ (¬ oI w2 < 0 → (vp_in (oI w2) 15) ∧ Q (some (.int (-2 : Int32))) (am_wi (am_wi M2 40 28 v) 49 (oI w2).toNatClampNeg (nI s))) := by
      intro v hv hp
      have K := kk
      rw [hp] at K
      refine ⟨fun h => ?_, fun h => ?_⟩
      · have hn : w2 = none := by
          cases z : w2 with
          | none => rfl
          | some p => rw [z] at h; exact absurd h (nI_pos (by have := hw2N p z; omega))
        refine K _ (f12.s (by decide)) ?_ (by rw [wi_eq, hv])
        unfold dst
        rw [hW1, hW2, hp, hw2, hn]
        exact hX2.w28
      · cases z : w2 with
        | none => rw [z] at h; exact absurd (by decide) h
        | some p =>
          have hpN := hw2N p z
          rw [show oI (some p) = nI p from rfl, n_cl (by omega)]
          refine ⟨(n_vp (by omega)).mpr (by omega), K _ ((f12.s (by decide)).c (by decide) (by decide)) ?_ (by rw [wi_ne (by decide), wi_eq, hv])⟩
          unfold dst
          rw [hW1, hW2, hp, hw2, z]
          exact hX2.w28.w49
    -- one at the first gate
    have one : ∀ (v : Int32) (i : Nat), v = nI (max lg (cnt W1 (n + b))) → ixp pl (cnt W1 (n + b)) = some i → i < cnt W1 (n + b) → am_Call (gG L xs) d c_Md_atPlace [.ref 40, .int (nI i)] (am_wi M2 40 28 v) (fun r M' => v_Md_strokes L xs d Q 126 [(0, .ref 40), (1, .int (nI s)), (2, .int (oI w2))] (r.toList ++ []) M') := by
      intro v i hv hix hi
      have a3 : askd W1 (n + b) (fun k => T (nmf f s (cnt W1 (n + b)) k)) (am_wi M2 40 28 v) := ⟨by rw [wi_sl (by decide)]; exact e27, fun o ho => by rw [wi_ne (by decide), wi_ne (by decide)]; exact a2.2 o ho⟩
      refine m_atPlace (by omega) (by omega) a3 hi (fun x hx => ?_)
      have hp : pck T f s pl (n + b) W1 = some x := by rw [pck_ix hix]; exact hx
      have hxN := (pck_some hp).1
      have K := kk
      rw [hp] at K
      rw [show oI (some x) = nI x from rfl] at K
      refine u_Md_strokes_126 ⟨fun h => ⟨fun z => absurd z (nI_pos (by omega)), fun _ => ⟨(n_vp (by omega)).mpr (by omega), ?_⟩⟩, fun h => ?_⟩
      · have hn : w2 = none := by
          cases z : w2 with
          | none => rfl
          | some p => rw [z] at h; exact absurd h (nI_pos (by have := hw2N p z; omega))
        rw [n_cl (by omega)]
        refine K _ ((f12.s (by decide)).c (by decide) (by decide)) ?_ (by rw [wi_ne (by decide), wi_eq, hv])
        unfold dst
        rw [hW1, hW2, hp, hw2, hn]
        exact hX2.w28.w49
      · cases z : w2 with
        | none => rw [z] at h; exact absurd (by decide) h
        | some p =>
          have hpN := hw2N p z
          rw [show oI (some p) = nI p from rfl, n_cl (by omega), n_cl (by omega)]
          refine ⟨(n_vp (by omega)).mpr (by omega), fun z => absurd z (nI_pos (by omega)), fun _ => ⟨(n_vp (by omega)).mpr (by omega), K _ (((f12.s (by decide)).c (by decide) (by decide)).c (by decide) (by decide)) ?_ (by rw [wi_ne (by decide), wi_ne (by decide), wi_eq, hv])⟩⟩
          unfold dst
          rw [hW1, hW2, hp, hw2, z, ← upo_comm]
          exact hX2.w28.w49.w49
    have body : ∀ v : Int32, v = nI (max lg (cnt W1 (n + b))) → ((M2.1 40 23) < 0 → (¬ (irem ((am_wi M2 40 28 v).1 40 27) 2) = 1 → (((am_wi M2 40 28 v).1 40 27) = 0 → (oI w2 < 0 → Q (some (.int (-2 : Int32))) (am_wi M2 40 28 v)) ∧ (¬ oI w2 < 0 → (vp_in (oI w2) 15) ∧ Q (some (.int (-2 : Int32))) (am_wi (am_wi M2 40 28 v) 49 (oI w2).toNatClampNeg (nI s)))) ∧ (¬ ((am_wi M2 40 28 v).1 40 27) = 0 → (oI w2 < 0 → Q (some (.int (-2 : Int32))) (am_wi M2 40 28 v)) ∧ (¬ oI w2 < 0 → (vp_in (oI w2) 15) ∧ Q (some (.int (-2 : Int32))) (am_wi (am_wi M2 40 28 v) 49 (oI w2).toNatClampNeg (nI s))))) ∧ ((irem ((am_wi M2 40 28 v).1 40 27) 2) = 1 → (((am_wi M2 40 28 v).1 40 27) = 0 → (oI w2 < 0 → Q (some (.int (-2 : Int32))) (am_wi M2 40 28 v)) ∧ (¬ oI w2 < 0 → (vp_in (oI w2) 15) ∧ Q (some (.int (-2 : Int32))) (am_wi (am_wi M2 40 28 v) 49 (oI w2).toNatClampNeg (nI s)))) ∧ (¬ ((am_wi M2 40 28 v).1 40 27) = 0 → (0 ≤ (((am_wi M2 40 28 v).1 40 27) / 2) → am_Call (gG L xs) d c_Md_atPlace [.ref 40, .int (((am_wi M2 40 28 v).1 40 27) / 2)] (am_wi M2 40 28 v) (fun r M' => v_Md_strokes L xs d Q 126 [(0, .ref 40), (1, .int (nI s)), (2, .int (oI w2))] (r.toList ++ []) M')) ∧ (¬ 0 ≤ (((am_wi M2 40 28 v).1 40 27) / 2) → (oI w2 < 0 → Q (some (.int (-2 : Int32))) (am_wi M2 40 28 v)) ∧ (¬ oI w2 < 0 → (vp_in (oI w2) 15) ∧ Q (some (.int (-2 : Int32))) (am_wi (am_wi M2 40 28 v) 49 (oI w2).toNatClampNeg (nI s))))))) ∧ (¬ (M2.1 40 23) < 0 → (((am_wi M2 40 28 v).1 40 27) = 0 → (oI w2 < 0 → Q (some (.int (-2 : Int32))) (am_wi M2 40 28 v)) ∧ (¬ oI w2 < 0 → (vp_in (oI w2) 15) ∧ Q (some (.int (-2 : Int32))) (am_wi (am_wi M2 40 28 v) 49 (oI w2).toNatClampNeg (nI s)))) ∧ (¬ ((am_wi M2 40 28 v).1 40 27) = 0 → (0 ≤ ((((am_wi M2 40 28 v).1 40 23) * (((am_wi M2 40 28 v).1 40 27) - 1)) / 4) → am_Call (gG L xs) d c_Md_atPlace [.ref 40, .int ((((am_wi M2 40 28 v).1 40 23) * (((am_wi M2 40 28 v).1 40 27) - 1)) / 4)] (am_wi M2 40 28 v) (fun r M' => v_Md_strokes L xs d Q 126 [(0, .ref 40), (1, .int (nI s)), (2, .int (oI w2))] (r.toList ++ []) M')) ∧ (¬ 0 ≤ ((((am_wi M2 40 28 v).1 40 23) * (((am_wi M2 40 28 v).1 40 27) - 1)) / 4) → (oI w2 < 0 → Q (some (.int (-2 : Int32))) (am_wi M2 40 28 v)) ∧ (¬ oI w2 < 0 → (vp_in (oI w2) 15) ∧ Q (some (.int (-2 : Int32))) (am_wi (am_wi M2 40 28 v) 49 (oI w2).toNatClampNeg (nI s)))))) := by
      intro v hv
      have g27 : (am_wi M2 40 28 v).1 40 27 = nI (cnt W1 (n + b)) := by rw [wi_sl (by decide)]; exact e27
      have g23 : (am_wi M2 40 28 v).1 40 23 = plI pl := by rw [wi_sl (by decide)]; exact e23
      rw [g27, g23, e23]
      generalize hcc : cnt W1 (n + b) = c1 at *
      have z0 : nI c1 = 0 ↔ c1 = 0 := nI_eq (b := 0) (by omega) (by decide)
      have ei : irem (nI c1) 2 = nI (c1 % 2) := n_rem (d := 2) (by omega) (by decide) (by decide)
      have ed : nI c1 / 2 = nI (c1 / 2) := n_div (d := 2) (by omega) (by decide) (by decide)
      have e1 : nI (c1 % 2) = 1 ↔ c1 % 2 = 1 := nI_eq (b := 1) (by omega) (by decide)
      rw [ei, ed, z0, e1]
      by_cases h5 : pl = 5
      · have hpi : plI pl = -1 := by rw [plI, if_pos h5]
        rw [hpi]
        refine ⟨fun _ => ⟨fun h => ?_, fun h => ⟨fun h0 => by omega, fun h0 => ⟨fun _ => one v (c1 / 2) (by rw [hv]) (by rw [ixp, if_neg h0, if_pos h5, if_neg (by omega)]) (by omega), fun z => absurd (nI_pos' (by omega)) z⟩⟩⟩, fun z => absurd (by decide) z⟩
        have := no v (by rw [hv]) (pck_no (by rw [hcc, ixp]; by_cases h0 : c1 = 0; · rw [if_pos h0]
                                              · rw [if_neg h0, if_pos h5, if_pos (by omega)]))
        exact ⟨fun _ => this, fun _ => this⟩
      · have hpi : plI pl = nI pl := by rw [plI, if_neg h5]
        rw [hpi]
        refine ⟨fun z => absurd z (nI_pos (by omega)), fun _ => ⟨fun h0 => no v (by rw [hv]) (pck_no (by rw [hcc, ixp, if_pos h0])), fun h0 => ?_⟩⟩
        obtain ⟨c2, rfl⟩ : ∃ a, c1 = a + 1 := ⟨c1 - 1, by omega⟩
        have hb2 : pl * c2 ≤ 4 * c2 := Nat.mul_le_mul (by omega) (Nat.le_refl _)
        have hdv : pl * c2 / 4 ≤ c2 := by
          have := Nat.div_le_div_right (c := 4) hb2
          rw [Nat.mul_div_cancel_left c2 (by decide)] at this
          exact this
        have e4 : nI pl * (nI (c2 + 1) - 1) / 4 = nI (pl * c2 / 4) := by
          rw [n_top, n_mul]
          exact n_div (d := 4) (by omega) (by decide) (by decide)
        rw [e4]
        refine ⟨fun _ => one v (pl * c2 / 4) (by rw [hv]) (by rw [ixp, if_neg h0, if_neg h5]; rfl) (by omega), fun z => absurd (nI_pos' (by omega)) z⟩
    refine u_Md_strokes_35 ⟨fun h => ?_, fun h => ?_⟩
    · refine body (M2.1 40 28) ?_
      rw [e27, e28, n_leI (by omega) (by omega)] at h
      rw [e28, Nat.max_eq_left h]
    · refine body (M2.1 40 27) ?_
      rw [e27, e28, n_leI (by omega) (by omega)] at h
      rw [e27, Nat.max_eq_right (by omega)]
  refine u_Md_strokes_6 ⟨fun h => ?_, fun h => ?_⟩
  · rw [a1.1] at h ⊢
    have h0 : ¬ cnt W2 (n + b) = 0 := fun z => h (by rw [z]; rfl)
    obtain ⟨c2, hc⟩ : ∃ a, cnt W2 (n + b) = a + 1 := ⟨cnt W2 (n + b) - 1, by omega⟩
    rw [hc, n_top]
    refine m_atPlace (by omega) (by omega) a1 (by omega) (fun x hx => u_Md_strokes_28 ?_)
    have hp : w2 = some x := by
      rw [← hw2, pck_ix (i := c2) (by rw [ixp, if_neg h0, if_neg (by decide), hc, Nat.add_sub_cancel, Nat.mul_div_cancel_left c2 (by decide)])]
      exact hx
    rw [hp] at rest
    exact rest
  · rw [a1.1] at h
    have h0 : cnt W2 (n + b) = 0 := (nI_eq (b := 0) (by omega) (by decide)).mp h
    have hp : w2 = none := by rw [← hw2]; exact pck_no (by rw [ixp, if_pos h0])
    rw [hp] at rest
    exact rest
end SX
