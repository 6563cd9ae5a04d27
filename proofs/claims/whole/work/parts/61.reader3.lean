section ST
variable {L : Nat} {xs : Nat → Int32} {e : Nat} {tp : Nat → Int32}
theorem okX.patch {m j : Nat} {c1 c2 : PC} {y z K : Int32} {M M2 : AM} (h : okX e tp m true j (c1 ++ [(y, z)] ++ c2) M M2) : okX e tp m true j (c1 ++ [(y, K)] ++ c2) M (am_wi M2 11 (m + c1.length) K) := by
  obtain ⟨h1, h2, h3⟩ := h
  obtain ⟨hR, hc, hb⟩ := h3 rfl
  obtain ⟨r1, r2, r3, r4⟩ := hR
  rw [cdR_app, cdR_app] at hc
  simp only [List.length_append, List.length_singleton] at hc
  refine ⟨h1.wi (by decide), by rw [wi_ne (by decide)]; exact h2, fun _ => ⟨⟨?_, ?_, ?_, fun k hk => ?_⟩, ?_, fun q hq => ?_⟩⟩
  · rw [wi_ne (by decide)]; exact r1
  · rw [wi_ne (by decide)]; exact r2
  · rw [wi_ne (by decide)]; simp only [List.length_append, List.length_singleton] at r3 ⊢; exact r3
  · rw [wi_ne (by decide)]; exact r4 k hk
  · rw [cdR_app, cdR_app]
    simp only [List.length_append, List.length_singleton]
    refine ⟨⟨cdR_ext (fun i h1 h2 => ?_) hc.1.1, ⟨?_, ?_, trivial⟩⟩, cdR_ext (fun i h1 h2 => ?_) hc.2⟩
    · exact ⟨by rw [wi_ne (by decide)], wi_sl (by omega)⟩
    · rw [wi_ne (by decide)]; exact hc.1.2.1
    · exact wi_eq
    · exact ⟨by rw [wi_ne (by decide)], wi_sl (by omega)⟩
  · refine ⟨?_, ?_⟩
    · rw [wi_ne (by decide)]; exact (hb q hq).1
    · rw [wi_sl (by omega)]; exact (hb q hq).2
theorem x_reads {i m d : Nat} {M : AM} {Q : AQ} (he : e ≤ 120) (hd : 70 ≤ d) (hi : i ≤ e) (hm : m ≤ i) (hR : rdX e tp i m M)
    (kk : ∀ M', okX e tp m (lnp (chT tp e) FU i m).1 (lnp (chT tp e) FU i m).2.1 (lnp (chT tp e) FU i m).2.2.1 M M' → Q (some (.int (b2i (lnp (chT tp e) FU i m).1))) M') : am_Call (gG L xs) d c_Reader_reads [.ref 8] M Q := by
  obtain ⟨d, rfl⟩ : ∃ a, d = a + 2 := ⟨d - 2, by omega⟩
  have hE := chT_E tp e
  have hF : ∀ j, j ≤ e → 7 * (e - j) + (5 - 0) < FU := fun j _ => by unfold FU; omega
  have hg := pz_good hE FU 0 0 i hi (hF i hi)
  unfold lnp at kk
  refine t_Reader_reads ((x_both he FU).2 0 0 i m (d + 1) M _ (by omega) (by omega) hi (hF i hi) (by omega) hm hR (fun M1 hO => ?_))
  cases hb : (pz (chT tp e) FU 0 0 i).1 with
  | false =>
    rw [hb] at kk
    exact u_Reader_reads_6 ⟨fun z => absurd rfl z, fun _ => kk M1 hO.f1⟩
  | true =>
    rw [hb] at kk hO
    rw [if_pos rfl] at kk
    obtain ⟨a1, a2, a3, -⟩ := hg.2.2 hb
    have hj := hg.2.1
    obtain ⟨hR1, -, -⟩ := hO.2.2 rfl
    have hR2 := hR1
    obtain ⟨q1, q2, q3, q4⟩ := hR1
    generalize hq1 : pz (chT tp e) FU 0 0 i = p1 at *
    have fin : ¬ chT tp e p1.2.1 = 63 → ((M1.1 8 5) < 121 → (vp_in (M1.1 8 5) 121) ∧ Q (some (.int 1)) (am_wi (am_wi (am_wi M1 10 ((M1.1 8 5).toNatClampNeg) (59 : Int32)) 11 ((M1.1 8 5).toNatClampNeg) (0 : Int32)) 8 5 ((M1.1 8 5) + 1))) ∧ (¬ (M1.1 8 5) < 121 → Q (some (.int 1)) M1) := by
      intro h63
      rw [if_neg h63] at kk
      rw [q3, n_cl (by omega), nI_1]
      refine ⟨fun _ => ⟨(n_vp (by omega)).mpr (by omega), kk _ (hO.app (okX.mk hR2))⟩, fun z => ?_⟩
      exact absurd ((n_ltI (b := 121) (by omega) (by decide)).mpr (by omega)) z
    refine u_Reader_reads_6 ⟨fun _ => ⟨fun h => ?_, fun h => ?_⟩, fun z => absurd z (by decide)⟩
    · rw [q1, q2, n_leI (by omega) (by omega)] at h
      exact fin (by rw [chT_ge h]; decide)
    · rw [q1, q2, n_leI (by omega) (by omega)] at h
      have hje : p1.2.1 < e := by omega
      have h0 := chT_lt (tp := tp) hje
      rw [q2, n_cl (by omega), q4 _ hje]
      refine ⟨(n_vp (by omega)).mpr (by omega), fun h63 => fin (by rw [h0]; exact h63), fun h63 => ?_⟩
      rw [nI_1]
      rw [if_pos (by rw [h0]; exact h63)] at kk
      have hG1 := hR2.go
      rw [hG1.2.2.1, n_cl (by omega), nI_1]
      have hg2 := pz_good hE FU 0 0 (p1.2.1 + 1) (by omega) (hF _ (by omega))
      have hO1 := hO.app (okX.go hR2 (okX.mk (s := 63) (t := 0) hG1))
      obtain ⟨hRm, -, -⟩ := hO1.2.2 rfl
      rw [List.length_append, List.length_singleton] at hRm
      refine ⟨fun _ => ⟨(n_vp (by omega)).mpr (by omega), ?_⟩, fun z => ?_⟩
      · rw [← Nat.add_assoc] at hRm
        refine (x_both he FU).2 0 0 (p1.2.1 + 1) (m + p1.2.2.1.length + 1) (d + 1) _ _ (by omega) (by omega) (by omega) (hF _ (by omega)) (by omega) (by omega) hRm (fun M3 hO3 => ?_)
        generalize hq2 : pz (chT tp e) FU 0 0 (p1.2.1 + 1) = p2 at *
        have hO4 : okX e tp m p2.1 p2.2.1 (p1.2.2.1 ++ [(63, 0)] ++ p2.2.2.1) M M3 := hO1.app (by rw [List.length_append, List.length_singleton, ← Nat.add_assoc]; exact hO3)
        rw [q3]
        cases hb2 : p2.1 with
        | false =>
          rw [hb2] at kk
          exact u_Reader_reads_48 ⟨fun z => absurd rfl z, fun _ => kk M3 hO4.f1⟩
        | true =>
          rw [hb2] at kk hO4
          rw [if_pos rfl] at kk
          obtain ⟨b1, b2, b3, -⟩ := hg2.2.2 hb2
          have hj2 := hg2.2.1
          obtain ⟨hR4, -, -⟩ := hO4.2.2 rfl
          have e5 : (p1.2.2.1 ++ [(63, 0)] ++ p2.2.2.1).length = p1.2.2.1.length + 1 + p2.2.2.1.length := by simp only [List.length_append, List.length_singleton]
          have hO5 := hO4.app (okX.mk (s := 59) (t := 0) hR4)
          rw [List.append_assoc] at hO5
          have hO6 := hO5.patch (K := nI (m + p1.2.2.1.length + 1 + p2.2.2.1.length + 1))
          rw [← List.append_assoc] at hO6
          rw [e5] at hR4 hO6
          refine u_Reader_reads_48 ⟨fun _ => ⟨fun _ => ?_, fun z => ?_⟩, fun z => absurd z (by decide)⟩
          · rw [hR4.2.2.1, n_cl (by omega), nI_1, wi_eq]
            refine ⟨(n_vp (by omega)).mpr (by omega), fun z => absurd ((n_leI (a := 121) (by decide) (by omega)).mp z) (by omega), fun _ => ⟨(n_vp (by omega)).mpr (by omega), ?_⟩⟩
            rw [n_cl (by omega)]
            rw [show m + (p1.2.2.1.length + 1 + p2.2.2.1.length) + 1 = m + p1.2.2.1.length + 1 + p2.2.2.1.length + 1 from by omega]
            rw [show m + (p1.2.2.1.length + 1 + p2.2.2.1.length) + 1 = m + p1.2.2.1.length + 1 + p2.2.2.1.length + 1 from by omega] at hO6
            exact kk _ hO6
          · rw [hR4.2.2.1] at z
            exact absurd ((n_ltI (b := 121) (by omega) (by decide)).mpr (by omega)) z
      · exact absurd ((n_ltI (b := 121) (by omega) (by decide)).mpr (by omega)) z
theorem x_fault {d : Nat} {M0 : AM} {Q : AQ} (he : e ≤ 120) (hd : 72 ≤ d) (h1 : M0.1 8 1 = nI e) (h2 : ∀ k, k < e → M0.1 9 k = tp k)
    (kk : ∀ M', fr [8, 10, 11] M0 M' → ((txl (chT tp e) e).1 = true → M'.1 8 5 = nI (txl (chT tp e) e).2.2.1.length ∧ cdR (txl (chT tp e) e).2.2.1 0 (M'.1 10) (M'.1 11)) → Q (some (.int (if (txl (chT tp e) e).1 then -1 else nI (txl (chT tp e) e).2.1))) M') : am_Call (gG L xs) d c_Reader_faultOfText [.ref 8] M0 Q := by
  obtain ⟨d, rfl⟩ : ∃ a, d = a + 2 := ⟨d - 2, by omega⟩
  have hE := chT_E tp e
  have loop : ∀ (k q i : Nat) (cs : PC) (g : (Nat → Int32) → Option Int32) (M : AM), i ≤ e → e < i + k → q ≤ i → cs.length ≤ i → okX e tp 0 true i cs M0 M →
      (∀ M', fr [8, 10, 11] M0 M' → ((txp (chT tp e) e FU k i cs g).1 = true → M'.1 8 5 = nI (txp (chT tp e) e FU k i cs g).2.2.1.length ∧ cdR (txp (chT tp e) e FU k i cs g).2.2.1 0 (M'.1 10) (M'.1 11)) → Q (some (.int (if (txp (chT tp e) e FU k i cs g).1 then -1 else nI (txp (chT tp e) e FU k i cs g).2.1))) M') →
      v_Reader_faultOfText L xs (d + 1) Q 12 [(0, .ref 8), (1, .int (nI q))] [] M := by
    intro k
    induction k with
    | zero => intro q i cs g M h1 h2; omega
    | succ k ih =>
      intro q i cs g M hi hk hq hc hO kk
      obtain ⟨hR, -, -⟩ := hO.2.2 rfl
      rw [Nat.zero_add] at hR
      rw [txp] at kk
      have hg := lnp_good hE he (fu := FU) (by unfold FU; omega) i cs.length hi
      refine u_Reader_faultOfText_12 ⟨fun h => absurd ((n_ltI (a := 120) (by decide) (by omega)).mp h) (by omega), fun _ => x_reads he (by omega) hi hc hR (fun M1 hO1 => ?_)⟩
      have hO2 := hO.app (by rw [Nat.zero_add]; exact hO1)
      cases hb : (lnp (chT tp e) FU i cs.length).1 with
      | false =>
        simp only [hb, Bool.false_eq_true, if_false, false_implies, true_implies] at kk
        refine u_Reader_faultOfText_22 ⟨fun z => absurd rfl z, fun _ => ?_⟩
        rw [hO1.2.1]
        exact kk M1 hO2.1
      | true =>
        rw [hb] at kk hO2
        rw [if_pos rfl] at kk
        obtain ⟨a1, a2, a3, -⟩ := hg.2.2 hb
        have hj := hg.2.1
        generalize lnp (chT tp e) FU i cs.length = p at *
        obtain ⟨hR2, hcd, -⟩ := hO2.2.2 rfl
        rw [Nat.zero_add] at hR2
        have hR3 := hR2
        obtain ⟨q1, q2, q3, q4⟩ := hR2
        refine u_Reader_faultOfText_22 ⟨fun _ => ?_, fun z => absurd z (by decide)⟩
        rw [q1, q2]
        refine ⟨fun h => ⟨fun h3 => ?_, fun _ => ?_⟩, fun h => ?_⟩
        · rw [n_ltI (by omega) (by omega)] at h
          rw [n_leI (by omega) (by omega)] at h3
          omega
        · rw [n_ltI (by omega) (by omega)] at h
          have h0 := chT_lt (tp := tp) h
          rw [n_cl (by omega), q4 _ h]
          rw [h0] at kk
          refine ⟨(n_vp (by omega)).mpr (by omega), fun h59 => ?_, fun h59 => ?_⟩
          · rw [if_pos h59] at kk
            rw [nI_1, nI_1]
            have hG := hR3.go
            refine ih (q + 1) (p.2.1 + 1) _ _ _ (by omega) (by omega) (by omega) (by rw [List.length_append]; omega) ?_ kk
            have := hO2.app (by rw [Nat.zero_add]; exact okX.go hR3 (okX.nil hG))
            rw [List.append_nil] at this
            exact this
          · rw [if_neg h59, if_neg (by omega)] at kk
            exact kk M1 hO2.1 (fun z => by cases z)
        · rw [n_ltI (by omega) (by omega)] at h
          rw [if_neg (by rw [chT_ge (by omega)]; decide), if_pos (by omega)] at kk
          exact kk M1 hO2.1 (fun _ => ⟨q3, hcd⟩)
  unfold txl at kk
  obtain ⟨n, hn⟩ : ∃ n : Nat, n = 122 := ⟨_, rfl⟩
  rw [← hn] at kk
  refine t_Reader_faultOfText (loop n 0 0 [] (fun _ => none) _ (by omega) (by omega) (by omega) (by simp) ?_ (fun M' hf hh => ?_))
  · refine ⟨(fr.rf.wi (by decide)).wi (by decide), by rw [wi_sl (by decide), wi_eq]; rfl, fun _ => ⟨⟨?_, ?_, ?_, fun k hk => ?_⟩, trivial, fun q hq => by omega⟩⟩
    · rw [wi_sl (by decide), wi_sl (by decide)]; exact h1
    · rw [wi_sl (by decide), wi_eq]; rfl
    · exact wi_eq
    · rw [wi_ne (by decide), wi_ne (by decide)]; exact h2 k hk
  · exact kk M' hf hh
/-- law() of the class -/
theorem x_law {d : Nat} {M : AM} {Q : AQ} (he : e ≤ 120) (hd : 73 ≤ d) (h1 : M.1 8 1 = nI e) (h2 : ∀ k, k < e → M.1 9 k = tp k)
    (k0 : ∀ M', (txl (chT tp e) e).1 = false → fr [8, 10, 11] M M' → M'.1 8 1 = nI 0 → Q (some (.int (-100 - nI (txl (chT tp e) e).2.1))) M')
    (k1 : ∀ M', (txl (chT tp e) e).1 = true → fr [4, 5, 6, 8, 10, 11] M M' → M'.1 8 1 = nI 0 → lawX (txT (chT tp e) e) M' → Q (some (.int 1)) M') : am_Call (gG L xs) d c_Mo_law [.ref 0] M Q := by
  obtain ⟨d, rfl⟩ : ∃ a, d = a + 3 := ⟨d - 3, by omega⟩
  have hG := txl_good (chT_E tp e) he
  refine t_Mo_law (x_fault he (by omega) h1 h2 (fun M1 f1 g1 => ?_))
  cases hb : (txl (chT tp e) e).1 with
  | false =>
    rw [hb] at g1
    refine u_Mo_law_7 ⟨fun _ => ?_, fun z => absurd (nI_pos' (by have := hG.2.1; omega)) z⟩
    exact k0 _ hb (f1.wi (by decide)) wi_eq
  | true =>
    rw [hb] at g1
    obtain ⟨q1, q2⟩ := g1 rfl
    obtain ⟨a1, a2, -⟩ := hG.2.2 hb
    rw [if_pos rfl]
    refine u_Mo_law_7 ⟨fun z => absurd z (by decide), fun _ => ?_⟩
    have e1 : imin (M1.1 8 5) (imin 121 121) = nI (txl (chT tp e) e).2.2.1.length := by
      rw [q1, show imin 121 121 = nI 121 from by decide, n_imin (by omega) (by decide), Nat.min_eq_left (by omega)]
    rw [e1, n_cl (by omega)]
    refine ⟨nI_pos (by omega), by omega, ?_⟩
    refine k1 _ hb (((((f1.to (by decide)).cpi (by decide)).cpi (by decide)).wi (by decide)).wi (by decide)) wi_eq (lawX_tx (chT_E tp e) he hb ?_ ?_)
    · rw [wi_ne (by decide), wi_eq]
    · refine cdR_ext (fun i h3 h4 => ?_) q2
      rw [Nat.zero_add] at h4
      refine ⟨?_, ?_⟩
      · rw [wi_ne (by decide), wi_ne (by decide)]
        show am_ur (am_ur M1.1 5 (va_cpy (M1.1 10) (M1.1 5) 0 0 (txl (chT tp e) e).2.2.1.length)) 6 (va_cpy (am_ur M1.1 5 (va_cpy (M1.1 10) (M1.1 5) 0 0 (txl (chT tp e) e).2.2.1.length) 11) (am_ur M1.1 5 (va_cpy (M1.1 10) (M1.1 5) 0 0 (txl (chT tp e) e).2.2.1.length) 6) 0 0 (txl (chT tp e) e).2.2.1.length) 5 i = M1.1 10 i
        rw [am_ur_ne (by decide), am_ur_eq, pk_cpy_in (by omega) (by omega), Nat.sub_zero, Nat.zero_add]
      · rw [wi_ne (by decide), wi_ne (by decide)]
        show am_ur (am_ur M1.1 5 (va_cpy (M1.1 10) (M1.1 5) 0 0 (txl (chT tp e) e).2.2.1.length)) 6 (va_cpy (am_ur M1.1 5 (va_cpy (M1.1 10) (M1.1 5) 0 0 (txl (chT tp e) e).2.2.1.length) 11) (am_ur M1.1 5 (va_cpy (M1.1 10) (M1.1 5) 0 0 (txl (chT tp e) e).2.2.1.length) 6) 0 0 (txl (chT tp e) e).2.2.1.length) 6 i = M1.1 11 i
        rw [am_ur_eq, pk_cpy_in (by omega) (by omega), Nat.sub_zero, Nat.zero_add]
        rw [am_ur_ne (by decide)]
end ST
