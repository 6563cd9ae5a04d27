theorem pz_5 (ch : Nat → Int32) (fu o i : Nat) : pz ch (fu + 1) 5 o i = (
    if dig (ch i) then (true, (numL ch 4 i 0).1, [(99, (numL ch 4 i 0).2)], fun _ => (numL ch 4 i 0).2)
    else if nmI (ch i) < 6 then (true, i + 1, [(ch i, 0)], fun nm => nm (nmI (ch i)))
    else if 6 ≤ o then (false, i, [], fun _ => 0)
    else if ch i = 40 then
      (if (pz ch fu 0 (o + 1) (i + 1)).1 then (if ch (pz ch fu 0 (o + 1) (i + 1)).2.1 = 41 then (true, (pz ch fu 0 (o + 1) (i + 1)).2.1 + 1, (pz ch fu 0 (o + 1) (i + 1)).2.2.1, (pz ch fu 0 (o + 1) (i + 1)).2.2.2) else (false, (pz ch fu 0 (o + 1) (i + 1)).2.1, [], fun _ => 0)) else (false, (pz ch fu 0 (o + 1) (i + 1)).2.1, [], fun _ => 0))
    else if ch i = 33 then
      (if (pz ch fu 5 (o + 1) (i + 1)).1 then (true, (pz ch fu 5 (o + 1) (i + 1)).2.1, (pz ch fu 5 (o + 1) (i + 1)).2.2.1 ++ [(33, 0)], fun nm => if (pz ch fu 5 (o + 1) (i + 1)).2.2.2 nm = 0 then 1 else 0) else (false, (pz ch fu 5 (o + 1) (i + 1)).2.1, [], fun _ => 0))
    else if ch i = 45 then
      (if (pz ch fu 5 (o + 1) (i + 1)).1 then (true, (pz ch fu 5 (o + 1) (i + 1)).2.1, (pz ch fu 5 (o + 1) (i + 1)).2.2.1 ++ [(126, 0)], fun nm => -((pz ch fu 5 (o + 1) (i + 1)).2.2.2 nm)) else (false, (pz ch fu 5 (o + 1) (i + 1)).2.1, [], fun _ => 0))
    else (false, i, [], fun _ => 0)) := by
  rw [pz, if_neg (by decide)]
section SS
variable {L : Nat} {xs : Nat → Int32} {e : Nat} {tp : Nat → Int32}
theorem okX.fl {m i j : Nat} {c c' : PC} {b : Bool} {M M1 M2 : AM} (h1 : okX e tp m true i c M M1) (h2 : okX e tp (m + c.length) b j c' M1 M2) : okX e tp m false j [] M M2 := by
  have := h1.app h2
  exact ⟨this.1, this.2.1, fun z => by cases z⟩
theorem okX.f1 {m j : Nat} {c : PC} {b : Bool} {M M2 : AM} (h2 : okX e tp m b j c M M2) : okX e tp m false j [] M M2 := ⟨h2.1, h2.2.1, fun z => by cases z⟩
theorem okX.nil {m i : Nat} {M : AM} (h : rdX e tp i m M) : okX e tp m true i [] M M := ⟨fr.rf, h.2.1, fun _ => ⟨h, trivial, fun _ _ => ⟨rfl, rfl⟩⟩⟩
theorem rkR_eq {c : Int32} {r : Nat} (hr : r < 5) : rkR c = nI r ↔ rkO c = r := by
  unfold rkR
  by_cases h : rkO c < 5
  · rw [if_pos h]; exact nI_eq (by omega) (by omega)
  · rw [if_neg h]
    refine ⟨fun z => ?_, fun z => by omega⟩
    exact absurd (show nI r < 0 by rw [← z]; decide) (nI_pos (by omega))
theorem x_loop {r o i m : Nat} {P : Nat → PR} {d : Nat} {Q : AQ} {M0 : AM} (he : e ≤ 120) (hr : r < 5) (hm : m ≤ i) (hd : 1 ≤ d)
    (hG : ∀ j, i < j → j ≤ e → pzG e j (P j))
    (hP : ∀ (j m : Nat) (M : AM) (Q' : AQ), i < j → j ≤ e → m ≤ j → rdX e tp j m M → (∀ M', okX e tp m (P j).1 (P j).2.1 (P j).2.2.1 M M' → Q' (some (.int (b2i (P j).1))) M') → am_Call (gG L xs) d c_Reader_layer [.ref 8, .int (nI (r + 1)), .int (nI o)] M Q') :
    ∀ (k q j : Nat) (c : PC) (v : PV) (M : AM), j ≤ e → e < j + k → i + 2 * q < j → c.length + i ≤ j → okX e tp m true j c M0 M →
      (∀ M', okX e tp m (lp (chT tp e) P r k q j c v).1 (lp (chT tp e) P r k q j c v).2.1 (lp (chT tp e) P r k q j c v).2.2.1 M0 M' → Q (some (.int (b2i (lp (chT tp e) P r k q j c v).1))) M') →
      v_Reader_layer L xs d Q 26 [(0, .ref 8), (1, .int (nI r)), (2, .int (nI o)), (3, .int (nI q))] [] M := by
  obtain ⟨d, rfl⟩ : ∃ a, d = a + 1 := ⟨d - 1, by omega⟩
  intro k
  induction k with
  | zero => intro q j c v M hj hk; omega
  | succ k ih =>
    intro q j c v M hj hk hq hc hO kk
    obtain ⟨f0, p0, hR⟩ := hO
    obtain ⟨hR, hcd, hbl⟩ := hR rfl
    have hO : okX e tp m true j c M0 M := ⟨f0, p0, fun _ => ⟨hR, hcd, hbl⟩⟩
    have hR0 := hR
    obtain ⟨r1, r2, r3, r4⟩ := hR
    have stop : ¬ (rkO (chT tp e j) = r ∧ ¬ (r = 2 ∧ 0 < q)) → Q (some (.int 1)) M := by
      intro hn
      have e0 : lp (chT tp e) P r (k + 1) q j c v = (true, j, c, v) := by rw [lp, if_neg hn]
      rw [e0] at kk
      exact kk M hO
    have B : ∀ (cc : Int32) (al : Bool), ((j < e ∧ cc = chT tp e j) ∨ (cc = -1 ∧ chT tp e j = 0)) → (al = true ↔ (r = 2 ∧ 0 < q)) → am_Call (gG L xs) (d + 1) c_Reader_rankOf [.int cc] M (fun r' M' => v_Reader_layer L xs (d + 1) Q 59 [(0, .ref 8), (1, .int (nI r)), (2, .int (nI o)), (3, .int (nI q)), (4, .int cc), (5, .int (b2i al))] (r'.toList ++ []) M') := by
      intro cc al hcc hal
      refine s_rankOf (u_Reader_layer_59 ⟨fun h => ?_, fun h => ⟨fun h5 => ?_, fun h5 => ?_⟩⟩)
      · refine stop (fun z => h ?_)
        rcases hcc with ⟨-, hcc⟩ | ⟨-, hcc⟩
        · rw [hcc]; exact (rkR_eq hr).mpr z.1
        · rw [hcc] at z; exact absurd z.1 (by rw [show rkO 0 = 9 from by decide]; omega)
      · rcases hcc with ⟨hje, hcc⟩ | ⟨hcc, -⟩
        · rw [hcc] at h ⊢
          have hro := (rkR_eq hr).mp h
          have hn : ¬ (r = 2 ∧ 0 < q) := fun z => by rw [hal.mpr z] at h5; exact absurd h5 (by decide)
          have e1 : lp (chT tp e) P r (k + 1) q j c v = (if (P (j + 1)).1 then lp (chT tp e) P r k (q + 1) (P (j + 1)).2.1 (c ++ (P (j + 1)).2.2.1 ++ [(chT tp e j, 0)]) (fun nm => lwJ (chT tp e j) (v nm) ((P (j + 1)).2.2.2 nm)) else (false, (P (j + 1)).2.1, [], v)) := by rw [lp, if_pos ⟨hro, hn⟩]
          rw [e1] at kk
          rw [r2, nI_1, nI_1]
          obtain ⟨g1, g2, g3⟩ := hG (j + 1) (by omega) (by omega)
          refine hP (j + 1) (m + c.length) _ _ (by omega) (by omega) (by omega) hR0.go (fun M2 hO2 => ?_)
          have hO3 := okX.go hR0 hO2
          have hO4 := hO.app hO3
          cases hb : (P (j + 1)).1 with
          | false =>
            rw [hb] at kk
            exact u_Reader_layer_88 ⟨fun z => absurd rfl z, fun _ => kk M2 hO4.f1⟩
          | true =>
            rw [hb] at kk hO4
            obtain ⟨a1, a2, a3, -⟩ := g3 hb
            obtain ⟨hR2, -, -⟩ := hO4.2.2 rfl
            have hl : (c ++ (P (j + 1)).2.2.1).length = c.length + (P (j + 1)).2.2.1.length := List.length_append
            refine u_Reader_layer_88 ⟨fun _ => ⟨fun _ => ?_, fun z => ?_⟩, fun z => absurd z (by decide)⟩
            · rw [hR2.2.2.1, n_cl (show m + (c ++ (P (j + 1)).2.2.1).length < 2 ^ 31 by omega)]
              refine ⟨(n_vp (by omega)).mpr (by omega), ?_⟩
              rw [nI_1, nI_1]
              refine ih (q + 1) (P (j + 1)).2.1 _ _ _ (by omega) (by omega) (by omega) ?_ (hO4.app (okX.mk hR2)) kk
              rw [List.length_append, hl, List.length_singleton]; omega
            · rw [hR2.2.2.1] at z
              exact absurd ((n_ltI (b := 121) (by omega) (by decide)).mpr (by omega)) z
        · rw [hcc, show rkR (-1) = -1 from by decide] at h
          exact absurd (show nI r < 0 by rw [← h]; decide) (nI_pos (by omega))
      · refine stop (fun z => h5 ?_)
        cases al with
        | false => rfl
        | true => exact absurd (hal.mp rfl) z.2
    refine u_Reader_layer_26 ⟨fun h => absurd ((n_leI (a := 120) (by decide) (by omega)).mp h) (by omega), fun _ => ?_⟩
    rw [r1, r2]
    refine ⟨fun h => ?_, fun h => ?_⟩
    · rw [n_leI (by omega) (by omega)] at h
      have h0 := chT_ge (tp := tp) h
      refine ⟨fun h2 => B (-1) false (Or.inr ⟨rfl, h0⟩) ⟨fun z => (by cases z), fun z => absurd (by rw [z.1]; rfl) h2⟩, fun h2 => ⟨fun h3 => B (-1) false (Or.inr ⟨rfl, h0⟩) ⟨fun z => (by cases z), fun z => ?_⟩, fun h3 => B (-1) true (Or.inr ⟨rfl, h0⟩) ⟨fun _ => ⟨(nI_eq (b := 2) (by omega) (by decide)).mp h2, ?_⟩, fun _ => rfl⟩⟩⟩
      · have := (n_leI (b := 0) (by omega) (by decide)).mp h3; omega
      · by_cases hq0 : 0 < q
        · exact hq0
        · exact absurd ((n_leI (b := 0) (by omega) (by decide)).mpr (by omega)) h3
    · rw [n_leI (by omega) (by omega)] at h
      have hje : j < e := by omega
      rw [n_cl (show j < 2 ^ 31 by omega), r4 j hje]
      have h0 := chT_lt (tp := tp) hje
      refine ⟨(n_vp (by omega)).mpr (by omega), fun h2 => B (tp j) false (Or.inl ⟨hje, h0.symm⟩) ⟨fun z => (by cases z), fun z => absurd (by rw [z.1]; rfl) h2⟩, fun h2 => ⟨fun h3 => B (tp j) false (Or.inl ⟨hje, h0.symm⟩) ⟨fun z => (by cases z), fun z => ?_⟩, fun h3 => B (tp j) true (Or.inl ⟨hje, h0.symm⟩) ⟨fun _ => ⟨(nI_eq (b := 2) (by omega) (by decide)).mp h2, ?_⟩, fun _ => rfl⟩⟩⟩
      · have := (n_leI (b := 0) (by omega) (by decide)).mp h3; omega
      · by_cases hq0 : 0 < q
        · exact hq0
        · exact absurd ((n_leI (b := 0) (by omega) (by decide)).mpr (by omega)) h3
def xOp (L : Nat) (xs : Nat → Int32) (e : Nat) (tp : Nat → Int32) (fu : Nat) : Prop := ∀ (o i m d : Nat) (M : AM) (Q : AQ), o ≤ 6 → i ≤ e → 7 * (e - i) < fu → 8 * (7 - o) + 3 ≤ d → m ≤ i → rdX e tp i m M → (∀ M', okX e tp m (pz (chT tp e) fu 5 o i).1 (pz (chT tp e) fu 5 o i).2.1 (pz (chT tp e) fu 5 o i).2.2.1 M M' → Q (some (.int (b2i (pz (chT tp e) fu 5 o i).1))) M') → am_Call (gG L xs) d c_Reader_operand [.ref 8, .int (nI o)] M Q
def xLy (L : Nat) (xs : Nat → Int32) (e : Nat) (tp : Nat → Int32) (fu : Nat) : Prop := ∀ (r o i m d : Nat) (M : AM) (Q : AQ), r ≤ 5 → o ≤ 6 → i ≤ e → 7 * (e - i) + (5 - r) < fu → 8 * (7 - o) + (9 - r) ≤ d → m ≤ i → rdX e tp i m M → (∀ M', okX e tp m (pz (chT tp e) fu r o i).1 (pz (chT tp e) fu r o i).2.1 (pz (chT tp e) fu r o i).2.2.1 M M' → Q (some (.int (b2i (pz (chT tp e) fu r o i).1))) M') → am_Call (gG L xs) d c_Reader_layer [.ref 8, .int (nI r), .int (nI o)] M Q
theorem x_oper (he : e ≤ 120) {fu : Nat} (hO : xOp L xs e tp fu) (hL : xLy L xs e tp fu) : xOp L xs e tp (fu + 1) := by
  intro o i m d M Q ho hi hf hd hm hR kk
  obtain ⟨d, rfl⟩ : ∃ a, d = a + 2 := ⟨d - 2, by omega⟩
  have hR0 := hR
  obtain ⟨r1, r2, r3, r4⟩ := hR
  have hE := chT_E tp e
  rw [pz_5] at kk
  have A : ∀ (cc : Int32), ((i < e ∧ cc = chT tp e i) ∨ (cc = -1 ∧ chT tp e i = 0)) → dig (chT tp e i) = false → am_Call (gG L xs) (d + 1) c_Reader_isName [.int cc] M (fun r M' => v_Reader_operand L xs (d + 1) Q 21 [(0, .ref 8), (1, .int (nI o)), (2, .int cc)] (r.toList ++ []) M') := by
    intro cc hcc hdg
    rw [if_neg (by rw [hdg]; decide)] at kk
    refine s_isName (u_Reader_operand_21 ⟨fun hs => ?_, fun hs => ?_⟩)
    · have hn : ¬ nmI cc < 6 := by
        intro z; rw [b2i_0] at hs; simp [z] at hs
      have hn2 : ¬ nmI (chT tp e i) < 6 := by
        rcases hcc with ⟨-, hcc⟩ | ⟨-, hcc⟩
        · rw [← hcc]; exact hn
        · rw [hcc]; decide
      rw [if_neg hn2] at kk
      have no : ∀ p : PR, p = (false, i, [], fun _ => 0) → (∀ M', okX e tp m p.1 p.2.1 p.2.2.1 M M' → Q (some (.int (b2i p.1))) M') → Q (some (.int 0)) M := by
        intro p hp k2
        subst hp
        exact k2 M (okX.no hR0)
      refine ⟨fun h6 => ?_, fun h6 => ?_⟩
      · have h6' : o < 6 := (n_ltI (b := 6) (by omega) (by decide)).mp h6
        rw [if_neg (by omega)] at kk
        rw [r2, nI_1, nI_1]
        refine ⟨fun h40 => ⟨fun h33 => ?_, fun h33 => ⟨fun h45 => ?_, fun h45 => ?_⟩⟩, fun h40 => ?_⟩
        · rcases hcc with ⟨hie, hcc⟩ | ⟨hcc, -⟩
          · rw [hcc] at h40 h33 ⊢
            rw [if_neg h40, if_pos h33] at kk
            have hg := pz_good hE fu 5 (o + 1) (i + 1) (by omega) (by omega)
            refine hO (o + 1) (i + 1) m _ _ _ (by omega) (by omega) (by omega) (by omega) (by omega) hR0.go (fun M2 hO2 => ?_)
            have hO3 := okX.go hR0 hO2
            cases hb : (pz (chT tp e) fu 5 (o + 1) (i + 1)).1 with
            | false =>
              rw [hb] at kk
              exact u_Reader_operand_131 ⟨fun z => absurd rfl z, fun _ => kk M2 hO3.f1⟩
            | true =>
              rw [hb] at kk hO3
              obtain ⟨a1, a2, a3, -⟩ := hg.2.2 hb
              have hj := hg.2.1
              obtain ⟨hR2, -, -⟩ := hO3.2.2 rfl
              refine u_Reader_operand_131 ⟨fun _ => ⟨fun z => absurd h33 z, fun _ => ⟨fun _ => ?_, fun z => ?_⟩⟩, fun z => absurd z (by decide)⟩
              · rw [hR2.2.2.1, n_cl (by omega), nI_1]
                exact ⟨(n_vp (by omega)).mpr (by omega), kk _ (hO3.app (okX.mk hR2))⟩
              · rw [hR2.2.2.1] at z
                exact absurd ((n_ltI (b := 121) (by omega) (by decide)).mpr (by omega)) z
          · rw [hcc] at h33; exact absurd h33 (by decide)
        · rcases hcc with ⟨hie, hcc⟩ | ⟨hcc, -⟩
          · rw [hcc] at h40 h33 h45 ⊢
            rw [if_neg h40, if_neg h33, if_pos h45] at kk
            have hg := pz_good hE fu 5 (o + 1) (i + 1) (by omega) (by omega)
            refine hO (o + 1) (i + 1) m _ _ _ (by omega) (by omega) (by omega) (by omega) (by omega) hR0.go (fun M2 hO2 => ?_)
            have hO3 := okX.go hR0 hO2
            cases hb : (pz (chT tp e) fu 5 (o + 1) (i + 1)).1 with
            | false =>
              rw [hb] at kk
              exact u_Reader_operand_131 ⟨fun z => absurd rfl z, fun _ => kk M2 hO3.f1⟩
            | true =>
              rw [hb] at kk hO3
              obtain ⟨a1, a2, a3, -⟩ := hg.2.2 hb
              have hj := hg.2.1
              obtain ⟨hR2, -, -⟩ := hO3.2.2 rfl
              refine u_Reader_operand_131 ⟨fun _ => ⟨fun _ => ⟨fun _ => ?_, fun z => ?_⟩, fun z => absurd z h33⟩, fun z => absurd z (by decide)⟩
              · rw [hR2.2.2.1, n_cl (by omega), nI_1]
                exact ⟨(n_vp (by omega)).mpr (by omega), kk _ (hO3.app (okX.mk hR2))⟩
              · rw [hR2.2.2.1] at z
                exact absurd ((n_ltI (b := 121) (by omega) (by decide)).mpr (by omega)) z
          · rw [hcc] at h45; exact absurd h45 (by decide)
        · have n40 : ¬ chT tp e i = 40 := by
            rcases hcc with ⟨-, hcc⟩ | ⟨-, hcc⟩
            · rw [← hcc]; exact h40
            · rw [hcc]; decide
          have n33 : ¬ chT tp e i = 33 := by
            rcases hcc with ⟨-, hcc⟩ | ⟨-, hcc⟩
            · rw [← hcc]; exact h33
            · rw [hcc]; decide
          have n45 : ¬ chT tp e i = 45 := by
            rcases hcc with ⟨-, hcc⟩ | ⟨-, hcc⟩
            · rw [← hcc]; exact h45
            · rw [hcc]; decide
          rw [if_neg n40, if_neg n33, if_neg n45] at kk
          exact no _ rfl kk
        · rcases hcc with ⟨hie, hcc⟩ | ⟨hcc, -⟩
          · rw [hcc] at h40
            rw [if_pos h40] at kk
            have hg := pz_good hE fu 0 (o + 1) (i + 1) (by omega) (by omega)
            refine hL 0 (o + 1) (i + 1) m _ _ _ (by omega) (by omega) (by omega) (by omega) (by omega) (by omega) hR0.go (fun M2 hO2 => ?_)
            have hO3 := okX.go hR0 hO2
            cases hb : (pz (chT tp e) fu 0 (o + 1) (i + 1)).1 with
            | false =>
              rw [hb] at kk
              exact u_Reader_operand_74 ⟨fun _ => kk M2 hO3.f1, fun z => absurd rfl z⟩
            | true =>
              rw [hb] at kk hO3
              obtain ⟨a1, a2, a3, -⟩ := hg.2.2 hb
              have hj := hg.2.1
              obtain ⟨hR2, hcd, hbl⟩ := hO3.2.2 rfl
              have hR3 := hR2
              obtain ⟨q1, q2, q3, q4⟩ := hR2
              rw [if_pos rfl] at kk
              refine u_Reader_operand_74 ⟨fun z => absurd z (by decide), fun _ => ?_⟩
              rw [q1, q2]
              refine ⟨fun h => ?_, fun h => ?_⟩
              · rw [n_leI (by omega) (by omega)] at h
                rw [if_neg (by rw [chT_ge h]; decide)] at kk
                exact kk M2 hO3.f1
              · rw [n_leI (by omega) (by omega)] at h
                have hje : (pz (chT tp e) fu 0 (o + 1) (i + 1)).2.1 < e := by omega
                rw [n_cl (by omega), q4 _ hje]
                rw [chT_lt hje] at kk
                refine ⟨(n_vp (by omega)).mpr (by omega), fun h41 => ?_, fun h41 => ?_⟩
                · rw [if_pos h41] at kk
                  rw [nI_1]
                  have hg2 := hR3.go
                  have := hO3.app (okX.go hR3 (okX.nil hg2))
                  rw [List.append_nil] at this
                  exact kk _ this
                · rw [if_neg h41] at kk
                  exact kk M2 hO3.f1
          · rw [hcc] at h40; exact absurd h40 (by decide)
      · have h6' : 6 ≤ o := by
          by_cases z : o < 6
          · exact absurd ((n_ltI (b := 6) (by omega) (by decide)).mpr z) h6
          · omega
        rw [if_pos h6'] at kk
        exact no _ rfl kk
    · have hn : nmI cc < 6 := by
        rw [b2i_n0] at hs; simpa using hs
      rcases hcc with ⟨hie, hcc⟩ | ⟨hcc, -⟩
      · rw [hcc] at hn ⊢
        rw [if_pos hn] at kk
        rw [r2, nI_1]
        have hg := hR0.go
        rw [hg.2.2.1, n_cl (by omega), nI_1]
        refine ⟨fun _ => ⟨(n_vp (by omega)).mpr (by omega), kk _ (okX.go hR0 (okX.mk hg))⟩, fun z => ?_⟩
        exact absurd ((n_ltI (b := 121) (by omega) (by decide)).mpr (by omega)) z
      · rw [hcc] at hn; exact absurd hn (by decide)
  refine t_Reader_operand ?_
  rw [r1, r2]
  refine ⟨fun h => ?_, fun h => ?_⟩
  · rw [n_leI (by omega) (by omega)] at h
    have h0 := chT_ge (tp := tp) h
    exact A (-1) (Or.inr ⟨rfl, h0⟩) (by rw [h0]; decide)
  · rw [n_leI (by omega) (by omega)] at h
    have hie : i < e := by omega
    have h0 := chT_lt (tp := tp) hie
    rw [n_cl (show i < 2 ^ 31 by omega), r4 i hie]
    refine ⟨(n_vp (by omega)).mpr (by omega), fun h1 => A _ (Or.inl ⟨hie, h0.symm⟩) ?_, fun h1 => ⟨fun h2 => A _ (Or.inl ⟨hie, h0.symm⟩) ?_, fun h2 => ?_⟩⟩
    · rw [h0]; cases hq : dig (tp i) with
      | false => rfl
      | true => exact absurd h1 (dig_iff.mp hq).1
    · rw [h0]; cases hq : dig (tp i) with
      | false => rfl
      | true => exact absurd h2 (dig_iff.mp hq).2
    · have hdg : dig (chT tp e i) = true := by rw [h0]; exact dig_iff.mpr ⟨h1, h2⟩
      rw [if_pos hdg] at kk
      obtain ⟨d, rfl⟩ : ∃ a, d = a + 1 := ⟨d - 1, by omega⟩
      refine t_Reader_digits (x_number he 4 i 0 M (by omega) hi (by omega) hR0 (fun M' h => u_Reader_operand_16 ⟨Or.inr rfl, kk M' h⟩))
theorem x_both (he : e ≤ 120) : ∀ fu, xOp L xs e tp fu ∧ xLy L xs e tp fu
  | 0 => ⟨fun o i m d M Q _ _ h => by omega, fun r o i m d M Q _ _ _ h => by omega⟩
  | fu + 1 => by
    obtain ⟨hO, hL⟩ := x_both he fu
    have hO1 := x_oper he hO hL
    refine ⟨hO1, ?_⟩
    intro r o i m d M Q hr ho hi hf hd hm hR kk
    obtain ⟨d, rfl⟩ : ∃ a, d = a + 1 := ⟨d - 1, by omega⟩
    refine t_Reader_layer ⟨fun h5 => ?_, fun h5 => ?_⟩
    · have h5' : r < 5 := (n_ltI (b := 5) (by omega) (by decide)).mp h5
      have hE := chT_E tp e
      have pe : pz (chT tp e) (fu + 1) r o i = (if (pz (chT tp e) fu (r + 1) o i).1 then lp (chT tp e) (pz (chT tp e) fu (r + 1) o) r fu 0 (pz (chT tp e) fu (r + 1) o i).2.1 (pz (chT tp e) fu (r + 1) o i).2.2.1 (pz (chT tp e) fu (r + 1) o i).2.2.2 else (false, (pz (chT tp e) fu (r + 1) o i).2.1, [], fun _ => 0)) := by rw [pz, if_pos h5']
      rw [pe] at kk
      have hg := pz_good hE fu (r + 1) o i hi (by omega)
      rw [nI_1]
      refine hL (r + 1) o i m _ _ _ (by omega) ho hi (by omega) (by omega) hm hR (fun M2 hO2 => ?_)
      cases hb : (pz (chT tp e) fu (r + 1) o i).1 with
      | false =>
        rw [hb] at kk
        exact u_Reader_layer_19 ⟨fun z => absurd rfl z, fun _ => kk M2 hO2.f1⟩
      | true =>
        rw [hb] at kk hO2
        obtain ⟨a1, a2, a3, -⟩ := hg.2.2 hb
        rw [if_pos rfl] at kk
        refine u_Reader_layer_19 ⟨fun _ => ?_, fun z => absurd z (by decide)⟩
        refine x_loop he h5' hm (by omega) (fun j h1 h2 => pz_good hE fu (r + 1) o j h2 (by omega)) (fun j m' M' Q' h1 h2 h3 h4 h5 => ?_) fu 0 _ _ _ M2 hg.2.1 (by omega) (by omega) (by omega) hO2 kk
        exact hL (r + 1) o j m' _ _ _ (by omega) ho h2 (by omega) (by omega) h3 h4 h5
    · have h5' : r = 5 := by
        by_cases z : r < 5
        · exact absurd ((n_ltI (b := 5) (by omega) (by decide)).mpr z) h5
        · omega
      subst h5'
      refine hO1 o i m d M _ ho hi (by omega) (by omega) hm hR (fun M' h => u_Reader_layer_10 ⟨?_, kk M' h⟩)
      cases (pz (chT tp e) (fu + 1) 5 o i).1 <;> simp [b2i]
end SS
