section SQ
variable {L : Nat} {xs : Nat → Int32} {d : Nat} {Q : AQ} {M : AM} {e i : Nat} {tp nm : Nat → Int32}
theorem w_workOut_42 {x3 x4 s0 : Int32} (he : e ≤ 120) (hi : i ≤ e) (hR : rfM e tp i nm M) (h17 : M.1 40 17 = -1)
    (k63 : chT tp e i = 63 → am_Call (gG L xs) (d + 2) c_Md_either [.ref 40] (am_wi M 40 15 (nI (i + 1))) (fun r M' => v_Md_workOut L xs (d + 2) Q 72 [(0, .ref 40), (3, .int x3), (4, .int x4), (7, .int (if s0 = 0 then 0 else 1))] (r.toList ++ []) M'))
    (kn : ¬ chT tp e i = 63 → chT tp e i = 59 → v_Md_workOut L xs (d + 2) Q 33 [(0, .ref 40), (3, .int (if x3 = 0 then 1 else x3)), (4, .int (if x3 = 0 then s0 else x4)), (5, .int (1))] [] (am_wi M 40 15 (nI (i + 1)))) (kz : ¬ chT tp e i = 63 → ¬ chT tp e i = 59 → v_Md_workOut L xs (d + 2) Q 33 [(0, .ref 40), (3, .int (if x3 = 0 then 1 else x3)), (4, .int (if x3 = 0 then s0 else x4)), (5, .int (0))] [] M) : v_Md_workOut L xs (d + 2) Q 42 [(0, .ref 40), (3, .int x3), (4, .int x4)] [.int s0] M := by
  obtain ⟨h16, h15, hT, -⟩ := hR
  refine u_Md_workOut_42 ?_
  by_cases hie : i < e
  · have h1 : ¬ nI e ≤ nI i := nI_ge hie (by omega)
    have hv : i < 120 := by omega
    have h0 := chT_lt (tp := tp) hie
    (try simp only [h0] at k63 kn kz)
    rcases hT with ⟨hb, ht⟩ | ⟨hb, ht⟩
    · have ht := ht i hie
      simp (disch := omega) only [h15, h16, h17, hb, h1, hv, n_vp, n_cl, ht, c_0lem1, nI_1, not_true_eq_false, not_false_eq_true, false_implies, true_implies, and_true, true_and]
      exact ⟨fun h => ⟨fun z => by simp only [z, if_true] at k63; exact k63 h, fun z => by simp only [z, if_false] at k63; exact k63 h⟩, fun h => ⟨fun z => by simp only [z, if_false] at kn kz; exact ⟨fun w => kn h w, fun w => kz h w⟩, fun z => by simp only [z, if_true] at kn kz; exact ⟨fun w => kn h w, fun w => kz h w⟩⟩⟩
    · have ht := ht i hie
      simp (disch := omega) only [h15, h16, h17, hb, h1, hv, nI_add, Nat.zero_add, n_vp, n_cl, ht, nl_ge0, c_0lem1, nI_1, not_true_eq_false, not_false_eq_true, false_implies, true_implies, and_true, true_and]
      exact ⟨fun h => ⟨fun z => by simp only [z, if_true] at k63; exact k63 h, fun z => by simp only [z, if_false] at k63; exact k63 h⟩, fun h => ⟨fun z => by simp only [z, if_false] at kn kz; exact ⟨fun w => kn h w, fun w => kz h w⟩, fun z => by simp only [z, if_true] at kn kz; exact ⟨fun w => kn h w, fun w => kz h w⟩⟩⟩
  · have h1 : nI e ≤ nI i := nI_le (by omega) (by omega)
    have h0 := chT_ge (tp := tp) (Nat.le_of_not_lt hie)
    (try simp only [h0] at k63 kn kz)
    simp (disch := omega) only [h15, h16, h17, h1, c_0lem1, not_true_eq_false, not_false_eq_true, false_implies, true_implies, and_true, true_and]
    exact ⟨fun z => by simp only [z, if_false] at kz; exact kz (by decide) (by decide), fun z => by simp only [z, if_true] at kz; exact kz (by decide) (by decide)⟩
theorem w_workOut_72 {x3 x4 x7 s0 : Int32} (he : e ≤ 120) (hi : i ≤ e) (hR : rfM e tp i nm M) (h17 : M.1 40 17 = -1)
    (kn : chT tp e i = 59 → v_Md_workOut L xs (d + 2) Q 33 [(0, .ref 40), (3, .int (if x7 = 0 then x3 else if x3 = 0 then 1 else x3)), (4, .int (if x7 = 0 then x4 else if x3 = 0 then s0 else x4)), (5, .int (1))] [] (am_wi M 40 15 (nI (i + 1)))) (kz : ¬ chT tp e i = 59 → v_Md_workOut L xs (d + 2) Q 33 [(0, .ref 40), (3, .int (if x7 = 0 then x3 else if x3 = 0 then 1 else x3)), (4, .int (if x7 = 0 then x4 else if x3 = 0 then s0 else x4)), (5, .int (0))] [] M) : v_Md_workOut L xs (d + 2) Q 72 [(0, .ref 40), (3, .int x3), (4, .int x4), (7, .int x7)] [.int s0] M := by
  obtain ⟨h16, h15, hT, -⟩ := hR
  refine u_Md_workOut_72 ?_
  by_cases hie : i < e
  · have h1 : ¬ nI e ≤ nI i := nI_ge hie (by omega)
    have hv : i < 120 := by omega
    have h0 := chT_lt (tp := tp) hie
    (try simp only [h0] at kn kz)
    rcases hT with ⟨hb, ht⟩ | ⟨hb, ht⟩
    · have ht := ht i hie
      simp (disch := omega) only [h15, h16, h17, hb, h1, hv, n_vp, n_cl, ht, c_0lem1, nI_1, not_true_eq_false, not_false_eq_true, false_implies, true_implies, and_true, true_and]
      exact ⟨fun a => by simp only [a, if_true] at kn kz; exact ⟨kn, kz⟩, fun a => ⟨fun b => by simp only [a, b, if_false] at kn kz; exact ⟨kn, kz⟩, fun b => by simp only [a, b, if_true, if_false] at kn kz; exact ⟨kn, kz⟩⟩⟩
    · have ht := ht i hie
      simp (disch := omega) only [h15, h16, h17, hb, h1, hv, nI_add, Nat.zero_add, n_vp, n_cl, ht, nl_ge0, c_0lem1, nI_1, not_true_eq_false, not_false_eq_true, false_implies, true_implies, and_true, true_and]
      exact ⟨fun a => by simp only [a, if_true] at kn kz; exact ⟨kn, kz⟩, fun a => ⟨fun b => by simp only [a, b, if_false] at kn kz; exact ⟨kn, kz⟩, fun b => by simp only [a, b, if_true, if_false] at kn kz; exact ⟨kn, kz⟩⟩⟩
  · have h1 : nI e ≤ nI i := nI_le (by omega) (by omega)
    have h0 := chT_ge (tp := tp) (Nat.le_of_not_lt hie)
    (try simp only [h0] at kn kz)
    simp (disch := omega) only [h15, h16, h17, h1, c_0lem1, not_true_eq_false, not_false_eq_true, false_implies, true_implies, and_true, true_and]
    exact ⟨fun a => by simp only [a, if_true] at kz; exact kz (by decide), fun a => ⟨fun b => by simp only [a, b, if_false] at kz; exact kz (by decide), fun b => by simp only [a, b, if_true, if_false] at kz; exact kz (by decide)⟩⟩
end SQ
section SU
variable {L : Nat} {xs : Nat → Int32} {e : Nat} {tp nm : Nat → Int32}
def xg (g : (Nat → Int32) → Option Int32) (nm : Nat → Int32) : Int32 := b2i (g nm).isSome
theorem gvl_some {g u : (Nat → Int32) → Option Int32} : (if xg g nm = 0 then b2i (u nm).isSome else xg g nm) = xg (gvl g u) nm ∧ (if xg g nm = 0 then (u nm).getD 0 else (g nm).getD 0) = (gvl g u nm).getD 0 := by
  unfold xg gvl
  cases h : g nm with
  | none => simp [b2i]
  | some y => simp [b2i]
theorem m_text {d : Nat} {Q : AQ} {M0 : AM} (he : e ≤ 120) (hd : 60 ≤ d) : ∀ (k i : Nat) (cs : PC) (g : (Nat → Int32) → Option Int32) (M : AM), i ≤ e → e < i + k → fs [] fJ M0 M → rfM e tp i nm M → M.1 40 17 = -1 → M.1 40 18 = nI 0 →
    (∀ M' y, fs [] fJ M0 M' → ((txp (chT tp e) e FU k i cs g).1 = true → M'.1 40 17 = -1 ∧ y = ((txp (chT tp e) e FU k i cs g).2.2.2 nm).getD 0) → ((txp (chT tp e) e FU k i cs g).1 = false → M'.1 40 17 = nI (txp (chT tp e) e FU k i cs g).2.1) → Q (some (.int y)) M') →
    v_Md_workOut L xs (d + 2) Q 33 [(0, .ref 40), (3, .int (xg g nm)), (4, .int ((g nm).getD 0)), (5, .int 1)] [] M := by
  intro k
  induction k with
  | zero => intro i cs g M h1 h2; omega
  | succ k ih =>
    intro i cs g M hi hk hf hR h17 h18 kk
    have hE := chT_E tp e
    rw [txp] at kk
    unfold lnp at kk
    have hg := pz_good hE FU 0 0 i hi (by unfold FU; omega)
    have bad : ∀ (j : Nat) (M' : AM) (x3 x4 : Int32), (∀ M' y, fs [] fJ M0 M' → M'.1 40 17 = nI j → Q (some (.int y)) M') → j ≤ e → fs [] fJ M0 M' → M'.1 40 17 = nI j → v_Md_workOut L xs (d + 2) Q 33 [(0, .ref 40), (3, .int x3), (4, .int x4), (5, .int (0 : Int32))] [] M' := by
      intro j M' x3 x4 k2 hj hf' hz
      exact u_Md_workOut_33 ⟨fun _ => ⟨fun _ => k2 _ _ hf' hz, fun z => absurd (by rw [hz]; exact nI_pos' (by omega)) z⟩, fun z => absurd rfl z⟩
    -- behind a line
    have fin : ∀ (j : Nat) (u : (Nat → Int32) → Option Int32) (cc : PC) (M2 : AM), j ≤ e → i < j → fs [] fJ M0 M2 → rfM e tp j nm M2 → M2.1 40 17 = -1 → M2.1 40 18 = nI 0 →
        (∀ M' y, fs [] fJ M0 M' → ((if chT tp e j = 59 then txp (chT tp e) e FU k (j + 1) (cs ++ cc) (gvl g u) else if e ≤ j then (true, j, cs ++ cc, gvl g u) else (false, j, cs, g)).1 = true → M'.1 40 17 = -1 ∧ y = ((if chT tp e j = 59 then txp (chT tp e) e FU k (j + 1) (cs ++ cc) (gvl g u) else if e ≤ j then (true, j, cs ++ cc, gvl g u) else (false, j, cs, g)).2.2.2 nm).getD 0) → ((if chT tp e j = 59 then txp (chT tp e) e FU k (j + 1) (cs ++ cc) (gvl g u) else if e ≤ j then (true, j, cs ++ cc, gvl g u) else (false, j, cs, g)).1 = false → M'.1 40 17 = nI (if chT tp e j = 59 then txp (chT tp e) e FU k (j + 1) (cs ++ cc) (gvl g u) else if e ≤ j then (true, j, cs ++ cc, gvl g u) else (false, j, cs, g)).2.1) → Q (some (.int y)) M') →
        (chT tp e j = 59 → v_Md_workOut L xs (d + 2) Q 33 [(0, .ref 40), (3, .int (xg (gvl g u) nm)), (4, .int ((gvl g u nm).getD 0)), (5, .int 1)] [] (am_wi M2 40 15 (nI (j + 1)))) ∧ (¬ chT tp e j = 59 → v_Md_workOut L xs (d + 2) Q 33 [(0, .ref 40), (3, .int (xg (gvl g u) nm)), (4, .int ((gvl g u nm).getD 0)), (5, .int 0)] [] M2) := by
      intro j u cc M2 hj hij hf2 hR2 p1 p2 k2
      refine ⟨fun h => ?_, fun h => ?_⟩
      · have hje := hE.lt (show chT tp e j ≠ 0 by rw [h]; decide)
        rw [if_pos h] at k2
        exact ih (j + 1) _ _ _ (by omega) (by omega) (hf2.s (by decide)) hR2.go (by rw [wi_sl (by decide)]; exact p1) (by rw [wi_sl (by decide)]; exact p2) k2
      · rw [if_neg h] at k2
        refine u_Md_workOut_33 ⟨fun _ => ⟨fun z => absurd z (by rw [p1]; decide), fun _ => ?_⟩, fun z => absurd rfl z⟩
        rw [hR2.1, hR2.2.1, n_leI (by omega) (by omega)]
        refine ⟨fun h3 => ?_, fun h3 => ?_⟩
        · rw [if_pos h3] at k2
          exact k2 _ _ hf2 (fun _ => ⟨p1, rfl⟩) (fun z => by cases z)
        · rw [if_neg h3] at k2
          exact k2 _ _ (hf2.s (by decide)) (fun z => by cases z) (fun _ => wi_eq)
    refine u_Md_workOut_33 ⟨fun z => absurd z (by decide), fun _ => m_expr he hi (by omega) hR h17 h18 (fun M1 y hO => ?_)⟩
    obtain ⟨o1, o2, o3, o4⟩ := hO
    have hf1 := hf.tt o1
    have hR1 := hR.at o1 o2
    have hj := hg.2.1
    cases hb : (pz (chT tp e) FU 0 0 i).1 with
    | false =>
      simp only [hb, Bool.false_eq_true, if_false, false_implies, true_implies] at kk
      have e17 := o4 hb
      refine u_Md_workOut_42 ⟨fun _ => bad _ M1 _ _ kk hj hf1 e17, fun z => absurd (by rw [e17]; exact nI_pos' (by omega)) z⟩
    | true =>
      obtain ⟨p1, p2, p3⟩ := o3 hb
      have hij := (hg.2.2 hb).1
      subst p3
      simp only [hb, if_true] at kk
      refine w_workOut_42 he hj hR1 p1 (fun h63 => ?_) (fun n63 => ?_) (fun n63 => ?_)
      · rw [if_pos h63] at kk
        have hje := hE.lt (show chT tp e (pz (chT tp e) FU 0 0 i).2.1 ≠ 0 by rw [h63]; decide)
        have hg2 := pz_good hE FU 0 0 ((pz (chT tp e) FU 0 0 i).2.1 + 1) (by omega) (by unfold FU; omega)
        refine m_expr he (by omega) (by omega) hR1.go (by rw [wi_sl (by decide)]; exact p1) (by rw [wi_sl (by decide)]; exact p2) (fun M3 y3 hO3 => ?_)
        obtain ⟨r1, r2, r3, r4⟩ := hO3
        have hf3 : fs [] fJ M0 M3 := (fJw15 hf1).tt r1
        have hR3 := hR1.go.at r1 r2
        have hj3 := hg2.2.1
        cases hb2 : (pz (chT tp e) FU 0 0 ((pz (chT tp e) FU 0 0 i).2.1 + 1)).1 with
        | false =>
          simp only [hb2, Bool.false_eq_true, if_false, false_implies, true_implies] at kk
          have e17 := r4 hb2
          exact u_Md_workOut_72 ⟨fun _ => bad _ M3 _ _ kk hj3 hf3 e17, fun z => absurd (by rw [e17]; exact nI_pos' (by omega)) z⟩
        | true =>
          obtain ⟨t1, t2, t3⟩ := r3 hb2
          have hij3 := (hg2.2.2 hb2).1
          subst t3
          simp only [hb2, if_true] at kk
          have F := fin _ (fun nm => if (pz (chT tp e) FU 0 0 i).2.2.2 nm = 0 then none else some ((pz (chT tp e) FU 0 0 ((pz (chT tp e) FU 0 0 i).2.1 + 1)).2.2.2 nm)) _ M3 hj3 (by omega) hf3 hR3 t1 t2 kk
          have ge := gvl_some (nm := nm) (g := g) (u := (fun nm => if (pz (chT tp e) FU 0 0 i).2.2.2 nm = 0 then none else some ((pz (chT tp e) FU 0 0 ((pz (chT tp e) FU 0 0 i).2.1 + 1)).2.2.2 nm)))
          by_cases hv : (pz (chT tp e) FU 0 0 i).2.2.2 nm = 0
          · simp only [hv, if_true, Option.isSome_none, b2i_f, Option.getD_none] at ge
            have g1 : xg g nm = xg (gvl g (fun nm => if (pz (chT tp e) FU 0 0 i).2.2.2 nm = 0 then none else some ((pz (chT tp e) FU 0 0 ((pz (chT tp e) FU 0 0 i).2.1 + 1)).2.2.2 nm))) nm := by
              rw [← ge.1]; by_cases z : xg g nm = 0
              · rw [if_pos z]; exact z
              · rw [if_neg z]
            have g2 : (g nm).getD 0 = (gvl g (fun nm => if (pz (chT tp e) FU 0 0 i).2.2.2 nm = 0 then none else some ((pz (chT tp e) FU 0 0 ((pz (chT tp e) FU 0 0 i).2.1 + 1)).2.2.2 nm)) nm).getD 0 := by
              rw [← ge.2]; by_cases z : xg g nm = 0
              · rw [if_pos z]; unfold xg at z; rw [b2i_0] at z; rw [Option.isSome_eq_false_iff, Option.isNone_iff_eq_none] at z; rw [z]; rfl
              · rw [if_neg z]
            rw [hv, if_pos rfl]
            refine w_workOut_72 he hj3 hR3 t1 (fun h => ?_) (fun h => ?_)
            · rw [if_pos rfl, if_pos rfl, g1, g2]; exact F.1 h
            · rw [if_pos rfl, if_pos rfl, g1, g2]; exact F.2 h
          · simp only [hv, if_false, Option.isSome_some, b2i_t, Option.getD_some] at ge
            rw [if_neg hv]
            refine w_workOut_72 he hj3 hR3 t1 (fun h => ?_) (fun h => ?_)
            · rw [if_neg (show ¬ (1 : Int32) = 0 by decide), if_neg (show ¬ (1 : Int32) = 0 by decide), ge.1, ge.2]; exact F.1 h
            · rw [if_neg (show ¬ (1 : Int32) = 0 by decide), if_neg (show ¬ (1 : Int32) = 0 by decide), ge.1, ge.2]; exact F.2 h
      · rw [if_neg n63] at kk
        have F := fin _ (fun nm => some ((pz (chT tp e) FU 0 0 i).2.2.2 nm)) _ M1 hj hij hf1 hR1 p1 p2 kk
        have ge := gvl_some (nm := nm) (g := g) (u := fun nm => some ((pz (chT tp e) FU 0 0 i).2.2.2 nm))
        simp only [Option.isSome_some, b2i_t, Option.getD_some] at ge
        rw [ge.1, ge.2]
        exact F.1
      · rw [if_neg n63] at kk
        have F := fin _ (fun nm => some ((pz (chT tp e) FU 0 0 i).2.2.2 nm)) _ M1 hj hij hf1 hR1 p1 p2 kk
        have ge := gvl_some (nm := nm) (g := g) (u := fun nm => some ((pz (chT tp e) FU 0 0 i).2.2.2 nm))
        simp only [Option.isSome_some, b2i_t, Option.getD_some] at ge
        rw [ge.1, ge.2]
        exact F.2
end SU
