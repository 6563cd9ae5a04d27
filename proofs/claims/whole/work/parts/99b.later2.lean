section E25
variable {L : Nat} {xs : Nat → Int32} {d : Nat} {Q : AQ} {M M0 M1 M2 : AM} {n N k0 p e v w : Nat} {f : Nat → Nat → Nat} {io : Nat → Option Nat} {C G : Nat → Bool} {T : PV} {x1 x2 x3 : Int32}
theorem dgo_at {q a pl : Nat} : ∀ s, dgo T N f C G pl s q = some a → dgo T N f C G pl (a + 1) q = some a
  | 0, h => by cases h
  | s + 1, h => by
    have h' : dst T N f C G pl s (dgo T N f C G pl s) q = some a := h
    rcases dst_cases (T := T) (N := N) (f := f) (C := C) (G := G) (pl := pl) (s := s) (io := dgo T N f C G pl s) q with z | z
    · rw [z] at h'
      exact dgo_at s h'
    · rw [z.2.1] at h'
      cases h'
      exact h
theorem dgo_cut {q a pl k s : Nat} (h : dgo T N f C G pl s q = some a) (hk : k ≤ s) : dgo T N f C G pl k q = if a < k then some a else none := by
  by_cases h1 : a < k
  · rw [if_pos h1]; exact dgo_some (by omega) (dgo_at s h)
  · rw [if_neg h1]
    cases z : dgo T N f C G pl k q with
    | none => rfl
    | some b =>
      have h2 := dgo_some hk z
      rw [h] at h2
      cases h2
      exact absurd (dgo_lt z).1 h1
theorem dgo_cutN {q pl k s : Nat} (h : dgo T N f C G pl s q = none) (hk : k ≤ s) : dgo T N f C G pl k q = none := dgo_none hk h
theorem x_later (hd : 9 ≤ d) (hx : xS n f T M) (hp : p < n) (kk : ∀ M', fr qK M M' → Q (some (.int (ltB (ltr T n f p 100)))) M') : am_Call (gG L xs) d c_Wishes_comesBest [.ref 20, .int (nI p)] M Q := by
  obtain ⟨d, rfl⟩ : ∃ a, d = a + 1 := ⟨d - 1, by omega⟩
  have hn := hx.2.2.2
  have loop : ∀ j e (M1 : AM), e + j = 100 → fr qK M M1 → xS n f T M1 → cwd n f 1 p M1 → v_Wishes_comesBest L xs d Q 20 [(0, .ref 20), (1, .int (nI p)), (2, .int (ltB (ltr T n f p e))), (3, .int (nI (ltL 100 (ltr T n f p e)))), (4, .int (nI e))] [] M1 := by
    intro j
    induction j with
    | zero =>
      intro e M1 he F s1 c1
      have : e = 100 := by omega
      subst this
      exact u_Wishes_comesBest_20 ⟨fun _ => kk M1 F, fun z => absurd ((n_leI (a := 100) (b := 100) (by decide) (by decide)).mpr (Nat.le_refl _)) z⟩
    | succ j ih =>
      intro e M1 he F s1 c1
      have hl : ltL 100 (ltr T n f p e) ≤ 100 := by
        cases z : ltr T n f p e with
        | none => exact Nat.le_refl _
        | some bl =>
          obtain ⟨b, l⟩ := bl
          exact Nat.le_of_lt (ltr_ok e (by omega) b l z).2
      refine u_Wishes_comesBest_20 ⟨fun z => absurd ((n_leI (a := 100) (by decide) (by omega)).mp z) (by omega), fun _ => ?_⟩
      refine x_tillW (w := 1) (v := e) (k0 := min 100 (e + ltL 100 (ltr T n f p e))) (q := p) (by omega) s1 c1 (by decide) hp ⟨fun z => by omega, fun _ => by omega, fun z => by omega, fun z => by omega, fun z => by omega⟩ hp (by omega) (Q := fun r M' => v_Wishes_comesBest L xs d Q 55 [(0, .ref 20), (1, .int (nI p)), (2, .int (ltB (ltr T n f p e))), (3, .int (nI (ltL 100 (ltr T n f p e)))), (4, .int (nI e))] (r.toList ++ []) M') (fun M2 f2 s2 c2 => ?_) (fun M' h => ?_)
      · have R := ih (e + 1) M2 (by omega) (F.q f2 (fun _ h => h)) s2 c2
        cases z : dgo T n (upf f 1 p e) (ein n) noG 5 100 p with
        | none =>
          rw [dgo_cutN z (by omega)]
          have e1 : ltr T n f p (e + 1) = ltr T n f p e := by
            show (match dgo T n (upf f 1 p e) (ein n) noG 5 100 p with | none => _ | some a => _) = _
            rw [z]
          rw [e1] at R
          exact u_Wishes_comesBest_55 ⟨fun y => absurd rfl y, fun _ => by rw [nI_1]; exact R⟩
        | some a =>
          have ha := (dgo_lt z).1
          have hw := dgo_W p a z
          rw [show upf f 1 p e 1 p = e from if_pos ⟨rfl, rfl⟩] at hw
          rw [dgo_cut z (by omega)]
          by_cases hlt : a - e < ltL 100 (ltr T n f p e)
          · rw [if_pos (by omega)]
            have e1 : ltr T n f p (e + 1) = some (e, a - e) := by
              show (match dgo T n (upf f 1 p e) (ein n) noG 5 100 p with | none => _ | some a => _) = _
              rw [z]
              cases y : ltr T n f p e with
              | none => rfl
              | some bl =>
                obtain ⟨b, l⟩ := bl
                rw [y] at hlt
                exact if_pos hlt
            rw [e1] at R
            refine u_Wishes_comesBest_55 ⟨fun _ => ?_, fun y => absurd (show nI a < 0 by rw [show nI a = -2 from y]; decide) (nI_pos (by omega))⟩
            rw [show oI (some a) = nI a from rfl, n_sub hw.1, nI_1]
            exact R
          · rw [if_neg (by omega)]
            have e1 : ltr T n f p (e + 1) = ltr T n f p e := by
              show (match dgo T n (upf f 1 p e) (ein n) noG 5 100 p with | none => _ | some a => _) = _
              rw [z]
              cases y : ltr T n f p e with
              | none =>
                rw [y] at hlt
                exact absurd (show a - e < 100 by omega) hlt
              | some bl =>
                obtain ⟨b, l⟩ := bl
                rw [y] at hlt
                exact if_neg hlt
            rw [e1] at R
            exact u_Wishes_comesBest_55 ⟨fun y => absurd rfl y, fun _ => by rw [nI_1]; exact R⟩
      · refine u_Wishes_comesBest_38 ?_
        rw [nI_add, show imin (100 : Int32) (nI (e + ltL 100 (ltr T n f p e))) = nI (min 100 (e + ltL 100 (ltr T n f p e))) from n_imin (a := 100) (by decide) (by omega)]
        exact h
  refine t_Wishes_comesBest (x_bg (by omega) hx (fun M1 f1 s1 g1 _ => u_Wishes_comesBest_11 (loop 100 0 M1 (by omega) f1 s1 ⟨f 1 p, by rw [upf_id]; exact g1.cr, by rw [upf_id]; exact g1.cc⟩)))
end E25
