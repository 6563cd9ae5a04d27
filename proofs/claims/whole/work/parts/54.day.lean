/-! ===== a day in thought ===== -/
theorem lawX.keep {T : (Nat → Int32) → Int32} {M M' : AM} (h : lawX T M) (h4 : M'.1 4 2 = M.1 4 2) (h5 : M'.1 5 = M.1 5) (h6 : M'.1 6 = M.1 6) : lawX T M' := by
  obtain ⟨sz, q1, q2, q3, q4⟩ := h
  refine ⟨sz, by rw [h4]; exact q1, q2, fun i hi h => ?_, fun nm => ?_⟩
  · rw [h6]; exact q3 i hi (by rw [← h5]; exact h)
  · rw [h5, h6]; exact q4 nm
/-- who of a set waits at a stroke -/
def wtg (N : Nat) (f : Nat → Nat → Nat) (s : Nat) (C : Nat → Bool) (io : Nat → Option Nat) : Nat → Bool := fun p => thrN N f s p && (C p && (io p).isNone)
def upo (io : Nat → Option Nat) (who : Option Nat) (s : Nat) : Nat → Option Nat := match who with
  | none => io
  | some k => fun p => if p = k then some s else io p
/-- a stroke at two gates -/
def dst (T : (Nat → Int32) → Int32) (N : Nat) (f : Nat → Nat → Nat) (C G : Nat → Bool) (pl s : Nat) (io : Nat → Option Nat) : Nat → Option Nat :=
  upo (upo io (pck T f s pl N (wtg N f s (fun p => C p && !G p) io)) s) (pck T f s 4 N (wtg N f s (fun p => C p && G p) io)) s
/-- a day as far as a stroke: who is in since when -/
def dgo (T : (Nat → Int32) → Int32) (N : Nat) (f : Nat → Nat → Nat) (C G : Nat → Bool) (pl : Nat) : Nat → Nat → Option Nat
  | 0 => fun _ => none
  | s + 1 => dst T N f C G pl s (dgo T N f C G pl s)
def noG : Nat → Bool := fun _ => false
/-- the most that waited at the first gate -/
def dlg (T : (Nat → Int32) → Int32) (N : Nat) (f : Nat → Nat → Nat) (C G : Nat → Bool) (pl : Nat) : Nat → Nat
  | 0 => 0
  | s + 1 => max (dlg T N f C G pl s) (cnt (wtg N f s (fun p => C p && !G p) (dgo T N f C G pl s)) N)
section PD
variable {T : (Nat → Int32) → Int32} {N : Nat} {f : Nat → Nat → Nat} {C G : Nat → Bool} {pl s : Nat} {io : Nat → Option Nat}
theorem pck_z {W : Nat → Bool} (h : ∀ p, p < N → W p = false) : pck T f s pl N W = none := by
  unfold pck
  rw [cnt_z h, ixp, if_pos rfl]
theorem wtg_congr {C' : Nat → Bool} (h : ∀ p, p < N → C p = C' p) : wtg N f s C io = wtg N f s C' io := by
  funext p
  unfold wtg thrN
  by_cases hp : p < N
  · rw [h p hp]
  · simp [hp]
theorem wtg_io {io' : Nat → Option Nat} (h : ∀ p, p < N → C p = true → (io p).isNone = (io' p).isNone) : wtg N f s C io = wtg N f s C io' := by
  funext p
  unfold wtg thrN
  by_cases hp : p < N
  · cases hC : C p with
    | false => simp
    | true => rw [h p hp hC]
  · simp [hp]
theorem upo_at {w : Option Nat} {p : Nat} : upo io w s p = if w = some p then some s else io p := by
  cases w with
  | none => simp [upo]
  | some k =>
    simp only [upo, Option.some.injEq]
    by_cases h : p = k
    · rw [if_pos h, if_pos h.symm]
    · rw [if_neg h, if_neg (fun z => h z.symm)]
theorem wtg_t {p : Nat} (h : wtg N f s C io p = true) : p < N ∧ thr f s p = true ∧ C p = true ∧ io p = none := by
  unfold wtg thrN at h
  simp only [Bool.and_eq_true, decide_eq_true_eq, Option.isNone_iff_eq_none] at h
  exact ⟨h.1.1, h.1.2, h.2.1, h.2.2⟩
/-- what a stroke does to one -/
theorem dst_cases (p : Nat) : (dst T N f C G pl s io p = io p) ∨ (io p = none ∧ dst T N f C G pl s io p = some s ∧ p < N ∧ thr f s p = true ∧ C p = true) := by
  unfold dst
  rw [upo_at, upo_at]
  by_cases h2 : pck T f s 4 N (wtg N f s (fun p => C p && G p) io) = some p
  · have hw := wtg_t (pck_some h2).2
    rw [if_pos h2]
    simp only [Bool.and_eq_true] at hw
    exact Or.inr ⟨hw.2.2.2, rfl, hw.1, hw.2.1, hw.2.2.1.1⟩
  · rw [if_neg h2]
    by_cases h1 : pck T f s pl N (wtg N f s (fun p => C p && !G p) io) = some p
    · have hw := wtg_t (pck_some h1).2
      rw [if_pos h1]
      simp only [Bool.and_eq_true] at hw
      exact Or.inr ⟨hw.2.2.2, rfl, hw.1, hw.2.1, hw.2.2.1.1⟩
    · rw [if_neg h1]; exact Or.inl rfl
theorem dst_some {p a : Nat} (h : io p = some a) : dst T N f C G pl s io p = some a := by
  rcases dst_cases (T := T) (N := N) (f := f) (C := C) (G := G) (pl := pl) (s := s) (io := io) p with e | e
  · rw [e, h]
  · rw [h] at e; cases e.1
theorem dst_idle (h : ∀ p, p < N → C p = true → io p = none → thr f s p = false) : dst T N f C G pl s io = io := by
  funext p
  rcases dst_cases (T := T) (N := N) (f := f) (C := C) (G := G) (pl := pl) (s := s) (io := io) p with e | e
  · exact e
  · have := h p e.2.2.1 e.2.2.2.2 e.1
    rw [this] at e; cases e.2.2.2.1
theorem dgo_some {p a : Nat} : ∀ {s s' : Nat}, s ≤ s' → dgo T N f C G pl s p = some a → dgo T N f C G pl s' p = some a := by
  intro s s' h
  induction s' with
  | zero => intro h1; have : s = 0 := by omega
            subst this; exact h1
  | succ s' ih =>
    intro h1
    by_cases e : s = s' + 1
    · rw [← e]; exact h1
    · exact dst_some (ih (by omega) h1)
theorem dgo_lt {p a : Nat} : ∀ {s : Nat}, dgo T N f C G pl s p = some a → a < s ∧ p < N ∧ thr f a p = true ∧ C p = true
  | 0, h => by cases h
  | s + 1, h => by
    rcases dst_cases (T := T) (N := N) (f := f) (C := C) (G := G) (pl := pl) (s := s) (io := dgo T N f C G pl s) p with e | e
    · have h2 : dgo T N f C G pl s p = some a := by rw [← e]; exact h
      have := dgo_lt h2
      exact ⟨by omega, this.2⟩
    · have h2 : dgo T N f C G pl (s + 1) p = some s := e.2.1
      rw [h2] at h
      cases h
      exact ⟨by omega, e.2.2⟩
/-- one who isn't in when a later stroke comes, wasn't in before -/
theorem dgo_none {p : Nat} {s s' : Nat} (h : s ≤ s') (h1 : dgo T N f C G pl s' p = none) : dgo T N f C G pl s p = none := by
  cases e : dgo T N f C G pl s p with
  | none => rfl
  | some a => rw [dgo_some h e] at h1; cases h1
/-- nobody is left: nothing more changes -/
theorem dgo_stop {s s' : Nat} (h : s ≤ s') (h1 : ∀ p, p < N → C p = true → dgo T N f C G pl s p ≠ none) : dgo T N f C G pl s' = dgo T N f C G pl s := by
  induction s' with
  | zero => have : s = 0 := by omega
            subst this; rfl
  | succ s' ih =>
    by_cases e : s = s' + 1
    · rw [e]
    · have := ih (by omega)
      rw [show dgo T N f C G pl (s' + 1) = dst T N f C G pl s' (dgo T N f C G pl s') from rfl, this]
      exact dst_idle (fun p hp hC hn => absurd hn (h1 p hp hC))
theorem dlg_stop {s s' : Nat} (h : s ≤ s') (h1 : ∀ p, p < N → C p = true → dgo T N f C G pl s p ≠ none) : dlg T N f C G pl s' = dlg T N f C G pl s := by
  induction s' with
  | zero => have : s = 0 := by omega
            subst this; rfl
  | succ s' ih =>
    by_cases e : s = s' + 1
    · rw [e]
    · have := ih (by omega)
      rw [dlg, this, dgo_stop (by omega) h1, cnt_z (fun p hp => ?_)]
      · exact Nat.max_eq_left (Nat.zero_le _)
      · cases hw : wtg N f s' (fun p => C p && !G p) (dgo T N f C G pl s) p with
        | false => rfl
        | true =>
          have := wtg_t hw
          simp only [Bool.and_eq_true] at this
          exact absurd this.2.2.2 (h1 p hp this.2.2.1.1)
/-- one who is gone comes in no more -/
theorem dgo_gone {p : Nat} {s s' : Nat} (h : s ≤ s') (h1 : f 1 p + f 2 p ≤ s) : dgo T N f C G pl s' p = dgo T N f C G pl s p := by
  induction s' with
  | zero => have : s = 0 := by omega
            subst this; rfl
  | succ s' ih =>
    by_cases e : s = s' + 1
    · rw [e]
    · have h2 := ih (by omega)
      rcases dst_cases (T := T) (N := N) (f := f) (C := C) (G := G) (pl := pl) (s := s') (io := dgo T N f C G pl s') p with e | e
      · rw [show dgo T N f C G pl (s' + 1) = dst T N f C G pl s' (dgo T N f C G pl s') from rfl, e, h2]
      · have := e.2.2.2.1
        unfold thr at this
        simp only [Bool.and_eq_true, decide_eq_true_eq] at this
        omega
theorem dst_congr {C' G' : Nat → Bool} (h : ∀ p, p < N → C p = C' p ∧ G p = G' p) : dst T N f C G pl s io = dst T N f C' G' pl s io := by
  unfold dst
  rw [wtg_congr (C := fun p => C p && !G p) (C' := fun p => C' p && !G' p) (fun p hp => by rw [(h p hp).1, (h p hp).2]), wtg_congr (C := fun p => C p && G p) (C' := fun p => C' p && G' p) (fun p hp => by rw [(h p hp).1, (h p hp).2])]
theorem dgo_congr {C' G' : Nat → Bool} (h : ∀ p, p < N → C p = C' p ∧ G p = G' p) : ∀ s, dgo T N f C G pl s = dgo T N f C' G' pl s
  | 0 => rfl
  | s + 1 => by rw [dgo, dgo, dgo_congr h s, dst_congr h]
theorem dst_noG : dst T N f C noG pl s io = upo io (pck T f s pl N (wtg N f s C io)) s := by
  have h2 : pck T f s 4 N (wtg N f s (fun p => C p && noG p) io) = none := pck_z (fun p _ => by simp [wtg, noG])
  have h1 : (fun p => C p && !noG p) = C := by funext p; simp [noG]
  unfold dst
  rw [h2, h1]; rfl
end PD
theorem oI_eq {o : Option Nat} (h : ∀ a, o = some a → a < 2 ^ 30) : oI o = -2 ↔ o = none := by
  cases o with
  | none => exact ⟨fun _ => rfl, fun _ => rfl⟩
  | some a =>
    have := h a rfl
    refine ⟨fun e => ?_, fun e => by cases e⟩
    exact absurd (show nI a < 0 by rw [show nI a = -2 from e]; decide) (nI_pos (by omega))
/-- the class's day -/
def dayX (N : Nat) (f : Nat → Nat → Nat) (C : Nat → Bool) (io : Nat → Option Nat) (M : AM) : Prop :=
  crw 16 17 N f M ∧ cch 16 18 N f M ∧ M.1 15 3 = sI (fun p => C p && (io p).isNone) ∧ M.1 15 4 = sI (fun p => (io p).isSome) ∧ ∀ p, p < 15 → M.1 19 p = oI (io p)
abbrev dayK : List Nat := [7, 13, 14, 15, 16, 18, 19]
section SD
variable {L : Nat} {xs : Nat → Int32} {d : Nat} {Q : AQ} {M : AM} {N : Nat} {f : Nat → Nat → Nat} {T : (Nat → Int32) → Int32} {C : Nat → Bool} {io : Nat → Option Nat}
theorem lawX.dk {M' : AM} (h : lawX T M) (hf : fr dayK M M') : lawX T M' := h.keep (by rw [hf.i 4]) (hf.i 5) (hf.i 6)
theorem n_imax {a b : Nat} (ha : a < 2 ^ 31) (hb : b < 2 ^ 31) : imax (nI a) (nI b) = nI (max a b) := by
  unfold imax
  by_cases h : a < b
  · rw [if_pos ((n_ltI ha hb).mpr h), Nat.max_eq_right (by omega)]
  · rw [if_neg (fun z => h ((n_ltI ha hb).mp z)), Nat.max_eq_left (by omega)]
theorem n_imin {a b : Nat} (ha : a < 2 ^ 31) (hb : b < 2 ^ 31) : imin (nI a) (nI b) = nI (min a b) := by
  unfold imin
  by_cases h : b < a
  · rw [if_pos ((n_ltI hb ha).mpr h), Nat.min_eq_right (by omega)]
  · rw [if_neg (fun z => h ((n_ltI hb ha).mp z)), Nat.min_eq_left (by omega)]
theorem s_opens {s pl lg : Nat} {A : Nat → Bool} (hd : 4 ≤ d) (hX : dayX N f C io M) (hok : okP N f) (hL : lawX T M) (hs : s < 2 ^ 30) (hpl : pl ≤ 5) (hA : ∀ p, A p = true → C p = true ∧ io p = none) (hlg : M.1 15 6 = nI lg) (hlg2 : lg < 2 ^ 30)
    (k : ∀ M', fr dayK M M' → dayX N f C (upo io (pck T f s pl N (fun p => thrN N f s p && A p)) s) M' → M'.1 15 5 = nI (cnt (fun p => thrN N f s p && A p) N) → M'.1 15 6 = nI (max lg (cnt (fun p => thrN N f s p && A p) N)) → Q (some (.int (oM (pck T f s pl N (fun p => thrN N f s p && A p))))) M') :
    am_Call (gG L xs) d c_Day_opens [.ref 15, .int (nI s), .int (sI A), .int (nI pl)] M Q := by
  obtain ⟨d, rfl⟩ : ∃ e, d = e + 4 := ⟨d - 4, by omega⟩
  obtain ⟨h1, h2, h3, h4, h5⟩ := hX
  have hn := h1.2.1
  generalize hW : (fun p => thrN N f s p && A p) = W at k
  have hWN : ∀ p, W p = true → p < N := fun p h => by
    rw [← hW] at h
    simp only [thrN, Bool.and_eq_true, decide_eq_true_eq] at h
    exact h.1.1
  have hcw : cnt W 15 = cnt W N := cnt_up hn (fun p h1 _ => by
    cases e : W p with
    | false => rfl
    | true => exact absurd (hWN p e) (by omega))
  refine t_Day_opens (s_waiting (by omega) isCr2 ⟨by decide, by decide, by decide⟩ h1 hok h2 hs (fun M1 f1 g1 c1 => ?_))
  rw [hW]
  refine u_Day_opens_9 (s_bitCount ?_)
  rw [hcw]
  refine u_Day_opens_17 ?_
  rw [f1.i 15, hlg, n_imax (by omega) (by have := cnt_le W N; omega)]
  have f2 : fr dayK M (am_wi (am_wi M1 15 5 (nI (cnt W N))) 15 6 (nI (max lg (cnt W N)))) := ((f1.to (by decide)).wi (by decide)).wi (by decide)
  have r1 : crw 16 17 N f M1 := h1.fr g1 (f1.i 17)
  have r2 : crw 16 17 N f (am_wi (am_wi M1 15 5 (nI (cnt W N))) 15 6 (nI (max lg (cnt W N)))) := r1.fr (by rw [wi_ne (by decide), wi_ne (by decide)]) (by rw [wi_ne (by decide), wi_ne (by decide)])
  refine s_picks (by omega) isCr2 ⟨by decide, by decide⟩ r2 (hL.dk f2) hWN hpl (fun M3 f3 => ?_)
  have f4 : fr dayK M M3 := fr.tr f2 f3 (fun b hb => hb) (by decide)
  have e5 : M3.1 15 5 = nI (cnt W N) := by rw [f3.i 15, wi_sl (by decide), wi_eq]
  have e6 : M3.1 15 6 = nI (max lg (cnt W N)) := by rw [f3.i 15, wi_eq]
  have e3 : M3.1 15 3 = sI (fun p => C p && (io p).isNone) := by rw [f3.i 15, wi_sl (by decide), wi_sl (by decide), f1.i 15]; exact h3
  have e4 : M3.1 15 4 = sI (fun p => (io p).isSome) := by rw [f3.i 15, wi_sl (by decide), wi_sl (by decide), f1.i 15]; exact h4
  have r3 : crw 16 17 N f M3 := r2.fr (by rw [f3.i 16]) (f3.i 17)
  have c3 : cch 16 18 N f M3 := by
    unfold cch at c1 ⊢
    rw [f3.i 16, f3.i 18, wi_ne (by decide), wi_ne (by decide), wi_ne (by decide), wi_ne (by decide)]
    exact c1
  have i3 : ∀ p, p < 15 → M3.1 19 p = oI (io p) := fun p hp => by rw [f3.i 19, wi_ne (by decide), wi_ne (by decide), f1.i 19]; exact h5 p hp
  cases hp : pck T f s pl N W with
  | none =>
    rw [hp] at k
    refine u_Day_opens_50 ⟨fun _ => ?_, fun h => absurd (by decide) h⟩
    exact k M3 f4 ⟨r3, c3, e3, e4, i3⟩ e5 e6
  | some p =>
    rw [hp] at k
    obtain ⟨hpN, hpW⟩ := pck_some hp
    have hpA : A p = true := by rw [← hW] at hpW; simp only [Bool.and_eq_true] at hpW; exact hpW.2
    obtain ⟨hpC, hpi⟩ := hA p hpA
    refine u_Day_opens_50 ⟨fun h => absurd h (nI_pos (by omega)), fun _ => ⟨fun h => absurd h ?_, fun _ => ⟨(n_vp (by omega)).mpr (by omega), ?_⟩⟩⟩
    · rw [r3.1, show oM (some p) = nI p from rfl, n_leI (by omega) (by omega)]; omega
    · rw [show oM (some p) = nI p from rfl, n_cl (by omega), e4, e3, sI_one (by omega), sI_or, sI_andn]
      refine k _ (((f4.wi (by decide)).wi (by decide)).wi (by decide)) ⟨r3.fr (by rw [wi_ne (by decide), wi_ne (by decide), wi_ne (by decide)]) (by rw [wi_ne (by decide), wi_ne (by decide), wi_ne (by decide)]), ?_, ?_, ?_, fun q hq => ?_⟩ (by rw [wi_sl (by decide), wi_sl (by decide), wi_ne (by decide)]; exact e5) (by rw [wi_sl (by decide), wi_sl (by decide), wi_ne (by decide)]; exact e6)
      · unfold cch at c3 ⊢
        rw [wi_ne (by decide), wi_ne (by decide), wi_ne (by decide), wi_ne (by decide), wi_ne (by decide), wi_ne (by decide)]
        exact c3
      · rw [wi_eq]
        refine sI_congr (fun q _ => ?_)
        rw [upo_at]
        by_cases e : q = p
        · subst e; simp
        · have : ¬ (some p = some q) := fun z => e (by cases z; rfl)
          rw [if_neg this]; simp [e]
      · rw [wi_sl (by decide), wi_eq]
        refine sI_congr (fun q _ => ?_)
        rw [upo_at]
        by_cases e : q = p
        · subst e; simp
        · have : ¬ (some p = some q) := fun z => e (by cases z; rfl)
          rw [if_neg this]; simp [e]
      · rw [wi_ne (by decide), wi_ne (by decide), wi_rd, if_pos rfl, upo_at]
        by_cases e : q = p
        · subst e; simp [oI]
        · have : ¬ (some p = some q) := fun z => e (by cases z; rfl)
          rw [if_neg this, if_neg e]; exact i3 q hq
end SD
