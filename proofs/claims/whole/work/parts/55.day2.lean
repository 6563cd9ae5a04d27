/-! ===== the class's day: its methods ===== -/
def upf (f : Nat → Nat → Nat) (w p v : Nat) : Nat → Nat → Nat := fun a b => if a = w ∧ b = p then v else f a b
theorem n_ix {w p : Nat} (h : w * 15 + p < 2 ^ 31) : (nI w * 15 + nI p).toNatClampNeg = w * 15 + p := by
  rw [show (15 : Int32) = nI 15 from rfl, n_mul, nI_add, n_cl h]
theorem n_ixv {w p : Nat} (h : w * 15 + p < 75) : vp_in (nI w * 15 + nI p) 75 := by
  rw [show (15 : Int32) = nI 15 from rfl, n_mul, nI_add, n_vp (by omega)]; exact h
theorem crw.set {c nu n w p v : Nat} {f : Nat → Nat → Nat} {M : AM} (h : crw c nu n f M) (hne : nu ≠ c) (hw : w < 5) (hp : p < n) : crw c nu n (upf f w p v) (am_wi M nu (w * 15 + p) (nI v)) := by
  have hn := h.2.1
  refine ⟨by rw [wi_ne hne.symm]; exact h.1, h.2.1, fun a b ha hb => ?_⟩
  rw [wi_rd, if_pos rfl]
  unfold upf
  by_cases e : a = w ∧ b = p
  · obtain ⟨rfl, rfl⟩ := e
    rw [if_pos rfl, if_pos ⟨rfl, rfl⟩]
  · rw [if_neg e, if_neg (fun z => e (by omega))]
    exact h.2.2 a b ha hb
theorem thrN_congr {n : Nat} {f g : Nat → Nat → Nat} {s : Nat} (h : ∀ p, p < n → f 1 p = g 1 p ∧ f 2 p = g 2 p) : thrN n f s = thrN n g s := by
  funext p
  unfold thrN thr
  by_cases hp : p < n
  · rw [(h p hp).1, (h p hp).2]
  · simp [hp]
theorem cch.congr {c th n : Nat} {f g : Nat → Nat → Nat} {M M' : AM} (h : cch c th n f M) (h3 : M'.1 c 3 = M.1 c 3) (ht : M'.1 th = M.1 th) (hf : ∀ p, p < n → f 1 p = g 1 p ∧ f 2 p = g 2 p) : cch c th n g M' := by
  unfold cch at h ⊢
  have e : ∀ s, thrN n f s = thrN n g s := fun s => thrN_congr hf
  simp only [e] at h
  rw [h3, ht]
  exact h
/-- the sum of what one gives over the first n -/
def sm (g : Nat → Nat) : Nat → Nat
  | 0 => 0
  | n + 1 => sm g n + g n
theorem sm_le {g : Nat → Nat} {b : Nat} : ∀ {n : Nat}, (∀ p, p < n → g p ≤ b) → sm g n ≤ b * n
  | 0, _ => by simp [sm]
  | n + 1, h => by
    have h1 := sm_le (n := n) (fun p hp => h p (by omega))
    have h2 := h n (by omega)
    rw [sm, Nat.mul_succ]
    omega
/-- the greatest of what one gives over the first n -/
def mx (g : Nat → Nat) : Nat → Nat
  | 0 => 0
  | n + 1 => max (mx g n) (g n)
theorem mx_le {g : Nat → Nat} {b : Nat} : ∀ {n : Nat}, (∀ p, p < n → g p ≤ b) → mx g n ≤ b
  | 0, _ => Nat.zero_le _
  | n + 1, h => by
    have h1 := mx_le (n := n) (fun p hp => h p (by omega))
    have h2 := h n (by omega)
    rw [mx]
    omega
def ein : Nat → Nat → Bool := fun n q => decide (q < n)
def nob : Nat → Option Nat := fun _ => none
section SE
variable {L : Nat} {xs : Nat → Int32} {d : Nat} {Q : AQ} {M : AM} {N : Nat} {f : Nat → Nat → Nat} {T : (Nat → Int32) → Int32} {C : Nat → Bool} {io : Nat → Option Nat}
theorem dayX.cr (h : dayX N f C io M) : crw 16 17 N f M := h.1
theorem dayX.cc (h : dayX N f C io M) : cch 16 18 N f M := h.2.1
theorem s_again (hd : 2 ≤ d) (h1 : crw 16 17 N f M) (h2 : cch 16 18 N f M) (k : ∀ M', fr [15, 19] M M' → dayX N f C nob M' → M'.1 15 6 = nI 0 → Q none M') : am_Call (gG L xs) d c_Day_again [.ref 15, .int (sI C)] M Q := by
  obtain ⟨d, rfl⟩ : ∃ e, d = e + 2 := ⟨d - 2, by omega⟩
  refine t_Day_again (s_fillI rfl (by decide) (u_Day_again_29 (k _ ?_ ⟨?_, ?_, ?_, ?_, fun p hp => ?_⟩ ?_)))
  · exact ((((fr.rf.wi (by decide)).wi (by decide)).wi (by decide)).wi (by decide)).fl (by decide)
  · exact h1.fr (by rw [fl_rd, if_neg (by decide), wi_ne (by decide), wi_ne (by decide), wi_ne (by decide), wi_ne (by decide)]) (by funext j; rw [fl_rd, if_neg (by decide), wi_ne (by decide), wi_ne (by decide), wi_ne (by decide), wi_ne (by decide)])
  · refine h2.congr ?_ ?_ (fun _ _ => ⟨rfl, rfl⟩)
    · rw [fl_rd, if_neg (by decide), wi_ne (by decide), wi_ne (by decide), wi_ne (by decide), wi_ne (by decide)]
    · funext j; rw [fl_rd, if_neg (by decide), wi_ne (by decide), wi_ne (by decide), wi_ne (by decide), wi_ne (by decide)]
  · rw [fl_rd, if_neg (by decide), wi_sl (by decide), wi_sl (by decide), wi_sl (by decide), wi_eq]
    exact sI_congr (fun p _ => by simp [nob])
  · rw [fl_rd, if_neg (by decide), wi_sl (by decide), wi_sl (by decide), wi_eq, ← sI_z]
    exact sI_congr (fun p _ => by simp [nob])
  · rw [fl_rd, if_pos rfl, if_pos hp]; rfl
  · rw [fl_rd, if_neg (by decide), wi_eq]; rfl
theorem s_begins (hd : 3 ≤ d) (h1 : crw 1 2 N f M) (k : ∀ M', fr [15, 16, 17, 19] M M' → dayX N f (ein N) nob M' → M'.1 15 6 = nI 0 → Q none M') : am_Call (gG L xs) d c_Day_begins [.ref 15, .ref 1] M Q := by
  obtain ⟨d, rfl⟩ : ∃ e, d = e + 3 := ⟨d - 3, by omega⟩
  refine t_Day_begins ?_
  have hn := h1.2.1
  generalize hM1 : am_wi (am_wi (am_cpi M 2 17 0 0 75) 16 1 ((am_cpi M 2 17 0 0 75).1 1 1)) 16 3 1 = M1
  have f1 : fr [15, 16, 17, 19] M M1 := by rw [← hM1]; exact ((fr.rf.cpi (by decide)).wi (by decide)).wi (by decide)
  have e1 : (am_cpi M 2 17 0 0 75).1 1 1 = nI N := by
    show am_ur M.1 17 (va_cpy (M.1 2) (M.1 17) 0 0 75) 1 1 = nI N
    rw [am_ur_ne (by decide)]; exact h1.1
  rw [show M1.1 1 1 = nI N from by rw [f1.i 1]; exact h1.1, sI_all hn]
  have r1 : crw 16 17 N f M1 := by
    refine ⟨?_, hn, fun w p hw hp => ?_⟩
    · rw [← hM1, wi_sl (by decide), wi_eq, e1]
    · rw [← hM1, wi_ne (by decide), wi_ne (by decide)]
      show am_ur M.1 17 (va_cpy (M.1 2) (M.1 17) 0 0 75) 17 (w * 15 + p) = _
      rw [am_ur_eq, pk_cpy_in (by omega) (by omega), Nat.sub_zero, Nat.zero_add]
      exact h1.2.2 w p hw hp
  refine s_again (C := ein N) (by omega) r1 (Or.inl (by rw [← hM1, wi_eq])) (fun M2 f2 x2 l2 => u_Day_begins_16 (k M2 (fr.tr f1 f2 (fun b hb => hb) (by decide)) x2 l2))
/-- a day again, one number of one being another -/
theorem s_againWith {w p v : Nat} (hd : 3 ≤ d) (h1 : crw 16 17 N f M) (h2 : cch 16 18 N f M) (hw : w < 5) (hp : p < N) (k : ∀ M', fr [15, 16, 17, 19] M M' → dayX N (upf f w p v) (ein N) nob M' → M'.1 15 6 = nI 0 → Q none M') : am_Call (gG L xs) d c_Day_againWith [.ref 15, .int (nI w), .int (nI p), .int (nI v)] M Q := by
  obtain ⟨d, rfl⟩ : ∃ e, d = e + 3 := ⟨d - 3, by omega⟩
  have hn := h1.2.1
  have r1 := h1.set (w := w) (p := p) (v := v) (by decide) hw hp
  have go : ∀ M1, fr [15, 16, 17, 19] M M1 → crw 16 17 N (upf f w p v) M1 → cch 16 18 N (upf f w p v) M1 → am_Call (gG L xs) (d + 2) c_Day_again [.ref 15, .int (((1 : Int32) <<< ((M1.1 16 1) &&& 31)) - 1)] M1 (fun r M' => v_Day_againWith L xs (d + 2) Q 21 [] (r.toList ++ []) M') := by
    intro M1 f1 q1 q2
    rw [q1.1, sI_all hn]
    exact s_again (C := ein N) (by omega) q1 q2 (fun M2 f2 x2 l2 => u_Day_againWith_21 (k M2 (fr.tr f1 f2 (fun b hb => hb) (by decide)) x2 l2))
  refine t_Day_againWith ⟨fun h => absurd h (nI_pos (by omega)), fun _ => ⟨fun h => absurd ((n_leI (a := 5) (by decide) (by omega)).mp h) (by omega), fun _ => ⟨fun h => absurd h (nI_pos (by omega)), fun _ => ⟨fun _ => ⟨n_ixv (by omega), fun hw1 => ?_, fun hw1 => ⟨fun hw2 => ?_, fun hw2 => ?_⟩⟩, fun h => absurd ?_ h⟩⟩⟩⟩
  · rw [n_ix (by omega)]
    exact go _ ((fr.rf.wi (by decide)).wi (by decide)) (r1.fr (by rw [wi_sl (by decide)]) (wi_ne (by decide))) (Or.inl wi_eq)
  · rw [n_ix (by omega)]
    have n1 : w ≠ 1 := fun e => hw1 (by rw [e]; rfl)
    have n2 : w ≠ 2 := fun e => hw2 (by rw [e]; rfl)
    refine go _ (fr.rf.wi (by decide)) r1 (h2.congr (by rw [wi_ne (by decide)]) (wi_ne (by decide)) (fun q _ => ?_))
    unfold upf
    rw [if_neg (fun z => n1 z.1.symm), if_neg (fun z => n2 z.1.symm)]
    exact ⟨rfl, rfl⟩
  · rw [n_ix (by omega)]
    exact go _ ((fr.rf.wi (by decide)).wi (by decide)) (r1.fr (by rw [wi_sl (by decide)]) (wi_ne (by decide))) (Or.inl wi_eq)
  · rw [h1.1]; exact nI_lt hp (by omega)
theorem sI_left {C : Nat → Bool} {io : Nat → Option Nat} (hN : N ≤ 15) (h : sI (fun p => C p && (io p).isNone) = 0) : ∀ p, p < N → C p = true → io p ≠ none := by
  intro p hp hC hi
  have := sI_0.mp h p (by omega)
  rw [hC, hi] at this
  cases this
theorem dlg_le {G : Nat → Bool} {pl : Nat} : ∀ s, dlg T N f C G pl s ≤ N
  | 0 => Nat.zero_le _
  | s + 1 => by
    have h1 := dlg_le (G := G) (pl := pl) s
    have h2 := cnt_le (wtg N f s (fun p => C p && !G p) (dgo T N f C G pl s)) N
    rw [dlg]
    omega
theorem noG_w {s : Nat} : wtg N f s (fun p => C p && !noG p) io = wtg N f s C io := wtg_congr (fun p _ => by simp [noG])
theorem s_runs {n pl : Nat} (hd : 5 ≤ d) (hX : dayX N f C nob M) (hok : okP N f) (hL : lawX T M) (hn : n < 2 ^ 20) (hpl : pl ≤ 5) (hlg : M.1 15 6 = nI 0)
    (k : ∀ M', fr dayK M M' → dayX N f C (dgo T N f C noG pl n) M' → M'.1 15 6 = nI (dlg T N f C noG pl n) → Q (some (.int (nI (cnt (fun p => (dgo T N f C noG pl n p).isSome) 15)))) M') :
    am_Call (gG L xs) d c_Day_runs [.ref 15, .int (nI n), .int (nI pl)] M Q := by
  obtain ⟨d, rfl⟩ : ∃ e, d = e + 5 := ⟨d - 5, by omega⟩
  have hN := hX.1.2.1
  have fin : ∀ M1, fr dayK M M1 → dayX N f C (dgo T N f C noG pl n) M1 → M1.1 15 6 = nI (dlg T N f C noG pl n) → am_Call (gG L xs) (d + 4) c_J_bitCount [.int (M1.1 15 4)] M1 (fun r M' => v_Day_runs L xs (d + 4) Q 38 [] (r.toList ++ []) M') := by
    intro M1 g1 g2 g3
    rw [g2.2.2.2.1]
    exact s_bitCount (u_Day_runs_38 (k M1 g1 g2 g3))
  have loop : ∀ j s M1, s + j = n → fr dayK M M1 → dayX N f C (dgo T N f C noG pl s) M1 → M1.1 15 6 = nI (dlg T N f C noG pl s) → v_Day_runs L xs (d + 4) Q 2 [(0, .ref 15), (1, .int (nI n)), (2, .int (nI pl)), (3, .int (nI s))] [] M1 := by
    intro j
    induction j with
    | zero =>
      intro s M1 hs g1 g2 g3
      have : s = n := by omega
      subst this
      exact u_Day_runs_2 ⟨fun _ => fin M1 g1 g2 g3, fun h => absurd (nI_le (Nat.le_refl _) (by omega)) h⟩
    | succ j ih =>
      intro s M1 hs g1 g2 g3
      refine u_Day_runs_2 ⟨fun h => absurd h (nI_ge (by omega) (by omega)), fun _ => ⟨fun h0 => ?_, fun h0 => ?_⟩⟩
      · rw [g2.2.2.1] at h0
        have hst := sI_left hN h0
        refine fin M1 g1 ?_ ?_
        · rw [dgo_stop (s := s) (s' := n) (by omega) hst]; exact g2
        · rw [dlg_stop (s := s) (s' := n) (by omega) hst]; exact g3
      · have hl := dlg_le (T := T) (N := N) (f := f) (C := C) (G := noG) (pl := pl) s
        rw [g2.2.2.1]
        refine s_opens (T := T) (C := C) (io := dgo T N f C noG pl s) (by omega) g2 hok (hL.dk g1) (by omega) hpl (fun p hp => ?_) g3 (by omega) (fun M2 f2 x2 e5 e6 => u_Day_runs_24 ?_)
        · simp only [Bool.and_eq_true, Option.isNone_iff_eq_none] at hp; exact hp
        · rw [nI_1]
          refine ih (s + 1) M2 (by omega) (fr.tr g1 f2 (fun b hb => hb) (fun b hb => hb)) ?_ ?_
          · rw [show dgo T N f C noG pl (s + 1) = dst T N f C noG pl s (dgo T N f C noG pl s) from rfl, dst_noG]; exact x2
          · rw [dlg, noG_w]; exact e6
  exact t_Day_runs (loop n 0 M (by omega) fr.rf hX hlg)
theorem s_till {n p : Nat} (hd : 6 ≤ d) (hX : dayX N f C nob M) (hok : okP N f) (hL : lawX T M) (hn : n < 2 ^ 20) (hp : p < N) (hlg : M.1 15 6 = nI 0)
    (k : ∀ M', fr dayK M M' → crw 16 17 N f M' → cch 16 18 N f M' → Q (some (.int (oI (dgo T N f C noG 5 n p)))) M') :
    am_Call (gG L xs) d c_Day_till [.ref 15, .int (nI p), .int (nI n)] M Q := by
  obtain ⟨d, rfl⟩ : ∃ e, d = e + 6 := ⟨d - 6, by omega⟩
  have hN := hX.1.2.1
  obtain ⟨o1, o2, o3, o4, o5, o6, o7⟩ := hok p hp
  have loop : ∀ j s M1, s + j = min n (f 1 p + f 2 p) → fr dayK M M1 → dayX N f C (dgo T N f C noG 5 s) M1 → M1.1 15 6 = nI (dlg T N f C noG 5 s) → v_Day_till L xs (d + 5) Q 41 [(0, .ref 15), (1, .int (nI p)), (3, .int (nI (min n (f 1 p + f 2 p)))), (4, .int (nI s))] [] M1 := by
    intro j
    induction j with
    | zero =>
      intro s M1 hs g1 g2 g3
      refine u_Day_till_41 ⟨fun _ => ⟨(n_vp (by omega)).mpr (by omega), ?_⟩, fun h => absurd (nI_le (by omega) (by omega)) h⟩
      rw [n_cl (by omega), g2.2.2.2.2 p (by omega)]
      have e : dgo T N f C noG 5 n p = dgo T N f C noG 5 s p := by
        by_cases h : s = n
        · rw [h]
        · exact dgo_gone (by omega) (by omega)
      rw [← e]
      exact k M1 g1 g2.1 g2.2.1
    | succ j ih =>
      intro s M1 hs g1 g2 g3
      refine u_Day_till_41 ⟨fun h => absurd h (nI_ge (by omega) (by omega)), fun _ => ⟨(n_vp (by omega)).mpr (by omega), fun h0 => ?_, fun h0 => ?_⟩⟩
      · rw [n_cl (by omega), g2.2.2.2.2 p (by omega)] at h0 ⊢
        have e : dgo T N f C noG 5 n p = dgo T N f C noG 5 s p := by
          cases hq : dgo T N f C noG 5 s p with
          | none => rw [hq] at h0; exact absurd rfl h0
          | some a => exact dgo_some (by omega) hq
        rw [← e]
        exact k M1 g1 g2.1 g2.2.1
      · have hl := dlg_le (T := T) (N := N) (f := f) (C := C) (G := noG) (pl := 5) s
        rw [g2.2.2.1]
        refine s_opens (T := T) (C := C) (io := dgo T N f C noG 5 s) (pl := 5) (by omega) g2 hok (hL.dk g1) (by omega) (by decide) (fun p hp => ?_) g3 (by omega) (fun M2 f2 x2 e5 e6 => u_Day_till_69 ?_)
        · simp only [Bool.and_eq_true, Option.isNone_iff_eq_none] at hp; exact hp
        · rw [nI_1]
          refine ih (s + 1) M2 (by omega) (fr.tr g1 f2 (fun b hb => hb) (fun b hb => hb)) ?_ ?_
          · rw [show dgo T N f C noG 5 (s + 1) = dst T N f C noG 5 s (dgo T N f C noG 5 s) from rfl, dst_noG]; exact x2
          · rw [dlg, noG_w]; exact e6
  have h1 : vp_in ((1 : Int32) * 15 + nI p) 75 ∧ M.1 17 (((1 : Int32) * 15 + nI p).toNatClampNeg) = nI (f 1 p) := hX.1.at (w := 1) (by decide) hp
  have h2 : vp_in ((2 : Int32) * 15 + nI p) 75 ∧ M.1 17 (((2 : Int32) * 15 + nI p).toNatClampNeg) = nI (f 2 p) := hX.1.at (w := 2) (by decide) hp
  refine t_Day_till ⟨fun h => absurd h (nI_pos (by omega)), fun _ => ⟨fun h => absurd h ?_, fun _ => ⟨h1.1, h2.1, ?_⟩⟩⟩
  · rw [hX.1.1]; exact nI_ge hp (by omega)
  · rw [h1.2, h2.2, nI_add, n_imin (by omega) (by omega)]
    exact loop (min n (f 1 p + f 2 p)) 0 M (Nat.zero_add _) fr.rf hX hlg
theorem s_twoGates {n : Nat} {G : Nat → Bool} (hd : 5 ≤ d) (hX : dayX N f C nob M) (hok : okP N f) (hL : lawX T M) (hn : n < 2 ^ 20) (hlg : ∃ lg, M.1 15 6 = nI lg ∧ lg ≤ 15)
    (k : ∀ M', fr dayK M M' → dayX N f C (dgo T N f C G 5 n) M' → Q (some (.int (nI (cnt (fun p => (dgo T N f C G 5 n p).isSome) 15)))) M') :
    am_Call (gG L xs) d c_Day_twoGates [.ref 15, .int (sI G), .int (nI n)] M Q := by
  obtain ⟨d, rfl⟩ : ∃ e, d = e + 5 := ⟨d - 5, by omega⟩
  have hN := hX.1.2.1
  have fin : ∀ M1, fr dayK M M1 → dayX N f C (dgo T N f C G 5 n) M1 → am_Call (gG L xs) (d + 4) c_J_bitCount [.int (M1.1 15 4)] M1 (fun r M' => v_Day_twoGates L xs (d + 4) Q 55 [] (r.toList ++ []) M') := by
    intro M1 g1 g2
    rw [g2.2.2.2.1]
    exact s_bitCount (u_Day_twoGates_55 (k M1 g1 g2))
  have loop : ∀ j s M1, s + j = n → fr dayK M M1 → dayX N f C (dgo T N f C G 5 s) M1 → (∃ lg, M1.1 15 6 = nI lg ∧ lg ≤ 15) → v_Day_twoGates L xs (d + 4) Q 2 [(0, .ref 15), (1, .int (sI G)), (2, .int (nI n)), (3, .int (nI s))] [] M1 := by
    intro j
    induction j with
    | zero =>
      intro s M1 hs g1 g2 g3
      have : s = n := by omega
      subst this
      exact u_Day_twoGates_2 ⟨fun _ => fin M1 g1 g2, fun h => absurd (nI_le (Nat.le_refl _) (by omega)) h⟩
    | succ j ih =>
      intro s M1 hs g1 g2 g3
      refine u_Day_twoGates_2 ⟨fun h => absurd h (nI_ge (by omega) (by omega)), fun _ => ⟨fun h0 => ?_, fun h0 => ?_⟩⟩
      · rw [g2.2.2.1] at h0
        have hst := sI_left hN h0
        refine fin M1 g1 ?_
        rw [dgo_stop (s := s) (s' := n) (by omega) hst]; exact g2
      · obtain ⟨lg, g3, g4⟩ := g3
        rw [g2.2.2.1, sI_andn]
        refine s_opens (T := T) (C := C) (io := dgo T N f C G 5 s) (pl := 5) (by omega) g2 hok (hL.dk g1) (by omega) (by decide) (fun p hp => ?_) g3 (by omega) (fun M2 f2 x2 e5 e6 => u_Day_twoGates_28 ?_)
        · simp only [Bool.and_eq_true, Option.isNone_iff_eq_none] at hp; exact hp.1
        · have hW1 : (fun p => thrN N f s p && (C p && (dgo T N f C G 5 s p).isNone && !G p)) = wtg N f s (fun p => C p && !G p) (dgo T N f C G 5 s) := by
            funext p
            show (thrN N f s p && (C p && (dgo T N f C G 5 s p).isNone && !G p)) = (thrN N f s p && ((C p && !G p) && (dgo T N f C G 5 s p).isNone))
            cases C p <;> cases G p <;> simp
          rw [hW1] at x2 e6
          have hc1 := cnt_le (wtg N f s (fun p => C p && !G p) (dgo T N f C G 5 s)) N
          rw [x2.2.2.1, sI_and]
          refine s_opens (T := T) (C := C) (pl := 4) (by omega) x2 hok (hL.dk (fr.tr g1 f2 (fun b hb => hb) (fun b hb => hb))) (by omega) (by decide) (fun p hp => ?_) e6 (by omega) (fun M3 f3 x3 e5 e7 => u_Day_twoGates_41 ?_)
          · simp only [Bool.and_eq_true, Option.isNone_iff_eq_none] at hp; exact hp.1
          · rw [nI_1]
            have hW2 : (fun p => thrN N f s p && (C p && (upo (dgo T N f C G 5 s) (pck T f s 5 N (wtg N f s (fun p => C p && !G p) (dgo T N f C G 5 s))) s p).isNone && G p)) = wtg N f s (fun p => C p && G p) (dgo T N f C G 5 s) := by
              funext p
              have hu : G p = true → upo (dgo T N f C G 5 s) (pck T f s 5 N (wtg N f s (fun p => C p && !G p) (dgo T N f C G 5 s))) s p = dgo T N f C G 5 s p := by
                intro hG
                rw [upo_at, if_neg (fun e => ?_)]
                have := (wtg_t (pck_some e).2).2.2.1
                rw [hG] at this
                simp at this
              show (thrN N f s p && (C p && (upo (dgo T N f C G 5 s) (pck T f s 5 N (wtg N f s (fun p => C p && !G p) (dgo T N f C G 5 s))) s p).isNone && G p)) = (thrN N f s p && ((C p && G p) && (dgo T N f C G 5 s p).isNone))
              cases hG : G p with
              | false => simp
              | true => rw [hu hG]; cases C p <;> simp
            rw [hW2] at x3 e7
            have hc2 := cnt_le (wtg N f s (fun p => C p && G p) (dgo T N f C G 5 s)) N
            exact ih (s + 1) M3 (by omega) (fr.tr (fr.tr g1 f2 (fun b hb => hb) (fun b hb => hb)) f3 (fun b hb => hb) (fun b hb => hb)) x3 ⟨_, e7, by omega⟩
  exact t_Day_twoGates (loop n 0 M (by omega) fr.rf hX hlg)
end SE
