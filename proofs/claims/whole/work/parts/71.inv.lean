/-! ===== what ties the class to the reference between two calls ===== -/
def okV (w v : Nat) : Prop := (w = 0 → 100 ≤ v ∧ v ≤ 220) ∧ (w = 1 → v ≤ 99) ∧ (w = 2 → 1 ≤ v ∧ v ≤ 99) ∧ (w = 3 → v ≤ 20) ∧ (w = 4 → v ≤ 99)
def iP (n : Nat) (f : Nat → Nat → Nat) (M : AM) : Prop := crw 1 2 n f M ∧ cch 1 3 n f M ∧ n ≤ 12 ∧ okP n f ∧ M.1 40 6 = nI n ∧ pM n f M
def iL (T : PV) (M : AM) : Prop := lawX T M ∧ lawM T M
def iT (M : AM) : Prop := ∃ (e : Nat) (tp : Nat → Int32), e ≤ 120 ∧ M.1 8 1 = nI e ∧ M.1 40 11 = nI e ∧ (∀ k, k < e → M.1 9 k = tp k) ∧ ∀ k, k < e → M.1 46 k = tp k
def iC (n : Nat) (M : AM) : Prop := ∃ (dn kp : Nat) (p w b a : Nat → Nat), dn ≤ kp ∧ kp ≤ 40 ∧ M.1 32 5 = nI dn ∧ M.1 32 6 = nI kp ∧ M.1 40 5 = nI dn ∧ M.1 40 4 = nI kp ∧ ∀ i, i < kp → p i < n ∧ w i < 5 ∧ okV (w i) (b i) ∧ okV (w i) (a i) ∧ M.1 33 i = nI (p i) ∧ M.1 34 i = nI (w i) ∧ M.1 35 i = nI (b i) ∧ M.1 36 i = nI (a i) ∧ M.1 42 i = nI (5 * p i + w i) ∧ M.1 43 i = nI (b i) ∧ M.1 44 i = nI (a i)
def iD (n : Nat) (M : AM) : Prop := (∃ (nw : Nat) (io : Nat → Option Nat) (aw : Nat → Bool), nw ≤ 999 ∧ M.1 28 5 = nI nw ∧ M.1 40 7 = nI nw ∧ M.1 28 0 = M.1 40 31 ∧ M.1 28 1 = M.1 40 32 ∧ M.1 28 2 = M.1 40 33 ∧ M.1 28 3 = M.1 40 34 ∧ M.1 28 4 = M.1 40 35 ∧ M.1 28 6 = sI (fun p => (io p).isSome) ∧ M.1 28 7 = sI aw ∧ M.1 40 9 = sI aw ∧ (∀ p, n ≤ p → io p = none) ∧ (∀ p a, io p = some a → a < 1000) ∧ ∀ p, p < 12 → M.1 29 p = oI (io p) ∧ M.1 45 p = oI (io p)) ∧
  ∃ kb : Bool, M.1 27 6 = b2i kb ∧ M.1 40 36 = b2i kb ∧ (kb = true → ∃ (nw ip : Nat) (io : Nat → Option Nat) (aw : Nat → Bool), nw ≤ 999 ∧ ip ≤ n ∧ M.1 40 37 = nI ip ∧ M.1 30 5 = nI nw ∧ M.1 54 17 = nI nw ∧ M.1 30 0 = M.1 54 12 ∧ M.1 30 1 = M.1 54 13 ∧ M.1 30 2 = M.1 54 14 ∧ M.1 30 3 = M.1 54 15 ∧ M.1 30 4 = M.1 54 16 ∧ M.1 30 6 = sI (fun p => (io p).isSome) ∧ M.1 30 7 = sI aw ∧ M.1 40 38 = sI aw ∧ (∀ p, ip ≤ p → io p = none) ∧ (∀ p a, io p = some a → a < 1000) ∧ ∀ p, p < 12 → M.1 31 p = oI (io p) ∧ M.1 54 p = oI (io p))
def iA (bn : Nat) (M : AM) : Prop := bn ≤ 50 ∧ M.1 37 1 = nI bn ∧ M.1 40 40 = nI bn ∧ (∃ kd : Nat → Nat, ∀ i, i < bn → kd i < 8 ∧ M.1 38 i = nI (kd i) ∧ M.1 55 i = nI (kd i)) ∧ ∃ rn, rn < 2 ^ 20 ∧ M.1 37 3 = nI rn ∧ M.1 40 43 = nI rn ∧ ∀ i, i < rn → i < 24 → M.1 39 i = M.1 56 i
def iS (bn : Nat) (M : AM) : Prop := ∀ d, d < 6 → (M.1 57 d = -1 ∧ M.1 22 d = -1 ∧ M.1 23 d = -1) ∨ (∃ b, b < bn ∧ M.1 57 d = nI b ∧ M.1 22 d = nI b ∧ M.1 23 d = -1) ∨ ∃ s k, s < 5 ∧ k ≤ 60 ∧ M.1 57 d = nI (50 + s) ∧ M.1 22 d = -1 ∧ M.1 23 d = nI s ∧ M.1 24 d = nI k ∧ M.1 58 d = nI k ∧ ∀ i, i < k → M.2 25 (60 * d + i) = M.2 59 (60 * d + i) ∧ (s = 1 → ∃ z : Int32, M.2 59 (60 * d + i) = z.toInt64)
def Inv (M : AM) : Prop := ∃ (n : Nat) (f : Nat → Nat → Nat) (T : PV) (bn : Nat), iP n f M ∧ iL T M ∧ iT M ∧ iC n M ∧ iD n M ∧ iA bn M ∧ iS bn M ∧ M.1 40 23 = -1
def Jn (L : Nat) (xs : Nat → Int32) (d cx cm : Nat) (ax am : List Value) (M : AM) : Prop := am_Call (gG L xs) d cx ax M (fun r M1 => am_Call (gG L xs) d cm am M1 (fun r' M2 => ∃ v : Int32, r = some (.int v) ∧ r' = some (.int v) ∧ Inv M2))
def JnL (L : Nat) (xs : Nat → Int32) (d cx cm : Nat) (ax am : List Value) (M : AM) : Prop := am_Call (gG L xs) d cx ax M (fun r M1 => am_Call (gG L xs) d cm am M1 (fun r' M2 => ∃ v : Int64, r = some (.long v) ∧ r' = some (.long v) ∧ Inv M2))
theorem fs.of {K K' J : List Nat} {M M' : AM} (h : fr K M M') (h40 : 40 ∉ K) (hk : ∀ b ∈ K, b ∈ K') : fs K' J M M' := ⟨fun b hb _ => (h b (fun z => hb (hk b z))).1, fun j _ => by rw [(h 40 h40).1], fun b hb => (h b (fun z => hb (hk b z))).2⟩
section KP
variable {K J : List Nat} {M M' : AM} {n bn : Nat} {f : Nat → Nat → Nat} {T : PV}
theorem iL.keep (h : iL T M) (hf : fs K J M M') (hk : ∀ b ∈ [4, 5, 6, 47], b ∉ K) (hj : 13 ∉ J) : iL T M' := ⟨h.1.keep (by rw [hf.i 4 (hk 4 (by decide))]) (hf.i 5 (hk 5 (by decide))) (hf.i 6 (hk 6 (by decide))), h.2.keep (by rw [hf.j 13 hj]) (hf.i 47 (hk 47 (by decide)))⟩
theorem iT.keep (h : iT M) (hf : fs K J M M') (hk : ∀ b ∈ [8, 9, 46], b ∉ K) (hj : 11 ∉ J) : iT M' := by
  obtain ⟨e, tp, h1, h2, h3, h4, h5⟩ := h
  exact ⟨e, tp, h1, by rw [hf.i 8 (hk 8 (by decide))]; exact h2, by rw [hf.j 11 hj]; exact h3, fun k hq => by rw [hf.i 9 (hk 9 (by decide))]; exact h4 k hq, fun k hq => by rw [hf.i 46 (hk 46 (by decide))]; exact h5 k hq⟩
theorem iC.keep (h : iC n M) (hf : fs K J M M') (hk : ∀ b ∈ [32, 33, 34, 35, 36, 42, 43, 44], b ∉ K) (hj : ∀ j ∈ [4, 5], j ∉ J) : iC n M' := by
  obtain ⟨dn, kp, p, w, b, a, h1, h2, h3, h4, h5, h6, h7⟩ := h
  refine ⟨dn, kp, p, w, b, a, h1, h2, ?_, ?_, ?_, ?_, ?_⟩
  · rw [hf.i 32 (hk 32 (by decide))]; exact h3
  · rw [hf.i 32 (hk 32 (by decide))]; exact h4
  · rw [hf.j 5 (hj 5 (by decide))]; exact h5
  · rw [hf.j 4 (hj 4 (by decide))]; exact h6
  · rw [hf.i 33 (hk 33 (by decide)), hf.i 34 (hk 34 (by decide)), hf.i 35 (hk 35 (by decide)), hf.i 36 (hk 36 (by decide)), hf.i 42 (hk 42 (by decide)), hf.i 43 (hk 43 (by decide)), hf.i 44 (hk 44 (by decide))]; exact h7
theorem iC.more {n' : Nat} (h : iC n M) (hn : n ≤ n') : iC n' M := by
  obtain ⟨dn, kp, p, w, b, a, h1, h2, h3, h4, h5, h6, h7⟩ := h
  exact ⟨dn, kp, p, w, b, a, h1, h2, h3, h4, h5, h6, fun i hi => ⟨by have := (h7 i hi).1; omega, (h7 i hi).2⟩⟩
theorem iD.keep (h : iD n M) (hf : fs K J M M') (hk : ∀ b ∈ [27, 28, 29, 30, 31, 45, 54], b ∉ K) (hj : ∀ j ∈ [7, 9, 31, 32, 33, 34, 35, 36, 37, 38], j ∉ J) : iD n M' := by
  unfold iD at h ⊢
  rw [hf.i 27 (hk 27 (by decide)), hf.i 28 (hk 28 (by decide)), hf.i 29 (hk 29 (by decide)), hf.i 30 (hk 30 (by decide)), hf.i 31 (hk 31 (by decide)), hf.i 45 (hk 45 (by decide)), hf.i 54 (hk 54 (by decide)), hf.j 7 (hj 7 (by decide)), hf.j 9 (hj 9 (by decide)), hf.j 31 (hj 31 (by decide)), hf.j 32 (hj 32 (by decide)), hf.j 33 (hj 33 (by decide)), hf.j 34 (hj 34 (by decide)), hf.j 35 (hj 35 (by decide)), hf.j 36 (hj 36 (by decide)), hf.j 37 (hj 37 (by decide)), hf.j 38 (hj 38 (by decide))]
  exact h
theorem iD.more {n' : Nat} (h : iD n M) (hn : n ≤ n') : iD n' M := by
  obtain ⟨⟨nw, io, aw, h1, h2, h3, h4, h5, h6, h7, h8, h9, h10, h11, h12, h13⟩, kb, k1, k2, k3⟩ := h
  refine ⟨⟨nw, io, aw, h1, h2, h3, h4, h5, h6, h7, h8, h9, h10, h11, fun p hp => h12 p (by omega), h13⟩, kb, k1, k2, fun z => ?_⟩
  obtain ⟨nw, ip, io, aw, a1, a2, a3⟩ := k3 z
  exact ⟨nw, ip, io, aw, a1, by omega, a3⟩
theorem iA.keep (h : iA bn M) (hf : fs K J M M') (hk : ∀ b ∈ [37, 38, 39, 55, 56], b ∉ K) (hj : ∀ j ∈ [40, 43], j ∉ J) : iA bn M' := by
  unfold iA at h ⊢
  rw [hf.i 37 (hk 37 (by decide)), hf.i 38 (hk 38 (by decide)), hf.i 39 (hk 39 (by decide)), hf.i 55 (hk 55 (by decide)), hf.i 56 (hk 56 (by decide)), hf.j 40 (hj 40 (by decide)), hf.j 43 (hj 43 (by decide))]
  exact h
theorem iS.keep (h : iS bn M) (hf : fs K J M M') (hk : ∀ b ∈ [22, 23, 24, 25, 57, 58, 59], b ∉ K) : iS bn M' := by
  unfold iS at h ⊢
  rw [hf.i 22 (hk 22 (by decide)), hf.i 23 (hk 23 (by decide)), hf.i 24 (hk 24 (by decide)), hf.i 57 (hk 57 (by decide)), hf.i 58 (hk 58 (by decide)), hf.2.2 25 (hk 25 (by decide)), hf.2.2 59 (hk 59 (by decide))]
  exact h
theorem iP.keep (h : iP n f M) (hf : fs K J M M') (hk : ∀ b ∈ [1, 2, 3], b ∉ K) (hj : 6 ∉ J) (h41 : ∀ k, k < 5 * n → M'.1 41 k = M.1 41 k) : iP n f M' := by
  obtain ⟨h1, h2, h3, h4, h5, h6⟩ := h
  refine ⟨h1.fr (by rw [hf.i 1 (hk 1 (by decide))]) (hf.i 2 (hk 2 (by decide))), h2.congr (by rw [hf.i 1 (hk 1 (by decide))]) (hf.i 3 (hk 3 (by decide))) (fun _ _ => ⟨rfl, rfl⟩), h3, h4, by rw [hf.j 6 hj]; exact h5, h6.1, fun w k hw hk => ?_⟩
  rw [h41 _ (by omega)]
  exact h6.2 w k hw hk
end KP
abbrev qK : List Nat := [7, 13, 14, 15, 16, 17, 18, 19]
abbrev rK : List Nat := [41, 48, 49, 50, 51, 52, 53]
abbrev rJ : List Nat := [14, 15, 16, 17, 18, 20, 21, 22, 23, 27, 28]
abbrev zK : List Nat := [7, 13, 14, 15, 16, 17, 18, 19, 41, 48, 49, 50, 51, 52, 53]
theorem Inv.q {M M1 M2 : AM} (h : Inv M) (f1 : fr qK M M1) (f2 : fs rK rJ M1 M2) (h41 : ∀ n, M.1 40 6 = nI n → n ≤ 12 → ∀ k, k < 5 * n → M2.1 41 k = M1.1 41 k) (h23 : M2.1 40 23 = -1) : Inv M2 := by
  obtain ⟨n, f, T, bn, a1, a2, a3, a4, a5, a6, a7, a8⟩ := h
  have hf : fs zK rJ M M2 := fs.tr (fs.of (K' := zK) (J := rJ) f1 (by decide) (by decide)) f2 (by decide) (by decide) (by decide) (by decide)
  exact ⟨n, f, T, bn, a1.keep hf (by decide) (by decide) (fun k hk => by rw [h41 n a1.2.2.2.2.1 a1.2.2.1 k hk, f1.i 41]), a2.keep hf (by decide) (by decide), a3.keep hf (by decide) (by decide), a4.keep hf (by decide) (by decide), a5.keep hf (by decide) (by decide), a6.keep hf (by decide) (by decide), a7.keep hf (by decide), h23⟩
theorem n_ofI {x : Int32} (h : 0 ≤ x.toInt) : ∃ k : Nat, x = nI k ∧ (k : Int) = x.toInt ∧ k < 2 ^ 31 := by
  obtain ⟨k, h1, h2⟩ := nI_of (x := x) (by rw [Int32.lt_iff_toInt_lt]; show ¬ x.toInt < 0; omega)
  exact ⟨k, h2, by rw [h2, nI_toInt h1], h1⟩
theorem t_1 : (-1 : Int32).toInt = -1 := by decide
theorem cnt_is {N : Nat} {io : Nat → Option Nat} (hN : N ≤ 15) (h : ∀ p, N ≤ p → io p = none) : cnt (fun p => (io p).isSome) 15 = cnt (fun p => (io p).isSome) N := cnt_up hN (fun p h1 _ => by rw [h p h1]; rfl)
theorem dgo_out {T : PV} {N : Nat} {f : Nat → Nat → Nat} {C G : Nat → Bool} {pl s p : Nat} (h : N ≤ p) : dgo T N f C G pl s p = none := by
  cases z : dgo T N f C G pl s p with
  | none => rfl
  | some a => have := (dgo_lt z).2.1; omega
section J1
variable {L : Nat} {xs : Nat → Int32} {d : Nat} {M : AM} {x1 x2 x3 : Int32}
theorem Inv.k {M : AM} (h : Inv M) : ∃ v : Int32, some (Value.int (-1)) = some (Value.int v) ∧ some (Value.int (-1)) = some (Value.int v) ∧ Inv M := ⟨_, rfl, rfl, h⟩
theorem j_enters (h : Inv M) (hd : 100 ≤ d) : Jn L xs d c_Mo_enters c_Md_enters [.ref 0, .int x1, .int x2] [.ref 40, .int x1, .int x2] M := by
  have hI := h
  obtain ⟨n, f, T, bn, ⟨p1, p2, p3, p4, p5, p6⟩, hL, -, -, -, -, -, h23⟩ := h
  obtain ⟨d, rfl⟩ : ∃ a, d = a + 6 := ⟨d - 6, by omega⟩
  have e1 := p1.1
  have ept : (nI n - 1).toInt = (n : Int) - 1 := n_pt (by omega)
  unfold Jn
  by_cases hv : 0 ≤ x1.toInt ∧ x1.toInt < n ∧ 0 ≤ x2.toInt ∧ x2.toInt ≤ 100
  · obtain ⟨v1, v2, v3, v4⟩ := hv
    obtain ⟨p, rfl, hp, -⟩ := n_ofI v1
    obtain ⟨k, rfl, hk, -⟩ := n_ofI v3
    refine t_Mo_enters ?_
    ((try simp only [lg_cmp_lt, lg_cmp_gt]); simp (disch := omega) only [e1, Int64.lt_iff_toInt_lt, Int32.toInt_toInt64, Int64.reduceToInt, ← Int32.toInt_inj, Int32.lt_iff_toInt_lt, Int32.le_iff_toInt_le, Int32.reduceToInt, nI_toInt, false_implies, true_implies, and_true, true_and, not_true_eq_false, not_false_eq_true, forall_const, implies_true, false_and, and_false, true_or, or_true, eq_self])
    repeat' (first | (with_reducible refine And.intro ?_ ?_) | (with_reducible intro h; first | (exfalso; omega) | contradiction | skip))
    refine s_begins (by omega) p1 (fun M1 f1 g1 l1 => u_Mo_enters_31 (s_till (T := T) (by omega) g1 p4 (hL.1.keep (by rw [f1.i 4]) (f1.i 5) (f1.i 6)) (by omega) (by omega) l1 (fun M2 f2 _ _ => u_Mo_enters_40 ?_)))
    have f12 : fr qK M M2 := (f1.to (by decide)).tr (K := qK) f2 (fun b hb => hb) (by decide)
    have e6 : M2.1 40 6 = nI n := by rw [f12.i 40]; exact p5
    refine t_Md_enters ?_
    ((try simp only [lg_cmp_lt, lg_cmp_gt]); simp (disch := omega) only [e6, ept, Int64.lt_iff_toInt_lt, Int32.toInt_toInt64, Int64.reduceToInt, ← Int32.toInt_inj, Int32.lt_iff_toInt_lt, Int32.le_iff_toInt_le, Int32.reduceToInt, nI_toInt, false_implies, true_implies, and_true, true_and, not_true_eq_false, not_false_eq_true, forall_const, implies_true, false_and, and_false, true_or, or_true, eq_self])
    repeat' (first | (with_reducible refine And.intro ?_ ?_) | (with_reducible intro h; first | (exfalso; omega) | contradiction | skip))
    refine m_begins (by omega) e6 (p6.keep (f12.i 41)) (fun M3 f3 g3 l3 => u_Md_enters_22 ?_)
    refine m_goes (T := T) (pl := 5) (by omega) g3 p4 (hL.2.keep (by rw [f3.j 13, f12.i 40]) (by rw [f3.i 47, f12.i 47])) (by omega) (by decide) (by rw [f3.j 23, f12.i 40]; exact h23) l3 (fun M4 f4 g4 l4 => u_Md_enters_27 ⟨(n_vp (by omega)).mpr (by omega), ?_⟩)
    rw [n_cl (by omega), g4.2.2.2.2.2.2 p (by omega)]
    exact ⟨_, rfl, rfl, hI.q f12 ((f3.to (by decide) (by decide)).tt (f4.to (by decide) (by decide))) (fun _ _ _ k _ => by rw [f4.i 41, f3.i 41]) (by rw [f4.j 23, f3.j 23, f12.i 40]; exact h23)⟩
  · have B : am_Call (gG L xs) (d + 6) c_Md_enters [.ref 40, .int x1, .int x2] M (fun r' M2 => ∃ v : Int32, some (Value.int (-1)) = some (.int v) ∧ r' = some (.int v) ∧ Inv M2) := by
      refine t_Md_enters ?_
      ((try simp only [lg_cmp_lt, lg_cmp_gt]); simp (disch := omega) only [p5, ept, Int64.lt_iff_toInt_lt, Int32.toInt_toInt64, Int64.reduceToInt, ← Int32.toInt_inj, Int32.lt_iff_toInt_lt, Int32.le_iff_toInt_le, Int32.reduceToInt, nI_toInt, false_implies, true_implies, and_true, true_and, not_true_eq_false, not_false_eq_true, forall_const, implies_true, false_and, and_false, true_or, or_true, eq_self])
      repeat' (first | (with_reducible refine And.intro ?_ ?_) | (with_reducible intro h; first | (exfalso; omega) | contradiction | skip))
      all_goals exact hI.k
    refine t_Mo_enters ?_
    ((try simp only [lg_cmp_lt, lg_cmp_gt]); simp (disch := omega) only [e1, Int64.lt_iff_toInt_lt, Int32.toInt_toInt64, Int64.reduceToInt, ← Int32.toInt_inj, Int32.lt_iff_toInt_lt, Int32.le_iff_toInt_le, Int32.reduceToInt, nI_toInt, false_implies, true_implies, and_true, true_and, not_true_eq_false, not_false_eq_true, forall_const, implies_true, false_and, and_false, true_or, or_true, eq_self])
    repeat' (first | (with_reducible refine And.intro ?_ ?_) | (with_reducible intro h; first | (exfalso; omega) | contradiction | skip))
    all_goals exact B
end J1
