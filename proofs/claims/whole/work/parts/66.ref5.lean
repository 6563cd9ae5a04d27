section SV
variable {L : Nat} {xs : Nat → Int32} {d : Nat} {Q : AQ} {M : AM} {T : PV}
/-- the reference works a text out -/
theorem m_workOut {e : Nat} {tp nm : Nat → Int32} {b : Int32} (he : e ≤ 120) (hd : 64 ≤ d) (hb : (b = -1 ∧ ∀ i, i < e → M.1 46 i = tp i) ∨ (b = 0 ∧ ∀ i, i < e → M.1 47 i = tp i)) (hN : ∀ k, k < 6 → M.1 48 k = nm k)
    (kk : ∀ M' y, fs [] [14, 15, 16, 17, 18] M M' → ((txl (chT tp e) e).1 = true → M'.1 40 17 = -1 ∧ y = txT (chT tp e) e nm) → ((txl (chT tp e) e).1 = false → M'.1 40 17 = nI (txl (chT tp e) e).2.1) → Q (some (.int y)) M') : am_Call (gG L xs) d c_Md_workOut [.ref 40, .int b, .int (nI e)] M Q := by
  obtain ⟨d, rfl⟩ : ∃ a, d = a + 3 := ⟨d - 3, by omega⟩
  refine t_Md_workOut ?_
  generalize hM1 : am_wi (am_wi (am_wi (am_wi (am_wi M 40 14 b) 40 15 0) 40 16 (nI e)) 40 17 (-1)) 40 18 0 = M1
  have f1 : fs [] [14, 15, 16, 17, 18] M M1 := by rw [← hM1]; exact ((((fs.rf.s (by decide)).s (by decide)).s (by decide)).s (by decide)).s (by decide)
  have e14 : M1.1 40 14 = b := by rw [← hM1, wi_sl (by decide), wi_sl (by decide), wi_sl (by decide), wi_sl (by decide), wi_eq]
  have e15 : M1.1 40 15 = nI 0 := by rw [← hM1, wi_sl (by decide), wi_sl (by decide), wi_sl (by decide), wi_eq]; rfl
  have e16 : M1.1 40 16 = nI e := by rw [← hM1, wi_sl (by decide), wi_sl (by decide), wi_eq]
  have e17 : M1.1 40 17 = -1 := by rw [← hM1, wi_sl (by decide), wi_eq]
  have e18 : M1.1 40 18 = nI 0 := by rw [← hM1, wi_eq]; rfl
  have hR : rfM e tp 0 nm M1 := by
    refine ⟨e16, e15, ?_, fun k hk => by rw [f1.i 48]; exact hN k hk⟩
    unfold tpM
    rw [e14, f1.i 46, f1.i 47]
    exact hb
  unfold txT at kk
  unfold txl at kk
  obtain ⟨n, hn⟩ : ∃ n : Nat, n = 122 := ⟨_, rfl⟩
  rw [← hn] at kk
  exact m_text he (by omega) n 0 [] (fun _ => none) M1 (by omega) (by omega) fs.rf hR e17 e18 (fun M' y hf h1 h2 => kk M' y (f1.tt (hf.to (by decide) (by decide))) h1 h2)
/-- law() of the reference -/
theorem m_law {e : Nat} {tp : Nat → Int32} (he : e ≤ 120) (hd : 66 ≤ d) (h11 : M.1 40 11 = nI e) (ht : ∀ i, i < e → M.1 46 i = tp i)
    (k0 : ∀ M', (txl (chT tp e) e).1 = false → fs [] [11, 14, 15, 16, 17, 18] M M' → M'.1 40 11 = nI 0 → Q (some (.int (-100 - nI (txl (chT tp e) e).2.1))) M')
    (k1 : ∀ M', (txl (chT tp e) e).1 = true → fs [47] [11, 13, 14, 15, 16, 17, 18] M M' → M'.1 40 11 = nI 0 → M'.1 40 13 = nI e → (∀ i, i < e → M'.1 47 i = tp i) → Q (some (.int 1)) M') : am_Call (gG L xs) d c_Md_law [.ref 40] M Q := by
  obtain ⟨d, rfl⟩ : ∃ a, d = a + 2 := ⟨d - 2, by omega⟩
  have hG := txl_good (chT_E tp e) he
  refine t_Md_law ?_
  rw [h11]
  refine m_workOut (nm := M.1 48) he (by omega) (Or.inl ⟨rfl, ht⟩) (fun _ _ => rfl) (fun M1 y f1 g1 g0 => ?_)
  have a11 : M1.1 40 11 = nI e := by rw [f1.j 11]; exact h11
  cases hb : (txl (chT tp e) e).1 with
  | false =>
    have e17 := g0 hb
    have hj := hG.2.1
    refine u_Md_law_9 ⟨fun z => absurd z (by rw [e17]; exact nI_pos (by omega)), fun _ => ?_⟩
    rw [wi_sl (by decide), e17]
    exact k0 _ hb ((f1.to (by decide) (by decide)).s (by decide)) wi_eq
  | true =>
    obtain ⟨e17, -⟩ := g1 hb
    refine u_Md_law_9 ⟨fun _ => ?_, fun z => absurd (by rw [e17]; decide) z⟩
    rw [a11]
    have loop : ∀ j i (M2 : AM), i + j = e → fs [47] [11, 13, 14, 15, 16, 17, 18] M M2 → M2.1 40 11 = nI 0 → (∀ q, q < i → M2.1 47 q = tp q) → v_Md_law L xs (d + 1) Q 37 [(0, .ref 40), (2, .int (nI e)), (3, .int (nI i))] [] M2 := by
      intro j
      induction j with
      | zero =>
        intro i M2 hi hf b11 hq
        have : i = e := by omega
        subst this
        refine u_Md_law_37 ⟨fun _ => k1 _ hb (hf.s (by decide)) (by rw [wi_sl (by decide)]; exact b11) wi_eq (fun q hq' => by rw [wi_ne (by decide)]; exact hq q hq'), fun z => absurd (nI_le (Nat.le_refl _) (by omega)) z⟩
      | succ j ih =>
        intro i M2 hi hf h11 hq
        refine u_Md_law_37 ⟨fun z => absurd z (nI_ge (by omega) (by omega)), fun _ => ⟨(n_vp (by omega)).mpr (by omega), ?_⟩⟩
        rw [n_cl (by omega), nI_1]
        refine ih (i + 1) _ (by omega) (hf.c (by decide) (by decide)) (by rw [wi_ne (by decide)]; exact h11) (fun q hq' => ?_)
        rw [wi_rd, if_pos rfl]
        by_cases z : q = i
        · subst z; rw [if_pos rfl, hf.i 46]; exact ht q (by omega)
        · rw [if_neg z]; exact hq q (by omega)
    exact loop e 0 _ (by omega) ((f1.to (by decide) (by decide)).s (by decide)) wi_eq (fun q hq => by omega)
/-- the reference's law is the function T of the names -/
def lawM (T : PV) (M : AM) : Prop := (M.1 40 13 = -1 ∧ T = fun nm => nm 0 + nm 1) ∨ ∃ (e : Nat) (tp : Nat → Int32), e ≤ 120 ∧ M.1 40 13 = nI e ∧ (∀ i, i < e → M.1 47 i = tp i) ∧ (txl (chT tp e) e).1 = true ∧ T = txT (chT tp e) e
theorem lawM.keep {M' : AM} (h : lawM T M) (h1 : M'.1 40 13 = M.1 40 13) (h2 : M'.1 47 = M.1 47) : lawM T M' := by
  unfold lawM at h ⊢
  rw [h1, h2]; exact h
/-- people, as the reference has them -/
def pM (N : Nat) (f : Nat → Nat → Nat) (M : AM) : Prop := N ≤ 15 ∧ ∀ w k, w < 5 → k < N → M.1 41 (5 * k + w) = nI (f w k)
theorem pM.keep {N : Nat} {f : Nat → Nat → Nat} {M' : AM} (h : pM N f M) (h1 : M'.1 41 = M.1 41) : pM N f M' := by
  unfold pM at h ⊢
  rw [h1]; exact h
theorem pM.at {N k : Nat} {f : Nat → Nat → Nat} (h : pM N f M) (w : Nat) (hw : w < 5) (hk : k < N) : vp_in ((5 * nI k) + nI w) 75 ∧ M.1 41 (((5 * nI k) + nI w).toNatClampNeg) = nI (f w k) := by
  have := h.1
  rw [show (5 : Int32) = nI 5 from rfl, n_mul, nI_add, n_vp (by omega), n_cl (by omega)]
  exact ⟨by omega, h.2 w k hw hk⟩
abbrev tJ : List Nat := [14, 15, 16, 17, 18]
theorem m_tallAt {N k s c : Nat} {f : Nat → Nat → Nat} (hd : 66 ≤ d) (hP : pM N f M) (hL : lawM T M) (hk : k < N)
    (kk : ∀ M', fs [48] tJ M M' → Q (some (.int (T (nmf f s c k)))) M') : am_Call (gG L xs) d c_Md_tallAt [.ref 40, .int (nI k), .int (nI s), .int (nI c)] M Q := by
  obtain ⟨d, rfl⟩ : ∃ a, d = a + 1 := ⟨d - 1, by omega⟩
  have h0 : vp_in ((5 * nI k) + 0) 75 ∧ M.1 41 (((5 * nI k) + 0).toNatClampNeg) = nI (f 0 k) := hP.at 0 (by decide) hk
  have h3 : vp_in ((5 * nI k) + 3) 75 ∧ M.1 41 (((5 * nI k) + 3).toNatClampNeg) = nI (f 3 k) := hP.at 3 (by decide) hk
  have h1 : vp_in ((5 * nI k) + 1) 75 ∧ M.1 41 (((5 * nI k) + 1).toNatClampNeg) = nI (f 1 k) := hP.at 1 (by decide) hk
  refine t_Md_tallAt ?_
  rw [h0.2, h1.2, h3.2]
  rcases hL with ⟨e13, eT⟩ | ⟨e, tp, he, e13, ht, ho, eT⟩
  · rw [e13]
    refine ⟨fun z => absurd z (by decide), fun _ => ⟨h0.1, h3.1, ?_⟩⟩
    have := kk M fs.rf
    rw [eT] at this
    exact this
  · rw [e13]
    refine ⟨fun _ => ⟨h0.1, h3.1, h1.1, ?_⟩, fun z => absurd (nI_pos' (by omega)) z⟩
    generalize hM1 : am_wi (am_wi (am_wi (am_wi (am_wi (am_wi M 48 0 (nI (f 0 k))) 48 1 (nI (f 3 k))) 48 2 (nI s - nI (f 1 k))) 48 3 (nI s)) 48 4 (nI k)) 48 5 (nI c) = M1
    have f1 : fs [48] tJ M M1 := by rw [← hM1]; exact (((((fs.rf.c (by decide) (by decide)).c (by decide) (by decide)).c (by decide) (by decide)).c (by decide) (by decide)).c (by decide) (by decide)).c (by decide) (by decide)
    have hN : ∀ j, j < 6 → M1.1 48 j = nmf f s c k j := by
      intro j hj
      rw [← hM1]
      match j with
      | 0 => rw [wi_sl (by decide), wi_sl (by decide), wi_sl (by decide), wi_sl (by decide), wi_sl (by decide), wi_eq]; rfl
      | 1 => rw [wi_sl (by decide), wi_sl (by decide), wi_sl (by decide), wi_sl (by decide), wi_eq]; rfl
      | 2 => rw [wi_sl (by decide), wi_sl (by decide), wi_sl (by decide), wi_eq]; rfl
      | 3 => rw [wi_sl (by decide), wi_sl (by decide), wi_eq]; rfl
      | 4 => rw [wi_sl (by decide), wi_eq]; rfl
      | 5 => rw [wi_eq]; rfl
    refine m_workOut (e := e) (tp := tp) he (by omega) (Or.inr ⟨rfl, fun i hi => by rw [f1.i 47]; exact ht i hi⟩) hN (fun M2 y f2 g1 _ => u_Md_tallAt_109 ?_)
    obtain ⟨-, hy⟩ := g1 ho
    rw [hy, ← eT]
    exact kk M2 (f1.tt (f2.to (by decide) (by decide)))
end SV
