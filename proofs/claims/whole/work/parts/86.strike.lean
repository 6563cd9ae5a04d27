section E10
variable {L : Nat} {xs : Nat → Int32} {d : Nat} {Q : AQ} {M M1 M2 : AM} {x1 x2 x3 x4 x5 : Int32} {n w p v nw bn : Nat} {f : Nat → Nat → Nat} {io : Nat → Option Nat} {aw : Nat → Bool} {T : PV}
abbrev kJ : List Nat := [14, 15, 16, 17, 18, 27, 35, 31, 32, 7]
theorem imx_le {a b : Int32} (h : b ≤ a) : imax a b = a := by
  unfold imax
  rw [if_neg]
  rw [Int32.lt_iff_toInt_lt]
  rw [Int32.le_iff_toInt_le] at h
  omega
theorem imx_gt {a b : Int32} (h : ¬ b ≤ a) : imax a b = b := by
  unfold imax
  rw [if_pos]
  rw [Int32.lt_iff_toInt_lt]
  rw [Int32.le_iff_toInt_le] at h
  omega
theorem j_strike (hI : Inv M) (hd : 100 ≤ d) : Jn L xs d c_Mo_strike c_Md_strike [.ref 0] [.ref 40] M := by
  have hI0 := hI
  obtain ⟨n, f, T, bn, hP, hL, hT, hC, hD, hA, hS, h23⟩ := hI
  obtain ⟨d, rfl⟩ : ∃ a, d = a + 9 := ⟨d - 9, by omega⟩
  obtain ⟨⟨nw, io, aw, d1, d2, d3, d4, d5, d6, d7, d8, d9, d10, d11, d12, d13, d14⟩, hD2⟩ := hD
  have hD2 : iD2 n M := hD2
  have hn := hP.2.2.1
  by_cases h9 : nw = 999
  · subst h9
    refine Jn.no (-5) hI0 (fun Q k => ?_) (fun Q k => ?_)
    · refine t_Mo_strike ⟨(n_vp (a := 5) (by decide)).mpr (by decide), fun z => ?_, fun _ => k⟩
      rw [show (5 : Int32).toNatClampNeg = 5 from rfl, d2] at z
      exact absurd ((n_ltI (b := 999) (by omega) (by decide)).mp z) (by omega)
    · exact t_Md_strike ⟨fun z => absurd d3 z, fun _ => k⟩
  · obtain ⟨W, hW⟩ : ∃ W, W = dW n f nw io aw := ⟨_, rfl⟩
    obtain ⟨who, hwho⟩ : ∃ who, who = pck T f nw 5 n W := ⟨_, rfl⟩
    have hw : ∀ p, who = some p → p < n ∧ io p = none := fun p h => by
      have h1 := pck_some (h ▸ hwho.symm)
      refine ⟨h1.1, ?_⟩
      have h2 := h1.2
      rw [hW] at h2
      exact (wtg_t h2).2.2.2
    have hc : cnt W 15 = cnt W n := by rw [hW]; exact cnt_up (by omega) (fun p h1 _ => dW_n h1)
    have hcn := cnt_le W n
    have hcon : ∀ p a, upo io who nw p = some a → a < 1000 := fun p a h => by
      rw [upo_at] at h
      by_cases e : who = some p
      · rw [if_pos e] at h; cases h; omega
      · rw [if_neg e] at h; exact d13 p a h
    have hcno : ∀ p, n ≤ p → upo io who nw p = none := fun p h => by
      rw [upo_at, if_neg (fun e => by have := (hw p e).1; omega)]; exact d12 p h
    refine Jn.of2 (v := oI who) (P := fun M1 => fr [1, 3, 7, 13, 14, 28, 29] M M1 ∧ M1.1 1 1 = M.1 1 1 ∧ cch 1 3 n f M1 ∧ M1.1 28 4 = imax (M.1 28 4) (nI (cnt W n)) ∧ M1.1 28 0 = M.1 28 0 + 1 ∧ M1.1 28 5 = nI (nw + 1) ∧ M1.1 28 1 = (if who.isSome then M.1 28 1 + 1 else M.1 28 1) ∧ M1.1 28 6 = sI (fun q => (upo io who nw q).isSome) ∧ M1.1 28 7 = sI aw ∧ M1.1 28 2 = M.1 28 2 ∧ M1.1 28 3 = M.1 28 3 ∧ ∀ q, q < 12 → M1.1 29 q = oI (upo io who nw q)) (fun Q k => ?_) (fun M1 e Q k => ?_)
    · refine t_Mo_strike ⟨(n_vp (a := 5) (by decide)).mpr (by decide), fun _ => t_Deed_opensNow (x_waits (by omega) hP d1 d2 d9 d10 (fun M1 h => u_Deed_opensNow_4 ?_)), fun z => ?_⟩
      · have P1 := h.pp hP
        have F1 : fs [1, 3] [] M M1 := h.s
        rw [h.1.i 28, d2, ← hW]
        refine s_picks (by omega) isCr1 ⟨by decide, by decide⟩ P1.1 (hL.1.keep (by rw [h.1.i 4]) (h.1.i 5) (h.1.i 6)) (fun p hp => by rw [hW] at hp; exact (wtg_t hp).1) (by decide) (fun M2 f2 => u_Deed_opensNow_24 (s_bitCount ?_))
        rw [← hwho, hc]
        have g28 : M2.1 28 = M.1 28 := by rw [f2.i 28, h.1.i 28]
        have g29 : M2.1 29 = M.1 29 := by rw [f2.i 29, h.1.i 29]
        have fr0 : fr [1, 3, 7, 13, 14, 28, 29] M M2 := h.1.tr f2 (by decide) (by decide)
        have e1 : M2.1 1 1 = M.1 1 1 := by rw [f2.i 1]; exact h.2.1
        have c1 : cch 1 3 n f M2 := h.2.2.congr (by rw [f2.i 1]) (f2.i 3) (fun _ _ => ⟨rfl, rfl⟩)
        have c4 : ∀ {K : List Nat} {M3 : AM}, fr K M2 M3 → (∀ b ∈ [1, 3], b ∉ K) → cch 1 3 n f M3 := fun f3 h3 => c1.congr (by rw [f3.i 1 (h3 1 (by decide))]) (f3.i 3 (h3 3 (by decide))) (fun _ _ => ⟨rfl, rfl⟩)
        rw [g28]
        cases z : who with
        | none =>
          rw [z] at k
          refine u_Deed_opensNow_40 ⟨(n_vp (a := 4) (by decide)).mpr (by decide), fun _ => ?_, fun y => absurd (by decide) y⟩
          refine u_Mo_strike_24 ⟨fun y => absurd rfl y, fun _ => k _ ⟨((fr0.wi (by decide)).wi (by decide)).wi (by decide), by rw [wi_ne (by decide), wi_ne (by decide), wi_ne (by decide)]; exact e1, c4 (K := [28]) (((fr.rf.wi (by decide)).wi (by decide)).wi (by decide)) (by decide), ?_, ?_, ?_, ?_, ?_, ?_, ?_, ?_, fun q hq => ?_⟩⟩ <;> simp only [show (4 : Int32).toNatClampNeg = 4 from rfl]
          · simp [wi_rd]
          · simp [wi_rd, g28]
          · simp [wi_rd, g28, d2, nI_1]
          · simp [wi_rd, g28]
          · simp [wi_rd, g28, d9, upo]
          · simp [wi_rd, g28, d10]
          · simp [wi_rd, g28]
          · simp [wi_rd, g28]
          · simp [wi_rd, g29, (d14 q hq).1, upo]
        | some p =>
          rw [z] at k
          obtain ⟨hp, hio⟩ := hw p z
          refine u_Deed_opensNow_40 ⟨(n_vp (a := 4) (by decide)).mpr (by decide), fun y => absurd y (nI_pos (by omega)), fun _ => ⟨fun y => absurd ((n_leI (a := 12) (by decide) (by omega)).mp y) (by omega), fun _ => ⟨(n_vp (by omega)).mpr (by omega), ?_⟩⟩⟩
          rw [show oM (some p) = nI p from rfl, n_cl (by omega)]
          have hor : sI (fun p => (io p).isSome) ||| ((1 : Int32) <<< (nI p &&& 31)) = sI (fun q => (upo io (some p) nw q).isSome) := by
            rw [sI_one (by omega), sI_or]
            refine sI_congr (fun q _ => ?_)
            rw [upo_at]
            by_cases e : q = p
            · subst e; simp
            · rw [if_neg (fun z => e (by cases z; rfl))]; simp [e]
          refine u_Mo_strike_24 ⟨fun _ => k _ ⟨(((((fr0.wi (by decide)).wi (by decide)).wi (by decide)).wi (by decide)).wi (by decide)).wi (by decide), by rw [wi_ne (by decide), wi_ne (by decide), wi_ne (by decide), wi_ne (by decide), wi_ne (by decide), wi_ne (by decide)]; exact e1, c4 (K := [28, 29]) ((((((fr.rf.wi (by decide)).wi (by decide)).wi (by decide)).wi (by decide)).wi (by decide)).wi (by decide)) (by decide), ?_, ?_, ?_, ?_, ?_, ?_, ?_, ?_, fun q hq => ?_⟩, fun y => absurd (show nI p < 0 by rw [show nI p = -1 from y]; decide) (nI_pos (by omega))⟩ <;> simp only [show (4 : Int32).toNatClampNeg = 4 from rfl]
          · simp [wi_rd]
          · simp [wi_rd, g28]
          · simp [wi_rd, g28, d2, nI_1]
          · simp [wi_rd, g28]
          · rw [← hor]; simp [wi_rd, g28, d9]
          · simp [wi_rd, g28, d10]
          · simp [wi_rd, g28]
          · simp [wi_rd, g28]
          · rw [upo_at]
            by_cases e : q = p
            · subst e; rw [if_pos rfl]; simp [wi_rd, g28, d2]; rfl
            · rw [if_neg (fun z => e (by cases z; rfl))]; simp [wi_rd, g29, e, (d14 q hq).1]
      · rw [show (5 : Int32).toNatClampNeg = 5 from rfl, d2] at z
        exact absurd ((n_ltI (b := 999) (by omega) (by decide)).mpr (by omega)) z
    · obtain ⟨f1, q1, q2, q3, q4, q5, q6, q7, q8, q9, q10, q11⟩ := e
      have F1 : fs [1, 3, 7, 13, 14, 28, 29] kJ M M1 := fs.of f1 (by decide) (by decide)
      have F1' : M1.1 40 = M.1 40 := f1.i 40
      obtain ⟨p1, p2, p3, p4, p5, p6⟩ := hP
      have P1 : pM n f M1 := p6.keep (F1.i 41)
      have L1 : lawM T M1 := hL.2.keep (by rw [F1.j 13]) (F1.i 47)
      -- the end
      have fin : ∀ M2, fs [45, 48, 50, 51] kJ M1 M2 → M2.1 40 35 = imax (M.1 28 4) (nI (cnt W n)) → M2.1 40 31 = M.1 40 31 + 1 → M2.1 40 7 = nI (nw + 1) → M2.1 40 32 = (if who.isSome then M.1 40 32 + 1 else M.1 40 32) → (∀ q, q < 12 → M2.1 45 q = oI (upo io who nw q)) → Inv M2 := by
        intro M2 F2 a1 a2 a3 a4 a5
        have F : fs [1, 3, 7, 13, 14, 28, 29, 45, 48, 50, 51] kJ M M2 := (F1.to (by decide) (by decide)).tt (F2.to (by decide) (by decide))
        exact ⟨n, f, T, bn, ⟨p1.fr (by rw [F2.i 1]; exact q1) (F.i 2), q2.congr (by rw [F2.i 1]) (F2.i 3) (fun _ _ => ⟨rfl, rfl⟩), p3, p4, by rw [F.j 6]; exact p5, p6.keep (F.i 41)⟩, hL.keep F (by decide) (by decide), hT.keep F (by decide) (by decide), hC.keep F (by decide) (by decide), iD.mk ⟨nw + 1, upo io who nw, aw, by omega, by rw [F2.i 28]; exact q5, a3, by rw [F2.i 28, q4, a2, d4], by rw [F2.i 28, q6, a4, d5], by rw [F2.i 28, q9, F.j 33, d6], by rw [F2.i 28, q10, F.j 34, d7], by rw [F2.i 28, q3, a1], by rw [F2.i 28]; exact q7, by rw [F2.i 28]; exact q8, by rw [F.j 9]; exact d11, hcno, hcon, fun q hq => ⟨by rw [F2.i 29]; exact q11 q hq, a5 q hq⟩⟩ (iD2.keep hD2 F), hA.keep F (by decide) (by decide), hS.keep F (by decide), by rw [F.j 23]; exact h23⟩
      have d45 : ∀ q, q < 12 → M1.1 45 q = oI (io q) := fun q hq => by rw [F1.i 45]; exact (d14 q hq).2
      -- behind the lists
      have aft : ∀ M2, fs [45, 48, 50, 51] kJ M1 M2 → M2.1 40 7 = nI nw → M2.1 40 35 = M.1 28 4 → M2.1 40 31 = M.1 40 31 → M2.1 40 32 = M.1 40 32 → M2.1 45 = M1.1 45 → askd W n (fun k => T (nmf f nw (cnt W n) k)) M2 → v_Md_strike L xs (d + 8) Q 64 [(0, .ref 40), (1, .int (nI (cnt W n)))] [] M2 := by
        intro M2 F2 b7 b35 b31 b32 b45 ha
        have e27 := ha.1
        have er : irem (nI (cnt W n)) 2 = nI (cnt W n % 2) := n_rem (d := 2) (by omega) (by decide) (by decide)
        have ed : nI (cnt W n) / 2 = nI (cnt W n / 2) := n_div (d := 2) (by omega) (by decide) (by decide)
        have em : nI (cnt W n % 2) = 1 ↔ cnt W n % 2 = 1 := nI_eq (b := 1) (by omega) (by decide)
        refine u_Md_strike_64 ⟨fun _ => ⟨fun z => ?_, fun z => ?_⟩, fun z => absurd (by rw [e27]; exact nI_le (Nat.le_refl _) (by omega)) z⟩
        · rw [e27, er, em] at z
          have hno : who = none := by
            rw [hwho]
            refine pck_no ?_
            unfold ixp
            by_cases h0 : cnt W n = 0
            · rw [if_pos h0]
            · rw [if_neg h0, if_pos rfl, if_pos (by omega)]
          rw [hno] at k fin
          refine ⟨fun y => k _ (fin _ (((F2.s (by decide)).s (by decide)).s (by decide)) ?_ ?_ ?_ ?_ (fun q hq => ?_)), fun y => k _ (fin _ (((F2.s (by decide)).s (by decide)).s (by decide)) ?_ ?_ ?_ ?_ (fun q hq => ?_))⟩
          · rw [e27, b35] at y
            rw [imx_le y]; simp [wi_rd, b35]
          · simp [wi_rd, b31]
          · simp [wi_rd, b7, nI_1]
          · simp [wi_rd, b32]
          · simp [wi_rd, b45, d45 q hq, upo]
          · rw [e27, b35] at y
            rw [imx_gt y]; simp [wi_rd, e27]
          · simp [wi_rd, b31]
          · simp [wi_rd, b7, nI_1]
          · simp [wi_rd, b32]
          · simp [wi_rd, b45, d45 q hq, upo]
        · rw [e27, er, em] at z
          rw [e27, ed]
          refine m_atPlace (by omega) (by omega) ha (by omega) (fun x hx => ?_)
          have hso : who = some x := by
            rw [hwho, pck_ix (i := cnt W n / 2) (by rw [ixp, if_neg (by omega), if_pos rfl, if_neg (by omega)])]
            exact hx
          obtain ⟨hxn, hxi⟩ := hw x hso
          rw [hso] at k fin
          refine u_Md_strike_122 ⟨fun y => ⟨fun u => absurd u (nI_pos (by omega)), fun _ => ⟨(n_vp (by omega)).mpr (by omega), ?_⟩⟩, fun y => ⟨fun u => absurd u (nI_pos (by omega)), fun _ => ⟨(n_vp (by omega)).mpr (by omega), ?_⟩⟩⟩ <;> rw [n_cl (by omega)]
          · refine k _ (fin _ (((((F2.s (by decide)).c (by decide) (by decide)).s (by decide)).s (by decide)).s (by decide)) ?_ ?_ ?_ ?_ (fun q hq => ?_))
            · rw [e27, b35] at y
              rw [imx_le y]; simp [wi_rd, b35]
            · simp [wi_rd, b31]
            · simp [wi_rd, b7, nI_1]
            · simp [wi_rd, b32]
            · rw [upo_at]
              by_cases e : q = x
              · subst e; rw [if_pos rfl]; simp [wi_rd, b7]; rfl
              · rw [if_neg (fun z => e (by cases z; rfl))]; simp [wi_rd, e, b45, d45 q hq]
          · refine k _ (fin _ (((((F2.s (by decide)).c (by decide) (by decide)).s (by decide)).s (by decide)).s (by decide)) ?_ ?_ ?_ ?_ (fun q hq => ?_))
            · rw [e27, b35] at y
              rw [imx_gt y]; simp [wi_rd, e27]
            · simp [wi_rd, b31]
            · simp [wi_rd, b7, nI_1]
            · simp [wi_rd, b32]
            · rw [upo_at]
              by_cases e : q = x
              · subst e; rw [if_pos rfl]; simp [wi_rd, b7]; rfl
              · rw [if_neg (fun z => e (by cases z; rfl))]; simp [wi_rd, e, b45, d45 q hq]
      -- the list of talls
      have loop2 : ∀ j i (M2 : AM), i + j = cnt W n → fs [48, 50, 51] wJ M1 M2 → M2.1 40 27 = nI (cnt W n) → (∀ o, o < cnt W n → M2.1 50 o = nI (eW W n o)) → (∀ o, o < i → M2.1 51 o = T (nmf f nw (cnt W n) (eW W n o))) → v_Md_strike L xs (d + 8) Q 64 [(0, .ref 40), (1, .int (nI i))] [] M2 := by
        intro j
        induction j with
        | zero =>
          intro i M2 hi hf h27 h50 h51
          have hi2 : i = cnt W n := by omega
          rw [hi2]
          exact aft M2 (hf.to (by decide) (by decide)) (by rw [hf.j 7, F1']; exact d3) (by rw [hf.j 35, F1', ← d8]) (by rw [hf.j 31, F1']) (by rw [hf.j 32, F1']) (hf.i 45) ⟨h27, fun o ho => ⟨h50 o ho, h51 o (by omega)⟩⟩
        | succ j ih =>
          intro i M2 hi hf h27 h50 h51
          have hm := wl_mem (rg_in (eW_rg (W := W) (n := n) (o := i) (by omega)))
          refine u_Md_strike_64 ⟨fun z => absurd z (by rw [h27]; exact nI_ge (by omega) (by omega)), fun _ => ⟨(n_vp (by omega)).mpr (by omega), ?_⟩⟩
          rw [n_cl (by omega), h50 i (by omega), h27, hf.j 7, F1', d3]
          refine m_tallAt (by omega) (P1.keep (hf.i 41)) (L1.keep (by rw [hf.j 13]) (hf.i 47)) hm.1 (fun M3 f2 => u_Md_strike_95 ⟨(n_vp (by omega)).mpr (by omega), ?_⟩)
          rw [n_cl (by omega), nI_1]
          refine ih (i + 1) _ (by omega) ((hf.tt (f2.to (by decide) (by decide))).c (by decide) (by decide)) (by rw [wi_ne (by decide), f2.j 27]; exact h27) (fun o ho => by rw [wi_ne (by decide), f2.i 50]; exact h50 o ho) (fun o ho => ?_)
          rw [wi_rd, if_pos rfl]
          by_cases z : o = i
          · subst z; rw [if_pos rfl]
          · rw [if_neg z, f2.i 51]; exact h51 o (by omega)
      have loop1 : ∀ j p (M2 : AM), p + j = n → fs [48, 50, 51] wJ M1 M2 → M2.1 40 27 = nI (cnt W p) → skR ((wl W p).map nI) (M2.1 50) → v_Md_strike L xs (d + 8) Q 20 [(0, .ref 40), (1, .int (nI p))] [] M2 := by
        intro j
        induction j with
        | zero =>
          intro p M2 hp hf h27 h50
          have hpn : p = n := by omega
          refine u_Md_strike_20 ⟨fun _ => ?_, fun z => absurd ?_ z⟩
          · rw [hpn] at h27 h50
            exact loop2 (cnt W n) 0 M2 (by omega) hf h27 (fun o ho => skR_rg _ o _ h50 (eW_rg ho)) (fun o ho => by omega)
          · rw [hf.j 6, F1.j 6, p5]; exact nI_le (by omega) (by omega)
        | succ j ih =>
          intro p M2 hp hf h27 h50
          have hpN : p < n := by omega
          have hcw := cnt_le W p
          refine u_Md_strike_20 ⟨fun z => absurd z (by rw [hf.j 6, F1.j 6, p5]; exact nI_ge (by omega) (by omega)), fun _ => m_wnow (aw := aw) (io := io) (nw := nw) hpN (P1.keep (hf.i 41)) p4 p3 d1 (by rw [hf.j 7, F1']; exact d3) (by rw [hf.j 9, F1.j 9]; exact d11) (by rw [hf.i 45]; exact d45 p (by omega)) d13 (fun h => ?_) (fun h => ?_)⟩
          · rw [← hW] at h
            rw [nI_1]
            refine ih (p + 1) M2 (by omega) hf ?_ ?_
            · rw [cnt_s, h]; exact h27
            · rw [wl, if_neg (by rw [h]; decide)]; exact h50
          · rw [← hW] at h
            rw [h27, n_cl (by omega), nI_1, nI_1]
            refine ⟨(n_vp (by omega)).mpr (by omega), ih (p + 1) _ (by omega) ((hf.c (by decide) (by decide)).s (by decide)) ?_ ?_⟩
            · rw [wi_eq, cnt_s, if_pos h]
            · rw [wi_ne (by decide), wl, if_pos h]
              refine ⟨?_, ?_⟩
              · rw [List.length_map, wl_len]; exact wi_eq
              · refine skR_ext (fun i hi => ?_) h50
                rw [List.length_map, wl_len] at hi
                exact wi_sl (by omega)
      refine t_Md_strike ⟨fun _ => loop1 n 0 _ (by omega) (fs.rf.s (by decide)) (by rw [wi_eq]; rfl) trivial, fun z => ?_⟩
      rw [F1', d3] at z
      exact absurd ((nI_eq (b := 999) (by omega) (by decide)).mp z) h9
end E10
