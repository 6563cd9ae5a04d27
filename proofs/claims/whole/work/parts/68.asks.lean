/-! ===== the reference's day ===== -/
section SW
variable {L : Nat} {xs : Nat → Int32} {d : Nat} {Q : AQ} {M : AM} {T : PV} {f : Nat → Nat → Nat}
theorem n_p2 {a b : Nat} (ha : a < 2 ^ 20) (hb : b < 2 ^ 20) : (nI a + nI b - 1).toInt = (a : Int) + b - 1 := by
  rw [nI_add, n_pt (by omega)]; omega
theorem s_within {s a b : Nat} (hs : s < 2 ^ 20) (ha : a < 2 ^ 20) (hb : b < 2 ^ 20) (k : Q (some (.int (b2i (decide (a ≤ s) && decide (s < a + b))))) M) : am_Call (gG L xs) (d + 1) c_Md_within [.long (Int32.toInt64 (nI s)), .long (Int32.toInt64 (nI a)), .long (Int32.toInt64 (nI a + nI b - 1))] M Q := by
  refine t_Md_within ?_
  have e := n_p2 ha hb
  simp (disch := omega) only [lg_cmp_lt, lg_cmp_gt, Int64.lt_iff_toInt_lt, Int32.toInt_toInt64, nI_toInt, e]
  refine ⟨fun h => ?_, fun h => ⟨fun h2 => ?_, fun h2 => ?_⟩⟩
  · rw [show decide (a ≤ s) = false from decide_eq_false (by omega)] at k; exact k
  · rw [show decide (s < a + b) = false from decide_eq_false (by omega), Bool.and_false] at k; exact k
  · rw [show decide (s < a + b) = true from decide_eq_true (by omega), show decide (a ≤ s) = true from decide_eq_true (by omega)] at k; exact k
/-- the day of the reference: n people, b boys -/
def dayM (n b : Nat) (f : Nat → Nat → Nat) (C G : Nat → Bool) (io : Nat → Option Nat) (M : AM) : Prop :=
  M.1 40 6 = nI n ∧ M.1 40 22 = nI b ∧ pM (n + b) f M ∧ (∃ C0, M.1 40 20 = sI C0 ∧ ∀ p, p < n → C0 p = C p) ∧ (∃ G0, M.1 40 21 = sI G0 ∧ ∀ p, p < n → G0 p = G p) ∧ (∀ p, n ≤ p → p < n + b → C p = true ∧ G p = false) ∧ ∀ p, p < 15 → M.1 49 p = oI (io p)
abbrev wK : List Nat := [48, 50, 51]
abbrev wJ : List Nat := [14, 15, 16, 17, 18, 27]
theorem dayM.keep {n b : Nat} {C G : Nat → Bool} {io : Nat → Option Nat} {M' : AM} (h : dayM n b f C G io M) (hf : fs wK wJ M M') : dayM n b f C G io M' := by
  obtain ⟨h1, h2, h3, ⟨C0, h4, h4'⟩, ⟨G0, h5, h5'⟩, h6, h7⟩ := h
  exact ⟨by rw [hf.j 6]; exact h1, by rw [hf.j 22]; exact h2, h3.keep (hf.i 41), ⟨C0, by rw [hf.j 20]; exact h4, h4'⟩, ⟨G0, by rw [hf.j 21]; exact h5, h5'⟩, h6, fun p hp => by rw [hf.i 49]; exact h7 p hp⟩
theorem oI_ge {o : Option Nat} (h : ∀ a, o = some a → a < 2 ^ 20) : 0 ≤ oI o ↔ o ≠ none := by
  cases o with
  | none => exact ⟨fun z => absurd z (by decide), fun z => absurd rfl z⟩
  | some a => have := h a rfl; exact ⟨fun _ z => (by cases z), fun _ => nI_pos' (by omega)⟩
/-- who waits at a gate -/
def gtW (second : Bool) (N : Nat) (f : Nat → Nat → Nat) (s : Nat) (C G : Nat → Bool) (io : Nat → Option Nat) : Nat → Bool := wtg N f s (fun p => C p && (if second then G p else !G p)) io
def ioB (io : Nat → Option Nat) : Prop := ∀ p a, io p = some a → a < 2 ^ 20
/-- what asksWaiting leaves -/
def askd (W : Nat → Bool) (N : Nat) (t : Nat → Int32) (M : AM) : Prop := M.1 40 27 = nI (cnt W N) ∧ ∀ o, o < cnt W N → M.1 50 o = nI (eW W N o) ∧ M.1 51 o = t (eW W N o)
theorem m_asks {n b s : Nat} {C G : Nat → Bool} {io : Nat → Option Nat} {second : Bool} (hd : 68 ≤ d) (hX : dayM n b f C G io M) (hok : okP (n + b) f) (hL : lawM T M) (hs : s < 2 ^ 20) (hio : ioB io)
    (kk : ∀ M', fs wK wJ M M' → askd (gtW second (n + b) f s C G io) (n + b) (fun k => T (nmf f s (cnt (gtW second (n + b) f s C G io) (n + b)) k)) M' → Q none M') : am_Call (gG L xs) d c_Md_asksWaiting [.ref 40, .int (nI s), .int (b2i second)] M Q := by
  obtain ⟨d, rfl⟩ : ∃ a, d = a + 3 := ⟨d - 3, by omega⟩
  have hP := hX.2.2.1
  have hN := hP.1
  generalize hW : gtW second (n + b) f s C G io = W at kk
  generalize hNN : n + b = N at *
  -- the second loop
  have loop2 : ∀ j i M1, i + j = cnt W N → fs wK wJ M M1 → M1.1 40 27 = nI (cnt W N) → (∀ o, o < cnt W N → M1.1 50 o = nI (eW W N o)) → (∀ o, o < i → M1.1 51 o = T (nmf f s (cnt W N) (eW W N o))) → v_Md_asksWaiting L xs (d + 2) Q 151 [(0, .ref 40), (1, .int (nI s)), (3, .int (nI i))] [] M1 := by
    intro j
    induction j with
    | zero =>
      intro i M1 hi hf h27 h50 h51
      have : i = cnt W N := by omega
      refine u_Md_asksWaiting_151 ⟨fun _ => kk M1 hf ⟨h27, fun o ho => ⟨h50 o ho, h51 o (by omega)⟩⟩, fun z => absurd ?_ z⟩
      rw [h27, this]; exact nI_le (Nat.le_refl _) (by have := cnt_le W N; omega)
    | succ j ih =>
      intro i M1 hi hf h27 h50 h51
      have hcw := cnt_le W N
      have hm := wl_mem (rg_in (eW_rg (W := W) (n := N) (o := i) (by omega)))
      refine u_Md_asksWaiting_151 ⟨fun z => absurd z (by rw [h27]; exact nI_ge (by omega) (by omega)), fun _ => ⟨(n_vp (by omega)).mpr (by omega), ?_⟩⟩
      rw [n_cl (by omega), h50 i (by omega), h27]
      refine m_tallAt (by omega) (hP.keep (hf.i 41)) (hL.keep (by rw [hf.j 13]) (hf.i 47)) hm.1 (fun M2 f2 => u_Md_asksWaiting_179 ⟨(n_vp (by omega)).mpr (by omega), ?_⟩)
      rw [n_cl (by omega), nI_1]
      refine ih (i + 1) _ (by omega) ((hf.tt (f2.to (by decide) (by decide))).c (by decide) (by decide)) (by rw [wi_ne (by decide), f2.j 27]; exact h27) (fun o ho => by rw [wi_ne (by decide), f2.i 50]; exact h50 o ho) (fun o ho => ?_)
      rw [wi_rd, if_pos rfl]
      by_cases z : o = i
      · subst z; rw [if_pos rfl]
      · rw [if_neg z, f2.i 51]; exact h51 o (by omega)
  obtain ⟨x6, x22, -, ⟨C0, x20, xC⟩, ⟨G0, x21, xG⟩, xb, xi⟩ := hX
  have loop1 : ∀ j p M1, p + j = N → fs wK wJ M M1 → M1.1 40 27 = nI (cnt W p) → skR ((wl W p).map nI) (M1.1 50) → v_Md_asksWaiting L xs (d + 2) Q 7 [(0, .ref 40), (1, .int (nI s)), (2, .int (b2i second)), (3, .int (nI p))] [] M1 := by
    intro j
    induction j with
    | zero =>
      intro p M1 hp hf h27 h50
      have : p = N := by omega
      refine u_Md_asksWaiting_7 ⟨fun _ => ?_, fun z => absurd ?_ z⟩
      · subst this
        exact loop2 (cnt W p) 0 M1 (by omega) hf h27 (fun o ho => skR_rg _ o _ h50 (eW_rg ho)) (fun o ho => by omega)
      · rw [hf.j 6, hf.j 22, x6, x22, nI_add]; exact nI_le (by omega) (by omega)
    | succ j ih =>
      intro p M1 hp hf h27 h50
      have hpN : p < N := by omega
      obtain ⟨o1, o2, o3, o4, o5, o6, o7⟩ := hok p hpN
      have hP1 := hP.keep (hf.i 41)
      have q1 : vp_in ((5 * nI p) + 1) 75 ∧ M1.1 41 (((5 * nI p) + 1).toNatClampNeg) = nI (f 1 p) := hP1.at 1 (by decide) hpN
      have q2 : vp_in ((5 * nI p) + 2) 75 ∧ M1.1 41 (((5 * nI p) + 2).toNatClampNeg) = nI (f 2 p) := hP1.at 2 (by decide) hpN
      have hcw := cnt_le W p
      have q49 : M1.1 49 p = oI (io p) := by rw [hf.i 49]; exact xi p (by omega)
      have Wp : W p = (thr f s p && ((C p && (if second then G p else !G p)) && (io p).isNone)) := by
        rw [← hW, gtW, wtg, thrN]
        rw [show decide (p < N) = true from decide_eq_true hpN, Bool.true_and]
      have nx : W p = false → v_Md_asksWaiting L xs (d + 2) Q 7 [(0, .ref 40), (1, .int (nI s)), (2, .int (b2i second)), (3, .int (nI p + 1))] [] M1 := by
        intro h
        rw [nI_1]
        refine ih (p + 1) M1 (by omega) hf ?_ ?_
        · rw [cnt_s, h]; exact h27
        · rw [wl, if_neg (by rw [h]; decide)]; exact h50
      have tail : (C p && (if second then G p else !G p)) = true → (vp_in (nI p) 15) ∧ ((0 ≤ (M1.1 49 (nI p).toNatClampNeg) → v_Md_asksWaiting L xs (d + 2) Q 7 [(0, .ref 40), (1, .int (nI s)), (2, .int (b2i second)), (3, .int (nI p + 1))] [] M1) ∧ (¬ 0 ≤ (M1.1 49 (nI p).toNatClampNeg) → (vp_in ((5 * nI p) + 2) 75) ∧ (am_Call (gG L xs) (d + 2) c_Md_within [.long (Int32.toInt64 (nI s)), .long (Int32.toInt64 (M1.1 41 (((5 * nI p) + 1).toNatClampNeg))), .long (Int32.toInt64 (((M1.1 41 (((5 * nI p) + 1).toNatClampNeg)) + (M1.1 41 (((5 * nI p) + 2).toNatClampNeg))) - 1))] M1 (fun r M' => v_Md_asksWaiting L xs (d + 2) Q 120 [(0, .ref 40), (1, .int (nI s)), (2, .int (b2i second)), (3, .int (nI p))] (r.toList ++ []) M')))) := by
        intro hC
        rw [n_cl (by omega), q49, q1.2, q2.2, oI_ge (hio p)]
        refine ⟨(n_vp (by omega)).mpr (by omega), fun h => nx ?_, fun h => ⟨q2.1, ?_⟩⟩
        · rw [Wp]
          cases hi : io p with
          | none => exact absurd hi h
          | some a => simp
        · have hi : io p = none := by
            cases z : io p with
            | none => rfl
            | some a => exact absurd (by rw [z]; simp) h
          refine s_within hs (by omega) (by omega) ?_
          have eW' : W p = (decide (f 1 p ≤ s) && decide (s < f 1 p + f 2 p)) := by rw [Wp, hC, hi]; simp [thr]
          rw [← eW']
          refine u_Md_asksWaiting_120 ⟨fun h0 => nx (b2i_0.mp h0), fun h0 => ?_⟩
          have hw : W p = true := b2i_n0.mp h0
          rw [h27, n_cl (by omega), nI_1, nI_1]
          refine ⟨(n_vp (by omega)).mpr (by omega), ih (p + 1) _ (by omega) ((hf.c (by decide) (by decide)).s (by decide)) ?_ ?_⟩
          · rw [wi_eq, cnt_s, if_pos hw]
          · rw [wi_ne (by decide), wl, if_pos hw]
            refine ⟨?_, ?_⟩
            · rw [List.length_map, wl_len]; exact wi_eq
            · refine skR_ext (fun i hi => ?_) h50
              rw [List.length_map, wl_len] at hi
              exact wi_sl (by omega)
      have e6 : M1.1 40 6 = nI n := by rw [hf.j 6]; exact x6
      have e20 : M1.1 40 20 = sI C0 := by rw [hf.j 20]; exact x20
      have e21 : M1.1 40 21 = sI G0 := by rw [hf.j 21]; exact x21
      have e22 : M1.1 40 22 = nI b := by rw [hf.j 22]; exact x22
      refine u_Md_asksWaiting_7 ⟨fun z => absurd z (by rw [e6, e22, nI_add]; exact nI_ge (by omega) (by omega)), fun _ => ⟨q1.1, ?_⟩⟩
      rw [e6, e20, e21, sI_bit C0 (by omega), sI_bit G0 (by omega), n_leI (by omega) (by omega), n_ltI (by omega) (by omega), b2i_1, b2i_1]
      have boy : n ≤ p → (p < n → (vp_in (nI p) 15) ∧ ((0 ≤ (M1.1 49 (nI p).toNatClampNeg) → v_Md_asksWaiting L xs (d + 2) Q 7 [(0, .ref 40), (1, .int (nI s)), (2, .int (b2i second)), (3, .int (nI p + 1))] [] M1) ∧ (¬ 0 ≤ (M1.1 49 (nI p).toNatClampNeg) → (vp_in ((5 * nI p) + 2) 75) ∧ (am_Call (gG L xs) (d + 2) c_Md_within [.long (Int32.toInt64 (nI s)), .long (Int32.toInt64 (M1.1 41 (((5 * nI p) + 1).toNatClampNeg))), .long (Int32.toInt64 (((M1.1 41 (((5 * nI p) + 1).toNatClampNeg)) + (M1.1 41 (((5 * nI p) + 2).toNatClampNeg))) - 1))] M1 (fun r M' => v_Md_asksWaiting L xs (d + 2) Q 120 [(0, .ref 40), (1, .int (nI s)), (2, .int (b2i second)), (3, .int (nI p))] (r.toList ++ []) M'))))) := fun h1 h2 => absurd h2 (by omega)
      refine ⟨fun hn => ⟨boy hn, fun _ => ⟨fun h0 => nx ?_, fun h0 => tail ?_⟩⟩, fun hn => ⟨fun hc => nx ?_, fun hc => ⟨fun hg => ⟨fun h0 => nx ?_, fun h0 => ⟨fun _ => tail ?_, fun z => absurd (by omega) z⟩⟩, fun hg => ⟨fun h0 => nx ?_, fun h0 => ⟨fun _ => tail ?_, fun z => absurd (by omega) z⟩⟩⟩⟩⟩
      · have := xb p hn (by omega)
        have hsec : second = true := b2i_n0.mp h0
        rw [Wp, this.2, hsec]; simp
      · have := xb p hn (by omega)
        have hsec : second = false := b2i_0.mp h0
        rw [this.1, this.2, hsec]; rfl
      · have hC : C p = false := by rw [← xC p (by omega)]; cases z : C0 p with
          | false => rfl
          | true => exact absurd z hc
        rw [Wp, hC]; simp
      · have hG : G p = false := by rw [← xG p (by omega)]; cases z : G0 p with
          | false => rfl
          | true => exact absurd z hg
        have hsec : second = true := by
          cases second with
          | true => rfl
          | false => exact absurd rfl h0
        rw [Wp, hG, hsec]; simp
      · have hG : G p = false := by rw [← xG p (by omega)]; cases z : G0 p with
          | false => rfl
          | true => exact absurd z hg
        have hsec : second = false := b2i_0.mp h0.symm
        rw [← xC p (by omega), hc, hG, hsec]; rfl
      · have hG : G p = true := by rw [← xG p (by omega)]; exact hg
        have hsec : second = false := by
          cases second with
          | false => rfl
          | true => exact absurd rfl h0
        rw [Wp, hG, hsec]; simp
      · have hG : G p = true := by rw [← xG p (by omega)]; exact hg
        have hsec : second = true := b2i_1.mp h0.symm
        rw [← xC p (by omega), hc, hG, hsec]; rfl
  exact t_Md_asksWaiting (loop1 N 0 _ (by omega) (fs.rf.s (by decide)) (by rw [wi_eq]; rfl) trivial)
theorem m_atPlace {W : Nat → Bool} {N pl : Nat} {t : Nat → Int32} (hd : 1 ≤ d) (hN : N ≤ 15) (hA : askd W N t M) (hpl : pl < cnt W N) (kk : ∀ x, rg (srt W t N) pl = some x → Q (some (.int (nI x))) M) : am_Call (gG L xs) d c_Md_atPlace [.ref 40, .int (nI pl)] M Q := by
  obtain ⟨d, rfl⟩ : ∃ a, d = a + 1 := ⟨d - 1, by omega⟩
  obtain ⟨h27, hrow⟩ := hA
  have hcw := cnt_le W N
  have inner : ∀ i, i < cnt W N → (sml W t N i = pl → Q (some (.int (nI (eW W N i)))) M) → (¬ sml W t N i = pl → v_Md_atPlace L xs d Q 2 [(0, .ref 40), (1, .int (nI pl)), (2, .int (nI i + 1))] [] M) →
      ∀ j o, o + j = cnt W N → v_Md_atPlace L xs d Q 15 [(0, .ref 40), (1, .int (nI pl)), (2, .int (nI i)), (3, .int (nI (cnt (fun o => decide (t (eW W N o) < t (eW W N i)) || (decide (t (eW W N o) = t (eW W N i)) && decide (o < i))) o))), (4, .int (nI o))] [] M := by
    intro i hi k1 k2 j
    induction j with
    | zero =>
      intro o ho
      have : o = cnt W N := by omega
      subst this
      have hle := cnt_le (fun o => decide (t (eW W N o) < t (eW W N i)) || (decide (t (eW W N o) = t (eW W N i)) && decide (o < i))) (cnt W N)
      refine u_Md_atPlace_15 ⟨fun _ => ⟨fun h => k2 (fun z => h ?_), fun h => ⟨(n_vp (by omega)).mpr (by omega), ?_⟩⟩, fun z => absurd ?_ z⟩
      · rw [← z]; rfl
      · rw [n_cl (by omega), (hrow i hi).1]
        exact k1 ((nI_eq (a := sml W t N i) (by have : sml W t N i ≤ cnt W N := hle; omega) (by omega)).mp h)
      · rw [h27]; exact nI_le (Nat.le_refl _) (by omega)
    | succ j ih =>
      intro o ho
      have hle := cnt_le (fun o => decide (t (eW W N o) < t (eW W N i)) || (decide (t (eW W N o) = t (eW W N i)) && decide (o < i))) o
      have nx := ih (o + 1) (by omega)
      rw [cnt_s] at nx
      refine u_Md_atPlace_15 ⟨fun z => absurd z (by rw [h27]; exact nI_ge (by omega) (by omega)), fun _ => ⟨(n_vp (by omega)).mpr (by omega), (n_vp (by omega)).mpr (by omega), ?_⟩⟩
      rw [n_cl (show i < 2 ^ 31 by omega), n_cl (show o < 2 ^ 31 by omega), (hrow i hi).2, (hrow o (by omega)).2, nI_1, nI_1, n_leI (by omega) (by omega)]
      refine ⟨fun h => ?_, fun h => ⟨fun h2 => ?_, fun h2 => ⟨fun h3 => ?_, fun h3 => ?_⟩⟩⟩
      · rw [if_pos (by simp [h])] at nx; exact nx
      · rw [if_neg (by simp [h, h2])] at nx
        rw [show nI (cnt (fun o => decide (t (eW W N o) < t (eW W N i)) || (decide (t (eW W N o) = t (eW W N i)) && decide (o < i))) o) + 0 = nI (cnt (fun o => decide (t (eW W N o) < t (eW W N i)) || (decide (t (eW W N o) = t (eW W N i)) && decide (o < i))) o + 0) from nI_add _ 0]
        exact nx
      · rw [if_neg (by simp [h, h3])] at nx
        rw [show nI (cnt (fun o => decide (t (eW W N o) < t (eW W N i)) || (decide (t (eW W N o) = t (eW W N i)) && decide (o < i))) o) + 0 = nI (cnt (fun o => decide (t (eW W N o) < t (eW W N i)) || (decide (t (eW W N o) = t (eW W N i)) && decide (o < i))) o + 0) from nI_add _ 0]
        exact nx
      · rw [if_pos (by simp [h2]; omega)] at nx; exact nx
  have outer : ∀ j i, i + j = cnt W N → (∀ q, q < i → sml W t N q ≠ pl) → v_Md_atPlace L xs d Q 2 [(0, .ref 40), (1, .int (nI pl)), (2, .int (nI i))] [] M := by
    intro j
    induction j with
    | zero =>
      intro i hi hq
      obtain ⟨q, h1, h2⟩ := sml_ex (W := W) (t := t) hpl
      exact absurd h2 (hq q (by omega))
    | succ j ih =>
      intro i hi hq
      refine u_Md_atPlace_2 ⟨fun z => absurd z (by rw [h27]; exact nI_ge (by omega) (by omega)), fun _ => ?_⟩
      refine inner i (by omega) (fun h => kk _ (sml_at (by omega) h)) (fun h => ?_) (cnt W N) 0 (by omega)
      rw [nI_1]
      refine ih (i + 1) (by omega) (fun q hq' => ?_)
      by_cases z : q = i
      · subst z; exact h
      · exact hq q (by omega)
  exact t_Md_atPlace (outer (cnt W N) 0 (by omega) (fun q hq => by omega))
end SW
