section E17
variable {L : Nat} {xs : Nat → Int32} {d : Nat} {Q : AQ} {M M0 M1 M2 : AM} {x x1 x2 x3 x4 x5 x6 x7 x8 : Int32} {own nb a b c h k dp n bn : Nat} {s : Nat × (Nat → Int32)}
theorem x_O (ho : own < 8) (hk : k < 8) (hdp : dp ≤ 37) (hr : RX own nb s M0 M) (hs : s.1 + 110 < 2 ^ 20) (kk : ∀ M', RX own nb (fO own nb k x s).2 M0 M' → Q (some (.int (fO own nb k x s).1)) M') : am_Call (gG L xs) (d + 9) c_Acts_plays [.ref 37, .int (nI k), .int 2, .int x, .int (nI dp)] M Q := by
  have h8 : k = 0 ∨ k = 1 ∨ k = 2 ∨ k = 3 ∨ k = 4 ∨ k = 5 ∨ k = 6 ∨ k = 7 := by omega
  rcases h8 with rfl | rfl | rfl | rfl | rfl | rfl | rfl | rfl
  · refine x_run (a := 2) (h := 0) (b := 11) (by decide) (by decide) (by decide) (by decide) (by omega) rfl hr (by (try simp only [nt_1]); omega) (fun M1 r1 => ?_)
    exact k48_11 (by rw [r1.2.2.2.1]; exact kk _ r1)
  · refine x_run (a := 2) (h := 0) (b := 11) (by decide) (by decide) (by decide) (by decide) (by omega) rfl hr (by (try simp only [nt_1]); omega) (fun M1 r1 => ?_)
    exact k48_11 (by rw [r1.2.2.2.1]; exact kk _ r1)
  · refine x_run (a := 2) (h := 0) (b := 11) (by decide) (by decide) (by decide) (by decide) (by omega) rfl hr (by (try simp only [nt_1]); omega) (fun M1 r1 => ?_)
    exact k48_11 (by rw [r1.2.2.2.1]; exact kk _ r1)
  · refine x_run (a := 2) (h := 3) (b := 40) (by decide) (by decide) (by decide) (by decide) (by omega) rfl hr (by (try simp only [nt_1]); omega) (fun M1 r1 => ?_)
    refine k48_40 ?_
    refine x_run (k := 2) (a := 2) (h := 0) (b := 11) (by decide) (by decide) (by decide) (by decide) (by omega) rfl r1 (by (try simp only [nt_1]); omega) (fun M2 r2 => ?_)
    exact k48_11 (by rw [r2.2.2.2.1]; exact u_Acts_plays_254 (kk _ r2))
  · refine x_run (a := 2) (h := 4) (b := 50) (by decide) (by decide) (by decide) (by decide) (by omega) rfl hr (by (try simp only [nt_1]); omega) (fun M1 r1 => ?_)
    refine k48_50 ?_
    refine x_run (k := 1) (a := 2) (h := 0) (b := 11) (by decide) (by decide) (by decide) (by decide) (by omega) rfl r1 (by (try simp only [nt_1]); omega) (fun M2 r2 => ?_)
    refine k48_11 ?_
    rw [r2.2.2.2.1]
    refine u_Acts_plays_280 ?_
    rw [r2.2.2.1]
    exact x_W ho (by omega) (by omega) r2 (by (try simp only [nt_1]); omega) (fun M3 r3 => u_Acts_plays_292 (kk _ r3))
  · refine x_run (a := 2) (h := 3) (b := 40) (by decide) (by decide) (by decide) (by decide) (by omega) rfl hr (by (try simp only [nt_1]); omega) (fun M1 r1 => ?_)
    refine k48_40 ?_
    refine x_run (k := 2) (a := 2) (h := 0) (b := 11) (by decide) (by decide) (by decide) (by decide) (by omega) rfl r1 (by (try simp only [nt_1]); omega) (fun M2 r2 => ?_)
    exact k48_11 (by rw [r2.2.2.2.1]; exact u_Acts_plays_254 (kk _ r2))
  · refine x_run (a := 2) (h := 0) (b := 11) (by decide) (by decide) (by decide) (by decide) (by omega) rfl hr (by (try simp only [nt_1]); omega) (fun M1 r1 => ?_)
    exact k48_11 (by rw [r1.2.2.2.1]; exact kk _ r1)
  · refine x_run (a := 2) (h := 4) (b := 50) (by decide) (by decide) (by decide) (by decide) (by omega) rfl hr (by (try simp only [nt_1]); omega) (fun M1 r1 => ?_)
    refine k48_50 ?_
    refine x_run (k := 1) (a := 2) (h := 0) (b := 11) (by decide) (by decide) (by decide) (by decide) (by omega) rfl r1 (by (try simp only [nt_1]); omega) (fun M2 r2 => ?_)
    refine k48_11 ?_
    rw [r2.2.2.2.1]
    refine u_Acts_plays_280 ?_
    rw [r2.2.2.1]
    exact x_W ho (by omega) (by omega) r2 (by (try simp only [nt_1]); omega) (fun M3 r3 => u_Acts_plays_292 (kk _ r3))
theorem x_C0 (ho : own < 8) (hk : k < 8) (hh : hlF 8 k 1 = 0) (hdp : dp ≤ 38) (hr : RX own nb s M0 M) (hs : s.1 + 110 < 2 ^ 20) (kk : ∀ M', RX own nb (c0 own nb x s).2 M0 M' → Q (some (.int (c0 own nb x s).1)) M') : am_Call (gG L xs) (d + 9) c_Acts_plays [.ref 37, .int (nI k), .int 1, .int x, .int (nI dp)] M Q := by
  refine x_run (a := 1) (h := 0) (b := 10) hk (by decide) hh (by decide) (by omega) rfl hr (by (try simp only [nt_1]); omega) (fun M1 r1 => k48_10 ?_)
  rw [r1.2.2.1]
  exact x_W ho (by omega) (by omega) r1 (by (try simp only [nt_1]); omega) (fun M3 r3 => u_Acts_plays_209 (kk _ r3))
theorem x_C2 (ho : own < 8) (hdp : dp ≤ 37) (hr : RX own nb s M0 M) (hs : s.1 + 120 < 2 ^ 20) (kk : ∀ M', RX own nb (c2 own nb x s).2 M0 M' → Q (some (.int (c2 own nb x s).1)) M') : am_Call (gG L xs) (d + 10) c_Acts_plays [.ref 37, .int (nI 2), .int 1, .int x, .int (nI dp)] M Q := by
  refine x_run (a := 1) (h := 2) (b := 30) (by decide) (by decide) (by decide) (by decide) (by omega) rfl hr (by (try simp only [nt_1]); omega) (fun M1 r1 => k48_30 ?_)
  exact x_C0 (k := 0) ho (by decide) (by decide) (by omega) r1 (by (try simp only [nt_1]); omega) (fun M3 r3 => u_Acts_plays_242 (kk _ r3))
theorem x_C (ho : own < 8) (hk : k < 8) (hdp : dp ≤ 33) (hr : RX own nb s M0 M) (hs : s.1 + 130 < 2 ^ 20) (kk : ∀ M', RX own nb (fC own nb k x s).2 M0 M' → Q (some (.int (fC own nb k x s).1)) M') : am_Call (gG L xs) (d + 11) c_Acts_plays [.ref 37, .int (nI k), .int 1, .int x, .int (nI dp)] M Q := by
  have h8 : k = 0 ∨ k = 1 ∨ k = 2 ∨ k = 3 ∨ k = 4 ∨ k = 5 ∨ k = 6 ∨ k = 7 := by omega
  rcases h8 with rfl | rfl | rfl | rfl | rfl | rfl | rfl | rfl
  · exact x_C0 ho (by decide) (by decide) (by omega) hr (by omega) kk
  · exact x_C0 ho (by decide) (by decide) (by omega) hr (by omega) kk
  · exact x_C2 ho (by omega) hr (by omega) kk
  · refine x_run (a := 1) (h := 3) (b := 41) (by decide) (by decide) (by decide) (by decide) (by omega) rfl hr (by (try simp only [nt_1]); omega) (fun M1 r1 => ?_)
    exact k48_41 (x_C2 ho (by omega) r1 (by (try simp only [nt_1]); omega) (fun M2 r2 => u_Acts_plays_269 (kk _ r2)))
  · exact x_C0 ho (by decide) (by decide) (by omega) hr (by omega) kk
  · refine x_run (a := 1) (h := 3) (b := 41) (by decide) (by decide) (by decide) (by decide) (by omega) rfl hr (by (try simp only [nt_1]); omega) (fun M1 r1 => ?_)
    exact k48_41 (x_C2 ho (by omega) r1 (by (try simp only [nt_1]); omega) (fun M2 r2 => u_Acts_plays_269 (kk _ r2)))
  · exact x_C0 ho (by decide) (by decide) (by omega) hr (by omega) kk
  · refine x_run (a := 1) (h := 7) (b := 80) (by decide) (by decide) (by decide) (by decide) (by omega) rfl hr (by (try simp only [nt_1]); omega) (fun M1 r1 => ?_)
    refine k48_80 (x_C0 (k := 4) ho (by decide) (by decide) (by omega) r1 (by (try simp only [nt_1]); omega) (fun M2 r2 => u_Acts_plays_330 ?_))
    rw [r2.2.2.1]
    have := c0_le (own := own) (nb := nb) (x := x) (s := nt 80 s)
    rw [nt_1] at this
    exact x_O ho ho (by omega) r2 (by omega) (fun M3 r3 => u_Acts_plays_342 (kk _ r3))
theorem x_T0 (ho : own < 8) (hk : k < 8) (hh : hlF 8 k 3 = 0) (hdp : dp ≤ 30) (hr : RX own nb s M0 M) (hs : s.1 + 150 < 2 ^ 20) (kk : ∀ M', RX own nb (t0 own nb x s).2 M0 M' → Q (some (.int (t0 own nb x s).1)) M') : am_Call (gG L xs) (d + 12) c_Acts_plays [.ref 37, .int (nI k), .int 3, .int x, .int (nI dp)] M Q := by
  refine x_run (a := 3) (h := 0) (b := 2) hk (by decide) hh (by decide) (by omega) rfl hr (by (try simp only [nt_1]); omega) (fun M1 r1 => k48_2 ?_)
  rw [r1.2.2.1]
  refine x_C ho ho (by omega) r1 (by (try simp only [nt_1]); omega) (fun M2 r2 => u_Acts_plays_183 ?_)
  rw [r2.2.2.1]
  have := fC_le (own := own) (nb := nb) (k := own) (x := x) (s := nt 2 s)
  rw [nt_1] at this
  exact x_O ho ho (by omega) r2 (by omega) (fun M3 r3 => u_Acts_plays_195 (kk _ r3))
theorem x_T (ho : own < 8) (hk : k < 8) (hdp : dp ≤ 29) (hr : RX own nb s M0 M) (hs : s.1 + 160 < 2 ^ 20) (kk : ∀ M', RX own nb (fT own nb k x s).2 M0 M' → Q (some (.int (fT own nb k x s).1)) M') : am_Call (gG L xs) (d + 13) c_Acts_plays [.ref 37, .int (nI k), .int 3, .int x, .int (nI dp)] M Q := by
  have h8 : k = 0 ∨ k = 1 ∨ k = 2 ∨ k = 3 ∨ k = 4 ∨ k = 5 ∨ k = 6 ∨ k = 7 := by omega
  rcases h8 with rfl | rfl | rfl | rfl | rfl | rfl | rfl | rfl
  · exact x_T0 ho (by decide) (by decide) (by omega) hr (by omega) kk
  · exact x_T0 ho (by decide) (by decide) (by omega) hr (by omega) kk
  · exact x_T0 ho (by decide) (by decide) (by omega) hr (by omega) kk
  · exact x_T0 ho (by decide) (by decide) (by omega) hr (by omega) kk
  · exact x_T0 ho (by decide) (by decide) (by omega) hr (by omega) kk
  · refine x_run (a := 3) (h := 5) (b := 60) (by decide) (by decide) (by decide) (by decide) (by omega) rfl hr (by (try simp only [nt_1]); omega) (fun M1 r1 => ?_)
    exact k48_60 (x_T0 (k := 3) ho (by decide) (by decide) (by omega) r1 (by (try simp only [nt_1]); omega) (fun M2 r2 => u_Acts_plays_304 (kk _ r2)))
  · exact x_T0 ho (by decide) (by decide) (by omega) hr (by omega) kk
  · refine x_run (a := 3) (h := 7) (b := 81) (by decide) (by decide) (by decide) (by decide) (by omega) rfl hr (by (try simp only [nt_1]); omega) (fun M1 r1 => ?_)
    exact k48_81 (x_T0 (k := 4) ho (by decide) (by decide) (by omega) r1 (by (try simp only [nt_1]); omega) (fun M2 r2 => u_Acts_plays_354 (kk _ r2)))
/-- an act, its notes from none -/
def fA (nb k a : Nat) (x : Int32) : Int32 × Nat × (Nat → Int32) := if a = 0 then fW nb k x (0, fun _ => 0) else if a = 1 then fC k nb k x (0, fun _ => 0) else if a = 2 then fO k nb k x (0, fun _ => 0) else fT k nb k x (0, fun _ => 0)
theorem fA_le : (fA nb k a x).2.1 ≤ 14 := by
  unfold fA
  split
  · have := fW_le (nb := nb) (k := k) (x := x) (s := (0, fun _ => 0)); dsimp only at this; omega
  · split
    · have := fC_le (own := k) (nb := nb) (k := k) (x := x) (s := (0, fun _ => 0)); dsimp only at this; omega
    · split
      · have := fO_le (own := k) (nb := nb) (k := k) (x := x) (s := (0, fun _ => 0)); dsimp only at this; omega
      · have := fT_le (own := k) (nb := nb) (k := k) (x := x) (s := (0, fun _ => 0)); dsimp only at this; omega
theorem x_act (hk : k < 8) (ha : a < 4) (hr : RX k nb (0, fun _ => 0) M0 M) (kk : ∀ M', RX k nb (fA nb k a x).2 M0 M' → Q (some (.int (fA nb k a x).1)) M') : am_Call (gG L xs) (d + 13) c_Acts_plays [.ref 37, .int (nI k), .int (nI a), .int x, .int 0] M Q := by
  have h4 : a = 0 ∨ a = 1 ∨ a = 2 ∨ a = 3 := by omega
  rcases h4 with rfl | rfl | rfl | rfl
  · exact x_W (dp := 0) hk (by decide) (by decide) hr (by decide) kk
  · exact x_C (dp := 0) hk hk (by decide) hr (by decide) kk
  · exact x_O (dp := 0) hk hk (by decide) hr (by decide) kk
  · exact x_T (dp := 0) hk hk (by decide) hr (by decide) kk
/-! the reference -/
def RM (own nb : Nat) (s : Nat × (Nat → Int32)) (M0 M : AM) : Prop := fs [56] [43] M0 M ∧ M.1 40 44 = nI own ∧ M.1 40 45 = nI nb ∧ M.1 40 43 = nI s.1 ∧ ∀ i, i < 24 → i < s.1 → M.1 56 i = s.2 i
theorem m_nt {A : AM → Prop} (b : Nat) (h : RM own nb s M0 M) (hb : s.1 < 2 ^ 20) (kk : ∀ M', RM own nb (nt b s) M0 M' → A M') : (24 ≤ (M.1 40 43) → A (am_wi M 40 43 ((M.1 40 43) + 1))) ∧ (¬ 24 ≤ (M.1 40 43) → (vp_in (M.1 40 43) 24) ∧ A (am_wi (am_wi M 56 ((M.1 40 43).toNatClampNeg) (nI b)) 40 43 ((M.1 40 43) + 1))) := by
  obtain ⟨f1, h4, h5, h3, ht⟩ := h
  rw [h3, n_cl (show s.1 < 2 ^ 31 by omega), nI_1]
  refine ⟨fun z => ?_, fun z => ⟨?_, ?_⟩⟩
  · have z := (n_leI (a := 24) (by decide) (by omega)).mp z
    refine kk _ ⟨f1.s (by decide), by rw [wi_sl (by decide)]; exact h4, by rw [wi_sl (by decide)]; exact h5, wi_eq, fun i hi hi2 => ?_⟩
    rw [nt_1] at hi2
    rw [wi_ne (by decide)]
    show _ = if i = s.1 then _ else _
    rw [if_neg (by omega)]
    exact ht i hi (by omega)
  · have z : ¬ 24 ≤ s.1 := fun y => z ((n_leI (a := 24) (by decide) (by omega)).mpr y)
    exact (n_vp (by omega)).mpr (by omega)
  · refine kk _ ⟨(f1.c (by decide) (by decide)).s (by decide), by rw [wi_sl (by decide), wi_ne (by decide)]; exact h4, by rw [wi_sl (by decide), wi_ne (by decide)]; exact h5, wi_eq, fun i hi hi2 => ?_⟩
    rw [nt_1] at hi2
    rw [wi_ne (by decide), wi_rd, if_pos rfl]
    show _ = if i = s.1 then _ else _
    by_cases e : i = s.1
    · rw [if_pos e, if_pos e]
    · rw [if_neg e, if_neg e]; exact ht i hi (by omega)
theorem m_W0 (hr : RM own nb s M0 M) (hs : s.1 + 90 < 2 ^ 20) (kk : ∀ M', RM own nb (w0 nb x s).2 M0 M' → Q (some (.int (w0 nb x s).1)) M') : am_Call (gG L xs) (d + 2) c_Md_waitsAs [.ref 40, .int 0, .int x] M Q :=
  t_Md_waitsAs ⟨fun z => absurd z (by decide), fun _ => ⟨fun z => absurd z (by decide), fun _ => ⟨fun _ => ⟨fun _ => m_nt (A := fun M' => Q (some (.int (x + M'.1 40 45))) M') 1 hr (by omega) (fun M1 r1 => by rw [r1.2.2.1]; exact kk _ r1), fun z => absurd z (by decide)⟩, fun z => absurd z (by decide)⟩⟩⟩
theorem m_W (hk : k < 8) (hr : RM own nb s M0 M) (hs : s.1 + 100 < 2 ^ 20) (kk : ∀ M', RM own nb (fW nb k x s).2 M0 M' → Q (some (.int (fW nb k x s).1)) M') : am_Call (gG L xs) (d + 3) c_Md_waitsAs [.ref 40, .int (nI k), .int x] M Q := by
  have h20 : (∀ M', RM own nb ((w0 nb x (nt 20 s)).2) M0 M' → Q (some (.int ((w0 nb x (nt 20 s)).1 + 3))) M') → (24 ≤ (M.1 40 43) → am_Call (gG L xs) (d + 2) c_Md_waitsAs [.ref 40, .int 0, .int x] (am_wi M 40 43 ((M.1 40 43) + 1)) (fun r M' => v_Md_waitsAs L xs (d + 2) Q 28 [] (r.toList ++ []) M')) ∧ (¬ 24 ≤ (M.1 40 43) → (vp_in (M.1 40 43) 24) ∧ (am_Call (gG L xs) (d + 2) c_Md_waitsAs [.ref 40, .int 0, .int x] (am_wi (am_wi M 56 ((M.1 40 43).toNatClampNeg) (20 : Int32)) 40 43 ((M.1 40 43) + 1)) (fun r M' => v_Md_waitsAs L xs (d + 2) Q 28 [] (r.toList ++ []) M'))) := fun kq =>
    m_nt (A := fun M' => am_Call (gG L xs) (d + 2) c_Md_waitsAs [.ref 40, .int 0, .int x] M' (fun r M' => v_Md_waitsAs L xs (d + 2) Q 28 [] (r.toList ++ []) M')) 20 hr (by omega) (fun M1 r1 => m_W0 r1 (by rw [nt_1]; omega) (fun M2 r2 => u_Md_waitsAs_28 (kq _ r2)))
  refine t_Md_waitsAs ⟨fun z => ?_, fun z1 => ⟨fun z => ?_, fun z2 => ⟨fun z3 => ⟨fun z4 => ?_, fun z => ?_⟩, fun z => ?_⟩⟩⟩
  · have : k = 1 := (nI_eq (b := 1) (by omega) (by decide)).mp z
    subst this; exact h20 kk
  · have : k = 4 := (nI_eq (b := 4) (by omega) (by decide)).mp z
    subst this; exact h20 kk
  · have e : fW nb k x s = w0 nb x s := by
      unfold fW
      rw [if_neg (fun y => by
        rcases y with rfl | rfl | rfl
        · exact z1 rfl
        · exact z2 rfl
        · exact z3 rfl), if_neg (fun y => by subst y; exact z4 rfl)]
    rw [e] at kk
    exact m_nt (A := fun M' => Q (some (.int (x + M'.1 40 45))) M') 1 hr (by omega) (fun M1 r1 => by rw [r1.2.2.1]; exact kk _ r1)
  · have : k = 6 := (nI_eq (b := 6) (by omega) (by decide)).mp z
    subst this
    exact m_nt (A := fun M' => am_Call (gG L xs) (d + 2) c_Md_waitsAs [.ref 40, .int 0, .int x] M' (fun r M' => v_Md_waitsAs L xs (d + 2) Q 49 [] (r.toList ++ []) M')) 70 hr (by omega) (fun M1 r1 => m_W0 r1 (by rw [nt_1]; omega) (fun M2 r2 => u_Md_waitsAs_49 (kk _ r2)))
  · have : k = 7 := (nI_eq (b := 7) (by omega) (by decide)).mp z
    subst this; exact h20 kk
end E17