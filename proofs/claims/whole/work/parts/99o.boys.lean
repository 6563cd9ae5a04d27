section E39
variable {L : Nat} {xs : Nat → Int32} {d : Nat} {Q : AQ} {M M0 M1 M2 : AM} {n N k0 p e v w r q s k m o hi h h' b j : Nat} {f g : Nat → Nat → Nat} {io : Nat → Option Nat} {C G : Nat → Bool} {T : PV} {x1 x2 x3 z : Int32}
/-- boys behind the people -/
def bff (f : Nat → Nat → Nat) (n s h : Nat) : Nat → Nat → Nat → Nat
  | 0 => f
  | j + 1 => newf (bff f n s h j) (n + j) h s 1
theorem bff_lt (hp : p < n) : ∀ j, bff f n s h j w p = f w p
  | 0 => rfl
  | j + 1 => by
    show newf (bff f n s h j) (n + j) h s 1 w p = _
    rw [newf_ne (by omega)]
    exact bff_lt hp j
theorem bff_ge (hp : n ≤ p) : ∀ j, p < n + j → bff f n s h j w p = (if w = 0 then h else if w = 1 then s else if w = 2 then 1 else if w = 3 then 0 else 5)
  | 0, hj => by omega
  | j + 1, hj => by
    show newf (bff f n s h j) (n + j) h s 1 w p = _
    by_cases q : p = n + j
    · rw [q]; exact newf_at
    · rw [newf_ne q]
      exact bff_ge hp j (by omega)
theorem bff_w (hw : w ≠ 0) : ∀ j, bff f n s h j w p = bff f n s h' j w p
  | 0 => rfl
  | j + 1 => by
    show newf (bff f n s h j) (n + j) h s 1 w p = newf (bff f n s h' j) (n + j) h' s 1 w p
    unfold newf
    by_cases q : p = n + j
    · rw [if_pos q, if_pos q, if_neg hw, if_neg hw]
    · rw [if_neg q, if_neg q]
      exact bff_w hw j
theorem bff_ok (hf : okP n f) (hh : 100 ≤ h ∧ h ≤ 220) (hs : s ≤ 99) : ∀ j, okP (n + j) (bff f n s h j)
  | 0 => hf
  | j + 1 => (bff_ok hf hh hs j).new hh hs ⟨Nat.le_refl _, by decide⟩
/-- who waits at a stroke, the boys with them -/
def brW (n : Nat) (f : Nat → Nat → Nat) (s b : Nat) (io : Nat → Option Nat) : Nat → Bool := wtg (n + b) (bff f n s 100 b) s (ein (n + b)) io
theorem brW_h : wtg (n + b) (bff f n s h b) s (ein (n + b)) io = brW n f s b io := by
  funext p
  unfold brW wtg thrN thr
  rw [bff_w (h := h) (h' := 100) (w := 1) (by decide), bff_w (h := h) (h' := 100) (w := 2) (by decide)]
/-- is it oneself, with so many boys so tall -/
def hit (T : PV) (n : Nat) (f : Nat → Nat → Nat) (s k : Nat) (io : Nat → Option Nat) (b h : Nat) : Bool := decide (pck T (bff f n s h b) s 5 (n + b) (brW n f s b io) = some k)
theorem hit_in (hk : io k ≠ none) : hit T n f s k io b h = false := by
  refine decide_eq_false (fun z => hk ?_)
  have := (pck_some z).2
  exact (wtg_t this).2.2.2
theorem hit_even (he : cnt (brW n f s b io) (n + b) % 2 = 0) : hit T n f s k io b h = false := by
  refine decide_eq_false (fun z => ?_)
  unfold pck at z
  rw [show ixp 5 (cnt (brW n f s b io) (n + b)) = none from by
    unfold ixp
    by_cases h0 : cnt (brW n f s b io) (n + b) = 0
    · rw [if_pos h0]
    · rw [if_neg h0, if_pos rfl, if_pos he]] at z
  cases z
def fH (ht : Nat → Bool) : Nat → Nat → Option Nat
  | 0, _ => none
  | j + 1, h => if ht h then some h else fH ht j (h + 1)
theorem fH_no {ht : Nat → Bool} (hn : ∀ h, ht h = false) : ∀ j h, fH ht j h = none
  | 0, _ => rfl
  | j + 1, h => by
    unfold fH
    rw [if_neg (by rw [hn h]; decide)]
    exact fH_no hn j (h + 1)
theorem fH_b {ht : Nat → Bool} : ∀ j h x, fH ht j h = some x → h ≤ x ∧ x < h + j
  | 0, h, x, z => by cases z
  | j + 1, h, x, z => by
    unfold fH at z
    by_cases y : ht h = true
    · rw [if_pos y] at z; cases z; omega
    · rw [if_neg y] at z
      have := fH_b j (h + 1) x z
      omega
/-- how tall so many boys have to be -/
def hob (T : PV) (n : Nat) (f : Nat → Nat → Nat) (s k : Nat) (io : Nat → Option Nat) (b : Nat) : Option Nat := fH (hit T n f s k io b) (if b = 0 then 1 else 121) 100
theorem hob_b {x : Nat} (hx : hob T n f s k io b = some x) : 100 ≤ x ∧ x ≤ 220 := by
  unfold hob at hx
  have := fH_b _ _ _ hx
  by_cases h0 : b = 0
  · rw [if_pos h0] at this; omega
  · rw [if_neg h0] at this; omega
/-- the first number of boys that will do -/
def brg (hb : Nat → Option Nat) : Nat → Nat → Option (Nat × Nat)
  | 0, _ => none
  | j + 1, b => match hb b with
    | some h => some (b, h)
    | none => brg hb j (b + 1)
theorem brg_n {hb : Nat → Option Nat} (z : hb b = none) : brg hb (j + 1) b = brg hb j (b + 1) := by
  show (match hb b with | some h => some (b, h) | none => _) = _
  rw [z]
theorem brg_s {hb : Nat → Option Nat} (z : hb b = some h) : brg hb (j + 1) b = some (b, h) := by
  show (match hb b with | some h => some (b, h) | none => _) = _
  rw [z]
theorem brg_no {hb : Nat → Option Nat} (hn : ∀ b, hb b = none) : ∀ j b, brg hb j b = none
  | 0, _ => rfl
  | j + 1, b => by rw [brg_n (hn b)]; exact brg_no hn j (b + 1)
def brV (w : Nat) : Option (Nat × Nat) → Int32
  | none => -2
  | some (b, h) => if w = 0 then nI b else if b = 0 then 0 else nI h
abbrev oK : List Nat := [7, 13, 14, 16, 17, 18]
/-- the class's crowd with boys in it -/
def bS (n : Nat) (f : Nat → Nat → Nat) (M : AM) : Prop := ∃ (N : Nat) (g : Nat → Nat → Nat), n ≤ N ∧ crw 16 17 N g M ∧ cch 16 18 N g M ∧ ∀ w p, w < 5 → p < n → g w p = f w p
/-- heights told so far -/
def mix (f : Nat → Nat → Nat) (n h q : Nat) : Nat → Nat → Nat := fun a p => if a = 0 ∧ (n ≤ p ∧ p < n + q) then h else f a p
theorem mix_up : upf (mix f n h q) 0 (n + q) h = mix f n h (q + 1) := by
  funext a p
  unfold upf mix
  by_cases h1 : a = 0
  · by_cases h2 : p = n + q
    · rw [if_pos ⟨h1, h2⟩, if_pos ⟨h1, by omega, by omega⟩]
    · rw [if_neg (fun z => h2 z.2)]
      by_cases h3 : n ≤ p ∧ p < n + q
      · rw [if_pos ⟨h1, h3⟩, if_pos ⟨h1, by omega, by omega⟩]
      · rw [if_neg (fun z => h3 z.2), if_neg (fun z => h3 ⟨z.2.1, by omega⟩)]
  · rw [if_neg (fun z => h1 z.1), if_neg (fun z => h1 z.1), if_neg (fun z => h1 z.1)]
theorem mix_0 : mix f n h 0 = f := by
  funext a p
  unfold mix
  rw [if_neg (fun z => by omega)]
theorem mix_b {a p : Nat} (hp : p < n + b) : mix (bff f n s h' b) n h b a p = bff f n s h b a p := by
  unfold mix
  by_cases h1 : a = 0
  · by_cases h2 : n ≤ p
    · rw [if_pos ⟨h1, h2, hp⟩, bff_ge h2 b hp, if_pos h1]
    · rw [if_neg (fun z => h2 z.2.1), bff_lt (by omega), bff_lt (by omega)]
  · rw [if_neg (fun z => h1 z.1)]
    exact bff_w h1 b
theorem xS.kp (hx : xS n f T M) (F : fr oK M M1) : xS n f T M1 := ⟨hx.1.fr (by rw [F.i 1]) (F.i 2), hx.2.1.keep (by rw [F.i 4]) (F.i 5) (F.i 6), hx.2.2⟩
theorem x_tells (hx : xS n f T M) (hb : n + b ≤ 15) (hc : cwG (n + b) (bff f n s h' b) M) {W : Int32} {last : Int32} {y1 y2 : Int32}
    (kk : ∀ M', fr oK M M' → cwG (n + b) (bff f n s h b) M' → v_Wishes_heightOfBoys L xs (d + 1) Q 128 [(0, .ref 20), (1, .int y1), (2, .int y2), (4, .ref 16), (6, .int W), (7, .int last), (8, .int (nI h)), (9, .int (nI (n + b)))] [] M') : v_Wishes_heightOfBoys L xs (d + 1) Q 128 [(0, .ref 20), (1, .int y1), (2, .int y2), (4, .ref 16), (6, .int W), (7, .int last), (8, .int (nI h)), (9, .int (nI n))] [] M := by
  have loop : ∀ j q (M1 : AM), q + j = b → fr oK M M1 → cwG (n + b) (mix (bff f n s h' b) n h q) M1 → v_Wishes_heightOfBoys L xs (d + 1) Q 128 [(0, .ref 20), (1, .int y1), (2, .int y2), (4, .ref 16), (6, .int W), (7, .int last), (8, .int (nI h)), (9, .int (nI (n + q)))] [] M1 := by
    intro j
    induction j with
    | zero =>
      intro q M1 hq F c1
      have : q = b := by omega
      subst this
      exact kk M1 F (c1.cg (fun a p ha hp => mix_b hp))
    | succ j ih =>
      intro q M1 hq F c1
      have hqb : n + q < n + b := by omega
      have hw : crw 16 17 (n + b) (upf (mix (bff f n s h' b) n h q) 0 (n + q) h) (am_wi M1 17 (0 * 15 + (n + q)) (nI h)) := c1.1.set (by decide) (by decide) hqb
      rw [mix_up, Nat.zero_mul, Nat.zero_add] at hw
      have hcc : cch 16 18 (n + b) (mix (bff f n s h' b) n h (q + 1)) (am_wi M1 17 (n + q) (nI h)) := c1.2.congr (by rw [wi_ne (by decide)]) (wi_ne (by decide)) (fun p _ => by
        unfold mix
        rw [if_neg (fun z => by omega), if_neg (fun z => by omega), if_neg (fun z => by omega), if_neg (fun z => by omega)]
        exact ⟨rfl, rfl⟩)
      have R := ih (q + 1) (am_wi M1 17 (n + q) (nI h)) (by omega) (F.wi (by decide)) ⟨hw, hcc⟩
      rw [show n + (q + 1) = n + q + 1 from rfl, ← nI_1] at R
      have e0 : (0 : Int32) * 15 + nI (n + q) = nI (n + q) := by rw [show (0 : Int32) * 15 = nI 0 from by decide, nI_add, Nat.zero_add]
      refine u_Wishes_heightOfBoys_128 ⟨fun z => absurd z (by rw [c1.1.1]; exact nI_ge hqb (by omega)), fun _ => ⟨fun z => absurd z (nI_pos (by omega)), fun _ => ⟨fun _ => ?_, fun z => absurd (by rw [c1.1.1]; exact nI_lt hqb (by omega)) z⟩⟩⟩
      rw [e0, n_cl (show n + q < 2 ^ 31 by omega)]
      exact ⟨(n_vp (by omega)).mpr (by omega), R⟩
  exact loop b 0 M (by omega) fr.rf (by rw [mix_0]; exact hc)
theorem x_hob (hd : 9 ≤ d) (hx : xS n f T M) (hk : k < n) (hs : s ≤ 99) (hb3 : b ≤ 3) (hio : ∀ p, n ≤ p → io p = none) (h15 : M.1 15 3 = sI (fun p => ein n p && (io p).isNone)) (hbS : bS n f M)
    (kk : ∀ M', fr oK M M' → bS n f M' → Q (some (.int (oI (hob T n f s k io b)))) M') : am_Call (gG L xs) d c_Wishes_heightOfBoys [.ref 20, .int (nI k), .int (nI s), .int (nI b)] M Q := by
  obtain ⟨d, rfl⟩ : ∃ a, d = a + 2 := ⟨d - 2, by omega⟩
  have hn := hx.2.2.2
  have hf := hx.2.2.1
  have hW : ∀ p, brW n f s b io p = true → p < n + b := fun p hp => (wtg_t hp).1
  have bSo : ∀ (M1 : AM) (h : Nat), cwG (n + b) (bff f n s h b) M1 → bS n f M1 := fun M1 h c => ⟨n + b, _, by omega, c.1, c.2, fun w p hw hp => bff_lt hp b⟩
  -- the heights
  have heights : ∀ (j h h0 : Nat) (last : Nat) (M1 : AM), h + j = last + 1 → h + j ≤ 221 → 100 ≤ h → fr oK M M1 → cwG (n + b) (bff f n s h0 b) M1 → fH (hit T n f s k io b) j h = hob T n f s k io b → v_Wishes_heightOfBoys L xs (d + 1) Q 112 [(0, .ref 20), (1, .int (nI k)), (2, .int (nI s)), (4, .ref 16), (6, .int (sI (brW n f s b io))), (7, .int (nI last)), (8, .int (nI h))] [] M1 := by
    intro j
    induction j with
    | zero =>
      intro h h0 last M1 hj hj2 hh F c1 ha
      have K := kk M1 F (bSo M1 h0 c1)
      rw [← ha] at K
      exact u_Wishes_heightOfBoys_112 ⟨fun _ => K, fun z => absurd (nI_lt (by omega) (by omega)) z⟩
    | succ j ih =>
      intro h h0 last M1 hj hj2 hh F c1 ha
      have s1 := hx.kp F
      refine u_Wishes_heightOfBoys_112 ⟨fun z => absurd ((n_ltI (by omega) (by omega)).mp z) (by omega), fun _ => ?_⟩
      rw [s1.1.1]
      refine x_tells (h := h) s1 (by omega) c1 (fun M2 f2 c2 => ?_)
      have F2 : fr oK M M2 := F.tr f2 (fun _ h => h) (fun _ h => h)
      have s2 := hx.kp F2
      refine u_Wishes_heightOfBoys_128 ⟨fun _ => ?_, fun z => absurd (by rw [c2.1.1]; exact nI_le (Nat.le_refl _) (by omega)) z⟩
      refine s_picks (pl := 5) (by omega) isCr2 ⟨by decide, by decide⟩ c2.1 s2.2.1 hW (by decide) (fun M3 f3 => ?_)
      have F3 : fr oK M M3 := F2.tr f3 (fun _ h => h) (by decide)
      have c3 : cwG (n + b) (bff f n s h b) M3 := ⟨c2.1.fr (by rw [f3.i 16]) (f3.i 17), c2.2.congr (by rw [f3.i 16]) (f3.i 18) (fun _ _ => ⟨rfl, rfl⟩)⟩
      have eq : oM (pck T (bff f n s h b) s 5 (n + b) (brW n f s b io)) = nI k ↔ pck T (bff f n s h b) s 5 (n + b) (brW n f s b io) = some k := by
        cases z : pck T (bff f n s h b) s 5 (n + b) (brW n f s b io) with
        | none => exact ⟨fun y => absurd (show nI k < 0 by rw [← y]; decide) (nI_pos (by omega)), fun y => by cases y⟩
        | some a =>
          have ha := (pck_some z).1
          exact ⟨fun y => by rw [(nI_eq (a := a) (by omega) (by omega)).mp y], fun y => by cases y; rfl⟩
      unfold fH at ha
      refine u_Wishes_heightOfBoys_167 ⟨fun z => ?_, fun z => ?_⟩
      · rw [if_neg (by unfold hit; rw [decide_eq_false (fun y => z (eq.mpr y))]; decide)] at ha
        rw [nI_1]
        exact ih (h + 1) h last M3 (by omega) (by omega) (by omega) F3 c3 ha
      · rw [if_pos (by unfold hit; rw [decide_eq_true (eq.mp z)])] at ha
        have K := kk M3 F3 (bSo M3 h c3)
        rw [← ha] at K
        exact K
  have joins : ∀ j q (M1 : AM), q + j = b → fr oK M M1 → cwG (n + q) (bff f n s 100 q) M1 → v_Wishes_heightOfBoys L xs (d + 1) Q 24 [(0, .ref 20), (1, .int (nI k)), (2, .int (nI s)), (3, .int (nI b)), (4, .ref 16), (5, .int (nI q))] [] M1 := by
    intro j
    induction j with
    | zero =>
      intro q M1 hq F c1
      have eqb : q = b := by omega
      subst eqb
      have s1 := hx.kp F
      refine u_Wishes_heightOfBoys_24 ⟨fun _ => ?_, fun z => absurd (nI_le (Nat.le_refl _) (by omega)) z⟩
      rw [F.i 15, h15, c1.1.1, s1.1.1, sI_all (by omega), sI_all (by omega), sI_andn, sI_or]
      refine s_waiting (by omega) isCr2 ⟨by decide, by decide, by decide⟩ c1.1 (bff_ok hf ⟨Nat.le_refl _, by decide⟩ hs q) c1.2 (by omega) (fun M2 f2 e16 cc2 => u_Wishes_heightOfBoys_79 ?_)
      have eW : (fun p => thrN (n + q) (bff f n s 100 q) s p && ((ein n p && (io p).isNone) || (decide (p < n + q) && !decide (p < n)))) = brW n f s q io := by
        funext p
        unfold brW wtg thrN ein
        by_cases h1 : p < n
        · simp [h1, show p < n + q from by omega]
        · rw [hio p (by omega)]
          by_cases h2 : p < n + q
          · simp [h1, h2]
          · simp [h2]
      rw [eW]
      have F2 : fr oK M M2 := F.tr f2 (fun _ h => h) (by decide)
      have c2 : cwG (n + q) (bff f n s 100 q) M2 := ⟨c1.1.fr e16 (f2.i 17), cc2⟩
      have ec : cnt (brW n f s q io) 15 = cnt (brW n f s q io) (n + q) := cnt_up (by omega) (fun p h1 _ => by
        cases z : brW n f s q io p with
        | false => rfl
        | true => have := hW p z; omega)
      have hcl := cnt_le (brW n f s q io) (n + q)
      refine s_bitCount (u_Wishes_heightOfBoys_86 ?_)
      rw [ec, show irem (nI (cnt (brW n f s q io) (n + q))) 2 = nI (cnt (brW n f s q io) (n + q) % 2) from n_rem (d := 2) (by omega) (by decide) (by decide)]
      have e2 : nI (cnt (brW n f s q io) (n + q) % 2) = 0 ↔ cnt (brW n f s q io) (n + q) % 2 = 0 := nI_eq (b := 0) (by omega) (by decide)
      have b0 : nI q = 0 ↔ q = 0 := nI_eq (b := 0) (by omega) (by decide)
      refine ⟨fun _ => ⟨fun z => ?_, fun z => ?_⟩, fun z => ?_⟩
      · refine heights 121 100 100 220 M2 (by omega) (by omega) (by omega) F2 c2 ?_
        unfold hob
        rw [if_neg (fun y => z (b0.mpr y))]
      · refine heights 1 100 100 100 M2 (by omega) (by omega) (by omega) F2 c2 ?_
        unfold hob
        rw [if_pos (b0.mp z)]
      · have K := kk M2 F2 (bSo M2 100 c2)
        unfold hob at K
        rw [fH_no (fun h => hit_even (e2.mp z))] at K
        exact K
    | succ j ih =>
      intro q M1 hq F c1
      have e16 := c1.1.1
      refine u_Wishes_heightOfBoys_24 ⟨fun z => absurd ((n_leI (by omega) (by omega)).mp z) (by omega), fun _ => ⟨fun _ => ?_, fun z => absurd (by rw [e16]; exact (n_ltI (b := 15) (by omega) (by decide)).mpr (by omega)) z⟩⟩
      have cn := c1.1.new (a := 100) (b := s) (e := 1) (by omega) (by decide)
      have R := ih (q + 1) _ (by omega) (((((((F.wi (by decide)).wi (by decide)).wi (by decide)).wi (by decide)).wi (by decide)).wi (by decide)).wi (by decide)) ⟨cn, Or.inl wi_eq⟩
      rw [e16, nI_1, nI_1, (q15 (n + q)).1, (q15 (n + q)).2.1, (q15 (n + q)).2.2.1, (q15 (n + q)).2.2.2.1, (q15 (n + q)).2.2.2.2, n_cl (show 0 + (n + q) < 2 ^ 31 by omega), n_cl (show 15 + (n + q) < 2 ^ 31 by omega), n_cl (show 30 + (n + q) < 2 ^ 31 by omega), n_cl (show 45 + (n + q) < 2 ^ 31 by omega), n_cl (show 60 + (n + q) < 2 ^ 31 by omega)]
      exact ⟨(n_vp (by omega)).mpr (by omega), (n_vp (by omega)).mpr (by omega), (n_vp (by omega)).mpr (by omega), (n_vp (by omega)).mpr (by omega), (n_vp (by omega)).mpr (by omega), R⟩
  obtain ⟨N, g, hN, r1, r2, hg⟩ := hbS
  have hN15 := r1.2.1
  refine t_Wishes_heightOfBoys ⟨fun z => absurd z (by rw [hx.1.1]; exact nI_pos (by omega)), fun _ => ⟨fun z => ?_, fun z => ?_⟩⟩
  · rw [hx.1.1]
    refine joins b 0 _ (by omega) ((fr.rf.wi (by decide)).wi (by decide)) ⟨⟨by rw [wi_sl (by decide), wi_eq]; rfl, by omega, fun w p hw hp => ?_⟩, Or.inl wi_eq⟩
    rw [wi_ne (by decide), wi_ne (by decide), r1.2.2 w p hw (by omega), hg w p hw (by omega)]
    rfl
  · rw [hx.1.1, r1.1] at z
    have eN : N = n := by
      have : ¬ n < N := fun y => z (nI_lt y (by omega))
      omega
    subst eN
    exact joins b 0 M (by omega) fr.rf ⟨r1.cg hg, r2.congr rfl rfl (fun p hp => ⟨hg 1 p (by decide) hp, hg 2 p (by decide) hp⟩)⟩
end E39
