/-! ===== sorting those who wait; the picker ===== -/
def insR (t : Nat → Int32) (p : Nat) : List Nat → List Nat
  | [] => [p]
  | x :: r => if t p < t x then x :: insR t p r else p :: x :: r
def srt (W : Nat → Bool) (t : Nat → Int32) : Nat → List Nat
  | 0 => []
  | n + 1 => if W n then insR t n (srt W t n) else srt W t n
theorem insR_len (t : Nat → Int32) (p : Nat) : ∀ l, (insR t p l).length = l.length + 1
  | [] => rfl
  | x :: r => by
    unfold insR
    split
    · simp [insR_len t p r]
    · simp
theorem srt_len (W : Nat → Bool) (t : Nat → Int32) : ∀ n, (srt W t n).length = cnt W n
  | 0 => rfl
  | n + 1 => by
    rw [cnt_s, srt]
    split
    · rw [insR_len, srt_len W t n]
    · rw [srt_len W t n]; rfl
/-- the element at a place of a row that is a list, its last first -/
def rg : List Nat → Nat → Option Nat
  | [], _ => none
  | x :: r, i => if i = r.length then some x else rg r i
theorem rg_none : ∀ (l : List Nat) (i : Nat), l.length ≤ i → rg l i = none
  | [], _, _ => rfl
  | x :: r, i, h => by
    simp only [List.length_cons] at h
    rw [rg, if_neg (by omega), rg_none r i (by omega)]
theorem rg_some : ∀ (l : List Nat) (i : Nat), i < l.length → ∃ x, rg l i = some x ∧ x ∈ l
  | [], _, h => absurd h (by simp)
  | x :: r, i, h => by
    simp only [List.length_cons] at h
    rw [rg]
    by_cases e : i = r.length
    · rw [if_pos e]; exact ⟨x, rfl, List.mem_cons_self⟩
    · rw [if_neg e]
      obtain ⟨y, h1, h2⟩ := rg_some r i (by omega)
      exact ⟨y, h1, List.mem_cons_of_mem _ h2⟩
theorem skR_rg {g : Nat → Int32} {u : Nat → Int32} : ∀ (l : List Nat) (i x : Nat), skR (l.map u) g → rg l i = some x → g i = u x
  | [], _, _, _, h => by cases h
  | y :: r, i, x, hs, h => by
    simp only [List.map_cons, skR, List.length_map] at hs
    rw [rg] at h
    by_cases e : i = r.length
    · rw [if_pos e] at h
      cases h
      rw [e]; exact hs.1
    · rw [if_neg e] at h
      exact skR_rg r i x hs.2 h
/-- who is found: nobody is -1 -/
def oM : Option Nat → Int32
  | none => -1
  | some p => nI p
/-- who is let in when; not: -2 -/
def oI : Option Nat → Int32
  | none => -2
  | some p => nI p
def ixp (pl w : Nat) : Option Nat := if w = 0 then none else if pl = 5 then (if w % 2 = 0 then none else some (w / 2)) else some (pl * (w - 1) / 4)
/-- who of a set is at a place, at a stroke -/
def pck (T : (Nat → Int32) → Int32) (f : Nat → Nat → Nat) (s pl N : Nat) (W : Nat → Bool) : Option Nat := match ixp pl (cnt W N) with
  | none => none
  | some i => rg (srt W (fun k => T (nmf f s (cnt W N) k)) N) i
theorem srt_mem {W : Nat → Bool} {t : Nat → Int32} : ∀ {n x : Nat}, x ∈ srt W t n → x < n ∧ W x = true
  | 0, x, h => by cases h
  | n + 1, x, h => by
    have key : ∀ l, x ∈ insR t n l → x = n ∨ x ∈ l := by
      intro l
      induction l with
      | nil => intro h; rw [insR] at h; exact Or.inl (List.mem_singleton.mp h)
      | cons y r ih =>
        intro h
        rw [insR] at h
        split at h
        · rcases List.mem_cons.mp h with h | h
          · exact Or.inr (h ▸ List.mem_cons_self)
          · rcases ih h with h | h
            · exact Or.inl h
            · exact Or.inr (List.mem_cons_of_mem _ h)
        · rcases List.mem_cons.mp h with h | h
          · exact Or.inl h
          · exact Or.inr h
    rw [srt] at h
    by_cases hw : W n = true
    · rw [if_pos hw] at h
      rcases key _ h with h | h
      · subst h; exact ⟨by omega, hw⟩
      · have := srt_mem h; exact ⟨by omega, this.2⟩
    · rw [if_neg hw] at h
      have := srt_mem h; exact ⟨by omega, this.2⟩
theorem pck_some {T : (Nat → Int32) → Int32} {f : Nat → Nat → Nat} {s pl N k : Nat} {W : Nat → Bool} (h : pck T f s pl N W = some k) : k < N ∧ W k = true := by
  unfold pck at h
  split at h
  · cases h
  · rename_i i _
    by_cases hi : i < (srt W (fun k => T (nmf f s (cnt W N) k)) N).length
    · obtain ⟨x, h1, h2⟩ := rg_some _ _ hi
      rw [h1] at h
      cases h
      exact srt_mem h2
    · rw [rg_none _ _ (by omega)] at h; cases h
theorem cnt_0 {W : Nat → Bool} : ∀ {n : Nat}, cnt W n = 0 → ∀ p, p < n → W p = false
  | 0, _, p, hp => by omega
  | n + 1, h, p, hp => by
    rw [cnt_s] at h
    by_cases e : p = n
    · subst e
      cases hw : W p with
      | false => rfl
      | true => rw [hw] at h; simp at h
    · exact cnt_0 (n := n) (by omega) p (by omega)
theorem cnt_z {W : Nat → Bool} {n : Nat} (h : ∀ p, p < n → W p = false) : cnt W n = 0 := by
  induction n with
  | zero => rfl
  | succ n ih => rw [cnt_s, ih (fun p hp => h p (by omega)), h n (by omega)]; rfl
theorem cnt_up {W : Nat → Bool} {n m : Nat} (hnm : n ≤ m) (h : ∀ p, n ≤ p → p < m → W p = false) : cnt W m = cnt W n := by
  induction m with
  | zero => have : n = 0 := by omega
            subst this; rfl
  | succ m ih =>
    by_cases e : n = m + 1
    · rw [e]
    · rw [cnt_s, h m (by omega) (by omega), ih (by omega) (fun p h1 h2 => h p h1 (by omega))]; rfl
theorem srt_congr {W : Nat → Bool} {t t' : Nat → Int32} {n : Nat} (h : cnt W n = 1) : srt W t n = srt W t' n := by
  induction n with
  | zero => rfl
  | succ n ih =>
    rw [cnt_s] at h
    rw [srt, srt]
    by_cases hw : W n = true
    · rw [if_pos hw, if_pos hw]
      rw [if_pos hw] at h
      have h0 : cnt W n = 0 := by omega
      have e1 : srt W t n = [] := List.eq_nil_of_length_eq_zero (by rw [srt_len]; exact h0)
      have e2 : srt W t' n = [] := List.eq_nil_of_length_eq_zero (by rw [srt_len]; exact h0)
      rw [e1, e2]; rfl
    · rw [if_neg hw, if_neg hw]
      rw [if_neg hw] at h
      exact ih (by omega)
section SP
variable {L : Nat} {xs : Nat → Int32} {d : Nat} {Q : AQ} {M : AM} {c nu th n : Nat} {f : Nat → Nat → Nat}
theorem s_pickIns {t : Nat → Int32} {p : Nat} {x2 x3 x5 x6 x7 : Int32} (hc : isCr c nu th) : ∀ (lo : List Nat) (M : AM), lo.length ≤ 14 → skR (lo.map nI) (M.1 13) → skR (lo.map t) (M.1 14) →
    (∀ M', fr [13, 14] M M' → skR ((insR t p lo).map nI) (M'.1 13) → skR ((insR t p lo).map t) (M'.1 14) → (∀ j, lo.length < j → M'.1 13 j = M.1 13 j ∧ M'.1 14 j = M.1 14 j) → v_Picker_picks L xs d Q 56 [(0, .ref 12), (1, .ref c), (2, .int x2), (3, .int x3), (5, .int x5), (6, .int x6), (7, .int (x7 + 1)), (8, .int (nI p + 1))] [] M') →
    v_Picker_picks L xs d Q 106 [(0, .ref 12), (1, .ref c), (2, .int x2), (3, .int x3), (5, .int x5), (6, .int x6), (7, .int x7), (8, .int (nI p)), (9, .int (t p)), (10, .int (nI lo.length))] [] M := by
  intro lo
  induction lo with
  | nil =>
    intro M hl h1 h2 k
    refine u_Picker_picks_106 hc ⟨fun _ => ⟨(n_vp (by decide)).mpr (by decide), ?_⟩, fun h => absurd (by decide) h⟩
    refine k _ ((fr.rf.wi (by simp)).wi (by simp)) ⟨?_, trivial⟩ ⟨?_, trivial⟩ (fun j hj => ?_)
    · rw [wi_ne (by decide)]; exact wi_eq
    · exact wi_eq
    · simp only [List.length_nil] at hj
      refine ⟨?_, ?_⟩
      · rw [wi_ne (by decide)]; exact wi_sl (by rw [n_cl (by decide)]; simp; omega)
      · rw [wi_sl (by rw [n_cl (by decide)]; simp; omega), wi_ne (by decide)]
  | cons x r ih =>
    intro M hl h1 h2 k
    simp only [List.length_cons] at hl
    simp only [List.map_cons, skR, List.length_map] at h1 h2
    have hlen : (x :: r).length = r.length + 1 := rfl
    rw [hlen]
    refine u_Picker_picks_106 hc ⟨fun h => absurd h (nI_nle (by omega) (by omega)), fun _ => ?_⟩
    rw [n_top, n_cl (show r.length < 2 ^ 31 by omega), n_cl (show r.length + 1 < 2 ^ 31 by omega), h1.1, h2.1]
    refine ⟨(n_vp (by omega)).mpr (by omega), fun h => ⟨(n_vp (by omega)).mpr (by omega), ?_⟩, fun h => ⟨(n_vp (by omega)).mpr (by omega), ?_⟩⟩
    · have hn : ¬ t p < t x := fun z => Int32.lt_irrefl (Int32.lt_of_lt_of_le z h)
      have ei : insR t p (x :: r) = p :: x :: r := by rw [insR, if_neg hn]
      rw [ei] at k
      refine k _ ((fr.rf.wi (by simp)).wi (by simp)) ⟨?_, ?_⟩ ⟨?_, ?_⟩ (fun j hj => ?_)
      · rw [wi_ne (by decide)]; simp only [List.length_map, List.length_cons]; exact wi_eq
      · rw [wi_ne (by decide)]
        refine ⟨?_, skR_ext (fun i hi => ?_) h1.2⟩
        · simp only [List.length_map]; rw [wi_sl (by omega)]; exact h1.1
        · simp only [List.length_map] at hi; rw [wi_sl (by omega)]
      · simp only [List.length_map, List.length_cons]; exact wi_eq
      · refine ⟨?_, skR_ext (fun i hi => ?_) h2.2⟩
        · simp only [List.length_map]; rw [wi_sl (by omega), wi_ne (by decide)]; exact h2.1
        · simp only [List.length_map] at hi; rw [wi_sl (by omega), wi_ne (by decide)]
      · rw [hlen] at hj
        exact ⟨by rw [wi_ne (by decide), wi_sl (by omega)], by rw [wi_sl (by omega), wi_ne (by decide)]⟩
    · have hlt : t p < t x := Int32.not_le.mp h
      have ei : insR t p (x :: r) = x :: insR t p r := by rw [insR, if_pos hlt]
      rw [ei] at k
      rw [show nI (r.length + 1) + (-1) = nI r.length from n_m1p]
      refine ih _ (by omega) (skR_ext (fun i hi => ?_) h1.2) (skR_ext (fun i hi => ?_) h2.2) (fun M' g0 g1 g2 g3 => ?_)
      · simp only [List.length_map] at hi; rw [wi_ne (by decide), wi_sl (by omega)]
      · simp only [List.length_map] at hi; rw [wi_sl (by omega), wi_ne (by decide)]
      · have e3 := g3 (r.length + 1) (by omega)
        rw [wi_ne (by decide), wi_eq] at e3
        rw [wi_eq] at e3
        refine k M' (fr.tr ((fr.rf.wi (by simp)).wi (by simp)) g0 (fun b hb => hb) (fun b hb => hb)) ⟨?_, g1⟩ ⟨?_, g2⟩ (fun j hj => ?_)
        · simp only [List.length_map, insR_len]; exact e3.1
        · simp only [List.length_map, insR_len]; exact e3.2
        · rw [hlen] at hj
          have e4 := g3 j (by omega)
          rw [wi_ne (by decide), wi_sl (by omega), wi_sl (by omega), wi_ne (by decide)] at e4
          exact e4
/-- who is at a place -/
theorem s_picks {s pl : Nat} {W : Nat → Bool} {T : (Nat → Int32) → Int32} (hd : 3 ≤ d) (hc : isCr c nu th) (hcn : c ∉ [7, 13, 14] ∧ nu ∉ [7, 13, 14]) (hR : crw c nu n f M) (hL : lawX T M) (hW : ∀ p, W p = true → p < n) (hpl : pl ≤ 5) (k : ∀ M', fr [7, 13, 14] M M' → Q (some (.int (oM (pck T f s pl n W)))) M') : am_Call (gG L xs) d c_Picker_picks [.ref 12, .ref c, .int (nI s), .int (sI W), .int (nI pl)] M Q := by
  obtain ⟨d, rfl⟩ : ∃ e, d = e + 3 := ⟨d - 3, by omega⟩
  have hn := hR.2.1
  refine t_Picker_picks hc (s_bitCount ?_)
  have hcw : cnt W 15 = cnt W n := cnt_up hn (fun p h1 _ => by
    cases e : W p with
    | false => rfl
    | true => exact absurd (hW p e) (by omega))
  rw [hcw]
  have hw := cnt_le W n
  generalize hwd : cnt W n = w at hw k
  have loop : ∀ (i : Nat), i < 2 ^ 20 → (∀ M', fr [7, 13, 14] M M' → Q (some (.int (oM (rg (srt W (fun k => T (nmf f s w k)) n) i)))) M') → ∀ j p (Mm : AM), p + j = n → fr [7, 13, 14] M Mm → skR ((srt W (fun k => if w = 1 then 0 else T (nmf f s w k)) p).map nI) (Mm.1 13) → skR ((srt W (fun k => if w = 1 then 0 else T (nmf f s w k)) p).map (fun k => if w = 1 then 0 else T (nmf f s w k))) (Mm.1 14) →
      v_Picker_picks L xs (d + 2) Q 56 [(0, .ref 12), (1, .ref c), (2, .int (nI s)), (3, .int (sI W)), (5, .int (nI w)), (6, .int (nI i)), (7, .int (nI (srt W (fun k => if w = 1 then 0 else T (nmf f s w k)) p).length)), (8, .int (nI p))] [] Mm := by
    intro i hi k j
    induction j with
    | zero =>
      intro p Mm hp hfr h1 h2
      have : p = n := by omega
      subst this
      have e2 : srt W (fun k => T (nmf f s w k)) p = srt W (fun k => if w = 1 then 0 else T (nmf f s w k)) p := by
        by_cases h : w = 1
        · exact srt_congr (by omega)
        · simp only [if_neg h]
      rw [e2] at k
      have hl : (srt W (fun k => if w = 1 then 0 else T (nmf f s w k)) p).length = w := by rw [srt_len, hwd]
      refine u_Picker_picks_56 hc ⟨fun _ => ⟨fun h => absurd h (nI_pos (by omega)), fun _ => ⟨fun h => ?_, fun h => ?_⟩⟩, fun h => absurd ?_ h⟩
      · rw [n_leI (by omega) (by omega)] at h
        rw [rg_none _ _ h] at k
        exact k Mm hfr
      · rw [n_leI (by omega) (by omega)] at h
        obtain ⟨x, hx, -⟩ := rg_some (srt W (fun k => if w = 1 then 0 else T (nmf f s w k)) p) i (by omega)
        refine ⟨(n_vp (by omega)).mpr (by omega), ?_⟩
        rw [n_cl (by omega), skR_rg _ i x h1 hx]
        rw [hx] at k
        exact k Mm hfr
      · rw [hfr.i c hcn.1, hR.1]
        exact nI_le (Nat.le_refl _) (by omega)
    | succ j ih =>
      intro p Mm hp hfr h1 h2
      have hpn : p < n := by omega
      have hR' : crw c nu n f Mm := hR.fr (by rw [hfr.i c hcn.1]) (hfr.i nu hcn.2)
      have hlen : (srt W (fun k => if w = 1 then 0 else T (nmf f s w k)) p).length ≤ 14 := by
        rw [srt_len]; have := cnt_le W p; omega
      have nx := fun Mm' => ih (p + 1) Mm' (by omega)
      rw [srt] at nx
      refine u_Picker_picks_56 hc ⟨fun h => absurd h ?_, fun _ => ⟨fun hb => ?_, fun hb => ?_⟩⟩
      · rw [hR'.1, n_leI (by omega) (by omega)]; omega
      · rw [sI_bit W (by omega), b2i_n0] at hb
        have fin : ∀ Mm', fr [7, 13, 14] M Mm' → Mm'.1 13 = Mm.1 13 → Mm'.1 14 = Mm.1 14 → v_Picker_picks L xs (d + 2) Q 106 [(0, .ref 12), (1, .ref c), (2, .int (nI s)), (3, .int (sI W)), (5, .int (nI w)), (6, .int (nI i)), (7, .int (nI (srt W (fun k => if w = 1 then 0 else T (nmf f s w k)) p).length)), (8, .int (nI p)), (9, .int (if w = 1 then 0 else T (nmf f s w p))), (10, .int (nI (srt W (fun k => if w = 1 then 0 else T (nmf f s w k)) p).length))] [] Mm' := by
          intro Mm' hf' e1 e2
          refine s_pickIns (t := fun k => if w = 1 then 0 else T (nmf f s w k)) hc _ Mm' hlen (by rw [e1]; exact h1) (by rw [e2]; exact h2) (fun M2 g0 g1 g2 _ => ?_)
          rw [if_pos hb] at nx
          have := nx M2 (fr.tr hf' g0 (fun b hb => hb) (fun b hb => List.mem_cons_of_mem _ hb)) g1 g2
          rw [insR_len, ← nI_1, ← nI_1] at this
          exact this
        refine ⟨fun h5 => ?_, fun h5 => ?_⟩
        · have h1w : ¬ w = 1 := fun e => h5 (by rw [e]; rfl)
          refine s_tallness (by omega) hc ⟨fun e => hcn.1 (by rw [e]; decide), fun e => hcn.2 (by rw [e]; decide)⟩ hR' hpn (T := T) ?_ (fun M2 g0 => u_Picker_picks_100 hc ?_)
          · obtain ⟨sz, q1, q2, q3, q4⟩ := hL
            refine ⟨sz, by rw [hfr.i 4]; exact q1, q2, fun i hi h => ?_, fun nm => ?_⟩
            · rw [hfr.i 6]; exact q3 i hi (by rw [← hfr.i 5]; exact h)
            · rw [hfr.i 5, hfr.i 6]; exact q4 nm
          · have := fin M2 (fr.tr hfr g0 (fun b hb => hb) (fun b hb => List.mem_cons.mpr (Or.inl (List.mem_singleton.mp hb)))) (g0.i 13) (g0.i 14)
            rw [if_neg h1w] at this
            exact this
        · have h1w : w = 1 := (nI_eq (by omega) (by decide)).mp h5
          have := fin Mm hfr rfl rfl
          rw [if_pos h1w] at this
          exact this
      · rw [sI_bit W (by omega), b2i_0] at hb
        rw [if_neg (by rw [hb]; decide)] at nx
        have := nx Mm hfr h1 h2
        rw [← nI_1] at this
        exact this
  refine u_Picker_picks_4 hc ⟨fun h => ?_, fun h => ⟨fun h5 => ?_, fun h5 => ⟨fun h2 => ?_, fun h2 => ?_⟩⟩⟩
  · have : w = 0 := (nI_eq (by omega) (by decide)).mp h
    have e : pck T f s pl n W = none := by unfold pck; rw [hwd, ixp, if_pos this]
    rw [e] at k
    exact k M fr.rf
  · have hw0 : ¬ w = 0 := fun e => h (by rw [e]; rfl)
    have h5' : ¬ pl = 5 := fun e => h5 (by rw [e]; rfl)
    have e : pck T f s pl n W = rg (srt W (fun k => T (nmf f s w k)) n) (pl * (w - 1) / 4) := by unfold pck; rw [hwd, ixp, if_neg hw0, if_neg h5']
    rw [e] at k
    obtain ⟨w', rfl⟩ : ∃ a, w = a + 1 := ⟨w - 1, by omega⟩
    rw [n_top, n_mul, show (4 : Int32) = nI 4 from rfl]
    have hb : pl * w' ≤ 5 * 15 := Nat.mul_le_mul hpl (by omega)
    rw [n_div (by omega) (by decide) (by decide)]
    have := loop (pl * w' / 4) (Nat.lt_of_le_of_lt (Nat.div_le_self _ _) (by omega)) k n 0 M (by omega) fr.rf trivial trivial
    exact this
  · have hw0 : ¬ w = 0 := fun e => h (by rw [e]; rfl)
    have h5' : pl = 5 := (nI_eq (by omega) (by decide)).mp h5
    rw [show (2 : Int32) = nI 2 from rfl, n_rem (by omega) (by decide) (by decide)] at h2
    have h2' : ¬ w % 2 = 0 := fun e => h2 (by rw [e]; rfl)
    have e : pck T f s pl n W = rg (srt W (fun k => T (nmf f s w k)) n) (w / 2) := by unfold pck; rw [hwd, ixp, if_neg hw0, if_pos h5', if_neg h2']
    rw [e] at k
    rw [show (2 : Int32) = nI 2 from rfl, n_div (by omega) (by decide) (by decide)]
    exact loop (w / 2) (by omega) k n 0 M (by omega) fr.rf trivial trivial
  · have hw0 : ¬ w = 0 := fun e => h (by rw [e]; rfl)
    have h5' : pl = 5 := (nI_eq (by omega) (by decide)).mp h5
    rw [show (2 : Int32) = nI 2 from rfl, n_rem (by omega) (by decide) (by decide)] at h2
    have h2' : w % 2 = 0 := (nI_eq (by omega) (by decide)).mp h2
    have e : pck T f s pl n W = none := by unfold pck; rw [hwd, ixp, if_neg hw0, if_pos h5', if_pos h2']
    rw [e] at k
    exact k M fr.rf
end SP
