/-! ===== people: what a crowd holds, and its loops ===== -/
/-- n people, their numbers f what who -/
def crw (c nu n : Nat) (f : Nat → Nat → Nat) (M : AM) : Prop := M.1 c 1 = nI n ∧ n ≤ 15 ∧ ∀ w p, w < 5 → p < n → M.1 nu (w * 15 + p) = nI (f w p)
def okP (n : Nat) (f : Nat → Nat → Nat) : Prop := ∀ p, p < n → 100 ≤ f 0 p ∧ f 0 p ≤ 220 ∧ f 1 p ≤ 99 ∧ 1 ≤ f 2 p ∧ f 2 p ≤ 99 ∧ f 3 p ≤ 20 ∧ f 4 p ≤ 99
/-- one is there at a stroke -/
def thr (f : Nat → Nat → Nat) (s p : Nat) : Bool := decide (f 1 p ≤ s) && decide (s < f 1 p + f 2 p)
def thrN (n : Nat) (f : Nat → Nat → Nat) (s p : Nat) : Bool := decide (p < n) && thr f s p
/-- the row of those who are there, as far as it is known -/
def cch (c th n : Nat) (f : Nat → Nat → Nat) (M : AM) : Prop := M.1 c 3 = 1 ∨ (M.1 c 3 = 0 ∧ ∀ s, s < 100 → M.1 th s = -1 ∨ M.1 th s = sI (thrN n f s))
theorem crw.fr {c nu n : Nat} {f : Nat → Nat → Nat} {M M' : AM} (h : crw c nu n f M) (h1 : M'.1 c 1 = M.1 c 1) (h2 : M'.1 nu = M.1 nu) : crw c nu n f M' := ⟨h1.trans h.1, h.2.1, fun w p hw hp => by rw [h2]; exact h.2.2 w p hw hp⟩
theorem sI_add {f : Nat → Bool} {p : Nat} (hp : p < 15) (hf : f p = true) : sI (fun q => decide (q < p) && f q) ||| ((1 : Int32) <<< (nI p &&& 31)) = sI (fun q => decide (q < p + 1) && f q) := by
  rw [sI_one hp, sI_or]
  apply sI_congr
  intro q hq
  by_cases h : q = p
  · subst h; simp [hf]
  · by_cases h2 : q < p
    · simp [h, h2, Nat.lt_succ_of_lt h2]
    · have : ¬ q < p + 1 := by omega
      simp [h, h2, this]
theorem sI_skip {f : Nat → Bool} {p : Nat} (hf : f p = false) : sI (fun q => decide (q < p) && f q) = sI (fun q => decide (q < p + 1) && f q) := by
  apply sI_congr
  intro q hq
  by_cases h : q = p
  · subst h; simp [hf]
  · by_cases h2 : q < p
    · simp [h2, Nat.lt_succ_of_lt h2]
    · have : ¬ q < p + 1 := by omega
      simp [h2, this]
theorem sI_nil {f : Nat → Bool} : sI (fun q => decide (q < 0) && f q) = 0 := by
  rw [← sI_z]
  apply sI_congr
  intro q _
  simp
section SC
variable {L : Nat} {xs : Nat → Int32} {d : Nat} {Q : AQ} {M : AM} {c nu th n : Nat} {f : Nat → Nat → Nat}
theorem crw.at {w p : Nat} (h : crw c nu n f M) (hw : w < 5) (hp : p < n) : vp_in (nI (w * 15) + nI p) 75 ∧ M.1 nu ((nI (w * 15) + nI p).toNatClampNeg) = nI (f w p) := by
  have := h.2.1
  rw [nI_add, n_vp (by omega), n_cl (by omega)]
  exact ⟨by omega, h.2.2 w p hw hp⟩
theorem s_thereAt {s : Nat} (hd : 1 ≤ d) (hc : isCr c nu th) (hR : crw c nu n f M) (hok : okP n f) (hs : s < 2 ^ 30) (k : Q (some (.int (sI (thrN n f s)))) M) : am_Call (gG L xs) d c_Crowd_thereAt [.ref c, .int (nI s)] M Q := by
  obtain ⟨d, rfl⟩ : ∃ e, d = e + 1 := ⟨d - 1, by omega⟩
  refine t_Crowd_thereAt hc ?_
  have hn := hR.2.1
  have loop : ∀ j p, p + j = n → v_Crowd_thereAt L xs d Q 4 [(0, .ref c), (1, .int (nI s)), (2, .int (sI (fun q => decide (q < p) && thr f s q))), (3, .int (nI p))] [] M := by
    intro j
    induction j with
    | zero =>
      intro p hp
      have : p = n := by omega
      subst this
      exact u_Crowd_thereAt_4 hc ⟨fun _ => k, fun h => absurd (by rw [hR.1]; exact (n_leI (by omega) (by omega)).mpr (Nat.le_refl _)) h⟩
    | succ j ih =>
      intro p hp
      have hpn : p < n := by omega
      have h1 : vp_in (15 + nI p) 75 ∧ M.1 nu ((15 + nI p).toNatClampNeg) = nI (f 1 p) := hR.at (w := 1) (by decide) hpn
      have h2 : vp_in (30 + nI p) 75 ∧ M.1 nu ((30 + nI p).toNatClampNeg) = nI (f 2 p) := hR.at (w := 2) (by decide) hpn
      obtain ⟨o1, o2, o3, o4, o5, o6, o7⟩ := hok p hpn
      have nx := ih (p + 1) (by omega)
      rw [← nI_1] at nx
      refine u_Crowd_thereAt_4 hc ⟨fun h => absurd h (by rw [hR.1, n_leI (by omega) (by omega)]; omega), fun _ => ⟨h1.1, fun h => ?_, fun h => ⟨h2.1, fun h3 => ?_, fun h3 => ?_⟩⟩⟩
      · rw [h1.2, n_ltI (by omega) (by omega)] at h
        rw [sI_skip (f := thr f s) (by simp [thr]; omega)]
        exact nx
      · rw [h1.2, h2.2, nI_add, n_leI (by omega) (by omega)] at h3
        rw [sI_skip (f := thr f s) (by simp [thr]; omega)]
        exact nx
      · rw [h1.2, h2.2, nI_add, n_leI (by omega) (by omega)] at h3
        rw [h1.2, n_ltI (by omega) (by omega)] at h
        rw [sI_add (f := thr f s) (by omega) (by simp [thr]; omega)]
        exact nx
  have h := loop n 0 (by omega)
  rw [sI_nil] at h
  exact h
theorem s_comeBy {s : Nat} (hd : 1 ≤ d) (hc : isCr c nu th) (hR : crw c nu n f M) (hok : okP n f) (hs : s < 2 ^ 30) (k : Q (some (.int (sI (fun p => decide (p < n) && decide (f 1 p ≤ s))))) M) : am_Call (gG L xs) d c_Crowd_comeBy [.ref c, .int (nI s)] M Q := by
  obtain ⟨d, rfl⟩ : ∃ e, d = e + 1 := ⟨d - 1, by omega⟩
  refine t_Crowd_comeBy hc ?_
  have hn := hR.2.1
  have loop : ∀ j p, p + j = n → v_Crowd_comeBy L xs d Q 4 [(0, .ref c), (1, .int (nI s)), (2, .int (sI (fun q => decide (q < p) && decide (f 1 q ≤ s)))), (3, .int (nI p))] [] M := by
    intro j
    induction j with
    | zero =>
      intro p hp
      have : p = n := by omega
      subst this
      exact u_Crowd_comeBy_4 hc ⟨fun _ => k, fun h => absurd (by rw [hR.1]; exact (n_leI (by omega) (by omega)).mpr (Nat.le_refl _)) h⟩
    | succ j ih =>
      intro p hp
      have hpn : p < n := by omega
      have h1 : vp_in (15 + nI p) 75 ∧ M.1 nu ((15 + nI p).toNatClampNeg) = nI (f 1 p) := hR.at (w := 1) (by decide) hpn
      obtain ⟨o1, o2, o3, o4, o5, o6, o7⟩ := hok p hpn
      have nx := ih (p + 1) (by omega)
      rw [← nI_1] at nx
      refine u_Crowd_comeBy_4 hc ⟨fun h => absurd h (by rw [hR.1, n_leI (by omega) (by omega)]; omega), fun _ => ⟨h1.1, fun h => ?_, fun h => ?_⟩⟩
      · rw [h1.2, n_ltI (by omega) (by omega)] at h
        rw [sI_skip (f := fun q => decide (f 1 q ≤ s)) (by simp; omega)]
        exact nx
      · rw [h1.2, n_ltI (by omega) (by omega)] at h
        rw [sI_add (f := fun q => decide (f 1 q ≤ s)) (by omega) (by simp; omega)]
        exact nx
  have h := loop n 0 (by omega)
  rw [sI_nil] at h
  exact h
/-- the price of a set -/
def prc (f : Nat → Nat → Nat) (S : Nat → Bool) : Nat → Nat
  | 0 => 0
  | n + 1 => prc f S n + (if S n then f 4 n else 0)
theorem prc_le {S : Nat → Bool} (hok : okP n f) : ∀ p, p ≤ n → prc f S p ≤ 99 * p
  | 0, _ => by simp [prc]
  | p + 1, h => by
    have h1 := prc_le hok p (by omega) (S := S)
    have h2 := (hok p (by omega)).2.2.2.2.2.2
    simp only [prc]
    split <;> omega
theorem s_priceOf {S : Nat → Bool} (hd : 1 ≤ d) (hc : isCr c nu th) (hR : crw c nu n f M) (hok : okP n f) (k : Q (some (.int (nI (prc f S n)))) M) : am_Call (gG L xs) d c_Crowd_priceOf [.ref c, .int (sI S)] M Q := by
  obtain ⟨d, rfl⟩ : ∃ e, d = e + 1 := ⟨d - 1, by omega⟩
  refine t_Crowd_priceOf hc ?_
  have hn := hR.2.1
  have loop : ∀ j p, p + j = n → v_Crowd_priceOf L xs d Q 4 [(0, .ref c), (1, .int (sI S)), (2, .int (nI (prc f S p))), (3, .int (nI p))] [] M := by
    intro j
    induction j with
    | zero =>
      intro p hp
      have : p = n := by omega
      subst this
      exact u_Crowd_priceOf_4 hc ⟨fun _ => k, fun h => absurd (by rw [hR.1]; exact (n_leI (by omega) (by omega)).mpr (Nat.le_refl _)) h⟩
    | succ j ih =>
      intro p hp
      have hpn : p < n := by omega
      have h4 : vp_in (60 + nI p) 75 ∧ M.1 nu ((60 + nI p).toNatClampNeg) = nI (f 4 p) := hR.at (w := 4) (by decide) hpn
      have nx := ih (p + 1) (by omega)
      rw [← nI_1] at nx
      rw [prc] at nx
      refine u_Crowd_priceOf_4 hc ⟨fun h => absurd h (by rw [hR.1, n_leI (by omega) (by omega)]; omega), fun _ => ⟨fun h => ?_, fun h => ⟨h4.1, ?_⟩⟩⟩
      · rw [sI_bit S (by omega), b2i_0] at h
        simpa [h] using nx
      · rw [sI_bit S (by omega), b2i_n0] at h
        rw [h4.2, nI_add]
        simpa [h] using nx
  exact loop n 0 (by omega)
/-- who of a set is there at a stroke -/
theorem s_waiting {s : Nat} {A : Nat → Bool} (hd : 2 ≤ d) (hc : isCr c nu th) (hne : c ≠ th ∧ nu ≠ th ∧ nu ≠ c) (hR : crw c nu n f M) (hok : okP n f) (hC : cch c th n f M) (hs : s < 2 ^ 30) (k : ∀ M', fr [c, th] M M' → M'.1 c 1 = M.1 c 1 → cch c th n f M' → Q (some (.int (sI (fun p => thrN n f s p && A p)))) M') : am_Call (gG L xs) d c_Crowd_waiting [.ref c, .int (nI s), .int (sI A)] M Q := by
  obtain ⟨d, rfl⟩ : ∃ e, d = e + 2 := ⟨d - 2, by omega⟩
  have hm1 : ∀ g : Nat → Bool, ¬ sI g = (-1) := fun g h => sI_nn g (by rw [h]; decide)
  refine t_Crowd_waiting hc ⟨fun h => absurd h (nI_pos (by omega)), fun _ => ⟨fun h => ⟨fun h0 => ?_, fun h0 => ?_⟩, fun h => ?_⟩⟩
  · rw [show (100 : Int32) = nI 100 from rfl, n_ltI (by omega) (by omega)] at h
    rcases hC with h1 | ⟨-, h1⟩
    · rw [h1] at h0
      exact absurd h0 (by decide)
    · refine ⟨(n_vp (by omega)).mpr h, fun h2 => ?_, fun h2 => s_thereAt (by omega) hc hR hok hs ?_⟩
      · rw [n_cl (by omega)] at h2 ⊢
        rcases h1 s h with h3 | h3
        · exact absurd h3 h2
        · rw [h3, sI_and]
          exact k M fr.rf rfl (Or.inr ⟨h0, h1⟩)
      · refine u_Crowd_waiting_58 hc ⟨(n_vp (by omega)).mpr h, (n_vp (by omega)).mpr h, ?_⟩
        rw [n_cl (by omega), wi_eq, sI_and]
        refine k _ (fr.rf.wi (by simp)) (by rw [wi_ne hne.1]) (Or.inr ⟨by rw [wi_ne hne.1]; exact h0, fun z hz => ?_⟩)
        by_cases e : z = s
        · subst e; rw [wi_eq]; exact Or.inr rfl
        · rw [wi_sl e]; exact h1 z hz
  · rw [show (100 : Int32) = nI 100 from rfl, n_ltI (by omega) (by omega)] at h
    refine s_fillI hc.2.2 (by decide) ?_
    have hR2 : crw c nu n f (am_wi (am_fl M th 100 (-1)) c 3 0) := hR.fr (by rw [wi_rd, if_pos rfl, if_neg (by decide), fl_rd, if_neg hne.1]) (by rw [wi_ne hne.2.2]; funext j; rw [fl_rd, if_neg hne.2.1])
    have e1 : (am_wi (am_fl M th 100 (-1)) c 3 0).1 th ((nI s).toNatClampNeg) = -1 := by
      rw [n_cl (by omega), wi_ne hne.1.symm, fl_rd, if_pos rfl, if_pos h]
    refine u_Crowd_waiting_33 hc ⟨(n_vp (by omega)).mpr h, fun h2 => absurd e1 h2, fun _ => s_thereAt (by omega) hc hR2 hok hs ?_⟩
    refine u_Crowd_waiting_58 hc ⟨(n_vp (by omega)).mpr h, (n_vp (by omega)).mpr h, ?_⟩
    rw [n_cl (by omega), wi_eq, sI_and]
    refine k _ (((fr.rf.fl (by simp)).wi (by simp)).wi (by simp)) (by rw [wi_ne hne.1, wi_rd, if_pos rfl, if_neg (by decide), fl_rd, if_neg hne.1]) (Or.inr ⟨by rw [wi_ne hne.1, wi_eq], fun z hz => ?_⟩)
    by_cases e : z = s
    · subst e; rw [wi_eq]; exact Or.inr rfl
    · rw [wi_sl e, wi_ne hne.1.symm, fl_rd, if_pos rfl, if_pos hz]; exact Or.inl rfl
  · refine s_thereAt (by omega) hc hR hok hs ?_
    refine u_Crowd_waiting_15 ?_
    rw [sI_and]
    exact k M fr.rf rfl hC
end SC
