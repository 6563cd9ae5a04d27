/-! ===== memory, frames, ints in trees ===== -/
theorem wi_rd (M : AM) (a k : Nat) (v : Int32) (b j : Nat) : (am_wi M a k v).1 b j = if b = a then (if j = k then v else M.1 b j) else M.1 b j := rfl
theorem wi_2 (M : AM) (a k : Nat) (v : Int32) : (am_wi M a k v).2 = M.2 := rfl
theorem wl_1 (M : AM) (a k : Nat) (v : Int64) : (am_wl M a k v).1 = M.1 := rfl
theorem wl_rd (M : AM) (a k : Nat) (v : Int64) (b j : Nat) : (am_wl M a k v).2 b j = if b = a then (if j = k then v else M.2 b j) else M.2 b j := rfl
theorem wi_ne {M : AM} {a k : Nat} {v : Int32} {b : Nat} (h : b ≠ a) : (am_wi M a k v).1 b = M.1 b := am_up_ne h
theorem wi_eq {M : AM} {a k : Nat} {v : Int32} : (am_wi M a k v).1 a k = v := by simp [wi_rd]
theorem wi_sl {M : AM} {a k : Nat} {v : Int32} {j : Nat} (h : j ≠ k) : (am_wi M a k v).1 a j = M.1 a j := by simp [wi_rd, h]
/-- nothing but the cells of K has changed -/
def fr (K : List Nat) (M M' : AM) : Prop := ∀ b, b ∉ K → M'.1 b = M.1 b ∧ M'.2 b = M.2 b
theorem fr.rf {K : List Nat} {M : AM} : fr K M M := fun _ _ => ⟨rfl, rfl⟩
theorem fr.tr {K K1 K2 : List Nat} {M M1 M2 : AM} (h1 : fr K1 M M1) (h2 : fr K2 M1 M2) (k1 : ∀ b ∈ K1, b ∈ K) (k2 : ∀ b ∈ K2, b ∈ K) : fr K M M2 := fun b hb =>
  ⟨(h2 b (fun z => hb (k2 b z))).1.trans (h1 b (fun z => hb (k1 b z))).1, (h2 b (fun z => hb (k2 b z))).2.trans (h1 b (fun z => hb (k1 b z))).2⟩
theorem fr.wi {K : List Nat} {M M1 : AM} {a k : Nat} {v : Int32} (h : fr K M M1) (ha : a ∈ K) : fr K M (am_wi M1 a k v) := fun b hb => by
  have : b ≠ a := fun z => hb (z ▸ ha)
  exact ⟨(wi_ne this).trans (h b hb).1, (h b hb).2⟩
theorem fr.wl {K : List Nat} {M M1 : AM} {a k : Nat} {v : Int64} (h : fr K M M1) (ha : a ∈ K) : fr K M (am_wl M1 a k v) := fun b hb => by
  have : b ≠ a := fun z => hb (z ▸ ha)
  exact ⟨(h b hb).1, (am_up_ne this).trans (h b hb).2⟩
theorem fr.cpi {K : List Nat} {M M1 : AM} {a b sp dp n : Nat} (h : fr K M M1) (hb : b ∈ K) : fr K M (am_cpi M1 a b sp dp n) := fun c hc => by
  have : c ≠ b := fun z => hc (z ▸ hb)
  exact ⟨(am_ur_ne this).trans (h c hc).1, (h c hc).2⟩
theorem fr.cpl {K : List Nat} {M M1 : AM} {a b sp dp n : Nat} (h : fr K M M1) (hb : b ∈ K) : fr K M (am_cpl M1 a b sp dp n) := fun c hc => by
  have : c ≠ b := fun z => hc (z ▸ hb)
  exact ⟨(h c hc).1, (am_ur_ne this).trans (h c hc).2⟩
theorem fr.to {K K' : List Nat} {M M1 : AM} (h : fr K M M1) (k : ∀ b ∈ K, b ∈ K') : fr K' M M1 := fun b hb => h b (fun z => hb (k b z))
theorem fr.i {K : List Nat} {M M1 : AM} (h : fr K M M1) (b : Nat) (hb : b ∉ K := by decide) : M1.1 b = M.1 b := (h b hb).1
theorem fr.l {K : List Nat} {M M1 : AM} (h : fr K M M1) (b : Nat) (hb : b ∉ K := by decide) : M1.2 b = M.2 b := (h b hb).2
theorem n_vp {a n : Nat} (ha : a < 2 ^ 31) : vp_in (nI a) n ↔ a < n := by
  rw [vp_in_iff, nI_toInt ha]
  omega
theorem n_cl {a : Nat} (ha : a < 2 ^ 31) : (nI a).toNatClampNeg = a := nI_clamp ha
theorem n_leI {a b : Nat} (ha : a < 2 ^ 31) (hb : b < 2 ^ 31) : nI a ≤ nI b ↔ a ≤ b := nI_leI ha hb
theorem n_ltI {a b : Nat} (ha : a < 2 ^ 31) (hb : b < 2 ^ 31) : nI a < nI b ↔ a < b := nI_ltI ha hb
theorem n_mul (a b : Nat) : nI a * nI b = nI (a * b) := pk_mul a b
theorem n_sub {a b : Nat} (h : b ≤ a) : nI a - nI b = nI (a - b) := pk_sub h
theorem n_div {a d : Nat} (ha : a < 2 ^ 31) (h0 : 0 < d) (hd : d < 2 ^ 31) : nI a / nI d = nI (a / d) := pk_div ha h0 hd
theorem n_rem {a d : Nat} (ha : a < 2 ^ 31) (h0 : 0 < d) (hd : d < 2 ^ 31) : irem (nI a) (nI d) = nI (a % d) := pk_rem ha h0 hd
theorem n_not (a : Int32) {b : Nat} (ha : a < 0) (hb : b < 2 ^ 31) : ¬ a = nI b := fun h => by subst h; exact nI_pos hb ha
theorem n_ne {a b : Nat} (h : a ≠ b) (ha : a < 2 ^ 31) (hb : b < 2 ^ 31) : ¬ nI a = nI b := fun e => h ((nI_eq ha hb).mp e)
/-- an argument names one of n, or doesn't -/
theorem n_arg (x : Int32) (n : Nat) (hn : n < 2 ^ 31) : x < 0 ∨ (¬ x < 0 ∧ nI n ≤ x) ∨ ∃ j, j < n ∧ x = nI j := by
  rcases pk_ix x hn with h | h | ⟨j, h1, h2⟩
  · exact Or.inl h
  · by_cases h0 : x < 0
    · exact Or.inl h0
    · exact Or.inr (Or.inl ⟨h0, h⟩)
  · exact Or.inr (Or.inr ⟨j, h1, h2⟩)
/-! ===== the JDK's ===== -/
section SJ
variable {L : Nat} {xs : Nat → Int32} {d : Nat} {Q : AQ} {M : AM}
theorem s_bitCount {f : Nat → Bool} (k : Q (some (.int (nI (cnt f 15)))) M) : am_Call (gG L xs) (d + 1) c_J_bitCount [.int (sI f)] M Q := by
  refine t_J_bitCount ?_
  have h := bcF_sI f
  rw [← h] at k
  exact k
/-- a row that is filled -/
def am_fl (M : AM) (a n : Nat) (v : Int32) : AM := (am_ur M.1 a (fun j => if j < n then v else M.1 a j), M.2)
theorem am_fl_s (M : AM) (a n : Nat) (v : Int32) : am_wi (am_fl M a n v) a n v = am_fl M a (n + 1) v := by
  refine Prod.ext ?_ rfl
  funext b j
  simp only [am_wi, am_fl, am_up, am_ur]
  by_cases hb : b = a
  · subst hb
    by_cases hj : j = n
    · subst hj; simp
    · by_cases h2 : j < n
      · simp [hj, h2, Nat.lt_succ_of_lt h2]
      · have : ¬ j < n + 1 := by omega
        simp [hj, h2, this]
  · simp [hb]
theorem am_fl_0 (M : AM) (a : Nat) (v : Int32) : am_fl M a 0 v = M := by
  refine Prod.ext ?_ rfl
  funext b j
  simp only [am_fl, am_ur]
  by_cases hb : b = a
  · subst hb; simp
  · simp [hb]
theorem fr.fl {K : List Nat} {M M1 : AM} {a n : Nat} {v : Int32} (h : fr K M M1) (ha : a ∈ K) : fr K M (am_fl M1 a n v) := fun b hb => by
  have : b ≠ a := fun z => hb (z ▸ ha)
  exact ⟨(am_ur_ne this).trans (h b hb).1, (h b hb).2⟩
theorem fl_rd (M : AM) (a n : Nat) (v : Int32) (b j : Nat) : (am_fl M a n v).1 b j = if b = a then (if j < n then v else M.1 a j) else M.1 b j := rfl
theorem s_fillI {a n : Nat} {v : Int32} (ha : gSh[a]? = some (.inr (false, n))) (hn : n < 2 ^ 31) (k : Q none (am_fl M a n v)) : am_Call (gG L xs) (d + 1) c_J_fillI [.ref a, .int v] M Q := by
  refine t_J_fillI ha ?_
  have loop : ∀ j p, p + j = n → v_J_fillI L xs d Q 5 [(0, .ref a), (1, .int v), (2, .int (nI p)), (3, .int (nI n))] [] (am_fl M a p v) := by
    intro j
    induction j with
    | zero =>
      intro p hp
      refine u_J_fillI_5 ha ?_
      have : p = n := by omega
      subst this
      exact ⟨fun _ => k, fun h => absurd ((n_leI hn hn).mpr (Nat.le_refl _)) h⟩
    | succ j ih =>
      intro p hp
      refine u_J_fillI_5 ha ⟨fun h => absurd ((n_leI hn (by omega)).mp h) (by omega), fun _ => ⟨(n_vp (by omega)).mpr (by omega), ?_⟩⟩
      have h := ih (p + 1) (by omega)
      rw [n_cl (by omega), am_fl_s, nI_1]
      exact h
  have h := loop n 0 (by omega)
  rw [am_fl_0] at h
  exact h
end SJ
