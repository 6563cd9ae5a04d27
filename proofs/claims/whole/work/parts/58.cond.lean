/-! ===== conditions on numbers ===== -/
theorem nl_lt {a n : Nat} (ha : a < 2 ^ 31) (hn : (OfNat.ofNat n : Nat) < 2 ^ 31) : nI a < (no_index (OfNat.ofNat n) : Int32) ↔ a < (OfNat.ofNat n : Nat) := n_ltI ha hn
theorem nl_gt {a n : Nat} (ha : a < 2 ^ 31) (hn : (OfNat.ofNat n : Nat) < 2 ^ 31) : (no_index (OfNat.ofNat n) : Int32) < nI a ↔ (OfNat.ofNat n : Nat) < a := n_ltI hn ha
theorem nl_le {a n : Nat} (ha : a < 2 ^ 31) (hn : (OfNat.ofNat n : Nat) < 2 ^ 31) : nI a ≤ (no_index (OfNat.ofNat n) : Int32) ↔ a ≤ (OfNat.ofNat n : Nat) := n_leI ha hn
theorem nl_ge {a n : Nat} (ha : a < 2 ^ 31) (hn : (OfNat.ofNat n : Nat) < 2 ^ 31) : (no_index (OfNat.ofNat n) : Int32) ≤ nI a ↔ (OfNat.ofNat n : Nat) ≤ a := n_leI hn ha
theorem nl_eq {a n : Nat} (ha : a < 2 ^ 31) (hn : (OfNat.ofNat n : Nat) < 2 ^ 31) : nI a = (no_index (OfNat.ofNat n) : Int32) ↔ a = (OfNat.ofNat n : Nat) := nI_eq ha hn
theorem nl_qe {a n : Nat} (ha : a < 2 ^ 31) (hn : (OfNat.ofNat n : Nat) < 2 ^ 31) : (no_index (OfNat.ofNat n) : Int32) = nI a ↔ (OfNat.ofNat n : Nat) = a := nI_eq hn ha
theorem nl_add {a n : Nat} : nI a + (no_index (OfNat.ofNat n) : Int32) = nI (a + (OfNat.ofNat n : Nat)) := nI_add a n
theorem nl_dda {a n : Nat} : (no_index (OfNat.ofNat n) : Int32) + nI a = nI ((OfNat.ofNat n : Nat) + a) := nI_add n a
theorem nl_mul {a n : Nat} : nI a * (no_index (OfNat.ofNat n) : Int32) = nI (a * (OfNat.ofNat n : Nat)) := n_mul a n
theorem nl_lum {a n : Nat} : (no_index (OfNat.ofNat n) : Int32) * nI a = nI ((OfNat.ofNat n : Nat) * a) := n_mul n a
theorem nl_sub {a n : Nat} (h : (OfNat.ofNat n : Nat) ≤ a) : nI a - (no_index (OfNat.ofNat n) : Int32) = nI (a - (OfNat.ofNat n : Nat)) := n_sub h
theorem nl_m1 {a : Nat} (h : 1 ≤ a) : nI a + (-1) = nI (a - 1) := by
  obtain ⟨b, rfl⟩ : ∃ b, a = b + 1 := ⟨a - 1, by omega⟩
  exact n_m1p
theorem nl_m1e {a : Nat} (h : a < 2 ^ 31) : (nI a = -1) = False := by
  refine eq_false (fun e => nI_pos h ?_)
  rw [e]; decide
theorem nl_m2e {a : Nat} (h : a < 2 ^ 31) : (nI a = -2) = False := by
  refine eq_false (fun e => nI_pos h ?_)
  rw [e]; decide
theorem nl_lt0 {a : Nat} (h : a < 2 ^ 31) : (nI a < 0) = False := eq_false (nI_pos h)
theorem nl_ge0 {a : Nat} (h : a < 2 ^ 31) : (0 ≤ nI a) = True := eq_true (nI_pos' h)
theorem c_m1lt : ((-1 : Int32) < 0) = True := by decide
theorem c_m2lt : ((-2 : Int32) < 0) = True := by decide
theorem c_0lem1 : ((0 : Int32) ≤ -1) = False := by decide
theorem c_0lem2 : ((0 : Int32) ≤ -2) = False := by decide
theorem c_00 : ((0 : Int32) = 0) = True := by decide
theorem c_10 : ((1 : Int32) = 0) = False := by decide
theorem c_01 : ((0 : Int32) = 1) = False := by decide
theorem tq1 {n : Nat} (hn : n ≤ 15) (h : nI n < 12) (h2 : ¬ 3 ≤ nI n) (h3 : nI n = 5) (h4 : 100 ≤ nI n + 7) : False := by
  simp (disch := omega) only [nl_lt, nl_ge, nl_eq, nl_add] at h h2 h3 h4
  omega
theorem tq2 {n : Nat} (hn : n ≤ 15) (h : nI n = -1) : False := by
  simp (disch := omega) only [nl_m1e] at h
theorem tq3 {n : Nat} (hn : n ≤ 15) : vp_in (5 * nI n + 1) 90 := by
  simp (disch := omega) only [nl_lum, nl_add, n_vp]; omega
