section E22
variable {L : Nat} {xs : Nat → Int32} {d : Nat} {Q : AQ} {M M0 M1 M2 : AM} {n N k0 : Nat} {f : Nat → Nat → Nat} {io : Nat → Option Nat} {C : Nat → Bool}
theorem l_64 {a : Nat} (ha : a < 2 ^ 31) : Int32.toInt64 (nI a) = lN a := Int64.toInt_inj.mp (by rw [Int32.toInt_toInt64, nI_toInt ha, pk_lT (by omega)])
theorem l_add {a b : Nat} (h : a + b < 2 ^ 31) : lN a + lN b = lN (a + b) := Int64.toInt_inj.mp (by
  rw [Int64.toInt_add, pk_lT (by omega), pk_lT (by omega), pk_lT (by omega)]
  exact (Int.bmod_eq_of_le (by omega) (by omega)).trans (by omega))
theorem gcd_st (a b : Nat) : Nat.gcd a b = Nat.gcd b (a % b) := by
  rw [Nat.gcd_comm a b, Nat.gcd_rec b a, Nat.gcd_comm (a % b) b]
theorem s_gcd : ∀ (j a b i : Nat), b ≤ j → b + i ≤ 100 → a < 2 ^ 20 → b < 2 ^ 20 → Q (some (.int (nI (Nat.gcd a b)))) M → v_Mo_sharedDivisor L xs d Q 7 [(2, .int (nI a)), (3, .int (nI b)), (4, .int (nI i))] [] M
  | 0, a, b, i, hb, hi, ha, hb2, kk => by
    have : b = 0 := by omega
    subst this
    rw [Nat.gcd_zero_right] at kk
    exact u_Mo_sharedDivisor_7 ⟨fun _ => kk, fun _ => ⟨fun _ => kk, fun z => absurd rfl z⟩⟩
  | j + 1, a, b, i, hb, hi, ha, hb2, kk => by
    by_cases b0 : b = 0
    · subst b0
      rw [Nat.gcd_zero_right] at kk
      exact u_Mo_sharedDivisor_7 ⟨fun _ => kk, fun _ => ⟨fun _ => kk, fun z => absurd rfl z⟩⟩
    · have hm : a % b < b := Nat.mod_lt a (by omega)
      rw [gcd_st] at kk
      refine u_Mo_sharedDivisor_7 ⟨fun z => absurd ((n_leI (a := 100) (by decide) (by omega)).mp z) (by omega), fun _ => ⟨fun z => absurd z (nI_ne0 (by omega) (by omega)), fun _ => ?_⟩⟩
      rw [n_rem (show a < 2 ^ 31 by omega) (by omega) (by omega), nI_1]
      exact s_gcd j b (a % b) (i + 1) (by omega) (by omega) hb2 (by omega) kk
/-- what those who are let in give to a mean: their wait, their height -/
def gW (f : Nat → Nat → Nat) (io : Nat → Option Nat) (p : Nat) : Nat := match io p with
  | none => 0
  | some a => a - f 1 p
def gH (f : Nat → Nat → Nat) (io : Nat → Option Nat) (p : Nat) : Nat := match io p with
  | none => 0
  | some _ => f 0 p
theorem gW_n {p : Nat} (h : io p = none) : gW f io p = 0 := by unfold gW; rw [h]
theorem gW_s {p a : Nat} (h : io p = some a) : gW f io p = a - f 1 p := by unfold gW; rw [h]
theorem gH_n {p : Nat} (h : io p = none) : gH f io p = 0 := by unfold gH; rw [h]
theorem gH_s {p a : Nat} (h : io p = some a) : gH f io p = f 0 p := by unfold gH; rw [h]
/-- let in while there -/
def ioW (f : Nat → Nat → Nat) (io : Nat → Option Nat) : Prop := ∀ p a, io p = some a → f 1 p ≤ a ∧ a < f 1 p + f 2 p
theorem gW_le (hok : okP n f) (hw : ioW f io) : ∀ p, p < n → gW f io p ≤ 99 := by
  intro p hp
  cases z : io p with
  | none => rw [gW_n z]; exact Nat.zero_le _
  | some a =>
    have := hw p a z
    have := hok p hp
    rw [gW_s z]; omega
theorem gH_le (hok : okP n f) : ∀ p, p < n → gH f io p ≤ 220 := by
  intro p hp
  cases z : io p with
  | none => rw [gH_n z]; exact Nat.zero_le _
  | some a =>
    have := hok p hp
    rw [gH_s z]; omega
theorem s_waitsW (hd : 2 ≤ d) (hX : dayX n f C io M) (hok : okP n f) (hw : ioW f io) (kk : Q (some (.int (nI (sm (gW f io) n)))) M) : am_Call (gG L xs) d c_Day_waitsWithin [.ref 15] M Q := by
  obtain ⟨d, rfl⟩ : ∃ a, d = a + 2 := ⟨d - 2, by omega⟩
  have hn := hX.1.2.1
  have hi := hX.2.2.2.2
  have hio : ∀ p a, p < n → io p = some a → a < 2 ^ 20 := fun p a hp h => by
    have := hw p a h
    have := hok p hp
    omega
  have loop : ∀ j p, p + j = n → v_Day_waitsWithin L xs (d + 1) Q 4 [(0, .ref 15), (1, .int (nI (sm (gW f io) p))), (2, .int (nI p))] [] M := by
    intro j
    induction j with
    | zero =>
      intro p hp
      refine u_Day_waitsWithin_4 ⟨fun _ => ?_, fun z => absurd ?_ z⟩
      · rw [show p = n by omega]; exact kk
      · rw [hX.1.1]; exact nI_le (by omega) (by omega)
    | succ j ih =>
      intro p hp
      have K := ih (p + 1) (by omega)
      have q1 : vp_in ((1 : Int32) * 15 + nI p) 75 ∧ M.1 17 (((1 : Int32) * 15 + nI p).toNatClampNeg) = nI (f 1 p) := hX.1.at (w := 1) (by decide) (by omega)
      refine u_Day_waitsWithin_4 ⟨fun z => absurd z (by rw [hX.1.1]; exact nI_ge (by omega) (by omega)), fun _ => ⟨(n_vp (by omega)).mpr (by omega), ?_⟩⟩
      rw [n_cl (show p < 2 ^ 31 by omega), hi p (by omega), q1.2, nI_1]
      rw [show sm (gW f io) (p + 1) = sm (gW f io) p + gW f io p from rfl] at K
      cases z : io p with
      | none =>
        rw [gW_n z] at K
        exact ⟨fun _ => K, fun y => absurd rfl y⟩
      | some a =>
        have h1 := hw p a z
        have h2 := hio p a (by omega) z
        rw [gW_s z] at K
        rw [show oI (some a) = nI a from rfl, n_sub h1.1, nI_add]
        exact ⟨fun y => absurd (show nI a < 0 by rw [y]; decide) (nI_pos (by omega)), fun _ => ⟨fun y => absurd y (nI_pos (by omega)), fun _ => ⟨q1.1, K⟩⟩⟩
  exact t_Day_waitsWithin (loop n 0 (by omega))
theorem s_heightsW (hd : 2 ≤ d) (hX : dayX n f C io M) (hok : okP n f) (hw : ioW f io) (kk : Q (some (.int (nI (sm (gH f io) n)))) M) : am_Call (gG L xs) d c_Day_heightsWithin [.ref 15] M Q := by
  obtain ⟨d, rfl⟩ : ∃ a, d = a + 2 := ⟨d - 2, by omega⟩
  have hn := hX.1.2.1
  have hi := hX.2.2.2.2
  have hio : ∀ p a, p < n → io p = some a → a < 2 ^ 20 := fun p a hp h => by
    have := hw p a h
    have := hok p hp
    omega
  have loop : ∀ j p, p + j = n → v_Day_heightsWithin L xs (d + 1) Q 4 [(0, .ref 15), (1, .int (nI (sm (gH f io) p))), (2, .int (nI p))] [] M := by
    intro j
    induction j with
    | zero =>
      intro p hp
      refine u_Day_heightsWithin_4 ⟨fun _ => ?_, fun z => absurd ?_ z⟩
      · rw [show p = n by omega]; exact kk
      · rw [hX.1.1]; exact nI_le (by omega) (by omega)
    | succ j ih =>
      intro p hp
      have K := ih (p + 1) (by omega)
      have q1 : vp_in ((0 : Int32) * 15 + nI p) 75 ∧ M.1 17 (((0 : Int32) * 15 + nI p).toNatClampNeg) = nI (f 0 p) := hX.1.at (w := 0) (by decide) (by omega)
      refine u_Day_heightsWithin_4 ⟨fun z => absurd z (by rw [hX.1.1]; exact nI_ge (by omega) (by omega)), fun _ => ⟨(n_vp (by omega)).mpr (by omega), ?_⟩⟩
      rw [n_cl (show p < 2 ^ 31 by omega), hi p (by omega), q1.2, nI_1]
      rw [show sm (gH f io) (p + 1) = sm (gH f io) p + gH f io p from rfl] at K
      cases z : io p with
      | none =>
        rw [gH_n z] at K
        exact ⟨fun _ => K, fun y => absurd rfl y⟩
      | some a =>
        have h2 := hio p a (by omega) z
        rw [gH_s z] at K
        rw [show oI (some a) = nI a from rfl, nI_add]
        exact ⟨fun y => absurd (show nI a < 0 by rw [y]; decide) (nI_pos (by omega)), fun _ => ⟨fun y => absurd y (nI_pos (by omega)), fun _ => ⟨q1.1, K⟩⟩⟩
  exact t_Day_heightsWithin (loop n 0 (by omega))
end E22
