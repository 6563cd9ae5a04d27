/-! ===== numbers and sets ===== -/
theorem n_and (a b : Nat) : nI a &&& nI b = nI (a &&& b) := by
  apply Int32.toBitVec_inj.mp
  show (BitVec.ofNat 32 a &&& BitVec.ofNat 32 b) = BitVec.ofNat 32 (a &&& b)
  rw [BitVec.ofNat_and]
theorem n_or (a b : Nat) : nI a ||| nI b = nI (a ||| b) := by
  apply Int32.toBitVec_inj.mp
  show (BitVec.ofNat 32 a ||| BitVec.ofNat 32 b) = BitVec.ofNat 32 (a ||| b)
  rw [BitVec.ofNat_or]
theorem n_xor (a b : Nat) : nI a ^^^ nI b = nI (a ^^^ b) := by
  apply Int32.toBitVec_inj.mp
  show (BitVec.ofNat 32 a ^^^ BitVec.ofNat 32 b) = BitVec.ofNat 32 (a ^^^ b)
  rw [BitVec.ofNat_xor]
theorem n_m1 : (-1 : Int32) = nI (2 ^ 32 - 1) := by decide
theorem n_sm : ∀ p, p < 31 → ((nI p &&& 31).toBitVec.smod 32).toNat = p := by
  intro p hp
  have : ∀ p : Fin 31, ((nI p.val &&& 31).toBitVec.smod 32).toNat = p.val := by decide +kernel
  exact this ⟨p, hp⟩
theorem n_shl1 {p : Nat} (hp : p < 31) : (1 : Int32) <<< (nI p &&& 31) = nI (2 ^ p) := by
  have : ∀ p : Fin 31, (1 : Int32) <<< (nI p.val &&& 31) = nI (2 ^ p.val) := by decide +kernel
  exact this ⟨p, hp⟩
theorem n_all {n : Nat} (hn : n < 31) : (1 : Int32) <<< (nI n &&& 31) - 1 = nI (2 ^ n - 1) := by
  have : ∀ p : Fin 31, (1 : Int32) <<< (nI p.val &&& 31) - 1 = nI (2 ^ p.val - 1) := by decide +kernel
  exact this ⟨n, hn⟩
def b2i (b : Bool) : Int32 := if b then 1 else 0
theorem b2i_t : b2i true = 1 := rfl
theorem b2i_f : b2i false = 0 := rfl
theorem b2i_01 (b : Bool) : b2i b = 0 ∨ b2i b = 1 := by cases b <;> simp [b2i]
theorem b2i_0 {b : Bool} : b2i b = 0 ↔ b = false := by cases b <;> simp [b2i]
theorem b2i_1 {b : Bool} : b2i b = 1 ↔ b = true := by cases b <;> simp [b2i]
theorem b2i_n0 {b : Bool} : ¬ b2i b = 0 ↔ b = true := by cases b <;> simp [b2i]
theorem n_bit {m p : Nat} (hm : m < 2 ^ 31) (hp : p < 31) : (nI m >>> (nI p &&& 31)) &&& 1 = b2i (m.testBit p) := by
  rw [pk_shrN hm _ p (n_sm p hp), pk_andN (m := 1) (Nat.lt_of_le_of_lt (Nat.div_le_self _ _) (by omega)) 1 (by decide), Nat.testBit_eq_decide_div_mod_eq]
  rcases Nat.mod_two_eq_zero_or_one (m / 2 ^ p) with h | h
  · simp only [Nat.pow_one, h, b2i]
    decide
  · simp only [Nat.pow_one, h, b2i]
    decide
/-- the bits of those of the first n that f names -/
def bs (f : Nat → Bool) : Nat → Nat
  | 0 => 0
  | n + 1 => bs f n + (if f n then 2 ^ n else 0)
theorem bs_lt (f : Nat → Bool) : ∀ n, bs f n < 2 ^ n
  | 0 => by simp [bs]
  | n + 1 => by
    have := bs_lt f n
    simp only [bs]
    split <;> (rw [Nat.pow_succ]; omega)
theorem bs_tb (f : Nat → Bool) : ∀ n p, (bs f n).testBit p = (decide (p < n) && f p)
  | 0, p => by simp [bs]
  | n + 1, p => by
    have h0 := bs_lt f n
    have h1 : bs f (n + 1) = 2 ^ n * (if f n then 1 else 0) + bs f n := by
      simp only [bs]
      split <;> omega
    rw [h1, Nat.testBit_two_pow_mul_add _ h0, bs_tb f n p]
    by_cases hp : p < n
    · simp [hp, Nat.lt_succ_of_lt hp]
    · rw [if_neg hp]
      by_cases he : p = n
      · subst he
        rw [Nat.sub_self]
        cases f p <;> simp
      · have : ¬ p < n + 1 := by omega
        have h2 : ∃ k, p - n = k + 1 := ⟨p - n - 1, by omega⟩
        obtain ⟨k, hk⟩ := h2
        rw [hk]
        simp [this]
        split <;> simp [Nat.testBit_succ]
theorem bs_congr {f g : Nat → Bool} {n : Nat} (h : ∀ p, p < n → f p = g p) : bs f n = bs g n := by
  apply Nat.eq_of_testBit_eq
  intro p
  rw [bs_tb, bs_tb]
  by_cases hp : p < n
  · simp [hp, h p hp]
  · simp [hp]
/-- a set of people as an int -/
def sI (f : Nat → Bool) : Int32 := nI (bs f 15)
theorem sI_congr {f g : Nat → Bool} (h : ∀ p, p < 15 → f p = g p) : sI f = sI g := by rw [sI, sI, bs_congr h]
theorem sI_and (f g : Nat → Bool) : sI f &&& sI g = sI (fun p => f p && g p) := by
  rw [sI, sI, n_and, sI]
  congr 1
  apply Nat.eq_of_testBit_eq
  intro p
  rw [Nat.testBit_and, bs_tb, bs_tb, bs_tb]
  by_cases hp : p < 15 <;> simp [hp]
theorem sI_or (f g : Nat → Bool) : sI f ||| sI g = sI (fun p => f p || g p) := by
  rw [sI, sI, n_or, sI]
  congr 1
  apply Nat.eq_of_testBit_eq
  intro p
  rw [Nat.testBit_or, bs_tb, bs_tb, bs_tb]
  by_cases hp : p < 15 <;> simp [hp]
theorem sI_andn (f g : Nat → Bool) : sI f &&& (sI g ^^^ (-1)) = sI (fun p => f p && !g p) := by
  rw [sI, sI, n_m1, n_xor, n_and, sI]
  congr 1
  apply Nat.eq_of_testBit_eq
  intro p
  rw [Nat.testBit_and, Nat.testBit_xor, bs_tb, bs_tb, bs_tb, Nat.testBit_two_pow_sub_one]
  by_cases hp : p < 15
  · have : p < 32 := by omega
    simp [hp, this]
  · simp [hp]
theorem sI_lt (f : Nat → Bool) : bs f 15 < 2 ^ 31 := Nat.lt_trans (bs_lt f 15) (by decide)
theorem sI_bit (f : Nat → Bool) {p : Nat} (hp : p < 15) : (sI f >>> (nI p &&& 31)) &&& 1 = b2i (f p) := by
  rw [sI, n_bit (sI_lt f) (by omega), bs_tb]
  simp [hp]
theorem sI_one {p : Nat} (hp : p < 15) : (1 : Int32) <<< (nI p &&& 31) = sI (fun q => q == p) := by
  rw [n_shl1 (by omega), sI]
  congr 1
  apply Nat.eq_of_testBit_eq
  intro q
  rw [bs_tb, Nat.testBit_two_pow]
  by_cases hq : p = q
  · subst hq; simp [hp]
  · simp [hq, Ne.symm hq]
theorem sI_all {n : Nat} (hn : n ≤ 15) : (1 : Int32) <<< (nI n &&& 31) - 1 = sI (fun q => decide (q < n)) := by
  rw [n_all (by omega), sI]
  congr 1
  apply Nat.eq_of_testBit_eq
  intro q
  rw [bs_tb, Nat.testBit_two_pow_sub_one]
  by_cases hq : q < n
  · simp [hq, Nat.lt_of_lt_of_le hq hn]
  · simp [hq]
theorem sI_z : sI (fun _ => false) = 0 := by
  rw [sI, show bs (fun _ => false) 15 = 0 from by decide]
  rfl
theorem sI_inj {f g : Nat → Bool} (h : sI f = sI g) {p : Nat} (hp : p < 15) : f p = g p := by
  have h1 : bs f 15 = bs g 15 := (nI_eq (sI_lt f) (sI_lt g)).mp h
  have h2 := congrArg (fun m => m.testBit p) h1
  simp only [bs_tb] at h2
  simpa [hp] using h2
theorem sI_0 {f : Nat → Bool} : sI f = 0 ↔ ∀ p, p < 15 → f p = false := by
  constructor
  · intro h p hp
    exact sI_inj (h.trans sI_z.symm) hp
  · intro h
    rw [sI_congr (g := fun _ => false) h, sI_z]
theorem sI_nat {m : Nat} (hm : m < 2 ^ 15) : nI m = sI m.testBit := by
  rw [sI]
  congr 1
  apply Nat.eq_of_testBit_eq
  intro p
  rw [bs_tb]
  by_cases hp : p < 15
  · simp [hp]
  · simp only [hp, decide_false, Bool.false_and]
    exact Nat.testBit_lt_two_pow (Nat.lt_of_lt_of_le hm (Nat.pow_le_pow_right (by decide) (by omega)))
theorem sI_set (f : Nat → Bool) : ∃ m, m < 2 ^ 15 ∧ sI f = nI m ∧ ∀ p, p < 15 → m.testBit p = f p := ⟨bs f 15, bs_lt f 15, rfl, fun p hp => by rw [bs_tb]; simp [hp]⟩
theorem sI_nn (f : Nat → Bool) : ¬ sI f < 0 := nI_pos (sI_lt f)
/-- how many -/
def cnt (f : Nat → Bool) (n : Nat) : Nat := (List.range n).countP f
theorem cnt_s (f : Nat → Bool) (n : Nat) : cnt f (n + 1) = cnt f n + (if f n then 1 else 0) := by
  rw [cnt, cnt, List.range_succ, List.countP_append, List.countP_singleton]
theorem cnt_le (f : Nat → Bool) (n : Nat) : cnt f n ≤ n := by
  have := List.countP_le_length (p := f) (l := List.range n)
  rwa [List.length_range] at this
theorem cnt_congr {f g : Nat → Bool} {n : Nat} (h : ∀ p, p < n → f p = g p) : cnt f n = cnt g n := by
  induction n with
  | zero => rfl
  | succ n ih => rw [cnt_s, cnt_s, ih (fun p hp => h p (by omega)), h n (by omega)]
/-- Integer.bitCount, as it is written -/
def bcF (x : Int32) : Int32 :=
  let a := x - (ushr x 1 &&& 1431655765)
  let b := (a &&& 858993459) + (ushr a 2 &&& 858993459)
  let c := (b + ushr b 4) &&& 252645135
  let e := c + ushr c 8
  let f := e + ushr e 16
  f &&& 63
def bcT : Nat → Nat → Nat
  | 0, _ => 0
  | n + 1, m => bcT n m + m / 2 ^ n % 2
def bcN (m : Nat) : Nat :=
  let a := m - (m / 2 &&& 1431655765)
  let b := (a &&& 858993459) + (a / 4 &&& 858993459)
  let c := (b + b / 16) &&& 252645135
  let e := c + c / 256
  let f := e + e / 65536
  f &&& 63
theorem bcN_lo : ∀ a : Fin 128, ∀ b : Fin 256, bcN (a.val * 256 + b.val) = bcT 15 (a.val * 256 + b.val) := by decide +kernel
theorem n_us (k : Nat) (s : Int32) (hs : ((s.toUInt32 &&& Int32.toUInt32 31).toBitVec % 32).toNat = k) {m : Nat} (hm : m < 2 ^ 32) : ushr (nI m) s = nI (m / 2 ^ k) := pk_ushrN hm s k hs
theorem n_lit (n : Nat) : (OfNat.ofNat n : Int32) = nI n := rfl
theorem bcF_N {m : Nat} (hm : m < 32768) : bcF (nI m) = nI (bcN m) := by
  have h1 : m / 2 &&& 1431655765 ≤ m := Nat.le_trans Nat.and_le_left (Nat.div_le_self _ _)
  simp only [bcF, bcN]
  rw [n_us 1 1 (by decide) (by omega), show (1431655765 : Int32) = nI 1431655765 from rfl, n_and, Nat.pow_one, pk_sub h1]
  generalize ha : m - (m / 2 &&& 1431655765) = a
  have la : a < 32768 := by omega
  rw [n_us 2 2 (by decide) (by omega), show (858993459 : Int32) = nI 858993459 from rfl, n_and, n_and, nI_add, show 2 ^ 2 = 4 from rfl]
  have lb1 : a &&& 858993459 ≤ a := Nat.and_le_left
  have lb2 : a / 4 &&& 858993459 ≤ a / 4 := Nat.and_le_left
  generalize hb : (a &&& 858993459) + (a / 4 &&& 858993459) = b
  have lb : b < 65536 := by omega
  rw [n_us 4 4 (by decide) (by omega), nI_add, show (252645135 : Int32) = nI 252645135 from rfl, n_and, show 2 ^ 4 = 16 from rfl]
  have lc : (b + b / 16) &&& 252645135 ≤ b + b / 16 := Nat.and_le_left
  generalize hc : (b + b / 16) &&& 252645135 = c at lc ⊢
  rw [n_us 8 8 (by decide) (by omega), nI_add, show 2 ^ 8 = 256 from rfl]
  generalize he : c + c / 256 = e
  rw [n_us 16 16 (by decide) (by omega), nI_add, show 2 ^ 16 = 65536 from rfl, show (63 : Int32) = nI 63 from rfl, n_and]
theorem bcF_lo {m : Nat} (hm : m < 32768) : bcF (nI m) = nI (bcT 15 m) := by
  have h := bcN_lo ⟨m / 256, by omega⟩ ⟨m % 256, Nat.mod_lt _ (by decide)⟩
  have e : m / 256 * 256 + m % 256 = m := by omega
  simp only [e] at h
  rw [bcF_N hm, h]
theorem bcT_cnt (m : Nat) : ∀ n, bcT n m = cnt m.testBit n
  | 0 => rfl
  | n + 1 => by
    rw [cnt_s, bcT, bcT_cnt m n, Nat.testBit_eq_decide_div_mod_eq]
    rcases Nat.mod_two_eq_zero_or_one (m / 2 ^ n) with h | h <;> simp [h]
theorem bcF_sI (f : Nat → Bool) : bcF (sI f) = nI (cnt f 15) := by
  rw [sI, bcF_lo (bs_lt f 15), bcT_cnt]
  congr 1
  exact cnt_congr (fun p hp => by rw [bs_tb]; simp [hp])
