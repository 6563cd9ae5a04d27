section E36
variable {L : Nat} {xs : Nat → Int32} {d : Nat} {Q : AQ} {M M0 M1 M2 : AM} {n N k0 p e v w r q s k m o hi : Nat} {f g h : Nat → Nat → Nat} {io : Nat → Option Nat} {C G : Nat → Bool} {T : PV} {x1 x2 x3 z : Int32} {ok okc okr : Nat → Bool} {c b : Nat → Nat} {B B' : Option Nat}
/-- not worse: by price, then by how many, then by number -/
def lek (c b : Nat → Nat) (x y : Nat) : Prop := c x < c y ∨ (c x = c y ∧ (b x < b y ∨ (b x = b y ∧ x ≤ y)))
def spM (ok : Nat → Bool) (c b : Nat → Nat) (hi : Nat) : Option Nat → Prop
  | none => ∀ e, e < hi → ok e = false
  | some x => x < hi ∧ ok x = true ∧ ∀ e, e < hi → ok e = true → lek c b x e
def btr (c b : Nat → Nat) (m : Nat) : Option Nat → Prop
  | none => True
  | some x => c m < c x ∨ (c m = c x ∧ b m < b x)
theorem spM.no (h : spM ok c b m B) (z : ok m = false) : spM ok c b (m + 1) B := by
  cases B with
  | none =>
    intro e he
    by_cases q : e = m
    · rw [q]; exact z
    · exact h e (by omega)
  | some x =>
    refine ⟨by have := h.1; omega, h.2.1, fun e he ho => ?_⟩
    by_cases q : e = m
    · rw [q, z] at ho; cases ho
    · exact h.2.2 e (by omega) ho
theorem spM.yes (h : spM ok c b m B) (z : ok m = true) (y : btr c b m B) : spM ok c b (m + 1) (some m) := by
  refine ⟨by omega, z, fun e he ho => ?_⟩
  by_cases q : e = m
  · subst q; exact Or.inr ⟨rfl, Or.inr ⟨rfl, Nat.le_refl _⟩⟩
  · cases B with
    | none => have := h e (by omega); rw [this] at ho; cases ho
    | some x =>
      have h1 := h.2.2 e (by omega) ho
      unfold lek at h1 ⊢
      rcases y with y | ⟨y1, y2⟩
      · omega
      · omega
theorem spM.nb (h : spM ok c b m B) (y : ¬ btr c b m B) : spM ok c b (m + 1) B := by
  cases B with
  | none => exact absurd trivial y
  | some x =>
    refine ⟨by have := h.1; omega, h.2.1, fun e he ho => ?_⟩
    by_cases q : e = m
    · subst q
      have h1 : ¬ c e < c x := fun z => y (Or.inl z)
      have h2 : c e = c x → ¬ b e < b x := fun z1 z2 => y (Or.inr ⟨z1, z2⟩)
      have h3 := h.1
      unfold lek
      omega
    · exact h.2.2 e (by omega) ho
theorem spM.eq {o N : Nat} (h1 : spM okc c b (o + 1) B) (h2 : spM okr c b N B') (hoN : o < N) (hcr : ∀ e, e < o + 1 → okc e = true → okr e = true) (hrc : ∀ e, e < N → okr e = true → okc (e &&& o) = true ∧ c (e &&& o) ≤ c e ∧ (e &&& o = e ∨ b (e &&& o) < b e)) : B = B' := by
  have hle : ∀ e, e &&& o < o + 1 := fun e => Nat.lt_succ_of_le Nat.and_le_right
  cases B' with
  | none =>
    cases B with
    | none => rfl
    | some x => have := h2 x (by have := h1.1; omega); rw [hcr x h1.1 h1.2.1] at this; cases this
  | some y =>
    obtain ⟨a1, a2, a3⟩ := hrc y h2.1 h2.2.1
    have hy := h2.2.2 (y &&& o) (by have := hle y; omega) (hcr _ (hle y) a1)
    have ey : y &&& o = y := by
      rcases a3 with a3 | a3
      · exact a3
      · unfold lek at hy; omega
    rw [ey] at a1
    cases B with
    | none => have := h1 y (by have := hle y; rw [ey] at this; exact this); rw [a1] at this; cases this
    | some x =>
      have k1 := h1.2.2 y (by have := hle y; rw [ey] at this; exact this) a1
      have k2 := h2.2.2 x (by have := h1.1; omega) (hcr x h1.1 h1.2.1)
      unfold lek at k1 k2
      congr 1
      omega
/-- all but those of a set come -/
def cmo (n m : Nat) : Nat → Bool := fun p => ein n p && !m.testBit p
/-- is it so that one is let in, at a stroke or by it -/
def suc (by1 : Bool) (s : Nat) : Option Nat → Bool
  | none => false
  | some a => decide (a = s) || by1
def sval (T : PV) (n : Nat) (f : Nat → Nat → Nat) (s k m : Nat) : Option Nat := dgo T n f (cmo n m) noG 5 (s + 1) k
def bt (m : Nat) : Nat := cnt m.testBit 15
def cst (f : Nat → Nat → Nat) (n m : Nat) : Nat := prc f m.testBit n
/-- who of the others has come by a stroke -/
def oth (n : Nat) (f : Nat → Nat → Nat) (s k : Nat) : Nat → Bool := fun p => (decide (p < n) && decide (f 1 p ≤ s)) && !(p == k)
def othN (n : Nat) (f : Nat → Nat → Nat) (s k : Nat) : Nat := bs (oth n f s k) n
theorem oth_tb {p : Nat} : (othN n f s k).testBit p = oth n f s k p := by
  unfold othN
  rw [bs_tb]
  unfold oth
  by_cases h : p < n
  · simp [h]
  · simp [h]
theorem oth_lt : othN n f s k < 2 ^ n := bs_lt _ n
theorem oth_sI (hn : n ≤ 15) : sI (oth n f s k) = nI (othN n f s k) := by
  rw [sI]
  congr 1
  apply Nat.eq_of_testBit_eq
  intro p
  rw [bs_tb, oth_tb]
  unfold oth
  by_cases h : p < n
  · simp [h, Nat.lt_of_lt_of_le h hn]
  · simp [h]
theorem prc_sub {S S' : Nat → Bool} (hs : ∀ p, S p = true → S' p = true) : ∀ n, prc f S n ≤ prc f S' n
  | 0 => Nat.le_refl _
  | n + 1 => by
    have ih := prc_sub hs n
    unfold prc
    by_cases h : S n = true
    · rw [if_pos h, if_pos (hs n h)]; omega
    · rw [if_neg h]; omega
theorem cnt_sub {S S' : Nat → Bool} (hs : ∀ p, S p = true → S' p = true) : ∀ n, cnt S n ≤ cnt S' n ∧ (cnt S n = cnt S' n → ∀ p, p < n → S p = S' p)
  | 0 => ⟨Nat.le_refl _, fun _ p hp => by omega⟩
  | n + 1 => by
    have ih := cnt_sub hs n
    rw [cnt_s, cnt_s]
    by_cases h : S n = true
    · rw [if_pos h, if_pos (hs n h)]
      refine ⟨by omega, fun e p hp => ?_⟩
      by_cases q : p = n
      · rw [q, h, hs n h]
      · exact ih.2 (by omega) p (by omega)
    · rw [if_neg h]
      by_cases h2 : S' n = true
      · rw [if_pos h2]
        exact ⟨by omega, fun e p hp => by omega⟩
      · rw [if_neg h2]
        refine ⟨by omega, fun e p hp => ?_⟩
        by_cases q : p = n
        · rw [q]
          cases z1 : S n with
          | true => exact absurd z1 h
          | false => cases z2 : S' n with
            | true => exact absurd z2 h2
            | false => rfl
        · exact ih.2 (by omega) p (by omega)
theorem and_sub {e o : Nat} : ∀ p, (e &&& o).testBit p = true → e.testBit p = true := fun p h => by
  rw [Nat.testBit_and, Bool.and_eq_true] at h
  exact h.1
theorem bt_and {e o : Nat} (he : e < 2 ^ 15) : e &&& o = e ∨ bt (e &&& o) < bt e := by
  have h := cnt_sub (S := (e &&& o).testBit) (S' := e.testBit) and_sub 15
  by_cases z : bt (e &&& o) < bt e
  · exact Or.inr z
  · refine Or.inl (Nat.eq_of_testBit_eq (fun p => ?_))
    by_cases hp : p < 15
    · exact h.2 (by unfold bt at z; omega) p hp
    · have h1 : e.testBit p = false := Nat.testBit_lt_two_pow (Nat.lt_of_lt_of_le he (Nat.pow_le_pow_right (by decide) (by omega)))
      rw [Nat.testBit_and, h1, Bool.false_and]
/-- those who come later, and oneself, change nothing -/
theorem sval_and {e : Nat} (hk : e.testBit k = false) : ∀ j, j ≤ s + 1 → dgo T n f (cmo n (e &&& othN n f s k)) noG 5 j = dgo T n f (cmo n e) noG 5 j
  | 0, _ => rfl
  | j + 1, h => by
    have ih : dgo T n f (cmo n (e &&& othN n f s k)) noG 5 j = dgo T n f (cmo n e) noG 5 j := sval_and hk j (by omega)
    rw [dgo_s, dgo_s, ih]
    have hw : wtg n f j (cmo n (e &&& othN n f s k)) (dgo T n f (cmo n e) noG 5 j) = wtg n f j (cmo n e) (dgo T n f (cmo n e) noG 5 j) := by
      funext p
      unfold wtg thrN cmo
      by_cases hp : p < n
      · by_cases ht : thr f j p = true
        · have hc : (e &&& othN n f s k).testBit p = e.testBit p := by
            rw [Nat.testBit_and, oth_tb]
            unfold oth
            unfold thr at ht
            simp only [Bool.and_eq_true, decide_eq_true_eq] at ht
            by_cases hpk : p = k
            · rw [hpk, hk, Bool.false_and]
            · simp [hp, hpk, show f 1 p ≤ s from by omega]
          rw [hc]
        · have ht' : thr f j p = false := by
            cases z : thr f j p with
            | true => exact absurd z ht
            | false => rfl
          simp [ht']
      · simp [hp]
    rw [hw]
theorem sent_eq {by1 : Bool} (hn : n ≤ 12) (h1 : spM (fun e => decide (e &&& othN n f s k = e) && suc by1 s (sval T n f s k e)) (cst f n) bt (othN n f s k + 1) B) (h2 : spM (fun e => !e.testBit k && suc by1 s (sval T n f s k e)) (cst f n) bt (2 ^ n) B') : B = B' := by
  have hB : 2 ^ n ≤ 2 ^ 12 := Nat.pow_le_pow_right (by decide) hn
  have hk0 : (othN n f s k).testBit k = false := by rw [oth_tb]; unfold oth; simp
  refine spM.eq h1 h2 oth_lt (fun e he ho => ?_) (fun e he ho => ?_)
  · simp only [Bool.and_eq_true, decide_eq_true_eq] at ho ⊢
    refine ⟨?_, ho.2⟩
    have : e.testBit k = false := by rw [← ho.1, Nat.testBit_and, hk0, Bool.and_false]
    rw [this]; rfl
  · simp only [Bool.and_eq_true, decide_eq_true_eq, Bool.not_eq_true'] at ho ⊢
    refine ⟨⟨?_, ?_⟩, prc_sub and_sub n, bt_and (by omega)⟩
    · rw [Nat.and_assoc, Nat.and_self]
    · unfold sval
      rw [sval_and ho.1 (s + 1) (Nat.le_refl _)]
      exact ho.2
/-- how many bits, as the reference counts them -/
def boT : Nat → Nat → Bool
  | 0, m => decide (m = 0)
  | j + 1, m => if m = 0 then true else boT j (m &&& (m - 1))
def boF : Nat → Nat → Nat
  | 0, _ => 0
  | j + 1, m => if m = 0 then 0 else boF j (m &&& (m - 1)) + 1
theorem bo_lo : ∀ a : Fin 64, ∀ c : Fin 64, boT 12 (a.val * 64 + c.val) = true ∧ boF 12 (a.val * 64 + c.val) = bcT 15 (a.val * 64 + c.val) := by decide +kernel
theorem bo_all (hm : m < 4096) : boT 12 m = true ∧ boF 12 m = bcT 15 m := by
  have h := bo_lo ⟨m / 64, by omega⟩ ⟨m % 64, Nat.mod_lt _ (by decide)⟩
  have e : m / 64 * 64 + m % 64 = m := by omega
  simp only [e] at h
  exact h
theorem m_bits : ∀ (j m a : Nat), m < 2 ^ 20 → boT j m = true → Q (some (.int (nI (a + boF j m)))) M → v_Md_bitsOf L xs d Q 4 [(1, .int (nI a)), (2, .int (nI m))] [] M
  | 0, m, a, hm, h, kk => by
    have : m = 0 := of_decide_eq_true h
    subst this
    exact u_Md_bitsOf_4 ⟨fun _ => kk, fun z => absurd rfl z⟩
  | j + 1, m, a, hm, h, kk => by
    unfold boT at h
    unfold boF at kk
    by_cases h0 : m = 0
    · rw [if_pos h0] at kk
      subst h0
      exact u_Md_bitsOf_4 ⟨fun _ => kk, fun z => absurd rfl z⟩
    · rw [if_neg h0] at kk h
      have hle : m &&& (m - 1) ≤ m - 1 := Nat.and_le_right
      refine u_Md_bitsOf_4 ⟨fun z => absurd ((nI_eq (b := 0) (by omega) (by decide)).mp z) h0, fun _ => ?_⟩
      rw [show nI m - 1 = nI (m - 1) from n_sub (b := 1) (by omega), n_and, nI_1]
      refine m_bits j (m &&& (m - 1)) (a + 1) (by omega) h ?_
      rw [show a + 1 + boF j (m &&& (m - 1)) = a + (boF j (m &&& (m - 1)) + 1) from by omega]
      exact kk
theorem m_bitsOf (hd : 1 ≤ d) (hm : m < 4096) (kk : Q (some (.int (nI (bt m)))) M) : am_Call (gG L xs) d c_Md_bitsOf [.int (nI m)] M Q := by
  obtain ⟨d, rfl⟩ : ∃ a, d = a + 1 := ⟨d - 1, by omega⟩
  have h := bo_all hm
  refine t_Md_bitsOf (m_bits 12 m 0 (by omega) h.1 ?_)
  rw [h.2, bcT_cnt, Nat.zero_add]
  exact kk
theorem m_priceOf (hd : 2 ≤ d) (hr : rS n f T M) (hm : m < 4096) (kk : Q (some (.int (nI (cst f n m)))) M) : am_Call (gG L xs) d c_Md_priceOf [.ref 40, .int (nI m)] M Q := by
  obtain ⟨d, rfl⟩ : ∃ a, d = a + 2 := ⟨d - 2, by omega⟩
  have hn := hr.2.2.2.2.2
  have loop : ∀ j p, p + j = n → v_Md_priceOf L xs (d + 1) Q 4 [(0, .ref 40), (1, .int (nI m)), (2, .int (nI (prc f m.testBit p))), (3, .int (nI p))] [] M := by
    intro j
    induction j with
    | zero =>
      intro p hp
      have : p = n := by omega
      subst this
      exact u_Md_priceOf_4 ⟨fun _ => kk, fun z => absurd (by rw [hr.1]; exact nI_le (Nat.le_refl _) (by omega)) z⟩
    | succ j ih =>
      intro p hp
      have nx := ih (p + 1) (by omega)
      rw [← nI_1 p] at nx
      rw [prc] at nx
      have q4 : vp_in ((5 : Int32) * nI p + 4) 75 ∧ M.1 41 (((5 : Int32) * nI p + 4).toNatClampNeg) = nI (f 4 p) := hr.2.1.at 4 (by decide) (by omega)
      refine u_Md_priceOf_4 ⟨fun z => absurd z (by rw [hr.1]; exact nI_ge (by omega) (by omega)), fun _ => ?_⟩
      rw [n_bit (by omega) (by omega), q4.2]
      refine ⟨fun z => ?_, fun z => ⟨q4.1, ?_⟩⟩
      · rw [if_neg (fun y => z (b2i_1.mpr y))] at nx
        rw [show nI (prc f m.testBit p) + 0 = nI (prc f m.testBit p + 0) from nI_add _ 0]
        exact nx
      · rw [if_pos (b2i_1.mp z)] at nx
        rw [nI_add]
        exact nx
  exact t_Md_priceOf (loop n 0 (by omega))
theorem s_priceN (hd : 1 ≤ d) (hx : xS n f T M) (hm : m < 2 ^ 15) (kk : Q (some (.int (nI (cst f n m)))) M) : am_Call (gG L xs) d c_Crowd_priceOf [.ref 1, .int (nI m)] M Q := by
  rw [sI_nat hm]
  exact s_priceOf hd isCr1 hx.1 hx.2.2.1 kk
theorem s_bitsN (hm : m < 2 ^ 15) (kk : Q (some (.int (nI (bt m)))) M) : am_Call (gG L xs) (d + 1) c_J_bitCount [.int (nI m)] M Q := by
  rw [sI_nat hm]
  exact s_bitCount kk
end E36
