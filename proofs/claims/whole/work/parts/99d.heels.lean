section E27
variable {a : Nat → Option Nat} {lo hi x b t t' e : Nat} {K K' : Option Nat} {E E' : Option (Nat × Nat)}
/-- the first of a span of which there is something -/
def spL (a : Nat → Option Nat) (lo hi : Nat) : Option Nat → Prop
  | none => ∀ e, lo ≤ e → e < hi → a e = none
  | some x => lo ≤ x ∧ x < hi ∧ a x ≠ none ∧ ∀ e, lo ≤ e → e < x → a e = none
/-- the first of those of a span with the least value -/
def spE (a : Nat → Option Nat) (lo hi : Nat) : Option (Nat × Nat) → Prop
  | none => ∀ e, lo ≤ e → e < hi → a e = none
  | some (b, t) => lo ≤ b ∧ b < hi ∧ a b = some t ∧ ∀ e t', lo ≤ e → e < hi → a e = some t' → t < t' ∨ (t = t' ∧ b ≤ e)
theorem spL.up0 (h : spL a lo hi K) (z : a hi = none) : spL a lo (hi + 1) K := by
  cases K with
  | none =>
    intro e h1 h2
    by_cases q : e = hi
    · rw [q]; exact z
    · exact h e h1 (by omega)
  | some x => exact ⟨h.1, Nat.lt_succ_of_lt h.2.1, h.2.2.1, h.2.2.2⟩
theorem spL.up1 (h : spL a lo hi (some x)) : spL a lo (hi + 1) (some x) := ⟨h.1, Nat.lt_succ_of_lt h.2.1, h.2.2.1, h.2.2.2⟩
theorem spL.up2 (h : spL a lo hi none) (hl : lo ≤ hi) (z : a hi ≠ none) : spL a lo (hi + 1) (some hi) := ⟨hl, Nat.lt_succ_self hi, z, h⟩
theorem spL.dn0 (h : spL a (lo + 1) hi K) (z : a lo = none) : spL a lo hi K := by
  cases K with
  | none =>
    intro e h1 h2
    by_cases q : e = lo
    · rw [q]; exact z
    · exact h e (by omega) h2
  | some x =>
    refine ⟨by have := h.1; omega, h.2.1, h.2.2.1, fun e h1 h2 => ?_⟩
    by_cases q : e = lo
    · rw [q]; exact z
    · exact h.2.2.2 e (by omega) h2
theorem spL.dn1 (hl : lo < hi) (z : a lo ≠ none) : spL a lo hi (some lo) := ⟨Nat.le_refl _, hl, z, fun e h1 h2 => by omega⟩
theorem spL.uq (h : spL a lo hi K) (h' : spL a lo hi K') : K = K' := by
  cases K with
  | none => cases K' with
    | none => rfl
    | some y => exact absurd (h y h'.1 h'.2.1) h'.2.2.1
  | some x => cases K' with
    | none => exact absurd (h' x h.1 h.2.1) h.2.2.1
    | some y =>
      have h1 : ¬ x < y := fun z => h.2.2.1 (h'.2.2.2 x h.1 z)
      have h2 : ¬ y < x := fun z => h'.2.2.1 (h.2.2.2 y h'.1 z)
      congr 1; omega
theorem spL.ex : ∀ hi, lo ≤ hi → ∃ K, spL a lo hi K
  | 0, _ => ⟨none, fun e _ h => by omega⟩
  | hi + 1, h => by
    by_cases q : lo = hi + 1
    · exact ⟨none, fun e h1 h2 => by omega⟩
    · obtain ⟨K, hK⟩ := spL.ex hi (by omega)
      cases z : a hi with
      | none => exact ⟨K, hK.up0 z⟩
      | some t => cases K with
        | none => exact ⟨_, hK.up2 (by omega) (by rw [z]; intro y; cases y)⟩
        | some x => exact ⟨_, hK.up1⟩
theorem spE.up0 (h : spE a lo hi E) (z : a hi = none) : spE a lo (hi + 1) E := by
  cases E with
  | none =>
    intro e h1 h2
    by_cases q : e = hi
    · rw [q]; exact z
    · exact h e h1 (by omega)
  | some bt =>
    obtain ⟨b, t⟩ := bt
    refine ⟨h.1, Nat.lt_succ_of_lt h.2.1, h.2.2.1, fun e t' h1 h2 h3 => ?_⟩
    by_cases q : e = hi
    · rw [q, z] at h3; cases h3
    · exact h.2.2.2 e t' h1 (by omega) h3
theorem spE.up1 (h : spE a lo hi none) (hl : lo ≤ hi) (z : a hi = some t) : spE a lo (hi + 1) (some (hi, t)) := by
  refine ⟨hl, Nat.lt_succ_self hi, z, fun e t' h1 h2 h3 => ?_⟩
  by_cases q : e = hi
  · rw [q, z] at h3; cases h3; exact Or.inr ⟨rfl, by omega⟩
  · rw [h e h1 (by omega)] at h3; cases h3
theorem spE.up2 (h : spE a lo hi (some (b, t'))) (hl : lo ≤ hi) (z : a hi = some t) (y : t < t') : spE a lo (hi + 1) (some (hi, t)) := by
  refine ⟨hl, Nat.lt_succ_self hi, z, fun e s h1 h2 h3 => ?_⟩
  by_cases q : e = hi
  · rw [q, z] at h3; cases h3; exact Or.inr ⟨rfl, by omega⟩
  · have := h.2.2.2 e s h1 (by omega) h3; exact Or.inl (by omega)
theorem spE.up3 (h : spE a lo hi (some (b, t'))) (z : a hi = some t) (y : ¬ t < t') : spE a lo (hi + 1) (some (b, t')) := by
  refine ⟨h.1, Nat.lt_succ_of_lt h.2.1, h.2.2.1, fun e s h1 h2 h3 => ?_⟩
  by_cases q : e = hi
  · rw [q, z] at h3; cases h3; have := h.2.1; omega
  · exact h.2.2.2 e s h1 (by omega) h3
theorem spE.dn0 (h : spE a (lo + 1) hi E) (z : a lo = none) : spE a lo hi E := by
  cases E with
  | none =>
    intro e h1 h2
    by_cases q : e = lo
    · rw [q]; exact z
    · exact h e (by omega) h2
  | some bt =>
    obtain ⟨b, t⟩ := bt
    refine ⟨by have := h.1; omega, h.2.1, h.2.2.1, fun e t' h1 h2 h3 => ?_⟩
    by_cases q : e = lo
    · rw [q, z] at h3; cases h3
    · exact h.2.2.2 e t' (by omega) h2 h3
theorem spE.dn1 (h : spE a (lo + 1) hi none) (hl : lo < hi) (z : a lo = some t) : spE a lo hi (some (lo, t)) := by
  refine ⟨Nat.le_refl _, hl, z, fun e t' h1 h2 h3 => ?_⟩
  by_cases q : e = lo
  · rw [q, z] at h3; cases h3; exact Or.inr ⟨rfl, by omega⟩
  · rw [h e (by omega) h2] at h3; cases h3
theorem spE.dn2 (h : spE a (lo + 1) hi (some (b, t'))) (z : a lo = some t) (y : ¬ t' < t) : spE a lo hi (some (lo, t)) := by
  refine ⟨Nat.le_refl _, by have := h.1; have := h.2.1; omega, z, fun e s h1 h2 h3 => ?_⟩
  by_cases q : e = lo
  · rw [q, z] at h3; cases h3; exact Or.inr ⟨rfl, by omega⟩
  · have := h.2.2.2 e s (by omega) h2 h3; omega
theorem spE.dn3 (h : spE a (lo + 1) hi (some (b, t'))) (z : a lo = some t) (y : t' < t) : spE a lo hi (some (b, t')) := by
  refine ⟨by have := h.1; omega, h.2.1, h.2.2.1, fun e s h1 h2 h3 => ?_⟩
  by_cases q : e = lo
  · rw [q, z] at h3; cases h3; exact Or.inl y
  · exact h.2.2.2 e s (by omega) h2 h3
theorem spE.uq (h : spE a lo hi E) (h' : spE a lo hi E') : E = E' := by
  cases E with
  | none => cases E' with
    | none => rfl
    | some y => obtain ⟨b, t⟩ := y; have := h b h'.1 h'.2.1; rw [h'.2.2.1] at this; cases this
  | some x =>
    obtain ⟨b, t⟩ := x
    cases E' with
    | none => have := h' b h.1 h.2.1; rw [h.2.2.1] at this; cases this
    | some y =>
      obtain ⟨b', t'⟩ := y
      have h1 := h.2.2.2 b' t' h'.1 h'.2.1 h'.2.2.1
      have h2 := h'.2.2.2 b t h.1 h.2.1 h.2.2.1
      have e1 : b = b' := by omega
      have e2 : t = t' := by omega
      rw [e1, e2]
theorem spE.ex : ∀ hi, lo ≤ hi → ∃ E, spE a lo hi E
  | 0, _ => ⟨none, fun e _ h => by omega⟩
  | hi + 1, h => by
    by_cases q : lo = hi + 1
    · exact ⟨none, fun e h1 h2 => by omega⟩
    · obtain ⟨E, hE⟩ := spE.ex hi (by omega)
      cases z : a hi with
      | none => exact ⟨E, hE.up0 z⟩
      | some t => cases E with
        | none => exact ⟨_, hE.up1 (by omega) z⟩
        | some x =>
          obtain ⟨b, t'⟩ := x
          by_cases y : t < t'
          · exact ⟨_, hE.up2 (by omega) z y⟩
          · exact ⟨_, hE.up3 z y⟩
/-- one more bit -/
theorem b21_or {g : Nat → Bool} {e : Nat} (he : e < 21) : nI (bs g 21) ||| ((1 : Int32) <<< (nI e &&& 31)) = nI (bs (fun q => g q || decide (q = e)) 21) := by
  rw [n_shl1 (by omega), n_or]
  congr 1
  apply Nat.eq_of_testBit_eq
  intro q
  rw [Nat.testBit_or, bs_tb, bs_tb, Nat.testBit_two_pow]
  by_cases hq : q = e
  · subst hq; simp [he]
  · have : ¬ e = q := fun z => hq z.symm
    simp [hq, this]
end E27
section E28
variable {L : Nat} {xs : Nat → Int32} {d : Nat} {Q : AQ} {M M0 M1 M2 : AM} {n N k0 p e v w : Nat} {f : Nat → Nat → Nat} {io : Nat → Option Nat} {C G : Nat → Bool} {T : PV} {x1 x2 x3 : Int32}
/-- when one is let in by so many strokes, wearing so much -/
def hwr (T : PV) (n : Nat) (f : Nat → Nat → Nat) (p k : Nat) (e : Nat) : Option Nat := dgo T n (upf f 3 p e) (ein n) noG 5 k p
theorem hwr_lt {k t : Nat} (h : hwr T n f p k e = some t) : t < k := (dgo_lt h).1
def wrI : Option Nat → Int32
  | none => 1000
  | some t => nI t
theorem m_wearing (hd : 74 ≤ d) (hr : rS n f T M) (hp : p < n) (hv : v ≤ 20) (hk : k0 ≤ 1000) (kk : ∀ M', fs rK rJ M M' → rS n f T M' → M'.1 52 = M.1 52 → Q (some (.int (wrI (hwr T n f p k0 v)))) M') : am_Call (gG L xs) d c_Md_wearing [.ref 40, .int (nI p), .int (nI v), .int (nI k0)] M Q := by
  obtain ⟨d, rfl⟩ : ∃ a, d = a + 1 := ⟨d - 1, by omega⟩
  have hn := hr.2.2.2.2.2
  have hok := hr.2.2.2.2.1 p hp
  have q : vp_in ((5 : Int32) * nI p + 3) 75 ∧ M.1 41 (((5 : Int32) * nI p + 3).toNatClampNeg) = nI (f 3 p) := hr.2.1.at 3 (by decide) hp
  refine t_Md_wearing ⟨q.1, ?_⟩
  rw [q.2, show (5 : Int32) * nI p + 3 = nI (5 * p + 3) from (q5 p).2.2.2.1, n_cl (show 5 * p + 3 < 2 ^ 31 by omega)]
  have s2 := hr.up (w := 3) (p := p) (v := v) (by decide) hp ⟨fun z => by omega, fun z => by omega, fun z => by omega, fun _ => hv, fun z => by omega⟩
  refine m_dayW (k0 := k0) (by omega) s2 hk (fun M' h => u_Md_wearing_28 h) (fun M2 f2 s3 e49 => ?_)
  have s4 := s3.up (w := 3) (p := p) (v := f 3 p) (by decide) hp ⟨fun z => by omega, fun z => by omega, fun z => by omega, fun _ => by omega, fun z => by omega⟩
  rw [upf_upf, upf_id] at s4
  have K := kk _ ((((fs.rf (K := rK) (J := rJ)).c (a := 41) (j := 5 * p + 3) (v := nI v) (by decide) (by decide)).tt (f2.to (by decide) (by decide))).c (by decide) (by decide)) s4 (by rw [wi_ne (by decide), f2.i 52, wi_ne (by decide)])
  refine u_Md_wearing_33 ?_
  rw [n_cl (show 5 * p + 3 < 2 ^ 31 by omega), n_cl (show p < 2 ^ 31 by omega), wi_ne (show (49 : Nat) ≠ 41 by decide), e49 p (by omega)]
  refine ⟨(n_vp (by omega)).mpr (by omega), (n_vp (by omega)).mpr (by omega), ?_⟩
  unfold hwr at K
  cases z : dgo T n (upf f 3 p v) (ein n) noG 5 k0 p with
  | none =>
    rw [z] at K
    exact ⟨fun y => absurd y (by decide), fun _ => K⟩
  | some t =>
    have ht := (dgo_lt z).1
    rw [z] at K
    exact ⟨fun _ => K, fun y => absurd (nI_pos' (by omega)) y⟩
/-- what HEELS answers -/
def hlV (w : Nat) (K : Option Nat) (E : Option (Nat × Nat)) (S : Nat) : Int32 := if w = 2 then nI S else if w = 0 then oI K else ltB E
theorem x_heels {k : Nat} {K : Option Nat} {E : Option (Nat × Nat)} (hd : 9 ≤ d) (hx : xS n f T M) (hp : p < n) (hk : k ≤ 100) (hw : w < 3) (hK : spL (hwr T n f p k) 0 21 K) (hE : spE (hwr T n f p k) 0 21 E) (kk : ∀ M', fr qK M M' → Q (some (.int (hlV w K E (bs (fun e => (hwr T n f p k e).isSome) 21)))) M') : am_Call (gG L xs) d c_Wishes_heelsFor [.ref 20, .int (nI p), .int (nI k), .int (nI w)] M Q := by
  obtain ⟨d, rfl⟩ : ∃ a, d = a + 1 := ⟨d - 1, by omega⟩
  have hn := hx.2.2.2
  have w0 : nI w = 0 ↔ w = 0 := nI_eq (b := 0) (by omega) (by decide)
  have w2 : nI w = 2 ↔ w = 2 := nI_eq (b := 2) (by omega) (by decide)
  have loop : ∀ j e (M1 : AM) (K1 : Option Nat) (E1 : Option (Nat × Nat)), e + j = 21 → fr qK M M1 → xS n f T M1 → cwd n f 3 p M1 → spL (hwr T n f p k) 0 e K1 → spE (hwr T n f p k) 0 e E1 → v_Wishes_heelsFor L xs d Q 28 [(0, .ref 20), (1, .int (nI p)), (2, .int (nI k)), (3, .int (nI w)), (4, .int (nI (bs (fun q => decide (q < e) && (hwr T n f p k q).isSome) 21))), (5, .int (oI K1)), (6, .int (ltB E1)), (7, .int (nI (ltL k E1))), (8, .int (nI e))] [] M1 := by
    intro j
    induction j with
    | zero =>
      intro e M1 K1 E1 he F s1 c1 hK1 hE1
      have : e = 21 := by omega
      subst this
      have eK := hK1.uq hK
      have eE := hE1.uq hE
      subst eK
      subst eE
      have KK := kk M1 F
      rw [bs_congr (f := fun e => (hwr T n f p k e).isSome) (g := fun q => decide (q < 21) && (hwr T n f p k q).isSome) (fun q hq => by simp [hq])] at KK
      unfold hlV at KK
      refine u_Wishes_heelsFor_28 ⟨fun _ => ⟨fun z2 => ⟨fun z0 => ?_, fun z0 => ?_⟩, fun z2 => ?_⟩, fun z => absurd ((n_ltI (a := 20) (b := 21) (by decide) (by decide)).mpr (by decide)) z⟩
      · rw [if_neg (fun y => z2 (w2.mpr y)), if_neg (fun y => z0 (w0.mpr y))] at KK; exact KK
      · rw [if_neg (fun y => z2 (w2.mpr y)), if_pos (w0.mp z0)] at KK; exact KK
      · rw [if_pos (w2.mp z2)] at KK; exact KK
    | succ j ih =>
      intro e M1 K1 E1 he F s1 c1 hK1 hE1
      have he21 : e < 21 := by omega
      refine u_Wishes_heelsFor_28 ⟨fun z => absurd ((n_ltI (a := 20) (by decide) (by omega)).mp z) (by omega), fun _ => ?_⟩
      refine x_tillW (w := 3) (v := e) (k0 := k) (q := p) (by omega) s1 c1 (by decide) hp ⟨fun z => by omega, fun z => by omega, fun z => by omega, fun _ => by omega, fun z => by omega⟩ hp (by omega) (Q := fun r M' => v_Wishes_heelsFor L xs d Q 55 [(0, .ref 20), (1, .int (nI p)), (2, .int (nI k)), (3, .int (nI w)), (4, .int (nI (bs (fun q => decide (q < e) && (hwr T n f p k q).isSome) 21))), (5, .int (oI K1)), (6, .int (ltB E1)), (7, .int (nI (ltL k E1))), (8, .int (nI e))] (r.toList ++ []) M') (fun M2 f2 s2 c2 => ?_) (fun M' h => u_Wishes_heelsFor_46 h)
      have R := fun K2 E2 => ih (e + 1) M2 K2 E2 (by omega) (F.q f2 (fun _ h => h)) s2 c2
      have hh : dgo T n (upf f 3 p e) (ein n) noG 5 k p = hwr T n f p k e := rfl
      rw [hh]
      cases z : hwr T n f p k e with
      | none =>
        have R1 := R K1 E1 (hK1.up0 z) (hE1.up0 z)
        rw [bs_congr (g := fun q => decide (q < e) && (hwr T n f p k q).isSome) (fun q hq => by
          by_cases y : q = e
          · subst y; simp [z]
          · simp [show q < e + 1 ↔ q < e from by omega])] at R1
        exact u_Wishes_heelsFor_55 ⟨fun y => absurd rfl y, fun _ => by rw [nI_1]; exact R1⟩
      | some t =>
        have ht := hwr_lt z
        have nz : hwr T n f p k e ≠ none := by rw [z]; intro y; cases y
        have hS : nI (bs (fun q => decide (q < e) && (hwr T n f p k q).isSome) 21) ||| ((1 : Int32) <<< (nI e &&& 31)) = nI (bs (fun q => decide (q < e + 1) && (hwr T n f p k q).isSome) 21) := by
          rw [b21_or he21]
          congr 1
          exact bs_congr (fun q hq => by
            by_cases y : q = e
            · subst y; simp [z]
            · simp [y, show q < e + 1 ↔ q < e from by omega])
        have hKv : ∀ x, K1 = some x → x < 21 := fun x y => by rw [y] at hK1; have := hK1.2.1; omega
        have nt : ∀ q : Nat, q < 200 → ¬ nI q = (-2 : Int32) := fun q hq y => absurd (show nI q < 0 by rw [y]; decide) (nI_pos (by omega))
        rw [show oI (some t) = nI t from rfl]
        refine u_Wishes_heelsFor_55 ⟨fun _ => ?_, fun y => absurd y (nt t (by omega))⟩
        rw [hS, nI_1]
        have go : ∀ K2, spL (hwr T n f p k) 0 (e + 1) K2 → (nI (ltL k E1) ≤ nI t → v_Wishes_heelsFor L xs d Q 28 [(0, .ref 20), (1, .int (nI p)), (2, .int (nI k)), (3, .int (nI w)), (4, .int (nI (bs (fun q => decide (q < e + 1) && (hwr T n f p k q).isSome) 21))), (5, .int (oI K2)), (6, .int (ltB E1)), (7, .int (nI (ltL k E1))), (8, .int (nI (e + 1)))] [] M2) ∧ (¬ nI (ltL k E1) ≤ nI t → v_Wishes_heelsFor L xs d Q 28 [(0, .ref 20), (1, .int (nI p)), (2, .int (nI k)), (3, .int (nI w)), (4, .int (nI (bs (fun q => decide (q < e + 1) && (hwr T n f p k q).isSome) 21))), (5, .int (oI K2)), (6, .int (nI e)), (7, .int (nI t)), (8, .int (nI (e + 1)))] [] M2) := by
          intro K2 hK2
          cases E1 with
          | none => exact ⟨fun y => absurd ((n_leI (show k < 2 ^ 31 by omega) (by omega)).mp y) (by omega), fun _ => R K2 (some (e, t)) hK2 (hE1.up1 (by omega) z)⟩
          | some bt =>
            obtain ⟨b, t'⟩ := bt
            have ht' := hwr_lt hE1.2.2.1
            have ei : nI (ltL k (some (b, t'))) ≤ nI t ↔ t' ≤ t := n_leI (a := t') (by omega) (by omega)
            exact ⟨fun y => R K2 _ hK2 (hE1.up3 z (by have := ei.mp y; omega)), fun y => R K2 (some (e, t)) hK2 (hE1.up2 (by omega) z (by have : ¬ t' ≤ t := fun q => y (ei.mpr q); omega))⟩
        refine ⟨fun y => ?_, fun y => ?_⟩
        · cases K1 with
          | none => exact absurd rfl y
          | some x => exact go _ hK1.up1
        · cases K1 with
          | none => exact go (some e) (hK1.up2 (by omega) nz)
          | some x => exact absurd y (nt x (by have := hKv x rfl; omega))
  refine t_Wishes_heelsFor (x_bg (by omega) hx (fun M1 f1 s1 g1 _ => u_Wishes_heelsFor_11 ?_))
  have W := loop 21 0 M1 none none (by omega) f1 s1 ⟨f 3 p, by rw [upf_id]; exact g1.cr, by rw [upf_id]; exact g1.cc⟩ (fun e _ h => by omega) (fun e _ h => by omega)
  rw [show bs (fun q => decide (q < 0) && (hwr T n f p k q).isSome) 21 = 0 from by
    rw [bs_congr (g := fun _ => false) (fun q _ => by simp)]; decide] at W
  exact W
theorem m_heels {k : Nat} {K : Option Nat} {E : Option (Nat × Nat)} (hd : 75 ≤ d) (hr : rS n f T M) (hp : p < n) (hk : k ≤ 100) (hw : w < 3) (hK : spL (hwr T n f p k) 0 21 K) (hE : spE (hwr T n f p k) 0 21 E) (kk : ∀ M', fs rK rJ M M' → rS n f T M' → Q (some (.int (hlV w K E (bs (fun e => (hwr T n f p k e).isSome) 21)))) M') : v_Md_heels L xs d Q 50 [(0, .ref 40), (1, .int (nI p)), (2, .int (nI k)), (3, .int (nI w)), (4, .int (-2)), (5, .int (-2)), (6, .int 1000), (7, .int 0), (8, .int 20)] [] M := by
  have hn := hr.2.2.2.2.2
  have w0 : nI w = 0 ↔ w = 0 := nI_eq (b := 0) (by omega) (by decide)
  have w1 : nI w = 1 ↔ w = 1 := nI_eq (b := 1) (by omega) (by decide)
  have loop : ∀ e (M1 : AM) (K1 : Option Nat) (E1 : Option (Nat × Nat)), e ≤ 21 → fs rK rJ M M1 → rS n f T M1 → spL (hwr T n f p k) e 21 K1 → spE (hwr T n f p k) e 21 E1 → v_Md_heels L xs d Q 50 [(0, .ref 40), (1, .int (nI p)), (2, .int (nI k)), (3, .int (nI w)), (4, .int (oI K1)), (5, .int (ltB E1)), (6, .int (nI (ltL 1000 E1))), (7, .int (nI (bs (fun q => decide (e ≤ q) && (hwr T n f p k q).isSome) 21))), (8, .int (nI e + (-1)))] [] M1 := by
    intro e
    induction e with
    | zero =>
      intro M1 K1 E1 he F s1 hK1 hE1
      have eK := hK1.uq hK
      have eE := hE1.uq hE
      subst eK
      subst eE
      have KK := kk M1 F s1
      rw [bs_congr (f := fun e => (hwr T n f p k e).isSome) (g := fun q => decide (0 ≤ q) && (hwr T n f p k q).isSome) (fun q hq => by simp)] at KK
      unfold hlV at KK
      refine u_Md_heels_50 ⟨fun _ => ⟨fun z0 => ⟨fun z1 => ?_, fun z1 => ?_⟩, fun z0 => ?_⟩, fun z => absurd (by decide) z⟩
      · have : w = 2 := by
          have : ¬ w = 0 := fun y => z0 (w0.mpr y)
          have : ¬ w = 1 := fun y => z1 (w1.mpr y)
          omega
        rw [if_pos this] at KK; exact KK
      · have := w1.mp z1
        rw [if_neg (by omega), if_neg (by omega)] at KK; exact KK
      · have := w0.mp z0
        rw [if_neg (by omega), if_pos this] at KK; exact KK
    | succ e ih =>
      intro M1 K1 E1 he F s1 hK1 hE1
      have he21 : e < 21 := by omega
      rw [n_m1p]
      refine u_Md_heels_50 ⟨fun z => absurd z (nI_pos (by omega)), fun _ => m_wearing (by omega) s1 hp (by omega) (by omega) (fun M2 f2 s2 _ => ?_)⟩
      have R := fun K2 E2 => ih M2 K2 E2 (by omega) (F.tt f2) s2
      cases z : hwr T n f p k e with
      | none =>
        have R1 := R K1 E1 (hK1.dn0 z) (hE1.dn0 z)
        rw [bs_congr (g := fun q => decide (e + 1 ≤ q) && (hwr T n f p k q).isSome) (fun q hq => by
          by_cases y : q = e
          · subst y; simp [z]
          · simp [show e ≤ q ↔ e + 1 ≤ q from by omega])] at R1
        exact u_Md_heels_63 ⟨fun _ => R1, fun y => absurd (Int32.le_refl _) y⟩
      | some t =>
        have ht := hwr_lt z
        have nz : hwr T n f p k e ≠ none := by rw [z]; intro y; cases y
        have hS : nI (bs (fun q => decide (e + 1 ≤ q) && (hwr T n f p k q).isSome) 21) ||| ((1 : Int32) <<< (nI e &&& 31)) = nI (bs (fun q => decide (e ≤ q) && (hwr T n f p k q).isSome) 21) := by
          rw [b21_or he21]
          congr 1
          exact bs_congr (fun q hq => by
            by_cases y : q = e
            · subst y; simp [z]
            · simp [y, show e ≤ q ↔ e + 1 ≤ q from by omega])
        rw [show wrI (some t) = nI t from rfl]
        refine u_Md_heels_63 ⟨fun y => absurd ((n_leI (a := 1000) (by decide) (by omega)).mp y) (by omega), fun _ => ?_⟩
        rw [hS]
        have hK2 : spL (hwr T n f p k) e 21 (some e) := spL.dn1 he21 nz
        cases E1 with
        | none => exact ⟨fun y => absurd ((n_ltI (a := 1000) (by decide) (by omega)).mp y) (by omega), fun _ => R (some e) (some (e, t)) hK2 (hE1.dn1 he21 z)⟩
        | some bt =>
          obtain ⟨b, t'⟩ := bt
          have ht' := hwr_lt hE1.2.2.1
          have ei : nI (ltL 1000 (some (b, t'))) < nI t ↔ t' < t := n_ltI (a := t') (by omega) (by omega)
          exact ⟨fun y => R (some e) _ hK2 (hE1.dn3 z (ei.mp y)), fun y => R (some e) (some (e, t)) hK2 (hE1.dn2 z (fun q => y (ei.mpr q)))⟩
  have W := loop 21 M none none (Nat.le_refl _) fs.rf hr (fun e h1 h2 => by omega) (fun e h1 h2 => by omega)
  rw [show bs (fun q => decide (21 ≤ q) && (hwr T n f p k q).isSome) 21 = 0 from by
    rw [bs_congr (g := fun _ => false) (fun q hq => by simp [show ¬ 21 ≤ q from by omega])]; decide, show nI 21 + (-1) = (20 : Int32) from by decide] at W
  exact W
theorem j_heels (hI : Inv M) (hd : 100 ≤ d) : Jn L xs d c_Mo_heels c_Md_heels [.ref 0, .int x1, .int x2, .int x3] [.ref 40, .int x1, .int x2, .int x3] M := by
  obtain ⟨n, f, T, hx, hr⟩ := hI.s
  obtain ⟨d, rfl⟩ : ∃ a, d = a + 6 := ⟨d - 6, by omega⟩
  have hn := hx.2.2.2
  have e1 := hx.1.1
  have e6 := hr.1
  have ept : (nI n - 1).toInt = (n : Int) - 1 := n_pt (by omega)
  by_cases hv : 0 ≤ x1.toInt ∧ x1.toInt < n ∧ 0 ≤ x2.toInt ∧ x2.toInt ≤ 100 ∧ 0 ≤ x3.toInt ∧ x3.toInt ≤ 2
  · obtain ⟨v1, v2, v3, v4, v5, v6⟩ := hv
    obtain ⟨p, rfl, hp, -⟩ := n_ofI v1
    obtain ⟨k, rfl, hk, -⟩ := n_ofI v3
    obtain ⟨w, rfl, hw, -⟩ := n_ofI v5
    have hpn : p < n := by omega
    obtain ⟨K, hK⟩ := spL.ex (a := hwr T n f p k) (lo := 0) 21 (by omega)
    obtain ⟨E, hE⟩ := spE.ex (a := hwr T n f p k) (lo := 0) 21 (by omega)
    refine Jn.of2 (v := hlV w K E (bs (fun e => (hwr T n f p k e).isSome) 21)) (P := fr qK M) (fun Q kk => ?_) (fun M1 F Q kk => ?_)
    · refine t_Mo_heels ?_
      ((try simp only [lg_cmp_lt, lg_cmp_gt]); simp (disch := omega) only [e1, Int64.lt_iff_toInt_lt, Int32.toInt_toInt64, Int64.reduceToInt, ← Int32.toInt_inj, Int32.lt_iff_toInt_lt, Int32.le_iff_toInt_le, Int32.reduceToInt, nI_toInt, false_implies, true_implies, and_true, true_and, not_true_eq_false, not_false_eq_true, forall_const, implies_true, false_and, and_false, true_or, or_true, eq_self])
      repeat' (first | (with_reducible refine And.intro ?_ ?_) | (with_reducible intro h; first | (exfalso; omega) | contradiction | skip))
      all_goals exact x_heels (by omega) hx hpn (by omega) (by omega) hK hE (fun M1 f1 => u_Mo_heels_39 (kk _ f1))
    · have s1 := hr.x F
      have e6' := s1.1
      refine t_Md_heels ?_
      ((try simp only [lg_cmp_lt, lg_cmp_gt]); simp (disch := omega) only [e6', ept, Int64.lt_iff_toInt_lt, Int32.toInt_toInt64, Int64.reduceToInt, ← Int32.toInt_inj, Int32.lt_iff_toInt_lt, Int32.le_iff_toInt_le, Int32.reduceToInt, nI_toInt, false_implies, true_implies, and_true, true_and, not_true_eq_false, not_false_eq_true, forall_const, implies_true, false_and, and_false, true_or, or_true, eq_self])
      repeat' (first | (with_reducible refine And.intro ?_ ?_) | (with_reducible intro h; first | (exfalso; omega) | contradiction | skip))
      all_goals exact m_heels (by omega) s1 hpn (by omega) (by omega) hK hE (fun M2 f2 s2 => kk _ (hI.q3 hr F f2 s2))
  · refine Jn.no (-1) hI (fun Q k => ?_) (fun Q k => ?_)
    · refine t_Mo_heels ?_
      ((try simp only [lg_cmp_lt, lg_cmp_gt]); simp (disch := omega) only [e1, Int64.lt_iff_toInt_lt, Int32.toInt_toInt64, Int64.reduceToInt, ← Int32.toInt_inj, Int32.lt_iff_toInt_lt, Int32.le_iff_toInt_le, Int32.reduceToInt, nI_toInt, false_implies, true_implies, and_true, true_and, not_true_eq_false, not_false_eq_true, forall_const, implies_true, false_and, and_false, true_or, or_true, eq_self])
      repeat' (first | (with_reducible refine And.intro ?_ ?_) | (with_reducible intro h; first | (exfalso; omega) | contradiction | skip))
      all_goals first | exact k | (exfalso; omega)
    · refine t_Md_heels ?_
      ((try simp only [lg_cmp_lt, lg_cmp_gt]); simp (disch := omega) only [e6, ept, Int64.lt_iff_toInt_lt, Int32.toInt_toInt64, Int64.reduceToInt, ← Int32.toInt_inj, Int32.lt_iff_toInt_lt, Int32.le_iff_toInt_le, Int32.reduceToInt, nI_toInt, false_implies, true_implies, and_true, true_and, not_true_eq_false, not_false_eq_true, forall_const, implies_true, false_and, and_false, true_or, or_true, eq_self])
      repeat' (first | (with_reducible refine And.intro ?_ ?_) | (with_reducible intro h; first | (exfalso; omega) | contradiction | skip))
      all_goals first | exact k | (exfalso; omega)
end E28
