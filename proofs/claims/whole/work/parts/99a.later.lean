section E24
variable {L : Nat} {xs : Nat → Int32} {d : Nat} {Q : AQ} {M M0 M1 M2 : AM} {n N k0 p e v w : Nat} {f : Nat → Nat → Nat} {io : Nat → Option Nat} {C : Nat → Bool} {T : PV} {x1 x2 x3 : Int32}
theorem upf_upf {a b : Nat} : upf (upf f w p a) w p b = upf f w p b := by
  funext x y
  unfold upf
  by_cases h : x = w ∧ y = p
  · rw [if_pos h, if_pos h]
  · rw [if_neg h, if_neg h, if_neg h]
theorem upf_id : upf f w p (f w p) = f := by
  funext x y
  unfold upf
  by_cases h : x = w ∧ y = p
  · rw [if_pos h, h.1, h.2]
  · rw [if_neg h]
/-- the class's crowd of the day, one number of one being another -/
def cwd (n : Nat) (f : Nat → Nat → Nat) (w p : Nat) (M : AM) : Prop := ∃ v, crw 16 17 n (upf f w p v) M ∧ cch 16 18 n (upf f w p v) M
theorem x_tillW (hd : 6 ≤ d) (hx : xS n f T M) (h : cwd n f w p M) (hw : w < 5) (hp : p < n) (hv : okV w v) {q : Nat} (hq : q < n) (hk : k0 < 2 ^ 20) (kk : ∀ M', fr qK M M' → xS n f T M' → cwd n f w p M' → Q (some (.int (oI (dgo T n (upf f w p v) (ein n) noG 5 k0 q)))) M') {K : Option Value → AM → Prop} (hK : ∀ M', am_Call (gG L xs) d c_Day_till [.ref 15, .int (nI q), .int (nI k0)] M' Q → K none M') : am_Call (gG L xs) d c_Day_againWith [.ref 15, .int (nI w), .int (nI p), .int (nI v)] M K := by
  obtain ⟨a, h1, h2⟩ := h
  refine s_againWith (by omega) h1 h2 hw hp (fun M1 f1 g1 l1 => hK M1 ?_)
  rw [upf_upf] at g1
  have s1 := hx.keep (M1 := M1) (f1.to (by decide))
  exact s_till hd g1 (hx.2.2.1.up hv) s1.2.1 hk hq l1 (fun M2 f2 r1 r2 => kk M2 ((f1.to (by decide)).q (f2.to (by decide)) (fun _ h => h)) (s1.keep (f2.to (by decide))) ⟨v, r1, r2⟩)
/-- the reference's day of a crowd in which one number of one is another -/
theorem m_dayW (hd : 72 ≤ d) (hr : rS n f T M) (hk : k0 ≤ 1000) {K1 K2 : AQ} (h1 : ∀ M', am_Call (gG L xs) d c_Md_goes [.ref 40, .int (nI k0)] M' K2 → K1 none M') (kk : ∀ M', fs yK eJ M M' → rS n f T M' → (∀ q, q < 15 → M'.1 49 q = oI (dgo T n f (ein n) noG 5 k0 q)) → K2 none M') : am_Call (gG L xs) d c_Md_begins1 [.ref 40] M K1 :=
  m_bg (by omega) hr (fun M1 f1 s1 g1 l1 => h1 M1 (m_go hd s1 g1 hk l1 (fun M2 f2 s2 g2 _ => kk M2 (f1.tt f2) s2 (fun q hq => g2.at hq))))
/-- the best come so far, and the wait with it -/
def ltr (T : PV) (n : Nat) (f : Nat → Nat → Nat) (p : Nat) : Nat → Option (Nat × Nat)
  | 0 => none
  | e + 1 => match dgo T n (upf f 1 p e) (ein n) noG 5 100 p with
    | none => ltr T n f p e
    | some a => match ltr T n f p e with
      | none => some (e, a - e)
      | some (b, l) => if a - e < l then some (e, a - e) else some (b, l)
def ltB : Option (Nat × Nat) → Int32
  | none => -2
  | some (b, _) => nI b
def ltL (m : Nat) : Option (Nat × Nat) → Nat
  | none => m
  | some (_, l) => l
theorem ltr_ok : ∀ e, e ≤ 100 → ∀ b l, ltr T n f p e = some (b, l) → b < 100 ∧ l < 100
  | 0, _, b, l, h => by cases h
  | e + 1, he, b, l, h => by
    unfold ltr at h
    have ih := ltr_ok e (by omega)
    cases z : dgo T n (upf f 1 p e) (ein n) noG 5 100 p with
    | none => rw [z] at h; exact ih b l h
    | some a =>
      have ha := (dgo_lt z).1
      rw [z] at h
      cases y : ltr T n f p e with
      | none =>
        rw [y] at h
        cases h
        exact ⟨by omega, by omega⟩
      | some bl =>
        obtain ⟨b', l'⟩ := bl
        rw [y] at h
        dsimp only at h
        by_cases hl : a - e < l'
        · rw [if_pos hl] at h; cases h; exact ⟨by omega, by omega⟩
        · rw [if_neg hl] at h; cases h; exact ih _ _ y
end E24
