/-! ===== who is at a place, counted ===== -/
def ltk (t : Nat → Int32) (a b : Nat) : Bool := decide (t a < t b) || (decide (t a = t b) && decide (a < b))
theorem ltk_irr (t : Nat → Int32) (a : Nat) : ltk t a a = false := by simp [ltk, Int32.lt_irrefl]
theorem ltk_iff {t : Nat → Int32} {a b : Nat} : ltk t a b = true ↔ ((t a).toInt < (t b).toInt ∨ ((t a).toInt = (t b).toInt ∧ a < b)) := by
  simp only [ltk, Bool.or_eq_true, Bool.and_eq_true, decide_eq_true_eq, Int32.lt_iff_toInt_lt, ← Int32.toInt_inj]
theorem ltk_tr {t : Nat → Int32} {a b c : Nat} (h1 : ltk t a b = true) (h2 : ltk t b c = true) : ltk t a c = true := by
  rw [ltk_iff] at *
  omega
theorem ltk_as {t : Nat → Int32} {a b : Nat} (h1 : ltk t a b = true) : ltk t b a = false := by
  cases h : ltk t b a with
  | false => rfl
  | true => rw [ltk_iff] at *; omega
theorem insR_perm (t : Nat → Int32) (p : Nat) : ∀ l, List.Perm (insR t p l) (p :: l)
  | [] => List.Perm.refl _
  | x :: r => by
    unfold insR
    split
    · exact (List.Perm.cons x (insR_perm t p r)).trans (List.Perm.swap p x r)
    · exact List.Perm.refl _
def wl (W : Nat → Bool) : Nat → List Nat
  | 0 => []
  | n + 1 => if W n then n :: wl W n else wl W n
theorem srt_perm (W : Nat → Bool) (t : Nat → Int32) : ∀ n, List.Perm (srt W t n) (wl W n)
  | 0 => List.Perm.refl _
  | n + 1 => by
    unfold srt wl
    split
    · exact (insR_perm t n _).trans (List.Perm.cons n (srt_perm W t n))
    · exact srt_perm W t n
theorem wl_len (W : Nat → Bool) : ∀ n, (wl W n).length = cnt W n
  | 0 => rfl
  | n + 1 => by
    rw [cnt_s, wl]
    split
    · rw [List.length_cons, wl_len W n]
    · rw [wl_len W n]; rfl
theorem wl_mem {W : Nat → Bool} : ∀ {n x : Nat}, x ∈ wl W n → x < n ∧ W x = true
  | 0, x, h => by cases h
  | n + 1, x, h => by
    rw [wl] at h
    by_cases hw : W n = true
    · rw [if_pos hw] at h
      rcases List.mem_cons.mp h with h | h
      · subst h; exact ⟨by omega, hw⟩
      · have := wl_mem h; exact ⟨by omega, this.2⟩
    · rw [if_neg hw] at h
      have := wl_mem h; exact ⟨by omega, this.2⟩
theorem insR_mem {t : Nat → Int32} {p x : Nat} {l : List Nat} (h : x ∈ insR t p l) : x = p ∨ x ∈ l := List.mem_cons.mp ((insR_perm t p l).mem_iff.mp h)
theorem insR_sorted {t : Nat → Int32} {p : Nat} : ∀ {l : List Nat}, (∀ x ∈ l, x < p) → List.Pairwise (fun a b => ltk t b a = true) l → List.Pairwise (fun a b => ltk t b a = true) (insR t p l)
  | [], _, _ => List.pairwise_singleton _ _
  | x :: r, hl, hp => by
    rw [List.pairwise_cons] at hp
    unfold insR
    have hx := hl x List.mem_cons_self
    split
    · rename_i h
      rw [List.pairwise_cons]
      refine ⟨fun b hb => ?_, insR_sorted (fun y hy => hl y (List.mem_cons_of_mem _ hy)) hp.2⟩
      rcases insR_mem hb with hb | hb
      · rw [hb, ltk_iff]; exact Or.inl (Int32.lt_iff_toInt_lt.mp h)
      · exact hp.1 b hb
    · rename_i h
      have hxp : ltk t x p = true := by
        rw [ltk_iff]
        rw [Int32.lt_iff_toInt_lt] at h
        omega
      rw [List.pairwise_cons]
      refine ⟨fun b hb => ?_, List.pairwise_cons.mpr hp⟩
      rcases List.mem_cons.mp hb with hb | hb
      · rw [hb]; exact hxp
      · exact ltk_tr (hp.1 b hb) hxp
theorem srt_sorted (W : Nat → Bool) (t : Nat → Int32) : ∀ n, List.Pairwise (fun a b => ltk t b a = true) (srt W t n)
  | 0 => List.Pairwise.nil
  | n + 1 => by
    unfold srt
    split
    · exact insR_sorted (fun x hx => (srt_mem hx).1) (srt_sorted W t n)
    · exact srt_sorted W t n
theorem rg_count {t : Nat → Int32} : ∀ {l : List Nat} {i x : Nat}, List.Pairwise (fun a b => ltk t b a = true) l → rg l i = some x → l.countP (fun a => ltk t a x) = i
  | [], _, _, _, h => by cases h
  | y :: r, i, x, hp, h => by
    rw [List.pairwise_cons] at hp
    rw [rg] at h
    rw [List.countP_cons]
    by_cases e : i = r.length
    · rw [if_pos e] at h
      cases h
      rw [ltk_irr, List.countP_eq_length.mpr (fun a ha => hp.1 a ha)]
      simp [e]
    · rw [if_neg e] at h
      have hi : i < r.length := by
        by_cases z : i < r.length
        · exact z
        · rw [rg_none r i (by omega)] at h; cases h
      obtain ⟨z, hz, hm⟩ := rg_some r i hi
      rw [hz] at h
      cases h
      rw [ltk_as (hp.1 _ hm), rg_count hp.2 hz]
      rfl
theorem rg_mem {l : List Nat} {x : Nat} : x ∈ l → ∃ j, j < l.length ∧ rg l j = some x := by
  induction l with
  | nil => intro h; cases h
  | cons y r ih =>
    intro h
    rcases List.mem_cons.mp h with h | h
    · exact ⟨r.length, by simp, by rw [rg, if_pos rfl, h]⟩
    · obtain ⟨j, h1, h2⟩ := ih h
      exact ⟨j, by simp only [List.length_cons]; omega, by rw [rg, if_neg (by omega)]; exact h2⟩
theorem rg_lt {l : List Nat} {i x : Nat} (h : rg l i = some x) : i < l.length := by
  by_cases z : i < l.length
  · exact z
  · rw [rg_none l i (by omega)] at h; cases h
theorem rg_in {l : List Nat} {i x : Nat} (h : rg l i = some x) : x ∈ l := by
  obtain ⟨y, h1, h2⟩ := rg_some l i (rg_lt h)
  rw [h] at h1; cases h1; exact h2
theorem cnt_rg (P : Nat → Bool) : ∀ l : List Nat, cnt (fun o => match rg l o with
  | some a => P a
  | none => false) l.length = l.countP P
  | [] => rfl
  | x :: r => by
    rw [List.length_cons, cnt_s, List.countP_cons, ← cnt_rg P r]
    congr 1
    · refine cnt_congr (fun o ho => ?_)
      rw [rg, if_neg (by omega)]
    · rw [rg, if_pos rfl]
theorem wl_mono {W : Nat → Bool} : ∀ {n o i a b : Nat}, rg (wl W n) o = some a → rg (wl W n) i = some b → (o < i ↔ a < b)
  | 0, _, _, _, _, h, _ => by cases h
  | n + 1, o, i, a, b, h1, h2 => by
    rw [wl] at h1 h2
    by_cases hw : W n = true
    · rw [if_pos hw, rg] at h1 h2
      by_cases eo : o = (wl W n).length
      · rw [if_pos eo] at h1
        cases h1
        by_cases ei : i = (wl W n).length
        · rw [if_pos ei] at h2; cases h2; omega
        · rw [if_neg ei] at h2
          have := (wl_mem (rg_in h2)).1
          have := rg_lt h2
          omega
      · rw [if_neg eo] at h1
        have l1 := rg_lt h1
        have m1 := (wl_mem (rg_in h1)).1
        by_cases ei : i = (wl W n).length
        · rw [if_pos ei] at h2; cases h2; omega
        · rw [if_neg ei] at h2
          exact wl_mono h1 h2
    · rw [if_neg hw] at h1 h2
      exact wl_mono h1 h2
/-- the o-th who waits -/
def eW (W : Nat → Bool) (n o : Nat) : Nat := (rg (wl W n) o).getD 0
theorem eW_rg {W : Nat → Bool} {n o : Nat} (h : o < cnt W n) : rg (wl W n) o = some (eW W n o) := by
  obtain ⟨x, hx, -⟩ := rg_some (wl W n) o (by rw [wl_len]; exact h)
  rw [eW, hx]; rfl
/-- how many smaller ones there are -/
def sml (W : Nat → Bool) (t : Nat → Int32) (n i : Nat) : Nat := cnt (fun o => decide (t (eW W n o) < t (eW W n i)) || (decide (t (eW W n o) = t (eW W n i)) && decide (o < i))) (cnt W n)
theorem sml_eq {W : Nat → Bool} {t : Nat → Int32} {n i : Nat} (hi : i < cnt W n) : sml W t n i = (srt W t n).countP (fun a => ltk t a (eW W n i)) := by
  rw [(srt_perm W t n).countP_eq, ← cnt_rg, wl_len, sml]
  refine cnt_congr (fun o ho => ?_)
  rw [eW_rg ho]
  dsimp only
  have := wl_mono (eW_rg ho) (eW_rg hi)
  unfold ltk
  rw [decide_eq_decide.mpr this]
theorem sml_at {W : Nat → Bool} {t : Nat → Int32} {n i pl : Nat} (hi : i < cnt W n) (h : sml W t n i = pl) : rg (srt W t n) pl = some (eW W n i) := by
  have hm : eW W n i ∈ srt W t n := (srt_perm W t n).mem_iff.mpr (rg_in (eW_rg hi))
  obtain ⟨j, h1, h2⟩ := rg_mem hm
  have := rg_count (srt_sorted W t n) h2
  rw [sml_eq hi, this] at h
  rw [← h]; exact h2
theorem sml_ex {W : Nat → Bool} {t : Nat → Int32} {n pl : Nat} (h : pl < cnt W n) : ∃ i, i < cnt W n ∧ sml W t n i = pl := by
  obtain ⟨x, h1, h2⟩ := rg_some (srt W t n) pl (by rw [srt_len]; exact h)
  obtain ⟨i, h3, h4⟩ := rg_mem ((srt_perm W t n).mem_iff.mp h2)
  rw [wl_len] at h3
  refine ⟨i, h3, ?_⟩
  have := eW_rg h3
  rw [h4] at this
  cases this
  rw [sml_eq h3]
  unfold eW
  rw [h4]
  exact rg_count (srt_sorted W t n) h1
