/-! ===== the machine's runs are the Java machine's ===== -/
def am_cv (ad : Nat → Nat) : Value → Value
  | .ref a => .ref (ad a)
  | v => v
theorem am_cat (ad : Nat → Nat) (v : Value) : (am_cv ad v).category = v.category := by cases v <;> rfl
theorem am_cats (ad : Nat → Nat) (r : List Value) : ((r.map (am_cv ad)).map fun v => v.category).sum = (r.map fun v => v.category).sum := by
  rw [List.map_map]
  congr 1
  exact List.map_congr_left (fun v _ => am_cat ad v)
def am_fv (ad : Nat → Nat) (M : AM) (k j : Nat) (f : Option Nat) : Value := match f with
  | some r => .ref (ad r)
  | none => .int (M.1 k j)
def am_cell (ad : Nat → Nat) (cI cL : ClassId) (M : AM) (k : Nat) (c : ASh) : va_E := match c with
  | .inl o => .inr (o.1, o.2.mapIdx (fun j f => am_fv ad M k j f))
  | .inr (false, n) => .inl (cI, n, .inl (M.1 k))
  | .inr (true, n) => .inl (cL, n, .inr (.inl (M.2 k)))
def am_w (sh : List ASh) (ad : Nat → Nat) (cI cL : ClassId) (M : AM) : va_W := sh.mapIdx (fun k c => (ad k, am_cell ad cI cL M k c))
theorem am_w_at {sh : List ASh} {ad : Nat → Nat} {cI cL : ClassId} {M : AM} {a : Nat} {c : ASh} (h : sh[a]? = some c) : (am_w sh ad cI cL M)[a]? = some (ad a, am_cell ad cI cL M a c) := by
  unfold am_w
  rw [List.getElem?_mapIdx, h]
  rfl
theorem am_w_key {sh : List ASh} {ad : Nat → Nat} {cI cL : ClassId} {M : AM} {k : Nat} {q : Nat × va_E} (h : (am_w sh ad cI cL M)[k]? = some q) : ∃ c, sh[k]? = some c ∧ q = (ad k, am_cell ad cI cL M k c) := by
  unfold am_w at h
  rw [List.getElem?_mapIdx] at h
  cases hc : sh[k]? with
  | none => rw [hc] at h; cases h
  | some c => rw [hc] at h; exact ⟨c, rfl, (Option.some.inj h).symm⟩
theorem am_w_D {sh : List ASh} {ad : Nat → Nat} {cI cL : ClassId} {M M' : AM} {A : Nat → Prop} (h : va_D A (am_w sh ad cI cL M)) : va_D A (am_w sh ad cI cL M') := by
  refine ⟨fun i j p q hp hq hpq => ?_, fun k q hq => ?_⟩
  · obtain ⟨c1, g1, rfl⟩ := am_w_key hp
    obtain ⟨c2, g2, rfl⟩ := am_w_key hq
    exact h.1 i j _ _ (am_w_at g1) (am_w_at g2) hpq
  · obtain ⟨c1, g1, rfl⟩ := am_w_key hq
    have z := h.2 k _ (am_w_at (ad := ad) (cI := cI) (cL := cL) (M := M) g1)
    exact z
theorem am_w_A {sh : List ASh} {ad : Nat → Nat} {cI cL : ClassId} {M M' : AM} {sz q : Nat} (h : va_A (am_w sh ad cI cL M) sz q) : va_A (am_w sh ad cI cL M') sz q := by
  rcases h with ⟨k, e, h⟩ | h
  · obtain ⟨c1, g1, g2⟩ := am_w_key h
    exact Or.inl ⟨k, am_cell ad cI cL M' k c1, by rw [am_w_at g1]; cases g2; rfl⟩
  · exact Or.inr h
theorem am_cell_eq {ad : Nat → Nat} {cI cL : ClassId} {M M' : AM} {k : Nat} (h1 : M'.1 k = M.1 k) (h2 : M'.2 k = M.2 k) (c : ASh) : am_cell ad cI cL M' k c = am_cell ad cI cL M k c := by
  match c with
  | .inl o =>
    show Sum.inr (o.1, o.2.mapIdx (fun j f => am_fv ad M' k j f)) = Sum.inr (o.1, o.2.mapIdx (fun j f => am_fv ad M k j f))
    have : (fun j f => am_fv ad M' k j f) = (fun j f => am_fv ad M k j f) := by
      funext j f
      cases f <;> simp [am_fv, h1]
    rw [this]
  | .inr (false, n) => simp only [am_cell, h1]
  | .inr (true, n) => simp only [am_cell, h2]
theorem am_w_set {sh : List ASh} {ad : Nat → Nat} {cI cL : ClassId} {M M' : AM} {a : Nat} {c : ASh} {e : va_E} (h : sh[a]? = some c) (h1 : ∀ b, b ≠ a → M'.1 b = M.1 b) (h2 : ∀ b, b ≠ a → M'.2 b = M.2 b) (he : am_cell ad cI cL M' a c = e) : (am_w sh ad cI cL M).set a (ad a, e) = am_w sh ad cI cL M' := by
  apply List.ext_getElem?
  intro k
  by_cases hk : k = a
  · subst hk
    rw [am_w_at h, List.getElem?_set_self (by have := am_w_at (ad := ad) (cI := cI) (cL := cL) (M := M) h; exact (List.getElem?_eq_some_iff.mp this).1), he]
  · rw [List.getElem?_set_ne (Ne.symm hk)]
    unfold am_w
    rw [List.getElem?_mapIdx, List.getElem?_mapIdx]
    cases hc : sh[k]? with
    | none => rfl
    | some c' => simp only [Option.map_some, am_cell_eq (h1 k hk) (h2 k hk) c']
theorem am_up_ne {α : Type} {f : Nat → Nat → α} {a k : Nat} {v : α} {b : Nat} (h : b ≠ a) : am_up f a k v b = f b := by
  funext j
  simp [am_up, h]
theorem am_ur_ne {α : Type} {f : Nat → Nat → α} {a : Nat} {g : Nat → α} {b : Nat} (h : b ≠ a) : am_ur f a g b = f b := by
  funext j
  simp [am_ur, h]
theorem am_ur_eq {α : Type} {f : Nat → Nat → α} {a : Nat} {g : Nat → α} : am_ur f a g a = g := by
  funext j
  simp [am_ur]
theorem am_up_upd {f : Nat → Nat → Int32} {a k : Nat} {v : Int32} : am_up f a k v a = upd (f a) k v := by
  funext j
  simp [am_up, upd]
theorem am_up_updL {f : Nat → Nat → Int64} {a k : Nat} {v : Int64} : am_up f a k v a = vp_updL (f a) k v := by
  funext j
  simp [am_up, vp_updL]
theorem am_set_sub {l : AL} {i : Nat} {v : Value} (hv : v.category = 1) (q : Nat × Value) (h : q ∈ am_set l i v) : q ∈ (i, v) :: l.filter (fun q => !(q.1 == i) && !(q.1 + 1 == i && q.2.category == 2)) := by
  unfold am_set at h
  rcases List.mem_append.mp h with h | h
  · obtain ⟨h1, h2⟩ := List.mem_filter.mp h
    refine List.mem_cons_of_mem _ (List.mem_filter.mpr ⟨h1, ?_⟩)
    simp only [Bool.and_eq_true, decide_eq_true_eq] at h2
    simp only [Bool.and_eq_true, Bool.not_eq_true', beq_eq_false_iff_ne]
    exact ⟨by omega, by have z := h2.2; simp only [Bool.not_eq_true'] at z; exact z⟩
  · rcases List.mem_cons.mp h with rfl | h
    · exact List.mem_cons_self
    · obtain ⟨h1, h2⟩ := List.mem_filter.mp h
      refine List.mem_cons_of_mem _ (List.mem_filter.mpr ⟨h1, ?_⟩)
      simp only [Bool.and_eq_true, decide_eq_true_eq] at h2
      have h3 := h2.1
      simp only [Bool.and_eq_true, Bool.not_eq_true', beq_eq_false_iff_ne]
      refine ⟨by omega, ?_⟩
      have h4 : (q.1 + 1 == i) = false := by simp; omega
      rw [h4, Bool.false_and]
theorem am_set_sub2 {l : AL} {i : Nat} {v : Value} (hv : v.category = 2) (q : Nat × Value) (h : q ∈ am_set l i v) : q ∈ (i, v) :: l.filter (fun q => !(q.1 == i) && (!(q.1 == i + 1) && !(q.1 + 1 == i && q.2.category == 2))) := by
  unfold am_set at h
  rcases List.mem_append.mp h with h | h
  · obtain ⟨h1, h2⟩ := List.mem_filter.mp h
    refine List.mem_cons_of_mem _ (List.mem_filter.mpr ⟨h1, ?_⟩)
    simp only [Bool.and_eq_true, decide_eq_true_eq] at h2
    simp only [Bool.and_eq_true, Bool.not_eq_true', beq_eq_false_iff_ne]
    exact ⟨by omega, by omega, by have z := h2.2; simp only [Bool.not_eq_true'] at z; exact z⟩
  · rcases List.mem_cons.mp h with rfl | h
    · exact List.mem_cons_self
    · obtain ⟨h1, h2⟩ := List.mem_filter.mp h
      refine List.mem_cons_of_mem _ (List.mem_filter.mpr ⟨h1, ?_⟩)
      simp only [Bool.and_eq_true, decide_eq_true_eq, hv, Bool.not_eq_true', Bool.and_eq_false_iff, beq_eq_false_iff_ne] at h2
      have h3 := h2.1
      simp only [Bool.and_eq_true, Bool.not_eq_true', beq_eq_false_iff_ne]
      have h5 : ¬ q.1 = i + 1 := by
        rcases h2.2 with z | z
        · exact z
        · exact absurd rfl z
      refine ⟨by omega, h5, ?_⟩
      have h4 : (q.1 + 1 == i) = false := by simp; omega
      rw [h4, Bool.false_and]
def am_lc (ad : Nat → Nat) (l : AL) : AL := l.map (fun q => (q.1, am_cv ad q.2))
theorem am_lc_set (ad : Nat → Nat) (l : AL) (i : Nat) (v : Value) : am_lc ad (am_set l i v) = am_set (am_lc ad l) i (am_cv ad v) := by
  unfold am_lc am_set
  rw [List.map_append, List.map_cons, List.filter_map, List.filter_map]
  have e1 : ((fun q : Nat × Value => decide (q.1 < i) && !(q.1 + 1 == i && q.2.category == 2)) ∘ fun q : Nat × Value => (q.1, am_cv ad q.2)) = (fun q : Nat × Value => decide (q.1 < i) && !(q.1 + 1 == i && q.2.category == 2)) := by
    funext q
    simp only [Function.comp_apply, am_cat]
  have e2 : ((fun q : Nat × Value => decide (i < q.1) && !(q.1 == i + 1 && (am_cv ad v).category == 2)) ∘ fun q : Nat × Value => (q.1, am_cv ad q.2)) = (fun q : Nat × Value => decide (i < q.1) && !(q.1 == i + 1 && v.category == 2)) := by
    funext q
    simp only [Function.comp_apply, am_cat]
  rw [e1, e2]
theorem am_lc_at {ad : Nat → Nat} {l : AL} {ls : Array Slot} {nL i : Nat} {v : Value} (h : lv_has ls nL (am_lc ad l)) (hm : (i, v) ∈ l) : ls[i]? = some (.val (am_cv ad v)) := h.2.2 (i, am_cv ad v) (List.mem_map.mpr ⟨(i, v), hm, rfl⟩)
theorem am_lc_sub {ad : Nat → Nat} {l l' : AL} {ls : Array Slot} {nL : Nat} (h : lv_has ls nL (am_lc ad l)) (hm : ∀ q ∈ l', q ∈ l) : lv_has ls nL (am_lc ad l') := ⟨h.1, h.2.1, fun q hq => by
  obtain ⟨q', h1, rfl⟩ := List.mem_map.mp hq
  exact h.2.2 _ (List.mem_map.mpr ⟨q', hm q' h1, rfl⟩)⟩
theorem am_lvs {ls : Array Slot} {nL : Nat} {l l' : List (Nat × Value)} (h : lv_has ls nL l) (hm : ∀ q ∈ l', q ∈ l) : lv_has ls nL l' := ⟨h.1, h.2.1, fun q hq => h.2.2 q (hm q hq)⟩
