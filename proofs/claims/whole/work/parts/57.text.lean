/-! ===== a whole text ===== -/
abbrev PT : Type := Bool × Nat × PC × ((Nat → Int32) → Option Int32)
def gvl (g : (Nat → Int32) → Option Int32) (u : (Nat → Int32) → Option Int32) : (Nat → Int32) → Option Int32 := fun nm => match g nm with
  | some y => some y
  | none => u nm
/-- a line from a place on: where it ends, its steps (the first at m), what it gives -/
def lnp (ch : Nat → Int32) (fu i m : Nat) : PT :=
  if (pz ch fu 0 0 i).1 then
    (if ch (pz ch fu 0 0 i).2.1 = 63 then
      (if (pz ch fu 0 0 ((pz ch fu 0 0 i).2.1 + 1)).1 then
        (true, (pz ch fu 0 0 ((pz ch fu 0 0 i).2.1 + 1)).2.1, (pz ch fu 0 0 i).2.2.1 ++ [(63, nI (m + (pz ch fu 0 0 i).2.2.1.length + 1 + (pz ch fu 0 0 ((pz ch fu 0 0 i).2.1 + 1)).2.2.1.length + 1))] ++ (pz ch fu 0 0 ((pz ch fu 0 0 i).2.1 + 1)).2.2.1 ++ [(59, 0)], fun nm => if (pz ch fu 0 0 i).2.2.2 nm = 0 then none else some ((pz ch fu 0 0 ((pz ch fu 0 0 i).2.1 + 1)).2.2.2 nm))
      else (false, (pz ch fu 0 0 ((pz ch fu 0 0 i).2.1 + 1)).2.1, [], fun _ => none))
    else (true, (pz ch fu 0 0 i).2.1, (pz ch fu 0 0 i).2.2.1 ++ [(59, 0)], fun nm => some ((pz ch fu 0 0 i).2.2.2 nm)))
  else (false, (pz ch fu 0 0 i).2.1, [], fun _ => none)
/-- lines from a place on -/
def txp (ch : Nat → Int32) (e fu : Nat) : Nat → Nat → PC → ((Nat → Int32) → Option Int32) → PT
  | 0, i, cs, g => (false, i, cs, g)
  | k + 1, i, cs, g =>
    if (lnp ch fu i cs.length).1 then
      (if ch (lnp ch fu i cs.length).2.1 = 59 then txp ch e fu k ((lnp ch fu i cs.length).2.1 + 1) (cs ++ (lnp ch fu i cs.length).2.2.1) (gvl g (lnp ch fu i cs.length).2.2.2)
      else if e ≤ (lnp ch fu i cs.length).2.1 then (true, (lnp ch fu i cs.length).2.1, cs ++ (lnp ch fu i cs.length).2.2.1, gvl g (lnp ch fu i cs.length).2.2.2)
      else (false, (lnp ch fu i cs.length).2.1, cs, g))
    else (false, (lnp ch fu i cs.length).2.1, cs, g)
/-- steps of lines: what they give -/
def lruns (c : PC) (m : Nat) (u : (Nat → Int32) → Option Int32) : Prop := ∀ (st dt : Nat → Int32) (sz : Nat) (nm : Nat → Int32), dtk st dt sz → cdR c m st dt → m + c.length ≤ sz → rn st dt sz nm m [] = match u nm with
  | some y => y
  | none => rn st dt sz nm (m + c.length) []
/-- a step that skips tells where to -/
def skOk (c : PC) : Prop := ∀ x ∈ c, x.1 = 63 → ∃ k, k ≤ 121 ∧ x.2 = nI k
def lnG (e i m : Nat) (q : PT) : Prop := i ≤ q.2.1 ∧ q.2.1 ≤ e ∧ (q.1 = true → i < q.2.1 ∧ q.2.2.1.length + i ≤ q.2.1 + 1 ∧ 1 ≤ q.2.2.1.length ∧ (m ≤ i → skOk q.2.2.1 ∧ lruns q.2.2.1 m q.2.2.2))
theorem lnp_good {ch : Nat → Int32} {e fu : Nat} (hE : chE ch e) (he : e ≤ 120) (hf : 7 * e + 5 < fu) (i m : Nat) (hi : i ≤ e) : lnG e i m (lnp ch fu i m) := by
  unfold lnp
  have h1 := pz_good hE fu 0 0 i hi (by omega)
  by_cases ho : (pz ch fu 0 0 i).1 = true
  · rw [if_pos ho]
    obtain ⟨a1, a2, a3, a4, a5, a6⟩ := h1.2.2 ho
    by_cases hc : ch (pz ch fu 0 0 i).2.1 = 63
    · rw [if_pos hc]
      have hje := hE.lt (show ch (pz ch fu 0 0 i).2.1 ≠ 0 by rw [hc]; decide)
      have h2 := pz_good hE fu 0 0 ((pz ch fu 0 0 i).2.1 + 1) (by omega) (by omega)
      generalize pz ch fu 0 0 ((pz ch fu 0 0 i).2.1 + 1) = q2 at h2 ⊢
      generalize pz ch fu 0 0 i = q1 at *
      by_cases ho2 : q2.1 = true
      · rw [if_pos ho2]
        obtain ⟨b1, b2, b3, b4, b5, b6⟩ := h2.2.2 ho2
        refine ⟨by dsimp only; omega, h2.2.1, fun _ => ⟨by dsimp only; omega, by simp only [List.length_append, List.length_singleton]; omega, by simp only [List.length_append, List.length_singleton]; omega, fun hm => ⟨?_, ?_⟩⟩⟩
        · intro x hx hx3
          simp only [List.mem_append, List.mem_singleton] at hx
          rcases hx with ((hx | hx) | hx) | hx
          · exact absurd hx3 (a5 x hx)
          · exact ⟨m + q1.2.2.1.length + 1 + q2.2.2.1.length + 1, by have := h2.2.1; omega, by rw [hx]⟩
          · exact absurd hx3 (b5 x hx)
          · rw [hx] at hx3; exact absurd hx3 (by decide)
        · intro st dt sz nm hk hcd hl
          dsimp only at hcd hl ⊢
          rw [cdR_app, cdR_app, cdR_app] at hcd
          simp only [List.length_append, List.length_singleton] at hcd hl ⊢
          obtain ⟨⟨⟨c1, c2⟩, c3⟩, c4⟩ := hcd
          have e1 := h2.2.1
          rw [a6 st dt sz nm m [] hk c1 (by omega) (by simp only [List.length_nil]; omega)]
          by_cases hx : q1.2.2.2 nm = 0
          · simp only [if_pos hx]
            rw [hx, rn_skip hk (by omega) c2.1 c2.2.1 (by omega) (by omega)]
            simp only [Nat.add_assoc]
          · simp only [if_neg hx]
            rw [rn_go hk (by omega) c2.1 hx, b6 st dt sz nm _ [] hk (by rw [Nat.add_assoc]; exact c3) (by omega) (by simp only [List.length_nil]; omega)]
            have e4 := c4.1
            exact rn_ret (by omega) (by simp only [Nat.add_assoc] at e4 ⊢; exact e4)
      · rw [if_neg ho2]
        have := h2.1
        exact ⟨by dsimp only; omega, h2.2.1, fun z => by cases z⟩
    · rw [if_neg hc]
      generalize pz ch fu 0 0 i = q1 at *
      refine ⟨by dsimp only; omega, h1.2.1, fun _ => ⟨by dsimp only; omega, by simp only [List.length_append, List.length_singleton]; omega, by simp only [List.length_append, List.length_singleton]; omega, fun hm => ⟨?_, ?_⟩⟩⟩
      · intro x hx hx3
        simp only [List.mem_append, List.mem_singleton] at hx
        rcases hx with hx | hx
        · exact absurd hx3 (a5 x hx)
        · rw [hx] at hx3; exact absurd hx3 (by decide)
      · intro st dt sz nm hk hcd hl
        dsimp only at hcd hl ⊢
        rw [cdR_app] at hcd
        simp only [List.length_append, List.length_singleton] at hcd hl ⊢
        have e1 := h1.2.1
        rw [a6 st dt sz nm m [] hk hcd.1 (by omega) (by simp only [List.length_nil]; omega)]
        exact rn_ret (by omega) hcd.2.1
  · rw [if_neg ho]
    exact ⟨h1.1, h1.2.1, fun z => by cases z⟩
def txG (e i : Nat) (cs : PC) (q : PT) : Prop := i ≤ q.2.1 ∧ q.2.1 ≤ e ∧ (q.1 = true → cs.length < q.2.2.1.length ∧ q.2.2.1.length ≤ e + 1 ∧ skOk q.2.2.1 ∧ lruns q.2.2.1 0 q.2.2.2)
theorem lruns_app {a b : PC} {g u : (Nat → Int32) → Option Int32} (ha : lruns a 0 g) (hb : lruns b a.length u) : lruns (a ++ b) 0 (gvl g u) := by
  intro st dt sz nm hk hcd hl
  rw [cdR_app] at hcd
  simp only [List.length_append, Nat.zero_add] at hcd hl ⊢
  rw [ha st dt sz nm hk hcd.1 (by omega)]
  unfold gvl
  cases hg : g nm with
  | some y => rfl
  | none =>
    dsimp only
    rw [Nat.zero_add, hb st dt sz nm hk hcd.2 (by omega)]
theorem txp_good {ch : Nat → Int32} {e fu : Nat} (hE : chE ch e) (he : e ≤ 120) (hf : 7 * e + 5 < fu) : ∀ (k i : Nat) (cs : PC) (g : (Nat → Int32) → Option Int32), i ≤ e → e < i + k → cs.length ≤ i → skOk cs → lruns cs 0 g → txG e i cs (txp ch e fu k i cs g)
  | 0, i, cs, g, hi, hk, hm, hs, hr => by omega
  | k + 1, i, cs, g, hi, hk, hm, hs, hr => by
    rw [txp]
    have h1 := lnp_good hE he hf i cs.length hi
    by_cases ho : (lnp ch fu i cs.length).1 = true
    · rw [if_pos ho]
      obtain ⟨a1, a2, a3, a4⟩ := h1.2.2 ho
      obtain ⟨a4, a5⟩ := a4 hm
      have hs2 : skOk (cs ++ (lnp ch fu i cs.length).2.2.1) := by
        intro x hx
        rcases List.mem_append.mp hx with hx | hx
        · exact hs x hx
        · exact a4 x hx
      by_cases h59 : ch (lnp ch fu i cs.length).2.1 = 59
      · rw [if_pos h59]
        have hje := hE.lt (show ch (lnp ch fu i cs.length).2.1 ≠ 0 by rw [h59]; decide)
        have h2 := txp_good hE he hf k ((lnp ch fu i cs.length).2.1 + 1) (cs ++ (lnp ch fu i cs.length).2.2.1) (gvl g (lnp ch fu i cs.length).2.2.2) (by omega) (by omega) (by rw [List.length_append]; omega) hs2 (lruns_app hr a5)
        refine ⟨by have := h2.1; omega, h2.2.1, fun z => ?_⟩
        obtain ⟨b1, b2, b3, b4⟩ := h2.2.2 z
        rw [List.length_append] at b1
        exact ⟨by omega, b2, b3, b4⟩
      · rw [if_neg h59]
        by_cases hje : e ≤ (lnp ch fu i cs.length).2.1
        · rw [if_pos hje]
          refine ⟨h1.1, h1.2.1, fun _ => ⟨by dsimp only; rw [List.length_append]; omega, by dsimp only; rw [List.length_append]; have := h1.2.1; omega, hs2, lruns_app hr a5⟩⟩
        · rw [if_neg hje]
          exact ⟨h1.1, h1.2.1, fun z => by cases z⟩
    · rw [if_neg ho]
      exact ⟨h1.1, h1.2.1, fun z => by cases z⟩
def FU : Nat := 900
/-- a text's law -/
def txl (ch : Nat → Int32) (e : Nat) : PT := txp ch e FU 122 0 [] (fun _ => none)
def txT (ch : Nat → Int32) (e : Nat) : PV := fun nm => ((txl ch e).2.2.2 nm).getD 0
theorem txl_good {ch : Nat → Int32} {e : Nat} (hE : chE ch e) (he : e ≤ 120) : txG e 0 [] (txl ch e) := txp_good hE he (by unfold FU; omega) 122 0 [] _ (by omega) (by omega) (by simp) (fun x hx => by cases hx) (fun st dt sz nm _ _ _ => rfl)
/-- the law of a text that has become steps -/
theorem lawX_tx {M : AM} {ch : Nat → Int32} {e : Nat} (hE : chE ch e) (he : e ≤ 120) (ho : (txl ch e).1 = true) (hz : M.1 4 2 = nI (txl ch e).2.2.1.length) (hc : cdR (txl ch e).2.2.1 0 (M.1 5) (M.1 6)) : lawX (txT ch e) M := by
  obtain ⟨h1, h2, h3⟩ := txl_good hE he
  obtain ⟨a1, a2, a3, a4⟩ := h3 ho
  have key : ∀ (c : PC) (m : Nat), cdR c m (M.1 5) (M.1 6) → ∀ i, m ≤ i → i < m + c.length → ∃ x ∈ c, M.1 5 i = x.1 ∧ M.1 6 i = x.2 := by
    intro c
    induction c with
    | nil => intro m _ i h1 h2; simp only [List.length_nil] at h2; omega
    | cons x r ih =>
      intro m hc i h1 h2
      simp only [List.length_cons] at h2
      by_cases e : i = m
      · subst e; exact ⟨x, List.mem_cons_self, hc.1, hc.2.1⟩
      · obtain ⟨y, g1, g2⟩ := ih (m + 1) hc.2.2 i (by omega) (by omega)
        exact ⟨y, List.mem_cons_of_mem _ g1, g2⟩
  have hdt : ∀ i, i < (txl ch e).2.2.1.length → M.1 5 i = 63 → ∃ k, k ≤ 121 ∧ M.1 6 i = nI k := by
    intro i hi h63
    obtain ⟨x, g1, g2, g3⟩ := key _ 0 hc i (by omega) (by omega)
    obtain ⟨k, k1, k2⟩ := a3 x g1 (by rw [← g2]; exact h63)
    exact ⟨k, k1, by rw [g3, k2]⟩
  refine ⟨_, hz, by omega, hdt, fun nm => ?_⟩
  have hn0 : ¬ (txl ch e).2.2.1.length = 0 := by simp only [List.length_nil] at a1; omega
  rw [if_neg hn0]
  have := a4 (M.1 5) (M.1 6) (txl ch e).2.2.1.length nm ⟨by omega, hdt⟩ hc (by omega)
  rw [show lwX (M.1 5) (M.1 6) (txl ch e).2.2.1.length nm ((txl ch e).2.2.1.length + 1) 0 [] = rn (M.1 5) (M.1 6) (txl ch e).2.2.1.length nm 0 [] from rfl, this]
  unfold txT
  cases hu : (txl ch e).2.2.2 nm with
  | some y => rfl
  | none => dsimp only; rw [rn_end (by omega)]; rfl
