/-! ===== a text as steps and as a value: a function of its bytes ===== -/
abbrev PC : Type := List (Int32 × Int32)
abbrev PV : Type := (Nat → Int32) → Int32
abbrev PR : Type := Bool × Nat × PC × PV
def rkO (c : Int32) : Nat := if c = 124 then 0 else if c = 38 then 1 else if c = 60 ∨ c = 61 ∨ c = 62 then 2 else if c = 43 ∨ c = 45 then 3 else if c = 42 ∨ c = 47 ∨ c = 37 then 4 else 9
def nmI (c : Int32) : Nat := if c = 101 then 1 else if c = 104 then 0 else if c = 107 then 4 else if c = 110 then 5 else if c = 115 then 3 else if c = 119 then 2 else 9
def dig (c : Int32) : Bool := decide (48 ≤ c) && decide (c ≤ 57)
def numL (ch : Nat → Int32) : Nat → Nat → Int32 → Nat × Int32
  | 0, i, v => (i, v)
  | k + 1, i, v => if dig (ch i) then numL ch k (i + 1) (v * 10 + (ch i - 48)) else (i, v)
def lp (ch : Nat → Int32) (P : Nat → PR) (r : Nat) : Nat → Nat → Nat → PC → PV → PR
  | 0, _, j, c, v => (true, j, c, v)
  | k + 1, q, j, c, v => if rkO (ch j) = r ∧ ¬ (r = 2 ∧ 0 < q) then
      (if (P (j + 1)).1 then lp ch P r k (q + 1) (P (j + 1)).2.1 (c ++ (P (j + 1)).2.2.1 ++ [(ch j, 0)]) (fun nm => lwJ (ch j) (v nm) ((P (j + 1)).2.2.2 nm)) else (false, (P (j + 1)).2.1, [], v))
    else (true, j, c, v)
def pz (ch : Nat → Int32) : Nat → Nat → Nat → Nat → PR
  | 0, _, _, i => (false, i, [], fun _ => 0)
  | fu + 1, r, o, i =>
    if r < 5 then
      (if (pz ch fu (r + 1) o i).1 then lp ch (pz ch fu (r + 1) o) r fu 0 (pz ch fu (r + 1) o i).2.1 (pz ch fu (r + 1) o i).2.2.1 (pz ch fu (r + 1) o i).2.2.2 else (false, (pz ch fu (r + 1) o i).2.1, [], fun _ => 0))
    else if dig (ch i) then (true, (numL ch 4 i 0).1, [(99, (numL ch 4 i 0).2)], fun _ => (numL ch 4 i 0).2)
    else if nmI (ch i) < 6 then (true, i + 1, [(ch i, 0)], fun nm => nm (nmI (ch i)))
    else if 6 ≤ o then (false, i, [], fun _ => 0)
    else if ch i = 40 then
      (if (pz ch fu 0 (o + 1) (i + 1)).1 then (if ch (pz ch fu 0 (o + 1) (i + 1)).2.1 = 41 then (true, (pz ch fu 0 (o + 1) (i + 1)).2.1 + 1, (pz ch fu 0 (o + 1) (i + 1)).2.2.1, (pz ch fu 0 (o + 1) (i + 1)).2.2.2) else (false, (pz ch fu 0 (o + 1) (i + 1)).2.1, [], fun _ => 0)) else (false, (pz ch fu 0 (o + 1) (i + 1)).2.1, [], fun _ => 0))
    else if ch i = 33 then
      (if (pz ch fu 5 (o + 1) (i + 1)).1 then (true, (pz ch fu 5 (o + 1) (i + 1)).2.1, (pz ch fu 5 (o + 1) (i + 1)).2.2.1 ++ [(33, 0)], fun nm => if (pz ch fu 5 (o + 1) (i + 1)).2.2.2 nm = 0 then 1 else 0) else (false, (pz ch fu 5 (o + 1) (i + 1)).2.1, [], fun _ => 0))
    else if ch i = 45 then
      (if (pz ch fu 5 (o + 1) (i + 1)).1 then (true, (pz ch fu 5 (o + 1) (i + 1)).2.1, (pz ch fu 5 (o + 1) (i + 1)).2.2.1 ++ [(126, 0)], fun nm => -((pz ch fu 5 (o + 1) (i + 1)).2.2.2 nm)) else (false, (pz ch fu 5 (o + 1) (i + 1)).2.1, [], fun _ => 0))
    else (false, i, [], fun _ => 0)
/-- steps in their rows from a place on -/
def cdR : PC → Nat → (Nat → Int32) → (Nat → Int32) → Prop
  | [], _, _, _ => True
  | x :: r, m, g, h => g m = x.1 ∧ h m = x.2 ∧ cdR r (m + 1) g h
theorem cdR_app {g h : Nat → Int32} : ∀ {a b : PC} {m : Nat}, cdR (a ++ b) m g h ↔ cdR a m g h ∧ cdR b (m + a.length) g h
  | [], b, m => by simp [cdR]
  | x :: r, b, m => by
    simp only [List.cons_append, cdR, List.length_cons, cdR_app (a := r), and_assoc, Nat.add_assoc, Nat.add_comm 1]
theorem cdR_ext {g h g' h' : Nat → Int32} : ∀ {a : PC} {m : Nat}, (∀ i, m ≤ i → i < m + a.length → g' i = g i ∧ h' i = h i) → cdR a m g h → cdR a m g' h'
  | [], _, _, _ => trivial
  | x :: r, m, hh, hc => by
    simp only [List.length_cons] at hh
    exact ⟨(hh m (by omega) (by omega)).1.trans hc.1, (hh m (by omega) (by omega)).2.trans hc.2.1, cdR_ext (fun i h1 h2 => hh i (by omega) (by omega)) hc.2.2⟩
def isV (c : Int32) : Bool := !decide (c < 97) && !decide (122 < c)
/-- how many steps give a value -/
def opn (c : PC) : Nat := c.countP (fun q => isV q.1)
theorem opn_app (a b : PC) : opn (a ++ b) = opn a + opn b := List.countP_append
theorem opn_1 (x y : Int32) : opn [(x, y)] = if isV x then 1 else 0 := by simp [opn, List.countP_singleton]
theorem lwX_fuel {st dt : Nat → Int32} {sz : Nat} {nm : Nat → Int32} (hs1 : sz ≤ 121) (hdt : ∀ i, i < sz → st i = 63 → ∃ k, k ≤ 121 ∧ dt i = nI k) : ∀ (fu fu' i : Nat) (sk : List Int32), i < 2 ^ 20 → sz < i + fu → sz < i + fu' → lwX st dt sz nm fu i sk = lwX st dt sz nm fu' i sk := by
  intro fu
  induction fu with
  | zero =>
    intro fu' i sk hi h1 h2
    cases fu' with
    | zero => rfl
    | succ fu' => rw [lwX_s, if_pos (by omega)]; rfl
  | succ fu ih =>
    intro fu' i sk hi h1 h2
    cases fu' with
    | zero => rw [lwX_s, if_pos (by omega)]; rfl
    | succ fu' =>
      rw [lwX_s, lwX_s]
      by_cases hsz : sz ≤ i
      · rw [if_pos hsz, if_pos hsz]
      · rw [if_neg hsz, if_neg hsz]
        have ih1 := fun sk => ih fu' (i + 1) sk (by omega) (by omega) (by omega)
        by_cases h63 : st i = 63
        · obtain ⟨k, k2, k3⟩ := hdt i (by omega) h63
          have hj : (imax (nI i) (dt i - 1) + 1).toNatClampNeg = (if i < k - 1 then k - 1 else i) + 1 := by
            rw [k3, n_jmp (by omega) (by omega), nI_1, n_cl (by split <;> omega)]
          have ih2 := fun sk => ih fu' ((if i < k - 1 then k - 1 else i) + 1) sk (by split <;> omega) (by split <;> omega) (by split <;> omega)
          have ih3 : ∀ (x : Int32) r, lwX st dt sz nm fu (if x = 0 then (if i < k - 1 then k - 1 else i) + 1 else i + 1) r = lwX st dt sz nm fu' (if x = 0 then (if i < k - 1 then k - 1 else i) + 1 else i + 1) r := by
            intro x r
            by_cases hx : x = 0
            · rw [if_pos hx]; exact ih2 r
            · rw [if_neg hx]; exact ih1 r
          rw [hj]
          simp only [ih1, ih3]
        · simp only [ih1, if_neg h63]
section RN
variable {st dt : Nat → Int32} {sz : Nat} {nm : Nat → Int32}
/-- from a place on, over a stack -/
def rn (st dt : Nat → Int32) (sz : Nat) (nm : Nat → Int32) (i : Nat) (sk : List Int32) : Int32 := lwX st dt sz nm (sz + 1) i sk
def dtk (st dt : Nat → Int32) (sz : Nat) : Prop := sz ≤ 121 ∧ ∀ i, i < sz → st i = 63 → ∃ k, k ≤ 121 ∧ dt i = nI k
theorem rn_end {i : Nat} {sk : List Int32} (h : sz ≤ i) : rn st dt sz nm i sk = 0 := by
  rw [rn, lwX_s, if_pos h]
theorem rn_s (hk : dtk st dt sz) {i : Nat} {sk : List Int32} (h : i < sz) : lwX st dt sz nm sz (i + 1) sk = rn st dt sz nm (i + 1) sk := by
  unfold rn
  obtain ⟨k1, k2⟩ := hk
  exact lwX_fuel k1 k2 _ _ _ _ (by omega) (by omega) (by omega)
theorem rn_val (hk : dtk st dt sz) {i : Nat} {sk : List Int32} (h : i < sz) (hv : isV (st i) = true) (hs : sk.length < 61) : rn st dt sz nm i sk = rn st dt sz nm (i + 1) (lwV (st i) nm (dt i) :: sk) := by
  simp only [isV, Bool.and_eq_true, Bool.not_eq_true', decide_eq_false_iff_not] at hv
  rw [rn, lwX_s, if_neg (by omega), if_pos hv, if_neg (by omega), rn_s hk h]
theorem rn_not (hk : dtk st dt sz) {i : Nat} {x : Int32} {sk : List Int32} (h : i < sz) (hv : st i = 33) : rn st dt sz nm i (x :: sk) = rn st dt sz nm (i + 1) ((if x = 0 then 1 else 0) :: sk) := by
  rw [rn, lwX_s, if_neg (by omega), if_neg (by rw [hv]; decide)]
  simp only [hv, if_pos]
  rw [rn_s hk h]
theorem rn_neg (hk : dtk st dt sz) {i : Nat} {x : Int32} {sk : List Int32} (h : i < sz) (hv : st i = 126) : rn st dt sz nm i (x :: sk) = rn st dt sz nm (i + 1) (-x :: sk) := by
  rw [rn, lwX_s, if_neg (by omega), if_neg (by rw [hv]; decide)]
  simp only [hv]
  rw [if_neg (by decide), if_neg (by decide), if_neg (by decide), if_pos trivial, rn_s hk h]
theorem rn_ret {i : Nat} {x : Int32} {sk : List Int32} (h : i < sz) (hv : st i = 59) : rn st dt sz nm i (x :: sk) = x := by
  rw [rn, lwX_s, if_neg (by omega), if_neg (by rw [hv]; decide)]
  simp only [hv]
  rw [if_neg (by decide), if_pos trivial]
theorem rn_go (hk : dtk st dt sz) {i : Nat} {x : Int32} {sk : List Int32} (h : i < sz) (hv : st i = 63) (hx : ¬ x = 0) : rn st dt sz nm i (x :: sk) = rn st dt sz nm (i + 1) sk := by
  rw [rn, lwX_s, if_neg (by omega), if_neg (by rw [hv]; decide)]
  simp only [hv]
  rw [if_neg (by decide), if_neg (by decide), if_pos trivial, if_neg hx, rn_s hk h]
theorem rn_skip (hk : dtk st dt sz) {i k : Nat} {sk : List Int32} (h : i < sz) (hv : st i = 63) (hd : dt i = nI k) (hik : i < k) (hk2 : k ≤ 121) : rn st dt sz nm i (0 :: sk) = rn st dt sz nm k sk := by
  rw [rn, lwX_s, if_neg (by omega), if_neg (by rw [hv]; decide)]
  simp only [hv]
  obtain ⟨k1, k2⟩ := hk
  rw [if_neg (by decide), if_neg (by decide), if_pos trivial, if_pos trivial, hd, n_jmp (by omega) (by omega), nI_1, n_cl (by split <;> omega)]
  have e : (if i < k - 1 then k - 1 else i) + 1 = k := by split <;> omega
  rw [e]
  unfold rn
  exact lwX_fuel k1 k2 _ _ _ _ (by omega) (by omega) (by omega)
theorem rn_bin (hk : dtk st dt sz) {i : Nat} {x y : Int32} {sk : List Int32} (h : i < sz) (hv : rkO (st i) < 5) : rn st dt sz nm i (x :: y :: sk) = rn st dt sz nm (i + 1) (lwJ (st i) y x :: sk) := by
  have hv' : ¬ (¬ st i < 97 ∧ ¬ 122 < st i) ∧ ¬ st i = 33 ∧ ¬ st i = 59 ∧ ¬ st i = 63 ∧ ¬ st i = 126 := by
    unfold rkO at hv
    repeat' split at hv
    all_goals first
      | (rename_i e; rw [e]; decide)
      | (rename_i e; rcases e with e | e | e <;> (rw [e]; decide))
      | (rename_i e; rcases e with e | e <;> (rw [e]; decide))
      | omega
  rw [rn, lwX_s, if_neg (by omega), if_neg hv'.1]
  simp only [if_neg hv'.2.1, if_neg hv'.2.2.1, if_neg hv'.2.2.2.1, if_neg hv'.2.2.2.2]
  rw [rn_s hk h]
end RN
/-- steps that lay a value on the stack -/
def runs (c : PC) (v : PV) : Prop := ∀ (st dt : Nat → Int32) (sz : Nat) (nm : Nat → Int32) (i : Nat) (sk : List Int32), dtk st dt sz → cdR c i st dt → i + c.length ≤ sz → sk.length + opn c ≤ 61 → rn st dt sz nm i sk = rn st dt sz nm (i + c.length) (v nm :: sk)
theorem runs_val {x y : Int32} {v : PV} (hx : isV x = true) (hv : ∀ nm, v nm = lwV x nm y) : runs [(x, y)] v := by
  intro st dt sz nm i sk hk hc hl ho
  rw [opn_1, if_pos hx] at ho
  simp only [List.length_singleton] at hl ⊢
  rw [rn_val hk (by omega) (by rw [hc.1]; exact hx) (by omega), hc.1, hc.2.1, hv]
theorem runs_bin {a b : PC} {v w : PV} {x y : Int32} (ha : runs a v) (hb : runs b w) (hx : rkO x < 5) (h1 : 1 ≤ opn a) : runs (a ++ b ++ [(x, y)]) (fun nm => lwJ x (v nm) (w nm)) := by
  intro st dt sz nm i sk hk hc hl ho
  rw [cdR_app, cdR_app] at hc
  rw [opn_app, opn_app] at ho
  simp only [List.length_append, List.length_singleton] at hl hc ⊢
  rw [ha st dt sz nm i sk hk hc.1.1 (by omega) (by omega), hb st dt sz nm _ _ hk hc.1.2 (by omega) (by simp only [List.length_cons]; omega)]
  have e := hc.2.1
  rw [← Nat.add_assoc] at e
  rw [rn_bin hk (by omega) (by rw [e]; exact hx), e]
  simp only [Nat.add_assoc]
theorem runs_not {a : PC} {v : PV} {y : Int32} (ha : runs a v) : runs (a ++ [(33, y)]) (fun nm => if v nm = 0 then 1 else 0) := by
  intro st dt sz nm i sk hk hc hl ho
  rw [cdR_app] at hc
  rw [opn_app] at ho
  simp only [List.length_append, List.length_singleton] at hl hc ⊢
  rw [ha st dt sz nm i sk hk hc.1 (by omega) (by omega), rn_not hk (by omega) hc.2.1]
  simp only [Nat.add_assoc]
theorem runs_neg {a : PC} {v : PV} {y : Int32} (ha : runs a v) : runs (a ++ [(126, y)]) (fun nm => -(v nm)) := by
  intro st dt sz nm i sk hk hc hl ho
  rw [cdR_app] at hc
  rw [opn_app] at ho
  simp only [List.length_append, List.length_singleton] at hl hc ⊢
  rw [ha st dt sz nm i sk hk hc.1 (by omega) (by omega), rn_neg hk (by omega) hc.2.1]
  simp only [Nat.add_assoc]
/-- what is known of a piece read from i on, of e bytes -/
def pzG (e i : Nat) (q : PR) : Prop := i ≤ q.2.1 ∧ q.2.1 ≤ e ∧ (q.1 = true → i < q.2.1 ∧ q.2.2.1.length + i ≤ q.2.1 ∧ 2 * opn q.2.2.1 + i ≤ q.2.1 + 1 ∧ 1 ≤ opn q.2.2.1 ∧ (∀ x ∈ q.2.2.1, x.1 ≠ 63) ∧ runs q.2.2.1 q.2.2.2)
/-- beyond the end there are zeros -/
def chE (ch : Nat → Int32) (e : Nat) : Prop := ∀ i, e ≤ i → ch i = 0
theorem chE.lt {ch : Nat → Int32} {e i : Nat} (h : chE ch e) (hi : ch i ≠ 0) : i < e := by
  by_cases c : i < e
  · exact c
  · exact absurd (h i (by omega)) hi
theorem dig_ne {c : Int32} (h : dig c = true) : c ≠ 0 := by
  intro e; subst e; exact absurd h (by decide)
theorem rkO_ne {c : Int32} (h : rkO c < 5) : c ≠ 0 := by
  intro e; subst e; exact absurd h (by decide)
theorem nmI_ne {c : Int32} (h : nmI c < 6) : c ≠ 0 := by
  intro e; subst e; exact absurd h (by decide)
theorem rkO_isV {c : Int32} (h : rkO c < 5) : isV c = false ∧ c ≠ 63 := by
  unfold rkO at h
  repeat' split at h
  all_goals first
    | (rename_i e; rw [e]; decide)
    | (rename_i e; rcases e with e | e | e <;> (rw [e]; decide))
    | (rename_i e; rcases e with e | e <;> (rw [e]; decide))
    | omega
theorem nmI_v {c y : Int32} (h : nmI c < 6) : isV c = true ∧ c ≠ 63 ∧ ∀ nm, nm (nmI c) = lwV c nm y := by
  unfold nmI at h
  repeat' split at h
  all_goals first
    | omega
    | (rename_i e; subst e; exact ⟨by decide, by decide, fun _ => rfl⟩)
theorem numL_b {ch : Nat → Int32} {e : Nat} (hE : chE ch e) : ∀ (k i : Nat) (v : Int32), i ≤ e → i ≤ (numL ch k i v).1 ∧ (numL ch k i v).1 ≤ e
  | 0, i, v, h => ⟨Nat.le_refl _, h⟩
  | k + 1, i, v, h => by
    rw [numL]
    by_cases hd : dig (ch i) = true
    · rw [if_pos hd]
      have hi := hE.lt (dig_ne hd)
      have := numL_b hE k (i + 1) (v * 10 + (ch i - 48)) (by omega)
      exact ⟨by omega, this.2⟩
    · rw [if_neg hd]; exact ⟨Nat.le_refl _, h⟩
theorem lp_good {ch : Nat → Int32} {e r i : Nat} {P : Nat → PR} (hr : r < 5) (hE : chE ch e) (i' : Nat) (hP : ∀ j, i' ≤ j → j ≤ e → pzG e j (P j)) : ∀ (k q j : Nat) (c : PC) (v : PV), i' ≤ j + 1 → pzG e i (true, j, c, v) → pzG e i (lp ch P r k q j c v)
  | 0, q, j, c, v, hj, h => h
  | k + 1, q, j, c, v, hj, h => by
    rw [lp]
    obtain ⟨h1, h2, h3⟩ := h
    obtain ⟨a1, a2, a3, a4, a5, a6⟩ := h3 rfl
    dsimp only at h1 h2 a1 a2 a3 a4 a5 a6
    by_cases hc : rkO (ch j) = r ∧ ¬ (r = 2 ∧ 0 < q)
    · rw [if_pos hc]
      have hrk : rkO (ch j) < 5 := by omega
      have hje := hE.lt (rkO_ne hrk)
      obtain ⟨b1, b2, b3⟩ := hP (j + 1) hj (by omega)
      by_cases ho : (P (j + 1)).1 = true
      · rw [if_pos ho]
        obtain ⟨g1, g2, g3, g4, g5, g6⟩ := b3 ho
        refine lp_good hr hE i' hP k (q + 1) _ _ _ (by omega) ⟨by dsimp only; omega, by dsimp only; omega, fun _ => ⟨by dsimp only; omega, ?_, ?_, ?_, ?_, runs_bin a6 g6 hrk a4⟩⟩
        · simp only [List.length_append, List.length_singleton]; omega
        · dsimp only; rw [opn_app, opn_app, opn_1, (rkO_isV hrk).1]; simp only [Bool.false_eq_true, if_false]; omega
        · dsimp only; rw [opn_app, opn_app]; omega
        · intro x hx
          simp only [List.mem_append, List.mem_singleton] at hx
          rcases hx with (hx | hx) | hx
          · exact a5 x hx
          · exact g5 x hx
          · rw [hx]; exact (rkO_isV hrk).2
      · rw [if_neg ho]
        exact ⟨by dsimp only; omega, b2, fun z => by cases z⟩
    · rw [if_neg hc]
      exact ⟨h1, h2, h3⟩
theorem pz_good {ch : Nat → Int32} {e : Nat} (hE : chE ch e) : ∀ (fu r o i : Nat), i ≤ e → 7 * (e - i) + (5 - r) < fu → pzG e i (pz ch fu r o i)
  | 0, r, o, i, hi, hf => by omega
  | fu + 1, r, o, i, hi, hf => by
    rw [pz]
    by_cases hr : r < 5
    · rw [if_pos hr]
      have h1 := pz_good hE fu (r + 1) o i hi (by omega)
      by_cases ho : (pz ch fu (r + 1) o i).1 = true
      · rw [if_pos ho]
        have ha := (h1.2.2 ho).1
        refine lp_good hr hE (i + 1) (fun j hj1 hj2 => pz_good hE fu (r + 1) o j hj2 (by omega)) fu 0 _ _ _ (by omega) ?_
        exact ⟨h1.1, h1.2.1, fun _ => h1.2.2 ho⟩
      · rw [if_neg ho]
        exact ⟨h1.1, h1.2.1, fun z => by cases z⟩
    · rw [if_neg hr]
      by_cases hd : dig (ch i) = true
      · rw [if_pos hd]
        have hie := hE.lt (dig_ne hd)
        have hb := numL_b hE 3 (i + 1) (0 * 10 + (ch i - 48)) (by omega)
        have e4 : numL ch 4 i 0 = numL ch 3 (i + 1) (0 * 10 + (ch i - 48)) := by rw [numL, if_pos hd]
        rw [e4]
        refine ⟨by dsimp only; omega, by dsimp only; omega, fun _ => ⟨by dsimp only; omega, by simp only [List.length_singleton]; omega, ?_, ?_, ?_, runs_val (by decide) (fun nm => rfl)⟩⟩
        · dsimp only; rw [opn_1, if_pos (by decide)]; omega
        · dsimp only; rw [opn_1, if_pos (by decide)]; omega
        · intro x hx; rw [List.mem_singleton.mp hx]; show (99 : Int32) ≠ 63; decide
      · rw [if_neg hd]
        by_cases hn : nmI (ch i) < 6
        · rw [if_pos hn]
          have hie := hE.lt (nmI_ne hn)
          have hv := nmI_v (y := 0) hn
          refine ⟨by dsimp only; omega, by dsimp only; omega, fun _ => ⟨by dsimp only; omega, by simp only [List.length_singleton]; omega, ?_, ?_, ?_, runs_val hv.1 hv.2.2⟩⟩
          · dsimp only; rw [opn_1, if_pos hv.1]; omega
          · dsimp only; rw [opn_1, if_pos hv.1]; omega
          · intro x hx; rw [List.mem_singleton.mp hx]; exact hv.2.1
        · rw [if_neg hn]
          by_cases h6 : 6 ≤ o
          · rw [if_pos h6]; exact ⟨Nat.le_refl _, hi, fun z => by cases z⟩
          · rw [if_neg h6]
            by_cases h40 : ch i = 40
            · rw [if_pos h40]
              have hie := hE.lt (by rw [h40]; decide)
              have h1 := pz_good hE fu 0 (o + 1) (i + 1) (by omega) (by omega)
              by_cases ho : (pz ch fu 0 (o + 1) (i + 1)).1 = true
              · rw [if_pos ho]
                obtain ⟨g1, g2, g3, g4, g5, g6⟩ := h1.2.2 ho
                by_cases hc : ch (pz ch fu 0 (o + 1) (i + 1)).2.1 = 41
                · rw [if_pos hc]
                  have hje := hE.lt (show ch (pz ch fu 0 (o + 1) (i + 1)).2.1 ≠ 0 by rw [hc]; decide)
                  exact ⟨by dsimp only; omega, by dsimp only; omega, fun _ => ⟨by dsimp only; omega, by dsimp only; omega, by dsimp only; omega, g4, g5, g6⟩⟩
                · rw [if_neg hc]; exact ⟨by dsimp only; omega, h1.2.1, fun z => by cases z⟩
              · rw [if_neg ho]; have := h1.1; exact ⟨by dsimp only; omega, h1.2.1, fun z => by cases z⟩
            · rw [if_neg h40]
              by_cases h33 : ch i = 33
              · rw [if_pos h33]
                have hie := hE.lt (by rw [h33]; decide)
                have h1 := pz_good hE fu 5 (o + 1) (i + 1) (by omega) (by omega)
                by_cases ho : (pz ch fu 5 (o + 1) (i + 1)).1 = true
                · rw [if_pos ho]
                  obtain ⟨g1, g2, g3, g4, g5, g6⟩ := h1.2.2 ho
                  refine ⟨by dsimp only; omega, h1.2.1, fun _ => ⟨by dsimp only; omega, by simp only [List.length_append, List.length_singleton]; omega, ?_, ?_, ?_, runs_not g6⟩⟩
                  · dsimp only; rw [opn_app, opn_1, if_neg (by decide)]; omega
                  · dsimp only; rw [opn_app]; omega
                  · intro x hx
                    simp only [List.mem_append, List.mem_singleton] at hx
                    rcases hx with hx | hx
                    · exact g5 x hx
                    · rw [hx]; decide
                · rw [if_neg ho]; have := h1.1; exact ⟨by dsimp only; omega, h1.2.1, fun z => by cases z⟩
              · rw [if_neg h33]
                by_cases h45 : ch i = 45
                · rw [if_pos h45]
                  have hie := hE.lt (by rw [h45]; decide)
                  have h1 := pz_good hE fu 5 (o + 1) (i + 1) (by omega) (by omega)
                  by_cases ho : (pz ch fu 5 (o + 1) (i + 1)).1 = true
                  · rw [if_pos ho]
                    obtain ⟨g1, g2, g3, g4, g5, g6⟩ := h1.2.2 ho
                    refine ⟨by dsimp only; omega, h1.2.1, fun _ => ⟨by dsimp only; omega, by simp only [List.length_append, List.length_singleton]; omega, ?_, ?_, ?_, runs_neg g6⟩⟩
                    · dsimp only; rw [opn_app, opn_1, if_neg (by decide)]; omega
                    · dsimp only; rw [opn_app]; omega
                    · intro x hx
                      simp only [List.mem_append, List.mem_singleton] at hx
                      rcases hx with hx | hx
                      · exact g5 x hx
                      · rw [hx]; decide
                  · rw [if_neg ho]; have := h1.1; exact ⟨by dsimp only; omega, h1.2.1, fun z => by cases z⟩
                · rw [if_neg h45]; exact ⟨Nat.le_refl _, hi, fun z => by cases z⟩
