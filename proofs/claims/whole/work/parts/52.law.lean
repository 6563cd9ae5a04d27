/-! ===== the law: steps over a stack, as a function ===== -/
def lwJ (sg a b : Int32) : Int32 :=
  if sg = 37 then (if b = 0 then 0 else irem a b)
  else if sg = 38 then (if a = 0 then 0 else if b = 0 then 0 else 1)
  else if sg = 42 then a * b
  else if sg = 43 then a + b
  else if sg = 45 then a - b
  else if sg = 47 then (if b = 0 then 0 else a / b)
  else if sg = 60 then (if b ≤ a then 0 else 1)
  else if sg = 61 then (if a = b then 1 else 0)
  else if sg = 62 then (if a ≤ b then 0 else 1)
  else if sg = 124 then (if a = 0 then (if b = 0 then 0 else 1) else 1)
  else 0
def lwV (sg : Int32) (nm : Nat → Int32) (dt : Int32) : Int32 :=
  if sg = 101 then nm 1 else if sg = 104 then nm 0 else if sg = 107 then nm 4 else if sg = 110 then nm 5 else if sg = 115 then nm 3 else if sg = 119 then nm 2 else dt
/-- the steps from a place on, over a stack -/
def lwX (st dt : Nat → Int32) (sz : Nat) (nm : Nat → Int32) : Nat → Nat → List Int32 → Int32
  | 0, _, _ => 0
  | fu + 1, i, sk =>
    if sz ≤ i then 0
    else if ¬ st i < 97 ∧ ¬ 122 < st i then
      (if 61 ≤ sk.length then 0 else lwX st dt sz nm fu (i + 1) (lwV (st i) nm (dt i) :: sk))
    else match sk with
      | [] => 0
      | x :: r =>
        if st i = 33 then lwX st dt sz nm fu (i + 1) ((if x = 0 then 1 else 0) :: r)
        else if st i = 59 then x
        else if st i = 63 then lwX st dt sz nm fu (if x = 0 then (imax (nI i) (dt i - 1) + 1).toNatClampNeg else i + 1) r
        else if st i = 126 then lwX st dt sz nm fu (i + 1) (-x :: r)
        else match r with
          | [] => 0
          | y :: r' => lwX st dt sz nm fu (i + 1) (lwJ (st i) y x :: r')
theorem lwX_s {st dt : Nat → Int32} {sz : Nat} {nm : Nat → Int32} {fu i : Nat} {sk : List Int32} : lwX st dt sz nm (fu + 1) i sk = (
    if sz ≤ i then 0
    else if ¬ st i < 97 ∧ ¬ 122 < st i then
      (if 61 ≤ sk.length then 0 else lwX st dt sz nm fu (i + 1) (lwV (st i) nm (dt i) :: sk))
    else match sk with
      | [] => 0
      | x :: r =>
        if st i = 33 then lwX st dt sz nm fu (i + 1) ((if x = 0 then 1 else 0) :: r)
        else if st i = 59 then x
        else if st i = 63 then lwX st dt sz nm fu (if x = 0 then (imax (nI i) (dt i - 1) + 1).toNatClampNeg else i + 1) r
        else if st i = 126 then lwX st dt sz nm fu (i + 1) (-x :: r)
        else match r with
          | [] => 0
          | y :: r' => lwX st dt sz nm fu (i + 1) (lwJ (st i) y x :: r')) := by
  cases sk with
  | nil => rfl
  | cons x r => cases r <;> rfl
/-- the class's law is the function T of the names -/
def lawX (T : (Nat → Int32) → Int32) (M : AM) : Prop := ∃ sz, M.1 4 2 = nI sz ∧ sz ≤ 121 ∧ (∀ i, i < sz → M.1 5 i = 63 → ∃ k, k ≤ 121 ∧ M.1 6 i = nI k) ∧ ∀ nm, T nm = if sz = 0 then nm 0 + nm 1 else lwX (M.1 5) (M.1 6) sz nm (sz + 1) 0 []
/-- the names' values of one at a stroke -/
def nmf (f : Nat → Nat → Nat) (s c k : Nat) : Nat → Int32 := fun j => match j with
  | 0 => nI (f 0 k)
  | 1 => nI (f 3 k)
  | 2 => nI s - nI (f 1 k)
  | 3 => nI s
  | 4 => nI k
  | _ => nI c
/-- a stack in its row -/
def skR : List Int32 → (Nat → Int32) → Prop
  | [], _ => True
  | x :: r, g => g r.length = x ∧ skR r g
theorem skR_ext {g g' : Nat → Int32} : ∀ {r : List Int32}, (∀ i, i < r.length → g' i = g i) → skR r g → skR r g'
  | [], _, _ => trivial
  | x :: r, h, k => ⟨(h r.length (by simp)).trans k.1, skR_ext (fun i hi => h i (by simp; omega)) k.2⟩
theorem skR_push {x : Int32} {r : List Int32} {M : AM} (h : skR r (M.1 7)) : skR (x :: r) ((am_wi M 7 r.length x).1 7) := ⟨wi_eq, skR_ext (fun i hi => wi_sl (by omega)) h⟩
theorem n_pt {a : Nat} (ha : a < 2 ^ 30) : (nI a - 1).toInt = (a : Int) - 1 := by
  have := pk_sub_toInt (a := a) (b := 1) ha (by decide)
  exact this
theorem n_top {a : Nat} : nI (a + 1) - 1 = nI a := nI_pred a
section SL
variable {L : Nat} {xs : Nat → Int32} {d : Nat} {Q : AQ} {M : AM}
theorem s_joined {sg a b : Int32} (hd : 1 ≤ d) (k : Q (some (.int (lwJ sg a b))) M) : am_Call (gG L xs) d c_Law_joined [.int sg, .int a, .int b] M Q := by
  obtain ⟨d, rfl⟩ : ∃ e, d = e + 1 := ⟨d - 1, by omega⟩
  refine t_Law_joined ?_
  unfold lwJ at k
  refine ⟨fun h => ?_, fun h => ?_, fun h => ?_, fun h => ?_, fun h => ?_, fun h => ?_, fun h => ?_, fun h => ?_, fun h => ?_, fun h => ?_, fun h1 h2 h3 h4 h5 h6 h7 h8 h9 h0 => ?_⟩
  · rw [if_pos h] at k
    exact ⟨fun e => by rwa [if_neg e] at k, fun e => by rwa [if_pos e] at k⟩
  · subst h
    rw [if_neg (by decide), if_pos rfl] at k
    exact ⟨fun e => by rwa [if_pos e] at k, fun e => ⟨fun e2 => by rwa [if_neg e, if_pos e2] at k, fun e2 => by rwa [if_neg e, if_neg e2] at k⟩⟩
  · subst h
    rwa [if_neg (by decide), if_neg (by decide), if_pos rfl] at k
  · subst h
    rwa [if_neg (by decide), if_neg (by decide), if_neg (by decide), if_pos rfl] at k
  · subst h
    rwa [if_neg (by decide), if_neg (by decide), if_neg (by decide), if_neg (by decide), if_pos rfl] at k
  · subst h
    rw [if_neg (by decide), if_neg (by decide), if_neg (by decide), if_neg (by decide), if_neg (by decide), if_pos rfl] at k
    exact ⟨fun e => by rwa [if_neg e] at k, fun e => by rwa [if_pos e] at k⟩
  · subst h
    rw [if_neg (by decide), if_neg (by decide), if_neg (by decide), if_neg (by decide), if_neg (by decide), if_neg (by decide), if_pos rfl] at k
    exact ⟨fun e => by rwa [if_pos e] at k, fun e => by rwa [if_neg e] at k⟩
  · subst h
    rw [if_neg (by decide), if_neg (by decide), if_neg (by decide), if_neg (by decide), if_neg (by decide), if_neg (by decide), if_neg (by decide), if_pos rfl] at k
    exact ⟨fun e => by rwa [if_neg e] at k, fun e => by rwa [if_pos e] at k⟩
  · subst h
    rw [if_neg (by decide), if_neg (by decide), if_neg (by decide), if_neg (by decide), if_neg (by decide), if_neg (by decide), if_neg (by decide), if_neg (by decide), if_pos rfl] at k
    exact ⟨fun e => by rwa [if_pos e] at k, fun e => by rwa [if_neg e] at k⟩
  · subst h
    rw [if_neg (by decide), if_neg (by decide), if_neg (by decide), if_neg (by decide), if_neg (by decide), if_neg (by decide), if_neg (by decide), if_neg (by decide), if_neg (by decide), if_pos rfl] at k
    exact ⟨fun e => by rwa [if_neg e] at k, fun e => ⟨fun e2 => by rwa [if_pos e, if_pos e2] at k, fun e2 => by rwa [if_pos e, if_neg e2] at k⟩⟩
  · rwa [if_neg h1, if_neg h2, if_neg h3, if_neg h4, if_neg h5, if_neg h6, if_neg h7, if_neg h8, if_neg h9, if_neg h0] at k
theorem n_pm (x : Int32) : x + (-1) = x - 1 := by rw [Int32.sub_eq_add_neg]
theorem n_m1p {a : Nat} : nI (a + 1) + (-1) = nI a := pk_m1 a
theorem n_jmp {i k : Nat} (hi : i < 2 ^ 30) (hk : k < 2 ^ 30) : imax (nI i) (nI k - 1) = nI (if i < k - 1 then k - 1 else i) := by
  unfold imax
  cases k with
  | zero =>
    rw [if_neg (by rw [Int32.lt_iff_toInt_lt, nI_toInt (by omega)]; rw [n_pt (by decide)]; omega), if_neg (by omega)]
  | succ k =>
    rw [n_top]
    by_cases h : i < k
    · rw [if_pos ((n_ltI (by omega) (by omega)).mpr h), if_pos (by omega)]; rfl
    · rw [if_neg (fun z => h ((n_ltI (by omega) (by omega)).mp z)), if_neg (by omega)]
variable {c nu th n : Nat} {f : Nat → Nat → Nat}
set_option maxHeartbeats 4000000 in
theorem s_tallLoop {s cN p sz : Nat} (hd : 1 ≤ d) (hc : isCr c nu th) (hc7 : c ≠ 7 ∧ nu ≠ 7) (hR : crw c nu n f M) (hp : p < n) (hz : M.1 4 2 = nI sz) (hz2 : sz ≤ 121) (hdt : ∀ i, i < sz → M.1 5 i = 63 → ∃ k, k ≤ 121 ∧ M.1 6 i = nI k) :
    ∀ (fu i : Nat) (sk : List Int32) (Mm : AM), i < 2 ^ 20 ∧ sz < i + fu → fr [7] M Mm → skR sk (Mm.1 7) → sk.length ≤ 61 → (∀ M', fr [7] M M' → Q (some (.int (lwX (M.1 5) (M.1 6) sz (nmf f s cN p) fu i sk))) M') →
      v_Law_tallness L xs d Q 35 [(0, .ref 4), (1, .ref c), (2, .int (nI p)), (3, .int (nI s)), (4, .int (nI cN)), (5, .int (nI (f 0 p))), (6, .int (nI (f 3 p))), (7, .int (nI sk.length - 1)), (8, .int (nI i))] [] Mm := by
  intro fu
  induction fu with
  | zero =>
    intro i sk Mm hi hfr hsk hlen hk
    refine u_Law_tallness_35 hc ?_
    rw [hfr.i 4, hz]
    exact ⟨fun _ => hk Mm hfr, fun h => absurd ((n_leI (by omega) (by omega)).mpr (by omega)) h⟩
  | succ fu ih =>
    intro i sk Mm hi hfr hsk hlen hk
    have ihc : ∀ (i' : Nat) (x' : Int32) (r' : List Int32) (M2 : AM), i' < 2 ^ 20 ∧ sz < i' + fu → fr [7] M M2 → skR (x' :: r') (M2.1 7) → r'.length < 61 → (∀ M', fr [7] M M' → Q (some (.int (lwX (M.1 5) (M.1 6) sz (nmf f s cN p) fu i' (x' :: r')))) M') →
        v_Law_tallness L xs d Q 35 [(0, .ref 4), (1, .ref c), (2, .int (nI p)), (3, .int (nI s)), (4, .int (nI cN)), (5, .int (nI (f 0 p))), (6, .int (nI (f 3 p))), (7, .int (nI r'.length)), (8, .int (nI i'))] [] M2 := by
      intro i' x' r' M2 h1 h2 h3 h4 h5
      have := ih i' (x' :: r') M2 h1 h2 h3 (by simp only [List.length_cons]; omega) h5
      rwa [show nI (x' :: r').length - 1 = nI r'.length from n_top] at this
    have hR' : crw c nu n f Mm := hR.fr (by rw [hfr.i c (by simpa using hc7.1)]) (hfr.i nu (by simpa using hc7.2))
    refine u_Law_tallness_35 hc ?_
    rw [hfr.i 4, hfr.i 5, hfr.i 6, hz, n_cl (show i < 2 ^ 31 by omega)]
    refine ⟨fun h => ?_, fun h => ?_⟩
    · rw [n_leI (by omega) (by omega)] at h
      rw [lwX_s, if_pos h] at hk
      exact hk Mm hfr
    · rw [n_leI (by omega) (by omega)] at h
      refine ⟨(n_vp (by omega)).mpr (by omega), fun ha => ?_, fun ha => ⟨fun hb => ?_, fun hb => ?_⟩⟩
      · have hns : ¬ (¬ M.1 5 i < 97 ∧ ¬ 122 < M.1 5 i) := fun z => z.1 ha
        rw [lwX_s, if_neg (by omega), if_neg hns] at hk
        cases sk with
        | nil => exact ⟨fun h => absurd h (by decide), fun _ => hk Mm hfr⟩
        | cons x r =>
          have hrl : r.length < 61 := by simp only [List.length_cons] at hlen; omega
          dsimp only at hk
          have hx := hsk.1
          rw [show nI (x :: r).length - 1 = nI r.length from n_top]
          have vp : vp_in (nI r.length) 61 := (n_vp (by omega)).mpr hrl
          rw [n_cl (show r.length < 2 ^ 31 by omega), hx]
          refine ⟨fun _ => ⟨fun e => ⟨vp, fun e2 => ?_, fun e2 => ?_⟩, fun e => ⟨vp, ?_⟩, fun e => ⟨vp, fun e2 => ?_, fun e2 => ?_⟩, fun e => ⟨vp, ?_⟩, fun n1 n2 n3 n4 => ⟨fun g => ?_, fun g => ?_⟩⟩, fun h => absurd (nI_pos' (by omega)) h⟩
          · simp only [if_pos e, if_neg e2] at hk
            rw [nI_1]
            exact ihc (i + 1) 0 r _ (by omega) (hfr.wi (by simp)) (skR_push hsk.2) (by omega) hk
          · simp only [if_pos e, if_pos e2] at hk
            rw [nI_1]
            exact ihc (i + 1) 1 r _ (by omega) (hfr.wi (by simp)) (skR_push hsk.2) (by omega) hk
          · rw [if_neg (by rw [e]; decide), if_pos e] at hk
            exact hk Mm hfr
          · rw [if_neg (by rw [e]; decide), if_neg (by rw [e]; decide), if_pos e, if_neg e2] at hk
            rw [n_pm, nI_1]
            exact ih (i + 1) r _ (by omega) hfr hsk.2 (by omega) hk
          · rw [if_neg (by rw [e]; decide), if_neg (by rw [e]; decide), if_pos e, if_pos e2] at hk
            obtain ⟨k1, k2, k3⟩ := hdt i (by omega) e
            rw [n_pm]
            have ei : imax (nI i) (M.1 6 i - 1) + 1 = nI ((if i < k1 - 1 then k1 - 1 else i) + 1) := by
              rw [k3, n_jmp (by omega) (by omega), nI_1]
            rw [ei, n_cl (by split <;> omega)] at hk
            rw [ei]
            exact ih _ r _ (by split <;> omega) hfr hsk.2 (by omega) hk
          · rw [if_neg (by rw [e]; decide), if_neg (by rw [e]; decide), if_neg (by rw [e]; decide), if_pos e] at hk
            rw [nI_1]
            exact ihc (i + 1) (-x) r _ (by omega) (hfr.wi (by simp)) (skR_push hsk.2) (by omega) hk
          · rw [if_neg n1, if_neg n2, if_neg n3, if_neg n4] at hk
            cases r with
            | nil => exact absurd g (by decide)
            | cons y r' =>
              have hy := hsk.2.1
              have hrl' : r'.length < 60 := by simp only [List.length_cons] at hrl; omega
              dsimp only at hk
              rw [show nI (y :: r').length + (-1) = nI r'.length from n_m1p, nI_1, n_cl (show r'.length < 2 ^ 31 by omega), n_cl (show r'.length + 1 < 2 ^ 31 by omega), hy, show Mm.1 7 (r'.length + 1) = x from hx]
              refine ⟨(n_vp (by omega)).mpr (by omega), (n_vp (by omega)).mpr (by omega), s_joined (by omega) ?_⟩
              refine u_Law_tallness_441 hc ⟨(n_vp (by omega)).mpr (by omega), ?_⟩
              rw [n_cl (show r'.length < 2 ^ 31 by omega)]
              rw [nI_1]
              exact ihc (i + 1) (lwJ (M.1 5 i) y x) r' _ (by omega) (hfr.wi (by simp)) (skR_push hsk.2.2) (by omega) hk
          · rw [if_neg n1, if_neg n2, if_neg n3, if_neg n4] at hk
            cases r with
            | nil => exact hk Mm hfr
            | cons y r' => exact absurd (by rw [show (1 : Int32) = nI 1 from rfl, n_leI (by omega) (by omega)]; simp) g
      · have hns : ¬ (¬ M.1 5 i < 97 ∧ ¬ 122 < M.1 5 i) := fun z => z.2 hb
        rw [lwX_s, if_neg (by omega), if_neg hns] at hk
        cases sk with
        | nil => exact ⟨fun h => absurd h (by decide), fun _ => hk Mm hfr⟩
        | cons x r =>
          have hrl : r.length < 61 := by simp only [List.length_cons] at hlen; omega
          dsimp only at hk
          have hx := hsk.1
          rw [show nI (x :: r).length - 1 = nI r.length from n_top]
          have vp : vp_in (nI r.length) 61 := (n_vp (by omega)).mpr hrl
          rw [n_cl (show r.length < 2 ^ 31 by omega), hx]
          refine ⟨fun _ => ⟨fun e => ⟨vp, fun e2 => ?_, fun e2 => ?_⟩, fun e => ⟨vp, ?_⟩, fun e => ⟨vp, fun e2 => ?_, fun e2 => ?_⟩, fun e => ⟨vp, ?_⟩, fun n1 n2 n3 n4 => ⟨fun g => ?_, fun g => ?_⟩⟩, fun h => absurd (nI_pos' (by omega)) h⟩
          · simp only [if_pos e, if_neg e2] at hk
            rw [nI_1]
            exact ihc (i + 1) 0 r _ (by omega) (hfr.wi (by simp)) (skR_push hsk.2) (by omega) hk
          · simp only [if_pos e, if_pos e2] at hk
            rw [nI_1]
            exact ihc (i + 1) 1 r _ (by omega) (hfr.wi (by simp)) (skR_push hsk.2) (by omega) hk
          · rw [if_neg (by rw [e]; decide), if_pos e] at hk
            exact hk Mm hfr
          · rw [if_neg (by rw [e]; decide), if_neg (by rw [e]; decide), if_pos e, if_neg e2] at hk
            rw [n_pm, nI_1]
            exact ih (i + 1) r _ (by omega) hfr hsk.2 (by omega) hk
          · rw [if_neg (by rw [e]; decide), if_neg (by rw [e]; decide), if_pos e, if_pos e2] at hk
            obtain ⟨k1, k2, k3⟩ := hdt i (by omega) e
            rw [n_pm]
            have ei : imax (nI i) (M.1 6 i - 1) + 1 = nI ((if i < k1 - 1 then k1 - 1 else i) + 1) := by
              rw [k3, n_jmp (by omega) (by omega), nI_1]
            rw [ei, n_cl (by split <;> omega)] at hk
            rw [ei]
            exact ih _ r _ (by split <;> omega) hfr hsk.2 (by omega) hk
          · rw [if_neg (by rw [e]; decide), if_neg (by rw [e]; decide), if_neg (by rw [e]; decide), if_pos e] at hk
            rw [nI_1]
            exact ihc (i + 1) (-x) r _ (by omega) (hfr.wi (by simp)) (skR_push hsk.2) (by omega) hk
          · rw [if_neg n1, if_neg n2, if_neg n3, if_neg n4] at hk
            cases r with
            | nil => exact absurd g (by decide)
            | cons y r' =>
              have hy := hsk.2.1
              have hrl' : r'.length < 60 := by simp only [List.length_cons] at hrl; omega
              dsimp only at hk
              rw [show nI (y :: r').length + (-1) = nI r'.length from n_m1p, nI_1, n_cl (show r'.length < 2 ^ 31 by omega), n_cl (show r'.length + 1 < 2 ^ 31 by omega), hy, show Mm.1 7 (r'.length + 1) = x from hx]
              refine ⟨(n_vp (by omega)).mpr (by omega), (n_vp (by omega)).mpr (by omega), s_joined (by omega) ?_⟩
              refine u_Law_tallness_441 hc ⟨(n_vp (by omega)).mpr (by omega), ?_⟩
              rw [n_cl (show r'.length < 2 ^ 31 by omega)]
              rw [nI_1]
              exact ihc (i + 1) (lwJ (M.1 5 i) y x) r' _ (by omega) (hfr.wi (by simp)) (skR_push hsk.2.2) (by omega) hk
          · rw [if_neg n1, if_neg n2, if_neg n3, if_neg n4] at hk
            cases r with
            | nil => exact hk Mm hfr
            | cons y r' => exact absurd (by rw [show (1 : Int32) = nI 1 from rfl, n_leI (by omega) (by omega)]; simp) g
      · rw [lwX_s, if_neg (by omega), if_pos ⟨ha, hb⟩] at hk
        have etop : nI sk.length - 1 + 1 = nI sk.length := by
          cases hs : sk.length with
          | zero => decide
          | succ a => rw [n_top, nI_1]
        rw [etop, n_cl (show sk.length < 2 ^ 31 by omega)]
        have hlt : nI sk.length - 1 < 61 - 1 ↔ sk.length < 61 := by
          rw [Int32.lt_iff_toInt_lt, n_pt (by omega), show (61 - 1 : Int32).toInt = 60 from by decide]
          omega
        rw [hlt]
        refine ⟨fun g => ?_, fun g => ?_⟩
        · rw [if_neg (by omega)] at hk
          have vp : vp_in (nI sk.length) 61 := (n_vp (by omega)).mpr g
          have fin : ∀ v, lwV (M.1 5 i) (nmf f s cN p) (M.1 6 i) = v → v_Law_tallness L xs d Q 35 [(0, .ref 4), (1, .ref c), (2, .int (nI p)), (3, .int (nI s)), (4, .int (nI cN)), (5, .int (nI (f 0 p))), (6, .int (nI (f 3 p))), (7, .int (nI sk.length)), (8, .int (nI i + 1))] [] (am_wi Mm 7 sk.length v) := by
            intro v hv
            rw [hv] at hk
            rw [nI_1]
            exact ihc (i + 1) v sk (am_wi Mm 7 sk.length v) (by omega) (hfr.wi (by simp)) (skR_push hsk) (by omega) hk
          refine ⟨fun e => ⟨vp, fin _ (by simp [lwV, e, nmf])⟩, fun e => ⟨vp, fin _ (by simp [lwV, e, nmf])⟩, fun e => ⟨vp, fin _ (by simp [lwV, e, nmf])⟩, fun e => ⟨vp, fin _ (by simp [lwV, e, nmf])⟩, fun e => ⟨vp, fin _ (by simp [lwV, e, nmf])⟩, fun e => ?_, fun n1 n2 n3 n4 n5 n6 => ⟨vp, fin _ (by simp [lwV, n1, n2, n3, n4, n5, n6])⟩⟩
          obtain ⟨d, rfl⟩ : ∃ e, d = e + 1 := ⟨d - 1, by omega⟩
          have h1 : vp_in ((1 : Int32) * 15 + nI p) 75 ∧ Mm.1 nu (((1 : Int32) * 15 + nI p).toNatClampNeg) = nI (f 1 p) := hR'.at (w := 1) (by decide) hp
          have hn := hR.2.1
          refine t_Crowd_number hc ⟨fun h => absurd h (by decide), fun _ => ⟨fun h => absurd h (by decide), fun _ => ⟨fun h => absurd h (nI_pos (by omega)), fun _ => ⟨fun h => absurd h (by rw [hR'.1, n_leI (by omega) (by omega)]; omega), fun _ => ⟨h1.1, ?_⟩⟩⟩⟩⟩
          rw [h1.2]
          refine u_Law_tallness_213 hc ⟨vp, ?_⟩
          rw [n_cl (show sk.length < 2 ^ 31 by omega)]
          exact fin _ (by simp [lwV, e, nmf])
        · rw [if_pos (by omega)] at hk
          exact hk Mm hfr
/-- how tall one is -/
theorem s_tallness {s cN p : Nat} {T : (Nat → Int32) → Int32} (hd : 2 ≤ d) (hc : isCr c nu th) (hc7 : c ≠ 7 ∧ nu ≠ 7) (hR : crw c nu n f M) (hp : p < n) (hL : lawX T M) (k : ∀ M', fr [7] M M' → Q (some (.int (T (nmf f s cN p)))) M') : am_Call (gG L xs) d c_Law_tallness [.ref 4, .ref c, .int (nI p), .int (nI s), .int (nI cN)] M Q := by
  obtain ⟨d, rfl⟩ : ∃ e, d = e + 2 := ⟨d - 2, by omega⟩
  obtain ⟨sz, hz, hz2, hdt, hT⟩ := hL
  have hn := hR.2.1
  have h0 : vp_in ((0 : Int32) * 15 + nI p) 75 ∧ M.1 nu (((0 : Int32) * 15 + nI p).toNatClampNeg) = nI (f 0 p) := hR.at (w := 0) (by decide) hp
  have h3 : vp_in ((3 : Int32) * 15 + nI p) 75 ∧ M.1 nu (((3 : Int32) * 15 + nI p).toNatClampNeg) = nI (f 3 p) := hR.at (w := 3) (by decide) hp
  refine t_Law_tallness hc ⟨fun h => absurd h (nI_pos (by omega)), fun _ => ⟨fun h => absurd h (by rw [hR.1, n_leI (by omega) (by omega)]; omega), fun _ => ⟨h0.1, h3.1, fun h => ?_, fun h => ?_⟩⟩⟩
  · rw [h0.2, h3.2]
    have hs0 : ¬ sz = 0 := fun e => h (by rw [hz, e]; rfl)
    refine s_tallLoop (by omega) hc hc7 hR hp hz hz2 hdt (sz + 1) 0 [] M (by omega) fr.rf trivial (by simp) (fun M' hM' => ?_)
    have := k M' hM'
    rwa [hT, if_neg hs0] at this
  · rw [h0.2, h3.2]
    have hs0 : sz = 0 := by
      rw [hz] at h
      exact (nI_eq (by omega) (by decide)).mp h
    have := k M fr.rf
    rwa [hT, if_pos hs0] at this
end SL
