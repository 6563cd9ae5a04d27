section E29
variable {L : Nat} {xs : Nat → Int32} {d : Nat} {Q : AQ} {M M0 M1 M2 : AM} {n N k0 p e v w r : Nat} {f g : Nat → Nat → Nat} {io : Nat → Option Nat} {C G : Nat → Bool} {T : PV} {x1 x2 x3 : Int32}
/-- the soonest of the first m, the first of such -/
def hb (a : Nat → Option Nat) : Nat → Option (Nat × Nat)
  | 0 => none
  | m + 1 => match a m with
    | none => hb a m
    | some t => if t < ltL 1000 (hb a m) then some (m, t) else hb a m
def hbB : Option (Nat × Nat) → Nat
  | none => 0
  | some (b, _) => b
theorem hb_n {a : Nat → Option Nat} {m : Nat} (h : a m = none) : hb a (m + 1) = hb a m := by
  show (match a m with | none => _ | some t => _) = _
  rw [h]
theorem hb_s {a : Nat → Option Nat} {m t : Nat} (h : a m = some t) : hb a (m + 1) = if t < ltL 1000 (hb a m) then some (m, t) else hb a m := by
  show (match a m with | none => _ | some t => _) = _
  rw [h]
theorem hb_b {a : Nat → Option Nat} {k : Nat} (ha : ∀ e t, a e = some t → t < k) : ∀ m b t, hb a m = some (b, t) → b < m ∧ t < k
  | 0, b, t, h => by cases h
  | m + 1, b, t, h => by
    have ih := hb_b ha m
    cases z : a m with
    | none => rw [hb_n z] at h; have := ih b t h; omega
    | some s =>
      rw [hb_s z] at h
      have := ha m s z
      by_cases y : s < ltL 1000 (hb a m)
      · rw [if_pos y] at h; cases h; omega
      · rw [if_neg y] at h; have := ih b t h; omega
/-- what one would wear -/
def chs (T : PV) (n : Nat) (g : Nat → Nat → Nat) (p : Nat) : Nat := hbB (hb (hwr T n g p 30) 21)
theorem hbB_lt {a : Nat → Option Nat} {k m : Nat} (ha : ∀ e t, a e = some t → t < k) (hm : 0 < m) : hbB (hb a m) < m := by
  cases z : hb a m with
  | none => exact hm
  | some bt => obtain ⟨b, t⟩ := bt; exact (hb_b ha m b t z).1
theorem chs_le : chs T n g p ≤ 20 := by
  have := hbB_lt (a := hwr T n g p 30) (k := 30) (m := 21) (fun e t h => hwr_lt h) (by decide)
  unfold chs; omega
theorem x_tillG (hd : 6 ≤ d) (hx : xS n f T M) (hg : okP n g) (h : cwd n g w p M) (hw : w < 5) (hp : p < n) (hv : okV w v) {q : Nat} (hq : q < n) (hk : k0 < 2 ^ 20) (kk : ∀ M', fr qK M M' → xS n f T M' → cwd n g w p M' → Q (some (.int (oI (dgo T n (upf g w p v) (ein n) noG 5 k0 q)))) M') {K : Option Value → AM → Prop} (hK : ∀ M', am_Call (gG L xs) d c_Day_till [.ref 15, .int (nI q), .int (nI k0)] M' Q → K none M') : am_Call (gG L xs) d c_Day_againWith [.ref 15, .int (nI w), .int (nI p), .int (nI v)] M K := by
  obtain ⟨a, h1, h2⟩ := h
  refine s_againWith (by omega) h1 h2 hw hp (fun M1 f1 g1 l1 => hK M1 ?_)
  rw [upf_upf] at g1
  have s1 := hx.keep (M1 := M1) (f1.to (by decide))
  exact s_till hd g1 (hg.up hv) s1.2.1 hk hq l1 (fun M2 f2 r1 r2 => kk M2 ((f1.to (by decide)).q (f2.to (by decide)) (fun _ h => h)) (s1.keep (f2.to (by decide))) ⟨v, r1, r2⟩)
theorem ltL_le {a : Nat → Option Nat} {k m : Nat} (ha : ∀ e t, a e = some t → t < k) (e : Nat) (hk : k ≤ m) : ltL m (hb a e) ≤ m := by
  cases z : hb a e with
  | none => exact Nat.le_refl _
  | some bt => obtain ⟨b, t⟩ := bt; have := (hb_b ha e b t z).2; show t ≤ m; omega
theorem ltL_cmp {a : Nat → Option Nat} {k m t : Nat} (ha : ∀ e t, a e = some t → t < k) (e : Nat) (hk : k ≤ m) (hk2 : k ≤ 1000) (ht : t < k) : t < ltL m (hb a e) ↔ t < ltL 1000 (hb a e) := by
  cases z : hb a e with
  | none => show t < m ↔ t < 1000; omega
  | some bt => obtain ⟨b, s⟩ := bt; exact Iff.rfl
theorem x_earliest (hd : 8 ≤ d) (hx : xS n f T M) (hg : okP n g) (h : cwd n g 3 p M) (hp : p < n) (kk : ∀ M', fr qK M M' → xS n f T M' → cwd n g 3 p M' → Q (some (.int (nI (chs T n g p)))) M') : am_Call (gG L xs) d c_Wishes_earliestHeels [.ref 20, .int (nI p)] M Q := by
  obtain ⟨d, rfl⟩ : ∃ a, d = a + 1 := ⟨d - 1, by omega⟩
  have hn := hx.2.2.2
  obtain ⟨A, hA⟩ : ∃ A, A = hwr T n g p 30 := ⟨_, rfl⟩
  have hAl : ∀ e t, A e = some t → t < 30 := fun e t h => by rw [hA] at h; exact hwr_lt h
  have loop : ∀ j e (M1 : AM), e + j = 21 → fr qK M M1 → xS n f T M1 → cwd n g 3 p M1 → v_Wishes_earliestHeels L xs d Q 8 [(0, .ref 20), (1, .int (nI p)), (2, .int (nI (hbB (hb A e)))), (3, .int (nI (ltL 30 (hb A e)))), (4, .int (nI e))] [] M1 := by
    intro j
    induction j with
    | zero =>
      intro e M1 he F s1 c1
      have : e = 21 := by omega
      subst this
      have K := kk M1 F s1 c1
      unfold chs at K
      rw [← hA] at K
      exact u_Wishes_earliestHeels_8 ⟨fun _ => K, fun z => absurd ((n_ltI (a := 20) (b := 21) (by decide) (by decide)).mpr (by decide)) z⟩
    | succ j ih =>
      intro e M1 he F s1 c1
      have hl := ltL_le hAl e (m := 30) (by decide)
      refine u_Wishes_earliestHeels_8 ⟨fun z => absurd ((n_ltI (a := 20) (by decide) (by omega)).mp z) (by omega), fun _ => ?_⟩
      refine x_tillG (w := 3) (v := e) (k0 := ltL 30 (hb A e)) (q := p) (by omega) s1 hg c1 (by decide) hp ⟨fun z => by omega, fun z => by omega, fun z => by omega, fun _ => by omega, fun z => by omega⟩ hp (by omega) (Q := fun r M' => v_Wishes_earliestHeels L xs d Q 35 [(0, .ref 20), (1, .int (nI p)), (2, .int (nI (hbB (hb A e)))), (3, .int (nI (ltL 30 (hb A e)))), (4, .int (nI e))] (r.toList ++ []) M') (fun M2 f2 s2 c2 => ?_) (fun M' h => u_Wishes_earliestHeels_26 h)
      have R := ih (e + 1) M2 (by omega) (F.q f2 (fun _ h => h)) s2 c2
      cases z : A e with
      | none =>
        have z' : dgo T n (upf g 3 p e) (ein n) noG 5 30 p = none := by rw [hA] at z; exact z
        rw [dgo_cutN z' hl]
        rw [hb_n z] at R
        exact u_Wishes_earliestHeels_35 ⟨fun y => absurd rfl y, fun _ => by rw [nI_1]; exact R⟩
      | some t =>
        have z' : dgo T n (upf g 3 p e) (ein n) noG 5 30 p = some t := by rw [hA] at z; exact z
        have ht := hAl e t z
        have hc := ltL_cmp hAl e (m := 30) (by decide) (by decide) ht
        rw [dgo_cut z' hl]
        rw [hb_s z] at R
        by_cases hlt : t < ltL 30 (hb A e)
        · rw [if_pos hlt]
          rw [if_pos (hc.mp hlt)] at R
          exact u_Wishes_earliestHeels_35 ⟨fun _ => by rw [nI_1]; exact R, fun y => absurd (show nI t < 0 by rw [show nI t = -2 from y]; decide) (nI_pos (by omega))⟩
        · rw [if_neg hlt]
          rw [if_neg (fun y => hlt (hc.mpr y))] at R
          exact u_Wishes_earliestHeels_35 ⟨fun y => absurd rfl y, fun _ => by rw [nI_1]; exact R⟩
  exact t_Wishes_earliestHeels (loop 21 0 M (by omega) fr.rf hx h)
theorem m_chooses (hd : 76 ≤ d) (hr : rS n g T M) (hp : p < n) (kk : ∀ M', fs rK rJ M M' → rS n g T M' → M'.1 52 = M.1 52 → Q (some (.int (nI (chs T n g p)))) M') : am_Call (gG L xs) d c_Md_chooses [.ref 40, .int (nI p)] M Q := by
  obtain ⟨d, rfl⟩ : ∃ a, d = a + 1 := ⟨d - 1, by omega⟩
  have hn := hr.2.2.2.2.2
  obtain ⟨A, hA⟩ : ∃ A, A = hwr T n g p 30 := ⟨_, rfl⟩
  have hAl : ∀ e t, A e = some t → t < 30 := fun e t h => by rw [hA] at h; exact hwr_lt h
  have loop : ∀ j e (M1 : AM), e + j = 21 → fs rK rJ M M1 → rS n g T M1 → M1.1 52 = M.1 52 → v_Md_chooses L xs d Q 9 [(0, .ref 40), (1, .int (nI p)), (2, .int (nI (hbB (hb A e)))), (3, .int (nI (if e = 0 then 1001 else ltL 1000 (hb A e)))), (4, .int (nI e))] [] M1 := by
    intro j
    induction j with
    | zero =>
      intro e M1 he F s1 k52
      have : e = 21 := by omega
      subst this
      have K := kk M1 F s1 k52
      unfold chs at K
      rw [← hA] at K
      exact u_Md_chooses_9 ⟨fun _ => K, fun z => absurd ((n_ltI (a := 20) (b := 21) (by decide) (by decide)).mpr (by decide)) z⟩
    | succ j ih =>
      intro e M1 he F s1 k52
      have hl := ltL_le hAl e (m := 1000) (by decide)
      refine u_Md_chooses_9 ⟨fun z => absurd ((n_ltI (a := 20) (by decide) (by omega)).mp z) (by omega), fun _ => ?_⟩
      refine m_wearing (k0 := 30) (by omega) s1 hp (by omega) (by decide) (fun M2 f2 s2 k2 => ?_)
      have R := ih (e + 1) M2 (by omega) (F.tt f2) s2 (by rw [k2]; exact k52)
      rw [if_neg (by omega : ¬ e + 1 = 0)] at R
      rw [← hA]
      obtain ⟨X, hX⟩ : ∃ X, X = if e = 0 then 1001 else ltL 1000 (hb A e) := ⟨_, rfl⟩
      have hX2 : X ≤ 1001 := by
        rw [hX]
        by_cases e0 : e = 0
        · rw [if_pos e0]; omega
        · rw [if_neg e0]; omega
      rw [← hX]
      cases z : A e with
      | none =>
        rw [hb_n z] at R
        refine u_Md_chooses_25 ⟨fun y => ?_, fun y => ?_⟩
        · have hle : X ≤ 1000 := (n_leI (b := 1000) (by omega) (by decide)).mp y
          have e0 : ¬ e = 0 := fun q => by rw [if_pos q] at hX; omega
          rw [if_neg e0] at hX
          rw [hX, nI_1]
          exact R
        · have hgt : ¬ X ≤ 1000 := fun q => y ((n_leI (b := 1000) (by omega) (by decide)).mpr q)
          have e0 : e = 0 := Decidable.byContradiction (fun q => by rw [if_neg q] at hX; omega)
          subst e0
          rw [nI_1]
          exact R
      | some t =>
        have ht := hAl e t z
        rw [hb_s z] at R
        rw [show wrI (some t) = nI t from rfl]
        refine u_Md_chooses_25 ⟨fun y => ?_, fun y => ?_⟩
        · have hle : X ≤ t := (n_leI (by omega) (by omega)).mp y
          have e0 : ¬ e = 0 := fun q => by rw [if_pos q] at hX; omega
          rw [if_neg e0] at hX
          rw [if_neg (by omega)] at R
          rw [hX, nI_1]
          exact R
        · have hgt : ¬ X ≤ t := fun q => y ((n_leI (by omega) (by omega)).mpr q)
          have hlt : t < ltL 1000 (hb A e) := by
            by_cases e0 : e = 0
            · subst e0; show t < 1000; omega
            · rw [if_neg e0] at hX; omega
          rw [if_pos hlt] at R
          rw [nI_1]
          exact R
  exact t_Md_chooses (loop 21 0 M (by omega) fs.rf hr rfl)
end E29
