section E37
variable {L : Nat} {xs : Nat → Int32} {d : Nat} {Q : AQ} {M M0 M1 M2 : AM} {n N k0 p e v w r q s k m o hi : Nat} {f g h : Nat → Nat → Nat} {io : Nat → Option Nat} {C G : Nat → Bool} {T : PV} {x1 x2 x3 z : Int32} {B B' : Option Nat}
theorem sub_iff (hm : m < 2 ^ 15) (ho : o < 2 ^ 15) : (nI m &&& (nI o ^^^ (-1))) = 0 ↔ m &&& o = m := by
  rw [sI_nat hm, sI_nat ho, sI_andn, sI_0]
  constructor
  · intro h
    apply Nat.eq_of_testBit_eq
    intro p
    rw [Nat.testBit_and]
    by_cases hp : p < 15
    · have h1 := h p hp
      cases z1 : m.testBit p with
      | false => rfl
      | true =>
        rw [z1] at h1
        cases z2 : o.testBit p with
        | true => rfl
        | false => rw [z2] at h1; cases h1
    · rw [Nat.testBit_lt_two_pow (Nat.lt_of_lt_of_le hm (Nat.pow_le_pow_right (by decide) (by omega))), Bool.false_and]
  · intro h p hp
    have h1 := congrArg (fun x => x.testBit p) h
    simp only [Nat.testBit_and] at h1
    cases z1 : m.testBit p with
    | false => rfl
    | true =>
      rw [z1] at h1
      cases z2 : o.testBit p with
      | true => rfl
      | false => rw [z2] at h1; cases h1
theorem d_lt {a b : Nat} (ha : a < 2 ^ 30) (hb : b < 2 ^ 30) : nI a - nI b < 0 ↔ a < b := by
  have h0 : (0 : Int32).toInt = 0 := by decide
  rw [Int32.lt_iff_toInt_lt, pk_sub_toInt ha hb, h0]
  omega
theorem d_eq {a b : Nat} (ha : a < 2 ^ 30) (hb : b < 2 ^ 30) : nI a - nI b = 0 ↔ a = b := by
  have h0 : (0 : Int32).toInt = 0 := by decide
  rw [← Int32.toInt_inj, pk_sub_toInt ha hb, h0]
  omega
/-- the price, so far -/
def stP (f : Nat → Nat → Nat) (n : Nat) : Option Nat → Int32
  | none => -2
  | some b => nI (cst f n b)
def stV (f : Nat → Nat → Nat) (n w : Nat) (B : Option Nat) : Int32 := if w = 0 then stP f n B else oI B
theorem cst_le (hok : okP n f) (hn : n ≤ 12) : cst f n m < 2000 := by
  have := prc_le (S := m.testBit) hok n (Nat.le_refl _)
  unfold cst
  omega
theorem bt_le : bt m ≤ 15 := cnt_le _ 15
theorem s_againX (hd : 2 ≤ d) (hx : xS n f T M) (hc : cwG n f M) (hm : m < 2 ^ 15) (k : ∀ M', fr [15, 19] M M' → dayX n f (cmo n m) nob M' → M'.1 15 6 = nI 0 → Q none M') : am_Call (gG L xs) d c_Day_again [.ref 15, .int ((((1 : Int32) <<< ((M.1 1 1) &&& 31)) - 1) &&& (nI m ^^^ (-1)))] M Q := by
  have hn := hx.2.2.2
  rw [hx.1.1, sI_all (by omega), sI_nat hm, sI_andn]
  exact s_again (C := cmo n m) hd hc.1 hc.2 k
theorem n2_ne {a : Nat} (ha : a < 2 ^ 31) : ¬ nI a = (-2 : Int32) := fun y => absurd (show nI a < 0 by rw [y]; decide) (nI_pos ha)
theorem x_sent (hd : 12 ≤ d) (hx : xS n f T M) (hk : k < n) (hs : s ≤ 30) (hr2 : r < 2) (hw : w < 2) (hB : spM (fun e => decide (e &&& othN n f s k = e) && suc (decide (r = 1)) s (sval T n f s k e)) (cst f n) bt (othN n f s k + 1) B) (kk : ∀ M', fr qK M M' → Q (some (.int (stV f n w B))) M') : am_Call (gG L xs) d c_Wishes_sentAway [.ref 20, .int (nI k), .int (nI s), .int (nI r), .int (nI w)] M Q := by
  obtain ⟨d, rfl⟩ : ∃ a, d = a + 2 := ⟨d - 2, by omega⟩
  have hn := hx.2.2.2
  have hok := hx.2.2.1
  have w0 : nI w = 0 ↔ w = 0 := nI_eq (b := 0) (by omega) (by decide)
  have r0 : nI r = 0 ↔ r = 0 := nI_eq (b := 0) (by omega) (by decide)
  have hol : othN n f s k < 2 ^ 12 := Nat.lt_of_lt_of_le oth_lt (Nat.pow_le_pow_right (by decide) hn)
  obtain ⟨o, ho⟩ : ∃ o, o = othN n f s k := ⟨_, rfl⟩
  rw [← ho] at hB hol
  obtain ⟨okc, hokc⟩ : ∃ g : Nat → Bool, g = fun e => decide (e &&& o = e) && suc (decide (r = 1)) s (sval T n f s k e) := ⟨_, rfl⟩
  rw [← hokc] at hB
  have loop : ∀ j m (M1 : AM) (B1 : Option Nat), m + j = o + 1 → fr qK M M1 → xS n f T M1 → cwG n f M1 → spM okc (cst f n) bt m B1 → v_Wishes_sentAway L xs (d + 1) Q 38 [(0, .ref 20), (1, .int (nI k)), (2, .int (nI s)), (3, .int (nI r)), (4, .int (nI w)), (5, .int (nI o)), (6, .int (stP f n B1)), (7, .int (oI B1)), (8, .int (nI m))] [] M1 := by
    intro j
    induction j with
    | zero =>
      intro m M1 B1 hm F s1 c1 h1
      have em : m = o + 1 := by omega
      subst em
      have eB : B1 = B := by
        cases B1 with
        | none =>
          cases B with
          | none => rfl
          | some y => have := h1 y hB.1; rw [hB.2.1] at this; cases this
        | some x =>
          cases B with
          | none => have := hB x h1.1; rw [h1.2.1] at this; cases this
          | some y =>
            have k1 := h1.2.2 y hB.1 hB.2.1
            have k2 := hB.2.2 x h1.1 h1.2.1
            unfold lek at k1 k2
            congr 1
            omega
      subst eB
      have K := kk M1 F
      unfold stV at K
      refine u_Wishes_sentAway_38 ⟨fun _ => ⟨fun z => ?_, fun z => ?_⟩, fun z => absurd (nI_lt (by omega) (by omega)) z⟩
      · rw [if_neg (fun q => z (w0.mpr q))] at K; exact K
      · rw [if_pos (w0.mp z)] at K; exact K
    | succ j ih =>
      intro m M1 B1 hm F s1 c1 h1
      have hm12 : m < 4096 := by omega
      have no : okc m = false → v_Wishes_sentAway L xs (d + 1) Q 38 [(0, .ref 20), (1, .int (nI k)), (2, .int (nI s)), (3, .int (nI r)), (4, .int (nI w)), (5, .int (nI o)), (6, .int (stP f n B1)), (7, .int (oI B1)), (8, .int (nI m + 1))] [] M1 := fun z => by
        rw [nI_1 m]
        exact ih (m + 1) M1 B1 (by omega) F s1 c1 (h1.no z)
      refine u_Wishes_sentAway_38 ⟨fun z => absurd ((n_ltI (by omega) (by omega)).mp z) (by omega), fun _ => ⟨fun z => s_priceN (by omega) s1 (by omega) ?_, fun z => no ?_⟩⟩
      · have hsub : m &&& o = m := (sub_iff (by omega) (by omega)).mp z
        have try1 : btr (cst f n) bt m B1 → am_Call (gG L xs) (d + 1) c_Day_again [.ref 15, .int ((((1 : Int32) <<< ((M1.1 1 1) &&& 31)) - 1) &&& (nI m ^^^ (-1)))] M1 (fun rr M' => v_Wishes_sentAway L xs (d + 1) Q 112 [(0, .ref 20), (1, .int (nI k)), (2, .int (nI s)), (3, .int (nI r)), (4, .int (nI w)), (5, .int (nI o)), (6, .int (stP f n B1)), (7, .int (oI B1)), (8, .int (nI m)), (9, .int (nI (cst f n m)))] (rr.toList ++ []) M') := fun hb => by
          refine s_againX (by omega) s1 c1 (by omega) (fun M2 f2 g2 l2 => u_Wishes_sentAway_112 ?_)
          rw [nI_1 s]
          have s2 := s1.keep (M1 := M2) (f2.to (by decide))
          refine s_till (n := s + 1) (p := k) (by omega) g2 hok s2.2.1 (by omega) hk l2 (fun M3 f3 r1 r2 => ?_)
          have F3 : fr qK M M3 := (F.q f2).q f3
          have s3 := s2.keep (M1 := M3) (f3.to (by decide))
          have R := fun B2 h => ih (m + 1) M3 B2 (by omega) F3 s3 ⟨r1, r2⟩ h
          have ev : dgo T n f (cmo n m) noG 5 (s + 1) k = sval T n f s k m := rfl
          rw [ev]
          have keep : suc (decide (r = 1)) s (sval T n f s k m) = false → v_Wishes_sentAway L xs (d + 1) Q 38 [(0, .ref 20), (1, .int (nI k)), (2, .int (nI s)), (3, .int (nI r)), (4, .int (nI w)), (5, .int (nI o)), (6, .int (stP f n B1)), (7, .int (oI B1)), (8, .int (nI m + 1))] [] M3 := fun y => by
            rw [nI_1 m]
            refine R B1 (h1.no ?_)
            rw [hokc]
            show (decide (m &&& o = m) && suc (decide (r = 1)) s (sval T n f s k m)) = false
            rw [y, Bool.and_false]
          have set1 : suc (decide (r = 1)) s (sval T n f s k m) = true → v_Wishes_sentAway L xs (d + 1) Q 38 [(0, .ref 20), (1, .int (nI k)), (2, .int (nI s)), (3, .int (nI r)), (4, .int (nI w)), (5, .int (nI o)), (6, .int (nI (cst f n m))), (7, .int (nI m)), (8, .int (nI m + 1))] [] M3 := fun y => by
            rw [nI_1 m]
            refine R (some m) (h1.yes ?_ hb)
            rw [hokc]
            show (decide (m &&& o = m) && suc (decide (r = 1)) s (sval T n f s k m)) = true
            rw [y, decide_eq_true hsub]; rfl
          cases zz : sval T n f s k m with
          | none =>
            rw [zz] at keep
            exact u_Wishes_sentAway_123 ⟨fun y => absurd y.symm (n2_ne (by omega)), fun _ => ⟨fun _ => keep rfl, fun _ => ⟨fun _ => keep rfl, fun y => absurd rfl y⟩⟩⟩
          | some a =>
            have ha : a < s + 1 := (dgo_lt (show dgo T n f (cmo n m) noG 5 (s + 1) k = some a from zz)).1
            rw [zz] at keep set1
            have ea : nI a = nI s ↔ a = s := nI_eq (by omega) (by omega)
            rw [show oI (some a) = nI a from rfl]
            refine u_Wishes_sentAway_123 ⟨fun y => set1 ?_, fun y => ⟨fun y2 => keep ?_, fun y2 => ⟨fun y3 => absurd y3 (n2_ne (by omega)), fun _ => set1 ?_⟩⟩⟩
            · show (decide (a = s) || decide (r = 1)) = true
              rw [decide_eq_true (ea.mp y)]; rfl
            · have h0 := r0.mp y2
              show (decide (a = s) || decide (r = 1)) = false
              rw [decide_eq_false (fun q => y (ea.mpr q)), decide_eq_false (by omega)]; rfl
            · have h0 : ¬ r = 0 := fun q => y2 (r0.mpr q)
              show (decide (a = s) || decide (r = 1)) = true
              rw [decide_eq_true (show r = 1 by omega), Bool.or_true]
        cases B1 with
        | none => exact u_Wishes_sentAway_67 ⟨fun _ => try1 trivial, fun y => absurd rfl y⟩
        | some b =>
          have hcm := cst_le (m := m) hok hn
          have hcb := cst_le (m := b) hok hn
          have hbm := bt_le (m := m)
          have hbb := bt_le (m := b)
          have hbl : b < m := h1.1
          refine u_Wishes_sentAway_67 ⟨fun y => absurd y (n2_ne (show cst f n b < 2 ^ 31 by omega)), fun _ => ?_⟩
          have nx : ¬ btr (cst f n) bt m (some b) → v_Wishes_sentAway L xs (d + 1) Q 38 [(0, .ref 20), (1, .int (nI k)), (2, .int (nI s)), (3, .int (nI r)), (4, .int (nI w)), (5, .int (nI o)), (6, .int (stP f n (some b))), (7, .int (oI (some b))), (8, .int (nI m + 1))] [] M1 := fun y => by
            rw [nI_1 m]
            exact ih (m + 1) M1 (some b) (by omega) F s1 c1 (h1.nb y)
          show am_Call (gG L xs) (d + 1) c_Wishes_isBetter [.int (nI (cst f n m)), .int (nI m), .int (nI (cst f n b)), .int (nI b)] M1 _
          have lt : nI (cst f n m) < nI (cst f n b) ↔ cst f n m < cst f n b := n_ltI (by omega) (by omega)
          have eq : nI (cst f n m) = nI (cst f n b) ↔ cst f n m = cst f n b := nI_eq (by omega) (by omega)
          have lb : nI (bt b) ≤ nI (bt m) ↔ bt b ≤ bt m := n_leI (by omega) (by omega)
          obtain ⟨d1, hd1⟩ : ∃ a, d = a + 1 := ⟨d - 1, by omega⟩
          refine t_Wishes_isBetter ⟨fun y => u_Wishes_sentAway_87 ⟨fun _ => try1 (Or.inl (lt.mp y)), fun y => absurd y (by decide)⟩, fun y => ⟨fun y2 => u_Wishes_sentAway_87 ⟨fun y => absurd rfl y, fun _ => nx ?_⟩, fun y2 => ?_⟩⟩
          · intro q
            rcases q with q | ⟨q, -⟩
            · exact y (lt.mpr q)
            · exact y2 (eq.mpr q)
          · rw [hd1]
            refine s_bitsN (by omega) (u_Wishes_isBetter_14 (s_bitsN (by omega) (u_Wishes_isBetter_18 ⟨fun y3 => ?_, fun y3 => ?_⟩)))
            · rw [← hd1]
              refine u_Wishes_sentAway_87 ⟨fun y => absurd rfl y, fun _ => nx ?_⟩
              intro q
              have := lb.mp y3
              rcases q with q | ⟨-, q⟩
              · exact y (lt.mpr q)
              · omega
            · rw [← hd1]
              refine u_Wishes_sentAway_87 ⟨fun _ => try1 (Or.inr ⟨eq.mp y2, ?_⟩), fun y => absurd y (by decide)⟩
              have : ¬ bt b ≤ bt m := fun q => y3 (lb.mpr q)
              omega
      · have hsub : ¬ m &&& o = m := fun q => z ((sub_iff (by omega) (by omega)).mpr q)
        rw [hokc]
        show (decide (m &&& o = m) && suc (decide (r = 1)) s (sval T n f s k m)) = false
        rw [decide_eq_false hsub, Bool.false_and]
  refine t_Wishes_sentAway (x_bg (by omega) hx (fun M1 f1 s1 g1 _ => u_Wishes_sentAway_11 (s_comeBy (s := s) (by omega) isCr1 s1.1 hok (by omega) (u_Wishes_sentAway_19 ?_))))
  have W := loop (o + 1) 0 M1 none (by omega) f1 s1 ⟨g1.cr, g1.cc⟩ (fun e he => by omega)
  rw [sI_one (by omega), sI_andn]
  have e5 : sI (fun p => (decide (p < n) && decide (f 1 p ≤ s)) && !(p == k)) = nI o := by rw [ho]; exact oth_sI (by omega)
  rw [e5]
  exact W
end E37
