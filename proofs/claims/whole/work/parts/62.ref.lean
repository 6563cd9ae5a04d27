/-! ===== the reference: frames; how it reads a text ===== -/
def fs (K J : List Nat) (M M' : AM) : Prop := (∀ b, b ∉ K → b ≠ 40 → M'.1 b = M.1 b) ∧ (∀ j, j ∉ J → M'.1 40 j = M.1 40 j) ∧ (∀ b, b ∉ K → M'.2 b = M.2 b)
theorem fs.rf {K J : List Nat} {M : AM} : fs K J M M := ⟨fun _ _ _ => rfl, fun _ _ => rfl, fun _ _ => rfl⟩
theorem fs.tr {K K1 K2 J J1 J2 : List Nat} {M M1 M2 : AM} (h1 : fs K1 J1 M M1) (h2 : fs K2 J2 M1 M2) (k1 : ∀ b ∈ K1, b ∈ K) (k2 : ∀ b ∈ K2, b ∈ K) (j1 : ∀ b ∈ J1, b ∈ J) (j2 : ∀ b ∈ J2, b ∈ J) : fs K J M M2 :=
  ⟨fun b hb h => (h2.1 b (fun z => hb (k2 b z)) h).trans (h1.1 b (fun z => hb (k1 b z)) h), fun j hj => (h2.2.1 j (fun z => hj (j2 j z))).trans (h1.2.1 j (fun z => hj (j1 j z))), fun b hb => (h2.2.2 b (fun z => hb (k2 b z))).trans (h1.2.2 b (fun z => hb (k1 b z)))⟩
theorem fs.tt {K J : List Nat} {M M1 M2 : AM} (h1 : fs K J M M1) (h2 : fs K J M1 M2) : fs K J M M2 := fs.tr h1 h2 (fun _ h => h) (fun _ h => h) (fun _ h => h) (fun _ h => h)
theorem fs.to {K K' J J' : List Nat} {M M1 : AM} (h : fs K J M M1) (k : ∀ b ∈ K, b ∈ K') (j : ∀ b ∈ J, b ∈ J') : fs K' J' M M1 := fs.tr h (fs.rf (K := []) (J := [])) k (by simp) j (by simp)
theorem fs.s {K J : List Nat} {M M1 : AM} {j : Nat} {v : Int32} (h : fs K J M M1) (hj : j ∈ J) : fs K J M (am_wi M1 40 j v) :=
  ⟨fun b hb h4 => by rw [wi_ne h4]; exact h.1 b hb h4, fun i hi => by rw [wi_sl (fun z => hi (by rw [z]; exact hj))]; exact h.2.1 i hi, h.2.2⟩
theorem fs.c {K J : List Nat} {M M1 : AM} {a j : Nat} {v : Int32} (h : fs K J M M1) (ha : a ∈ K) (h40 : a ≠ 40) : fs K J M (am_wi M1 a j v) :=
  ⟨fun b hb h4 => by rw [wi_ne (fun z => hb (by rw [z]; exact ha))]; exact h.1 b hb h4, fun i hi => by rw [wi_ne (Ne.symm h40)]; exact h.2.1 i hi, h.2.2⟩
theorem fs.i {K J : List Nat} {M M1 : AM} (h : fs K J M M1) (b : Nat) (hb : b ∉ K := by decide) (h4 : b ≠ 40 := by decide) : M1.1 b = M.1 b := h.1 b hb h4
theorem fs.j {K J : List Nat} {M M1 : AM} (h : fs K J M M1) (j : Nat) (hj : j ∉ J := by decide) : M1.1 40 j = M.1 40 j := h.2.1 j hj
def tpM (e : Nat) (tp : Nat → Int32) (M : AM) : Prop := (M.1 40 14 = -1 ∧ ∀ i, i < e → M.1 46 i = tp i) ∨ (M.1 40 14 = nI 0 ∧ ∀ i, i < e → M.1 47 i = tp i)
def rfM (e : Nat) (tp : Nat → Int32) (i : Nat) (nm : Nat → Int32) (M : AM) : Prop := M.1 40 16 = nI e ∧ M.1 40 15 = nI i ∧ tpM e tp M ∧ ∀ k, k < 6 → M.1 48 k = nm k
abbrev fJ : List Nat := [15, 17, 18]
def okM (o : Nat) (nm : Nat → Int32) (b : Bool) (j : Nat) (v : PV) (M M' : AM) (y : Int32) : Prop := fs [] fJ M M' ∧ M'.1 40 15 = nI j ∧ (b = true → M'.1 40 17 = -1 ∧ M'.1 40 18 = nI o ∧ y = v nm) ∧ (b = false → M'.1 40 17 = nI j)
theorem tpM.keep {e : Nat} {tp : Nat → Int32} {J : List Nat} {M M' : AM} (h : tpM e tp M) (hf : fs [] J M M') (hJ : 14 ∉ J) : tpM e tp M' := by
  unfold tpM at h ⊢
  rw [hf.j 14 hJ, hf.i 46, hf.i 47]
  exact h
theorem rfM.go {e i : Nat} {tp nm : Nat → Int32} {M : AM} (h : rfM e tp i nm M) : rfM e tp (i + 1) nm (am_wi M 40 15 (nI (i + 1))) :=
  ⟨by rw [wi_sl (by decide)]; exact h.1, wi_eq, h.2.2.1.keep (J := fJ) (fs.s (fs.rf) (by decide)) (by decide), fun k hk => by rw [wi_ne (by decide)]; exact h.2.2.2 k hk⟩
theorem rfM.at {e i j : Nat} {tp nm : Nat → Int32} {M M' : AM} (h : rfM e tp i nm M) (hf : fs [] fJ M M') (hj : M'.1 40 15 = nI j) : rfM e tp j nm M' :=
  ⟨by rw [hf.j 16]; exact h.1, hj, h.2.2.1.keep hf (by decide), fun k hk => by rw [hf.i 48]; exact h.2.2.2 k hk⟩
theorem rk3 {c : Int32} (h : rkO c = 3) : c = 43 ∨ c = 45 := by
  unfold rkO at h
  repeat' split at h
  all_goals first | assumption | omega
theorem rk4 {c : Int32} (h : rkO c = 4) : c = 42 ∨ c = 47 ∨ c = 37 := by
  unfold rkO at h
  repeat' split at h
  all_goals first | assumption | omega
theorem rk2 {c : Int32} (h : rkO c = 2) : c = 60 ∨ c = 61 ∨ c = 62 := by
  unfold rkO at h
  repeat' split at h
  all_goals first | assumption | omega
theorem rk0 {c : Int32} : rkO c = 0 ↔ c = 124 := by
  refine ⟨fun h => ?_, fun h => by subst h; decide⟩
  unfold rkO at h
  repeat' split at h
  all_goals first | assumption | omega
theorem rk1 {c : Int32} : rkO c = 1 ↔ c = 38 := by
  refine ⟨fun h => ?_, fun h => by subst h; decide⟩
  unfold rkO at h
  repeat' split at h
  all_goals first | assumption | omega
section SM
variable {L : Nat} {xs : Nat → Int32} {d : Nat} {Q : AQ} {M : AM} {e i : Nat} {tp nm : Nat → Int32}
theorem s_byteAt (he : e ≤ 120) (hi : i ≤ e) (hR : rfM e tp i nm M) (k : Q (some (.int (chT tp e i))) M) : am_Call (gG L xs) (d + 1) c_Md_byteAt [.ref 40] M Q := by
  obtain ⟨h16, h15, hT, -⟩ := hR
  refine t_Md_byteAt ?_
  by_cases hie : i < e
  · have h1 : ¬ nI e ≤ nI i := nI_ge hie (by omega)
    have hv : i < 120 := by omega
    have h0 := chT_lt (tp := tp) hie
    (try simp only [h0] at k)
    rcases hT with ⟨hb, ht⟩ | ⟨hb, ht⟩
    · have ht := ht i hie
      simp (disch := omega) only [h15, h16, hb, h1, hv, n_vp, n_cl, ht, c_0lem1, nI_1, not_true_eq_false, not_false_eq_true, false_implies, true_implies, and_true, true_and]
      exact k
    · have ht := ht i hie
      simp (disch := omega) only [h15, h16, hb, h1, hv, nI_add, Nat.zero_add, n_vp, n_cl, ht, nl_ge0, c_0lem1, nI_1, not_true_eq_false, not_false_eq_true, false_implies, true_implies, and_true, true_and]
      exact k
  · have h1 : nI e ≤ nI i := nI_le (by omega) (by omega)
    have h0 := chT_ge (tp := tp) (Nat.le_of_not_lt hie)
    (try simp only [h0] at k)
    simp (disch := omega) only [h15, h16, h1, c_0lem1, not_true_eq_false, not_false_eq_true, false_implies, true_implies, and_true, true_and]
    exact k
theorem w_either_5 {x : Int32} (he : e ≤ 120) (hi : i ≤ e) (hR : rfM e tp i nm M) (h17 : M.1 40 17 = -1) (k1 : chT tp e i = 124 → am_Call (gG L xs) (d + 2) c_Md_both [.ref 40] (am_wi M 40 15 (nI (i + 1))) (fun r M' => v_Md_either L xs (d + 2) Q 18 [(0, .ref 40), (1, .int x)] (r.toList ++ []) M')) (k2 : ¬ chT tp e i = 124 → Q (some (.int x)) M) : v_Md_either L xs (d + 2) Q 5 [(0, .ref 40), (1, .int x)] [] M := by
  obtain ⟨h16, h15, hT, -⟩ := hR
  refine u_Md_either_5 ?_
  by_cases hie : i < e
  · have h1 : ¬ nI e ≤ nI i := nI_ge hie (by omega)
    have hv : i < 120 := by omega
    have h0 := chT_lt (tp := tp) hie
    (try simp only [h0] at k1 k2)
    rcases hT with ⟨hb, ht⟩ | ⟨hb, ht⟩
    · have ht := ht i hie
      simp (disch := omega) only [h15, h16, h17, hb, h1, hv, n_vp, n_cl, ht, c_0lem1, nI_1, not_true_eq_false, not_false_eq_true, false_implies, true_implies, and_true, true_and]
      exact ⟨k1, k2⟩
    · have ht := ht i hie
      simp (disch := omega) only [h15, h16, h17, hb, h1, hv, nI_add, Nat.zero_add, n_vp, n_cl, ht, nl_ge0, c_0lem1, nI_1, not_true_eq_false, not_false_eq_true, false_implies, true_implies, and_true, true_and]
      exact ⟨k1, k2⟩
  · have h1 : nI e ≤ nI i := nI_le (by omega) (by omega)
    have h0 := chT_ge (tp := tp) (Nat.le_of_not_lt hie)
    (try simp only [h0] at k1 k2)
    simp (disch := omega) only [h15, h16, h17, h1, c_0lem1, not_true_eq_false, not_false_eq_true, false_implies, true_implies, and_true, true_and]
    exact k2 (by decide)
theorem w_both_5 {x : Int32} (he : e ≤ 120) (hi : i ≤ e) (hR : rfM e tp i nm M) (h17 : M.1 40 17 = -1) (k1 : chT tp e i = 38 → am_Call (gG L xs) (d + 2) c_Md_compared [.ref 40] (am_wi M 40 15 (nI (i + 1))) (fun r M' => v_Md_both L xs (d + 2) Q 18 [(0, .ref 40), (1, .int x)] (r.toList ++ []) M')) (k2 : ¬ chT tp e i = 38 → Q (some (.int x)) M) : v_Md_both L xs (d + 2) Q 5 [(0, .ref 40), (1, .int x)] [] M := by
  obtain ⟨h16, h15, hT, -⟩ := hR
  refine u_Md_both_5 ?_
  by_cases hie : i < e
  · have h1 : ¬ nI e ≤ nI i := nI_ge hie (by omega)
    have hv : i < 120 := by omega
    have h0 := chT_lt (tp := tp) hie
    (try simp only [h0] at k1 k2)
    rcases hT with ⟨hb, ht⟩ | ⟨hb, ht⟩
    · have ht := ht i hie
      simp (disch := omega) only [h15, h16, h17, hb, h1, hv, n_vp, n_cl, ht, c_0lem1, nI_1, not_true_eq_false, not_false_eq_true, false_implies, true_implies, and_true, true_and]
      exact ⟨k1, k2⟩
    · have ht := ht i hie
      simp (disch := omega) only [h15, h16, h17, hb, h1, hv, nI_add, Nat.zero_add, n_vp, n_cl, ht, nl_ge0, c_0lem1, nI_1, not_true_eq_false, not_false_eq_true, false_implies, true_implies, and_true, true_and]
      exact ⟨k1, k2⟩
  · have h1 : nI e ≤ nI i := nI_le (by omega) (by omega)
    have h0 := chT_ge (tp := tp) (Nat.le_of_not_lt hie)
    (try simp only [h0] at k1 k2)
    simp (disch := omega) only [h15, h16, h17, h1, c_0lem1, not_true_eq_false, not_false_eq_true, false_implies, true_implies, and_true, true_and]
    exact k2 (by decide)
theorem w_sums_5 {x : Int32} (he : e ≤ 120) (hi : i ≤ e) (hR : rfM e tp i nm M) (h17 : M.1 40 17 = -1) (k1 : rkO (chT tp e i) = 3 → am_Call (gG L xs) (d + 1) c_Md_product [.ref 40] (am_wi M 40 15 (nI (i + 1))) (fun r M' => v_Md_sums L xs (d + 1) Q 59 [(0, .ref 40), (1, .int x), (2, .int (if chT tp e i = 43 then 1 else 0))] (r.toList ++ []) M')) (k2 : ¬ rkO (chT tp e i) = 3 → Q (some (.int x)) M) : v_Md_sums L xs (d + 1) Q 5 [(0, .ref 40), (1, .int x)] [] M := by
  obtain ⟨h16, h15, hT, -⟩ := hR
  refine u_Md_sums_5 ?_
  by_cases hie : i < e
  · have h1 : ¬ nI e ≤ nI i := nI_ge hie (by omega)
    have hv : i < 120 := by omega
    have h0 := chT_lt (tp := tp) hie
    (try simp only [h0] at k1 k2)
    rcases hT with ⟨hb, ht⟩ | ⟨hb, ht⟩
    · have ht := ht i hie
      simp (disch := omega) only [h15, h16, h17, hb, h1, hv, n_vp, n_cl, ht, c_0lem1, nI_1, not_true_eq_false, not_false_eq_true, false_implies, true_implies, and_true, true_and]
      exact ⟨fun h => by rw [h] at k1; exact k1 (by decide), fun h => ⟨fun h2 => k2 (fun z => (rk3 z).elim h h2), fun h2 => by rw [h2] at k1; exact k1 (by decide)⟩⟩
    · have ht := ht i hie
      simp (disch := omega) only [h15, h16, h17, hb, h1, hv, nI_add, Nat.zero_add, n_vp, n_cl, ht, nl_ge0, c_0lem1, nI_1, not_true_eq_false, not_false_eq_true, false_implies, true_implies, and_true, true_and]
      exact ⟨fun h => by rw [h] at k1; exact k1 (by decide), fun h => ⟨fun h2 => k2 (fun z => (rk3 z).elim h h2), fun h2 => by rw [h2] at k1; exact k1 (by decide)⟩⟩
  · have h1 : nI e ≤ nI i := nI_le (by omega) (by omega)
    have h0 := chT_ge (tp := tp) (Nat.le_of_not_lt hie)
    (try simp only [h0] at k1 k2)
    simp (disch := omega) only [h15, h16, h17, h1, c_0lem1, not_true_eq_false, not_false_eq_true, false_implies, true_implies, and_true, true_and]
    exact k2 (by decide)
theorem w_product_4 {x : Int32} (he : e ≤ 120) (hi : i ≤ e) (hR : rfM e tp i nm M) (k : v_Md_product L xs (d + 1) Q 10 [(0, .ref 40), (1, .int x), (2, .int (chT tp e i))] [] M) : v_Md_product L xs (d + 1) Q 4 [(0, .ref 40)] [.int x] M := by
  obtain ⟨h16, h15, hT, -⟩ := hR
  refine u_Md_product_4 ?_
  by_cases hie : i < e
  · have h1 : ¬ nI e ≤ nI i := nI_ge hie (by omega)
    have hv : i < 120 := by omega
    have h0 := chT_lt (tp := tp) hie
    (try simp only [h0] at k)
    rcases hT with ⟨hb, ht⟩ | ⟨hb, ht⟩
    · have ht := ht i hie
      simp (disch := omega) only [h15, h16, hb, h1, hv, n_vp, n_cl, ht, c_0lem1, nI_1, not_true_eq_false, not_false_eq_true, false_implies, true_implies, and_true, true_and]
      exact k
    · have ht := ht i hie
      simp (disch := omega) only [h15, h16, hb, h1, hv, nI_add, Nat.zero_add, n_vp, n_cl, ht, nl_ge0, c_0lem1, nI_1, not_true_eq_false, not_false_eq_true, false_implies, true_implies, and_true, true_and]
      exact k
  · have h1 : nI e ≤ nI i := nI_le (by omega) (by omega)
    have h0 := chT_ge (tp := tp) (Nat.le_of_not_lt hie)
    (try simp only [h0] at k)
    simp (disch := omega) only [h15, h16, h1, c_0lem1, not_true_eq_false, not_false_eq_true, false_implies, true_implies, and_true, true_and]
    exact k
theorem w_product_49 {x c w : Int32} (he : e ≤ 120) (hi : i ≤ e) (hR : rfM e tp i nm M) (hc : rkO c = 4) (k : v_Md_product L xs (d + 1) Q 10 [(0, .ref 40), (1, .int (lwJ c x w)), (2, .int (chT tp e i))] [] M) : v_Md_product L xs (d + 1) Q 49 [(0, .ref 40), (1, .int x), (2, .int c)] [.int w] M := by
  obtain ⟨h16, h15, hT, -⟩ := hR
  refine u_Md_product_49 ?_
  have f42 : c = 42 → lwJ c x w = x * w := fun h => by subst h; rfl
  have f0 : ¬ c = 42 → w = 0 → lwJ c x w = 0 := fun h h2 => by
    rcases rk4 hc with z | z | z
    · exact absurd z h
    · subst z; rw [h2]; rfl
    · subst z; rw [h2]; rfl
  have f47 : ¬ w = 0 → c = 47 → lwJ c x w = x / w := fun h h2 => by subst h2; simp [lwJ, h]
  have f37 : ¬ c = 42 → ¬ w = 0 → ¬ c = 47 → lwJ c x w = irem x w := fun h h2 h3 => by
    rcases rk4 hc with z | z | z
    · exact absurd z h
    · exact absurd z h3
    · subst z; simp [lwJ, h2]
  by_cases hie : i < e
  · have h1 : ¬ nI e ≤ nI i := nI_ge hie (by omega)
    have hv : i < 120 := by omega
    have h0 := chT_lt (tp := tp) hie
    (try simp only [h0] at k)
    rcases hT with ⟨hb, ht⟩ | ⟨hb, ht⟩
    · have ht := ht i hie
      simp (disch := omega) only [h15, h16, hb, h1, hv, n_vp, n_cl, ht, c_0lem1, nI_1, not_true_eq_false, not_false_eq_true, false_implies, true_implies, and_true, true_and]
      exact ⟨fun n => ⟨fun n0 => ⟨fun n1 => by rw [← f37 n n0 n1]; exact k, fun n1 => by rw [← f47 n0 n1]; exact k⟩, fun n0 => by rw [f0 n n0] at k; exact k⟩, fun n => by rw [← f42 n]; exact k⟩
    · have ht := ht i hie
      simp (disch := omega) only [h15, h16, hb, h1, hv, nI_add, Nat.zero_add, n_vp, n_cl, ht, nl_ge0, c_0lem1, nI_1, not_true_eq_false, not_false_eq_true, false_implies, true_implies, and_true, true_and]
      exact ⟨fun n => ⟨fun n0 => ⟨fun n1 => by rw [← f37 n n0 n1]; exact k, fun n1 => by rw [← f47 n0 n1]; exact k⟩, fun n0 => by rw [f0 n n0] at k; exact k⟩, fun n => by rw [← f42 n]; exact k⟩
  · have h1 : nI e ≤ nI i := nI_le (by omega) (by omega)
    have h0 := chT_ge (tp := tp) (Nat.le_of_not_lt hie)
    (try simp only [h0] at k)
    simp (disch := omega) only [h15, h16, h1, c_0lem1, not_true_eq_false, not_false_eq_true, false_implies, true_implies, and_true, true_and]
    exact ⟨fun n => ⟨fun n0 => ⟨fun n1 => by rw [← f37 n n0 n1]; exact k, fun n1 => by rw [← f47 n0 n1]; exact k⟩, fun n0 => by rw [f0 n n0] at k; exact k⟩, fun n => by rw [← f42 n]; exact k⟩
theorem w_compared_4 {x : Int32} (he : e ≤ 120) (hi : i ≤ e) (hR : rfM e tp i nm M) (h17 : M.1 40 17 = -1) (k1 : rkO (chT tp e i) = 2 → am_Call (gG L xs) (d + 1) c_Md_sums [.ref 40] (am_wi M 40 15 (nI (i + 1))) (fun r M' => v_Md_compared L xs (d + 1) Q 51 [(1, .int x), (2, .int (chT tp e i))] (r.toList ++ []) M')) (k2 : ¬ rkO (chT tp e i) = 2 → Q (some (.int x)) M) : v_Md_compared L xs (d + 1) Q 4 [(0, .ref 40)] [.int x] M := by
  obtain ⟨h16, h15, hT, -⟩ := hR
  refine u_Md_compared_4 ?_
  by_cases hie : i < e
  · have h1 : ¬ nI e ≤ nI i := nI_ge hie (by omega)
    have hv : i < 120 := by omega
    have h0 := chT_lt (tp := tp) hie
    (try simp only [h0] at k1 k2)
    rcases hT with ⟨hb, ht⟩ | ⟨hb, ht⟩
    · have ht := ht i hie
      simp (disch := omega) only [h15, h16, h17, hb, h1, hv, n_vp, n_cl, ht, c_0lem1, nI_1, not_true_eq_false, not_false_eq_true, false_implies, true_implies, and_true, true_and]
      exact ⟨fun h => k1 (by rw [h]; decide), fun h => ⟨fun h2 => k1 (by rw [h2]; decide), fun h2 => ⟨fun h3 => k1 (by rw [h3]; decide), fun h3 => k2 (fun z => (rk2 z).elim h (fun z => z.elim h2 h3))⟩⟩⟩
    · have ht := ht i hie
      simp (disch := omega) only [h15, h16, h17, hb, h1, hv, nI_add, Nat.zero_add, n_vp, n_cl, ht, nl_ge0, c_0lem1, nI_1, not_true_eq_false, not_false_eq_true, false_implies, true_implies, and_true, true_and]
      exact ⟨fun h => k1 (by rw [h]; decide), fun h => ⟨fun h2 => k1 (by rw [h2]; decide), fun h2 => ⟨fun h3 => k1 (by rw [h3]; decide), fun h3 => k2 (fun z => (rk2 z).elim h (fun z => z.elim h2 h3))⟩⟩⟩
  · have h1 : nI e ≤ nI i := nI_le (by omega) (by omega)
    have h0 := chT_ge (tp := tp) (Nat.le_of_not_lt hie)
    (try simp only [h0] at k1 k2)
    simp (disch := omega) only [h15, h16, h17, h1, c_0lem1, not_true_eq_false, not_false_eq_true, false_implies, true_implies, and_true, true_and]
    exact k2 (by decide)
/-- after a fault -/
theorem w_compared_4f {x : Int32} {j : Nat} (he : e ≤ 120) (hi : i ≤ e) (hR : rfM e tp i nm M) (h17 : M.1 40 17 = nI j) (hj : j ≤ 120) (k2 : Q (some (.int x)) M) : v_Md_compared L xs (d + 1) Q 4 [(0, .ref 40)] [.int x] M := by
  obtain ⟨h16, h15, hT, -⟩ := hR
  refine u_Md_compared_4 ?_
  by_cases hie : i < e
  · have h1 : ¬ nI e ≤ nI i := nI_ge hie (by omega)
    have hv : i < 120 := by omega
    have h0 := chT_lt (tp := tp) hie
    (try simp only [h0] at k2)
    rcases hT with ⟨hb, ht⟩ | ⟨hb, ht⟩
    · have ht := ht i hie
      simp (disch := omega) only [h15, h16, h17, hb, h1, hv, n_vp, n_cl, ht, c_0lem1, nI_1, not_true_eq_false, not_false_eq_true, false_implies, true_implies, and_true, true_and, nl_ge0]
      exact k2
    · have ht := ht i hie
      simp (disch := omega) only [h15, h16, h17, hb, h1, hv, nI_add, Nat.zero_add, n_vp, n_cl, ht, nl_ge0, c_0lem1, nI_1, not_true_eq_false, not_false_eq_true, false_implies, true_implies, and_true, true_and, nl_ge0]
      exact k2
  · have h1 : nI e ≤ nI i := nI_le (by omega) (by omega)
    have h0 := chT_ge (tp := tp) (Nat.le_of_not_lt hie)
    (try simp only [h0] at k2)
    simp (disch := omega) only [h15, h16, h17, h1, c_0lem1, not_true_eq_false, not_false_eq_true, false_implies, true_implies, and_true, true_and, nl_ge0]
    exact k2
theorem w_one_176 {x : Int32} {q : Nat} (he : e ≤ 120) (hi : i ≤ e) (hR : rfM e tp i nm M) (h17 : M.1 40 17 = -1) (hq : q ≤ 4) (k1 : q < 4 → dig (chT tp e i) = true → v_Md_one L xs (d + 1) Q 176 [(0, .ref 40), (3, .int (x * 10 + (chT tp e i - 48))), (4, .int (nI (q + 1)))] [] (am_wi M 40 15 (nI (i + 1)))) (k2 : q = 4 ∨ dig (chT tp e i) = false → 0 < q → Q (some (.int x)) M) (k3 : q = 0 → dig (chT tp e i) = false → Q (some (.int 0)) (am_wi M 40 17 (nI i))) : v_Md_one L xs (d + 1) Q 176 [(0, .ref 40), (3, .int x), (4, .int (nI q))] [] M := by
  obtain ⟨h16, h15, hT, -⟩ := hR
  refine u_Md_one_176 ?_
  have q4 : (4 ≤ nI q) = (4 ≤ q) := propext (n_leI (a := 4) (by decide) (by omega))
  have q0 : (nI q = 0) = (q = 0) := propext (nI_eq (b := 0) (by omega) (by decide))
  have e10 : ∀ c : Int32, 10 * x + c - 48 = x * 10 + (c - 48) := fun c => by rw [Int32.sub_eq_add_neg, Int32.sub_eq_add_neg, Int32.add_assoc, Int32.mul_comm]
  have dg : ∀ c : Int32, (c < 48 ∨ 57 < c) → dig c = false := fun c h => by
    cases z : dig c with
    | false => rfl
    | true => exact absurd h (fun w => w.elim (dig_iff.mp z).1 (dig_iff.mp z).2)
  by_cases hie : i < e
  · have h1 : ¬ nI e ≤ nI i := nI_ge hie (by omega)
    have hv : i < 120 := by omega
    have h0 := chT_lt (tp := tp) hie
    (try simp only [h0] at k1 k2 k3)
    rcases hT with ⟨hb, ht⟩ | ⟨hb, ht⟩
    · have ht := ht i hie
      simp (disch := omega) only [h15, h16, h17, q4, q0, e10, hb, h1, hv, n_vp, n_cl, ht, c_0lem1, nI_1, not_true_eq_false, not_false_eq_true, false_implies, true_implies, and_true, true_and]
      refine ⟨fun a => ⟨fun b => k2 (Or.inl (by omega)) (by omega), fun b => absurd b (by omega)⟩, fun a => ⟨fun b => ⟨fun c => k2 (Or.inr (dg _ (Or.inl b))) (by omega), fun c => k3 c (dg _ (Or.inl b))⟩, fun b => ⟨fun c => ⟨fun c2 => k2 (Or.inr (dg _ (Or.inr c))) (by omega), fun c2 => k3 c2 (dg _ (Or.inr c))⟩, fun c => k1 (by omega) (dig_iff.mpr ⟨b, c⟩)⟩⟩⟩
    · have ht := ht i hie
      simp (disch := omega) only [h15, h16, h17, q4, q0, e10, hb, h1, hv, nI_add, Nat.zero_add, n_vp, n_cl, ht, nl_ge0, c_0lem1, nI_1, not_true_eq_false, not_false_eq_true, false_implies, true_implies, and_true, true_and]
      refine ⟨fun a => ⟨fun b => k2 (Or.inl (by omega)) (by omega), fun b => absurd b (by omega)⟩, fun a => ⟨fun b => ⟨fun c => k2 (Or.inr (dg _ (Or.inl b))) (by omega), fun c => k3 c (dg _ (Or.inl b))⟩, fun b => ⟨fun c => ⟨fun c2 => k2 (Or.inr (dg _ (Or.inr c))) (by omega), fun c2 => k3 c2 (dg _ (Or.inr c))⟩, fun c => k1 (by omega) (dig_iff.mpr ⟨b, c⟩)⟩⟩⟩
  · have h1 : nI e ≤ nI i := nI_le (by omega) (by omega)
    have h0 := chT_ge (tp := tp) (Nat.le_of_not_lt hie)
    (try simp only [h0] at k1 k2 k3)
    simp (disch := omega) only [h15, h16, h17, q4, q0, e10, h1, c_0lem1, not_true_eq_false, not_false_eq_true, false_implies, true_implies, and_true, true_and]
    exact ⟨fun a => ⟨fun b => k2 (Or.inl (by omega)) (by omega), fun b => absurd b (by omega)⟩, fun a => ⟨fun b => k2 (Or.inr (by decide)) (by omega), fun b => k3 b (by decide)⟩⟩
theorem w_one_paren {x : Int32} {o : Nat} (he : e ≤ 120) (hi : i ≤ e) (hR : rfM e tp i nm M) (h17 : M.1 40 17 = -1) (h18 : M.1 40 18 = nI (o + 1)) (k1 : chT tp e i = 41 → Q (some (.int x)) (am_wi (am_wi M 40 15 (nI (i + 1))) 40 18 (nI o))) (k2 : ¬ chT tp e i = 41 → Q (some (.int 0)) (am_wi M 40 17 (nI i))) : v_Md_one L xs (d + 2) Q 76 [(0, .ref 40), (1, .int 40)] [.int x] M := by
  obtain ⟨h16, h15, hT, -⟩ := hR
  refine u_Md_one_76 ⟨fun z => absurd rfl z, fun _ => ?_⟩
  have e18 : (am_wi M 40 15 (nI (i + 1))).1 40 18 - 1 = nI o := by rw [wi_sl (by decide), h18, n_top]
  by_cases hie : i < e
  · have h1 : ¬ nI e ≤ nI i := nI_ge hie (by omega)
    have hv : i < 120 := by omega
    have h0 := chT_lt (tp := tp) hie
    (try simp only [h0] at k1 k2)
    rcases hT with ⟨hb, ht⟩ | ⟨hb, ht⟩
    · have ht := ht i hie
      simp (disch := omega) only [h15, h16, h17, hb, h1, hv, n_vp, n_cl, ht, c_0lem1, nI_1, not_true_eq_false, not_false_eq_true, false_implies, true_implies, and_true, true_and]
      (first | (simp only [e18]; exact ⟨k1, k2⟩) | skip)
    · have ht := ht i hie
      simp (disch := omega) only [h15, h16, h17, hb, h1, hv, nI_add, Nat.zero_add, n_vp, n_cl, ht, nl_ge0, c_0lem1, nI_1, not_true_eq_false, not_false_eq_true, false_implies, true_implies, and_true, true_and]
      (first | (simp only [e18]; exact ⟨k1, k2⟩) | skip)
  · have h1 : nI e ≤ nI i := nI_le (by omega) (by omega)
    have h0 := chT_ge (tp := tp) (Nat.le_of_not_lt hie)
    (try simp only [h0] at k1 k2)
    simp (disch := omega) only [h15, h16, h17, h1, c_0lem1, not_true_eq_false, not_false_eq_true, false_implies, true_implies, and_true, true_and]
    exact k2 (by decide)
end SM
