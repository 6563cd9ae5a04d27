theorem iw_167 : Cond.instantiable "MiddleOne" 10 ∈ TB := tb (mt1 _ (List.mem_of_getElem? (i := 19) rfl)) rfl
theorem iw_168 : Cond.instantiable "MiddleOneModel" 50 ∈ TB := tb (mt5 _ (List.mem_of_getElem? (i := 59) rfl)) rfl
theorem wx_arr {s : State} {args : Array Value} {ty : FieldType} (hc : ∀ C, ty ≠ .object C) (h : (Cond.arrayClass ty).before args s = true) : ∃ cA, ArrOfT s cA ty ∧ va_RA s cA ty := by
  obtain ⟨cA, kA, comp, f1, f2, f3⟩ := Cond.arrayClass_spec h
  exact ⟨cA, fun N z => ⟨(fun k h => by cases h), kA, f2, comp, f3⟩, by cases ty <;> first | exact f1 | exact absurd rfl (hc _)⟩
theorem wx_K {s : State} {args : Array Value} (hts : ∀ w ∈ TB, w.before args s = true) : ∃ D cI cL, va_K D cls (am_tys cI cL) s := by
  obtain ⟨cI, hI1, hI2⟩ := wx_arr (fun _ h => by cases h) (hts _ w_arI)
  obtain ⟨cL, hL1, hL2⟩ := wx_arr (fun _ h => by cases h) (hts _ w_arL)
  obtain ⟨c0, i0, k0⟩ := u_known (C := "MiddleOne$Acts") (T := F_Acts) (N := 6) hts j_Acts (hts _ iw_162)
  obtain ⟨c1, i1, k1⟩ := u_known (C := "MiddleOne$Changes") (T := F_Changes) (N := 7) hts j_Changes (hts _ iw_155)
  obtain ⟨c2, i2, k2⟩ := u_known (C := "MiddleOne$Crowd") (T := F_Crowd) (N := 4) hts j_Crowd (hts _ iw_25)
  obtain ⟨c3, i3, k3⟩ := u_known (C := "MiddleOne$Day") (T := F_Day) (N := 7) hts j_Day (hts _ iw_120)
  obtain ⟨c4, i4, k4⟩ := u_known (C := "MiddleOne$Deed") (T := F_Deed) (N := 7) hts j_Deed (hts _ iw_148)
  obtain ⟨c5, i5, k5⟩ := u_known (C := "MiddleOne$Law") (T := F_Law) (N := 4) hts j_Law (hts _ iw_102)
  obtain ⟨c6, i6, k6⟩ := u_known (C := "MiddleOne$Picker") (T := F_Picker) (N := 3) hts j_Picker (hts _ iw_114)
  obtain ⟨c7, i7, k7⟩ := u_known (C := "MiddleOne$Reader") (T := F_Reader) (N := 6) hts j_Reader (hts _ iw_108)
  obtain ⟨c8, i8, k8⟩ := u_known (C := "MiddleOne$Seen") (T := F_Seen) (N := 3) hts j_Seen (hts _ iw_141)
  obtain ⟨c9, i9, k9⟩ := u_known (C := "MiddleOne$Shelves") (T := F_Shelves) (N := 4) hts j_Shelves (hts _ iw_134)
  obtain ⟨c10, i10, k10⟩ := u_known (C := "MiddleOne$Wishes") (T := F_Wishes) (N := 3) hts j_Wishes (hts _ iw_127)
  obtain ⟨c11, i11, k11⟩ := u_known (C := "MiddleOne") (T := F_Mo) (N := 10) hts j_Mo (hts _ iw_167)
  obtain ⟨c12, i12, k12⟩ := u_known (C := "MiddleOneModel") (T := F_Md) (N := 50) hts j_Md (hts _ iw_168)
  refine ⟨(fun c => [c0, c1, c2, c3, c4, c5, c6, c7, c8, c9, c10, c11, c12].getD c c0, fun c => [i0, i1, i2, i3, i4, i5, i6, i7, i8, i9, i10, i11, i12].getD c i0), cI, cL, fun c q h => ?_, fun k q h => ?_⟩
  · have hc : c < 13 := (List.getElem?_eq_some_iff.mp h).1
    rcases (show c = 0 ∨ c = 1 ∨ c = 2 ∨ c = 3 ∨ c = 4 ∨ c = 5 ∨ c = 6 ∨ c = 7 ∨ c = 8 ∨ c = 9 ∨ c = 10 ∨ c = 11 ∨ c = 12 by omega) with rfl | rfl | rfl | rfl | rfl | rfl | rfl | rfl | rfl | rfl | rfl | rfl | rfl
    · cases h; exact k0
    · cases h; exact k1
    · cases h; exact k2
    · cases h; exact k3
    · cases h; exact k4
    · cases h; exact k5
    · cases h; exact k6
    · cases h; exact k7
    · cases h; exact k8
    · cases h; exact k9
    · cases h; exact k10
    · cases h; exact k11
    · cases h; exact k12
  · have hk : k < 2 := (List.getElem?_eq_some_iff.mp h).1
    rcases (show k = 0 ∨ k = 1 by omega) with rfl | rfl
    · cases h; exact ⟨hI1, hI2⟩
    · cases h; exact ⟨hL1, hL2⟩
set_option maxRecDepth 100000 in
theorem wx_LEAST {s : State} {args : Array Value} {A : Nat → Prop} (htl : ∀ w ∈ lw_tbl, w.before args s = true) (hgv : (Jvm.Cond.and given_1 narrow_1).before args s = true) (hA : ∀ a : Nat, a < s.heap.size → ¬ A a) : ∃ t : Nat, va_Z "MiddleOne$Crowd" "LEAST" "[I" (.ref t) A s s.heap ∧ va_T .int t 5 (fun j => .int (sLEAST j)) A s s.heap := by
  have hs := flat_of_before _ hgv
  obtain ⟨t, h1, h2⟩ := va_Tof (N := 5) (f := fun j => .int (sLEAST j)) (tm := .static "MiddleOne$Crowd" "LEAST" "[I") (ty := .int) (A := A) (by decide) (hs _ (by decide +kernel)) (va_eqt (z := 5) (hs _ (by decide +kernel))) (fun j hj => by
    rcases (show j = 0 ∨ j = 1 ∨ j = 2 ∨ j = 3 ∨ j = 4 by omega) with rfl | rfl | rfl | rfl | rfl
    · exact va_eqt (t := Term.elem (.static "MiddleOne$Crowd" "LEAST" "[I") (.int 0)) (z := sLEAST 0) (hs _ (by decide +kernel))
    · exact va_eqt (t := Term.elem (.static "MiddleOne$Crowd" "LEAST" "[I") (.int 1)) (z := sLEAST 1) (hs _ (by decide +kernel))
    · exact va_eqt (t := Term.elem (.static "MiddleOne$Crowd" "LEAST" "[I") (.int 2)) (z := sLEAST 2) (hs _ (by decide +kernel))
    · exact va_eqt (t := Term.elem (.static "MiddleOne$Crowd" "LEAST" "[I") (.int 3)) (z := sLEAST 3) (hs _ (by decide +kernel))
    · exact va_eqt (t := Term.elem (.static "MiddleOne$Crowd" "LEAST" "[I") (.int 4)) (z := sLEAST 4) (hs _ (by decide +kernel))
    ) hA
  exact ⟨t, va_Zref (htl _ (mt2 _ (List.mem_of_getElem? (i := 75) rfl))) (htl _ (mt1 _ (List.mem_of_getElem? (i := 2) rfl))) h1 hA, h2⟩
set_option maxRecDepth 100000 in
theorem wx_GREATEST {s : State} {args : Array Value} {A : Nat → Prop} (htl : ∀ w ∈ lw_tbl, w.before args s = true) (hgv : (Jvm.Cond.and given_1 narrow_1).before args s = true) (hA : ∀ a : Nat, a < s.heap.size → ¬ A a) : ∃ t : Nat, va_Z "MiddleOne$Crowd" "GREATEST" "[I" (.ref t) A s s.heap ∧ va_T .int t 5 (fun j => .int (sGREATEST j)) A s s.heap := by
  have hs := flat_of_before _ hgv
  obtain ⟨t, h1, h2⟩ := va_Tof (N := 5) (f := fun j => .int (sGREATEST j)) (tm := .static "MiddleOne$Crowd" "GREATEST" "[I") (ty := .int) (A := A) (by decide) (hs _ (by decide +kernel)) (va_eqt (z := 5) (hs _ (by decide +kernel))) (fun j hj => by
    rcases (show j = 0 ∨ j = 1 ∨ j = 2 ∨ j = 3 ∨ j = 4 by omega) with rfl | rfl | rfl | rfl | rfl
    · exact va_eqt (t := Term.elem (.static "MiddleOne$Crowd" "GREATEST" "[I") (.int 0)) (z := sGREATEST 0) (hs _ (by decide +kernel))
    · exact va_eqt (t := Term.elem (.static "MiddleOne$Crowd" "GREATEST" "[I") (.int 1)) (z := sGREATEST 1) (hs _ (by decide +kernel))
    · exact va_eqt (t := Term.elem (.static "MiddleOne$Crowd" "GREATEST" "[I") (.int 2)) (z := sGREATEST 2) (hs _ (by decide +kernel))
    · exact va_eqt (t := Term.elem (.static "MiddleOne$Crowd" "GREATEST" "[I") (.int 3)) (z := sGREATEST 3) (hs _ (by decide +kernel))
    · exact va_eqt (t := Term.elem (.static "MiddleOne$Crowd" "GREATEST" "[I") (.int 4)) (z := sGREATEST 4) (hs _ (by decide +kernel))
    ) hA
  exact ⟨t, va_Zref (htl _ (mt2 _ (List.mem_of_getElem? (i := 77) rfl))) (htl _ (mt1 _ (List.mem_of_getElem? (i := 2) rfl))) h1 hA, h2⟩
set_option maxRecDepth 100000 in
theorem wx_ABOVE {s : State} {args : Array Value} {A : Nat → Prop} (htl : ∀ w ∈ lw_tbl, w.before args s = true) (hgv : (Jvm.Cond.and given_1 narrow_1).before args s = true) (hA : ∀ a : Nat, a < s.heap.size → ¬ A a) : ∃ t : Nat, va_Z "MiddleOne$Acts" "ABOVE" "[I" (.ref t) A s s.heap ∧ va_T .int t 8 (fun j => .int (sABOVE j)) A s s.heap := by
  have hs := flat_of_before _ hgv
  obtain ⟨t, h1, h2⟩ := va_Tof (N := 8) (f := fun j => .int (sABOVE j)) (tm := .static "MiddleOne$Acts" "ABOVE" "[I") (ty := .int) (A := A) (by decide) (hs _ (by decide +kernel)) (va_eqt (z := 8) (hs _ (by decide +kernel))) (fun j hj => by
    rcases (show j = 0 ∨ j = 1 ∨ j = 2 ∨ j = 3 ∨ j = 4 ∨ j = 5 ∨ j = 6 ∨ j = 7 by omega) with rfl | rfl | rfl | rfl | rfl | rfl | rfl | rfl
    · exact va_eqt (t := Term.elem (.static "MiddleOne$Acts" "ABOVE" "[I") (.int 0)) (z := sABOVE 0) (hs _ (by decide +kernel))
    · exact va_eqt (t := Term.elem (.static "MiddleOne$Acts" "ABOVE" "[I") (.int 1)) (z := sABOVE 1) (hs _ (by decide +kernel))
    · exact va_eqt (t := Term.elem (.static "MiddleOne$Acts" "ABOVE" "[I") (.int 2)) (z := sABOVE 2) (hs _ (by decide +kernel))
    · exact va_eqt (t := Term.elem (.static "MiddleOne$Acts" "ABOVE" "[I") (.int 3)) (z := sABOVE 3) (hs _ (by decide +kernel))
    · exact va_eqt (t := Term.elem (.static "MiddleOne$Acts" "ABOVE" "[I") (.int 4)) (z := sABOVE 4) (hs _ (by decide +kernel))
    · exact va_eqt (t := Term.elem (.static "MiddleOne$Acts" "ABOVE" "[I") (.int 5)) (z := sABOVE 5) (hs _ (by decide +kernel))
    · exact va_eqt (t := Term.elem (.static "MiddleOne$Acts" "ABOVE" "[I") (.int 6)) (z := sABOVE 6) (hs _ (by decide +kernel))
    · exact va_eqt (t := Term.elem (.static "MiddleOne$Acts" "ABOVE" "[I") (.int 7)) (z := sABOVE 7) (hs _ (by decide +kernel))
    ) hA
  exact ⟨t, va_Zref (htl _ (mt4 _ (List.mem_of_getElem? (i := 196) rfl))) (htl _ (mt1 _ (List.mem_of_getElem? (i := 13) rfl))) h1 hA, h2⟩
set_option maxRecDepth 100000 in
theorem wx_BODY {s : State} {args : Array Value} {A : Nat → Prop} (htl : ∀ w ∈ lw_tbl, w.before args s = true) (hgv : (Jvm.Cond.and given_1 narrow_1).before args s = true) (hA : ∀ a : Nat, a < s.heap.size → ¬ A a) : ∃ t : Nat, va_Z "MiddleOne$Acts" "BODY" "[I" (.ref t) A s s.heap ∧ va_T .int t 32 (fun j => .int (sBODY j)) A s s.heap := by
  have hs := flat_of_before _ hgv
  obtain ⟨t, h1, h2⟩ := va_Tof (N := 32) (f := fun j => .int (sBODY j)) (tm := .static "MiddleOne$Acts" "BODY" "[I") (ty := .int) (A := A) (by decide) (hs _ (by decide +kernel)) (va_eqt (z := 32) (hs _ (by decide +kernel))) (fun j hj => by
    rcases (show j = 0 ∨ j = 1 ∨ j = 2 ∨ j = 3 ∨ j = 4 ∨ j = 5 ∨ j = 6 ∨ j = 7 ∨ j = 8 ∨ j = 9 ∨ j = 10 ∨ j = 11 ∨ j = 12 ∨ j = 13 ∨ j = 14 ∨ j = 15 ∨ j = 16 ∨ j = 17 ∨ j = 18 ∨ j = 19 ∨ j = 20 ∨ j = 21 ∨ j = 22 ∨ j = 23 ∨ j = 24 ∨ j = 25 ∨ j = 26 ∨ j = 27 ∨ j = 28 ∨ j = 29 ∨ j = 30 ∨ j = 31 by omega) with rfl | rfl | rfl | rfl | rfl | rfl | rfl | rfl | rfl | rfl | rfl | rfl | rfl | rfl | rfl | rfl | rfl | rfl | rfl | rfl | rfl | rfl | rfl | rfl | rfl | rfl | rfl | rfl | rfl | rfl | rfl | rfl
    · exact va_eqt (t := Term.elem (.static "MiddleOne$Acts" "BODY" "[I") (.int 0)) (z := sBODY 0) (hs _ (by decide +kernel))
    · exact va_eqt (t := Term.elem (.static "MiddleOne$Acts" "BODY" "[I") (.int 1)) (z := sBODY 1) (hs _ (by decide +kernel))
    · exact va_eqt (t := Term.elem (.static "MiddleOne$Acts" "BODY" "[I") (.int 2)) (z := sBODY 2) (hs _ (by decide +kernel))
    · exact va_eqt (t := Term.elem (.static "MiddleOne$Acts" "BODY" "[I") (.int 3)) (z := sBODY 3) (hs _ (by decide +kernel))
    · exact va_eqt (t := Term.elem (.static "MiddleOne$Acts" "BODY" "[I") (.int 4)) (z := sBODY 4) (hs _ (by decide +kernel))
    · exact va_eqt (t := Term.elem (.static "MiddleOne$Acts" "BODY" "[I") (.int 5)) (z := sBODY 5) (hs _ (by decide +kernel))
    · exact va_eqt (t := Term.elem (.static "MiddleOne$Acts" "BODY" "[I") (.int 6)) (z := sBODY 6) (hs _ (by decide +kernel))
    · exact va_eqt (t := Term.elem (.static "MiddleOne$Acts" "BODY" "[I") (.int 7)) (z := sBODY 7) (hs _ (by decide +kernel))
    · exact va_eqt (t := Term.elem (.static "MiddleOne$Acts" "BODY" "[I") (.int 8)) (z := sBODY 8) (hs _ (by decide +kernel))
    · exact va_eqt (t := Term.elem (.static "MiddleOne$Acts" "BODY" "[I") (.int 9)) (z := sBODY 9) (hs _ (by decide +kernel))
    · exact va_eqt (t := Term.elem (.static "MiddleOne$Acts" "BODY" "[I") (.int 10)) (z := sBODY 10) (hs _ (by decide +kernel))
    · exact va_eqt (t := Term.elem (.static "MiddleOne$Acts" "BODY" "[I") (.int 11)) (z := sBODY 11) (hs _ (by decide +kernel))
    · exact va_eqt (t := Term.elem (.static "MiddleOne$Acts" "BODY" "[I") (.int 12)) (z := sBODY 12) (hs _ (by decide +kernel))
    · exact va_eqt (t := Term.elem (.static "MiddleOne$Acts" "BODY" "[I") (.int 13)) (z := sBODY 13) (hs _ (by decide +kernel))
    · exact va_eqt (t := Term.elem (.static "MiddleOne$Acts" "BODY" "[I") (.int 14)) (z := sBODY 14) (hs _ (by decide +kernel))
    · exact va_eqt (t := Term.elem (.static "MiddleOne$Acts" "BODY" "[I") (.int 15)) (z := sBODY 15) (hs _ (by decide +kernel))
    · exact va_eqt (t := Term.elem (.static "MiddleOne$Acts" "BODY" "[I") (.int 16)) (z := sBODY 16) (hs _ (by decide +kernel))
    · exact va_eqt (t := Term.elem (.static "MiddleOne$Acts" "BODY" "[I") (.int 17)) (z := sBODY 17) (hs _ (by decide +kernel))
    · exact va_eqt (t := Term.elem (.static "MiddleOne$Acts" "BODY" "[I") (.int 18)) (z := sBODY 18) (hs _ (by decide +kernel))
    · exact va_eqt (t := Term.elem (.static "MiddleOne$Acts" "BODY" "[I") (.int 19)) (z := sBODY 19) (hs _ (by decide +kernel))
    · exact va_eqt (t := Term.elem (.static "MiddleOne$Acts" "BODY" "[I") (.int 20)) (z := sBODY 20) (hs _ (by decide +kernel))
    · exact va_eqt (t := Term.elem (.static "MiddleOne$Acts" "BODY" "[I") (.int 21)) (z := sBODY 21) (hs _ (by decide +kernel))
    · exact va_eqt (t := Term.elem (.static "MiddleOne$Acts" "BODY" "[I") (.int 22)) (z := sBODY 22) (hs _ (by decide +kernel))
    · exact va_eqt (t := Term.elem (.static "MiddleOne$Acts" "BODY" "[I") (.int 23)) (z := sBODY 23) (hs _ (by decide +kernel))
    · exact va_eqt (t := Term.elem (.static "MiddleOne$Acts" "BODY" "[I") (.int 24)) (z := sBODY 24) (hs _ (by decide +kernel))
    · exact va_eqt (t := Term.elem (.static "MiddleOne$Acts" "BODY" "[I") (.int 25)) (z := sBODY 25) (hs _ (by decide +kernel))
    · exact va_eqt (t := Term.elem (.static "MiddleOne$Acts" "BODY" "[I") (.int 26)) (z := sBODY 26) (hs _ (by decide +kernel))
    · exact va_eqt (t := Term.elem (.static "MiddleOne$Acts" "BODY" "[I") (.int 27)) (z := sBODY 27) (hs _ (by decide +kernel))
    · exact va_eqt (t := Term.elem (.static "MiddleOne$Acts" "BODY" "[I") (.int 28)) (z := sBODY 28) (hs _ (by decide +kernel))
    · exact va_eqt (t := Term.elem (.static "MiddleOne$Acts" "BODY" "[I") (.int 29)) (z := sBODY 29) (hs _ (by decide +kernel))
    · exact va_eqt (t := Term.elem (.static "MiddleOne$Acts" "BODY" "[I") (.int 30)) (z := sBODY 30) (hs _ (by decide +kernel))
    · exact va_eqt (t := Term.elem (.static "MiddleOne$Acts" "BODY" "[I") (.int 31)) (z := sBODY 31) (hs _ (by decide +kernel))
    ) hA
  exact ⟨t, va_Zref (htl _ (mt4 _ (List.mem_of_getElem? (i := 194) rfl))) (htl _ (mt1 _ (List.mem_of_getElem? (i := 13) rfl))) h1 hA, h2⟩
theorem wx_X {s : State} {A : Nat → Prop} {b L : Nat} {xs : Nat → Int32} (h : va_X b L xs s s.heap) (hb : ¬ A b) : va_T .int b L (fun j => .int (xs j)) A s s.heap := by
  obtain ⟨scr, h1, h2, h3, h4, h5⟩ := h
  exact ⟨scr, h1, h2, h3, Nat.le_of_eq h4.symm, by rw [h4], h5, hb⟩
theorem wx_St {s : State} {A : Nat → Prop} {ad : Nat → Nat} {L : Nat} {xs : Nat → Int32} {H : Heap} (z0 : va_Z "MiddleOne$Crowd" "LEAST" "[I" (.ref (ad 1000)) A s H) (t0 : va_T .int (ad 1000) 5 (fun j => .int (sLEAST j)) A s H) (z1 : va_Z "MiddleOne$Crowd" "GREATEST" "[I" (.ref (ad 1001)) A s H) (t1 : va_T .int (ad 1001) 5 (fun j => .int (sGREATEST j)) A s H) (z2 : va_Z "MiddleOne$Acts" "ABOVE" "[I" (.ref (ad 1002)) A s H) (t2 : va_T .int (ad 1002) 8 (fun j => .int (sABOVE j)) A s H) (z3 : va_Z "MiddleOne$Acts" "BODY" "[I" (.ref (ad 1003)) A s H) (t3 : va_T .int (ad 1003) 32 (fun j => .int (sBODY j)) A s H) (t4 : va_T .int (ad 1004) L (fun j => .int (xs j)) A s H) : am_St (gG L xs) gSt ad A s H := by
  refine ⟨fun q C nm h => ?_, fun q n f h => ?_⟩
  · have hm : (q, C, nm) ∈ gSt := am_lk h
    simp only [gSt, List.mem_cons, Prod.mk.injEq, List.not_mem_nil, or_false] at hm
    rcases hm with ⟨rfl, rfl, rfl⟩ | ⟨rfl, rfl, rfl⟩ | ⟨rfl, rfl, rfl⟩ | ⟨rfl, rfl, rfl⟩
    · exact z0
    · exact z1
    · exact z2
    · exact z3
  · have h2 : gSc L xs q = some (n, f) := h
    unfold gSc at h2
    by_cases q0 : q = 1000
    · subst q0; cases h2; exact t0
    rw [if_neg q0] at h2
    by_cases q1 : q = 1001
    · subst q1; cases h2; exact t1
    rw [if_neg q1] at h2
    by_cases q2 : q = 1002
    · subst q2; cases h2; exact t2
    rw [if_neg q2] at h2
    by_cases q3 : q = 1003
    · subst q3; cases h2; exact t3
    rw [if_neg q3] at h2
    by_cases q4 : q = 1004
    · subst q4; cases h2; exact t4
    rw [if_neg q4] at h2
    cases h2
theorem wx_n {s : State} {args : Array Value} (htl : ∀ w ∈ lw_tbl, w.before args s = true) : nst s := ⟨va_Nw.of rfl (htl _ (mt1 _ (List.mem_of_getElem? (i := 28) rfl))), va_Nw.of rfl (htl _ (mt1 _ (List.mem_of_getElem? (i := 48) rfl))), va_Nw.of rfl (htl _ (mt1 _ (List.mem_of_getElem? (i := 67) rfl))), va_Nw.of rfl (htl _ (mt1 _ (List.mem_of_getElem? (i := 113) rfl))), va_Nw.of rfl (htl _ (mt2 _ (List.mem_of_getElem? (i := 10) rfl)))⟩
