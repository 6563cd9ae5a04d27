def iMl : List (Nat → Int32) := [fun _ => 0, fun j => if j = 3 then 1 else 0, fun _ => 0, fun _ => 0, fun _ => 0, fun _ => 0, fun _ => 0, fun _ => 0, fun _ => 0, fun _ => 0, fun _ => 0, fun _ => 0, fun _ => 0, fun _ => 0, fun _ => 0, fun _ => 0, fun j => if j = 3 then 1 else 0, fun _ => 0, fun _ => 0, fun _ => 0, fun _ => 0, fun _ => 0, i1_Shelves.1 1, i1_Shelves.1 2, i1_Shelves.1 3, fun _ => 0, fun _ => 0, fun j => if j = 6 then i1_Deed.1 0 6 else 0, i1_Deed.1 1, i1_Deed.1 2, i1_Deed.1 3, i1_Deed.1 4, fun _ => 0, fun _ => 0, fun _ => 0, fun _ => 0, fun _ => 0, fun _ => 0, fun _ => 0, fun _ => 0, i1_Md.1 0, i1_Md.1 1, i1_Md.1 2, i1_Md.1 3, i1_Md.1 4, i1_Md.1 5, i1_Md.1 6, i1_Md.1 7, i1_Md.1 8, i1_Md.1 9, i1_Md.1 10, i1_Md.1 11, i1_Md.1 12, i1_Md.1 13, i1_Md.1 14, i1_Md.1 15, i1_Md.1 16, i1_Md.1 17, i1_Md.1 18]
def iM : AM := (fun a => iMl.getD a (fun _ => 0), fun a => if a = 25 then i1_Shelves.2 4 else if a = 59 then i1_Md.2 19 else if a = 60 then i1_Md.2 20 else fun _ => 0)
theorem i_fl {M : AM} {a n d : Nat} {v : Int32} (h : d < n) : (am_fl M a n v).1 a d = v := by
  unfold am_fl am_ur
  simp [h]
theorem iM_57 {d : Nat} (h : d < 6) : iM.1 57 d = -1 := by
  show i1_Md.1 17 d = -1
  have e : i1_Md.1 17 d = (am_fl i0_Md 17 6 (-1)).1 17 d := by simp [i1_Md, am_fl, am_wi, am_ur, am_up]
  rw [e, i_fl h]
theorem iM_45 {d : Nat} (h : d < 12) : iM.1 45 d = -2 := i_fl (M := am_wi (am_fl i0_Md 17 6 (-1)) 0 13 (-1)) (a := 5) h
theorem iM_22 {d : Nat} (h : d < 6) : iM.1 22 d = -1 := by
  show i1_Shelves.1 1 d = -1
  have e : i1_Shelves.1 1 d = (am_fl i0_Shelves 1 6 (-1)).1 1 d := by simp [i1_Shelves, am_fl, am_ur]
  rw [e, i_fl h]
theorem iM_23 {d : Nat} (h : d < 6) : iM.1 23 d = -1 := i_fl (M := am_fl i0_Shelves 1 6 (-1)) (a := 2) h
theorem iM_29 {d : Nat} (h : d < 12) : iM.1 29 d = -2 := i_fl (M := i0_Deed) (a := 2) h
theorem iM_S : sI (fun _ : Nat => false) = 0 := by decide +kernel
theorem iM_ok : Inv iM := by
  refine ⟨0, fun _ _ => 0, fun nm => nm 0 + nm 1, 0, ⟨⟨by decide +kernel, by omega, fun _ _ _ h => absurd h (Nat.not_lt_zero _)⟩, Or.inl (by decide +kernel), by omega, fun _ h => absurd h (Nat.not_lt_zero _), by decide +kernel, by omega, fun _ _ _ h => absurd h (Nat.not_lt_zero _)⟩, ⟨⟨0, by decide +kernel, by omega, fun _ h => absurd h (Nat.not_lt_zero _), fun nm => (if_pos rfl).symm⟩, Or.inl ⟨by decide +kernel, rfl⟩⟩, ⟨0, fun _ => 0, by omega, by decide +kernel, by decide +kernel, fun _ h => absurd h (Nat.not_lt_zero _), fun _ h => absurd h (Nat.not_lt_zero _)⟩, ⟨0, 0, fun _ => 0, fun _ => 0, fun _ => 0, fun _ => 0, by omega, by omega, by decide +kernel, by decide +kernel, by decide +kernel, by decide +kernel, fun _ h => absurd h (Nat.not_lt_zero _)⟩, ⟨⟨0, fun _ => none, fun _ => false, by omega, by decide +kernel, by decide +kernel, by decide +kernel, by decide +kernel, by decide +kernel, by decide +kernel, by decide +kernel, by decide +kernel, by decide +kernel, by decide +kernel, fun _ _ => rfl, fun _ _ h => (by cases h), fun p hp => ⟨iM_29 hp, iM_45 hp⟩⟩, false, by decide +kernel, by decide +kernel, fun h => (by cases h)⟩, ⟨by omega, by decide +kernel, by decide +kernel, ⟨fun _ => 0, fun _ h => absurd h (Nat.not_lt_zero _)⟩, 0, by decide, by decide +kernel, by decide +kernel, fun _ h => absurd h (Nat.not_lt_zero _)⟩, fun d hd => Or.inl ⟨iM_57 hd, iM_22 hd, iM_23 hd⟩, by decide +kernel⟩
