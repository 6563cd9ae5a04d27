theorem mt1 : ∀ w ∈ tables_1_1, w ∈ lw_tbl := fun w h => List.mem_append_right _ (List.mem_append_left _ h)
theorem mt2 : ∀ w ∈ tables_1_2, w ∈ lw_tbl := fun w h => List.mem_append_right _ (List.mem_append_right _ (List.mem_append_left _ h))
theorem mt3 : ∀ w ∈ tables_1_3, w ∈ lw_tbl := fun w h => List.mem_append_right _ (List.mem_append_right _ (List.mem_append_right _ (List.mem_append_left _ h)))
theorem mt4 : ∀ w ∈ tables_1_4, w ∈ lw_tbl := fun w h => List.mem_append_right _ (List.mem_append_right _ (List.mem_append_right _ (List.mem_append_right _ (List.mem_append_left _ h))))
theorem mt5 : ∀ w ∈ tables_1_5, w ∈ lw_tbl := fun w h => List.mem_append_right _ (List.mem_append_right _ (List.mem_append_right _ (List.mem_append_right _ (List.mem_append_right _ (List.mem_append_left _ h)))))
theorem mt6 : ∀ w ∈ tables_1_6, w ∈ lw_tbl := fun w h => List.mem_append_right _ (List.mem_append_right _ (List.mem_append_right _ (List.mem_append_right _ (List.mem_append_right _ (List.mem_append_right _ (List.mem_append_left _ h))))))
theorem mt7 : ∀ w ∈ tables_1_7, w ∈ lw_tbl := fun w h => List.mem_append_right _ (List.mem_append_right _ (List.mem_append_right _ (List.mem_append_right _ (List.mem_append_right _ (List.mem_append_right _ (List.mem_append_right _ (h)))))))
theorem am_lk {α : Type} {l : List (Nat × α)} {i : Nat} {v : α} (h : l.lookup i = some v) : (i, v) ∈ l := by
  induction l with
  | nil => cases h
  | cons q t ih =>
    obtain ⟨a, b⟩ := q
    rw [List.lookup_cons] at h
    cases hb : (i == a) with
    | true => rw [hb] at h; cases h; rw [eq_of_beq hb]; exact List.mem_cons_self
    | false => rw [hb] at h; exact List.mem_cons_of_mem _ (ih h)
theorem goodTB : ∀ w ∈ TB, goodWord w = true := fun w h => (List.mem_filter.mp h).2
section OKX
variable {L : Nat} {xs : Nat → Int32}
theorem w_0 : Cond.fieldLink "MiddleOne$Acts" 11 "MiddleOne$Acts" "kinds" "[I" ∈ TB := tb (mt2 _ (List.mem_of_getElem? (i := 14) rfl)) rfl
theorem w_1 : Cond.fieldLink "MiddleOne$Acts" 15 "MiddleOne$Acts" "count" "I" ∈ TB := tb (mt2 _ (List.mem_of_getElem? (i := 15) rfl)) rfl
theorem w_2 : Cond.fieldLink "MiddleOne$Acts" 19 "MiddleOne$Acts" "trace" "[I" ∈ TB := tb (mt2 _ (List.mem_of_getElem? (i := 16) rfl)) rfl
theorem w_3 : Cond.fieldLink "MiddleOne$Acts" 22 "MiddleOne$Acts" "ran" "I" ∈ TB := tb (mt2 _ (List.mem_of_getElem? (i := 17) rfl)) rfl
theorem w_4 : Cond.fieldLink "MiddleOne$Acts" 25 "MiddleOne$Acts" "own" "I" ∈ TB := tb (mt2 _ (List.mem_of_getElem? (i := 18) rfl)) rfl
theorem w_5 : Cond.fieldLink "MiddleOne$Acts" 28 "MiddleOne$Acts" "number" "I" ∈ TB := tb (mt2 _ (List.mem_of_getElem? (i := 19) rfl)) rfl
theorem of_Acts : ∀ e ∈ cf_Acts, am_okF TB cls "MiddleOne$Acts" e.1 e.2.1 e.2.2.1 e.2.2.2 := (List.forall_mem_cons.mpr ⟨⟨_, _, _, t_Acts, rfl, by decide, w_0, j_Acts, t_Acts_ok, n_Acts, fun z => by cases z⟩, (List.forall_mem_cons.mpr ⟨⟨_, _, _, t_Acts, rfl, by decide, w_1, j_Acts, t_Acts_ok, n_Acts, fun _ => rfl⟩, (List.forall_mem_cons.mpr ⟨⟨_, _, _, t_Acts, rfl, by decide, w_2, j_Acts, t_Acts_ok, n_Acts, fun z => by cases z⟩, (List.forall_mem_cons.mpr ⟨⟨_, _, _, t_Acts, rfl, by decide, w_3, j_Acts, t_Acts_ok, n_Acts, fun _ => rfl⟩, (List.forall_mem_cons.mpr ⟨⟨_, _, _, t_Acts, rfl, by decide, w_4, j_Acts, t_Acts_ok, n_Acts, fun _ => rfl⟩, (List.forall_mem_cons.mpr ⟨⟨_, _, _, t_Acts, rfl, by decide, w_5, j_Acts, t_Acts_ok, n_Acts, fun _ => rfl⟩, (fun _ h => absurd h List.not_mem_nil)⟩)⟩)⟩)⟩)⟩)⟩)
theorem w_6 : Cond.methodLink "MiddleOne$Acts" 31 y_Acts_isKind ∈ TB := tb (mt4 _ (List.mem_of_getElem? (i := 192) rfl)) rfl
theorem w_7 : Cond.initialized "MiddleOne$Acts" ∈ TB := tb (mt1 _ (List.mem_of_getElem? (i := 13) rfl)) rfl
theorem w_8 : Cond.static y_Acts_isKind ∈ TB := tb (mt4 _ (List.mem_of_getElem? (i := 163) rfl)) rfl
theorem w_9 : Cond.methodLink "MiddleOne$Acts" 38 y_Acts_has ∈ TB := tb (mt4 _ (List.mem_of_getElem? (i := 181) rfl)) rfl
theorem w_10 : Cond.instanceMethod y_Acts_has ∈ TB := tb (mt4 _ (List.mem_of_getElem? (i := 182) rfl)) rfl
theorem w_11 : Cond.selects "MiddleOne$Acts" y_Acts_has y_Acts_has ∈ TB := tb (mt4 _ (List.mem_of_getElem? (i := 183) rfl)) rfl
theorem w_12 : Cond.methodLink "MiddleOne$Acts" 41 y_Acts_plays ∈ TB := tb (mt4 _ (List.mem_of_getElem? (i := 185) rfl)) rfl
theorem w_13 : Cond.instanceMethod y_Acts_plays ∈ TB := tb (mt4 _ (List.mem_of_getElem? (i := 187) rfl)) rfl
theorem w_14 : Cond.selects "MiddleOne$Acts" y_Acts_plays y_Acts_plays ∈ TB := tb (List.mem_append_left _ (List.mem_map.mpr ⟨(y_Acts_plays, _), List.mem_append_left _ (List.mem_of_getElem? (i := 15) rfl), rfl⟩)) rfl
theorem w_15 : Cond.methodLink "MiddleOne$Acts" 48 y_Acts_holder ∈ TB := tb (mt4 _ (List.mem_of_getElem? (i := 189) rfl)) rfl
theorem w_16 : Cond.static y_Acts_holder ∈ TB := tb (mt4 _ (List.mem_of_getElem? (i := 190) rfl)) rfl
theorem w_17 : Cond.methodLink "MiddleOne$Acts" 52 y_Acts_notes ∈ TB := tb (mt4 _ (List.mem_of_getElem? (i := 197) rfl)) rfl
theorem w_18 : Cond.instanceMethod y_Acts_notes ∈ TB := tb (mt4 _ (List.mem_of_getElem? (i := 199) rfl)) rfl
theorem w_19 : Cond.selects "MiddleOne$Acts" y_Acts_notes y_Acts_notes ∈ TB := tb (List.mem_append_left _ (List.mem_map.mpr ⟨(y_Acts_notes, _), List.mem_append_right _ (List.mem_append_left _ (List.mem_of_getElem? (i := 0) rfl)), rfl⟩)) rfl
theorem om_Acts : ∀ e ∈ cm_Acts, am_okM TB cls (gG L xs) "MiddleOne$Acts" e.1 e.2.1 e.2.2.1 e.2.2.2 := (List.forall_mem_cons.mpr ⟨Or.inr (Or.inr (Or.inr ⟨by decide, _, _, _, _, _, k_Acts_isKind, w_6, w_7, w_8, by decide +kernel⟩)), (List.forall_mem_cons.mpr ⟨Or.inr (Or.inr (Or.inr ⟨by decide, _, _, _, _, _, k_Acts_has, w_9, w_7, w_10, w_11, ⟨_, _, rfl⟩, 1, rfl, by decide +kernel⟩)), (List.forall_mem_cons.mpr ⟨Or.inr (Or.inr (Or.inr ⟨by decide, _, _, _, _, _, k_Acts_plays, w_12, w_7, w_13, w_14, ⟨_, _, rfl⟩, 4, rfl, by decide +kernel⟩)), (List.forall_mem_cons.mpr ⟨Or.inr (Or.inr (Or.inr ⟨by decide, _, _, _, _, _, k_Acts_holder, w_15, w_7, w_16, by decide +kernel⟩)), (List.forall_mem_cons.mpr ⟨Or.inr (Or.inr (Or.inr ⟨by decide, _, _, _, _, _, k_Acts_notes, w_17, w_7, w_18, w_19, ⟨_, _, rfl⟩, 1, rfl, by decide +kernel⟩)), (fun _ h => absurd h List.not_mem_nil)⟩)⟩)⟩)⟩)⟩)
theorem oi_Acts : ∀ e ∈ ck_Acts, Cond.constant "MiddleOne$Acts" e.1 e.2 ∈ TB := (fun _ h => absurd h List.not_mem_nil)
theorem ol_Acts : ∀ e ∈ cl_Acts, Cond.constantLong "MiddleOne$Acts" e.1 e.2 ∈ TB := (fun _ h => absurd h List.not_mem_nil)
theorem w_20 : Cond.fieldLink "MiddleOne$Acts" 35 "MiddleOne$Acts" "ABOVE" "[I" ∈ TB := tb (mt4 _ (List.mem_of_getElem? (i := 195) rfl)) rfl
theorem w_21 : Cond.fieldLink "MiddleOne$Acts" 45 "MiddleOne$Acts" "BODY" "[I" ∈ TB := tb (mt4 _ (List.mem_of_getElem? (i := 193) rfl)) rfl
theorem os_Acts : ∀ e ∈ cs_Acts, ∃ C nm, gSt.lookup e.2 = some (C, nm) ∧ Cond.fieldLink "MiddleOne$Acts" e.1 C nm "[I" ∈ TB := (List.forall_mem_cons.mpr ⟨⟨_, _, rfl, w_20⟩, (List.forall_mem_cons.mpr ⟨⟨_, _, rfl, w_21⟩, (fun _ h => absurd h List.not_mem_nil)⟩)⟩)
theorem ox_Acts : am_okX TB cls (gG L xs) "MiddleOne$Acts" cx_Acts := ⟨fun idx ci k b h => of_Acts _ (am_lk h), fun idx oc k n h => om_Acts _ (am_lk h), fun idx v h => oi_Acts _ (am_lk h), fun idx v h => ol_Acts _ (am_lk h)⟩
theorem w_22 : Cond.fieldLink "MiddleOne$Changes" 9 "MiddleOne$Changes" "person" "[I" ∈ TB := tb (mt1 _ (List.mem_of_getElem? (i := 227) rfl)) rfl
theorem w_23 : Cond.fieldLink "MiddleOne$Changes" 13 "MiddleOne$Changes" "what" "[I" ∈ TB := tb (mt1 _ (List.mem_of_getElem? (i := 228) rfl)) rfl
theorem w_24 : Cond.fieldLink "MiddleOne$Changes" 16 "MiddleOne$Changes" "before" "[I" ∈ TB := tb (mt1 _ (List.mem_of_getElem? (i := 229) rfl)) rfl
theorem w_25 : Cond.fieldLink "MiddleOne$Changes" 19 "MiddleOne$Changes" "after" "[I" ∈ TB := tb (mt1 _ (List.mem_of_getElem? (i := 230) rfl)) rfl
theorem w_26 : Cond.fieldLink "MiddleOne$Changes" 22 "MiddleOne$Changes" "done" "I" ∈ TB := tb (mt1 _ (List.mem_of_getElem? (i := 231) rfl)) rfl
theorem w_27 : Cond.fieldLink "MiddleOne$Changes" 26 "MiddleOne$Changes" "kept" "I" ∈ TB := tb (mt1 _ (List.mem_of_getElem? (i := 232) rfl)) rfl
theorem w_28 : Cond.fieldLink "MiddleOne$Changes" 29 "MiddleOne$Changes" "told" "LMiddleOne$Crowd;" ∈ TB := tb (mt1 _ (List.mem_of_getElem? (i := 226) rfl)) rfl
theorem of_Changes : ∀ e ∈ cf_Changes, am_okF TB cls "MiddleOne$Changes" e.1 e.2.1 e.2.2.1 e.2.2.2 := (List.forall_mem_cons.mpr ⟨⟨_, _, _, t_Changes, rfl, by decide, w_22, j_Changes, t_Changes_ok, n_Changes, fun z => by cases z⟩, (List.forall_mem_cons.mpr ⟨⟨_, _, _, t_Changes, rfl, by decide, w_23, j_Changes, t_Changes_ok, n_Changes, fun z => by cases z⟩, (List.forall_mem_cons.mpr ⟨⟨_, _, _, t_Changes, rfl, by decide, w_24, j_Changes, t_Changes_ok, n_Changes, fun z => by cases z⟩, (List.forall_mem_cons.mpr ⟨⟨_, _, _, t_Changes, rfl, by decide, w_25, j_Changes, t_Changes_ok, n_Changes, fun z => by cases z⟩, (List.forall_mem_cons.mpr ⟨⟨_, _, _, t_Changes, rfl, by decide, w_26, j_Changes, t_Changes_ok, n_Changes, fun _ => rfl⟩, (List.forall_mem_cons.mpr ⟨⟨_, _, _, t_Changes, rfl, by decide, w_27, j_Changes, t_Changes_ok, n_Changes, fun _ => rfl⟩, (List.forall_mem_cons.mpr ⟨⟨_, _, _, t_Changes, rfl, by decide, w_28, j_Changes, t_Changes_ok, n_Changes, fun z => by cases z⟩, (fun _ h => absurd h List.not_mem_nil)⟩)⟩)⟩)⟩)⟩)⟩)⟩)
theorem w_29 : Cond.methodLink "MiddleOne$Changes" 33 y_Changes_forgetsOldest ∈ TB := tb (mt2 _ (List.mem_of_getElem? (i := 135) rfl)) rfl
theorem w_30 : Cond.initialized "MiddleOne$Changes" ∈ TB := tb (mt1 _ (List.mem_of_getElem? (i := 12) rfl)) rfl
theorem w_31 : Cond.instanceMethod y_Changes_forgetsOldest ∈ TB := tb (mt2 _ (List.mem_of_getElem? (i := 137) rfl)) rfl
theorem w_32 : Cond.selects "MiddleOne$Changes" y_Changes_forgetsOldest y_Changes_forgetsOldest ∈ TB := tb (List.mem_append_left _ (List.mem_map.mpr ⟨(y_Changes_forgetsOldest, _), List.mem_append_left _ (List.mem_of_getElem? (i := 1) rfl), rfl⟩)) rfl
theorem w_33 : Cond.methodLink "MiddleOne$Changes" 36 y_Crowd_number ∈ TB := tb (mt2 _ (List.mem_of_getElem? (i := 142) rfl)) rfl
theorem w_34 : Cond.initialized "MiddleOne$Crowd" ∈ TB := tb (mt1 _ (List.mem_of_getElem? (i := 2) rfl)) rfl
theorem w_35 : Cond.instanceMethod y_Crowd_number ∈ TB := tb (mt2 _ (List.mem_of_getElem? (i := 128) rfl)) rfl
theorem w_36 : Cond.selects "MiddleOne$Crowd" y_Crowd_number y_Crowd_number ∈ TB := tb (mt2 _ (List.mem_of_getElem? (i := 129) rfl)) rfl
theorem w_37 : Cond.methodLink "MiddleOne$Changes" 42 y_Crowd_setNumber ∈ TB := tb (mt2 _ (List.mem_of_getElem? (i := 143) rfl)) rfl
theorem w_38 : Cond.instanceMethod y_Crowd_setNumber ∈ TB := tb (mt2 _ (List.mem_of_getElem? (i := 144) rfl)) rfl
theorem w_39 : Cond.selects "MiddleOne$Crowd" y_Crowd_setNumber y_Crowd_setNumber ∈ TB := tb (mt2 _ (List.mem_of_getElem? (i := 145) rfl)) rfl
theorem w_40 : Cond.methodLink "MiddleOne$Changes" 46 arraycopyName ∈ TB := tb (mt2 _ (List.mem_of_getElem? (i := 139) rfl)) rfl
theorem w_41 : Cond.native arraycopyName ∈ TB := tb (mt2 _ (List.mem_of_getElem? (i := 141) rfl)) rfl
theorem w_42 : Cond.static arraycopyName ∈ TB := tb (mt2 _ (List.mem_of_getElem? (i := 140) rfl)) rfl
theorem w_43 : Cond.initialized "java/lang/System" ∈ TB := tb (mt1 _ (List.mem_of_getElem? (i := 15) rfl)) rfl
theorem om_Changes : ∀ e ∈ cm_Changes, am_okM TB cls (gG L xs) "MiddleOne$Changes" e.1 e.2.1 e.2.2.1 e.2.2.2 := (List.forall_mem_cons.mpr ⟨Or.inr (Or.inr (Or.inr ⟨by decide, _, _, _, _, _, k_Changes_forgetsOldest, w_29, w_30, w_31, w_32, ⟨_, _, rfl⟩, 0, rfl, by decide +kernel⟩)), (List.forall_mem_cons.mpr ⟨Or.inr (Or.inr (Or.inr ⟨by decide, _, _, _, _, _, k_Crowd_number, w_33, w_34, w_35, w_36, ⟨_, _, rfl⟩, 2, rfl, by decide +kernel⟩)), (List.forall_mem_cons.mpr ⟨Or.inr (Or.inr (Or.inr ⟨by decide, _, _, _, _, _, k_Crowd_setNumber, w_37, w_34, w_38, w_39, ⟨_, _, rfl⟩, 3, rfl, by decide +kernel⟩)), (List.forall_mem_cons.mpr ⟨Or.inl ⟨rfl, rfl, w_40, w_41, w_42, w_43⟩, (fun _ h => absurd h List.not_mem_nil)⟩)⟩)⟩)⟩)
theorem oi_Changes : ∀ e ∈ ck_Changes, Cond.constant "MiddleOne$Changes" e.1 e.2 ∈ TB := (fun _ h => absurd h List.not_mem_nil)
theorem ol_Changes : ∀ e ∈ cl_Changes, Cond.constantLong "MiddleOne$Changes" e.1 e.2 ∈ TB := (fun _ h => absurd h List.not_mem_nil)
theorem os_Changes : ∀ e ∈ cs_Changes, ∃ C nm, gSt.lookup e.2 = some (C, nm) ∧ Cond.fieldLink "MiddleOne$Changes" e.1 C nm "[I" ∈ TB := (fun _ h => absurd h List.not_mem_nil)
theorem ox_Changes : am_okX TB cls (gG L xs) "MiddleOne$Changes" cx_Changes := ⟨fun idx ci k b h => of_Changes _ (am_lk h), fun idx oc k n h => om_Changes _ (am_lk h), fun idx v h => oi_Changes _ (am_lk h), fun idx v h => ol_Changes _ (am_lk h)⟩
theorem w_44 : Cond.fieldLink "MiddleOne$Crowd" 11 "MiddleOne$Crowd" "numbers" "[I" ∈ TB := tb (mt1 _ (List.mem_of_getElem? (i := 32) rfl)) rfl
theorem w_45 : Cond.fieldLink "MiddleOne$Crowd" 15 "MiddleOne$Crowd" "count" "I" ∈ TB := tb (mt1 _ (List.mem_of_getElem? (i := 33) rfl)) rfl
theorem w_46 : Cond.fieldLink "MiddleOne$Crowd" 19 "MiddleOne$Crowd" "there" "[I" ∈ TB := tb (mt1 _ (List.mem_of_getElem? (i := 34) rfl)) rfl
theorem w_47 : Cond.fieldLink "MiddleOne$Crowd" 22 "MiddleOne$Crowd" "thereIsStale" "Z" ∈ TB := tb (mt1 _ (List.mem_of_getElem? (i := 35) rfl)) rfl
theorem of_Crowd : ∀ e ∈ cf_Crowd, am_okF TB cls "MiddleOne$Crowd" e.1 e.2.1 e.2.2.1 e.2.2.2 := (List.forall_mem_cons.mpr ⟨⟨_, _, _, t_Crowd, rfl, by decide, w_44, j_Crowd, t_Crowd_ok, n_Crowd, fun z => by cases z⟩, (List.forall_mem_cons.mpr ⟨⟨_, _, _, t_Crowd, rfl, by decide, w_45, j_Crowd, t_Crowd_ok, n_Crowd, fun _ => rfl⟩, (List.forall_mem_cons.mpr ⟨⟨_, _, _, t_Crowd, rfl, by decide, w_46, j_Crowd, t_Crowd_ok, n_Crowd, fun z => by cases z⟩, (List.forall_mem_cons.mpr ⟨⟨_, _, _, t_Crowd, rfl, by decide, w_47, j_Crowd, t_Crowd_ok, n_Crowd, fun _ => rfl⟩, (fun _ h => absurd h List.not_mem_nil)⟩)⟩)⟩)⟩)
theorem w_48 : Cond.methodLink "MiddleOne$Crowd" 26 y_Crowd_isNumber ∈ TB := tb (mt2 _ (List.mem_of_getElem? (i := 71) rfl)) rfl
theorem w_49 : Cond.static y_Crowd_isNumber ∈ TB := tb (mt2 _ (List.mem_of_getElem? (i := 72) rfl)) rfl
theorem w_50 : Cond.methodLink "MiddleOne$Crowd" 36 arraycopyName ∈ TB := tb (mt3 _ (List.mem_of_getElem? (i := 33) rfl)) rfl
theorem w_51 : Cond.methodLink "MiddleOne$Crowd" 42 y_Crowd_thereAt ∈ TB := tb (mt2 _ (List.mem_of_getElem? (i := 164) rfl)) rfl
theorem w_52 : Cond.instanceMethod y_Crowd_thereAt ∈ TB := tb (mt2 _ (List.mem_of_getElem? (i := 166) rfl)) rfl
theorem w_53 : Cond.selects "MiddleOne$Crowd" y_Crowd_thereAt y_Crowd_thereAt ∈ TB := tb (List.mem_append_left _ (List.mem_map.mpr ⟨(y_Crowd_thereAt, _), List.mem_append_left _ (List.mem_of_getElem? (i := 2) rfl), rfl⟩)) rfl
theorem w_54 : Cond.methodLink "MiddleOne$Crowd" 46 y_J_fillI ∈ TB := tb (mt2 _ (List.mem_of_getElem? (i := 168) rfl)) rfl
theorem w_55 : Cond.initialized "java/util/Arrays" ∈ TB := tb (mt1 _ (List.mem_of_getElem? (i := 9) rfl)) rfl
theorem w_56 : Cond.static y_J_fillI ∈ TB := tb (mt1 _ (List.mem_of_getElem? (i := 159) rfl)) rfl
theorem om_Crowd : ∀ e ∈ cm_Crowd, am_okM TB cls (gG L xs) "MiddleOne$Crowd" e.1 e.2.1 e.2.2.1 e.2.2.2 := (List.forall_mem_cons.mpr ⟨Or.inr (Or.inr (Or.inr ⟨by decide, _, _, _, _, _, k_Crowd_isNumber, w_48, w_34, w_49, by decide +kernel⟩)), (List.forall_mem_cons.mpr ⟨Or.inl ⟨rfl, rfl, w_50, w_41, w_42, w_43⟩, (List.forall_mem_cons.mpr ⟨Or.inr (Or.inr (Or.inr ⟨by decide, _, _, _, _, _, k_Crowd_thereAt, w_51, w_34, w_52, w_53, ⟨_, _, rfl⟩, 1, rfl, by decide +kernel⟩)), (List.forall_mem_cons.mpr ⟨Or.inr (Or.inr (Or.inr ⟨by decide, _, _, _, _, _, k_J_fillI, w_54, w_55, w_56, by decide +kernel⟩)), (fun _ h => absurd h List.not_mem_nil)⟩)⟩)⟩)⟩)
theorem oi_Crowd : ∀ e ∈ ck_Crowd, Cond.constant "MiddleOne$Crowd" e.1 e.2 ∈ TB := (fun _ h => absurd h List.not_mem_nil)
theorem ol_Crowd : ∀ e ∈ cl_Crowd, Cond.constantLong "MiddleOne$Crowd" e.1 e.2 ∈ TB := (fun _ h => absurd h List.not_mem_nil)
theorem w_57 : Cond.fieldLink "MiddleOne$Crowd" 30 "MiddleOne$Crowd" "LEAST" "[I" ∈ TB := tb (mt2 _ (List.mem_of_getElem? (i := 74) rfl)) rfl
theorem w_58 : Cond.fieldLink "MiddleOne$Crowd" 33 "MiddleOne$Crowd" "GREATEST" "[I" ∈ TB := tb (mt2 _ (List.mem_of_getElem? (i := 76) rfl)) rfl
theorem os_Crowd : ∀ e ∈ cs_Crowd, ∃ C nm, gSt.lookup e.2 = some (C, nm) ∧ Cond.fieldLink "MiddleOne$Crowd" e.1 C nm "[I" ∈ TB := (List.forall_mem_cons.mpr ⟨⟨_, _, rfl, w_57⟩, (List.forall_mem_cons.mpr ⟨⟨_, _, rfl, w_58⟩, (fun _ h => absurd h List.not_mem_nil)⟩)⟩)
theorem ox_Crowd : am_okX TB cls (gG L xs) "MiddleOne$Crowd" cx_Crowd := ⟨fun idx ci k b h => of_Crowd _ (am_lk h), fun idx oc k n h => om_Crowd _ (am_lk h), fun idx v h => oi_Crowd _ (am_lk h), fun idx v h => ol_Crowd _ (am_lk h)⟩
theorem w_59 : Cond.fieldLink "MiddleOne$Day" 12 "MiddleOne$Day" "crowd" "LMiddleOne$Crowd;" ∈ TB := tb (mt1 _ (List.mem_of_getElem? (i := 115) rfl)) rfl
theorem w_60 : Cond.fieldLink "MiddleOne$Day" 18 "MiddleOne$Day" "inAt" "[I" ∈ TB := tb (mt1 _ (List.mem_of_getElem? (i := 116) rfl)) rfl
theorem w_61 : Cond.fieldLink "MiddleOne$Day" 22 "MiddleOne$Day" "outside" "I" ∈ TB := tb (mt1 _ (List.mem_of_getElem? (i := 117) rfl)) rfl
theorem w_62 : Cond.fieldLink "MiddleOne$Day" 26 "MiddleOne$Day" "inside" "I" ∈ TB := tb (mt1 _ (List.mem_of_getElem? (i := 118) rfl)) rfl
theorem w_63 : Cond.fieldLink "MiddleOne$Day" 29 "MiddleOne$Day" "waited" "I" ∈ TB := tb (mt1 _ (List.mem_of_getElem? (i := 119) rfl)) rfl
theorem w_64 : Cond.fieldLink "MiddleOne$Day" 32 "MiddleOne$Day" "longest" "I" ∈ TB := tb (mt1 _ (List.mem_of_getElem? (i := 120) rfl)) rfl
theorem w_65 : Cond.fieldLink "MiddleOne$Day" 35 "MiddleOne$Day" "picker" "LMiddleOne$Picker;" ∈ TB := tb (mt1 _ (List.mem_of_getElem? (i := 114) rfl)) rfl
theorem of_Day : ∀ e ∈ cf_Day, am_okF TB cls "MiddleOne$Day" e.1 e.2.1 e.2.2.1 e.2.2.2 := (List.forall_mem_cons.mpr ⟨⟨_, _, _, t_Day, rfl, by decide, w_59, j_Day, t_Day_ok, n_Day, fun z => by cases z⟩, (List.forall_mem_cons.mpr ⟨⟨_, _, _, t_Day, rfl, by decide, w_60, j_Day, t_Day_ok, n_Day, fun z => by cases z⟩, (List.forall_mem_cons.mpr ⟨⟨_, _, _, t_Day, rfl, by decide, w_61, j_Day, t_Day_ok, n_Day, fun _ => rfl⟩, (List.forall_mem_cons.mpr ⟨⟨_, _, _, t_Day, rfl, by decide, w_62, j_Day, t_Day_ok, n_Day, fun _ => rfl⟩, (List.forall_mem_cons.mpr ⟨⟨_, _, _, t_Day, rfl, by decide, w_63, j_Day, t_Day_ok, n_Day, fun _ => rfl⟩, (List.forall_mem_cons.mpr ⟨⟨_, _, _, t_Day, rfl, by decide, w_64, j_Day, t_Day_ok, n_Day, fun _ => rfl⟩, (List.forall_mem_cons.mpr ⟨⟨_, _, _, t_Day, rfl, by decide, w_65, j_Day, t_Day_ok, n_Day, fun z => by cases z⟩, (fun _ h => absurd h List.not_mem_nil)⟩)⟩)⟩)⟩)⟩)⟩)⟩)
theorem w_66 : Cond.methodLink "MiddleOne$Day" 39 y_Crowd_becomes ∈ TB := tb (mt3 _ (List.mem_of_getElem? (i := 29) rfl)) rfl
theorem w_67 : Cond.instanceMethod y_Crowd_becomes ∈ TB := tb (mt3 _ (List.mem_of_getElem? (i := 30) rfl)) rfl
theorem w_68 : Cond.selects "MiddleOne$Crowd" y_Crowd_becomes y_Crowd_becomes ∈ TB := tb (mt3 _ (List.mem_of_getElem? (i := 31) rfl)) rfl
theorem w_69 : Cond.methodLink "MiddleOne$Day" 43 y_Crowd_everyone ∈ TB := tb (mt3 _ (List.mem_of_getElem? (i := 34) rfl)) rfl
theorem w_70 : Cond.instanceMethod y_Crowd_everyone ∈ TB := tb (mt2 _ (List.mem_of_getElem? (i := 157) rfl)) rfl
theorem w_71 : Cond.selects "MiddleOne$Crowd" y_Crowd_everyone y_Crowd_everyone ∈ TB := tb (mt2 _ (List.mem_of_getElem? (i := 158) rfl)) rfl
theorem w_72 : Cond.methodLink "MiddleOne$Day" 47 y_Day_again ∈ TB := tb (mt3 _ (List.mem_of_getElem? (i := 35) rfl)) rfl
theorem w_73 : Cond.initialized "MiddleOne$Day" ∈ TB := tb (mt1 _ (List.mem_of_getElem? (i := 6) rfl)) rfl
theorem w_74 : Cond.instanceMethod y_Day_again ∈ TB := tb (mt3 _ (List.mem_of_getElem? (i := 36) rfl)) rfl
theorem w_75 : Cond.selects "MiddleOne$Day" y_Day_again y_Day_again ∈ TB := tb (mt3 _ (List.mem_of_getElem? (i := 37) rfl)) rfl
theorem w_76 : Cond.methodLink "MiddleOne$Day" 51 y_J_fillI ∈ TB := tb (mt3 _ (List.mem_of_getElem? (i := 39) rfl)) rfl
theorem w_77 : Cond.methodLink "MiddleOne$Day" 57 y_Crowd_setNumber ∈ TB := tb (mt3 _ (List.mem_of_getElem? (i := 185) rfl)) rfl
theorem w_78 : Cond.methodLink "MiddleOne$Day" 61 y_Crowd_waiting ∈ TB := tb (mt3 _ (List.mem_of_getElem? (i := 51) rfl)) rfl
theorem w_79 : Cond.instanceMethod y_Crowd_waiting ∈ TB := tb (mt2 _ (List.mem_of_getElem? (i := 161) rfl)) rfl
theorem w_80 : Cond.selects "MiddleOne$Crowd" y_Crowd_waiting y_Crowd_waiting ∈ TB := tb (mt2 _ (List.mem_of_getElem? (i := 162) rfl)) rfl
theorem w_81 : Cond.methodLink "MiddleOne$Day" 65 y_J_bitCount ∈ TB := tb (mt3 _ (List.mem_of_getElem? (i := 52) rfl)) rfl
theorem w_82 : Cond.initialized "java/lang/Integer" ∈ TB := tb (mt1 _ (List.mem_of_getElem? (i := 17) rfl)) rfl
theorem w_83 : Cond.static y_J_bitCount ∈ TB := tb (mt3 _ (List.mem_of_getElem? (i := 53) rfl)) rfl
theorem w_84 : Cond.methodLink "MiddleOne$Day" 71 Lib.Math.max.name ∈ TB := tb (mt3 _ (List.mem_of_getElem? (i := 58) rfl)) rfl
theorem w_85 : Cond.static Lib.Math.max.name ∈ TB := tb (mt3 _ (List.mem_of_getElem? (i := 13) rfl)) rfl
theorem w_86 : Cond.initialized "java/lang/Math" ∈ TB := tb (mt1 _ (List.mem_of_getElem? (i := 16) rfl)) rfl
theorem w_87 : Cond.code Lib.Math.max.name Lib.Math.max.code 2 (some .int) ∈ TB := tb (mt3 _ (List.mem_of_getElem? (i := 14) rfl)) rfl
theorem w_88 : Cond.methodLink "MiddleOne$Day" 76 y_Picker_picks ∈ TB := tb (mt3 _ (List.mem_of_getElem? (i := 59) rfl)) rfl
theorem w_89 : Cond.initialized "MiddleOne$Picker" ∈ TB := tb (mt1 _ (List.mem_of_getElem? (i := 5) rfl)) rfl
theorem w_90 : Cond.instanceMethod y_Picker_picks ∈ TB := tb (mt3 _ (List.mem_of_getElem? (i := 60) rfl)) rfl
theorem w_91 : Cond.selects "MiddleOne$Picker" y_Picker_picks y_Picker_picks ∈ TB := tb (mt3 _ (List.mem_of_getElem? (i := 61) rfl)) rfl
theorem w_92 : Cond.methodLink "MiddleOne$Day" 82 y_Crowd_has ∈ TB := tb (mt3 _ (List.mem_of_getElem? (i := 44) rfl)) rfl
theorem w_93 : Cond.instanceMethod y_Crowd_has ∈ TB := tb (mt2 _ (List.mem_of_getElem? (i := 124) rfl)) rfl
theorem w_94 : Cond.selects "MiddleOne$Crowd" y_Crowd_has y_Crowd_has ∈ TB := tb (mt2 _ (List.mem_of_getElem? (i := 125) rfl)) rfl
theorem w_95 : Cond.methodLink "MiddleOne$Day" 86 y_Day_opens ∈ TB := tb (mt3 _ (List.mem_of_getElem? (i := 47) rfl)) rfl
theorem w_96 : Cond.instanceMethod y_Day_opens ∈ TB := tb (mt3 _ (List.mem_of_getElem? (i := 49) rfl)) rfl
theorem w_97 : Cond.selects "MiddleOne$Day" y_Day_opens y_Day_opens ∈ TB := tb (List.mem_append_left _ (List.mem_map.mpr ⟨(y_Day_opens, _), List.mem_append_left _ (List.mem_of_getElem? (i := 9) rfl), rfl⟩)) rfl
theorem w_98 : Cond.methodLink "MiddleOne$Day" 90 y_Crowd_number ∈ TB := tb (mt3 _ (List.mem_of_getElem? (i := 45) rfl)) rfl
theorem w_99 : Cond.methodLink "MiddleOne$Day" 93 Lib.Math.min.name ∈ TB := tb (mt3 _ (List.mem_of_getElem? (i := 46) rfl)) rfl
theorem w_100 : Cond.static Lib.Math.min.name ∈ TB := tb (mt2 _ (List.mem_of_getElem? (i := 235) rfl)) rfl
theorem w_101 : Cond.code Lib.Math.min.name Lib.Math.min.code 2 (some .int) ∈ TB := tb (mt2 _ (List.mem_of_getElem? (i := 236) rfl)) rfl
theorem w_102 : Cond.methodLink "MiddleOne$Day" 96 y_Crowd_size ∈ TB := tb (mt3 _ (List.mem_of_getElem? (i := 93) rfl)) rfl
theorem w_103 : Cond.instanceMethod y_Crowd_size ∈ TB := tb (mt2 _ (List.mem_of_getElem? (i := 79) rfl)) rfl
theorem w_104 : Cond.selects "MiddleOne$Crowd" y_Crowd_size y_Crowd_size ∈ TB := tb (mt2 _ (List.mem_of_getElem? (i := 80) rfl)) rfl
theorem om_Day : ∀ e ∈ cm_Day, am_okM TB cls (gG L xs) "MiddleOne$Day" e.1 e.2.1 e.2.2.1 e.2.2.2 := (List.forall_mem_cons.mpr ⟨Or.inr (Or.inr (Or.inr ⟨by decide, _, _, _, _, _, k_Crowd_becomes, w_66, w_34, w_67, w_68, ⟨_, _, rfl⟩, 1, rfl, by decide +kernel⟩)), (List.forall_mem_cons.mpr ⟨Or.inr (Or.inr (Or.inr ⟨by decide, _, _, _, _, _, k_Crowd_everyone, w_69, w_34, w_70, w_71, ⟨_, _, rfl⟩, 0, rfl, by decide +kernel⟩)), (List.forall_mem_cons.mpr ⟨Or.inr (Or.inr (Or.inr ⟨by decide, _, _, _, _, _, k_Day_again, w_72, w_73, w_74, w_75, ⟨_, _, rfl⟩, 1, rfl, by decide +kernel⟩)), (List.forall_mem_cons.mpr ⟨Or.inr (Or.inr (Or.inr ⟨by decide, _, _, _, _, _, k_J_fillI, w_76, w_55, w_56, by decide +kernel⟩)), (List.forall_mem_cons.mpr ⟨Or.inr (Or.inr (Or.inr ⟨by decide, _, _, _, _, _, k_Crowd_setNumber, w_77, w_34, w_38, w_39, ⟨_, _, rfl⟩, 3, rfl, by decide +kernel⟩)), (List.forall_mem_cons.mpr ⟨Or.inr (Or.inr (Or.inr ⟨by decide, _, _, _, _, _, k_Crowd_waiting, w_78, w_34, w_79, w_80, ⟨_, _, rfl⟩, 2, rfl, by decide +kernel⟩)), (List.forall_mem_cons.mpr ⟨Or.inr (Or.inr (Or.inr ⟨by decide, _, _, _, _, _, k_J_bitCount, w_81, w_82, w_83, by decide +kernel⟩)), (List.forall_mem_cons.mpr ⟨Or.inr (Or.inl ⟨rfl, rfl, w_84, w_85, w_86, w_87⟩), (List.forall_mem_cons.mpr ⟨Or.inr (Or.inr (Or.inr ⟨by decide, _, _, _, _, _, k_Picker_picks, w_88, w_89, w_90, w_91, ⟨_, _, rfl⟩, 4, rfl, by decide +kernel⟩)), (List.forall_mem_cons.mpr ⟨Or.inr (Or.inr (Or.inr ⟨by decide, _, _, _, _, _, k_Crowd_has, w_92, w_34, w_93, w_94, ⟨_, _, rfl⟩, 1, rfl, by decide +kernel⟩)), (List.forall_mem_cons.mpr ⟨Or.inr (Or.inr (Or.inr ⟨by decide, _, _, _, _, _, k_Day_opens, w_95, w_73, w_96, w_97, ⟨_, _, rfl⟩, 3, rfl, by decide +kernel⟩)), (List.forall_mem_cons.mpr ⟨Or.inr (Or.inr (Or.inr ⟨by decide, _, _, _, _, _, k_Crowd_number, w_98, w_34, w_35, w_36, ⟨_, _, rfl⟩, 2, rfl, by decide +kernel⟩)), (List.forall_mem_cons.mpr ⟨Or.inr (Or.inr (Or.inl ⟨rfl, rfl, w_99, w_100, w_86, w_101⟩)), (List.forall_mem_cons.mpr ⟨Or.inr (Or.inr (Or.inr ⟨by decide, _, _, _, _, _, k_Crowd_size, w_102, w_34, w_103, w_104, ⟨_, _, rfl⟩, 0, rfl, by decide +kernel⟩)), (fun _ h => absurd h List.not_mem_nil)⟩)⟩)⟩)⟩)⟩)⟩)⟩)⟩)⟩)⟩)⟩)⟩)⟩)⟩)
theorem oi_Day : ∀ e ∈ ck_Day, Cond.constant "MiddleOne$Day" e.1 e.2 ∈ TB := (fun _ h => absurd h List.not_mem_nil)
theorem ol_Day : ∀ e ∈ cl_Day, Cond.constantLong "MiddleOne$Day" e.1 e.2 ∈ TB := (fun _ h => absurd h List.not_mem_nil)
theorem os_Day : ∀ e ∈ cs_Day, ∃ C nm, gSt.lookup e.2 = some (C, nm) ∧ Cond.fieldLink "MiddleOne$Day" e.1 C nm "[I" ∈ TB := (fun _ h => absurd h List.not_mem_nil)
theorem ox_Day : am_okX TB cls (gG L xs) "MiddleOne$Day" cx_Day := ⟨fun idx ci k b h => of_Day _ (am_lk h), fun idx oc k n h => om_Day _ (am_lk h), fun idx v h => oi_Day _ (am_lk h), fun idx v h => ol_Day _ (am_lk h)⟩
theorem w_105 : Cond.fieldLink "MiddleOne$Deed" 11 "MiddleOne$Deed" "state" "[I" ∈ TB := tb (mt1 _ (List.mem_of_getElem? (i := 200) rfl)) rfl
theorem w_106 : Cond.fieldLink "MiddleOne$Deed" 17 "MiddleOne$Deed" "inAt" "[I" ∈ TB := tb (mt1 _ (List.mem_of_getElem? (i := 201) rfl)) rfl
theorem w_107 : Cond.fieldLink "MiddleOne$Deed" 20 "MiddleOne$Deed" "keptState" "[I" ∈ TB := tb (mt1 _ (List.mem_of_getElem? (i := 202) rfl)) rfl
theorem w_108 : Cond.fieldLink "MiddleOne$Deed" 23 "MiddleOne$Deed" "keptInAt" "[I" ∈ TB := tb (mt1 _ (List.mem_of_getElem? (i := 203) rfl)) rfl
theorem w_109 : Cond.fieldLink "MiddleOne$Deed" 26 "MiddleOne$Deed" "kept" "Z" ∈ TB := tb (mt1 _ (List.mem_of_getElem? (i := 204) rfl)) rfl
theorem w_110 : Cond.fieldLink "MiddleOne$Deed" 30 "MiddleOne$Deed" "told" "LMiddleOne$Crowd;" ∈ TB := tb (mt1 _ (List.mem_of_getElem? (i := 198) rfl)) rfl
theorem w_111 : Cond.fieldLink "MiddleOne$Deed" 34 "MiddleOne$Deed" "picker" "LMiddleOne$Picker;" ∈ TB := tb (mt1 _ (List.mem_of_getElem? (i := 199) rfl)) rfl
theorem of_Deed : ∀ e ∈ cf_Deed, am_okF TB cls "MiddleOne$Deed" e.1 e.2.1 e.2.2.1 e.2.2.2 := (List.forall_mem_cons.mpr ⟨⟨_, _, _, t_Deed, rfl, by decide, w_105, j_Deed, t_Deed_ok, n_Deed, fun z => by cases z⟩, (List.forall_mem_cons.mpr ⟨⟨_, _, _, t_Deed, rfl, by decide, w_106, j_Deed, t_Deed_ok, n_Deed, fun z => by cases z⟩, (List.forall_mem_cons.mpr ⟨⟨_, _, _, t_Deed, rfl, by decide, w_107, j_Deed, t_Deed_ok, n_Deed, fun z => by cases z⟩, (List.forall_mem_cons.mpr ⟨⟨_, _, _, t_Deed, rfl, by decide, w_108, j_Deed, t_Deed_ok, n_Deed, fun z => by cases z⟩, (List.forall_mem_cons.mpr ⟨⟨_, _, _, t_Deed, rfl, by decide, w_109, j_Deed, t_Deed_ok, n_Deed, fun _ => rfl⟩, (List.forall_mem_cons.mpr ⟨⟨_, _, _, t_Deed, rfl, by decide, w_110, j_Deed, t_Deed_ok, n_Deed, fun z => by cases z⟩, (List.forall_mem_cons.mpr ⟨⟨_, _, _, t_Deed, rfl, by decide, w_111, j_Deed, t_Deed_ok, n_Deed, fun z => by cases z⟩, (fun _ h => absurd h List.not_mem_nil)⟩)⟩)⟩)⟩)⟩)⟩)⟩)
theorem w_112 : Cond.methodLink "MiddleOne$Deed" 38 y_J_fillI ∈ TB := tb (mt1 _ (List.mem_of_getElem? (i := 197) rfl)) rfl
theorem w_113 : Cond.methodLink "MiddleOne$Deed" 44 y_Crowd_everyone ∈ TB := tb (mt2 _ (List.mem_of_getElem? (i := 156) rfl)) rfl
theorem w_114 : Cond.methodLink "MiddleOne$Deed" 48 y_Crowd_waiting ∈ TB := tb (mt2 _ (List.mem_of_getElem? (i := 160) rfl)) rfl
theorem w_115 : Cond.methodLink "MiddleOne$Deed" 52 y_J_bitCount ∈ TB := tb (mt4 _ (List.mem_of_getElem? (i := 87) rfl)) rfl
theorem w_116 : Cond.methodLink "MiddleOne$Deed" 58 y_Deed_waitingNow ∈ TB := tb (mt4 _ (List.mem_of_getElem? (i := 85) rfl)) rfl
theorem w_117 : Cond.initialized "MiddleOne$Deed" ∈ TB := tb (mt1 _ (List.mem_of_getElem? (i := 11) rfl)) rfl
theorem w_118 : Cond.instanceMethod y_Deed_waitingNow ∈ TB := tb (mt2 _ (List.mem_of_getElem? (i := 153) rfl)) rfl
theorem w_119 : Cond.selects "MiddleOne$Deed" y_Deed_waitingNow y_Deed_waitingNow ∈ TB := tb (mt2 _ (List.mem_of_getElem? (i := 154) rfl)) rfl
theorem w_120 : Cond.methodLink "MiddleOne$Deed" 63 y_Picker_picks ∈ TB := tb (mt4 _ (List.mem_of_getElem? (i := 86) rfl)) rfl
theorem w_121 : Cond.methodLink "MiddleOne$Deed" 67 Lib.Math.max.name ∈ TB := tb (mt4 _ (List.mem_of_getElem? (i := 88) rfl)) rfl
theorem w_122 : Cond.methodLink "MiddleOne$Deed" 72 y_Deed_numberIn ∈ TB := tb (mt4 _ (List.mem_of_getElem? (i := 105) rfl)) rfl
theorem w_123 : Cond.instanceMethod y_Deed_numberIn ∈ TB := tb (mt4 _ (List.mem_of_getElem? (i := 106) rfl)) rfl
theorem w_124 : Cond.selects "MiddleOne$Deed" y_Deed_numberIn y_Deed_numberIn ∈ TB := tb (mt4 _ (List.mem_of_getElem? (i := 107) rfl)) rfl
theorem w_125 : Cond.methodLink "MiddleOne$Deed" 75 arraycopyName ∈ TB := tb (mt4 _ (List.mem_of_getElem? (i := 121) rfl)) rfl
theorem om_Deed : ∀ e ∈ cm_Deed, am_okM TB cls (gG L xs) "MiddleOne$Deed" e.1 e.2.1 e.2.2.1 e.2.2.2 := (List.forall_mem_cons.mpr ⟨Or.inr (Or.inr (Or.inr ⟨by decide, _, _, _, _, _, k_J_fillI, w_112, w_55, w_56, by decide +kernel⟩)), (List.forall_mem_cons.mpr ⟨Or.inr (Or.inr (Or.inr ⟨by decide, _, _, _, _, _, k_Crowd_everyone, w_113, w_34, w_70, w_71, ⟨_, _, rfl⟩, 0, rfl, by decide +kernel⟩)), (List.forall_mem_cons.mpr ⟨Or.inr (Or.inr (Or.inr ⟨by decide, _, _, _, _, _, k_Crowd_waiting, w_114, w_34, w_79, w_80, ⟨_, _, rfl⟩, 2, rfl, by decide +kernel⟩)), (List.forall_mem_cons.mpr ⟨Or.inr (Or.inr (Or.inr ⟨by decide, _, _, _, _, _, k_J_bitCount, w_115, w_82, w_83, by decide +kernel⟩)), (List.forall_mem_cons.mpr ⟨Or.inr (Or.inr (Or.inr ⟨by decide, _, _, _, _, _, k_Deed_waitingNow, w_116, w_117, w_118, w_119, ⟨_, _, rfl⟩, 0, rfl, by decide +kernel⟩)), (List.forall_mem_cons.mpr ⟨Or.inr (Or.inr (Or.inr ⟨by decide, _, _, _, _, _, k_Picker_picks, w_120, w_89, w_90, w_91, ⟨_, _, rfl⟩, 4, rfl, by decide +kernel⟩)), (List.forall_mem_cons.mpr ⟨Or.inr (Or.inl ⟨rfl, rfl, w_121, w_85, w_86, w_87⟩), (List.forall_mem_cons.mpr ⟨Or.inr (Or.inr (Or.inr ⟨by decide, _, _, _, _, _, k_Deed_numberIn, w_122, w_117, w_123, w_124, ⟨_, _, rfl⟩, 0, rfl, by decide +kernel⟩)), (List.forall_mem_cons.mpr ⟨Or.inl ⟨rfl, rfl, w_125, w_41, w_42, w_43⟩, (fun _ h => absurd h List.not_mem_nil)⟩)⟩)⟩)⟩)⟩)⟩)⟩)⟩)⟩)
theorem oi_Deed : ∀ e ∈ ck_Deed, Cond.constant "MiddleOne$Deed" e.1 e.2 ∈ TB := (fun _ h => absurd h List.not_mem_nil)
theorem ol_Deed : ∀ e ∈ cl_Deed, Cond.constantLong "MiddleOne$Deed" e.1 e.2 ∈ TB := (fun _ h => absurd h List.not_mem_nil)
theorem os_Deed : ∀ e ∈ cs_Deed, ∃ C nm, gSt.lookup e.2 = some (C, nm) ∧ Cond.fieldLink "MiddleOne$Deed" e.1 C nm "[I" ∈ TB := (fun _ h => absurd h List.not_mem_nil)
theorem ox_Deed : am_okX TB cls (gG L xs) "MiddleOne$Deed" cx_Deed := ⟨fun idx ci k b h => of_Deed _ (am_lk h), fun idx oc k n h => om_Deed _ (am_lk h), fun idx v h => oi_Deed _ (am_lk h), fun idx v h => ol_Deed _ (am_lk h)⟩
theorem w_126 : Cond.fieldLink "MiddleOne$Law" 9 "MiddleOne$Law" "steps" "[I" ∈ TB := tb (mt1 _ (List.mem_of_getElem? (i := 52) rfl)) rfl
theorem w_127 : Cond.fieldLink "MiddleOne$Law" 15 "MiddleOne$Law" "details" "[I" ∈ TB := tb (mt1 _ (List.mem_of_getElem? (i := 53) rfl)) rfl
theorem w_128 : Cond.fieldLink "MiddleOne$Law" 18 "MiddleOne$Law" "size" "I" ∈ TB := tb (mt1 _ (List.mem_of_getElem? (i := 54) rfl)) rfl
theorem w_129 : Cond.fieldLink "MiddleOne$Law" 22 "MiddleOne$Law" "stack" "[I" ∈ TB := tb (mt1 _ (List.mem_of_getElem? (i := 55) rfl)) rfl
theorem of_Law : ∀ e ∈ cf_Law, am_okF TB cls "MiddleOne$Law" e.1 e.2.1 e.2.2.1 e.2.2.2 := (List.forall_mem_cons.mpr ⟨⟨_, _, _, t_Law, rfl, by decide, w_126, j_Law, t_Law_ok, n_Law, fun z => by cases z⟩, (List.forall_mem_cons.mpr ⟨⟨_, _, _, t_Law, rfl, by decide, w_127, j_Law, t_Law_ok, n_Law, fun z => by cases z⟩, (List.forall_mem_cons.mpr ⟨⟨_, _, _, t_Law, rfl, by decide, w_128, j_Law, t_Law_ok, n_Law, fun _ => rfl⟩, (List.forall_mem_cons.mpr ⟨⟨_, _, _, t_Law, rfl, by decide, w_129, j_Law, t_Law_ok, n_Law, fun z => by cases z⟩, (fun _ h => absurd h List.not_mem_nil)⟩)⟩)⟩)⟩)
theorem w_130 : Cond.methodLink "MiddleOne$Law" 25 y_Reader_copySteps ∈ TB := tb (mt2 _ (List.mem_of_getElem? (i := 230) rfl)) rfl
theorem w_131 : Cond.initialized "MiddleOne$Reader" ∈ TB := tb (mt1 _ (List.mem_of_getElem? (i := 4) rfl)) rfl
theorem w_132 : Cond.instanceMethod y_Reader_copySteps ∈ TB := tb (mt2 _ (List.mem_of_getElem? (i := 231) rfl)) rfl
theorem w_133 : Cond.selects "MiddleOne$Reader" y_Reader_copySteps y_Reader_copySteps ∈ TB := tb (mt2 _ (List.mem_of_getElem? (i := 232) rfl)) rfl
theorem w_134 : Cond.methodLink "MiddleOne$Law" 31 y_Crowd_number ∈ TB := tb (mt3 _ (List.mem_of_getElem? (i := 11) rfl)) rfl
theorem w_135 : Cond.methodLink "MiddleOne$Law" 35 Lib.Math.max.name ∈ TB := tb (mt3 _ (List.mem_of_getElem? (i := 12) rfl)) rfl
theorem w_136 : Cond.methodLink "MiddleOne$Law" 40 y_Law_joined ∈ TB := tb (mt3 _ (List.mem_of_getElem? (i := 15) rfl)) rfl
theorem w_137 : Cond.initialized "MiddleOne$Law" ∈ TB := tb (mt1 _ (List.mem_of_getElem? (i := 3) rfl)) rfl
theorem w_138 : Cond.static y_Law_joined ∈ TB := tb (mt3 _ (List.mem_of_getElem? (i := 16) rfl)) rfl
theorem om_Law : ∀ e ∈ cm_Law, am_okM TB cls (gG L xs) "MiddleOne$Law" e.1 e.2.1 e.2.2.1 e.2.2.2 := (List.forall_mem_cons.mpr ⟨Or.inr (Or.inr (Or.inr ⟨by decide, _, _, _, _, _, k_Reader_copySteps, w_130, w_131, w_132, w_133, ⟨_, _, rfl⟩, 2, rfl, by decide +kernel⟩)), (List.forall_mem_cons.mpr ⟨Or.inr (Or.inr (Or.inr ⟨by decide, _, _, _, _, _, k_Crowd_number, w_134, w_34, w_35, w_36, ⟨_, _, rfl⟩, 2, rfl, by decide +kernel⟩)), (List.forall_mem_cons.mpr ⟨Or.inr (Or.inl ⟨rfl, rfl, w_135, w_85, w_86, w_87⟩), (List.forall_mem_cons.mpr ⟨Or.inr (Or.inr (Or.inr ⟨by decide, _, _, _, _, _, k_Law_joined, w_136, w_137, w_138, by decide +kernel⟩)), (fun _ h => absurd h List.not_mem_nil)⟩)⟩)⟩)⟩)
theorem oi_Law : ∀ e ∈ ck_Law, Cond.constant "MiddleOne$Law" e.1 e.2 ∈ TB := (fun _ h => absurd h List.not_mem_nil)
theorem ol_Law : ∀ e ∈ cl_Law, Cond.constantLong "MiddleOne$Law" e.1 e.2 ∈ TB := (fun _ h => absurd h List.not_mem_nil)
theorem os_Law : ∀ e ∈ cs_Law, ∃ C nm, gSt.lookup e.2 = some (C, nm) ∧ Cond.fieldLink "MiddleOne$Law" e.1 C nm "[I" ∈ TB := (fun _ h => absurd h List.not_mem_nil)
theorem ox_Law : am_okX TB cls (gG L xs) "MiddleOne$Law" cx_Law := ⟨fun idx ci k b h => of_Law _ (am_lk h), fun idx oc k n h => om_Law _ (am_lk h), fun idx v h => oi_Law _ (am_lk h), fun idx v h => ol_Law _ (am_lk h)⟩
theorem w_139 : Cond.fieldLink "MiddleOne$Picker" 11 "MiddleOne$Picker" "order" "[I" ∈ TB := tb (mt1 _ (List.mem_of_getElem? (i := 97) rfl)) rfl
theorem w_140 : Cond.fieldLink "MiddleOne$Picker" 17 "MiddleOne$Picker" "tallness" "[I" ∈ TB := tb (mt1 _ (List.mem_of_getElem? (i := 98) rfl)) rfl
theorem w_141 : Cond.fieldLink "MiddleOne$Picker" 20 "MiddleOne$Picker" "law" "LMiddleOne$Law;" ∈ TB := tb (mt1 _ (List.mem_of_getElem? (i := 96) rfl)) rfl
theorem of_Picker : ∀ e ∈ cf_Picker, am_okF TB cls "MiddleOne$Picker" e.1 e.2.1 e.2.2.1 e.2.2.2 := (List.forall_mem_cons.mpr ⟨⟨_, _, _, t_Picker, rfl, by decide, w_139, j_Picker, t_Picker_ok, n_Picker, fun z => by cases z⟩, (List.forall_mem_cons.mpr ⟨⟨_, _, _, t_Picker, rfl, by decide, w_140, j_Picker, t_Picker_ok, n_Picker, fun z => by cases z⟩, (List.forall_mem_cons.mpr ⟨⟨_, _, _, t_Picker, rfl, by decide, w_141, j_Picker, t_Picker_ok, n_Picker, fun z => by cases z⟩, (fun _ h => absurd h List.not_mem_nil)⟩)⟩)⟩)
theorem w_142 : Cond.methodLink "MiddleOne$Picker" 24 y_J_bitCount ∈ TB := tb (mt3 _ (List.mem_of_getElem? (i := 63) rfl)) rfl
theorem w_143 : Cond.methodLink "MiddleOne$Picker" 30 y_Crowd_size ∈ TB := tb (mt3 _ (List.mem_of_getElem? (i := 64) rfl)) rfl
theorem w_144 : Cond.methodLink "MiddleOne$Picker" 34 y_Law_tallness ∈ TB := tb (mt3 _ (List.mem_of_getElem? (i := 65) rfl)) rfl
theorem w_145 : Cond.instanceMethod y_Law_tallness ∈ TB := tb (mt3 _ (List.mem_of_getElem? (i := 8) rfl)) rfl
theorem w_146 : Cond.selects "MiddleOne$Law" y_Law_tallness y_Law_tallness ∈ TB := tb (mt3 _ (List.mem_of_getElem? (i := 9) rfl)) rfl
theorem om_Picker : ∀ e ∈ cm_Picker, am_okM TB cls (gG L xs) "MiddleOne$Picker" e.1 e.2.1 e.2.2.1 e.2.2.2 := (List.forall_mem_cons.mpr ⟨Or.inr (Or.inr (Or.inr ⟨by decide, _, _, _, _, _, k_J_bitCount, w_142, w_82, w_83, by decide +kernel⟩)), (List.forall_mem_cons.mpr ⟨Or.inr (Or.inr (Or.inr ⟨by decide, _, _, _, _, _, k_Crowd_size, w_143, w_34, w_103, w_104, ⟨_, _, rfl⟩, 0, rfl, by decide +kernel⟩)), (List.forall_mem_cons.mpr ⟨Or.inr (Or.inr (Or.inr ⟨by decide, _, _, _, _, _, k_Law_tallness, w_144, w_137, w_145, w_146, ⟨_, _, rfl⟩, 4, rfl, by decide +kernel⟩)), (fun _ h => absurd h List.not_mem_nil)⟩)⟩)⟩)
theorem oi_Picker : ∀ e ∈ ck_Picker, Cond.constant "MiddleOne$Picker" e.1 e.2 ∈ TB := (fun _ h => absurd h List.not_mem_nil)
theorem ol_Picker : ∀ e ∈ cl_Picker, Cond.constantLong "MiddleOne$Picker" e.1 e.2 ∈ TB := (fun _ h => absurd h List.not_mem_nil)
theorem os_Picker : ∀ e ∈ cs_Picker, ∃ C nm, gSt.lookup e.2 = some (C, nm) ∧ Cond.fieldLink "MiddleOne$Picker" e.1 C nm "[I" ∈ TB := (fun _ h => absurd h List.not_mem_nil)
theorem ox_Picker : am_okX TB cls (gG L xs) "MiddleOne$Picker" cx_Picker := ⟨fun idx ci k b h => of_Picker _ (am_lk h), fun idx oc k n h => om_Picker _ (am_lk h), fun idx v h => oi_Picker _ (am_lk h), fun idx v h => ol_Picker _ (am_lk h)⟩
theorem w_147 : Cond.fieldLink "MiddleOne$Reader" 9 "MiddleOne$Reader" "tape" "[I" ∈ TB := tb (mt1 _ (List.mem_of_getElem? (i := 71) rfl)) rfl
theorem w_148 : Cond.fieldLink "MiddleOne$Reader" 13 "MiddleOne$Reader" "length" "I" ∈ TB := tb (mt1 _ (List.mem_of_getElem? (i := 72) rfl)) rfl
theorem w_149 : Cond.fieldLink "MiddleOne$Reader" 17 "MiddleOne$Reader" "place" "I" ∈ TB := tb (mt1 _ (List.mem_of_getElem? (i := 73) rfl)) rfl
theorem w_150 : Cond.fieldLink "MiddleOne$Reader" 20 "MiddleOne$Reader" "steps" "[I" ∈ TB := tb (mt1 _ (List.mem_of_getElem? (i := 74) rfl)) rfl
theorem w_151 : Cond.fieldLink "MiddleOne$Reader" 23 "MiddleOne$Reader" "details" "[I" ∈ TB := tb (mt1 _ (List.mem_of_getElem? (i := 75) rfl)) rfl
theorem w_152 : Cond.fieldLink "MiddleOne$Reader" 26 "MiddleOne$Reader" "made" "I" ∈ TB := tb (mt1 _ (List.mem_of_getElem? (i := 76) rfl)) rfl
theorem of_Reader : ∀ e ∈ cf_Reader, am_okF TB cls "MiddleOne$Reader" e.1 e.2.1 e.2.2.1 e.2.2.2 := (List.forall_mem_cons.mpr ⟨⟨_, _, _, t_Reader, rfl, by decide, w_147, j_Reader, t_Reader_ok, n_Reader, fun z => by cases z⟩, (List.forall_mem_cons.mpr ⟨⟨_, _, _, t_Reader, rfl, by decide, w_148, j_Reader, t_Reader_ok, n_Reader, fun _ => rfl⟩, (List.forall_mem_cons.mpr ⟨⟨_, _, _, t_Reader, rfl, by decide, w_149, j_Reader, t_Reader_ok, n_Reader, fun _ => rfl⟩, (List.forall_mem_cons.mpr ⟨⟨_, _, _, t_Reader, rfl, by decide, w_150, j_Reader, t_Reader_ok, n_Reader, fun z => by cases z⟩, (List.forall_mem_cons.mpr ⟨⟨_, _, _, t_Reader, rfl, by decide, w_151, j_Reader, t_Reader_ok, n_Reader, fun z => by cases z⟩, (List.forall_mem_cons.mpr ⟨⟨_, _, _, t_Reader, rfl, by decide, w_152, j_Reader, t_Reader_ok, n_Reader, fun _ => rfl⟩, (fun _ h => absurd h List.not_mem_nil)⟩)⟩)⟩)⟩)⟩)⟩)
theorem w_153 : Cond.methodLink "MiddleOne$Reader" 29 y_Reader_reads ∈ TB := tb (mt2 _ (List.mem_of_getElem? (i := 193) rfl)) rfl
theorem w_154 : Cond.instanceMethod y_Reader_reads ∈ TB := tb (mt2 _ (List.mem_of_getElem? (i := 195) rfl)) rfl
theorem w_155 : Cond.selects "MiddleOne$Reader" y_Reader_reads y_Reader_reads ∈ TB := tb (List.mem_append_left _ (List.mem_map.mpr ⟨(y_Reader_reads, _), List.mem_append_left _ (List.mem_of_getElem? (i := 3) rfl), rfl⟩)) rfl
theorem w_156 : Cond.methodLink "MiddleOne$Reader" 33 y_Reader_sign ∈ TB := tb (mt2 _ (List.mem_of_getElem? (i := 205) rfl)) rfl
theorem w_157 : Cond.instanceMethod y_Reader_sign ∈ TB := tb (mt2 _ (List.mem_of_getElem? (i := 207) rfl)) rfl
theorem w_158 : Cond.selects "MiddleOne$Reader" y_Reader_sign y_Reader_sign ∈ TB := tb (List.mem_append_left _ (List.mem_map.mpr ⟨(y_Reader_sign, _), List.mem_append_left _ (List.mem_of_getElem? (i := 6) rfl), rfl⟩)) rfl
theorem w_159 : Cond.methodLink "MiddleOne$Reader" 37 Lib.Math.min.name ∈ TB := tb (mt2 _ (List.mem_of_getElem? (i := 234) rfl)) rfl
theorem w_160 : Cond.methodLink "MiddleOne$Reader" 43 arraycopyName ∈ TB := tb (mt2 _ (List.mem_of_getElem? (i := 237) rfl)) rfl
theorem w_161 : Cond.methodLink "MiddleOne$Reader" 49 y_Reader_layer ∈ TB := tb (mt2 _ (List.mem_of_getElem? (i := 197) rfl)) rfl
theorem w_162 : Cond.instanceMethod y_Reader_layer ∈ TB := tb (mt2 _ (List.mem_of_getElem? (i := 199) rfl)) rfl
theorem w_163 : Cond.selects "MiddleOne$Reader" y_Reader_layer y_Reader_layer ∈ TB := tb (List.mem_append_left _ (List.mem_map.mpr ⟨(y_Reader_layer, _), List.mem_append_left _ (List.mem_of_getElem? (i := 4) rfl), rfl⟩)) rfl
theorem w_164 : Cond.methodLink "MiddleOne$Reader" 53 y_Reader_makes ∈ TB := tb (mt2 _ (List.mem_of_getElem? (i := 216) rfl)) rfl
theorem w_165 : Cond.instanceMethod y_Reader_makes ∈ TB := tb (mt2 _ (List.mem_of_getElem? (i := 218) rfl)) rfl
theorem w_166 : Cond.selects "MiddleOne$Reader" y_Reader_makes y_Reader_makes ∈ TB := tb (List.mem_append_left _ (List.mem_map.mpr ⟨(y_Reader_makes, _), List.mem_append_left _ (List.mem_of_getElem? (i := 8) rfl), rfl⟩)) rfl
theorem w_167 : Cond.methodLink "MiddleOne$Reader" 57 y_Reader_operand ∈ TB := tb (mt2 _ (List.mem_of_getElem? (i := 201) rfl)) rfl
theorem w_168 : Cond.instanceMethod y_Reader_operand ∈ TB := tb (mt2 _ (List.mem_of_getElem? (i := 203) rfl)) rfl
theorem w_169 : Cond.selects "MiddleOne$Reader" y_Reader_operand y_Reader_operand ∈ TB := tb (List.mem_append_left _ (List.mem_map.mpr ⟨(y_Reader_operand, _), List.mem_append_left _ (List.mem_of_getElem? (i := 5) rfl), rfl⟩)) rfl
theorem w_170 : Cond.methodLink "MiddleOne$Reader" 61 y_Reader_rankOf ∈ TB := tb (mt2 _ (List.mem_of_getElem? (i := 223) rfl)) rfl
theorem w_171 : Cond.static y_Reader_rankOf ∈ TB := tb (mt2 _ (List.mem_of_getElem? (i := 224) rfl)) rfl
theorem w_172 : Cond.methodLink "MiddleOne$Reader" 65 y_Reader_isDigit ∈ TB := tb (mt2 _ (List.mem_of_getElem? (i := 209) rfl)) rfl
theorem w_173 : Cond.static y_Reader_isDigit ∈ TB := tb (mt2 _ (List.mem_of_getElem? (i := 210) rfl)) rfl
theorem w_174 : Cond.methodLink "MiddleOne$Reader" 68 y_Reader_digits ∈ TB := tb (mt2 _ (List.mem_of_getElem? (i := 212) rfl)) rfl
theorem w_175 : Cond.instanceMethod y_Reader_digits ∈ TB := tb (mt2 _ (List.mem_of_getElem? (i := 214) rfl)) rfl
theorem w_176 : Cond.selects "MiddleOne$Reader" y_Reader_digits y_Reader_digits ∈ TB := tb (List.mem_append_left _ (List.mem_map.mpr ⟨(y_Reader_digits, _), List.mem_append_left _ (List.mem_of_getElem? (i := 7) rfl), rfl⟩)) rfl
theorem w_177 : Cond.methodLink "MiddleOne$Reader" 71 y_Reader_isName ∈ TB := tb (mt2 _ (List.mem_of_getElem? (i := 220) rfl)) rfl
theorem w_178 : Cond.static y_Reader_isName ∈ TB := tb (mt2 _ (List.mem_of_getElem? (i := 221) rfl)) rfl
theorem om_Reader : ∀ e ∈ cm_Reader, am_okM TB cls (gG L xs) "MiddleOne$Reader" e.1 e.2.1 e.2.2.1 e.2.2.2 := (List.forall_mem_cons.mpr ⟨Or.inr (Or.inr (Or.inr ⟨by decide, _, _, _, _, _, k_Reader_reads, w_153, w_131, w_154, w_155, ⟨_, _, rfl⟩, 0, rfl, by decide +kernel⟩)), (List.forall_mem_cons.mpr ⟨Or.inr (Or.inr (Or.inr ⟨by decide, _, _, _, _, _, k_Reader_sign, w_156, w_131, w_157, w_158, ⟨_, _, rfl⟩, 0, rfl, by decide +kernel⟩)), (List.forall_mem_cons.mpr ⟨Or.inr (Or.inr (Or.inl ⟨rfl, rfl, w_159, w_100, w_86, w_101⟩)), (List.forall_mem_cons.mpr ⟨Or.inl ⟨rfl, rfl, w_160, w_41, w_42, w_43⟩, (List.forall_mem_cons.mpr ⟨Or.inr (Or.inr (Or.inr ⟨by decide, _, _, _, _, _, k_Reader_layer, w_161, w_131, w_162, w_163, ⟨_, _, rfl⟩, 2, rfl, by decide +kernel⟩)), (List.forall_mem_cons.mpr ⟨Or.inr (Or.inr (Or.inr ⟨by decide, _, _, _, _, _, k_Reader_makes, w_164, w_131, w_165, w_166, ⟨_, _, rfl⟩, 2, rfl, by decide +kernel⟩)), (List.forall_mem_cons.mpr ⟨Or.inr (Or.inr (Or.inr ⟨by decide, _, _, _, _, _, k_Reader_operand, w_167, w_131, w_168, w_169, ⟨_, _, rfl⟩, 1, rfl, by decide +kernel⟩)), (List.forall_mem_cons.mpr ⟨Or.inr (Or.inr (Or.inr ⟨by decide, _, _, _, _, _, k_Reader_rankOf, w_170, w_131, w_171, by decide +kernel⟩)), (List.forall_mem_cons.mpr ⟨Or.inr (Or.inr (Or.inr ⟨by decide, _, _, _, _, _, k_Reader_isDigit, w_172, w_131, w_173, by decide +kernel⟩)), (List.forall_mem_cons.mpr ⟨Or.inr (Or.inr (Or.inr ⟨by decide, _, _, _, _, _, k_Reader_digits, w_174, w_131, w_175, w_176, ⟨_, _, rfl⟩, 0, rfl, by decide +kernel⟩)), (List.forall_mem_cons.mpr ⟨Or.inr (Or.inr (Or.inr ⟨by decide, _, _, _, _, _, k_Reader_isName, w_177, w_131, w_178, by decide +kernel⟩)), (fun _ h => absurd h List.not_mem_nil)⟩)⟩)⟩)⟩)⟩)⟩)⟩)⟩)⟩)⟩)⟩)
theorem oi_Reader : ∀ e ∈ ck_Reader, Cond.constant "MiddleOne$Reader" e.1 e.2 ∈ TB := (fun _ h => absurd h List.not_mem_nil)
theorem ol_Reader : ∀ e ∈ cl_Reader, Cond.constantLong "MiddleOne$Reader" e.1 e.2 ∈ TB := (fun _ h => absurd h List.not_mem_nil)
theorem os_Reader : ∀ e ∈ cs_Reader, ∃ C nm, gSt.lookup e.2 = some (C, nm) ∧ Cond.fieldLink "MiddleOne$Reader" e.1 C nm "[I" ∈ TB := (fun _ h => absurd h List.not_mem_nil)
theorem ox_Reader : am_okX TB cls (gG L xs) "MiddleOne$Reader" cx_Reader := ⟨fun idx ci k b h => of_Reader _ (am_lk h), fun idx oc k n h => om_Reader _ (am_lk h), fun idx v h => oi_Reader _ (am_lk h), fun idx v h => ol_Reader _ (am_lk h)⟩
theorem w_179 : Cond.fieldLink "MiddleOne$Seen" 9 "MiddleOne$Seen" "told" "LMiddleOne$Crowd;" ∈ TB := tb (mt1 _ (List.mem_of_getElem? (i := 181) rfl)) rfl
theorem w_180 : Cond.fieldLink "MiddleOne$Seen" 15 "MiddleOne$Seen" "day" "LMiddleOne$Day;" ∈ TB := tb (mt1 _ (List.mem_of_getElem? (i := 182) rfl)) rfl
theorem w_181 : Cond.fieldLink "MiddleOne$Seen" 19 "MiddleOne$Seen" "shelves" "LMiddleOne$Shelves;" ∈ TB := tb (mt1 _ (List.mem_of_getElem? (i := 183) rfl)) rfl
theorem of_Seen : ∀ e ∈ cf_Seen, am_okF TB cls "MiddleOne$Seen" e.1 e.2.1 e.2.2.1 e.2.2.2 := (List.forall_mem_cons.mpr ⟨⟨_, _, _, t_Seen, rfl, by decide, w_179, j_Seen, t_Seen_ok, n_Seen, fun z => by cases z⟩, (List.forall_mem_cons.mpr ⟨⟨_, _, _, t_Seen, rfl, by decide, w_180, j_Seen, t_Seen_ok, n_Seen, fun z => by cases z⟩, (List.forall_mem_cons.mpr ⟨⟨_, _, _, t_Seen, rfl, by decide, w_181, j_Seen, t_Seen_ok, n_Seen, fun z => by cases z⟩, (fun _ h => absurd h List.not_mem_nil)⟩)⟩)⟩)
theorem w_182 : Cond.methodLink "MiddleOne$Seen" 23 y_Day_begins ∈ TB := tb (mt4 _ (List.mem_of_getElem? (i := 31) rfl)) rfl
theorem w_183 : Cond.instanceMethod y_Day_begins ∈ TB := tb (mt3 _ (List.mem_of_getElem? (i := 26) rfl)) rfl
theorem w_184 : Cond.selects "MiddleOne$Day" y_Day_begins y_Day_begins ∈ TB := tb (mt3 _ (List.mem_of_getElem? (i := 27) rfl)) rfl
theorem w_185 : Cond.methodLink "MiddleOne$Seen" 29 y_Seen_goesOnUnlike ∈ TB := tb (mt4 _ (List.mem_of_getElem? (i := 32) rfl)) rfl
theorem w_186 : Cond.initialized "MiddleOne$Seen" ∈ TB := tb (mt1 _ (List.mem_of_getElem? (i := 10) rfl)) rfl
theorem w_187 : Cond.instanceMethod y_Seen_goesOnUnlike ∈ TB := tb (mt4 _ (List.mem_of_getElem? (i := 34) rfl)) rfl
theorem w_188 : Cond.selects "MiddleOne$Seen" y_Seen_goesOnUnlike y_Seen_goesOnUnlike ∈ TB := tb (List.mem_append_left _ (List.mem_map.mpr ⟨(y_Seen_goesOnUnlike, _), List.mem_append_left _ (List.mem_of_getElem? (i := 14) rfl), rfl⟩)) rfl
theorem w_189 : Cond.methodLink "MiddleOne$Seen" 33 y_Shelves_sizeOf ∈ TB := tb (mt4 _ (List.mem_of_getElem? (i := 36) rfl)) rfl
theorem w_190 : Cond.initialized "MiddleOne$Shelves" ∈ TB := tb (mt1 _ (List.mem_of_getElem? (i := 8) rfl)) rfl
theorem w_191 : Cond.instanceMethod y_Shelves_sizeOf ∈ TB := tb (mt2 _ (List.mem_of_getElem? (i := 111) rfl)) rfl
theorem w_192 : Cond.selects "MiddleOne$Shelves" y_Shelves_sizeOf y_Shelves_sizeOf ∈ TB := tb (mt2 _ (List.mem_of_getElem? (i := 112) rfl)) rfl
theorem w_193 : Cond.methodLink "MiddleOne$Seen" 38 y_Day_passes ∈ TB := tb (mt4 _ (List.mem_of_getElem? (i := 37) rfl)) rfl
theorem w_194 : Cond.instanceMethod y_Day_passes ∈ TB := tb (mt3 _ (List.mem_of_getElem? (i := 78) rfl)) rfl
theorem w_195 : Cond.selects "MiddleOne$Day" y_Day_passes y_Day_passes ∈ TB := tb (mt3 _ (List.mem_of_getElem? (i := 79) rfl)) rfl
theorem w_196 : Cond.methodLink "MiddleOne$Seen" 41 y_Shelves_cell ∈ TB := tb (mt4 _ (List.mem_of_getElem? (i := 38) rfl)) rfl
theorem w_197 : Cond.instanceMethod y_Shelves_cell ∈ TB := tb (mt2 _ (List.mem_of_getElem? (i := 115) rfl)) rfl
theorem w_198 : Cond.selects "MiddleOne$Shelves" y_Shelves_cell y_Shelves_cell ∈ TB := tb (mt2 _ (List.mem_of_getElem? (i := 116) rfl)) rfl
theorem w_199 : Cond.methodLink "MiddleOne$Seen" 45 y_Crowd_everyone ∈ TB := tb (mt4 _ (List.mem_of_getElem? (i := 47) rfl)) rfl
theorem w_200 : Cond.methodLink "MiddleOne$Seen" 51 y_Day_again ∈ TB := tb (mt4 _ (List.mem_of_getElem? (i := 48) rfl)) rfl
theorem w_201 : Cond.methodLink "MiddleOne$Seen" 55 y_Crowd_size ∈ TB := tb (mt4 _ (List.mem_of_getElem? (i := 57) rfl)) rfl
theorem w_202 : Cond.methodLink "MiddleOne$Seen" 58 y_Crowd_number ∈ TB := tb (mt4 _ (List.mem_of_getElem? (i := 58) rfl)) rfl
theorem w_203 : Cond.methodLink "MiddleOne$Seen" 62 Lib.Math.min.name ∈ TB := tb (mt4 _ (List.mem_of_getElem? (i := 59) rfl)) rfl
theorem w_204 : Cond.methodLink "MiddleOne$Seen" 67 y_Day_who ∈ TB := tb (mt4 _ (List.mem_of_getElem? (i := 60) rfl)) rfl
theorem w_205 : Cond.instanceMethod y_Day_who ∈ TB := tb (mt3 _ (List.mem_of_getElem? (i := 157) rfl)) rfl
theorem w_206 : Cond.selects "MiddleOne$Day" y_Day_who y_Day_who ∈ TB := tb (mt3 _ (List.mem_of_getElem? (i := 158) rfl)) rfl
theorem w_207 : Cond.methodLink "MiddleOne$Seen" 71 y_Crowd_setNumber ∈ TB := tb (mt4 _ (List.mem_of_getElem? (i := 61) rfl)) rfl
theorem w_208 : Cond.methodLink "MiddleOne$Seen" 78 y_Day_runs ∈ TB := tb (mt4 _ (List.mem_of_getElem? (i := 71) rfl)) rfl
theorem w_209 : Cond.instanceMethod y_Day_runs ∈ TB := tb (mt3 _ (List.mem_of_getElem? (i := 74) rfl)) rfl
theorem w_210 : Cond.selects "MiddleOne$Day" y_Day_runs y_Day_runs ∈ TB := tb (mt3 _ (List.mem_of_getElem? (i := 75) rfl)) rfl
theorem w_211 : Cond.methodLink "MiddleOne$Seen" 81 y_Day_inSince ∈ TB := tb (mt4 _ (List.mem_of_getElem? (i := 72) rfl)) rfl
theorem w_212 : Cond.instanceMethod y_Day_inSince ∈ TB := tb (mt3 _ (List.mem_of_getElem? (i := 149) rfl)) rfl
theorem w_213 : Cond.selects "MiddleOne$Day" y_Day_inSince y_Day_inSince ∈ TB := tb (mt3 _ (List.mem_of_getElem? (i := 150) rfl)) rfl
theorem om_Seen : ∀ e ∈ cm_Seen, am_okM TB cls (gG L xs) "MiddleOne$Seen" e.1 e.2.1 e.2.2.1 e.2.2.2 := (List.forall_mem_cons.mpr ⟨Or.inr (Or.inr (Or.inr ⟨by decide, _, _, _, _, _, k_Day_begins, w_182, w_73, w_183, w_184, ⟨_, _, rfl⟩, 1, rfl, by decide +kernel⟩)), (List.forall_mem_cons.mpr ⟨Or.inr (Or.inr (Or.inr ⟨by decide, _, _, _, _, _, k_Seen_goesOnUnlike, w_185, w_186, w_187, w_188, ⟨_, _, rfl⟩, 1, rfl, by decide +kernel⟩)), (List.forall_mem_cons.mpr ⟨Or.inr (Or.inr (Or.inr ⟨by decide, _, _, _, _, _, k_Shelves_sizeOf, w_189, w_190, w_191, w_192, ⟨_, _, rfl⟩, 1, rfl, by decide +kernel⟩)), (List.forall_mem_cons.mpr ⟨Or.inr (Or.inr (Or.inr ⟨by decide, _, _, _, _, _, k_Day_passes, w_193, w_73, w_194, w_195, ⟨_, _, rfl⟩, 1, rfl, by decide +kernel⟩)), (List.forall_mem_cons.mpr ⟨Or.inr (Or.inr (Or.inr ⟨by decide, _, _, _, _, _, k_Shelves_cell, w_196, w_190, w_197, w_198, ⟨_, _, rfl⟩, 2, rfl, by decide +kernel⟩)), (List.forall_mem_cons.mpr ⟨Or.inr (Or.inr (Or.inr ⟨by decide, _, _, _, _, _, k_Crowd_everyone, w_199, w_34, w_70, w_71, ⟨_, _, rfl⟩, 0, rfl, by decide +kernel⟩)), (List.forall_mem_cons.mpr ⟨Or.inr (Or.inr (Or.inr ⟨by decide, _, _, _, _, _, k_Day_again, w_200, w_73, w_74, w_75, ⟨_, _, rfl⟩, 1, rfl, by decide +kernel⟩)), (List.forall_mem_cons.mpr ⟨Or.inr (Or.inr (Or.inr ⟨by decide, _, _, _, _, _, k_Crowd_size, w_201, w_34, w_103, w_104, ⟨_, _, rfl⟩, 0, rfl, by decide +kernel⟩)), (List.forall_mem_cons.mpr ⟨Or.inr (Or.inr (Or.inr ⟨by decide, _, _, _, _, _, k_Crowd_number, w_202, w_34, w_35, w_36, ⟨_, _, rfl⟩, 2, rfl, by decide +kernel⟩)), (List.forall_mem_cons.mpr ⟨Or.inr (Or.inr (Or.inl ⟨rfl, rfl, w_203, w_100, w_86, w_101⟩)), (List.forall_mem_cons.mpr ⟨Or.inr (Or.inr (Or.inr ⟨by decide, _, _, _, _, _, k_Day_who, w_204, w_73, w_205, w_206, ⟨_, _, rfl⟩, 0, rfl, by decide +kernel⟩)), (List.forall_mem_cons.mpr ⟨Or.inr (Or.inr (Or.inr ⟨by decide, _, _, _, _, _, k_Crowd_setNumber, w_207, w_34, w_38, w_39, ⟨_, _, rfl⟩, 3, rfl, by decide +kernel⟩)), (List.forall_mem_cons.mpr ⟨Or.inr (Or.inr (Or.inr ⟨by decide, _, _, _, _, _, k_Day_runs, w_208, w_73, w_209, w_210, ⟨_, _, rfl⟩, 2, rfl, by decide +kernel⟩)), (List.forall_mem_cons.mpr ⟨Or.inr (Or.inr (Or.inr ⟨by decide, _, _, _, _, _, k_Day_inSince, w_211, w_73, w_212, w_213, ⟨_, _, rfl⟩, 1, rfl, by decide +kernel⟩)), (fun _ h => absurd h List.not_mem_nil)⟩)⟩)⟩)⟩)⟩)⟩)⟩)⟩)⟩)⟩)⟩)⟩)⟩)⟩)
theorem w_214 : Cond.constant "MiddleOne$Seen" 75 (1103515245) ∈ TB := tb (mt4 _ (List.mem_of_getElem? (i := 70) rfl)) rfl
theorem oi_Seen : ∀ e ∈ ck_Seen, Cond.constant "MiddleOne$Seen" e.1 e.2 ∈ TB := (List.forall_mem_cons.mpr ⟨w_214, (fun _ h => absurd h List.not_mem_nil)⟩)
theorem ol_Seen : ∀ e ∈ cl_Seen, Cond.constantLong "MiddleOne$Seen" e.1 e.2 ∈ TB := (fun _ h => absurd h List.not_mem_nil)
theorem os_Seen : ∀ e ∈ cs_Seen, ∃ C nm, gSt.lookup e.2 = some (C, nm) ∧ Cond.fieldLink "MiddleOne$Seen" e.1 C nm "[I" ∈ TB := (fun _ h => absurd h List.not_mem_nil)
theorem ox_Seen : am_okX TB cls (gG L xs) "MiddleOne$Seen" cx_Seen := ⟨fun idx ci k b h => of_Seen _ (am_lk h), fun idx oc k n h => om_Seen _ (am_lk h), fun idx v h => oi_Seen _ (am_lk h), fun idx v h => ol_Seen _ (am_lk h)⟩
theorem w_215 : Cond.fieldLink "MiddleOne$Shelves" 9 "MiddleOne$Shelves" "bodies" "[I" ∈ TB := tb (mt1 _ (List.mem_of_getElem? (i := 161) rfl)) rfl
theorem w_216 : Cond.fieldLink "MiddleOne$Shelves" 13 "MiddleOne$Shelves" "sorts" "[I" ∈ TB := tb (mt1 _ (List.mem_of_getElem? (i := 162) rfl)) rfl
theorem w_217 : Cond.fieldLink "MiddleOne$Shelves" 16 "MiddleOne$Shelves" "sizes" "[I" ∈ TB := tb (mt1 _ (List.mem_of_getElem? (i := 163) rfl)) rfl
theorem w_218 : Cond.fieldLink "MiddleOne$Shelves" 19 "MiddleOne$Shelves" "cells" "[J" ∈ TB := tb (mt1 _ (List.mem_of_getElem? (i := 164) rfl)) rfl
theorem of_Shelves : ∀ e ∈ cf_Shelves, am_okF TB cls "MiddleOne$Shelves" e.1 e.2.1 e.2.2.1 e.2.2.2 := (List.forall_mem_cons.mpr ⟨⟨_, _, _, t_Shelves, rfl, by decide, w_215, j_Shelves, t_Shelves_ok, n_Shelves, fun z => by cases z⟩, (List.forall_mem_cons.mpr ⟨⟨_, _, _, t_Shelves, rfl, by decide, w_216, j_Shelves, t_Shelves_ok, n_Shelves, fun z => by cases z⟩, (List.forall_mem_cons.mpr ⟨⟨_, _, _, t_Shelves, rfl, by decide, w_217, j_Shelves, t_Shelves_ok, n_Shelves, fun z => by cases z⟩, (List.forall_mem_cons.mpr ⟨⟨_, _, _, t_Shelves, rfl, by decide, w_218, j_Shelves, t_Shelves_ok, n_Shelves, fun z => by cases z⟩, (fun _ h => absurd h List.not_mem_nil)⟩)⟩)⟩)⟩)
theorem w_219 : Cond.methodLink "MiddleOne$Shelves" 23 y_J_fillI ∈ TB := tb (mt1 _ (List.mem_of_getElem? (i := 158) rfl)) rfl
theorem w_220 : Cond.methodLink "MiddleOne$Shelves" 29 y_Shelves_isShelf ∈ TB := tb (mt2 _ (List.mem_of_getElem? (i := 97) rfl)) rfl
theorem w_221 : Cond.static y_Shelves_isShelf ∈ TB := tb (mt2 _ (List.mem_of_getElem? (i := 91) rfl)) rfl
theorem w_222 : Cond.methodLink "MiddleOne$Shelves" 33 y_Shelves_sizeOf ∈ TB := tb (mt2 _ (List.mem_of_getElem? (i := 110) rfl)) rfl
theorem w_223 : Cond.methodLink "MiddleOne$Shelves" 37 y_J_fillL ∈ TB := tb (mt4 _ (List.mem_of_getElem? (i := 226) rfl)) rfl
theorem w_224 : Cond.static y_J_fillL ∈ TB := tb (mt4 _ (List.mem_of_getElem? (i := 227) rfl)) rfl
theorem w_225 : Cond.methodLink "MiddleOne$Shelves" 40 y_Shelves_isPlace ∈ TB := tb (mt2 _ (List.mem_of_getElem? (i := 118) rfl)) rfl
theorem w_226 : Cond.instanceMethod y_Shelves_isPlace ∈ TB := tb (mt2 _ (List.mem_of_getElem? (i := 107) rfl)) rfl
theorem w_227 : Cond.selects "MiddleOne$Shelves" y_Shelves_isPlace y_Shelves_isPlace ∈ TB := tb (mt2 _ (List.mem_of_getElem? (i := 108) rfl)) rfl
theorem w_228 : Cond.methodLink "MiddleOne$Shelves" 44 y_Shelves_narrowed ∈ TB := tb (mt5 _ (List.mem_of_getElem? (i := 8) rfl)) rfl
theorem w_229 : Cond.static y_Shelves_narrowed ∈ TB := tb (mt5 _ (List.mem_of_getElem? (i := 9) rfl)) rfl
theorem w_230 : Cond.methodLink "MiddleOne$Shelves" 48 y_Shelves_isSpan ∈ TB := tb (mt5 _ (List.mem_of_getElem? (i := 31) rfl)) rfl
theorem w_231 : Cond.instanceMethod y_Shelves_isSpan ∈ TB := tb (mt5 _ (List.mem_of_getElem? (i := 24) rfl)) rfl
theorem w_232 : Cond.selects "MiddleOne$Shelves" y_Shelves_isSpan y_Shelves_isSpan ∈ TB := tb (mt5 _ (List.mem_of_getElem? (i := 25) rfl)) rfl
theorem w_233 : Cond.methodLink "MiddleOne$Shelves" 52 arraycopyName ∈ TB := tb (mt5 _ (List.mem_of_getElem? (i := 32) rfl)) rfl
theorem om_Shelves : ∀ e ∈ cm_Shelves, am_okM TB cls (gG L xs) "MiddleOne$Shelves" e.1 e.2.1 e.2.2.1 e.2.2.2 := (List.forall_mem_cons.mpr ⟨Or.inr (Or.inr (Or.inr ⟨by decide, _, _, _, _, _, k_J_fillI, w_219, w_55, w_56, by decide +kernel⟩)), (List.forall_mem_cons.mpr ⟨Or.inr (Or.inr (Or.inr ⟨by decide, _, _, _, _, _, k_Shelves_isShelf, w_220, w_190, w_221, by decide +kernel⟩)), (List.forall_mem_cons.mpr ⟨Or.inr (Or.inr (Or.inr ⟨by decide, _, _, _, _, _, k_Shelves_sizeOf, w_222, w_190, w_191, w_192, ⟨_, _, rfl⟩, 1, rfl, by decide +kernel⟩)), (List.forall_mem_cons.mpr ⟨Or.inr (Or.inr (Or.inr ⟨by decide, _, _, _, _, _, k_J_fillL, w_223, w_55, w_224, by decide +kernel⟩)), (List.forall_mem_cons.mpr ⟨Or.inr (Or.inr (Or.inr ⟨by decide, _, _, _, _, _, k_Shelves_isPlace, w_225, w_190, w_226, w_227, ⟨_, _, rfl⟩, 2, rfl, by decide +kernel⟩)), (List.forall_mem_cons.mpr ⟨Or.inr (Or.inr (Or.inr ⟨by decide, _, _, _, _, _, k_Shelves_narrowed, w_228, w_190, w_229, by decide +kernel⟩)), (List.forall_mem_cons.mpr ⟨Or.inr (Or.inr (Or.inr ⟨by decide, _, _, _, _, _, k_Shelves_isSpan, w_230, w_190, w_231, w_232, ⟨_, _, rfl⟩, 3, rfl, by decide +kernel⟩)), (List.forall_mem_cons.mpr ⟨Or.inl ⟨rfl, rfl, w_233, w_41, w_42, w_43⟩, (fun _ h => absurd h List.not_mem_nil)⟩)⟩)⟩)⟩)⟩)⟩)⟩)⟩)
theorem oi_Shelves : ∀ e ∈ ck_Shelves, Cond.constant "MiddleOne$Shelves" e.1 e.2 ∈ TB := (fun _ h => absurd h List.not_mem_nil)
theorem ol_Shelves : ∀ e ∈ cl_Shelves, Cond.constantLong "MiddleOne$Shelves" e.1 e.2 ∈ TB := (fun _ h => absurd h List.not_mem_nil)
theorem os_Shelves : ∀ e ∈ cs_Shelves, ∃ C nm, gSt.lookup e.2 = some (C, nm) ∧ Cond.fieldLink "MiddleOne$Shelves" e.1 C nm "[I" ∈ TB := (fun _ h => absurd h List.not_mem_nil)
theorem ox_Shelves : am_okX TB cls (gG L xs) "MiddleOne$Shelves" cx_Shelves := ⟨fun idx ci k b h => of_Shelves _ (am_lk h), fun idx oc k n h => om_Shelves _ (am_lk h), fun idx v h => oi_Shelves _ (am_lk h), fun idx v h => ol_Shelves _ (am_lk h)⟩
theorem w_234 : Cond.fieldLink "MiddleOne$Wishes" 9 "MiddleOne$Wishes" "told" "LMiddleOne$Crowd;" ∈ TB := tb (mt1 _ (List.mem_of_getElem? (i := 142) rfl)) rfl
theorem w_235 : Cond.fieldLink "MiddleOne$Wishes" 15 "MiddleOne$Wishes" "day" "LMiddleOne$Day;" ∈ TB := tb (mt1 _ (List.mem_of_getElem? (i := 143) rfl)) rfl
theorem w_236 : Cond.fieldLink "MiddleOne$Wishes" 19 "MiddleOne$Wishes" "picker" "LMiddleOne$Picker;" ∈ TB := tb (mt1 _ (List.mem_of_getElem? (i := 144) rfl)) rfl
theorem of_Wishes : ∀ e ∈ cf_Wishes, am_okF TB cls "MiddleOne$Wishes" e.1 e.2.1 e.2.2.1 e.2.2.2 := (List.forall_mem_cons.mpr ⟨⟨_, _, _, t_Wishes, rfl, by decide, w_234, j_Wishes, t_Wishes_ok, n_Wishes, fun z => by cases z⟩, (List.forall_mem_cons.mpr ⟨⟨_, _, _, t_Wishes, rfl, by decide, w_235, j_Wishes, t_Wishes_ok, n_Wishes, fun z => by cases z⟩, (List.forall_mem_cons.mpr ⟨⟨_, _, _, t_Wishes, rfl, by decide, w_236, j_Wishes, t_Wishes_ok, n_Wishes, fun z => by cases z⟩, (fun _ h => absurd h List.not_mem_nil)⟩)⟩)⟩)
theorem w_237 : Cond.methodLink "MiddleOne$Wishes" 23 y_Day_begins ∈ TB := tb (mt3 _ (List.mem_of_getElem? (i := 123) rfl)) rfl
theorem w_238 : Cond.methodLink "MiddleOne$Wishes" 29 y_Crowd_comeBy ∈ TB := tb (mt3 _ (List.mem_of_getElem? (i := 124) rfl)) rfl
theorem w_239 : Cond.instanceMethod y_Crowd_comeBy ∈ TB := tb (mt3 _ (List.mem_of_getElem? (i := 125) rfl)) rfl
theorem w_240 : Cond.selects "MiddleOne$Crowd" y_Crowd_comeBy y_Crowd_comeBy ∈ TB := tb (mt3 _ (List.mem_of_getElem? (i := 126) rfl)) rfl
theorem w_241 : Cond.methodLink "MiddleOne$Wishes" 35 y_Crowd_priceOf ∈ TB := tb (mt3 _ (List.mem_of_getElem? (i := 128) rfl)) rfl
theorem w_242 : Cond.instanceMethod y_Crowd_priceOf ∈ TB := tb (mt3 _ (List.mem_of_getElem? (i := 129) rfl)) rfl
theorem w_243 : Cond.selects "MiddleOne$Crowd" y_Crowd_priceOf y_Crowd_priceOf ∈ TB := tb (mt3 _ (List.mem_of_getElem? (i := 130) rfl)) rfl
theorem w_244 : Cond.methodLink "MiddleOne$Wishes" 38 y_Wishes_isBetter ∈ TB := tb (mt3 _ (List.mem_of_getElem? (i := 132) rfl)) rfl
theorem w_245 : Cond.initialized "MiddleOne$Wishes" ∈ TB := tb (mt1 _ (List.mem_of_getElem? (i := 7) rfl)) rfl
theorem w_246 : Cond.static y_Wishes_isBetter ∈ TB := tb (mt3 _ (List.mem_of_getElem? (i := 133) rfl)) rfl
theorem w_247 : Cond.methodLink "MiddleOne$Wishes" 42 y_Crowd_everyone ∈ TB := tb (mt3 _ (List.mem_of_getElem? (i := 136) rfl)) rfl
theorem w_248 : Cond.methodLink "MiddleOne$Wishes" 46 y_Day_again ∈ TB := tb (mt3 _ (List.mem_of_getElem? (i := 137) rfl)) rfl
theorem w_249 : Cond.methodLink "MiddleOne$Wishes" 50 y_Day_till ∈ TB := tb (mt3 _ (List.mem_of_getElem? (i := 138) rfl)) rfl
theorem w_250 : Cond.instanceMethod y_Day_till ∈ TB := tb (mt3 _ (List.mem_of_getElem? (i := 41) rfl)) rfl
theorem w_251 : Cond.selects "MiddleOne$Day" y_Day_till y_Day_till ∈ TB := tb (mt3 _ (List.mem_of_getElem? (i := 42) rfl)) rfl
theorem w_252 : Cond.methodLink "MiddleOne$Wishes" 54 y_J_bitCount ∈ TB := tb (mt3 _ (List.mem_of_getElem? (i := 135) rfl)) rfl
theorem w_253 : Cond.methodLink "MiddleOne$Wishes" 61 y_Day_runs ∈ TB := tb (mt3 _ (List.mem_of_getElem? (i := 147) rfl)) rfl
theorem w_254 : Cond.methodLink "MiddleOne$Wishes" 64 y_Day_inSince ∈ TB := tb (mt3 _ (List.mem_of_getElem? (i := 148) rfl)) rfl
theorem w_255 : Cond.methodLink "MiddleOne$Wishes" 67 y_Wishes_heightOfBoys ∈ TB := tb (mt3 _ (List.mem_of_getElem? (i := 152) rfl)) rfl
theorem w_256 : Cond.instanceMethod y_Wishes_heightOfBoys ∈ TB := tb (mt3 _ (List.mem_of_getElem? (i := 154) rfl)) rfl
theorem w_257 : Cond.selects "MiddleOne$Wishes" y_Wishes_heightOfBoys y_Wishes_heightOfBoys ∈ TB := tb (List.mem_append_left _ (List.mem_map.mpr ⟨(y_Wishes_heightOfBoys, _), List.mem_append_left _ (List.mem_of_getElem? (i := 10) rfl), rfl⟩)) rfl
theorem w_258 : Cond.methodLink "MiddleOne$Wishes" 71 y_Day_who ∈ TB := tb (mt3 _ (List.mem_of_getElem? (i := 156) rfl)) rfl
theorem w_259 : Cond.methodLink "MiddleOne$Wishes" 75 y_Crowd_size ∈ TB := tb (mt3 _ (List.mem_of_getElem? (i := 160) rfl)) rfl
theorem w_260 : Cond.methodLink "MiddleOne$Wishes" 78 y_Crowd_shrinks ∈ TB := tb (mt3 _ (List.mem_of_getElem? (i := 161) rfl)) rfl
theorem w_261 : Cond.instanceMethod y_Crowd_shrinks ∈ TB := tb (mt3 _ (List.mem_of_getElem? (i := 162) rfl)) rfl
theorem w_262 : Cond.selects "MiddleOne$Crowd" y_Crowd_shrinks y_Crowd_shrinks ∈ TB := tb (mt3 _ (List.mem_of_getElem? (i := 163) rfl)) rfl
theorem w_263 : Cond.methodLink "MiddleOne$Wishes" 81 y_Crowd_joins ∈ TB := tb (mt3 _ (List.mem_of_getElem? (i := 165) rfl)) rfl
theorem w_264 : Cond.instanceMethod y_Crowd_joins ∈ TB := tb (mt2 _ (List.mem_of_getElem? (i := 83) rfl)) rfl
theorem w_265 : Cond.selects "MiddleOne$Crowd" y_Crowd_joins y_Crowd_joins ∈ TB := tb (mt2 _ (List.mem_of_getElem? (i := 84) rfl)) rfl
theorem w_266 : Cond.methodLink "MiddleOne$Wishes" 84 y_Day_stillOutside ∈ TB := tb (mt3 _ (List.mem_of_getElem? (i := 166) rfl)) rfl
theorem w_267 : Cond.instanceMethod y_Day_stillOutside ∈ TB := tb (mt3 _ (List.mem_of_getElem? (i := 167) rfl)) rfl
theorem w_268 : Cond.selects "MiddleOne$Day" y_Day_stillOutside y_Day_stillOutside ∈ TB := tb (mt3 _ (List.mem_of_getElem? (i := 168) rfl)) rfl
theorem w_269 : Cond.methodLink "MiddleOne$Wishes" 87 y_Crowd_waiting ∈ TB := tb (mt3 _ (List.mem_of_getElem? (i := 170) rfl)) rfl
theorem w_270 : Cond.methodLink "MiddleOne$Wishes" 90 y_Crowd_setNumber ∈ TB := tb (mt3 _ (List.mem_of_getElem? (i := 171) rfl)) rfl
theorem w_271 : Cond.methodLink "MiddleOne$Wishes" 94 y_Picker_picks ∈ TB := tb (mt3 _ (List.mem_of_getElem? (i := 172) rfl)) rfl
theorem w_272 : Cond.methodLink "MiddleOne$Wishes" 98 y_Day_againWith ∈ TB := tb (mt3 _ (List.mem_of_getElem? (i := 181) rfl)) rfl
theorem w_273 : Cond.instanceMethod y_Day_againWith ∈ TB := tb (mt3 _ (List.mem_of_getElem? (i := 182) rfl)) rfl
theorem w_274 : Cond.selects "MiddleOne$Day" y_Day_againWith y_Day_againWith ∈ TB := tb (mt3 _ (List.mem_of_getElem? (i := 183) rfl)) rfl
theorem w_275 : Cond.methodLink "MiddleOne$Wishes" 101 Lib.Math.min.name ∈ TB := tb (mt3 _ (List.mem_of_getElem? (i := 194) rfl)) rfl
theorem w_276 : Cond.methodLink "MiddleOne$Wishes" 106 y_Crowd_number ∈ TB := tb (mt3 _ (List.mem_of_getElem? (i := 207) rfl)) rfl
theorem w_277 : Cond.methodLink "MiddleOne$Wishes" 109 y_Wishes_earliestHeels ∈ TB := tb (mt3 _ (List.mem_of_getElem? (i := 208) rfl)) rfl
theorem w_278 : Cond.instanceMethod y_Wishes_earliestHeels ∈ TB := tb (mt3 _ (List.mem_of_getElem? (i := 210) rfl)) rfl
theorem w_279 : Cond.selects "MiddleOne$Wishes" y_Wishes_earliestHeels y_Wishes_earliestHeels ∈ TB := tb (List.mem_append_left _ (List.mem_map.mpr ⟨(y_Wishes_earliestHeels, _), List.mem_append_left _ (List.mem_of_getElem? (i := 12) rfl), rfl⟩)) rfl
theorem w_280 : Cond.methodLink "MiddleOne$Wishes" 112 y_Day_twoGates ∈ TB := tb (mt3 _ (List.mem_of_getElem? (i := 230) rfl)) rfl
theorem w_281 : Cond.instanceMethod y_Day_twoGates ∈ TB := tb (mt3 _ (List.mem_of_getElem? (i := 218) rfl)) rfl
theorem w_282 : Cond.selects "MiddleOne$Day" y_Day_twoGates y_Day_twoGates ∈ TB := tb (mt3 _ (List.mem_of_getElem? (i := 219) rfl)) rfl
theorem w_283 : Cond.methodLink "MiddleOne$Wishes" 115 y_Day_allAreIn ∈ TB := tb (mt4 _ (List.mem_of_getElem? (i := 15) rfl)) rfl
theorem w_284 : Cond.instanceMethod y_Day_allAreIn ∈ TB := tb (mt4 _ (List.mem_of_getElem? (i := 16) rfl)) rfl
theorem w_285 : Cond.selects "MiddleOne$Day" y_Day_allAreIn y_Day_allAreIn ∈ TB := tb (mt4 _ (List.mem_of_getElem? (i := 17) rfl)) rfl
theorem om_Wishes : ∀ e ∈ cm_Wishes, am_okM TB cls (gG L xs) "MiddleOne$Wishes" e.1 e.2.1 e.2.2.1 e.2.2.2 := (List.forall_mem_cons.mpr ⟨Or.inr (Or.inr (Or.inr ⟨by decide, _, _, _, _, _, k_Day_begins, w_237, w_73, w_183, w_184, ⟨_, _, rfl⟩, 1, rfl, by decide +kernel⟩)), (List.forall_mem_cons.mpr ⟨Or.inr (Or.inr (Or.inr ⟨by decide, _, _, _, _, _, k_Crowd_comeBy, w_238, w_34, w_239, w_240, ⟨_, _, rfl⟩, 1, rfl, by decide +kernel⟩)), (List.forall_mem_cons.mpr ⟨Or.inr (Or.inr (Or.inr ⟨by decide, _, _, _, _, _, k_Crowd_priceOf, w_241, w_34, w_242, w_243, ⟨_, _, rfl⟩, 1, rfl, by decide +kernel⟩)), (List.forall_mem_cons.mpr ⟨Or.inr (Or.inr (Or.inr ⟨by decide, _, _, _, _, _, k_Wishes_isBetter, w_244, w_245, w_246, by decide +kernel⟩)), (List.forall_mem_cons.mpr ⟨Or.inr (Or.inr (Or.inr ⟨by decide, _, _, _, _, _, k_Crowd_everyone, w_247, w_34, w_70, w_71, ⟨_, _, rfl⟩, 0, rfl, by decide +kernel⟩)), (List.forall_mem_cons.mpr ⟨Or.inr (Or.inr (Or.inr ⟨by decide, _, _, _, _, _, k_Day_again, w_248, w_73, w_74, w_75, ⟨_, _, rfl⟩, 1, rfl, by decide +kernel⟩)), (List.forall_mem_cons.mpr ⟨Or.inr (Or.inr (Or.inr ⟨by decide, _, _, _, _, _, k_Day_till, w_249, w_73, w_250, w_251, ⟨_, _, rfl⟩, 2, rfl, by decide +kernel⟩)), (List.forall_mem_cons.mpr ⟨Or.inr (Or.inr (Or.inr ⟨by decide, _, _, _, _, _, k_J_bitCount, w_252, w_82, w_83, by decide +kernel⟩)), (List.forall_mem_cons.mpr ⟨Or.inr (Or.inr (Or.inr ⟨by decide, _, _, _, _, _, k_Day_runs, w_253, w_73, w_209, w_210, ⟨_, _, rfl⟩, 2, rfl, by decide +kernel⟩)), (List.forall_mem_cons.mpr ⟨Or.inr (Or.inr (Or.inr ⟨by decide, _, _, _, _, _, k_Day_inSince, w_254, w_73, w_212, w_213, ⟨_, _, rfl⟩, 1, rfl, by decide +kernel⟩)), (List.forall_mem_cons.mpr ⟨Or.inr (Or.inr (Or.inr ⟨by decide, _, _, _, _, _, k_Wishes_heightOfBoys, w_255, w_245, w_256, w_257, ⟨_, _, rfl⟩, 3, rfl, by decide +kernel⟩)), (List.forall_mem_cons.mpr ⟨Or.inr (Or.inr (Or.inr ⟨by decide, _, _, _, _, _, k_Day_who, w_258, w_73, w_205, w_206, ⟨_, _, rfl⟩, 0, rfl, by decide +kernel⟩)), (List.forall_mem_cons.mpr ⟨Or.inr (Or.inr (Or.inr ⟨by decide, _, _, _, _, _, k_Crowd_size, w_259, w_34, w_103, w_104, ⟨_, _, rfl⟩, 0, rfl, by decide +kernel⟩)), (List.forall_mem_cons.mpr ⟨Or.inr (Or.inr (Or.inr ⟨by decide, _, _, _, _, _, k_Crowd_shrinks, w_260, w_34, w_261, w_262, ⟨_, _, rfl⟩, 1, rfl, by decide +kernel⟩)), (List.forall_mem_cons.mpr ⟨Or.inr (Or.inr (Or.inr ⟨by decide, _, _, _, _, _, k_Crowd_joins, w_263, w_34, w_264, w_265, ⟨_, _, rfl⟩, 3, rfl, by decide +kernel⟩)), (List.forall_mem_cons.mpr ⟨Or.inr (Or.inr (Or.inr ⟨by decide, _, _, _, _, _, k_Day_stillOutside, w_266, w_73, w_267, w_268, ⟨_, _, rfl⟩, 0, rfl, by decide +kernel⟩)), (List.forall_mem_cons.mpr ⟨Or.inr (Or.inr (Or.inr ⟨by decide, _, _, _, _, _, k_Crowd_waiting, w_269, w_34, w_79, w_80, ⟨_, _, rfl⟩, 2, rfl, by decide +kernel⟩)), (List.forall_mem_cons.mpr ⟨Or.inr (Or.inr (Or.inr ⟨by decide, _, _, _, _, _, k_Crowd_setNumber, w_270, w_34, w_38, w_39, ⟨_, _, rfl⟩, 3, rfl, by decide +kernel⟩)), (List.forall_mem_cons.mpr ⟨Or.inr (Or.inr (Or.inr ⟨by decide, _, _, _, _, _, k_Picker_picks, w_271, w_89, w_90, w_91, ⟨_, _, rfl⟩, 4, rfl, by decide +kernel⟩)), (List.forall_mem_cons.mpr ⟨Or.inr (Or.inr (Or.inr ⟨by decide, _, _, _, _, _, k_Day_againWith, w_272, w_73, w_273, w_274, ⟨_, _, rfl⟩, 3, rfl, by decide +kernel⟩)), (List.forall_mem_cons.mpr ⟨Or.inr (Or.inr (Or.inl ⟨rfl, rfl, w_275, w_100, w_86, w_101⟩)), (List.forall_mem_cons.mpr ⟨Or.inr (Or.inr (Or.inr ⟨by decide, _, _, _, _, _, k_Crowd_number, w_276, w_34, w_35, w_36, ⟨_, _, rfl⟩, 2, rfl, by decide +kernel⟩)), (List.forall_mem_cons.mpr ⟨Or.inr (Or.inr (Or.inr ⟨by decide, _, _, _, _, _, k_Wishes_earliestHeels, w_277, w_245, w_278, w_279, ⟨_, _, rfl⟩, 1, rfl, by decide +kernel⟩)), (List.forall_mem_cons.mpr ⟨Or.inr (Or.inr (Or.inr ⟨by decide, _, _, _, _, _, k_Day_twoGates, w_280, w_73, w_281, w_282, ⟨_, _, rfl⟩, 2, rfl, by decide +kernel⟩)), (List.forall_mem_cons.mpr ⟨Or.inr (Or.inr (Or.inr ⟨by decide, _, _, _, _, _, k_Day_allAreIn, w_283, w_73, w_284, w_285, ⟨_, _, rfl⟩, 0, rfl, by decide +kernel⟩)), (fun _ h => absurd h List.not_mem_nil)⟩)⟩)⟩)⟩)⟩)⟩)⟩)⟩)⟩)⟩)⟩)⟩)⟩)⟩)⟩)⟩)⟩)⟩)⟩)⟩)⟩)⟩)⟩)⟩)⟩)
theorem oi_Wishes : ∀ e ∈ ck_Wishes, Cond.constant "MiddleOne$Wishes" e.1 e.2 ∈ TB := (fun _ h => absurd h List.not_mem_nil)
theorem ol_Wishes : ∀ e ∈ cl_Wishes, Cond.constantLong "MiddleOne$Wishes" e.1 e.2 ∈ TB := (fun _ h => absurd h List.not_mem_nil)
theorem os_Wishes : ∀ e ∈ cs_Wishes, ∃ C nm, gSt.lookup e.2 = some (C, nm) ∧ Cond.fieldLink "MiddleOne$Wishes" e.1 C nm "[I" ∈ TB := (fun _ h => absurd h List.not_mem_nil)
theorem ox_Wishes : am_okX TB cls (gG L xs) "MiddleOne$Wishes" cx_Wishes := ⟨fun idx ci k b h => of_Wishes _ (am_lk h), fun idx oc k n h => om_Wishes _ (am_lk h), fun idx v h => oi_Wishes _ (am_lk h), fun idx v h => ol_Wishes _ (am_lk h)⟩
theorem w_286 : Cond.fieldLink "MiddleOne" 10 "MiddleOne" "told" "LMiddleOne$Crowd;" ∈ TB := tb (mt2 _ (List.mem_of_getElem? (i := 33) rfl)) rfl
theorem w_287 : Cond.fieldLink "MiddleOne" 19 "MiddleOne" "law" "LMiddleOne$Law;" ∈ TB := tb (mt2 _ (List.mem_of_getElem? (i := 34) rfl)) rfl
theorem w_288 : Cond.fieldLink "MiddleOne" 26 "MiddleOne" "reader" "LMiddleOne$Reader;" ∈ TB := tb (mt2 _ (List.mem_of_getElem? (i := 35) rfl)) rfl
theorem w_289 : Cond.fieldLink "MiddleOne" 40 "MiddleOne" "day" "LMiddleOne$Day;" ∈ TB := tb (mt2 _ (List.mem_of_getElem? (i := 36) rfl)) rfl
theorem w_290 : Cond.fieldLink "MiddleOne" 49 "MiddleOne" "wishes" "LMiddleOne$Wishes;" ∈ TB := tb (mt2 _ (List.mem_of_getElem? (i := 37) rfl)) rfl
theorem w_291 : Cond.fieldLink "MiddleOne" 56 "MiddleOne" "shelves" "LMiddleOne$Shelves;" ∈ TB := tb (mt2 _ (List.mem_of_getElem? (i := 42) rfl)) rfl
theorem w_292 : Cond.fieldLink "MiddleOne" 65 "MiddleOne" "seen" "LMiddleOne$Seen;" ∈ TB := tb (mt2 _ (List.mem_of_getElem? (i := 38) rfl)) rfl
theorem w_293 : Cond.fieldLink "MiddleOne" 74 "MiddleOne" "deed" "LMiddleOne$Deed;" ∈ TB := tb (mt2 _ (List.mem_of_getElem? (i := 39) rfl)) rfl
theorem w_294 : Cond.fieldLink "MiddleOne" 83 "MiddleOne" "changes" "LMiddleOne$Changes;" ∈ TB := tb (mt2 _ (List.mem_of_getElem? (i := 40) rfl)) rfl
theorem w_295 : Cond.fieldLink "MiddleOne" 90 "MiddleOne" "acts" "LMiddleOne$Acts;" ∈ TB := tb (mt2 _ (List.mem_of_getElem? (i := 41) rfl)) rfl
theorem of_Mo : ∀ e ∈ cf_Mo, am_okF TB cls "MiddleOne" e.1 e.2.1 e.2.2.1 e.2.2.2 := (List.forall_mem_cons.mpr ⟨⟨_, _, _, t_Mo, rfl, by decide, w_286, j_Mo, t_Mo_ok, n_Mo, fun z => by cases z⟩, (List.forall_mem_cons.mpr ⟨⟨_, _, _, t_Mo, rfl, by decide, w_287, j_Mo, t_Mo_ok, n_Mo, fun z => by cases z⟩, (List.forall_mem_cons.mpr ⟨⟨_, _, _, t_Mo, rfl, by decide, w_288, j_Mo, t_Mo_ok, n_Mo, fun z => by cases z⟩, (List.forall_mem_cons.mpr ⟨⟨_, _, _, t_Mo, rfl, by decide, w_289, j_Mo, t_Mo_ok, n_Mo, fun z => by cases z⟩, (List.forall_mem_cons.mpr ⟨⟨_, _, _, t_Mo, rfl, by decide, w_290, j_Mo, t_Mo_ok, n_Mo, fun z => by cases z⟩, (List.forall_mem_cons.mpr ⟨⟨_, _, _, t_Mo, rfl, by decide, w_291, j_Mo, t_Mo_ok, n_Mo, fun z => by cases z⟩, (List.forall_mem_cons.mpr ⟨⟨_, _, _, t_Mo, rfl, by decide, w_292, j_Mo, t_Mo_ok, n_Mo, fun z => by cases z⟩, (List.forall_mem_cons.mpr ⟨⟨_, _, _, t_Mo, rfl, by decide, w_293, j_Mo, t_Mo_ok, n_Mo, fun z => by cases z⟩, (List.forall_mem_cons.mpr ⟨⟨_, _, _, t_Mo, rfl, by decide, w_294, j_Mo, t_Mo_ok, n_Mo, fun z => by cases z⟩, (List.forall_mem_cons.mpr ⟨⟨_, _, _, t_Mo, rfl, by decide, w_295, j_Mo, t_Mo_ok, n_Mo, fun z => by cases z⟩, (fun _ h => absurd h List.not_mem_nil)⟩)⟩)⟩)⟩)⟩)⟩)⟩)⟩)⟩)⟩)
theorem w_296 : Cond.methodLink "MiddleOne" 94 y_Crowd_fits ∈ TB := tb (mt2 _ (List.mem_of_getElem? (i := 68) rfl)) rfl
theorem w_297 : Cond.static y_Crowd_fits ∈ TB := tb (mt2 _ (List.mem_of_getElem? (i := 69) rfl)) rfl
theorem w_298 : Cond.methodLink "MiddleOne" 98 y_Crowd_size ∈ TB := tb (mt2 _ (List.mem_of_getElem? (i := 78) rfl)) rfl
theorem w_299 : Cond.methodLink "MiddleOne" 102 y_Crowd_joins ∈ TB := tb (mt2 _ (List.mem_of_getElem? (i := 82) rfl)) rfl
theorem w_300 : Cond.methodLink "MiddleOne" 106 y_Shelves_isShelf ∈ TB := tb (mt2 _ (List.mem_of_getElem? (i := 90) rfl)) rfl
theorem w_301 : Cond.methodLink "MiddleOne" 110 y_Shelves_isBare ∈ TB := tb (mt2 _ (List.mem_of_getElem? (i := 93) rfl)) rfl
theorem w_302 : Cond.instanceMethod y_Shelves_isBare ∈ TB := tb (mt2 _ (List.mem_of_getElem? (i := 94) rfl)) rfl
theorem w_303 : Cond.selects "MiddleOne$Shelves" y_Shelves_isBare y_Shelves_isBare ∈ TB := tb (mt2 _ (List.mem_of_getElem? (i := 95) rfl)) rfl
theorem w_304 : Cond.methodLink "MiddleOne" 113 y_Shelves_holdsRow ∈ TB := tb (mt2 _ (List.mem_of_getElem? (i := 98) rfl)) rfl
theorem w_305 : Cond.instanceMethod y_Shelves_holdsRow ∈ TB := tb (mt2 _ (List.mem_of_getElem? (i := 99) rfl)) rfl
theorem w_306 : Cond.selects "MiddleOne$Shelves" y_Shelves_holdsRow y_Shelves_holdsRow ∈ TB := tb (mt2 _ (List.mem_of_getElem? (i := 100) rfl)) rfl
theorem w_307 : Cond.methodLink "MiddleOne" 116 y_Mo_joinFromRow ∈ TB := tb (mt2 _ (List.mem_of_getElem? (i := 102) rfl)) rfl
theorem w_308 : Cond.initialized "MiddleOne" ∈ TB := tb (mt1 _ (List.mem_of_getElem? (i := 1) rfl)) rfl
theorem w_309 : Cond.instanceMethod y_Mo_joinFromRow ∈ TB := tb (mt2 _ (List.mem_of_getElem? (i := 104) rfl)) rfl
theorem w_310 : Cond.selects "MiddleOne" y_Mo_joinFromRow y_Mo_joinFromRow ∈ TB := tb (List.mem_append_left _ (List.mem_map.mpr ⟨(y_Mo_joinFromRow, _), List.mem_append_left _ (List.mem_of_getElem? (i := 0) rfl), rfl⟩)) rfl
theorem w_311 : Cond.methodLink "MiddleOne" 119 y_Shelves_isPlace ∈ TB := tb (mt2 _ (List.mem_of_getElem? (i := 106) rfl)) rfl
theorem w_312 : Cond.methodLink "MiddleOne" 122 y_Shelves_cell ∈ TB := tb (mt2 _ (List.mem_of_getElem? (i := 114) rfl)) rfl
theorem w_313 : Cond.methodLink "MiddleOne" 126 y_Crowd_has ∈ TB := tb (mt2 _ (List.mem_of_getElem? (i := 123) rfl)) rfl
theorem w_314 : Cond.methodLink "MiddleOne" 129 y_Crowd_number ∈ TB := tb (mt2 _ (List.mem_of_getElem? (i := 127) rfl)) rfl
theorem w_315 : Cond.methodLink "MiddleOne" 133 y_Changes_happens ∈ TB := tb (mt2 _ (List.mem_of_getElem? (i := 131) rfl)) rfl
theorem w_316 : Cond.instanceMethod y_Changes_happens ∈ TB := tb (mt2 _ (List.mem_of_getElem? (i := 132) rfl)) rfl
theorem w_317 : Cond.selects "MiddleOne$Changes" y_Changes_happens y_Changes_happens ∈ TB := tb (mt2 _ (List.mem_of_getElem? (i := 133) rfl)) rfl
theorem w_318 : Cond.methodLink "MiddleOne" 137 y_Crowd_isNumber ∈ TB := tb (mt2 _ (List.mem_of_getElem? (i := 151) rfl)) rfl
theorem w_319 : Cond.methodLink "MiddleOne" 140 y_Deed_waitingNow ∈ TB := tb (mt2 _ (List.mem_of_getElem? (i := 152) rfl)) rfl
theorem w_320 : Cond.methodLink "MiddleOne" 143 y_Deed_inSince ∈ TB := tb (mt2 _ (List.mem_of_getElem? (i := 169) rfl)) rfl
theorem w_321 : Cond.instanceMethod y_Deed_inSince ∈ TB := tb (mt2 _ (List.mem_of_getElem? (i := 170) rfl)) rfl
theorem w_322 : Cond.selects "MiddleOne$Deed" y_Deed_inSince y_Deed_inSince ∈ TB := tb (mt2 _ (List.mem_of_getElem? (i := 171) rfl)) rfl
theorem w_323 : Cond.methodLink "MiddleOne" 147 y_Reader_isFull ∈ TB := tb (mt2 _ (List.mem_of_getElem? (i := 177) rfl)) rfl
theorem w_324 : Cond.instanceMethod y_Reader_isFull ∈ TB := tb (mt2 _ (List.mem_of_getElem? (i := 178) rfl)) rfl
theorem w_325 : Cond.selects "MiddleOne$Reader" y_Reader_isFull y_Reader_isFull ∈ TB := tb (mt2 _ (List.mem_of_getElem? (i := 179) rfl)) rfl
theorem w_326 : Cond.methodLink "MiddleOne" 151 y_Reader_takes ∈ TB := tb (mt2 _ (List.mem_of_getElem? (i := 181) rfl)) rfl
theorem w_327 : Cond.instanceMethod y_Reader_takes ∈ TB := tb (mt2 _ (List.mem_of_getElem? (i := 182) rfl)) rfl
theorem w_328 : Cond.selects "MiddleOne$Reader" y_Reader_takes y_Reader_takes ∈ TB := tb (mt2 _ (List.mem_of_getElem? (i := 183) rfl)) rfl
theorem w_329 : Cond.methodLink "MiddleOne" 154 y_Reader_faultOfText ∈ TB := tb (mt2 _ (List.mem_of_getElem? (i := 189) rfl)) rfl
theorem w_330 : Cond.instanceMethod y_Reader_faultOfText ∈ TB := tb (mt2 _ (List.mem_of_getElem? (i := 190) rfl)) rfl
theorem w_331 : Cond.selects "MiddleOne$Reader" y_Reader_faultOfText y_Reader_faultOfText ∈ TB := tb (mt2 _ (List.mem_of_getElem? (i := 191) rfl)) rfl
theorem w_332 : Cond.methodLink "MiddleOne" 157 y_Law_learns ∈ TB := tb (mt2 _ (List.mem_of_getElem? (i := 226) rfl)) rfl
theorem w_333 : Cond.instanceMethod y_Law_learns ∈ TB := tb (mt2 _ (List.mem_of_getElem? (i := 227) rfl)) rfl
theorem w_334 : Cond.selects "MiddleOne$Law" y_Law_learns y_Law_learns ∈ TB := tb (mt2 _ (List.mem_of_getElem? (i := 228) rfl)) rfl
theorem w_335 : Cond.methodLink "MiddleOne" 161 y_Reader_clears ∈ TB := tb (mt2 _ (List.mem_of_getElem? (i := 238) rfl)) rfl
theorem w_336 : Cond.instanceMethod y_Reader_clears ∈ TB := tb (mt2 _ (List.mem_of_getElem? (i := 239) rfl)) rfl
theorem w_337 : Cond.selects "MiddleOne$Reader" y_Reader_clears y_Reader_clears ∈ TB := tb (mt3 _ (List.mem_of_getElem? (i := 0) rfl)) rfl
theorem w_338 : Cond.methodLink "MiddleOne" 165 y_Law_tallness ∈ TB := tb (mt3 _ (List.mem_of_getElem? (i := 7) rfl)) rfl
theorem w_339 : Cond.methodLink "MiddleOne" 169 y_Mo_isDay ∈ TB := tb (mt3 _ (List.mem_of_getElem? (i := 22) rfl)) rfl
theorem w_340 : Cond.static y_Mo_isDay ∈ TB := tb (mt3 _ (List.mem_of_getElem? (i := 23) rfl)) rfl
theorem w_341 : Cond.methodLink "MiddleOne" 172 y_Day_begins ∈ TB := tb (mt3 _ (List.mem_of_getElem? (i := 25) rfl)) rfl
theorem w_342 : Cond.methodLink "MiddleOne" 175 y_Day_till ∈ TB := tb (mt3 _ (List.mem_of_getElem? (i := 40) rfl)) rfl
theorem w_343 : Cond.methodLink "MiddleOne" 178 y_Mo_isEither ∈ TB := tb (mt3 _ (List.mem_of_getElem? (i := 70) rfl)) rfl
theorem w_344 : Cond.static y_Mo_isEither ∈ TB := tb (mt3 _ (List.mem_of_getElem? (i := 71) rfl)) rfl
theorem w_345 : Cond.methodLink "MiddleOne" 181 y_Day_runs ∈ TB := tb (mt3 _ (List.mem_of_getElem? (i := 73) rfl)) rfl
theorem w_346 : Cond.methodLink "MiddleOne" 184 y_Day_passes ∈ TB := tb (mt3 _ (List.mem_of_getElem? (i := 77) rfl)) rfl
theorem w_347 : Cond.methodLink "MiddleOne" 187 y_Day_waitedLast ∈ TB := tb (mt3 _ (List.mem_of_getElem? (i := 81) rfl)) rfl
theorem w_348 : Cond.instanceMethod y_Day_waitedLast ∈ TB := tb (mt3 _ (List.mem_of_getElem? (i := 82) rfl)) rfl
theorem w_349 : Cond.selects "MiddleOne$Day" y_Day_waitedLast y_Day_waitedLast ∈ TB := tb (mt3 _ (List.mem_of_getElem? (i := 83) rfl)) rfl
theorem w_350 : Cond.methodLink "MiddleOne" 190 y_Day_wentWithout ∈ TB := tb (mt3 _ (List.mem_of_getElem? (i := 89) rfl)) rfl
theorem w_351 : Cond.instanceMethod y_Day_wentWithout ∈ TB := tb (mt3 _ (List.mem_of_getElem? (i := 90) rfl)) rfl
theorem w_352 : Cond.selects "MiddleOne$Day" y_Day_wentWithout y_Day_wentWithout ∈ TB := tb (mt3 _ (List.mem_of_getElem? (i := 91) rfl)) rfl
theorem w_353 : Cond.methodLink "MiddleOne" 193 y_Day_mostWaited ∈ TB := tb (mt3 _ (List.mem_of_getElem? (i := 94) rfl)) rfl
theorem w_354 : Cond.instanceMethod y_Day_mostWaited ∈ TB := tb (mt3 _ (List.mem_of_getElem? (i := 95) rfl)) rfl
theorem w_355 : Cond.selects "MiddleOne$Day" y_Day_mostWaited y_Day_mostWaited ∈ TB := tb (mt3 _ (List.mem_of_getElem? (i := 96) rfl)) rfl
theorem w_356 : Cond.methodLink "MiddleOne" 202 y_Day_waitsWithin ∈ TB := tb (mt3 _ (List.mem_of_getElem? (i := 104) rfl)) rfl
theorem w_357 : Cond.instanceMethod y_Day_waitsWithin ∈ TB := tb (mt3 _ (List.mem_of_getElem? (i := 105) rfl)) rfl
theorem w_358 : Cond.selects "MiddleOne$Day" y_Day_waitsWithin y_Day_waitsWithin ∈ TB := tb (mt3 _ (List.mem_of_getElem? (i := 106) rfl)) rfl
theorem w_359 : Cond.methodLink "MiddleOne" 205 y_Day_heightsWithin ∈ TB := tb (mt3 _ (List.mem_of_getElem? (i := 108) rfl)) rfl
theorem w_360 : Cond.instanceMethod y_Day_heightsWithin ∈ TB := tb (mt3 _ (List.mem_of_getElem? (i := 109) rfl)) rfl
theorem w_361 : Cond.selects "MiddleOne$Day" y_Day_heightsWithin y_Day_heightsWithin ∈ TB := tb (mt3 _ (List.mem_of_getElem? (i := 110) rfl)) rfl
theorem w_362 : Cond.methodLink "MiddleOne" 208 y_Mo_sharedDivisor ∈ TB := tb (mt3 _ (List.mem_of_getElem? (i := 112) rfl)) rfl
theorem w_363 : Cond.static y_Mo_sharedDivisor ∈ TB := tb (mt3 _ (List.mem_of_getElem? (i := 113) rfl)) rfl
theorem w_364 : Cond.methodLink "MiddleOne" 211 y_Wishes_sentAway ∈ TB := tb (mt3 _ (List.mem_of_getElem? (i := 119) rfl)) rfl
theorem w_365 : Cond.instanceMethod y_Wishes_sentAway ∈ TB := tb (mt3 _ (List.mem_of_getElem? (i := 120) rfl)) rfl
theorem w_366 : Cond.selects "MiddleOne$Wishes" y_Wishes_sentAway y_Wishes_sentAway ∈ TB := tb (mt3 _ (List.mem_of_getElem? (i := 121) rfl)) rfl
theorem w_367 : Cond.methodLink "MiddleOne" 215 y_Wishes_boysFor ∈ TB := tb (mt3 _ (List.mem_of_getElem? (i := 143) rfl)) rfl
theorem w_368 : Cond.instanceMethod y_Wishes_boysFor ∈ TB := tb (mt3 _ (List.mem_of_getElem? (i := 144) rfl)) rfl
theorem w_369 : Cond.selects "MiddleOne$Wishes" y_Wishes_boysFor y_Wishes_boysFor ∈ TB := tb (mt3 _ (List.mem_of_getElem? (i := 145) rfl)) rfl
theorem w_370 : Cond.methodLink "MiddleOne" 218 y_Wishes_heelsFor ∈ TB := tb (mt3 _ (List.mem_of_getElem? (i := 177) rfl)) rfl
theorem w_371 : Cond.instanceMethod y_Wishes_heelsFor ∈ TB := tb (mt3 _ (List.mem_of_getElem? (i := 178) rfl)) rfl
theorem w_372 : Cond.selects "MiddleOne$Wishes" y_Wishes_heelsFor y_Wishes_heelsFor ∈ TB := tb (mt3 _ (List.mem_of_getElem? (i := 179) rfl)) rfl
theorem w_373 : Cond.methodLink "MiddleOne" 221 y_Wishes_comesBest ∈ TB := tb (mt3 _ (List.mem_of_getElem? (i := 190) rfl)) rfl
theorem w_374 : Cond.instanceMethod y_Wishes_comesBest ∈ TB := tb (mt3 _ (List.mem_of_getElem? (i := 191) rfl)) rfl
theorem w_375 : Cond.selects "MiddleOne$Wishes" y_Wishes_comesBest y_Wishes_comesBest ∈ TB := tb (mt3 _ (List.mem_of_getElem? (i := 192) rfl)) rfl
theorem w_376 : Cond.methodLink "MiddleOne" 224 y_Mo_isOneOrAll ∈ TB := tb (mt3 _ (List.mem_of_getElem? (i := 199) rfl)) rfl
theorem w_377 : Cond.instanceMethod y_Mo_isOneOrAll ∈ TB := tb (mt3 _ (List.mem_of_getElem? (i := 201) rfl)) rfl
theorem w_378 : Cond.selects "MiddleOne" y_Mo_isOneOrAll y_Mo_isOneOrAll ∈ TB := tb (List.mem_append_left _ (List.mem_map.mpr ⟨(y_Mo_isOneOrAll, _), List.mem_append_left _ (List.mem_of_getElem? (i := 11) rfl), rfl⟩)) rfl
theorem w_379 : Cond.methodLink "MiddleOne" 227 y_Wishes_allChoose ∈ TB := tb (mt3 _ (List.mem_of_getElem? (i := 203) rfl)) rfl
theorem w_380 : Cond.instanceMethod y_Wishes_allChoose ∈ TB := tb (mt3 _ (List.mem_of_getElem? (i := 204) rfl)) rfl
theorem w_381 : Cond.selects "MiddleOne$Wishes" y_Wishes_allChoose y_Wishes_allChoose ∈ TB := tb (mt3 _ (List.mem_of_getElem? (i := 205) rfl)) rfl
theorem w_382 : Cond.methodLink "MiddleOne" 230 y_Crowd_everyone ∈ TB := tb (mt3 _ (List.mem_of_getElem? (i := 216) rfl)) rfl
theorem w_383 : Cond.methodLink "MiddleOne" 233 y_Day_twoGates ∈ TB := tb (mt3 _ (List.mem_of_getElem? (i := 217) rfl)) rfl
theorem w_384 : Cond.methodLink "MiddleOne" 236 y_Day_inSince ∈ TB := tb (mt3 _ (List.mem_of_getElem? (i := 221) rfl)) rfl
theorem w_385 : Cond.methodLink "MiddleOne" 237 y_Wishes_betterGate ∈ TB := tb (mt3 _ (List.mem_of_getElem? (i := 226) rfl)) rfl
theorem w_386 : Cond.instanceMethod y_Wishes_betterGate ∈ TB := tb (mt3 _ (List.mem_of_getElem? (i := 227) rfl)) rfl
theorem w_387 : Cond.selects "MiddleOne$Wishes" y_Wishes_betterGate y_Wishes_betterGate ∈ TB := tb (mt3 _ (List.mem_of_getElem? (i := 228) rfl)) rfl
theorem w_388 : Cond.methodLink "MiddleOne" 240 y_Wishes_fullestSet ∈ TB := tb (mt3 _ (List.mem_of_getElem? (i := 235) rfl)) rfl
theorem w_389 : Cond.instanceMethod y_Wishes_fullestSet ∈ TB := tb (mt3 _ (List.mem_of_getElem? (i := 236) rfl)) rfl
theorem w_390 : Cond.selects "MiddleOne$Wishes" y_Wishes_fullestSet y_Wishes_fullestSet ∈ TB := tb (mt3 _ (List.mem_of_getElem? (i := 237) rfl)) rfl
theorem w_391 : Cond.methodLink "MiddleOne" 243 y_Day_lastIn ∈ TB := tb (mt4 _ (List.mem_of_getElem? (i := 3) rfl)) rfl
theorem w_392 : Cond.instanceMethod y_Day_lastIn ∈ TB := tb (mt4 _ (List.mem_of_getElem? (i := 4) rfl)) rfl
theorem w_393 : Cond.selects "MiddleOne$Day" y_Day_lastIn y_Day_lastIn ∈ TB := tb (mt4 _ (List.mem_of_getElem? (i := 5) rfl)) rfl
theorem w_394 : Cond.methodLink "MiddleOne" 246 y_Wishes_placeForAll ∈ TB := tb (mt4 _ (List.mem_of_getElem? (i := 11) rfl)) rfl
theorem w_395 : Cond.instanceMethod y_Wishes_placeForAll ∈ TB := tb (mt4 _ (List.mem_of_getElem? (i := 12) rfl)) rfl
theorem w_396 : Cond.selects "MiddleOne$Wishes" y_Wishes_placeForAll y_Wishes_placeForAll ∈ TB := tb (mt4 _ (List.mem_of_getElem? (i := 13) rfl)) rfl
theorem w_397 : Cond.methodLink "MiddleOne" 249 y_Mo_refusedAsSeen ∈ TB := tb (mt4 _ (List.mem_of_getElem? (i := 23) rfl)) rfl
theorem w_398 : Cond.instanceMethod y_Mo_refusedAsSeen ∈ TB := tb (mt4 _ (List.mem_of_getElem? (i := 25) rfl)) rfl
theorem w_399 : Cond.selects "MiddleOne" y_Mo_refusedAsSeen y_Mo_refusedAsSeen ∈ TB := tb (List.mem_append_left _ (List.mem_map.mpr ⟨(y_Mo_refusedAsSeen, _), List.mem_append_left _ (List.mem_of_getElem? (i := 13) rfl), rfl⟩)) rfl
theorem w_400 : Cond.methodLink "MiddleOne" 252 y_Seen_firstUnlike ∈ TB := tb (mt4 _ (List.mem_of_getElem? (i := 27) rfl)) rfl
theorem w_401 : Cond.instanceMethod y_Seen_firstUnlike ∈ TB := tb (mt4 _ (List.mem_of_getElem? (i := 28) rfl)) rfl
theorem w_402 : Cond.selects "MiddleOne$Seen" y_Seen_firstUnlike y_Seen_firstUnlike ∈ TB := tb (mt4 _ (List.mem_of_getElem? (i := 29) rfl)) rfl
theorem w_403 : Cond.methodLink "MiddleOne" 255 y_Seen_setsThatFit ∈ TB := tb (mt4 _ (List.mem_of_getElem? (i := 43) rfl)) rfl
theorem w_404 : Cond.instanceMethod y_Seen_setsThatFit ∈ TB := tb (mt4 _ (List.mem_of_getElem? (i := 44) rfl)) rfl
theorem w_405 : Cond.selects "MiddleOne$Seen" y_Seen_setsThatFit y_Seen_setsThatFit ∈ TB := tb (mt4 _ (List.mem_of_getElem? (i := 45) rfl)) rfl
theorem w_406 : Cond.methodLink "MiddleOne" 258 y_Seen_leastHeeled ∈ TB := tb (mt4 _ (List.mem_of_getElem? (i := 53) rfl)) rfl
theorem w_407 : Cond.instanceMethod y_Seen_leastHeeled ∈ TB := tb (mt4 _ (List.mem_of_getElem? (i := 54) rfl)) rfl
theorem w_408 : Cond.selects "MiddleOne$Seen" y_Seen_leastHeeled y_Seen_leastHeeled ∈ TB := tb (mt4 _ (List.mem_of_getElem? (i := 55) rfl)) rfl
theorem w_409 : Cond.methodLink "MiddleOne" 261 y_Seen_drawnDays ∈ TB := tb (mt4 _ (List.mem_of_getElem? (i := 66) rfl)) rfl
theorem w_410 : Cond.instanceMethod y_Seen_drawnDays ∈ TB := tb (mt4 _ (List.mem_of_getElem? (i := 67) rfl)) rfl
theorem w_411 : Cond.selects "MiddleOne$Seen" y_Seen_drawnDays y_Seen_drawnDays ∈ TB := tb (mt4 _ (List.mem_of_getElem? (i := 68) rfl)) rfl
theorem w_412 : Cond.methodLink "MiddleOne" 264 y_Deed_leads ∈ TB := tb (mt4 _ (List.mem_of_getElem? (i := 77) rfl)) rfl
theorem w_413 : Cond.instanceMethod y_Deed_leads ∈ TB := tb (mt4 _ (List.mem_of_getElem? (i := 78) rfl)) rfl
theorem w_414 : Cond.selects "MiddleOne$Deed" y_Deed_leads y_Deed_leads ∈ TB := tb (mt4 _ (List.mem_of_getElem? (i := 79) rfl)) rfl
theorem w_415 : Cond.methodLink "MiddleOne" 267 y_Deed_opensNow ∈ TB := tb (mt4 _ (List.mem_of_getElem? (i := 81) rfl)) rfl
theorem w_416 : Cond.instanceMethod y_Deed_opensNow ∈ TB := tb (mt4 _ (List.mem_of_getElem? (i := 82) rfl)) rfl
theorem w_417 : Cond.selects "MiddleOne$Deed" y_Deed_opensNow y_Deed_opensNow ∈ TB := tb (mt4 _ (List.mem_of_getElem? (i := 83) rfl)) rfl
theorem w_418 : Cond.methodLink "MiddleOne" 270 y_Deed_sendsAway ∈ TB := tb (mt4 _ (List.mem_of_getElem? (i := 93) rfl)) rfl
theorem w_419 : Cond.instanceMethod y_Deed_sendsAway ∈ TB := tb (mt4 _ (List.mem_of_getElem? (i := 94) rfl)) rfl
theorem w_420 : Cond.selects "MiddleOne$Deed" y_Deed_sendsAway y_Deed_sendsAway ∈ TB := tb (mt4 _ (List.mem_of_getElem? (i := 95) rfl)) rfl
theorem w_421 : Cond.methodLink "MiddleOne" 273 y_Deed_dawns ∈ TB := tb (mt4 _ (List.mem_of_getElem? (i := 101) rfl)) rfl
theorem w_422 : Cond.instanceMethod y_Deed_dawns ∈ TB := tb (mt4 _ (List.mem_of_getElem? (i := 102) rfl)) rfl
theorem w_423 : Cond.selects "MiddleOne$Deed" y_Deed_dawns y_Deed_dawns ∈ TB := tb (mt4 _ (List.mem_of_getElem? (i := 103) rfl)) rfl
theorem w_424 : Cond.methodLink "MiddleOne" 276 y_Deed_keepsImage ∈ TB := tb (mt4 _ (List.mem_of_getElem? (i := 117) rfl)) rfl
theorem w_425 : Cond.instanceMethod y_Deed_keepsImage ∈ TB := tb (mt4 _ (List.mem_of_getElem? (i := 118) rfl)) rfl
theorem w_426 : Cond.selects "MiddleOne$Deed" y_Deed_keepsImage y_Deed_keepsImage ∈ TB := tb (mt4 _ (List.mem_of_getElem? (i := 119) rfl)) rfl
theorem w_427 : Cond.methodLink "MiddleOne" 279 y_Deed_hasImage ∈ TB := tb (mt4 _ (List.mem_of_getElem? (i := 126) rfl)) rfl
theorem w_428 : Cond.instanceMethod y_Deed_hasImage ∈ TB := tb (mt4 _ (List.mem_of_getElem? (i := 127) rfl)) rfl
theorem w_429 : Cond.selects "MiddleOne$Deed" y_Deed_hasImage y_Deed_hasImage ∈ TB := tb (mt4 _ (List.mem_of_getElem? (i := 128) rfl)) rfl
theorem w_430 : Cond.methodLink "MiddleOne" 282 y_Deed_laysBack ∈ TB := tb (mt4 _ (List.mem_of_getElem? (i := 130) rfl)) rfl
theorem w_431 : Cond.instanceMethod y_Deed_laysBack ∈ TB := tb (mt4 _ (List.mem_of_getElem? (i := 131) rfl)) rfl
theorem w_432 : Cond.selects "MiddleOne$Deed" y_Deed_laysBack y_Deed_laysBack ∈ TB := tb (mt4 _ (List.mem_of_getElem? (i := 132) rfl)) rfl
theorem w_433 : Cond.methodLink "MiddleOne" 285 y_Changes_undoable ∈ TB := tb (mt4 _ (List.mem_of_getElem? (i := 138) rfl)) rfl
theorem w_434 : Cond.instanceMethod y_Changes_undoable ∈ TB := tb (mt4 _ (List.mem_of_getElem? (i := 139) rfl)) rfl
theorem w_435 : Cond.selects "MiddleOne$Changes" y_Changes_undoable y_Changes_undoable ∈ TB := tb (mt4 _ (List.mem_of_getElem? (i := 140) rfl)) rfl
theorem w_436 : Cond.methodLink "MiddleOne" 288 y_Changes_undoes ∈ TB := tb (mt4 _ (List.mem_of_getElem? (i := 142) rfl)) rfl
theorem w_437 : Cond.instanceMethod y_Changes_undoes ∈ TB := tb (mt4 _ (List.mem_of_getElem? (i := 143) rfl)) rfl
theorem w_438 : Cond.selects "MiddleOne$Changes" y_Changes_undoes y_Changes_undoes ∈ TB := tb (mt4 _ (List.mem_of_getElem? (i := 144) rfl)) rfl
theorem w_439 : Cond.methodLink "MiddleOne" 291 y_Changes_redoable ∈ TB := tb (mt4 _ (List.mem_of_getElem? (i := 150) rfl)) rfl
theorem w_440 : Cond.instanceMethod y_Changes_redoable ∈ TB := tb (mt4 _ (List.mem_of_getElem? (i := 151) rfl)) rfl
theorem w_441 : Cond.selects "MiddleOne$Changes" y_Changes_redoable y_Changes_redoable ∈ TB := tb (mt4 _ (List.mem_of_getElem? (i := 152) rfl)) rfl
theorem w_442 : Cond.methodLink "MiddleOne" 294 y_Changes_redoes ∈ TB := tb (mt4 _ (List.mem_of_getElem? (i := 154) rfl)) rfl
theorem w_443 : Cond.instanceMethod y_Changes_redoes ∈ TB := tb (mt4 _ (List.mem_of_getElem? (i := 155) rfl)) rfl
theorem w_444 : Cond.selects "MiddleOne$Changes" y_Changes_redoes y_Changes_redoes ∈ TB := tb (mt4 _ (List.mem_of_getElem? (i := 156) rfl)) rfl
theorem w_445 : Cond.methodLink "MiddleOne" 297 y_Acts_isKind ∈ TB := tb (mt4 _ (List.mem_of_getElem? (i := 162) rfl)) rfl
theorem w_446 : Cond.methodLink "MiddleOne" 300 y_Acts_size ∈ TB := tb (mt4 _ (List.mem_of_getElem? (i := 165) rfl)) rfl
theorem w_447 : Cond.instanceMethod y_Acts_size ∈ TB := tb (mt4 _ (List.mem_of_getElem? (i := 166) rfl)) rfl
theorem w_448 : Cond.selects "MiddleOne$Acts" y_Acts_size y_Acts_size ∈ TB := tb (mt4 _ (List.mem_of_getElem? (i := 167) rfl)) rfl
theorem w_449 : Cond.methodLink "MiddleOne" 301 y_Acts_joins ∈ TB := tb (mt4 _ (List.mem_of_getElem? (i := 169) rfl)) rfl
theorem w_450 : Cond.instanceMethod y_Acts_joins ∈ TB := tb (mt4 _ (List.mem_of_getElem? (i := 170) rfl)) rfl
theorem w_451 : Cond.selects "MiddleOne$Acts" y_Acts_joins y_Acts_joins ∈ TB := tb (mt4 _ (List.mem_of_getElem? (i := 171) rfl)) rfl
theorem w_452 : Cond.methodLink "MiddleOne" 303 y_Acts_does ∈ TB := tb (mt4 _ (List.mem_of_getElem? (i := 177) rfl)) rfl
theorem w_453 : Cond.instanceMethod y_Acts_does ∈ TB := tb (mt4 _ (List.mem_of_getElem? (i := 178) rfl)) rfl
theorem w_454 : Cond.selects "MiddleOne$Acts" y_Acts_does y_Acts_does ∈ TB := tb (mt4 _ (List.mem_of_getElem? (i := 179) rfl)) rfl
theorem w_455 : Cond.methodLink "MiddleOne" 306 y_Acts_traced ∈ TB := tb (mt4 _ (List.mem_of_getElem? (i := 205) rfl)) rfl
theorem w_456 : Cond.instanceMethod y_Acts_traced ∈ TB := tb (mt4 _ (List.mem_of_getElem? (i := 206) rfl)) rfl
theorem w_457 : Cond.selects "MiddleOne$Acts" y_Acts_traced y_Acts_traced ∈ TB := tb (mt4 _ (List.mem_of_getElem? (i := 207) rfl)) rfl
theorem w_458 : Cond.methodLink "MiddleOne" 309 y_Acts_has ∈ TB := tb (mt4 _ (List.mem_of_getElem? (i := 213) rfl)) rfl
theorem w_459 : Cond.methodLink "MiddleOne" 310 y_Shelves_holds ∈ TB := tb (mt4 _ (List.mem_of_getElem? (i := 214) rfl)) rfl
theorem w_460 : Cond.instanceMethod y_Shelves_holds ∈ TB := tb (mt4 _ (List.mem_of_getElem? (i := 215) rfl)) rfl
theorem w_461 : Cond.selects "MiddleOne$Shelves" y_Shelves_holds y_Shelves_holds ∈ TB := tb (mt4 _ (List.mem_of_getElem? (i := 216) rfl)) rfl
theorem w_462 : Cond.methodLink "MiddleOne" 314 y_Shelves_lays ∈ TB := tb (mt4 _ (List.mem_of_getElem? (i := 222) rfl)) rfl
theorem w_463 : Cond.instanceMethod y_Shelves_lays ∈ TB := tb (mt4 _ (List.mem_of_getElem? (i := 223) rfl)) rfl
theorem w_464 : Cond.selects "MiddleOne$Shelves" y_Shelves_lays y_Shelves_lays ∈ TB := tb (mt4 _ (List.mem_of_getElem? (i := 224) rfl)) rfl
theorem w_465 : Cond.methodLink "MiddleOne" 317 y_Mo_refusedAsRow ∈ TB := tb (mt4 _ (List.mem_of_getElem? (i := 236) rfl)) rfl
theorem w_466 : Cond.instanceMethod y_Mo_refusedAsRow ∈ TB := tb (mt4 _ (List.mem_of_getElem? (i := 238) rfl)) rfl
theorem w_467 : Cond.selects "MiddleOne" y_Mo_refusedAsRow y_Mo_refusedAsRow ∈ TB := tb (List.mem_append_left _ (List.mem_map.mpr ⟨(y_Mo_refusedAsRow, _), List.mem_append_right _ (List.mem_append_left _ (List.mem_of_getElem? (i := 1) rfl)), rfl⟩)) rfl
theorem w_468 : Cond.methodLink "MiddleOne" 320 y_Shelves_sets ∈ TB := tb (mt5 _ (List.mem_of_getElem? (i := 4) rfl)) rfl
theorem w_469 : Cond.instanceMethod y_Shelves_sets ∈ TB := tb (mt5 _ (List.mem_of_getElem? (i := 5) rfl)) rfl
theorem w_470 : Cond.selects "MiddleOne$Shelves" y_Shelves_sets y_Shelves_sets ∈ TB := tb (mt5 _ (List.mem_of_getElem? (i := 6) rfl)) rfl
theorem w_471 : Cond.methodLink "MiddleOne" 324 y_Shelves_holdsLikeRows ∈ TB := tb (mt5 _ (List.mem_of_getElem? (i := 19) rfl)) rfl
theorem w_472 : Cond.instanceMethod y_Shelves_holdsLikeRows ∈ TB := tb (mt5 _ (List.mem_of_getElem? (i := 20) rfl)) rfl
theorem w_473 : Cond.selects "MiddleOne$Shelves" y_Shelves_holdsLikeRows y_Shelves_holdsLikeRows ∈ TB := tb (mt5 _ (List.mem_of_getElem? (i := 21) rfl)) rfl
theorem w_474 : Cond.methodLink "MiddleOne" 327 y_Shelves_isSpan ∈ TB := tb (mt5 _ (List.mem_of_getElem? (i := 23) rfl)) rfl
theorem w_475 : Cond.methodLink "MiddleOne" 331 y_Shelves_moves ∈ TB := tb (mt5 _ (List.mem_of_getElem? (i := 27) rfl)) rfl
theorem w_476 : Cond.instanceMethod y_Shelves_moves ∈ TB := tb (mt5 _ (List.mem_of_getElem? (i := 28) rfl)) rfl
theorem w_477 : Cond.selects "MiddleOne$Shelves" y_Shelves_moves y_Shelves_moves ∈ TB := tb (mt5 _ (List.mem_of_getElem? (i := 29) rfl)) rfl
theorem w_478 : Cond.methodLink "MiddleOne" 335 y_Shelves_bodyOn ∈ TB := tb (mt5 _ (List.mem_of_getElem? (i := 0) rfl)) rfl
theorem w_479 : Cond.instanceMethod y_Shelves_bodyOn ∈ TB := tb (mt5 _ (List.mem_of_getElem? (i := 1) rfl)) rfl
theorem w_480 : Cond.selects "MiddleOne$Shelves" y_Shelves_bodyOn y_Shelves_bodyOn ∈ TB := tb (mt5 _ (List.mem_of_getElem? (i := 2) rfl)) rfl
theorem w_481 : Cond.methodLink "MiddleOne" 338 y_Acts_kindOf ∈ TB := tb (mt5 _ (List.mem_of_getElem? (i := 37) rfl)) rfl
theorem w_482 : Cond.instanceMethod y_Acts_kindOf ∈ TB := tb (mt5 _ (List.mem_of_getElem? (i := 38) rfl)) rfl
theorem w_483 : Cond.selects "MiddleOne$Acts" y_Acts_kindOf y_Acts_kindOf ∈ TB := tb (mt5 _ (List.mem_of_getElem? (i := 39) rfl)) rfl
theorem w_484 : Cond.methodLink "MiddleOne" 341 y_Acts_isUnder ∈ TB := tb (mt5 _ (List.mem_of_getElem? (i := 41) rfl)) rfl
theorem w_485 : Cond.static y_Acts_isUnder ∈ TB := tb (mt5 _ (List.mem_of_getElem? (i := 42) rfl)) rfl
theorem w_486 : Cond.methodLink "MiddleOne" 344 y_J_bitCount ∈ TB := tb (mt5 _ (List.mem_of_getElem? (i := 48) rfl)) rfl
theorem w_487 : Cond.methodLink "MiddleOne" 349 y_Deed_numberIn ∈ TB := tb (mt5 _ (List.mem_of_getElem? (i := 49) rfl)) rfl
theorem w_488 : Cond.methodLink "MiddleOne" 352 y_Reader_size ∈ TB := tb (mt5 _ (List.mem_of_getElem? (i := 50) rfl)) rfl
theorem w_489 : Cond.instanceMethod y_Reader_size ∈ TB := tb (mt5 _ (List.mem_of_getElem? (i := 51) rfl)) rfl
theorem w_490 : Cond.selects "MiddleOne$Reader" y_Reader_size y_Reader_size ∈ TB := tb (mt5 _ (List.mem_of_getElem? (i := 52) rfl)) rfl
theorem w_491 : Cond.methodLink "MiddleOne" 353 y_Acts_ranLast ∈ TB := tb (mt5 _ (List.mem_of_getElem? (i := 54) rfl)) rfl
theorem w_492 : Cond.instanceMethod y_Acts_ranLast ∈ TB := tb (mt5 _ (List.mem_of_getElem? (i := 55) rfl)) rfl
theorem w_493 : Cond.selects "MiddleOne$Acts" y_Acts_ranLast y_Acts_ranLast ∈ TB := tb (mt5 _ (List.mem_of_getElem? (i := 56) rfl)) rfl
theorem om_Mo : ∀ e ∈ cm_Mo, am_okM TB cls (gG L xs) "MiddleOne" e.1 e.2.1 e.2.2.1 e.2.2.2 := (List.forall_mem_cons.mpr ⟨Or.inr (Or.inr (Or.inr ⟨by decide, _, _, _, _, _, k_Crowd_fits, w_296, w_34, w_297, by decide +kernel⟩)), (List.forall_mem_cons.mpr ⟨Or.inr (Or.inr (Or.inr ⟨by decide, _, _, _, _, _, k_Crowd_size, w_298, w_34, w_103, w_104, ⟨_, _, rfl⟩, 0, rfl, by decide +kernel⟩)), (List.forall_mem_cons.mpr ⟨Or.inr (Or.inr (Or.inr ⟨by decide, _, _, _, _, _, k_Crowd_joins, w_299, w_34, w_264, w_265, ⟨_, _, rfl⟩, 3, rfl, by decide +kernel⟩)), (List.forall_mem_cons.mpr ⟨Or.inr (Or.inr (Or.inr ⟨by decide, _, _, _, _, _, k_Shelves_isShelf, w_300, w_190, w_221, by decide +kernel⟩)), (List.forall_mem_cons.mpr ⟨Or.inr (Or.inr (Or.inr ⟨by decide, _, _, _, _, _, k_Shelves_isBare, w_301, w_190, w_302, w_303, ⟨_, _, rfl⟩, 1, rfl, by decide +kernel⟩)), (List.forall_mem_cons.mpr ⟨Or.inr (Or.inr (Or.inr ⟨by decide, _, _, _, _, _, k_Shelves_holdsRow, w_304, w_190, w_305, w_306, ⟨_, _, rfl⟩, 2, rfl, by decide +kernel⟩)), (List.forall_mem_cons.mpr ⟨Or.inr (Or.inr (Or.inr ⟨by decide, _, _, _, _, _, k_Mo_joinFromRow, w_307, w_308, w_309, w_310, ⟨_, _, rfl⟩, 3, rfl, by decide +kernel⟩)), (List.forall_mem_cons.mpr ⟨Or.inr (Or.inr (Or.inr ⟨by decide, _, _, _, _, _, k_Shelves_isPlace, w_311, w_190, w_226, w_227, ⟨_, _, rfl⟩, 2, rfl, by decide +kernel⟩)), (List.forall_mem_cons.mpr ⟨Or.inr (Or.inr (Or.inr ⟨by decide, _, _, _, _, _, k_Shelves_cell, w_312, w_190, w_197, w_198, ⟨_, _, rfl⟩, 2, rfl, by decide +kernel⟩)), (List.forall_mem_cons.mpr ⟨Or.inr (Or.inr (Or.inr ⟨by decide, _, _, _, _, _, k_Crowd_has, w_313, w_34, w_93, w_94, ⟨_, _, rfl⟩, 1, rfl, by decide +kernel⟩)), (List.forall_mem_cons.mpr ⟨Or.inr (Or.inr (Or.inr ⟨by decide, _, _, _, _, _, k_Crowd_number, w_314, w_34, w_35, w_36, ⟨_, _, rfl⟩, 2, rfl, by decide +kernel⟩)), (List.forall_mem_cons.mpr ⟨Or.inr (Or.inr (Or.inr ⟨by decide, _, _, _, _, _, k_Changes_happens, w_315, w_30, w_316, w_317, ⟨_, _, rfl⟩, 3, rfl, by decide +kernel⟩)), (List.forall_mem_cons.mpr ⟨Or.inr (Or.inr (Or.inr ⟨by decide, _, _, _, _, _, k_Crowd_isNumber, w_318, w_34, w_49, by decide +kernel⟩)), (List.forall_mem_cons.mpr ⟨Or.inr (Or.inr (Or.inr ⟨by decide, _, _, _, _, _, k_Deed_waitingNow, w_319, w_117, w_118, w_119, ⟨_, _, rfl⟩, 0, rfl, by decide +kernel⟩)), (List.forall_mem_cons.mpr ⟨Or.inr (Or.inr (Or.inr ⟨by decide, _, _, _, _, _, k_Deed_inSince, w_320, w_117, w_321, w_322, ⟨_, _, rfl⟩, 1, rfl, by decide +kernel⟩)), (List.forall_mem_cons.mpr ⟨Or.inr (Or.inr (Or.inr ⟨by decide, _, _, _, _, _, k_Reader_isFull, w_323, w_131, w_324, w_325, ⟨_, _, rfl⟩, 0, rfl, by decide +kernel⟩)), (List.forall_mem_cons.mpr ⟨Or.inr (Or.inr (Or.inr ⟨by decide, _, _, _, _, _, k_Reader_takes, w_326, w_131, w_327, w_328, ⟨_, _, rfl⟩, 1, rfl, by decide +kernel⟩)), (List.forall_mem_cons.mpr ⟨Or.inr (Or.inr (Or.inr ⟨by decide, _, _, _, _, _, k_Reader_faultOfText, w_329, w_131, w_330, w_331, ⟨_, _, rfl⟩, 0, rfl, by decide +kernel⟩)), (List.forall_mem_cons.mpr ⟨Or.inr (Or.inr (Or.inr ⟨by decide, _, _, _, _, _, k_Law_learns, w_332, w_137, w_333, w_334, ⟨_, _, rfl⟩, 1, rfl, by decide +kernel⟩)), (List.forall_mem_cons.mpr ⟨Or.inr (Or.inr (Or.inr ⟨by decide, _, _, _, _, _, k_Reader_clears, w_335, w_131, w_336, w_337, ⟨_, _, rfl⟩, 0, rfl, by decide +kernel⟩)), (List.forall_mem_cons.mpr ⟨Or.inr (Or.inr (Or.inr ⟨by decide, _, _, _, _, _, k_Law_tallness, w_338, w_137, w_145, w_146, ⟨_, _, rfl⟩, 4, rfl, by decide +kernel⟩)), (List.forall_mem_cons.mpr ⟨Or.inr (Or.inr (Or.inr ⟨by decide, _, _, _, _, _, k_Mo_isDay, w_339, w_308, w_340, by decide +kernel⟩)), (List.forall_mem_cons.mpr ⟨Or.inr (Or.inr (Or.inr ⟨by decide, _, _, _, _, _, k_Day_begins, w_341, w_73, w_183, w_184, ⟨_, _, rfl⟩, 1, rfl, by decide +kernel⟩)), (List.forall_mem_cons.mpr ⟨Or.inr (Or.inr (Or.inr ⟨by decide, _, _, _, _, _, k_Day_till, w_342, w_73, w_250, w_251, ⟨_, _, rfl⟩, 2, rfl, by decide +kernel⟩)), (List.forall_mem_cons.mpr ⟨Or.inr (Or.inr (Or.inr ⟨by decide, _, _, _, _, _, k_Mo_isEither, w_343, w_308, w_344, by decide +kernel⟩)), (List.forall_mem_cons.mpr ⟨Or.inr (Or.inr (Or.inr ⟨by decide, _, _, _, _, _, k_Day_runs, w_345, w_73, w_209, w_210, ⟨_, _, rfl⟩, 2, rfl, by decide +kernel⟩)), (List.forall_mem_cons.mpr ⟨Or.inr (Or.inr (Or.inr ⟨by decide, _, _, _, _, _, k_Day_passes, w_346, w_73, w_194, w_195, ⟨_, _, rfl⟩, 1, rfl, by decide +kernel⟩)), (List.forall_mem_cons.mpr ⟨Or.inr (Or.inr (Or.inr ⟨by decide, _, _, _, _, _, k_Day_waitedLast, w_347, w_73, w_348, w_349, ⟨_, _, rfl⟩, 0, rfl, by decide +kernel⟩)), (List.forall_mem_cons.mpr ⟨Or.inr (Or.inr (Or.inr ⟨by decide, _, _, _, _, _, k_Day_wentWithout, w_350, w_73, w_351, w_352, ⟨_, _, rfl⟩, 1, rfl, by decide +kernel⟩)), (List.forall_mem_cons.mpr ⟨Or.inr (Or.inr (Or.inr ⟨by decide, _, _, _, _, _, k_Day_mostWaited, w_353, w_73, w_354, w_355, ⟨_, _, rfl⟩, 0, rfl, by decide +kernel⟩)), (List.forall_mem_cons.mpr ⟨Or.inr (Or.inr (Or.inr ⟨by decide, _, _, _, _, _, k_Day_waitsWithin, w_356, w_73, w_357, w_358, ⟨_, _, rfl⟩, 0, rfl, by decide +kernel⟩)), (List.forall_mem_cons.mpr ⟨Or.inr (Or.inr (Or.inr ⟨by decide, _, _, _, _, _, k_Day_heightsWithin, w_359, w_73, w_360, w_361, ⟨_, _, rfl⟩, 0, rfl, by decide +kernel⟩)), (List.forall_mem_cons.mpr ⟨Or.inr (Or.inr (Or.inr ⟨by decide, _, _, _, _, _, k_Mo_sharedDivisor, w_362, w_308, w_363, by decide +kernel⟩)), (List.forall_mem_cons.mpr ⟨Or.inr (Or.inr (Or.inr ⟨by decide, _, _, _, _, _, k_Wishes_sentAway, w_364, w_245, w_365, w_366, ⟨_, _, rfl⟩, 4, rfl, by decide +kernel⟩)), (List.forall_mem_cons.mpr ⟨Or.inr (Or.inr (Or.inr ⟨by decide, _, _, _, _, _, k_Wishes_boysFor, w_367, w_245, w_368, w_369, ⟨_, _, rfl⟩, 3, rfl, by decide +kernel⟩)), (List.forall_mem_cons.mpr ⟨Or.inr (Or.inr (Or.inr ⟨by decide, _, _, _, _, _, k_Wishes_heelsFor, w_370, w_245, w_371, w_372, ⟨_, _, rfl⟩, 3, rfl, by decide +kernel⟩)), (List.forall_mem_cons.mpr ⟨Or.inr (Or.inr (Or.inr ⟨by decide, _, _, _, _, _, k_Wishes_comesBest, w_373, w_245, w_374, w_375, ⟨_, _, rfl⟩, 1, rfl, by decide +kernel⟩)), (List.forall_mem_cons.mpr ⟨Or.inr (Or.inr (Or.inr ⟨by decide, _, _, _, _, _, k_Mo_isOneOrAll, w_376, w_308, w_377, w_378, ⟨_, _, rfl⟩, 1, rfl, by decide +kernel⟩)), (List.forall_mem_cons.mpr ⟨Or.inr (Or.inr (Or.inr ⟨by decide, _, _, _, _, _, k_Wishes_allChoose, w_379, w_245, w_380, w_381, ⟨_, _, rfl⟩, 1, rfl, by decide +kernel⟩)), (List.forall_mem_cons.mpr ⟨Or.inr (Or.inr (Or.inr ⟨by decide, _, _, _, _, _, k_Crowd_everyone, w_382, w_34, w_70, w_71, ⟨_, _, rfl⟩, 0, rfl, by decide +kernel⟩)), (List.forall_mem_cons.mpr ⟨Or.inr (Or.inr (Or.inr ⟨by decide, _, _, _, _, _, k_Day_twoGates, w_383, w_73, w_281, w_282, ⟨_, _, rfl⟩, 2, rfl, by decide +kernel⟩)), (List.forall_mem_cons.mpr ⟨Or.inr (Or.inr (Or.inr ⟨by decide, _, _, _, _, _, k_Day_inSince, w_384, w_73, w_212, w_213, ⟨_, _, rfl⟩, 1, rfl, by decide +kernel⟩)), (List.forall_mem_cons.mpr ⟨Or.inr (Or.inr (Or.inr ⟨by decide, _, _, _, _, _, k_Wishes_betterGate, w_385, w_245, w_386, w_387, ⟨_, _, rfl⟩, 1, rfl, by decide +kernel⟩)), (List.forall_mem_cons.mpr ⟨Or.inr (Or.inr (Or.inr ⟨by decide, _, _, _, _, _, k_Wishes_fullestSet, w_388, w_245, w_389, w_390, ⟨_, _, rfl⟩, 2, rfl, by decide +kernel⟩)), (List.forall_mem_cons.mpr ⟨Or.inr (Or.inr (Or.inr ⟨by decide, _, _, _, _, _, k_Day_lastIn, w_391, w_73, w_392, w_393, ⟨_, _, rfl⟩, 0, rfl, by decide +kernel⟩)), (List.forall_mem_cons.mpr ⟨Or.inr (Or.inr (Or.inr ⟨by decide, _, _, _, _, _, k_Wishes_placeForAll, w_394, w_245, w_395, w_396, ⟨_, _, rfl⟩, 1, rfl, by decide +kernel⟩)), (List.forall_mem_cons.mpr ⟨Or.inr (Or.inr (Or.inr ⟨by decide, _, _, _, _, _, k_Mo_refusedAsSeen, w_397, w_308, w_398, w_399, ⟨_, _, rfl⟩, 1, rfl, by decide +kernel⟩)), (List.forall_mem_cons.mpr ⟨Or.inr (Or.inr (Or.inr ⟨by decide, _, _, _, _, _, k_Seen_firstUnlike, w_400, w_186, w_401, w_402, ⟨_, _, rfl⟩, 1, rfl, by decide +kernel⟩)), (List.forall_mem_cons.mpr ⟨Or.inr (Or.inr (Or.inr ⟨by decide, _, _, _, _, _, k_Seen_setsThatFit, w_403, w_186, w_404, w_405, ⟨_, _, rfl⟩, 2, rfl, by decide +kernel⟩)), (List.forall_mem_cons.mpr ⟨Or.inr (Or.inr (Or.inr ⟨by decide, _, _, _, _, _, k_Seen_leastHeeled, w_406, w_186, w_407, w_408, ⟨_, _, rfl⟩, 1, rfl, by decide +kernel⟩)), (List.forall_mem_cons.mpr ⟨Or.inr (Or.inr (Or.inr ⟨by decide, _, _, _, _, _, k_Seen_drawnDays, w_409, w_186, w_410, w_411, ⟨_, _, rfl⟩, 3, rfl, by decide +kernel⟩)), (List.forall_mem_cons.mpr ⟨Or.inr (Or.inr (Or.inr ⟨by decide, _, _, _, _, _, k_Deed_leads, w_412, w_117, w_413, w_414, ⟨_, _, rfl⟩, 1, rfl, by decide +kernel⟩)), (List.forall_mem_cons.mpr ⟨Or.inr (Or.inr (Or.inr ⟨by decide, _, _, _, _, _, k_Deed_opensNow, w_415, w_117, w_416, w_417, ⟨_, _, rfl⟩, 0, rfl, by decide +kernel⟩)), (List.forall_mem_cons.mpr ⟨Or.inr (Or.inr (Or.inr ⟨by decide, _, _, _, _, _, k_Deed_sendsAway, w_418, w_117, w_419, w_420, ⟨_, _, rfl⟩, 1, rfl, by decide +kernel⟩)), (List.forall_mem_cons.mpr ⟨Or.inr (Or.inr (Or.inr ⟨by decide, _, _, _, _, _, k_Deed_dawns, w_421, w_117, w_422, w_423, ⟨_, _, rfl⟩, 0, rfl, by decide +kernel⟩)), (List.forall_mem_cons.mpr ⟨Or.inr (Or.inr (Or.inr ⟨by decide, _, _, _, _, _, k_Deed_keepsImage, w_424, w_117, w_425, w_426, ⟨_, _, rfl⟩, 0, rfl, by decide +kernel⟩)), (List.forall_mem_cons.mpr ⟨Or.inr (Or.inr (Or.inr ⟨by decide, _, _, _, _, _, k_Deed_hasImage, w_427, w_117, w_428, w_429, ⟨_, _, rfl⟩, 0, rfl, by decide +kernel⟩)), (List.forall_mem_cons.mpr ⟨Or.inr (Or.inr (Or.inr ⟨by decide, _, _, _, _, _, k_Deed_laysBack, w_430, w_117, w_431, w_432, ⟨_, _, rfl⟩, 0, rfl, by decide +kernel⟩)), (List.forall_mem_cons.mpr ⟨Or.inr (Or.inr (Or.inr ⟨by decide, _, _, _, _, _, k_Changes_undoable, w_433, w_30, w_434, w_435, ⟨_, _, rfl⟩, 0, rfl, by decide +kernel⟩)), (List.forall_mem_cons.mpr ⟨Or.inr (Or.inr (Or.inr ⟨by decide, _, _, _, _, _, k_Changes_undoes, w_436, w_30, w_437, w_438, ⟨_, _, rfl⟩, 0, rfl, by decide +kernel⟩)), (List.forall_mem_cons.mpr ⟨Or.inr (Or.inr (Or.inr ⟨by decide, _, _, _, _, _, k_Changes_redoable, w_439, w_30, w_440, w_441, ⟨_, _, rfl⟩, 0, rfl, by decide +kernel⟩)), (List.forall_mem_cons.mpr ⟨Or.inr (Or.inr (Or.inr ⟨by decide, _, _, _, _, _, k_Changes_redoes, w_442, w_30, w_443, w_444, ⟨_, _, rfl⟩, 0, rfl, by decide +kernel⟩)), (List.forall_mem_cons.mpr ⟨Or.inr (Or.inr (Or.inr ⟨by decide, _, _, _, _, _, k_Acts_isKind, w_445, w_7, w_8, by decide +kernel⟩)), (List.forall_mem_cons.mpr ⟨Or.inr (Or.inr (Or.inr ⟨by decide, _, _, _, _, _, k_Acts_size, w_446, w_7, w_447, w_448, ⟨_, _, rfl⟩, 0, rfl, by decide +kernel⟩)), (List.forall_mem_cons.mpr ⟨Or.inr (Or.inr (Or.inr ⟨by decide, _, _, _, _, _, k_Acts_joins, w_449, w_7, w_450, w_451, ⟨_, _, rfl⟩, 1, rfl, by decide +kernel⟩)), (List.forall_mem_cons.mpr ⟨Or.inr (Or.inr (Or.inr ⟨by decide, _, _, _, _, _, k_Acts_does, w_452, w_7, w_453, w_454, ⟨_, _, rfl⟩, 3, rfl, by decide +kernel⟩)), (List.forall_mem_cons.mpr ⟨Or.inr (Or.inr (Or.inr ⟨by decide, _, _, _, _, _, k_Acts_traced, w_455, w_7, w_456, w_457, ⟨_, _, rfl⟩, 1, rfl, by decide +kernel⟩)), (List.forall_mem_cons.mpr ⟨Or.inr (Or.inr (Or.inr ⟨by decide, _, _, _, _, _, k_Acts_has, w_458, w_7, w_10, w_11, ⟨_, _, rfl⟩, 1, rfl, by decide +kernel⟩)), (List.forall_mem_cons.mpr ⟨Or.inr (Or.inr (Or.inr ⟨by decide, _, _, _, _, _, k_Shelves_holds, w_459, w_190, w_460, w_461, ⟨_, _, rfl⟩, 2, rfl, by decide +kernel⟩)), (List.forall_mem_cons.mpr ⟨Or.inr (Or.inr (Or.inr ⟨by decide, _, _, _, _, _, k_Shelves_lays, w_462, w_190, w_463, w_464, ⟨_, _, rfl⟩, 3, rfl, by decide +kernel⟩)), (List.forall_mem_cons.mpr ⟨Or.inr (Or.inr (Or.inr ⟨by decide, _, _, _, _, _, k_Mo_refusedAsRow, w_465, w_308, w_466, w_467, ⟨_, _, rfl⟩, 1, rfl, by decide +kernel⟩)), (List.forall_mem_cons.mpr ⟨Or.inr (Or.inr (Or.inr ⟨by decide, _, _, _, _, _, k_Shelves_sets, w_468, w_190, w_469, w_470, ⟨_, _, rfl⟩, 3, rfl, by decide +kernel⟩)), (List.forall_mem_cons.mpr ⟨Or.inr (Or.inr (Or.inr ⟨by decide, _, _, _, _, _, k_Shelves_holdsLikeRows, w_471, w_190, w_472, w_473, ⟨_, _, rfl⟩, 2, rfl, by decide +kernel⟩)), (List.forall_mem_cons.mpr ⟨Or.inr (Or.inr (Or.inr ⟨by decide, _, _, _, _, _, k_Shelves_isSpan, w_474, w_190, w_231, w_232, ⟨_, _, rfl⟩, 3, rfl, by decide +kernel⟩)), (List.forall_mem_cons.mpr ⟨Or.inr (Or.inr (Or.inr ⟨by decide, _, _, _, _, _, k_Shelves_moves, w_475, w_190, w_476, w_477, ⟨_, _, rfl⟩, 5, rfl, by decide +kernel⟩)), (List.forall_mem_cons.mpr ⟨Or.inr (Or.inr (Or.inr ⟨by decide, _, _, _, _, _, k_Shelves_bodyOn, w_478, w_190, w_479, w_480, ⟨_, _, rfl⟩, 1, rfl, by decide +kernel⟩)), (List.forall_mem_cons.mpr ⟨Or.inr (Or.inr (Or.inr ⟨by decide, _, _, _, _, _, k_Acts_kindOf, w_481, w_7, w_482, w_483, ⟨_, _, rfl⟩, 1, rfl, by decide +kernel⟩)), (List.forall_mem_cons.mpr ⟨Or.inr (Or.inr (Or.inr ⟨by decide, _, _, _, _, _, k_Acts_isUnder, w_484, w_7, w_485, by decide +kernel⟩)), (List.forall_mem_cons.mpr ⟨Or.inr (Or.inr (Or.inr ⟨by decide, _, _, _, _, _, k_J_bitCount, w_486, w_82, w_83, by decide +kernel⟩)), (List.forall_mem_cons.mpr ⟨Or.inr (Or.inr (Or.inr ⟨by decide, _, _, _, _, _, k_Deed_numberIn, w_487, w_117, w_123, w_124, ⟨_, _, rfl⟩, 0, rfl, by decide +kernel⟩)), (List.forall_mem_cons.mpr ⟨Or.inr (Or.inr (Or.inr ⟨by decide, _, _, _, _, _, k_Reader_size, w_488, w_131, w_489, w_490, ⟨_, _, rfl⟩, 0, rfl, by decide +kernel⟩)), (List.forall_mem_cons.mpr ⟨Or.inr (Or.inr (Or.inr ⟨by decide, _, _, _, _, _, k_Acts_ranLast, w_491, w_7, w_492, w_493, ⟨_, _, rfl⟩, 0, rfl, by decide +kernel⟩)), (fun _ h => absurd h List.not_mem_nil)⟩)⟩)⟩)⟩)⟩)⟩)⟩)⟩)⟩)⟩)⟩)⟩)⟩)⟩)⟩)⟩)⟩)⟩)⟩)⟩)⟩)⟩)⟩)⟩)⟩)⟩)⟩)⟩)⟩)⟩)⟩)⟩)⟩)⟩)⟩)⟩)⟩)⟩)⟩)⟩)⟩)⟩)⟩)⟩)⟩)⟩)⟩)⟩)⟩)⟩)⟩)⟩)⟩)⟩)⟩)⟩)⟩)⟩)⟩)⟩)⟩)⟩)⟩)⟩)⟩)⟩)⟩)⟩)⟩)⟩)⟩)⟩)⟩)⟩)⟩)⟩)⟩)⟩)⟩)⟩)⟩)⟩)
theorem w_494 : Cond.constant "MiddleOne" 164 (-2000000000) ∈ TB := tb (mt3 _ (List.mem_of_getElem? (i := 6) rfl)) rfl
theorem oi_Mo : ∀ e ∈ ck_Mo, Cond.constant "MiddleOne" e.1 e.2 ∈ TB := (List.forall_mem_cons.mpr ⟨w_494, (fun _ h => absurd h List.not_mem_nil)⟩)
theorem w_495 : Cond.constantLong "MiddleOne" 198 (-9223372036854775808) ∈ TB := tb (mt3 _ (List.mem_of_getElem? (i := 102) rfl)) rfl
theorem w_496 : Cond.constantLong "MiddleOne" 200 (-2) ∈ TB := tb (mt3 _ (List.mem_of_getElem? (i := 103) rfl)) rfl
theorem ol_Mo : ∀ e ∈ cl_Mo, Cond.constantLong "MiddleOne" e.1 e.2 ∈ TB := (List.forall_mem_cons.mpr ⟨w_495, (List.forall_mem_cons.mpr ⟨w_496, (fun _ h => absurd h List.not_mem_nil)⟩)⟩)
theorem os_Mo : ∀ e ∈ cs_Mo, ∃ C nm, gSt.lookup e.2 = some (C, nm) ∧ Cond.fieldLink "MiddleOne" e.1 C nm "[I" ∈ TB := (fun _ h => absurd h List.not_mem_nil)
theorem ox_Mo : am_okX TB cls (gG L xs) "MiddleOne" cx_Mo := ⟨fun idx ci k b h => of_Mo _ (am_lk h), fun idx oc k n h => om_Mo _ (am_lk h), fun idx v h => oi_Mo _ (am_lk h), fun idx v h => ol_Mo _ (am_lk h)⟩
theorem w_497 : Cond.fieldLink "MiddleOneModel" 11 "MiddleOneModel" "may" "[I" ∈ TB := tb (mt5 _ (List.mem_of_getElem? (i := 64) rfl)) rfl
theorem w_498 : Cond.fieldLink "MiddleOneModel" 15 "MiddleOneModel" "changeAt" "[I" ∈ TB := tb (mt5 _ (List.mem_of_getElem? (i := 65) rfl)) rfl
theorem w_499 : Cond.fieldLink "MiddleOneModel" 18 "MiddleOneModel" "changeWas" "[I" ∈ TB := tb (mt5 _ (List.mem_of_getElem? (i := 66) rfl)) rfl
theorem w_500 : Cond.fieldLink "MiddleOneModel" 21 "MiddleOneModel" "changeIs" "[I" ∈ TB := tb (mt5 _ (List.mem_of_getElem? (i := 67) rfl)) rfl
theorem w_501 : Cond.fieldLink "MiddleOneModel" 24 "MiddleOneModel" "letIn" "[I" ∈ TB := tb (mt5 _ (List.mem_of_getElem? (i := 72) rfl)) rfl
theorem w_502 : Cond.fieldLink "MiddleOneModel" 27 "MiddleOneModel" "tape" "[I" ∈ TB := tb (mt5 _ (List.mem_of_getElem? (i := 74) rfl)) rfl
theorem w_503 : Cond.fieldLink "MiddleOneModel" 30 "MiddleOneModel" "text" "[I" ∈ TB := tb (mt5 _ (List.mem_of_getElem? (i := 76) rfl)) rfl
theorem w_504 : Cond.fieldLink "MiddleOneModel" 33 "MiddleOneModel" "names" "[I" ∈ TB := tb (mt5 _ (List.mem_of_getElem? (i := 83) rfl)) rfl
theorem w_505 : Cond.fieldLink "MiddleOneModel" 36 "MiddleOneModel" "placeRule" "I" ∈ TB := tb (mt5 _ (List.mem_of_getElem? (i := 87) rfl)) rfl
theorem w_506 : Cond.fieldLink "MiddleOneModel" 40 "MiddleOneModel" "inAt" "[I" ∈ TB := tb (mt5 _ (List.mem_of_getElem? (i := 88) rfl)) rfl
theorem w_507 : Cond.fieldLink "MiddleOneModel" 43 "MiddleOneModel" "waiting" "[I" ∈ TB := tb (mt5 _ (List.mem_of_getElem? (i := 89) rfl)) rfl
theorem w_508 : Cond.fieldLink "MiddleOneModel" 46 "MiddleOneModel" "talls" "[I" ∈ TB := tb (mt5 _ (List.mem_of_getElem? (i := 90) rfl)) rfl
theorem w_509 : Cond.fieldLink "MiddleOneModel" 49 "MiddleOneModel" "heelsHad" "[I" ∈ TB := tb (mt5 _ (List.mem_of_getElem? (i := 93) rfl)) rfl
theorem w_510 : Cond.fieldLink "MiddleOneModel" 52 "MiddleOneModel" "comesHad" "[I" ∈ TB := tb (mt5 _ (List.mem_of_getElem? (i := 94) rfl)) rfl
theorem w_511 : Cond.fieldLink "MiddleOneModel" 55 "MiddleOneModel" "image" "[I" ∈ TB := tb (mt5 _ (List.mem_of_getElem? (i := 103) rfl)) rfl
theorem w_512 : Cond.fieldLink "MiddleOneModel" 58 "MiddleOneModel" "bodyKind" "[I" ∈ TB := tb (mt5 _ (List.mem_of_getElem? (i := 105) rfl)) rfl
theorem w_513 : Cond.fieldLink "MiddleOneModel" 61 "MiddleOneModel" "trace" "[I" ∈ TB := tb (mt5 _ (List.mem_of_getElem? (i := 106) rfl)) rfl
theorem w_514 : Cond.fieldLink "MiddleOneModel" 64 "MiddleOneModel" "shelf" "[I" ∈ TB := tb (mt5 _ (List.mem_of_getElem? (i := 110) rfl)) rfl
theorem w_515 : Cond.fieldLink "MiddleOneModel" 67 "MiddleOneModel" "many" "[I" ∈ TB := tb (mt5 _ (List.mem_of_getElem? (i := 111) rfl)) rfl
theorem w_516 : Cond.fieldLink "MiddleOneModel" 70 "MiddleOneModel" "items" "[J" ∈ TB := tb (mt5 _ (List.mem_of_getElem? (i := 112) rfl)) rfl
theorem w_517 : Cond.fieldLink "MiddleOneModel" 74 "MiddleOneModel" "carried" "[J" ∈ TB := tb (mt5 _ (List.mem_of_getElem? (i := 113) rfl)) rfl
theorem w_518 : Cond.fieldLink "MiddleOneModel" 77 "MiddleOneModel" "textMany" "I" ∈ TB := tb (mt5 _ (List.mem_of_getElem? (i := 77) rfl)) rfl
theorem w_519 : Cond.fieldLink "MiddleOneModel" 80 "MiddleOneModel" "done" "I" ∈ TB := tb (mt5 _ (List.mem_of_getElem? (i := 69) rfl)) rfl
theorem w_520 : Cond.fieldLink "MiddleOneModel" 83 "MiddleOneModel" "keptMany" "I" ∈ TB := tb (mt5 _ (List.mem_of_getElem? (i := 68) rfl)) rfl
theorem w_521 : Cond.fieldLink "MiddleOneModel" 86 "MiddleOneModel" "people" "I" ∈ TB := tb (mt5 _ (List.mem_of_getElem? (i := 70) rfl)) rfl
theorem w_522 : Cond.fieldLink "MiddleOneModel" 128 "MiddleOneModel" "away" "I" ∈ TB := tb (mt5 _ (List.mem_of_getElem? (i := 73) rfl)) rfl
theorem w_523 : Cond.fieldLink "MiddleOneModel" 134 "MiddleOneModel" "now" "I" ∈ TB := tb (mt5 _ (List.mem_of_getElem? (i := 71) rfl)) rfl
theorem w_524 : Cond.fieldLink "MiddleOneModel" 142 "MiddleOneModel" "tapeMany" "I" ∈ TB := tb (mt5 _ (List.mem_of_getElem? (i := 75) rfl)) rfl
theorem w_525 : Cond.fieldLink "MiddleOneModel" 145 "MiddleOneModel" "at" "I" ∈ TB := tb (mt5 _ (List.mem_of_getElem? (i := 79) rfl)) rfl
theorem w_526 : Cond.fieldLink "MiddleOneModel" 148 "MiddleOneModel" "ends" "I" ∈ TB := tb (mt5 _ (List.mem_of_getElem? (i := 80) rfl)) rfl
theorem w_527 : Cond.fieldLink "MiddleOneModel" 151 "MiddleOneModel" "base" "I" ∈ TB := tb (mt5 _ (List.mem_of_getElem? (i := 78) rfl)) rfl
theorem w_528 : Cond.fieldLink "MiddleOneModel" 154 "MiddleOneModel" "fault" "I" ∈ TB := tb (mt5 _ (List.mem_of_getElem? (i := 81) rfl)) rfl
theorem w_529 : Cond.fieldLink "MiddleOneModel" 179 "MiddleOneModel" "opened" "I" ∈ TB := tb (mt5 _ (List.mem_of_getElem? (i := 82) rfl)) rfl
theorem w_530 : Cond.fieldLink "MiddleOneModel" 202 "MiddleOneModel" "coming" "I" ∈ TB := tb (mt5 _ (List.mem_of_getElem? (i := 84) rfl)) rfl
theorem w_531 : Cond.fieldLink "MiddleOneModel" 205 "MiddleOneModel" "atSecond" "I" ∈ TB := tb (mt5 _ (List.mem_of_getElem? (i := 85) rfl)) rfl
theorem w_532 : Cond.fieldLink "MiddleOneModel" 208 "MiddleOneModel" "boysMany" "I" ∈ TB := tb (mt5 _ (List.mem_of_getElem? (i := 86) rfl)) rfl
theorem w_533 : Cond.fieldLink "MiddleOneModel" 211 "MiddleOneModel" "longest" "I" ∈ TB := tb (mt5 _ (List.mem_of_getElem? (i := 92) rfl)) rfl
theorem w_534 : Cond.fieldLink "MiddleOneModel" 214 "MiddleOneModel" "waits" "I" ∈ TB := tb (mt5 _ (List.mem_of_getElem? (i := 91) rfl)) rfl
theorem w_535 : Cond.fieldLink "MiddleOneModel" 276 "MiddleOneModel" "ledMost" "I" ∈ TB := tb (mt5 _ (List.mem_of_getElem? (i := 99) rfl)) rfl
theorem w_536 : Cond.fieldLink "MiddleOneModel" 279 "MiddleOneModel" "ledIn" "I" ∈ TB := tb (mt5 _ (List.mem_of_getElem? (i := 96) rfl)) rfl
theorem w_537 : Cond.fieldLink "MiddleOneModel" 282 "MiddleOneModel" "ledStrokes" "I" ∈ TB := tb (mt5 _ (List.mem_of_getElem? (i := 95) rfl)) rfl
theorem w_538 : Cond.fieldLink "MiddleOneModel" 285 "MiddleOneModel" "ledAway" "I" ∈ TB := tb (mt5 _ (List.mem_of_getElem? (i := 97) rfl)) rfl
theorem w_539 : Cond.fieldLink "MiddleOneModel" 291 "MiddleOneModel" "ledDawns" "I" ∈ TB := tb (mt5 _ (List.mem_of_getElem? (i := 98) rfl)) rfl
theorem w_540 : Cond.fieldLink "MiddleOneModel" 294 "MiddleOneModel" "isKept" "Z" ∈ TB := tb (mt5 _ (List.mem_of_getElem? (i := 100) rfl)) rfl
theorem w_541 : Cond.fieldLink "MiddleOneModel" 298 "MiddleOneModel" "imagePeople" "I" ∈ TB := tb (mt5 _ (List.mem_of_getElem? (i := 101) rfl)) rfl
theorem w_542 : Cond.fieldLink "MiddleOneModel" 301 "MiddleOneModel" "imageAway" "I" ∈ TB := tb (mt5 _ (List.mem_of_getElem? (i := 102) rfl)) rfl
theorem w_543 : Cond.fieldLink "MiddleOneModel" 307 "MiddleOneModel" "bodies" "I" ∈ TB := tb (mt5 _ (List.mem_of_getElem? (i := 104) rfl)) rfl
theorem w_544 : Cond.fieldLink "MiddleOneModel" 312 "MiddleOneModel" "ran" "I" ∈ TB := tb (mt5 _ (List.mem_of_getElem? (i := 107) rfl)) rfl
theorem w_545 : Cond.fieldLink "MiddleOneModel" 321 "MiddleOneModel" "ownNumber" "I" ∈ TB := tb (mt5 _ (List.mem_of_getElem? (i := 109) rfl)) rfl
theorem w_546 : Cond.fieldLink "MiddleOneModel" 327 "MiddleOneModel" "ownKind" "I" ∈ TB := tb (mt5 _ (List.mem_of_getElem? (i := 108) rfl)) rfl
theorem of_Md : ∀ e ∈ cf_Md, am_okF TB cls "MiddleOneModel" e.1 e.2.1 e.2.2.1 e.2.2.2 := (List.forall_mem_cons.mpr ⟨⟨_, _, _, t_Md, rfl, by decide, w_497, j_Md, t_Md_ok, n_Md, fun z => by cases z⟩, (List.forall_mem_cons.mpr ⟨⟨_, _, _, t_Md, rfl, by decide, w_498, j_Md, t_Md_ok, n_Md, fun z => by cases z⟩, (List.forall_mem_cons.mpr ⟨⟨_, _, _, t_Md, rfl, by decide, w_499, j_Md, t_Md_ok, n_Md, fun z => by cases z⟩, (List.forall_mem_cons.mpr ⟨⟨_, _, _, t_Md, rfl, by decide, w_500, j_Md, t_Md_ok, n_Md, fun z => by cases z⟩, (List.forall_mem_cons.mpr ⟨⟨_, _, _, t_Md, rfl, by decide, w_501, j_Md, t_Md_ok, n_Md, fun z => by cases z⟩, (List.forall_mem_cons.mpr ⟨⟨_, _, _, t_Md, rfl, by decide, w_502, j_Md, t_Md_ok, n_Md, fun z => by cases z⟩, (List.forall_mem_cons.mpr ⟨⟨_, _, _, t_Md, rfl, by decide, w_503, j_Md, t_Md_ok, n_Md, fun z => by cases z⟩, (List.forall_mem_cons.mpr ⟨⟨_, _, _, t_Md, rfl, by decide, w_504, j_Md, t_Md_ok, n_Md, fun z => by cases z⟩, (List.forall_mem_cons.mpr ⟨⟨_, _, _, t_Md, rfl, by decide, w_505, j_Md, t_Md_ok, n_Md, fun _ => rfl⟩, (List.forall_mem_cons.mpr ⟨⟨_, _, _, t_Md, rfl, by decide, w_506, j_Md, t_Md_ok, n_Md, fun z => by cases z⟩, (List.forall_mem_cons.mpr ⟨⟨_, _, _, t_Md, rfl, by decide, w_507, j_Md, t_Md_ok, n_Md, fun z => by cases z⟩, (List.forall_mem_cons.mpr ⟨⟨_, _, _, t_Md, rfl, by decide, w_508, j_Md, t_Md_ok, n_Md, fun z => by cases z⟩, (List.forall_mem_cons.mpr ⟨⟨_, _, _, t_Md, rfl, by decide, w_509, j_Md, t_Md_ok, n_Md, fun z => by cases z⟩, (List.forall_mem_cons.mpr ⟨⟨_, _, _, t_Md, rfl, by decide, w_510, j_Md, t_Md_ok, n_Md, fun z => by cases z⟩, (List.forall_mem_cons.mpr ⟨⟨_, _, _, t_Md, rfl, by decide, w_511, j_Md, t_Md_ok, n_Md, fun z => by cases z⟩, (List.forall_mem_cons.mpr ⟨⟨_, _, _, t_Md, rfl, by decide, w_512, j_Md, t_Md_ok, n_Md, fun z => by cases z⟩, (List.forall_mem_cons.mpr ⟨⟨_, _, _, t_Md, rfl, by decide, w_513, j_Md, t_Md_ok, n_Md, fun z => by cases z⟩, (List.forall_mem_cons.mpr ⟨⟨_, _, _, t_Md, rfl, by decide, w_514, j_Md, t_Md_ok, n_Md, fun z => by cases z⟩, (List.forall_mem_cons.mpr ⟨⟨_, _, _, t_Md, rfl, by decide, w_515, j_Md, t_Md_ok, n_Md, fun z => by cases z⟩, (List.forall_mem_cons.mpr ⟨⟨_, _, _, t_Md, rfl, by decide, w_516, j_Md, t_Md_ok, n_Md, fun z => by cases z⟩, (List.forall_mem_cons.mpr ⟨⟨_, _, _, t_Md, rfl, by decide, w_517, j_Md, t_Md_ok, n_Md, fun z => by cases z⟩, (List.forall_mem_cons.mpr ⟨⟨_, _, _, t_Md, rfl, by decide, w_518, j_Md, t_Md_ok, n_Md, fun _ => rfl⟩, (List.forall_mem_cons.mpr ⟨⟨_, _, _, t_Md, rfl, by decide, w_519, j_Md, t_Md_ok, n_Md, fun _ => rfl⟩, (List.forall_mem_cons.mpr ⟨⟨_, _, _, t_Md, rfl, by decide, w_520, j_Md, t_Md_ok, n_Md, fun _ => rfl⟩, (List.forall_mem_cons.mpr ⟨⟨_, _, _, t_Md, rfl, by decide, w_521, j_Md, t_Md_ok, n_Md, fun _ => rfl⟩, (List.forall_mem_cons.mpr ⟨⟨_, _, _, t_Md, rfl, by decide, w_522, j_Md, t_Md_ok, n_Md, fun _ => rfl⟩, (List.forall_mem_cons.mpr ⟨⟨_, _, _, t_Md, rfl, by decide, w_523, j_Md, t_Md_ok, n_Md, fun _ => rfl⟩, (List.forall_mem_cons.mpr ⟨⟨_, _, _, t_Md, rfl, by decide, w_524, j_Md, t_Md_ok, n_Md, fun _ => rfl⟩, (List.forall_mem_cons.mpr ⟨⟨_, _, _, t_Md, rfl, by decide, w_525, j_Md, t_Md_ok, n_Md, fun _ => rfl⟩, (List.forall_mem_cons.mpr ⟨⟨_, _, _, t_Md, rfl, by decide, w_526, j_Md, t_Md_ok, n_Md, fun _ => rfl⟩, (List.forall_mem_cons.mpr ⟨⟨_, _, _, t_Md, rfl, by decide, w_527, j_Md, t_Md_ok, n_Md, fun _ => rfl⟩, (List.forall_mem_cons.mpr ⟨⟨_, _, _, t_Md, rfl, by decide, w_528, j_Md, t_Md_ok, n_Md, fun _ => rfl⟩, (List.forall_mem_cons.mpr ⟨⟨_, _, _, t_Md, rfl, by decide, w_529, j_Md, t_Md_ok, n_Md, fun _ => rfl⟩, (List.forall_mem_cons.mpr ⟨⟨_, _, _, t_Md, rfl, by decide, w_530, j_Md, t_Md_ok, n_Md, fun _ => rfl⟩, (List.forall_mem_cons.mpr ⟨⟨_, _, _, t_Md, rfl, by decide, w_531, j_Md, t_Md_ok, n_Md, fun _ => rfl⟩, (List.forall_mem_cons.mpr ⟨⟨_, _, _, t_Md, rfl, by decide, w_532, j_Md, t_Md_ok, n_Md, fun _ => rfl⟩, (List.forall_mem_cons.mpr ⟨⟨_, _, _, t_Md, rfl, by decide, w_533, j_Md, t_Md_ok, n_Md, fun _ => rfl⟩, (List.forall_mem_cons.mpr ⟨⟨_, _, _, t_Md, rfl, by decide, w_534, j_Md, t_Md_ok, n_Md, fun _ => rfl⟩, (List.forall_mem_cons.mpr ⟨⟨_, _, _, t_Md, rfl, by decide, w_535, j_Md, t_Md_ok, n_Md, fun _ => rfl⟩, (List.forall_mem_cons.mpr ⟨⟨_, _, _, t_Md, rfl, by decide, w_536, j_Md, t_Md_ok, n_Md, fun _ => rfl⟩, (List.forall_mem_cons.mpr ⟨⟨_, _, _, t_Md, rfl, by decide, w_537, j_Md, t_Md_ok, n_Md, fun _ => rfl⟩, (List.forall_mem_cons.mpr ⟨⟨_, _, _, t_Md, rfl, by decide, w_538, j_Md, t_Md_ok, n_Md, fun _ => rfl⟩, (List.forall_mem_cons.mpr ⟨⟨_, _, _, t_Md, rfl, by decide, w_539, j_Md, t_Md_ok, n_Md, fun _ => rfl⟩, (List.forall_mem_cons.mpr ⟨⟨_, _, _, t_Md, rfl, by decide, w_540, j_Md, t_Md_ok, n_Md, fun _ => rfl⟩, (List.forall_mem_cons.mpr ⟨⟨_, _, _, t_Md, rfl, by decide, w_541, j_Md, t_Md_ok, n_Md, fun _ => rfl⟩, (List.forall_mem_cons.mpr ⟨⟨_, _, _, t_Md, rfl, by decide, w_542, j_Md, t_Md_ok, n_Md, fun _ => rfl⟩, (List.forall_mem_cons.mpr ⟨⟨_, _, _, t_Md, rfl, by decide, w_543, j_Md, t_Md_ok, n_Md, fun _ => rfl⟩, (List.forall_mem_cons.mpr ⟨⟨_, _, _, t_Md, rfl, by decide, w_544, j_Md, t_Md_ok, n_Md, fun _ => rfl⟩, (List.forall_mem_cons.mpr ⟨⟨_, _, _, t_Md, rfl, by decide, w_545, j_Md, t_Md_ok, n_Md, fun _ => rfl⟩, (List.forall_mem_cons.mpr ⟨⟨_, _, _, t_Md, rfl, by decide, w_546, j_Md, t_Md_ok, n_Md, fun _ => rfl⟩, (fun _ h => absurd h List.not_mem_nil)⟩)⟩)⟩)⟩)⟩)⟩)⟩)⟩)⟩)⟩)⟩)⟩)⟩)⟩)⟩)⟩)⟩)⟩)⟩)⟩)⟩)⟩)⟩)⟩)⟩)⟩)⟩)⟩)⟩)⟩)⟩)⟩)⟩)⟩)⟩)⟩)⟩)⟩)⟩)⟩)⟩)⟩)⟩)⟩)⟩)⟩)⟩)⟩)⟩)⟩)
theorem w_547 : Cond.methodLink "MiddleOneModel" 89 y_Md_within ∈ TB := tb (mt5 _ (List.mem_of_getElem? (i := 233) rfl)) rfl
theorem w_548 : Cond.initialized "MiddleOneModel" ∈ TB := tb (mt1 _ (List.mem_of_getElem? (i := 14) rfl)) rfl
theorem w_549 : Cond.static y_Md_within ∈ TB := tb (mt5 _ (List.mem_of_getElem? (i := 234) rfl)) rfl
theorem w_550 : Cond.methodLink "MiddleOneModel" 99 y_Md_mayCome ∈ TB := tb (mt5 _ (List.mem_of_getElem? (i := 228) rfl)) rfl
theorem w_551 : Cond.static y_Md_mayCome ∈ TB := tb (mt5 _ (List.mem_of_getElem? (i := 229) rfl)) rfl
theorem w_552 : Cond.methodLink "MiddleOneModel" 102 y_Md_puts ∈ TB := tb (mt5 _ (List.mem_of_getElem? (i := 236) rfl)) rfl
theorem w_553 : Cond.instanceMethod y_Md_puts ∈ TB := tb (mt5 _ (List.mem_of_getElem? (i := 238) rfl)) rfl
theorem w_554 : Cond.selects "MiddleOneModel" y_Md_puts y_Md_puts ∈ TB := tb (List.mem_append_left _ (List.mem_map.mpr ⟨(y_Md_puts, _), List.mem_append_right _ (List.mem_append_left _ (List.mem_of_getElem? (i := 2) rfl)), rfl⟩)) rfl
theorem w_555 : Cond.methodLink "MiddleOneModel" 106 y_Md_isShelf ∈ TB := tb (mt6 _ (List.mem_of_getElem? (i := 4) rfl)) rfl
theorem w_556 : Cond.static y_Md_isShelf ∈ TB := tb (mt6 _ (List.mem_of_getElem? (i := 5) rfl)) rfl
theorem w_557 : Cond.methodLink "MiddleOneModel" 114 y_Md_isOne ∈ TB := tb (mt6 _ (List.mem_of_getElem? (i := 13) rfl)) rfl
theorem w_558 : Cond.instanceMethod y_Md_isOne ∈ TB := tb (mt6 _ (List.mem_of_getElem? (i := 15) rfl)) rfl
theorem w_559 : Cond.selects "MiddleOneModel" y_Md_isOne y_Md_isOne ∈ TB := tb (List.mem_append_left _ (List.mem_map.mpr ⟨(y_Md_isOne, _), List.mem_append_right _ (List.mem_append_left _ (List.mem_of_getElem? (i := 3) rfl)), rfl⟩)) rfl
theorem w_560 : Cond.methodLink "MiddleOneModel" 120 y_Md_mayBecome ∈ TB := tb (mt6 _ (List.mem_of_getElem? (i := 18) rfl)) rfl
theorem w_561 : Cond.static y_Md_mayBecome ∈ TB := tb (mt6 _ (List.mem_of_getElem? (i := 19) rfl)) rfl
theorem w_562 : Cond.methodLink "MiddleOneModel" 124 y_Md_becomes ∈ TB := tb (mt6 _ (List.mem_of_getElem? (i := 22) rfl)) rfl
theorem w_563 : Cond.instanceMethod y_Md_becomes ∈ TB := tb (mt6 _ (List.mem_of_getElem? (i := 24) rfl)) rfl
theorem w_564 : Cond.selects "MiddleOneModel" y_Md_becomes y_Md_becomes ∈ TB := tb (List.mem_append_left _ (List.mem_map.mpr ⟨(y_Md_becomes, _), List.mem_append_right _ (List.mem_append_left _ (List.mem_of_getElem? (i := 4) rfl)), rfl⟩)) rfl
theorem w_565 : Cond.methodLink "MiddleOneModel" 131 y_Md_isIn ∈ TB := tb (mt6 _ (List.mem_of_getElem? (i := 34) rfl)) rfl
theorem w_566 : Cond.static y_Md_isIn ∈ TB := tb (mt6 _ (List.mem_of_getElem? (i := 35) rfl)) rfl
theorem w_567 : Cond.methodLink "MiddleOneModel" 137 y_Md_waitsNow ∈ TB := tb (mt6 _ (List.mem_of_getElem? (i := 30) rfl)) rfl
theorem w_568 : Cond.instanceMethod y_Md_waitsNow ∈ TB := tb (mt6 _ (List.mem_of_getElem? (i := 32) rfl)) rfl
theorem w_569 : Cond.selects "MiddleOneModel" y_Md_waitsNow y_Md_waitsNow ∈ TB := tb (List.mem_append_left _ (List.mem_map.mpr ⟨(y_Md_waitsNow, _), List.mem_append_right _ (List.mem_append_left _ (List.mem_of_getElem? (i := 5) rfl)), rfl⟩)) rfl
theorem w_570 : Cond.methodLink "MiddleOneModel" 157 y_Md_byteAt ∈ TB := tb (mt6 _ (List.mem_of_getElem? (i := 74) rfl)) rfl
theorem w_571 : Cond.instanceMethod y_Md_byteAt ∈ TB := tb (mt6 _ (List.mem_of_getElem? (i := 76) rfl)) rfl
theorem w_572 : Cond.selects "MiddleOneModel" y_Md_byteAt y_Md_byteAt ∈ TB := tb (List.mem_append_left _ (List.mem_map.mpr ⟨(y_Md_byteAt, _), List.mem_append_right _ (List.mem_append_left _ (List.mem_of_getElem? (i := 13) rfl)), rfl⟩)) rfl
theorem w_573 : Cond.methodLink "MiddleOneModel" 161 y_Md_both ∈ TB := tb (mt6 _ (List.mem_of_getElem? (i := 54) rfl)) rfl
theorem w_574 : Cond.instanceMethod y_Md_both ∈ TB := tb (mt6 _ (List.mem_of_getElem? (i := 56) rfl)) rfl
theorem w_575 : Cond.selects "MiddleOneModel" y_Md_both y_Md_both ∈ TB := tb (List.mem_append_left _ (List.mem_map.mpr ⟨(y_Md_both, _), List.mem_append_right _ (List.mem_append_left _ (List.mem_of_getElem? (i := 8) rfl)), rfl⟩)) rfl
theorem w_576 : Cond.methodLink "MiddleOneModel" 164 y_Md_takes ∈ TB := tb (mt6 _ (List.mem_of_getElem? (i := 82) rfl)) rfl
theorem w_577 : Cond.instanceMethod y_Md_takes ∈ TB := tb (mt6 _ (List.mem_of_getElem? (i := 84) rfl)) rfl
theorem w_578 : Cond.selects "MiddleOneModel" y_Md_takes y_Md_takes ∈ TB := tb (List.mem_append_left _ (List.mem_map.mpr ⟨(y_Md_takes, _), List.mem_append_right _ (List.mem_append_left _ (List.mem_of_getElem? (i := 15) rfl)), rfl⟩)) rfl
theorem w_579 : Cond.methodLink "MiddleOneModel" 167 y_Md_compared ∈ TB := tb (mt6 _ (List.mem_of_getElem? (i := 58) rfl)) rfl
theorem w_580 : Cond.instanceMethod y_Md_compared ∈ TB := tb (mt6 _ (List.mem_of_getElem? (i := 60) rfl)) rfl
theorem w_581 : Cond.selects "MiddleOneModel" y_Md_compared y_Md_compared ∈ TB := tb (List.mem_append_left _ (List.mem_map.mpr ⟨(y_Md_compared, _), List.mem_append_right _ (List.mem_append_left _ (List.mem_of_getElem? (i := 9) rfl)), rfl⟩)) rfl
theorem w_582 : Cond.methodLink "MiddleOneModel" 170 y_Md_sums ∈ TB := tb (mt6 _ (List.mem_of_getElem? (i := 62) rfl)) rfl
theorem w_583 : Cond.instanceMethod y_Md_sums ∈ TB := tb (mt6 _ (List.mem_of_getElem? (i := 64) rfl)) rfl
theorem w_584 : Cond.selects "MiddleOneModel" y_Md_sums y_Md_sums ∈ TB := tb (List.mem_append_left _ (List.mem_map.mpr ⟨(y_Md_sums, _), List.mem_append_right _ (List.mem_append_left _ (List.mem_of_getElem? (i := 10) rfl)), rfl⟩)) rfl
theorem w_585 : Cond.methodLink "MiddleOneModel" 173 y_Md_product ∈ TB := tb (mt6 _ (List.mem_of_getElem? (i := 66) rfl)) rfl
theorem w_586 : Cond.instanceMethod y_Md_product ∈ TB := tb (mt6 _ (List.mem_of_getElem? (i := 68) rfl)) rfl
theorem w_587 : Cond.selects "MiddleOneModel" y_Md_product y_Md_product ∈ TB := tb (List.mem_append_left _ (List.mem_map.mpr ⟨(y_Md_product, _), List.mem_append_right _ (List.mem_append_left _ (List.mem_of_getElem? (i := 11) rfl)), rfl⟩)) rfl
theorem w_588 : Cond.methodLink "MiddleOneModel" 176 y_Md_one ∈ TB := tb (mt6 _ (List.mem_of_getElem? (i := 70) rfl)) rfl
theorem w_589 : Cond.instanceMethod y_Md_one ∈ TB := tb (mt6 _ (List.mem_of_getElem? (i := 72) rfl)) rfl
theorem w_590 : Cond.selects "MiddleOneModel" y_Md_one y_Md_one ∈ TB := tb (List.mem_append_left _ (List.mem_map.mpr ⟨(y_Md_one, _), List.mem_append_right _ (List.mem_append_left _ (List.mem_of_getElem? (i := 12) rfl)), rfl⟩)) rfl
theorem w_591 : Cond.methodLink "MiddleOneModel" 182 y_Md_wrong ∈ TB := tb (mt6 _ (List.mem_of_getElem? (i := 78) rfl)) rfl
theorem w_592 : Cond.instanceMethod y_Md_wrong ∈ TB := tb (mt6 _ (List.mem_of_getElem? (i := 80) rfl)) rfl
theorem w_593 : Cond.selects "MiddleOneModel" y_Md_wrong y_Md_wrong ∈ TB := tb (List.mem_append_left _ (List.mem_map.mpr ⟨(y_Md_wrong, _), List.mem_append_right _ (List.mem_append_left _ (List.mem_of_getElem? (i := 14) rfl)), rfl⟩)) rfl
theorem w_594 : Cond.methodLink "MiddleOneModel" 185 y_Md_either ∈ TB := tb (mt6 _ (List.mem_of_getElem? (i := 50) rfl)) rfl
theorem w_595 : Cond.instanceMethod y_Md_either ∈ TB := tb (mt6 _ (List.mem_of_getElem? (i := 52) rfl)) rfl
theorem w_596 : Cond.selects "MiddleOneModel" y_Md_either y_Md_either ∈ TB := tb (List.mem_append_left _ (List.mem_map.mpr ⟨(y_Md_either, _), List.mem_append_right _ (List.mem_append_left _ (List.mem_of_getElem? (i := 7) rfl)), rfl⟩)) rfl
theorem w_597 : Cond.methodLink "MiddleOneModel" 188 y_Md_nameOf ∈ TB := tb (mt6 _ (List.mem_of_getElem? (i := 86) rfl)) rfl
theorem w_598 : Cond.static y_Md_nameOf ∈ TB := tb (mt6 _ (List.mem_of_getElem? (i := 87) rfl)) rfl
theorem w_599 : Cond.methodLink "MiddleOneModel" 192 y_Md_workOut ∈ TB := tb (mt6 _ (List.mem_of_getElem? (i := 46) rfl)) rfl
theorem w_600 : Cond.instanceMethod y_Md_workOut ∈ TB := tb (mt6 _ (List.mem_of_getElem? (i := 48) rfl)) rfl
theorem w_601 : Cond.selects "MiddleOneModel" y_Md_workOut y_Md_workOut ∈ TB := tb (List.mem_append_left _ (List.mem_map.mpr ⟨(y_Md_workOut, _), List.mem_append_right _ (List.mem_append_left _ (List.mem_of_getElem? (i := 6) rfl)), rfl⟩)) rfl
theorem w_602 : Cond.methodLink "MiddleOneModel" 197 y_Md_tallAt ∈ TB := tb (mt6 _ (List.mem_of_getElem? (i := 94) rfl)) rfl
theorem w_603 : Cond.instanceMethod y_Md_tallAt ∈ TB := tb (mt6 _ (List.mem_of_getElem? (i := 96) rfl)) rfl
theorem w_604 : Cond.selects "MiddleOneModel" y_Md_tallAt y_Md_tallAt ∈ TB := tb (List.mem_append_left _ (List.mem_map.mpr ⟨(y_Md_tallAt, _), List.mem_append_right _ (List.mem_append_right _ (List.mem_append_left _ (List.mem_of_getElem? (i := 0) rfl))), rfl⟩)) rfl
theorem w_605 : Cond.methodLink "MiddleOneModel" 217 y_Md_asksWaiting ∈ TB := tb (mt6 _ (List.mem_of_getElem? (i := 118) rfl)) rfl
theorem w_606 : Cond.instanceMethod y_Md_asksWaiting ∈ TB := tb (mt6 _ (List.mem_of_getElem? (i := 120) rfl)) rfl
theorem w_607 : Cond.selects "MiddleOneModel" y_Md_asksWaiting y_Md_asksWaiting ∈ TB := tb (List.mem_append_left _ (List.mem_map.mpr ⟨(y_Md_asksWaiting, _), List.mem_append_right _ (List.mem_append_right _ (List.mem_append_left _ (List.mem_of_getElem? (i := 4) rfl))), rfl⟩)) rfl
theorem w_608 : Cond.methodLink "MiddleOneModel" 221 y_Md_atPlace ∈ TB := tb (mt6 _ (List.mem_of_getElem? (i := 122) rfl)) rfl
theorem w_609 : Cond.instanceMethod y_Md_atPlace ∈ TB := tb (mt6 _ (List.mem_of_getElem? (i := 124) rfl)) rfl
theorem w_610 : Cond.selects "MiddleOneModel" y_Md_atPlace y_Md_atPlace ∈ TB := tb (List.mem_append_left _ (List.mem_map.mpr ⟨(y_Md_atPlace, _), List.mem_append_right _ (List.mem_append_right _ (List.mem_append_left _ (List.mem_of_getElem? (i := 5) rfl))), rfl⟩)) rfl
theorem w_611 : Cond.methodLink "MiddleOneModel" 224 y_Md_strokes ∈ TB := tb (mt6 _ (List.mem_of_getElem? (i := 114) rfl)) rfl
theorem w_612 : Cond.instanceMethod y_Md_strokes ∈ TB := tb (mt6 _ (List.mem_of_getElem? (i := 116) rfl)) rfl
theorem w_613 : Cond.selects "MiddleOneModel" y_Md_strokes y_Md_strokes ∈ TB := tb (List.mem_append_left _ (List.mem_map.mpr ⟨(y_Md_strokes, _), List.mem_append_right _ (List.mem_append_right _ (List.mem_append_left _ (List.mem_of_getElem? (i := 3) rfl))), rfl⟩)) rfl
theorem w_614 : Cond.methodLink "MiddleOneModel" 227 y_Md_isN ∈ TB := tb (mt6 _ (List.mem_of_getElem? (i := 103) rfl)) rfl
theorem w_615 : Cond.static y_Md_isN ∈ TB := tb (mt6 _ (List.mem_of_getElem? (i := 104) rfl)) rfl
theorem w_616 : Cond.methodLink "MiddleOneModel" 230 y_Md_begins1 ∈ TB := tb (mt6 _ (List.mem_of_getElem? (i := 106) rfl)) rfl
theorem w_617 : Cond.instanceMethod y_Md_begins1 ∈ TB := tb (mt6 _ (List.mem_of_getElem? (i := 108) rfl)) rfl
theorem w_618 : Cond.selects "MiddleOneModel" y_Md_begins1 y_Md_begins1 ∈ TB := tb (List.mem_append_left _ (List.mem_map.mpr ⟨(y_Md_begins1, _), List.mem_append_right _ (List.mem_append_right _ (List.mem_append_left _ (List.mem_of_getElem? (i := 1) rfl))), rfl⟩)) rfl
theorem w_619 : Cond.methodLink "MiddleOneModel" 233 y_Md_goes ∈ TB := tb (mt6 _ (List.mem_of_getElem? (i := 110) rfl)) rfl
theorem w_620 : Cond.instanceMethod y_Md_goes ∈ TB := tb (mt6 _ (List.mem_of_getElem? (i := 112) rfl)) rfl
theorem w_621 : Cond.selects "MiddleOneModel" y_Md_goes y_Md_goes ∈ TB := tb (List.mem_append_left _ (List.mem_map.mpr ⟨(y_Md_goes, _), List.mem_append_right _ (List.mem_append_right _ (List.mem_append_left _ (List.mem_of_getElem? (i := 2) rfl))), rfl⟩)) rfl
theorem w_622 : Cond.methodLink "MiddleOneModel" 239 y_Md_inMany ∈ TB := tb (mt6 _ (List.mem_of_getElem? (i := 135) rfl)) rfl
theorem w_623 : Cond.instanceMethod y_Md_inMany ∈ TB := tb (mt6 _ (List.mem_of_getElem? (i := 137) rfl)) rfl
theorem w_624 : Cond.selects "MiddleOneModel" y_Md_inMany y_Md_inMany ∈ TB := tb (List.mem_append_left _ (List.mem_map.mpr ⟨(y_Md_inMany, _), List.mem_append_right _ (List.mem_append_right _ (List.mem_append_left _ (List.mem_of_getElem? (i := 6) rfl))), rfl⟩)) rfl
theorem w_625 : Cond.methodLink "MiddleOneModel" 242 y_Md_commonOf ∈ TB := tb (mt6 _ (List.mem_of_getElem? (i := 148) rfl)) rfl
theorem w_626 : Cond.static y_Md_commonOf ∈ TB := tb (mt6 _ (List.mem_of_getElem? (i := 149) rfl)) rfl
theorem w_627 : Cond.methodLink "MiddleOneModel" 250 y_Md_partOf ∈ TB := tb (mt6 _ (List.mem_of_getElem? (i := 145) rfl)) rfl
theorem w_628 : Cond.static y_Md_partOf ∈ TB := tb (mt6 _ (List.mem_of_getElem? (i := 146) rfl)) rfl
theorem w_629 : Cond.methodLink "MiddleOneModel" 254 y_Md_priceOf ∈ TB := tb (mt6 _ (List.mem_of_getElem? (i := 155) rfl)) rfl
theorem w_630 : Cond.instanceMethod y_Md_priceOf ∈ TB := tb (mt6 _ (List.mem_of_getElem? (i := 157) rfl)) rfl
theorem w_631 : Cond.selects "MiddleOneModel" y_Md_priceOf y_Md_priceOf ∈ TB := tb (List.mem_append_left _ (List.mem_map.mpr ⟨(y_Md_priceOf, _), List.mem_append_right _ (List.mem_append_right _ (List.mem_append_left _ (List.mem_of_getElem? (i := 7) rfl))), rfl⟩)) rfl
theorem w_632 : Cond.methodLink "MiddleOneModel" 257 y_Md_bitsOf ∈ TB := tb (mt6 _ (List.mem_of_getElem? (i := 159) rfl)) rfl
theorem w_633 : Cond.static y_Md_bitsOf ∈ TB := tb (mt6 _ (List.mem_of_getElem? (i := 160) rfl)) rfl
theorem w_634 : Cond.methodLink "MiddleOneModel" 260 y_Md_wearing ∈ TB := tb (mt6 _ (List.mem_of_getElem? (i := 170) rfl)) rfl
theorem w_635 : Cond.instanceMethod y_Md_wearing ∈ TB := tb (mt6 _ (List.mem_of_getElem? (i := 172) rfl)) rfl
theorem w_636 : Cond.selects "MiddleOneModel" y_Md_wearing y_Md_wearing ∈ TB := tb (List.mem_append_left _ (List.mem_map.mpr ⟨(y_Md_wearing, _), List.mem_append_right _ (List.mem_append_right _ (List.mem_append_left _ (List.mem_of_getElem? (i := 8) rfl))), rfl⟩)) rfl
theorem w_637 : Cond.methodLink "MiddleOneModel" 263 y_Md_chooses ∈ TB := tb (mt6 _ (List.mem_of_getElem? (i := 182) rfl)) rfl
theorem w_638 : Cond.instanceMethod y_Md_chooses ∈ TB := tb (mt6 _ (List.mem_of_getElem? (i := 184) rfl)) rfl
theorem w_639 : Cond.selects "MiddleOneModel" y_Md_chooses y_Md_chooses ∈ TB := tb (List.mem_append_left _ (List.mem_map.mpr ⟨(y_Md_chooses, _), List.mem_append_right _ (List.mem_append_right _ (List.mem_append_left _ (List.mem_of_getElem? (i := 9) rfl))), rfl⟩)) rfl
theorem w_640 : Cond.methodLink "MiddleOneModel" 266 y_Md_bytesIs ∈ TB := tb (mt6 _ (List.mem_of_getElem? (i := 210) rfl)) rfl
theorem w_641 : Cond.instanceMethod y_Md_bytesIs ∈ TB := tb (mt6 _ (List.mem_of_getElem? (i := 212) rfl)) rfl
theorem w_642 : Cond.selects "MiddleOneModel" y_Md_bytesIs y_Md_bytesIs ∈ TB := tb (List.mem_append_left _ (List.mem_map.mpr ⟨(y_Md_bytesIs, _), List.mem_append_right _ (List.mem_append_right _ (List.mem_append_left _ (List.mem_of_getElem? (i := 10) rfl))), rfl⟩)) rfl
theorem w_643 : Cond.methodLink "MiddleOneModel" 269 y_Md_firstFalse ∈ TB := tb (mt6 _ (List.mem_of_getElem? (i := 214) rfl)) rfl
theorem w_644 : Cond.instanceMethod y_Md_firstFalse ∈ TB := tb (mt6 _ (List.mem_of_getElem? (i := 216) rfl)) rfl
theorem w_645 : Cond.selects "MiddleOneModel" y_Md_firstFalse y_Md_firstFalse ∈ TB := tb (List.mem_append_left _ (List.mem_map.mpr ⟨(y_Md_firstFalse, _), List.mem_append_right _ (List.mem_append_right _ (List.mem_append_left _ (List.mem_of_getElem? (i := 11) rfl))), rfl⟩)) rfl
theorem w_646 : Cond.methodLink "MiddleOneModel" 272 y_Md_wears ∈ TB := tb (mt6 _ (List.mem_of_getElem? (i := 226) rfl)) rfl
theorem w_647 : Cond.instanceMethod y_Md_wears ∈ TB := tb (mt6 _ (List.mem_of_getElem? (i := 228) rfl)) rfl
theorem w_648 : Cond.selects "MiddleOneModel" y_Md_wears y_Md_wears ∈ TB := tb (List.mem_append_left _ (List.mem_map.mpr ⟨(y_Md_wears, _), List.mem_append_right _ (List.mem_append_right _ (List.mem_append_left _ (List.mem_of_getElem? (i := 12) rfl))), rfl⟩)) rfl
theorem w_649 : Cond.methodLink "MiddleOneModel" 288 y_Md_insideMany ∈ TB := tb (mt7 _ (List.mem_of_getElem? (i := 7) rfl)) rfl
theorem w_650 : Cond.instanceMethod y_Md_insideMany ∈ TB := tb (mt7 _ (List.mem_of_getElem? (i := 9) rfl)) rfl
theorem w_651 : Cond.selects "MiddleOneModel" y_Md_insideMany y_Md_insideMany ∈ TB := tb (List.mem_append_left _ (List.mem_map.mpr ⟨(y_Md_insideMany, _), List.mem_append_right _ (List.mem_append_right _ (List.mem_append_left _ (List.mem_of_getElem? (i := 13) rfl))), rfl⟩)) rfl
theorem w_652 : Cond.methodLink "MiddleOneModel" 304 y_Md_led ∈ TB := tb (mt7 _ (List.mem_of_getElem? (i := 19) rfl)) rfl
theorem w_653 : Cond.instanceMethod y_Md_led ∈ TB := tb (mt7 _ (List.mem_of_getElem? (i := 12) rfl)) rfl
theorem w_654 : Cond.selects "MiddleOneModel" y_Md_led y_Md_led ∈ TB := tb (mt7 _ (List.mem_of_getElem? (i := 13) rfl)) rfl
theorem w_655 : Cond.methodLink "MiddleOneModel" 315 y_Md_begins ∈ TB := tb (mt7 _ (List.mem_of_getElem? (i := 41) rfl)) rfl
theorem w_656 : Cond.instanceMethod y_Md_begins ∈ TB := tb (mt7 _ (List.mem_of_getElem? (i := 43) rfl)) rfl
theorem w_657 : Cond.selects "MiddleOneModel" y_Md_begins y_Md_begins ∈ TB := tb (List.mem_append_left _ (List.mem_map.mpr ⟨(y_Md_begins, _), List.mem_append_right _ (List.mem_append_right _ (List.mem_append_right _ (List.mem_of_getElem? (i := 0) rfl))), rfl⟩)) rfl
theorem w_658 : Cond.methodLink "MiddleOneModel" 318 y_Md_waitsAs ∈ TB := tb (mt7 _ (List.mem_of_getElem? (i := 37) rfl)) rfl
theorem w_659 : Cond.instanceMethod y_Md_waitsAs ∈ TB := tb (mt7 _ (List.mem_of_getElem? (i := 39) rfl)) rfl
theorem w_660 : Cond.selects "MiddleOneModel" y_Md_waitsAs y_Md_waitsAs ∈ TB := tb (List.mem_append_left _ (List.mem_map.mpr ⟨(y_Md_waitsAs, _), List.mem_append_right _ (List.mem_append_right _ (List.mem_append_left _ (List.mem_of_getElem? (i := 15) rfl))), rfl⟩)) rfl
theorem w_661 : Cond.methodLink "MiddleOneModel" 324 y_Md_countsAs ∈ TB := tb (mt7 _ (List.mem_of_getElem? (i := 45) rfl)) rfl
theorem w_662 : Cond.instanceMethod y_Md_countsAs ∈ TB := tb (mt7 _ (List.mem_of_getElem? (i := 47) rfl)) rfl
theorem w_663 : Cond.selects "MiddleOneModel" y_Md_countsAs y_Md_countsAs ∈ TB := tb (List.mem_append_left _ (List.mem_map.mpr ⟨(y_Md_countsAs, _), List.mem_append_right _ (List.mem_append_right _ (List.mem_append_right _ (List.mem_of_getElem? (i := 1) rfl))), rfl⟩)) rfl
theorem w_664 : Cond.methodLink "MiddleOneModel" 330 y_Md_opensAs ∈ TB := tb (mt7 _ (List.mem_of_getElem? (i := 49) rfl)) rfl
theorem w_665 : Cond.instanceMethod y_Md_opensAs ∈ TB := tb (mt7 _ (List.mem_of_getElem? (i := 51) rfl)) rfl
theorem w_666 : Cond.selects "MiddleOneModel" y_Md_opensAs y_Md_opensAs ∈ TB := tb (List.mem_append_left _ (List.mem_map.mpr ⟨(y_Md_opensAs, _), List.mem_append_right _ (List.mem_append_right _ (List.mem_append_right _ (List.mem_of_getElem? (i := 2) rfl))), rfl⟩)) rfl
theorem w_667 : Cond.methodLink "MiddleOneModel" 333 y_Md_tellsAs ∈ TB := tb (mt7 _ (List.mem_of_getElem? (i := 53) rfl)) rfl
theorem w_668 : Cond.instanceMethod y_Md_tellsAs ∈ TB := tb (mt7 _ (List.mem_of_getElem? (i := 55) rfl)) rfl
theorem w_669 : Cond.selects "MiddleOneModel" y_Md_tellsAs y_Md_tellsAs ∈ TB := tb (List.mem_append_left _ (List.mem_map.mpr ⟨(y_Md_tellsAs, _), List.mem_append_right _ (List.mem_append_right _ (List.mem_append_right _ (List.mem_of_getElem? (i := 3) rfl))), rfl⟩)) rfl
theorem w_670 : Cond.methodLink "MiddleOneModel" 336 y_Md_isBody ∈ TB := tb (mt7 _ (List.mem_of_getElem? (i := 33) rfl)) rfl
theorem w_671 : Cond.instanceMethod y_Md_isBody ∈ TB := tb (mt7 _ (List.mem_of_getElem? (i := 35) rfl)) rfl
theorem w_672 : Cond.selects "MiddleOneModel" y_Md_isBody y_Md_isBody ∈ TB := tb (List.mem_append_left _ (List.mem_map.mpr ⟨(y_Md_isBody, _), List.mem_append_right _ (List.mem_append_right _ (List.mem_append_left _ (List.mem_of_getElem? (i := 14) rfl))), rfl⟩)) rfl
theorem w_673 : Cond.methodLink "MiddleOneModel" 341 y_Md_refusal ∈ TB := tb (mt7 _ (List.mem_of_getElem? (i := 73) rfl)) rfl
theorem w_674 : Cond.instanceMethod y_Md_refusal ∈ TB := tb (mt7 _ (List.mem_of_getElem? (i := 75) rfl)) rfl
theorem w_675 : Cond.selects "MiddleOneModel" y_Md_refusal y_Md_refusal ∈ TB := tb (List.mem_append_left _ (List.mem_map.mpr ⟨(y_Md_refusal, _), List.mem_append_right _ (List.mem_append_right _ (List.mem_append_right _ (List.mem_of_getElem? (i := 4) rfl))), rfl⟩)) rfl
theorem w_676 : Cond.methodLink "MiddleOneModel" 344 y_Md_asSort ∈ TB := tb (mt7 _ (List.mem_of_getElem? (i := 77) rfl)) rfl
theorem w_677 : Cond.static y_Md_asSort ∈ TB := tb (mt7 _ (List.mem_of_getElem? (i := 78) rfl)) rfl
theorem w_678 : Cond.methodLink "MiddleOneModel" 348 y_Md_kindOf ∈ TB := tb (mt7 _ (List.mem_of_getElem? (i := 92) rfl)) rfl
theorem w_679 : Cond.instanceMethod y_Md_kindOf ∈ TB := tb (mt7 _ (List.mem_of_getElem? (i := 94) rfl)) rfl
theorem w_680 : Cond.selects "MiddleOneModel" y_Md_kindOf y_Md_kindOf ∈ TB := tb (List.mem_append_left _ (List.mem_map.mpr ⟨(y_Md_kindOf, _), List.mem_append_right _ (List.mem_append_right _ (List.mem_append_right _ (List.mem_of_getElem? (i := 5) rfl))), rfl⟩)) rfl
theorem w_681 : Cond.methodLink "MiddleOneModel" 351 y_Md_above ∈ TB := tb (mt7 _ (List.mem_of_getElem? (i := 96) rfl)) rfl
theorem w_682 : Cond.static y_Md_above ∈ TB := tb (mt7 _ (List.mem_of_getElem? (i := 97) rfl)) rfl
theorem w_683 : Cond.methodLink "MiddleOneModel" 354 y_Md_waitMany ∈ TB := tb (mt7 _ (List.mem_of_getElem? (i := 103) rfl)) rfl
theorem w_684 : Cond.instanceMethod y_Md_waitMany ∈ TB := tb (mt7 _ (List.mem_of_getElem? (i := 105) rfl)) rfl
theorem w_685 : Cond.selects "MiddleOneModel" y_Md_waitMany y_Md_waitMany ∈ TB := tb (List.mem_append_left _ (List.mem_map.mpr ⟨(y_Md_waitMany, _), List.mem_append_right _ (List.mem_append_right _ (List.mem_append_right _ (List.mem_of_getElem? (i := 6) rfl))), rfl⟩)) rfl
theorem om_Md : ∀ e ∈ cm_Md, am_okM TB cls (gG L xs) "MiddleOneModel" e.1 e.2.1 e.2.2.1 e.2.2.2 := (List.forall_mem_cons.mpr ⟨Or.inr (Or.inr (Or.inr ⟨by decide, _, _, _, _, _, k_Md_within, w_547, w_548, w_549, by decide +kernel⟩)), (List.forall_mem_cons.mpr ⟨Or.inr (Or.inr (Or.inr ⟨by decide, _, _, _, _, _, k_Md_mayCome, w_550, w_548, w_551, by decide +kernel⟩)), (List.forall_mem_cons.mpr ⟨Or.inr (Or.inr (Or.inr ⟨by decide, _, _, _, _, _, k_Md_puts, w_552, w_548, w_553, w_554, ⟨_, _, rfl⟩, 4, rfl, by decide +kernel⟩)), (List.forall_mem_cons.mpr ⟨Or.inr (Or.inr (Or.inr ⟨by decide, _, _, _, _, _, k_Md_isShelf, w_555, w_548, w_556, by decide +kernel⟩)), (List.forall_mem_cons.mpr ⟨Or.inr (Or.inr (Or.inr ⟨by decide, _, _, _, _, _, k_Md_isOne, w_557, w_548, w_558, w_559, ⟨_, _, rfl⟩, 1, rfl, by decide +kernel⟩)), (List.forall_mem_cons.mpr ⟨Or.inr (Or.inr (Or.inr ⟨by decide, _, _, _, _, _, k_Md_mayBecome, w_560, w_548, w_561, by decide +kernel⟩)), (List.forall_mem_cons.mpr ⟨Or.inr (Or.inr (Or.inr ⟨by decide, _, _, _, _, _, k_Md_becomes, w_562, w_548, w_563, w_564, ⟨_, _, rfl⟩, 2, rfl, by decide +kernel⟩)), (List.forall_mem_cons.mpr ⟨Or.inr (Or.inr (Or.inr ⟨by decide, _, _, _, _, _, k_Md_isIn, w_565, w_548, w_566, by decide +kernel⟩)), (List.forall_mem_cons.mpr ⟨Or.inr (Or.inr (Or.inr ⟨by decide, _, _, _, _, _, k_Md_waitsNow, w_567, w_548, w_568, w_569, ⟨_, _, rfl⟩, 1, rfl, by decide +kernel⟩)), (List.forall_mem_cons.mpr ⟨Or.inr (Or.inr (Or.inr ⟨by decide, _, _, _, _, _, k_Md_byteAt, w_570, w_548, w_571, w_572, ⟨_, _, rfl⟩, 0, rfl, by decide +kernel⟩)), (List.forall_mem_cons.mpr ⟨Or.inr (Or.inr (Or.inr ⟨by decide, _, _, _, _, _, k_Md_both, w_573, w_548, w_574, w_575, ⟨_, _, rfl⟩, 0, rfl, by decide +kernel⟩)), (List.forall_mem_cons.mpr ⟨Or.inr (Or.inr (Or.inr ⟨by decide, _, _, _, _, _, k_Md_takes, w_576, w_548, w_577, w_578, ⟨_, _, rfl⟩, 1, rfl, by decide +kernel⟩)), (List.forall_mem_cons.mpr ⟨Or.inr (Or.inr (Or.inr ⟨by decide, _, _, _, _, _, k_Md_compared, w_579, w_548, w_580, w_581, ⟨_, _, rfl⟩, 0, rfl, by decide +kernel⟩)), (List.forall_mem_cons.mpr ⟨Or.inr (Or.inr (Or.inr ⟨by decide, _, _, _, _, _, k_Md_sums, w_582, w_548, w_583, w_584, ⟨_, _, rfl⟩, 0, rfl, by decide +kernel⟩)), (List.forall_mem_cons.mpr ⟨Or.inr (Or.inr (Or.inr ⟨by decide, _, _, _, _, _, k_Md_product, w_585, w_548, w_586, w_587, ⟨_, _, rfl⟩, 0, rfl, by decide +kernel⟩)), (List.forall_mem_cons.mpr ⟨Or.inr (Or.inr (Or.inr ⟨by decide, _, _, _, _, _, k_Md_one, w_588, w_548, w_589, w_590, ⟨_, _, rfl⟩, 0, rfl, by decide +kernel⟩)), (List.forall_mem_cons.mpr ⟨Or.inr (Or.inr (Or.inr ⟨by decide, _, _, _, _, _, k_Md_wrong, w_591, w_548, w_592, w_593, ⟨_, _, rfl⟩, 0, rfl, by decide +kernel⟩)), (List.forall_mem_cons.mpr ⟨Or.inr (Or.inr (Or.inr ⟨by decide, _, _, _, _, _, k_Md_either, w_594, w_548, w_595, w_596, ⟨_, _, rfl⟩, 0, rfl, by decide +kernel⟩)), (List.forall_mem_cons.mpr ⟨Or.inr (Or.inr (Or.inr ⟨by decide, _, _, _, _, _, k_Md_nameOf, w_597, w_548, w_598, by decide +kernel⟩)), (List.forall_mem_cons.mpr ⟨Or.inr (Or.inr (Or.inr ⟨by decide, _, _, _, _, _, k_Md_workOut, w_599, w_548, w_600, w_601, ⟨_, _, rfl⟩, 2, rfl, by decide +kernel⟩)), (List.forall_mem_cons.mpr ⟨Or.inr (Or.inr (Or.inr ⟨by decide, _, _, _, _, _, k_Md_tallAt, w_602, w_548, w_603, w_604, ⟨_, _, rfl⟩, 3, rfl, by decide +kernel⟩)), (List.forall_mem_cons.mpr ⟨Or.inr (Or.inr (Or.inr ⟨by decide, _, _, _, _, _, k_Md_asksWaiting, w_605, w_548, w_606, w_607, ⟨_, _, rfl⟩, 2, rfl, by decide +kernel⟩)), (List.forall_mem_cons.mpr ⟨Or.inr (Or.inr (Or.inr ⟨by decide, _, _, _, _, _, k_Md_atPlace, w_608, w_548, w_609, w_610, ⟨_, _, rfl⟩, 1, rfl, by decide +kernel⟩)), (List.forall_mem_cons.mpr ⟨Or.inr (Or.inr (Or.inr ⟨by decide, _, _, _, _, _, k_Md_strokes, w_611, w_548, w_612, w_613, ⟨_, _, rfl⟩, 1, rfl, by decide +kernel⟩)), (List.forall_mem_cons.mpr ⟨Or.inr (Or.inr (Or.inr ⟨by decide, _, _, _, _, _, k_Md_isN, w_614, w_548, w_615, by decide +kernel⟩)), (List.forall_mem_cons.mpr ⟨Or.inr (Or.inr (Or.inr ⟨by decide, _, _, _, _, _, k_Md_begins1, w_616, w_548, w_617, w_618, ⟨_, _, rfl⟩, 0, rfl, by decide +kernel⟩)), (List.forall_mem_cons.mpr ⟨Or.inr (Or.inr (Or.inr ⟨by decide, _, _, _, _, _, k_Md_goes, w_619, w_548, w_620, w_621, ⟨_, _, rfl⟩, 1, rfl, by decide +kernel⟩)), (List.forall_mem_cons.mpr ⟨Or.inr (Or.inr (Or.inr ⟨by decide, _, _, _, _, _, k_Md_inMany, w_622, w_548, w_623, w_624, ⟨_, _, rfl⟩, 0, rfl, by decide +kernel⟩)), (List.forall_mem_cons.mpr ⟨Or.inr (Or.inr (Or.inr ⟨by decide, _, _, _, _, _, k_Md_commonOf, w_625, w_548, w_626, by decide +kernel⟩)), (List.forall_mem_cons.mpr ⟨Or.inr (Or.inr (Or.inr ⟨by decide, _, _, _, _, _, k_Md_partOf, w_627, w_548, w_628, by decide +kernel⟩)), (List.forall_mem_cons.mpr ⟨Or.inr (Or.inr (Or.inr ⟨by decide, _, _, _, _, _, k_Md_priceOf, w_629, w_548, w_630, w_631, ⟨_, _, rfl⟩, 1, rfl, by decide +kernel⟩)), (List.forall_mem_cons.mpr ⟨Or.inr (Or.inr (Or.inr ⟨by decide, _, _, _, _, _, k_Md_bitsOf, w_632, w_548, w_633, by decide +kernel⟩)), (List.forall_mem_cons.mpr ⟨Or.inr (Or.inr (Or.inr ⟨by decide, _, _, _, _, _, k_Md_wearing, w_634, w_548, w_635, w_636, ⟨_, _, rfl⟩, 3, rfl, by decide +kernel⟩)), (List.forall_mem_cons.mpr ⟨Or.inr (Or.inr (Or.inr ⟨by decide, _, _, _, _, _, k_Md_chooses, w_637, w_548, w_638, w_639, ⟨_, _, rfl⟩, 1, rfl, by decide +kernel⟩)), (List.forall_mem_cons.mpr ⟨Or.inr (Or.inr (Or.inr ⟨by decide, _, _, _, _, _, k_Md_bytesIs, w_640, w_548, w_641, w_642, ⟨_, _, rfl⟩, 1, rfl, by decide +kernel⟩)), (List.forall_mem_cons.mpr ⟨Or.inr (Or.inr (Or.inr ⟨by decide, _, _, _, _, _, k_Md_firstFalse, w_643, w_548, w_644, w_645, ⟨_, _, rfl⟩, 1, rfl, by decide +kernel⟩)), (List.forall_mem_cons.mpr ⟨Or.inr (Or.inr (Or.inr ⟨by decide, _, _, _, _, _, k_Md_wears, w_646, w_548, w_647, w_648, ⟨_, _, rfl⟩, 1, rfl, by decide +kernel⟩)), (List.forall_mem_cons.mpr ⟨Or.inr (Or.inr (Or.inr ⟨by decide, _, _, _, _, _, k_Md_insideMany, w_649, w_548, w_650, w_651, ⟨_, _, rfl⟩, 0, rfl, by decide +kernel⟩)), (List.forall_mem_cons.mpr ⟨Or.inr (Or.inr (Or.inr ⟨by decide, _, _, _, _, _, k_Md_led, w_652, w_548, w_653, w_654, ⟨_, _, rfl⟩, 1, rfl, by decide +kernel⟩)), (List.forall_mem_cons.mpr ⟨Or.inr (Or.inr (Or.inr ⟨by decide, _, _, _, _, _, k_Md_begins, w_655, w_548, w_656, w_657, ⟨_, _, rfl⟩, 1, rfl, by decide +kernel⟩)), (List.forall_mem_cons.mpr ⟨Or.inr (Or.inr (Or.inr ⟨by decide, _, _, _, _, _, k_Md_waitsAs, w_658, w_548, w_659, w_660, ⟨_, _, rfl⟩, 2, rfl, by decide +kernel⟩)), (List.forall_mem_cons.mpr ⟨Or.inr (Or.inr (Or.inr ⟨by decide, _, _, _, _, _, k_Md_countsAs, w_661, w_548, w_662, w_663, ⟨_, _, rfl⟩, 2, rfl, by decide +kernel⟩)), (List.forall_mem_cons.mpr ⟨Or.inr (Or.inr (Or.inr ⟨by decide, _, _, _, _, _, k_Md_opensAs, w_664, w_548, w_665, w_666, ⟨_, _, rfl⟩, 2, rfl, by decide +kernel⟩)), (List.forall_mem_cons.mpr ⟨Or.inr (Or.inr (Or.inr ⟨by decide, _, _, _, _, _, k_Md_tellsAs, w_667, w_548, w_668, w_669, ⟨_, _, rfl⟩, 2, rfl, by decide +kernel⟩)), (List.forall_mem_cons.mpr ⟨Or.inr (Or.inr (Or.inr ⟨by decide, _, _, _, _, _, k_Md_isBody, w_670, w_548, w_671, w_672, ⟨_, _, rfl⟩, 1, rfl, by decide +kernel⟩)), (List.forall_mem_cons.mpr ⟨Or.inr (Or.inr (Or.inr ⟨by decide, _, _, _, _, _, k_Md_refusal, w_673, w_548, w_674, w_675, ⟨_, _, rfl⟩, 2, rfl, by decide +kernel⟩)), (List.forall_mem_cons.mpr ⟨Or.inr (Or.inr (Or.inr ⟨by decide, _, _, _, _, _, k_Md_asSort, w_676, w_548, w_677, by decide +kernel⟩)), (List.forall_mem_cons.mpr ⟨Or.inr (Or.inr (Or.inr ⟨by decide, _, _, _, _, _, k_Md_kindOf, w_678, w_548, w_679, w_680, ⟨_, _, rfl⟩, 1, rfl, by decide +kernel⟩)), (List.forall_mem_cons.mpr ⟨Or.inr (Or.inr (Or.inr ⟨by decide, _, _, _, _, _, k_Md_above, w_681, w_548, w_682, by decide +kernel⟩)), (List.forall_mem_cons.mpr ⟨Or.inr (Or.inr (Or.inr ⟨by decide, _, _, _, _, _, k_Md_waitMany, w_683, w_548, w_684, w_685, ⟨_, _, rfl⟩, 0, rfl, by decide +kernel⟩)), (fun _ h => absurd h List.not_mem_nil)⟩)⟩)⟩)⟩)⟩)⟩)⟩)⟩)⟩)⟩)⟩)⟩)⟩)⟩)⟩)⟩)⟩)⟩)⟩)⟩)⟩)⟩)⟩)⟩)⟩)⟩)⟩)⟩)⟩)⟩)⟩)⟩)⟩)⟩)⟩)⟩)⟩)⟩)⟩)⟩)⟩)⟩)⟩)⟩)⟩)⟩)⟩)⟩)⟩)⟩)
theorem w_686 : Cond.constant "MiddleOneModel" 201 (-2000000000) ∈ TB := tb (mt6 _ (List.mem_of_getElem? (i := 98) rfl)) rfl
theorem w_687 : Cond.constant "MiddleOneModel" 275 (1103515245) ∈ TB := tb (mt6 _ (List.mem_of_getElem? (i := 234) rfl)) rfl
theorem oi_Md : ∀ e ∈ ck_Md, Cond.constant "MiddleOneModel" e.1 e.2 ∈ TB := (List.forall_mem_cons.mpr ⟨w_686, (List.forall_mem_cons.mpr ⟨w_687, (fun _ h => absurd h List.not_mem_nil)⟩)⟩)
theorem w_688 : Cond.constantLong "MiddleOneModel" 93 (100) ∈ TB := tb (mt5 _ (List.mem_of_getElem? (i := 231) rfl)) rfl
theorem w_689 : Cond.constantLong "MiddleOneModel" 95 (220) ∈ TB := tb (mt5 _ (List.mem_of_getElem? (i := 232) rfl)) rfl
theorem w_690 : Cond.constantLong "MiddleOneModel" 97 (99) ∈ TB := tb (mt5 _ (List.mem_of_getElem? (i := 227) rfl)) rfl
theorem w_691 : Cond.constantLong "MiddleOneModel" 110 (12) ∈ TB := tb (mt6 _ (List.mem_of_getElem? (i := 8) rfl)) rfl
theorem w_692 : Cond.constantLong "MiddleOneModel" 112 (20) ∈ TB := tb (mt6 _ (List.mem_of_getElem? (i := 21) rfl)) rfl
theorem w_693 : Cond.constantLong "MiddleOneModel" 118 (4) ∈ TB := tb (mt6 _ (List.mem_of_getElem? (i := 17) rfl)) rfl
theorem w_694 : Cond.constantLong "MiddleOneModel" 140 (255) ∈ TB := tb (mt6 _ (List.mem_of_getElem? (i := 41) rfl)) rfl
theorem w_695 : Cond.constantLong "MiddleOneModel" 195 (99999) ∈ TB := tb (mt6 _ (List.mem_of_getElem? (i := 93) rfl)) rfl
theorem w_696 : Cond.constantLong "MiddleOneModel" 237 (2) ∈ TB := tb (mt6 _ (List.mem_of_getElem? (i := 134) rfl)) rfl
theorem w_697 : Cond.constantLong "MiddleOneModel" 246 (-9223372036854775808) ∈ TB := tb (mt6 _ (List.mem_of_getElem? (i := 143) rfl)) rfl
theorem w_698 : Cond.constantLong "MiddleOneModel" 248 (-2) ∈ TB := tb (mt6 _ (List.mem_of_getElem? (i := 144) rfl)) rfl
theorem w_699 : Cond.constantLong "MiddleOneModel" 310 (7) ∈ TB := tb (mt7 _ (List.mem_of_getElem? (i := 28) rfl)) rfl
theorem w_700 : Cond.constantLong "MiddleOneModel" 339 (5) ∈ TB := tb (mt6 _ (List.mem_of_getElem? (i := 7) rfl)) rfl
theorem ol_Md : ∀ e ∈ cl_Md, Cond.constantLong "MiddleOneModel" e.1 e.2 ∈ TB := (List.forall_mem_cons.mpr ⟨w_688, (List.forall_mem_cons.mpr ⟨w_689, (List.forall_mem_cons.mpr ⟨w_690, (List.forall_mem_cons.mpr ⟨w_691, (List.forall_mem_cons.mpr ⟨w_692, (List.forall_mem_cons.mpr ⟨w_693, (List.forall_mem_cons.mpr ⟨w_694, (List.forall_mem_cons.mpr ⟨w_695, (List.forall_mem_cons.mpr ⟨w_696, (List.forall_mem_cons.mpr ⟨w_697, (List.forall_mem_cons.mpr ⟨w_698, (List.forall_mem_cons.mpr ⟨w_699, (List.forall_mem_cons.mpr ⟨w_700, (fun _ h => absurd h List.not_mem_nil)⟩)⟩)⟩)⟩)⟩)⟩)⟩)⟩)⟩)⟩)⟩)⟩)⟩)
theorem os_Md : ∀ e ∈ cs_Md, ∃ C nm, gSt.lookup e.2 = some (C, nm) ∧ Cond.fieldLink "MiddleOneModel" e.1 C nm "[I" ∈ TB := (fun _ h => absurd h List.not_mem_nil)
theorem ox_Md : am_okX TB cls (gG L xs) "MiddleOneModel" cx_Md := ⟨fun idx ci k b h => of_Md _ (am_lk h), fun idx oc k n h => om_Md _ (am_lk h), fun idx v h => oi_Md _ (am_lk h), fun idx v h => ol_Md _ (am_lk h)⟩
theorem of_JI : ∀ e ∈ cf_JI, am_okF TB cls "java/lang/Integer" e.1 e.2.1 e.2.2.1 e.2.2.2 := (fun _ h => absurd h List.not_mem_nil)
theorem om_JI : ∀ e ∈ cm_JI, am_okM TB cls (gG L xs) "java/lang/Integer" e.1 e.2.1 e.2.2.1 e.2.2.2 := (fun _ h => absurd h List.not_mem_nil)
theorem w_701 : Cond.constant "java/lang/Integer" 265 (1431655765) ∈ TB := tb (mt3 _ (List.mem_of_getElem? (i := 55) rfl)) rfl
theorem w_702 : Cond.constant "java/lang/Integer" 266 (858993459) ∈ TB := tb (mt3 _ (List.mem_of_getElem? (i := 56) rfl)) rfl
theorem w_703 : Cond.constant "java/lang/Integer" 267 (252645135) ∈ TB := tb (mt3 _ (List.mem_of_getElem? (i := 57) rfl)) rfl
theorem oi_JI : ∀ e ∈ ck_JI, Cond.constant "java/lang/Integer" e.1 e.2 ∈ TB := (List.forall_mem_cons.mpr ⟨w_701, (List.forall_mem_cons.mpr ⟨w_702, (List.forall_mem_cons.mpr ⟨w_703, (fun _ h => absurd h List.not_mem_nil)⟩)⟩)⟩)
theorem ol_JI : ∀ e ∈ cl_JI, Cond.constantLong "java/lang/Integer" e.1 e.2 ∈ TB := (fun _ h => absurd h List.not_mem_nil)
theorem os_JI : ∀ e ∈ cs_JI, ∃ C nm, gSt.lookup e.2 = some (C, nm) ∧ Cond.fieldLink "java/lang/Integer" e.1 C nm "[I" ∈ TB := (fun _ h => absurd h List.not_mem_nil)
theorem ox_JI : am_okX TB cls (gG L xs) "java/lang/Integer" cx_JI := ⟨fun idx ci k b h => of_JI _ (am_lk h), fun idx oc k n h => om_JI _ (am_lk h), fun idx v h => oi_JI _ (am_lk h), fun idx v h => ol_JI _ (am_lk h)⟩
theorem of_JA : ∀ e ∈ cf_JA, am_okF TB cls "java/util/Arrays" e.1 e.2.1 e.2.2.1 e.2.2.2 := (fun _ h => absurd h List.not_mem_nil)
theorem w_704 : Cond.methodLink "java/util/Arrays" 13 y_J_rangeCheck ∈ TB := tb (mt4 _ (List.mem_of_getElem? (i := 229) rfl)) rfl
theorem w_705 : Cond.static y_J_rangeCheck ∈ TB := tb (mt4 _ (List.mem_of_getElem? (i := 230) rfl)) rfl
theorem om_JA : ∀ e ∈ cm_JA, am_okM TB cls (gG L xs) "java/util/Arrays" e.1 e.2.1 e.2.2.1 e.2.2.2 := (List.forall_mem_cons.mpr ⟨Or.inr (Or.inr (Or.inr ⟨by decide, _, _, _, _, _, k_J_rangeCheck, w_704, w_55, w_705, by decide +kernel⟩)), (fun _ h => absurd h List.not_mem_nil)⟩)
theorem oi_JA : ∀ e ∈ ck_JA, Cond.constant "java/util/Arrays" e.1 e.2 ∈ TB := (fun _ h => absurd h List.not_mem_nil)
theorem ol_JA : ∀ e ∈ cl_JA, Cond.constantLong "java/util/Arrays" e.1 e.2 ∈ TB := (fun _ h => absurd h List.not_mem_nil)
theorem os_JA : ∀ e ∈ cs_JA, ∃ C nm, gSt.lookup e.2 = some (C, nm) ∧ Cond.fieldLink "java/util/Arrays" e.1 C nm "[I" ∈ TB := (fun _ h => absurd h List.not_mem_nil)
theorem ox_JA : am_okX TB cls (gG L xs) "java/util/Arrays" cx_JA := ⟨fun idx ci k b h => of_JA _ (am_lk h), fun idx oc k n h => om_JA _ (am_lk h), fun idx v h => oi_JA _ (am_lk h), fun idx v h => ol_JA _ (am_lk h)⟩
theorem of_La : ∀ e ∈ cf_La, am_okF TB cls "MiddleOneLaw" e.1 e.2.1 e.2.2.1 e.2.2.2 := (fun _ h => absurd h List.not_mem_nil)
theorem w_706 : Cond.methodLink "MiddleOneLaw" 13 y_Mo_person ∈ TB := tb (mt2 _ (List.mem_of_getElem? (i := 64) rfl)) rfl
theorem w_707 : Cond.instanceMethod y_Mo_person ∈ TB := tb (mt2 _ (List.mem_of_getElem? (i := 65) rfl)) rfl
theorem w_708 : Cond.selects "MiddleOne" y_Mo_person y_Mo_person ∈ TB := tb (mt2 _ (List.mem_of_getElem? (i := 66) rfl)) rfl
theorem w_709 : Cond.methodLink "MiddleOneLaw" 17 y_Md_person ∈ TB := tb (mt5 _ (List.mem_of_getElem? (i := 223) rfl)) rfl
theorem w_710 : Cond.instanceMethod y_Md_person ∈ TB := tb (mt5 _ (List.mem_of_getElem? (i := 224) rfl)) rfl
theorem w_711 : Cond.selects "MiddleOneModel" y_Md_person y_Md_person ∈ TB := tb (mt5 _ (List.mem_of_getElem? (i := 225) rfl)) rfl
theorem w_712 : Cond.methodLink "MiddleOneLaw" 18 y_Mo_people ∈ TB := tb (mt2 _ (List.mem_of_getElem? (i := 86) rfl)) rfl
theorem w_713 : Cond.instanceMethod y_Mo_people ∈ TB := tb (mt2 _ (List.mem_of_getElem? (i := 87) rfl)) rfl
theorem w_714 : Cond.selects "MiddleOne" y_Mo_people y_Mo_people ∈ TB := tb (mt2 _ (List.mem_of_getElem? (i := 88) rfl)) rfl
theorem w_715 : Cond.methodLink "MiddleOneLaw" 22 y_Md_people ∈ TB := tb (mt6 _ (List.mem_of_getElem? (i := 0) rfl)) rfl
theorem w_716 : Cond.instanceMethod y_Md_people ∈ TB := tb (mt6 _ (List.mem_of_getElem? (i := 1) rfl)) rfl
theorem w_717 : Cond.selects "MiddleOneModel" y_Md_people y_Md_people ∈ TB := tb (mt6 _ (List.mem_of_getElem? (i := 2) rfl)) rfl
theorem w_718 : Cond.methodLink "MiddleOneLaw" 23 y_Mo_mend ∈ TB := tb (mt2 _ (List.mem_of_getElem? (i := 119) rfl)) rfl
theorem w_719 : Cond.instanceMethod y_Mo_mend ∈ TB := tb (mt2 _ (List.mem_of_getElem? (i := 120) rfl)) rfl
theorem w_720 : Cond.selects "MiddleOne" y_Mo_mend y_Mo_mend ∈ TB := tb (mt2 _ (List.mem_of_getElem? (i := 121) rfl)) rfl
theorem w_721 : Cond.methodLink "MiddleOneLaw" 26 y_Md_mend ∈ TB := tb (mt6 _ (List.mem_of_getElem? (i := 9) rfl)) rfl
theorem w_722 : Cond.instanceMethod y_Md_mend ∈ TB := tb (mt6 _ (List.mem_of_getElem? (i := 10) rfl)) rfl
theorem w_723 : Cond.selects "MiddleOneModel" y_Md_mend y_Md_mend ∈ TB := tb (mt6 _ (List.mem_of_getElem? (i := 11) rfl)) rfl
theorem w_724 : Cond.methodLink "MiddleOneLaw" 27 y_Mo_of ∈ TB := tb (mt2 _ (List.mem_of_getElem? (i := 147) rfl)) rfl
theorem w_725 : Cond.instanceMethod y_Mo_of ∈ TB := tb (mt2 _ (List.mem_of_getElem? (i := 148) rfl)) rfl
theorem w_726 : Cond.selects "MiddleOne" y_Mo_of y_Mo_of ∈ TB := tb (mt2 _ (List.mem_of_getElem? (i := 149) rfl)) rfl
theorem w_727 : Cond.methodLink "MiddleOneLaw" 30 y_Md_of ∈ TB := tb (mt6 _ (List.mem_of_getElem? (i := 26) rfl)) rfl
theorem w_728 : Cond.instanceMethod y_Md_of ∈ TB := tb (mt6 _ (List.mem_of_getElem? (i := 27) rfl)) rfl
theorem w_729 : Cond.selects "MiddleOneModel" y_Md_of y_Md_of ∈ TB := tb (mt6 _ (List.mem_of_getElem? (i := 28) rfl)) rfl
theorem w_730 : Cond.methodLink "MiddleOneLaw" 31 y_Mo_feed ∈ TB := tb (mt2 _ (List.mem_of_getElem? (i := 173) rfl)) rfl
theorem w_731 : Cond.instanceMethod y_Mo_feed ∈ TB := tb (mt2 _ (List.mem_of_getElem? (i := 174) rfl)) rfl
theorem w_732 : Cond.selects "MiddleOne" y_Mo_feed y_Mo_feed ∈ TB := tb (mt2 _ (List.mem_of_getElem? (i := 175) rfl)) rfl
theorem w_733 : Cond.methodLink "MiddleOneLaw" 35 y_Md_feed ∈ TB := tb (mt6 _ (List.mem_of_getElem? (i := 37) rfl)) rfl
theorem w_734 : Cond.instanceMethod y_Md_feed ∈ TB := tb (mt6 _ (List.mem_of_getElem? (i := 38) rfl)) rfl
theorem w_735 : Cond.selects "MiddleOneModel" y_Md_feed y_Md_feed ∈ TB := tb (mt6 _ (List.mem_of_getElem? (i := 39) rfl)) rfl
theorem w_736 : Cond.methodLink "MiddleOneLaw" 36 y_Mo_law ∈ TB := tb (mt2 _ (List.mem_of_getElem? (i := 185) rfl)) rfl
theorem w_737 : Cond.instanceMethod y_Mo_law ∈ TB := tb (mt2 _ (List.mem_of_getElem? (i := 186) rfl)) rfl
theorem w_738 : Cond.selects "MiddleOne" y_Mo_law y_Mo_law ∈ TB := tb (mt2 _ (List.mem_of_getElem? (i := 187) rfl)) rfl
theorem w_739 : Cond.methodLink "MiddleOneLaw" 40 y_Md_law ∈ TB := tb (mt6 _ (List.mem_of_getElem? (i := 42) rfl)) rfl
theorem w_740 : Cond.instanceMethod y_Md_law ∈ TB := tb (mt6 _ (List.mem_of_getElem? (i := 43) rfl)) rfl
theorem w_741 : Cond.selects "MiddleOneModel" y_Md_law y_Md_law ∈ TB := tb (mt6 _ (List.mem_of_getElem? (i := 44) rfl)) rfl
theorem w_742 : Cond.methodLink "MiddleOneLaw" 41 y_Mo_tall ∈ TB := tb (mt3 _ (List.mem_of_getElem? (i := 2) rfl)) rfl
theorem w_743 : Cond.instanceMethod y_Mo_tall ∈ TB := tb (mt3 _ (List.mem_of_getElem? (i := 3) rfl)) rfl
theorem w_744 : Cond.selects "MiddleOne" y_Mo_tall y_Mo_tall ∈ TB := tb (mt3 _ (List.mem_of_getElem? (i := 4) rfl)) rfl
theorem w_745 : Cond.methodLink "MiddleOneLaw" 44 y_Md_tall ∈ TB := tb (mt6 _ (List.mem_of_getElem? (i := 89) rfl)) rfl
theorem w_746 : Cond.instanceMethod y_Md_tall ∈ TB := tb (mt6 _ (List.mem_of_getElem? (i := 90) rfl)) rfl
theorem w_747 : Cond.selects "MiddleOneModel" y_Md_tall y_Md_tall ∈ TB := tb (mt6 _ (List.mem_of_getElem? (i := 91) rfl)) rfl
theorem w_748 : Cond.methodLink "MiddleOneLaw" 45 y_Mo_enters ∈ TB := tb (mt3 _ (List.mem_of_getElem? (i := 18) rfl)) rfl
theorem w_749 : Cond.instanceMethod y_Mo_enters ∈ TB := tb (mt3 _ (List.mem_of_getElem? (i := 19) rfl)) rfl
theorem w_750 : Cond.selects "MiddleOne" y_Mo_enters y_Mo_enters ∈ TB := tb (mt3 _ (List.mem_of_getElem? (i := 20) rfl)) rfl
theorem w_751 : Cond.methodLink "MiddleOneLaw" 48 y_Md_enters ∈ TB := tb (mt6 _ (List.mem_of_getElem? (i := 99) rfl)) rfl
theorem w_752 : Cond.instanceMethod y_Md_enters ∈ TB := tb (mt6 _ (List.mem_of_getElem? (i := 100) rfl)) rfl
theorem w_753 : Cond.selects "MiddleOneModel" y_Md_enters y_Md_enters ∈ TB := tb (mt6 _ (List.mem_of_getElem? (i := 101) rfl)) rfl
theorem w_754 : Cond.methodLink "MiddleOneLaw" 49 y_Mo_stroke ∈ TB := tb (mt3 _ (List.mem_of_getElem? (i := 66) rfl)) rfl
theorem w_755 : Cond.instanceMethod y_Mo_stroke ∈ TB := tb (mt3 _ (List.mem_of_getElem? (i := 67) rfl)) rfl
theorem w_756 : Cond.selects "MiddleOne" y_Mo_stroke y_Mo_stroke ∈ TB := tb (mt3 _ (List.mem_of_getElem? (i := 68) rfl)) rfl
theorem w_757 : Cond.methodLink "MiddleOneLaw" 52 y_Md_stroke ∈ TB := tb (mt6 _ (List.mem_of_getElem? (i := 126) rfl)) rfl
theorem w_758 : Cond.instanceMethod y_Md_stroke ∈ TB := tb (mt6 _ (List.mem_of_getElem? (i := 127) rfl)) rfl
theorem w_759 : Cond.selects "MiddleOneModel" y_Md_stroke y_Md_stroke ∈ TB := tb (mt6 _ (List.mem_of_getElem? (i := 128) rfl)) rfl
theorem w_760 : Cond.methodLink "MiddleOneLaw" 53 y_Mo_day ∈ TB := tb (mt3 _ (List.mem_of_getElem? (i := 85) rfl)) rfl
theorem w_761 : Cond.instanceMethod y_Mo_day ∈ TB := tb (mt3 _ (List.mem_of_getElem? (i := 86) rfl)) rfl
theorem w_762 : Cond.selects "MiddleOne" y_Mo_day y_Mo_day ∈ TB := tb (mt3 _ (List.mem_of_getElem? (i := 87) rfl)) rfl
theorem w_763 : Cond.methodLink "MiddleOneLaw" 56 y_Md_day ∈ TB := tb (mt6 _ (List.mem_of_getElem? (i := 130) rfl)) rfl
theorem w_764 : Cond.instanceMethod y_Md_day ∈ TB := tb (mt6 _ (List.mem_of_getElem? (i := 131) rfl)) rfl
theorem w_765 : Cond.selects "MiddleOneModel" y_Md_day y_Md_day ∈ TB := tb (mt6 _ (List.mem_of_getElem? (i := 132) rfl)) rfl
theorem w_766 : Cond.methodLink "MiddleOneLaw" 57 y_Mo_mean ∈ TB := tb (mt3 _ (List.mem_of_getElem? (i := 98) rfl)) rfl
theorem w_767 : Cond.instanceMethod y_Mo_mean ∈ TB := tb (mt3 _ (List.mem_of_getElem? (i := 99) rfl)) rfl
theorem w_768 : Cond.selects "MiddleOne" y_Mo_mean y_Mo_mean ∈ TB := tb (mt3 _ (List.mem_of_getElem? (i := 100) rfl)) rfl
theorem w_769 : Cond.methodLink "MiddleOneLaw" 61 y_Md_mean ∈ TB := tb (mt6 _ (List.mem_of_getElem? (i := 139) rfl)) rfl
theorem w_770 : Cond.instanceMethod y_Md_mean ∈ TB := tb (mt6 _ (List.mem_of_getElem? (i := 140) rfl)) rfl
theorem w_771 : Cond.selects "MiddleOneModel" y_Md_mean y_Md_mean ∈ TB := tb (mt6 _ (List.mem_of_getElem? (i := 141) rfl)) rfl
theorem w_772 : Cond.methodLink "MiddleOneLaw" 62 y_Mo_sent ∈ TB := tb (mt3 _ (List.mem_of_getElem? (i := 115) rfl)) rfl
theorem w_773 : Cond.instanceMethod y_Mo_sent ∈ TB := tb (mt3 _ (List.mem_of_getElem? (i := 116) rfl)) rfl
theorem w_774 : Cond.selects "MiddleOne" y_Mo_sent y_Mo_sent ∈ TB := tb (mt3 _ (List.mem_of_getElem? (i := 117) rfl)) rfl
theorem w_775 : Cond.methodLink "MiddleOneLaw" 65 y_Md_sent ∈ TB := tb (mt6 _ (List.mem_of_getElem? (i := 151) rfl)) rfl
theorem w_776 : Cond.instanceMethod y_Md_sent ∈ TB := tb (mt6 _ (List.mem_of_getElem? (i := 152) rfl)) rfl
theorem w_777 : Cond.selects "MiddleOneModel" y_Md_sent y_Md_sent ∈ TB := tb (mt6 _ (List.mem_of_getElem? (i := 153) rfl)) rfl
theorem w_778 : Cond.methodLink "MiddleOneLaw" 66 y_Mo_brought ∈ TB := tb (mt3 _ (List.mem_of_getElem? (i := 139) rfl)) rfl
theorem w_779 : Cond.instanceMethod y_Mo_brought ∈ TB := tb (mt3 _ (List.mem_of_getElem? (i := 140) rfl)) rfl
theorem w_780 : Cond.selects "MiddleOne" y_Mo_brought y_Mo_brought ∈ TB := tb (mt3 _ (List.mem_of_getElem? (i := 141) rfl)) rfl
theorem w_781 : Cond.methodLink "MiddleOneLaw" 69 y_Md_brought ∈ TB := tb (mt6 _ (List.mem_of_getElem? (i := 162) rfl)) rfl
theorem w_782 : Cond.instanceMethod y_Md_brought ∈ TB := tb (mt6 _ (List.mem_of_getElem? (i := 163) rfl)) rfl
theorem w_783 : Cond.selects "MiddleOneModel" y_Md_brought y_Md_brought ∈ TB := tb (mt6 _ (List.mem_of_getElem? (i := 164) rfl)) rfl
theorem w_784 : Cond.methodLink "MiddleOneLaw" 70 y_Mo_heels ∈ TB := tb (mt3 _ (List.mem_of_getElem? (i := 173) rfl)) rfl
theorem w_785 : Cond.instanceMethod y_Mo_heels ∈ TB := tb (mt3 _ (List.mem_of_getElem? (i := 174) rfl)) rfl
theorem w_786 : Cond.selects "MiddleOne" y_Mo_heels y_Mo_heels ∈ TB := tb (mt3 _ (List.mem_of_getElem? (i := 175) rfl)) rfl
theorem w_787 : Cond.methodLink "MiddleOneLaw" 73 y_Md_heels ∈ TB := tb (mt6 _ (List.mem_of_getElem? (i := 166) rfl)) rfl
theorem w_788 : Cond.instanceMethod y_Md_heels ∈ TB := tb (mt6 _ (List.mem_of_getElem? (i := 167) rfl)) rfl
theorem w_789 : Cond.selects "MiddleOneModel" y_Md_heels y_Md_heels ∈ TB := tb (mt6 _ (List.mem_of_getElem? (i := 168) rfl)) rfl
theorem w_790 : Cond.methodLink "MiddleOneLaw" 74 y_Mo_later ∈ TB := tb (mt3 _ (List.mem_of_getElem? (i := 186) rfl)) rfl
theorem w_791 : Cond.instanceMethod y_Mo_later ∈ TB := tb (mt3 _ (List.mem_of_getElem? (i := 187) rfl)) rfl
theorem w_792 : Cond.selects "MiddleOne" y_Mo_later y_Mo_later ∈ TB := tb (mt3 _ (List.mem_of_getElem? (i := 188) rfl)) rfl
theorem w_793 : Cond.methodLink "MiddleOneLaw" 77 y_Md_later ∈ TB := tb (mt6 _ (List.mem_of_getElem? (i := 174) rfl)) rfl
theorem w_794 : Cond.instanceMethod y_Md_later ∈ TB := tb (mt6 _ (List.mem_of_getElem? (i := 175) rfl)) rfl
theorem w_795 : Cond.selects "MiddleOneModel" y_Md_later y_Md_later ∈ TB := tb (mt6 _ (List.mem_of_getElem? (i := 176) rfl)) rfl
theorem w_796 : Cond.methodLink "MiddleOneLaw" 78 y_Mo_allWear ∈ TB := tb (mt3 _ (List.mem_of_getElem? (i := 195) rfl)) rfl
theorem w_797 : Cond.instanceMethod y_Mo_allWear ∈ TB := tb (mt3 _ (List.mem_of_getElem? (i := 196) rfl)) rfl
theorem w_798 : Cond.selects "MiddleOne" y_Mo_allWear y_Mo_allWear ∈ TB := tb (mt3 _ (List.mem_of_getElem? (i := 197) rfl)) rfl
theorem w_799 : Cond.methodLink "MiddleOneLaw" 81 y_Md_allWear ∈ TB := tb (mt6 _ (List.mem_of_getElem? (i := 178) rfl)) rfl
theorem w_800 : Cond.instanceMethod y_Md_allWear ∈ TB := tb (mt6 _ (List.mem_of_getElem? (i := 179) rfl)) rfl
theorem w_801 : Cond.selects "MiddleOneModel" y_Md_allWear y_Md_allWear ∈ TB := tb (mt6 _ (List.mem_of_getElem? (i := 180) rfl)) rfl
theorem w_802 : Cond.methodLink "MiddleOneLaw" 82 y_Mo_gates ∈ TB := tb (mt3 _ (List.mem_of_getElem? (i := 212) rfl)) rfl
theorem w_803 : Cond.instanceMethod y_Mo_gates ∈ TB := tb (mt3 _ (List.mem_of_getElem? (i := 213) rfl)) rfl
theorem w_804 : Cond.selects "MiddleOne" y_Mo_gates y_Mo_gates ∈ TB := tb (mt3 _ (List.mem_of_getElem? (i := 214) rfl)) rfl
theorem w_805 : Cond.methodLink "MiddleOneLaw" 85 y_Md_gates ∈ TB := tb (mt6 _ (List.mem_of_getElem? (i := 186) rfl)) rfl
theorem w_806 : Cond.instanceMethod y_Md_gates ∈ TB := tb (mt6 _ (List.mem_of_getElem? (i := 187) rfl)) rfl
theorem w_807 : Cond.selects "MiddleOneModel" y_Md_gates y_Md_gates ∈ TB := tb (mt6 _ (List.mem_of_getElem? (i := 188) rfl)) rfl
theorem w_808 : Cond.methodLink "MiddleOneLaw" 86 y_Mo_where ∈ TB := tb (mt3 _ (List.mem_of_getElem? (i := 222) rfl)) rfl
theorem w_809 : Cond.instanceMethod y_Mo_where ∈ TB := tb (mt3 _ (List.mem_of_getElem? (i := 223) rfl)) rfl
theorem w_810 : Cond.selects "MiddleOne" y_Mo_where y_Mo_where ∈ TB := tb (mt3 _ (List.mem_of_getElem? (i := 224) rfl)) rfl
theorem w_811 : Cond.methodLink "MiddleOneLaw" 89 y_Md_where ∈ TB := tb (mt6 _ (List.mem_of_getElem? (i := 190) rfl)) rfl
theorem w_812 : Cond.instanceMethod y_Md_where ∈ TB := tb (mt6 _ (List.mem_of_getElem? (i := 191) rfl)) rfl
theorem w_813 : Cond.selects "MiddleOneModel" y_Md_where y_Md_where ∈ TB := tb (mt6 _ (List.mem_of_getElem? (i := 192) rfl)) rfl
theorem w_814 : Cond.methodLink "MiddleOneLaw" 90 y_Mo_bestSet ∈ TB := tb (mt3 _ (List.mem_of_getElem? (i := 231) rfl)) rfl
theorem w_815 : Cond.instanceMethod y_Mo_bestSet ∈ TB := tb (mt3 _ (List.mem_of_getElem? (i := 232) rfl)) rfl
theorem w_816 : Cond.selects "MiddleOne" y_Mo_bestSet y_Mo_bestSet ∈ TB := tb (mt3 _ (List.mem_of_getElem? (i := 233) rfl)) rfl
theorem w_817 : Cond.methodLink "MiddleOneLaw" 93 y_Md_bestSet ∈ TB := tb (mt6 _ (List.mem_of_getElem? (i := 194) rfl)) rfl
theorem w_818 : Cond.instanceMethod y_Md_bestSet ∈ TB := tb (mt6 _ (List.mem_of_getElem? (i := 195) rfl)) rfl
theorem w_819 : Cond.selects "MiddleOneModel" y_Md_bestSet y_Md_bestSet ∈ TB := tb (mt6 _ (List.mem_of_getElem? (i := 196) rfl)) rfl
theorem w_820 : Cond.methodLink "MiddleOneLaw" 94 y_Mo_atLast ∈ TB := tb (mt3 _ (List.mem_of_getElem? (i := 239) rfl)) rfl
theorem w_821 : Cond.instanceMethod y_Mo_atLast ∈ TB := tb (mt4 _ (List.mem_of_getElem? (i := 0) rfl)) rfl
theorem w_822 : Cond.selects "MiddleOne" y_Mo_atLast y_Mo_atLast ∈ TB := tb (mt4 _ (List.mem_of_getElem? (i := 1) rfl)) rfl
theorem w_823 : Cond.methodLink "MiddleOneLaw" 97 y_Md_atLast ∈ TB := tb (mt6 _ (List.mem_of_getElem? (i := 198) rfl)) rfl
theorem w_824 : Cond.instanceMethod y_Md_atLast ∈ TB := tb (mt6 _ (List.mem_of_getElem? (i := 199) rfl)) rfl
theorem w_825 : Cond.selects "MiddleOneModel" y_Md_atLast y_Md_atLast ∈ TB := tb (mt6 _ (List.mem_of_getElem? (i := 200) rfl)) rfl
theorem w_826 : Cond.methodLink "MiddleOneLaw" 98 y_Mo_rule ∈ TB := tb (mt4 _ (List.mem_of_getElem? (i := 7) rfl)) rfl
theorem w_827 : Cond.instanceMethod y_Mo_rule ∈ TB := tb (mt4 _ (List.mem_of_getElem? (i := 8) rfl)) rfl
theorem w_828 : Cond.selects "MiddleOne" y_Mo_rule y_Mo_rule ∈ TB := tb (mt4 _ (List.mem_of_getElem? (i := 9) rfl)) rfl
theorem w_829 : Cond.methodLink "MiddleOneLaw" 101 y_Md_rule ∈ TB := tb (mt6 _ (List.mem_of_getElem? (i := 202) rfl)) rfl
theorem w_830 : Cond.instanceMethod y_Md_rule ∈ TB := tb (mt6 _ (List.mem_of_getElem? (i := 203) rfl)) rfl
theorem w_831 : Cond.selects "MiddleOneModel" y_Md_rule y_Md_rule ∈ TB := tb (mt6 _ (List.mem_of_getElem? (i := 204) rfl)) rfl
theorem w_832 : Cond.methodLink "MiddleOneLaw" 102 y_Mo_judge ∈ TB := tb (mt4 _ (List.mem_of_getElem? (i := 19) rfl)) rfl
theorem w_833 : Cond.instanceMethod y_Mo_judge ∈ TB := tb (mt4 _ (List.mem_of_getElem? (i := 20) rfl)) rfl
theorem w_834 : Cond.selects "MiddleOne" y_Mo_judge y_Mo_judge ∈ TB := tb (mt4 _ (List.mem_of_getElem? (i := 21) rfl)) rfl
theorem w_835 : Cond.methodLink "MiddleOneLaw" 105 y_Md_judge ∈ TB := tb (mt6 _ (List.mem_of_getElem? (i := 206) rfl)) rfl
theorem w_836 : Cond.instanceMethod y_Md_judge ∈ TB := tb (mt6 _ (List.mem_of_getElem? (i := 207) rfl)) rfl
theorem w_837 : Cond.selects "MiddleOneModel" y_Md_judge y_Md_judge ∈ TB := tb (mt6 _ (List.mem_of_getElem? (i := 208) rfl)) rfl
theorem w_838 : Cond.methodLink "MiddleOneLaw" 106 y_Mo_with ∈ TB := tb (mt4 _ (List.mem_of_getElem? (i := 39) rfl)) rfl
theorem w_839 : Cond.instanceMethod y_Mo_with ∈ TB := tb (mt4 _ (List.mem_of_getElem? (i := 40) rfl)) rfl
theorem w_840 : Cond.selects "MiddleOne" y_Mo_with y_Mo_with ∈ TB := tb (mt4 _ (List.mem_of_getElem? (i := 41) rfl)) rfl
theorem w_841 : Cond.methodLink "MiddleOneLaw" 109 y_Md_with ∈ TB := tb (mt6 _ (List.mem_of_getElem? (i := 218) rfl)) rfl
theorem w_842 : Cond.instanceMethod y_Md_with ∈ TB := tb (mt6 _ (List.mem_of_getElem? (i := 219) rfl)) rfl
theorem w_843 : Cond.selects "MiddleOneModel" y_Md_with y_Md_with ∈ TB := tb (mt6 _ (List.mem_of_getElem? (i := 220) rfl)) rfl
theorem w_844 : Cond.methodLink "MiddleOneLaw" 110 y_Mo_heeled ∈ TB := tb (mt4 _ (List.mem_of_getElem? (i := 49) rfl)) rfl
theorem w_845 : Cond.instanceMethod y_Mo_heeled ∈ TB := tb (mt4 _ (List.mem_of_getElem? (i := 50) rfl)) rfl
theorem w_846 : Cond.selects "MiddleOne" y_Mo_heeled y_Mo_heeled ∈ TB := tb (mt4 _ (List.mem_of_getElem? (i := 51) rfl)) rfl
theorem w_847 : Cond.methodLink "MiddleOneLaw" 113 y_Md_heeled ∈ TB := tb (mt6 _ (List.mem_of_getElem? (i := 222) rfl)) rfl
theorem w_848 : Cond.instanceMethod y_Md_heeled ∈ TB := tb (mt6 _ (List.mem_of_getElem? (i := 223) rfl)) rfl
theorem w_849 : Cond.selects "MiddleOneModel" y_Md_heeled y_Md_heeled ∈ TB := tb (mt6 _ (List.mem_of_getElem? (i := 224) rfl)) rfl
theorem w_850 : Cond.methodLink "MiddleOneLaw" 114 y_Mo_drawn ∈ TB := tb (mt4 _ (List.mem_of_getElem? (i := 62) rfl)) rfl
theorem w_851 : Cond.instanceMethod y_Mo_drawn ∈ TB := tb (mt4 _ (List.mem_of_getElem? (i := 63) rfl)) rfl
theorem w_852 : Cond.selects "MiddleOne" y_Mo_drawn y_Mo_drawn ∈ TB := tb (mt4 _ (List.mem_of_getElem? (i := 64) rfl)) rfl
theorem w_853 : Cond.methodLink "MiddleOneLaw" 117 y_Md_drawn ∈ TB := tb (mt6 _ (List.mem_of_getElem? (i := 230) rfl)) rfl
theorem w_854 : Cond.instanceMethod y_Md_drawn ∈ TB := tb (mt6 _ (List.mem_of_getElem? (i := 231) rfl)) rfl
theorem w_855 : Cond.selects "MiddleOneModel" y_Md_drawn y_Md_drawn ∈ TB := tb (mt6 _ (List.mem_of_getElem? (i := 232) rfl)) rfl
theorem w_856 : Cond.methodLink "MiddleOneLaw" 118 y_Mo_strike ∈ TB := tb (mt4 _ (List.mem_of_getElem? (i := 73) rfl)) rfl
theorem w_857 : Cond.instanceMethod y_Mo_strike ∈ TB := tb (mt4 _ (List.mem_of_getElem? (i := 74) rfl)) rfl
theorem w_858 : Cond.selects "MiddleOne" y_Mo_strike y_Mo_strike ∈ TB := tb (mt4 _ (List.mem_of_getElem? (i := 75) rfl)) rfl
theorem w_859 : Cond.methodLink "MiddleOneLaw" 121 y_Md_strike ∈ TB := tb (mt6 _ (List.mem_of_getElem? (i := 235) rfl)) rfl
theorem w_860 : Cond.instanceMethod y_Md_strike ∈ TB := tb (mt6 _ (List.mem_of_getElem? (i := 236) rfl)) rfl
theorem w_861 : Cond.selects "MiddleOneModel" y_Md_strike y_Md_strike ∈ TB := tb (mt6 _ (List.mem_of_getElem? (i := 237) rfl)) rfl
theorem w_862 : Cond.methodLink "MiddleOneLaw" 122 y_Mo_take ∈ TB := tb (mt4 _ (List.mem_of_getElem? (i := 89) rfl)) rfl
theorem w_863 : Cond.instanceMethod y_Mo_take ∈ TB := tb (mt4 _ (List.mem_of_getElem? (i := 90) rfl)) rfl
theorem w_864 : Cond.selects "MiddleOne" y_Mo_take y_Mo_take ∈ TB := tb (mt4 _ (List.mem_of_getElem? (i := 91) rfl)) rfl
theorem w_865 : Cond.methodLink "MiddleOneLaw" 125 y_Md_take ∈ TB := tb (mt6 _ (List.mem_of_getElem? (i := 239) rfl)) rfl
theorem w_866 : Cond.instanceMethod y_Md_take ∈ TB := tb (mt7 _ (List.mem_of_getElem? (i := 0) rfl)) rfl
theorem w_867 : Cond.selects "MiddleOneModel" y_Md_take y_Md_take ∈ TB := tb (mt7 _ (List.mem_of_getElem? (i := 1) rfl)) rfl
theorem w_868 : Cond.methodLink "MiddleOneLaw" 126 y_Mo_dawn ∈ TB := tb (mt4 _ (List.mem_of_getElem? (i := 97) rfl)) rfl
theorem w_869 : Cond.instanceMethod y_Mo_dawn ∈ TB := tb (mt4 _ (List.mem_of_getElem? (i := 98) rfl)) rfl
theorem w_870 : Cond.selects "MiddleOne" y_Mo_dawn y_Mo_dawn ∈ TB := tb (mt4 _ (List.mem_of_getElem? (i := 99) rfl)) rfl
theorem w_871 : Cond.methodLink "MiddleOneLaw" 129 y_Md_dawn ∈ TB := tb (mt7 _ (List.mem_of_getElem? (i := 3) rfl)) rfl
theorem w_872 : Cond.instanceMethod y_Md_dawn ∈ TB := tb (mt7 _ (List.mem_of_getElem? (i := 4) rfl)) rfl
theorem w_873 : Cond.selects "MiddleOneModel" y_Md_dawn y_Md_dawn ∈ TB := tb (mt7 _ (List.mem_of_getElem? (i := 5) rfl)) rfl
theorem w_874 : Cond.methodLink "MiddleOneLaw" 130 y_Mo_led ∈ TB := tb (mt4 _ (List.mem_of_getElem? (i := 109) rfl)) rfl
theorem w_875 : Cond.instanceMethod y_Mo_led ∈ TB := tb (mt4 _ (List.mem_of_getElem? (i := 110) rfl)) rfl
theorem w_876 : Cond.selects "MiddleOne" y_Mo_led y_Mo_led ∈ TB := tb (mt4 _ (List.mem_of_getElem? (i := 111) rfl)) rfl
theorem w_877 : Cond.methodLink "MiddleOneLaw" 133 y_Md_led ∈ TB := tb (mt7 _ (List.mem_of_getElem? (i := 11) rfl)) rfl
theorem w_878 : Cond.methodLink "MiddleOneLaw" 134 y_Mo_image ∈ TB := tb (mt4 _ (List.mem_of_getElem? (i := 113) rfl)) rfl
theorem w_879 : Cond.instanceMethod y_Mo_image ∈ TB := tb (mt4 _ (List.mem_of_getElem? (i := 114) rfl)) rfl
theorem w_880 : Cond.selects "MiddleOne" y_Mo_image y_Mo_image ∈ TB := tb (mt4 _ (List.mem_of_getElem? (i := 115) rfl)) rfl
theorem w_881 : Cond.methodLink "MiddleOneLaw" 137 y_Md_image ∈ TB := tb (mt7 _ (List.mem_of_getElem? (i := 15) rfl)) rfl
theorem w_882 : Cond.instanceMethod y_Md_image ∈ TB := tb (mt7 _ (List.mem_of_getElem? (i := 16) rfl)) rfl
theorem w_883 : Cond.selects "MiddleOneModel" y_Md_image y_Md_image ∈ TB := tb (mt7 _ (List.mem_of_getElem? (i := 17) rfl)) rfl
theorem w_884 : Cond.methodLink "MiddleOneLaw" 138 y_Mo_back ∈ TB := tb (mt4 _ (List.mem_of_getElem? (i := 122) rfl)) rfl
theorem w_885 : Cond.instanceMethod y_Mo_back ∈ TB := tb (mt4 _ (List.mem_of_getElem? (i := 123) rfl)) rfl
theorem w_886 : Cond.selects "MiddleOne" y_Mo_back y_Mo_back ∈ TB := tb (mt4 _ (List.mem_of_getElem? (i := 124) rfl)) rfl
theorem w_887 : Cond.methodLink "MiddleOneLaw" 141 y_Md_back ∈ TB := tb (mt7 _ (List.mem_of_getElem? (i := 20) rfl)) rfl
theorem w_888 : Cond.instanceMethod y_Md_back ∈ TB := tb (mt7 _ (List.mem_of_getElem? (i := 21) rfl)) rfl
theorem w_889 : Cond.selects "MiddleOneModel" y_Md_back y_Md_back ∈ TB := tb (mt7 _ (List.mem_of_getElem? (i := 22) rfl)) rfl
theorem w_890 : Cond.methodLink "MiddleOneLaw" 142 y_Mo_undo ∈ TB := tb (mt4 _ (List.mem_of_getElem? (i := 134) rfl)) rfl
theorem w_891 : Cond.instanceMethod y_Mo_undo ∈ TB := tb (mt4 _ (List.mem_of_getElem? (i := 135) rfl)) rfl
theorem w_892 : Cond.selects "MiddleOne" y_Mo_undo y_Mo_undo ∈ TB := tb (mt4 _ (List.mem_of_getElem? (i := 136) rfl)) rfl
theorem w_893 : Cond.methodLink "MiddleOneLaw" 145 y_Md_undo ∈ TB := tb (mt5 _ (List.mem_of_getElem? (i := 215) rfl)) rfl
theorem w_894 : Cond.instanceMethod y_Md_undo ∈ TB := tb (mt5 _ (List.mem_of_getElem? (i := 216) rfl)) rfl
theorem w_895 : Cond.selects "MiddleOneModel" y_Md_undo y_Md_undo ∈ TB := tb (mt5 _ (List.mem_of_getElem? (i := 217) rfl)) rfl
theorem w_896 : Cond.methodLink "MiddleOneLaw" 146 y_Mo_redo ∈ TB := tb (mt4 _ (List.mem_of_getElem? (i := 146) rfl)) rfl
theorem w_897 : Cond.instanceMethod y_Mo_redo ∈ TB := tb (mt4 _ (List.mem_of_getElem? (i := 147) rfl)) rfl
theorem w_898 : Cond.selects "MiddleOne" y_Mo_redo y_Mo_redo ∈ TB := tb (mt4 _ (List.mem_of_getElem? (i := 148) rfl)) rfl
theorem w_899 : Cond.methodLink "MiddleOneLaw" 149 y_Md_redo ∈ TB := tb (mt5 _ (List.mem_of_getElem? (i := 219) rfl)) rfl
theorem w_900 : Cond.instanceMethod y_Md_redo ∈ TB := tb (mt5 _ (List.mem_of_getElem? (i := 220) rfl)) rfl
theorem w_901 : Cond.selects "MiddleOneModel" y_Md_redo y_Md_redo ∈ TB := tb (mt5 _ (List.mem_of_getElem? (i := 221) rfl)) rfl
theorem w_902 : Cond.methodLink "MiddleOneLaw" 150 y_Mo_body ∈ TB := tb (mt4 _ (List.mem_of_getElem? (i := 158) rfl)) rfl
theorem w_903 : Cond.instanceMethod y_Mo_body ∈ TB := tb (mt4 _ (List.mem_of_getElem? (i := 159) rfl)) rfl
theorem w_904 : Cond.selects "MiddleOne" y_Mo_body y_Mo_body ∈ TB := tb (mt4 _ (List.mem_of_getElem? (i := 160) rfl)) rfl
theorem w_905 : Cond.methodLink "MiddleOneLaw" 153 y_Md_body ∈ TB := tb (mt7 _ (List.mem_of_getElem? (i := 24) rfl)) rfl
theorem w_906 : Cond.instanceMethod y_Md_body ∈ TB := tb (mt7 _ (List.mem_of_getElem? (i := 25) rfl)) rfl
theorem w_907 : Cond.selects "MiddleOneModel" y_Md_body y_Md_body ∈ TB := tb (mt7 _ (List.mem_of_getElem? (i := 26) rfl)) rfl
theorem w_908 : Cond.methodLink "MiddleOneLaw" 154 y_Mo_act ∈ TB := tb (mt4 _ (List.mem_of_getElem? (i := 173) rfl)) rfl
theorem w_909 : Cond.instanceMethod y_Mo_act ∈ TB := tb (mt4 _ (List.mem_of_getElem? (i := 174) rfl)) rfl
theorem w_910 : Cond.selects "MiddleOne" y_Mo_act y_Mo_act ∈ TB := tb (mt4 _ (List.mem_of_getElem? (i := 175) rfl)) rfl
theorem w_911 : Cond.methodLink "MiddleOneLaw" 157 y_Md_act ∈ TB := tb (mt7 _ (List.mem_of_getElem? (i := 29) rfl)) rfl
theorem w_912 : Cond.instanceMethod y_Md_act ∈ TB := tb (mt7 _ (List.mem_of_getElem? (i := 30) rfl)) rfl
theorem w_913 : Cond.selects "MiddleOneModel" y_Md_act y_Md_act ∈ TB := tb (mt7 _ (List.mem_of_getElem? (i := 31) rfl)) rfl
theorem w_914 : Cond.methodLink "MiddleOneLaw" 158 y_Mo_trace ∈ TB := tb (mt4 _ (List.mem_of_getElem? (i := 201) rfl)) rfl
theorem w_915 : Cond.instanceMethod y_Mo_trace ∈ TB := tb (mt4 _ (List.mem_of_getElem? (i := 202) rfl)) rfl
theorem w_916 : Cond.selects "MiddleOne" y_Mo_trace y_Mo_trace ∈ TB := tb (mt4 _ (List.mem_of_getElem? (i := 203) rfl)) rfl
theorem w_917 : Cond.methodLink "MiddleOneLaw" 161 y_Md_trace ∈ TB := tb (mt7 _ (List.mem_of_getElem? (i := 57) rfl)) rfl
theorem w_918 : Cond.instanceMethod y_Md_trace ∈ TB := tb (mt7 _ (List.mem_of_getElem? (i := 58) rfl)) rfl
theorem w_919 : Cond.selects "MiddleOneModel" y_Md_trace y_Md_trace ∈ TB := tb (mt7 _ (List.mem_of_getElem? (i := 59) rfl)) rfl
theorem w_920 : Cond.methodLink "MiddleOneLaw" 162 y_Mo_keep ∈ TB := tb (mt4 _ (List.mem_of_getElem? (i := 209) rfl)) rfl
theorem w_921 : Cond.instanceMethod y_Mo_keep ∈ TB := tb (mt4 _ (List.mem_of_getElem? (i := 210) rfl)) rfl
theorem w_922 : Cond.selects "MiddleOne" y_Mo_keep y_Mo_keep ∈ TB := tb (mt4 _ (List.mem_of_getElem? (i := 211) rfl)) rfl
theorem w_923 : Cond.methodLink "MiddleOneLaw" 165 y_Md_keep ∈ TB := tb (mt7 _ (List.mem_of_getElem? (i := 61) rfl)) rfl
theorem w_924 : Cond.instanceMethod y_Md_keep ∈ TB := tb (mt7 _ (List.mem_of_getElem? (i := 62) rfl)) rfl
theorem w_925 : Cond.selects "MiddleOneModel" y_Md_keep y_Md_keep ∈ TB := tb (mt7 _ (List.mem_of_getElem? (i := 63) rfl)) rfl
theorem w_926 : Cond.methodLink "MiddleOneLaw" 166 y_Mo_row ∈ TB := tb (mt4 _ (List.mem_of_getElem? (i := 218) rfl)) rfl
theorem w_927 : Cond.instanceMethod y_Mo_row ∈ TB := tb (mt4 _ (List.mem_of_getElem? (i := 219) rfl)) rfl
theorem w_928 : Cond.selects "MiddleOne" y_Mo_row y_Mo_row ∈ TB := tb (mt4 _ (List.mem_of_getElem? (i := 220) rfl)) rfl
theorem w_929 : Cond.methodLink "MiddleOneLaw" 169 y_Md_row ∈ TB := tb (mt7 _ (List.mem_of_getElem? (i := 65) rfl)) rfl
theorem w_930 : Cond.instanceMethod y_Md_row ∈ TB := tb (mt7 _ (List.mem_of_getElem? (i := 66) rfl)) rfl
theorem w_931 : Cond.selects "MiddleOneModel" y_Md_row y_Md_row ∈ TB := tb (mt7 _ (List.mem_of_getElem? (i := 67) rfl)) rfl
theorem w_932 : Cond.methodLink "MiddleOneLaw" 172 y_Mo_put ∈ TB := tb (mt4 _ (List.mem_of_getElem? (i := 232) rfl)) rfl
theorem w_933 : Cond.instanceMethod y_Mo_put ∈ TB := tb (mt4 _ (List.mem_of_getElem? (i := 233) rfl)) rfl
theorem w_934 : Cond.selects "MiddleOne" y_Mo_put y_Mo_put ∈ TB := tb (mt4 _ (List.mem_of_getElem? (i := 234) rfl)) rfl
theorem w_935 : Cond.methodLink "MiddleOneLaw" 176 y_Md_put ∈ TB := tb (mt7 _ (List.mem_of_getElem? (i := 69) rfl)) rfl
theorem w_936 : Cond.instanceMethod y_Md_put ∈ TB := tb (mt7 _ (List.mem_of_getElem? (i := 70) rfl)) rfl
theorem w_937 : Cond.selects "MiddleOneModel" y_Md_put y_Md_put ∈ TB := tb (mt7 _ (List.mem_of_getElem? (i := 71) rfl)) rfl
theorem w_938 : Cond.methodLink "MiddleOneLaw" 177 y_Mo_element ∈ TB := tb (mt5 _ (List.mem_of_getElem? (i := 11) rfl)) rfl
theorem w_939 : Cond.instanceMethod y_Mo_element ∈ TB := tb (mt5 _ (List.mem_of_getElem? (i := 12) rfl)) rfl
theorem w_940 : Cond.selects "MiddleOne" y_Mo_element y_Mo_element ∈ TB := tb (mt5 _ (List.mem_of_getElem? (i := 13) rfl)) rfl
theorem w_941 : Cond.methodLink "MiddleOneLaw" 181 y_Md_element ∈ TB := tb (mt7 _ (List.mem_of_getElem? (i := 80) rfl)) rfl
theorem w_942 : Cond.instanceMethod y_Md_element ∈ TB := tb (mt7 _ (List.mem_of_getElem? (i := 81) rfl)) rfl
theorem w_943 : Cond.selects "MiddleOneModel" y_Md_element y_Md_element ∈ TB := tb (mt7 _ (List.mem_of_getElem? (i := 82) rfl)) rfl
theorem w_944 : Cond.methodLink "MiddleOneLaw" 182 y_Mo_shift ∈ TB := tb (mt5 _ (List.mem_of_getElem? (i := 15) rfl)) rfl
theorem w_945 : Cond.instanceMethod y_Mo_shift ∈ TB := tb (mt5 _ (List.mem_of_getElem? (i := 16) rfl)) rfl
theorem w_946 : Cond.selects "MiddleOne" y_Mo_shift y_Mo_shift ∈ TB := tb (mt5 _ (List.mem_of_getElem? (i := 17) rfl)) rfl
theorem w_947 : Cond.methodLink "MiddleOneLaw" 186 y_Md_shift ∈ TB := tb (mt7 _ (List.mem_of_getElem? (i := 84) rfl)) rfl
theorem w_948 : Cond.instanceMethod y_Md_shift ∈ TB := tb (mt7 _ (List.mem_of_getElem? (i := 85) rfl)) rfl
theorem w_949 : Cond.selects "MiddleOneModel" y_Md_shift y_Md_shift ∈ TB := tb (mt7 _ (List.mem_of_getElem? (i := 86) rfl)) rfl
theorem w_950 : Cond.methodLink "MiddleOneLaw" 187 y_Mo_taken ∈ TB := tb (mt5 _ (List.mem_of_getElem? (i := 33) rfl)) rfl
theorem w_951 : Cond.instanceMethod y_Mo_taken ∈ TB := tb (mt5 _ (List.mem_of_getElem? (i := 34) rfl)) rfl
theorem w_952 : Cond.selects "MiddleOne" y_Mo_taken y_Mo_taken ∈ TB := tb (mt5 _ (List.mem_of_getElem? (i := 35) rfl)) rfl
theorem w_953 : Cond.methodLink "MiddleOneLaw" 190 y_Md_taken ∈ TB := tb (mt7 _ (List.mem_of_getElem? (i := 88) rfl)) rfl
theorem w_954 : Cond.instanceMethod y_Md_taken ∈ TB := tb (mt7 _ (List.mem_of_getElem? (i := 89) rfl)) rfl
theorem w_955 : Cond.selects "MiddleOneModel" y_Md_taken y_Md_taken ∈ TB := tb (mt7 _ (List.mem_of_getElem? (i := 90) rfl)) rfl
theorem w_956 : Cond.methodLink "MiddleOneLaw" 191 y_Mo_count ∈ TB := tb (mt5 _ (List.mem_of_getElem? (i := 44) rfl)) rfl
theorem w_957 : Cond.instanceMethod y_Mo_count ∈ TB := tb (mt5 _ (List.mem_of_getElem? (i := 45) rfl)) rfl
theorem w_958 : Cond.selects "MiddleOne" y_Mo_count y_Mo_count ∈ TB := tb (mt5 _ (List.mem_of_getElem? (i := 46) rfl)) rfl
theorem w_959 : Cond.methodLink "MiddleOneLaw" 194 y_Md_count ∈ TB := tb (mt7 _ (List.mem_of_getElem? (i := 99) rfl)) rfl
theorem w_960 : Cond.instanceMethod y_Md_count ∈ TB := tb (mt7 _ (List.mem_of_getElem? (i := 100) rfl)) rfl
theorem w_961 : Cond.selects "MiddleOneModel" y_Md_count y_Md_count ∈ TB := tb (mt7 _ (List.mem_of_getElem? (i := 101) rfl)) rfl
theorem om_La : ∀ e ∈ cm_La, am_okM TB cls (gG L xs) "MiddleOneLaw" e.1 e.2.1 e.2.2.1 e.2.2.2 := (List.forall_mem_cons.mpr ⟨Or.inr (Or.inr (Or.inr ⟨by decide, _, _, _, _, _, k_Mo_person, w_706, w_308, w_707, w_708, ⟨_, _, rfl⟩, 2, rfl, by decide +kernel⟩)), (List.forall_mem_cons.mpr ⟨Or.inr (Or.inr (Or.inr ⟨by decide, _, _, _, _, _, k_Md_person, w_709, w_548, w_710, w_711, ⟨_, _, rfl⟩, 2, rfl, by decide +kernel⟩)), (List.forall_mem_cons.mpr ⟨Or.inr (Or.inr (Or.inr ⟨by decide, _, _, _, _, _, k_Mo_people, w_712, w_308, w_713, w_714, ⟨_, _, rfl⟩, 3, rfl, by decide +kernel⟩)), (List.forall_mem_cons.mpr ⟨Or.inr (Or.inr (Or.inr ⟨by decide, _, _, _, _, _, k_Md_people, w_715, w_548, w_716, w_717, ⟨_, _, rfl⟩, 3, rfl, by decide +kernel⟩)), (List.forall_mem_cons.mpr ⟨Or.inr (Or.inr (Or.inr ⟨by decide, _, _, _, _, _, k_Mo_mend, w_718, w_308, w_719, w_720, ⟨_, _, rfl⟩, 3, rfl, by decide +kernel⟩)), (List.forall_mem_cons.mpr ⟨Or.inr (Or.inr (Or.inr ⟨by decide, _, _, _, _, _, k_Md_mend, w_721, w_548, w_722, w_723, ⟨_, _, rfl⟩, 3, rfl, by decide +kernel⟩)), (List.forall_mem_cons.mpr ⟨Or.inr (Or.inr (Or.inr ⟨by decide, _, _, _, _, _, k_Mo_of, w_724, w_308, w_725, w_726, ⟨_, _, rfl⟩, 2, rfl, by decide +kernel⟩)), (List.forall_mem_cons.mpr ⟨Or.inr (Or.inr (Or.inr ⟨by decide, _, _, _, _, _, k_Md_of, w_727, w_548, w_728, w_729, ⟨_, _, rfl⟩, 2, rfl, by decide +kernel⟩)), (List.forall_mem_cons.mpr ⟨Or.inr (Or.inr (Or.inr ⟨by decide, _, _, _, _, _, k_Mo_feed, w_730, w_308, w_731, w_732, ⟨_, _, rfl⟩, 1, rfl, by decide +kernel⟩)), (List.forall_mem_cons.mpr ⟨Or.inr (Or.inr (Or.inr ⟨by decide, _, _, _, _, _, k_Md_feed, w_733, w_548, w_734, w_735, ⟨_, _, rfl⟩, 1, rfl, by decide +kernel⟩)), (List.forall_mem_cons.mpr ⟨Or.inr (Or.inr (Or.inr ⟨by decide, _, _, _, _, _, k_Mo_law, w_736, w_308, w_737, w_738, ⟨_, _, rfl⟩, 0, rfl, by decide +kernel⟩)), (List.forall_mem_cons.mpr ⟨Or.inr (Or.inr (Or.inr ⟨by decide, _, _, _, _, _, k_Md_law, w_739, w_548, w_740, w_741, ⟨_, _, rfl⟩, 0, rfl, by decide +kernel⟩)), (List.forall_mem_cons.mpr ⟨Or.inr (Or.inr (Or.inr ⟨by decide, _, _, _, _, _, k_Mo_tall, w_742, w_308, w_743, w_744, ⟨_, _, rfl⟩, 2, rfl, by decide +kernel⟩)), (List.forall_mem_cons.mpr ⟨Or.inr (Or.inr (Or.inr ⟨by decide, _, _, _, _, _, k_Md_tall, w_745, w_548, w_746, w_747, ⟨_, _, rfl⟩, 2, rfl, by decide +kernel⟩)), (List.forall_mem_cons.mpr ⟨Or.inr (Or.inr (Or.inr ⟨by decide, _, _, _, _, _, k_Mo_enters, w_748, w_308, w_749, w_750, ⟨_, _, rfl⟩, 2, rfl, by decide +kernel⟩)), (List.forall_mem_cons.mpr ⟨Or.inr (Or.inr (Or.inr ⟨by decide, _, _, _, _, _, k_Md_enters, w_751, w_548, w_752, w_753, ⟨_, _, rfl⟩, 2, rfl, by decide +kernel⟩)), (List.forall_mem_cons.mpr ⟨Or.inr (Or.inr (Or.inr ⟨by decide, _, _, _, _, _, k_Mo_stroke, w_754, w_308, w_755, w_756, ⟨_, _, rfl⟩, 2, rfl, by decide +kernel⟩)), (List.forall_mem_cons.mpr ⟨Or.inr (Or.inr (Or.inr ⟨by decide, _, _, _, _, _, k_Md_stroke, w_757, w_548, w_758, w_759, ⟨_, _, rfl⟩, 2, rfl, by decide +kernel⟩)), (List.forall_mem_cons.mpr ⟨Or.inr (Or.inr (Or.inr ⟨by decide, _, _, _, _, _, k_Mo_day, w_760, w_308, w_761, w_762, ⟨_, _, rfl⟩, 2, rfl, by decide +kernel⟩)), (List.forall_mem_cons.mpr ⟨Or.inr (Or.inr (Or.inr ⟨by decide, _, _, _, _, _, k_Md_day, w_763, w_548, w_764, w_765, ⟨_, _, rfl⟩, 2, rfl, by decide +kernel⟩)), (List.forall_mem_cons.mpr ⟨Or.inr (Or.inr (Or.inr ⟨by decide, _, _, _, _, _, k_Mo_mean, w_766, w_308, w_767, w_768, ⟨_, _, rfl⟩, 3, rfl, by decide +kernel⟩)), (List.forall_mem_cons.mpr ⟨Or.inr (Or.inr (Or.inr ⟨by decide, _, _, _, _, _, k_Md_mean, w_769, w_548, w_770, w_771, ⟨_, _, rfl⟩, 3, rfl, by decide +kernel⟩)), (List.forall_mem_cons.mpr ⟨Or.inr (Or.inr (Or.inr ⟨by decide, _, _, _, _, _, k_Mo_sent, w_772, w_308, w_773, w_774, ⟨_, _, rfl⟩, 3, rfl, by decide +kernel⟩)), (List.forall_mem_cons.mpr ⟨Or.inr (Or.inr (Or.inr ⟨by decide, _, _, _, _, _, k_Md_sent, w_775, w_548, w_776, w_777, ⟨_, _, rfl⟩, 3, rfl, by decide +kernel⟩)), (List.forall_mem_cons.mpr ⟨Or.inr (Or.inr (Or.inr ⟨by decide, _, _, _, _, _, k_Mo_brought, w_778, w_308, w_779, w_780, ⟨_, _, rfl⟩, 3, rfl, by decide +kernel⟩)), (List.forall_mem_cons.mpr ⟨Or.inr (Or.inr (Or.inr ⟨by decide, _, _, _, _, _, k_Md_brought, w_781, w_548, w_782, w_783, ⟨_, _, rfl⟩, 3, rfl, by decide +kernel⟩)), (List.forall_mem_cons.mpr ⟨Or.inr (Or.inr (Or.inr ⟨by decide, _, _, _, _, _, k_Mo_heels, w_784, w_308, w_785, w_786, ⟨_, _, rfl⟩, 3, rfl, by decide +kernel⟩)), (List.forall_mem_cons.mpr ⟨Or.inr (Or.inr (Or.inr ⟨by decide, _, _, _, _, _, k_Md_heels, w_787, w_548, w_788, w_789, ⟨_, _, rfl⟩, 3, rfl, by decide +kernel⟩)), (List.forall_mem_cons.mpr ⟨Or.inr (Or.inr (Or.inr ⟨by decide, _, _, _, _, _, k_Mo_later, w_790, w_308, w_791, w_792, ⟨_, _, rfl⟩, 1, rfl, by decide +kernel⟩)), (List.forall_mem_cons.mpr ⟨Or.inr (Or.inr (Or.inr ⟨by decide, _, _, _, _, _, k_Md_later, w_793, w_548, w_794, w_795, ⟨_, _, rfl⟩, 1, rfl, by decide +kernel⟩)), (List.forall_mem_cons.mpr ⟨Or.inr (Or.inr (Or.inr ⟨by decide, _, _, _, _, _, k_Mo_allWear, w_796, w_308, w_797, w_798, ⟨_, _, rfl⟩, 1, rfl, by decide +kernel⟩)), (List.forall_mem_cons.mpr ⟨Or.inr (Or.inr (Or.inr ⟨by decide, _, _, _, _, _, k_Md_allWear, w_799, w_548, w_800, w_801, ⟨_, _, rfl⟩, 1, rfl, by decide +kernel⟩)), (List.forall_mem_cons.mpr ⟨Or.inr (Or.inr (Or.inr ⟨by decide, _, _, _, _, _, k_Mo_gates, w_802, w_308, w_803, w_804, ⟨_, _, rfl⟩, 2, rfl, by decide +kernel⟩)), (List.forall_mem_cons.mpr ⟨Or.inr (Or.inr (Or.inr ⟨by decide, _, _, _, _, _, k_Md_gates, w_805, w_548, w_806, w_807, ⟨_, _, rfl⟩, 2, rfl, by decide +kernel⟩)), (List.forall_mem_cons.mpr ⟨Or.inr (Or.inr (Or.inr ⟨by decide, _, _, _, _, _, k_Mo_where, w_808, w_308, w_809, w_810, ⟨_, _, rfl⟩, 1, rfl, by decide +kernel⟩)), (List.forall_mem_cons.mpr ⟨Or.inr (Or.inr (Or.inr ⟨by decide, _, _, _, _, _, k_Md_where, w_811, w_548, w_812, w_813, ⟨_, _, rfl⟩, 1, rfl, by decide +kernel⟩)), (List.forall_mem_cons.mpr ⟨Or.inr (Or.inr (Or.inr ⟨by decide, _, _, _, _, _, k_Mo_bestSet, w_814, w_308, w_815, w_816, ⟨_, _, rfl⟩, 2, rfl, by decide +kernel⟩)), (List.forall_mem_cons.mpr ⟨Or.inr (Or.inr (Or.inr ⟨by decide, _, _, _, _, _, k_Md_bestSet, w_817, w_548, w_818, w_819, ⟨_, _, rfl⟩, 2, rfl, by decide +kernel⟩)), (List.forall_mem_cons.mpr ⟨Or.inr (Or.inr (Or.inr ⟨by decide, _, _, _, _, _, k_Mo_atLast, w_820, w_308, w_821, w_822, ⟨_, _, rfl⟩, 0, rfl, by decide +kernel⟩)), (List.forall_mem_cons.mpr ⟨Or.inr (Or.inr (Or.inr ⟨by decide, _, _, _, _, _, k_Md_atLast, w_823, w_548, w_824, w_825, ⟨_, _, rfl⟩, 0, rfl, by decide +kernel⟩)), (List.forall_mem_cons.mpr ⟨Or.inr (Or.inr (Or.inr ⟨by decide, _, _, _, _, _, k_Mo_rule, w_826, w_308, w_827, w_828, ⟨_, _, rfl⟩, 1, rfl, by decide +kernel⟩)), (List.forall_mem_cons.mpr ⟨Or.inr (Or.inr (Or.inr ⟨by decide, _, _, _, _, _, k_Md_rule, w_829, w_548, w_830, w_831, ⟨_, _, rfl⟩, 1, rfl, by decide +kernel⟩)), (List.forall_mem_cons.mpr ⟨Or.inr (Or.inr (Or.inr ⟨by decide, _, _, _, _, _, k_Mo_judge, w_832, w_308, w_833, w_834, ⟨_, _, rfl⟩, 1, rfl, by decide +kernel⟩)), (List.forall_mem_cons.mpr ⟨Or.inr (Or.inr (Or.inr ⟨by decide, _, _, _, _, _, k_Md_judge, w_835, w_548, w_836, w_837, ⟨_, _, rfl⟩, 1, rfl, by decide +kernel⟩)), (List.forall_mem_cons.mpr ⟨Or.inr (Or.inr (Or.inr ⟨by decide, _, _, _, _, _, k_Mo_with, w_838, w_308, w_839, w_840, ⟨_, _, rfl⟩, 2, rfl, by decide +kernel⟩)), (List.forall_mem_cons.mpr ⟨Or.inr (Or.inr (Or.inr ⟨by decide, _, _, _, _, _, k_Md_with, w_841, w_548, w_842, w_843, ⟨_, _, rfl⟩, 2, rfl, by decide +kernel⟩)), (List.forall_mem_cons.mpr ⟨Or.inr (Or.inr (Or.inr ⟨by decide, _, _, _, _, _, k_Mo_heeled, w_844, w_308, w_845, w_846, ⟨_, _, rfl⟩, 1, rfl, by decide +kernel⟩)), (List.forall_mem_cons.mpr ⟨Or.inr (Or.inr (Or.inr ⟨by decide, _, _, _, _, _, k_Md_heeled, w_847, w_548, w_848, w_849, ⟨_, _, rfl⟩, 1, rfl, by decide +kernel⟩)), (List.forall_mem_cons.mpr ⟨Or.inr (Or.inr (Or.inr ⟨by decide, _, _, _, _, _, k_Mo_drawn, w_850, w_308, w_851, w_852, ⟨_, _, rfl⟩, 3, rfl, by decide +kernel⟩)), (List.forall_mem_cons.mpr ⟨Or.inr (Or.inr (Or.inr ⟨by decide, _, _, _, _, _, k_Md_drawn, w_853, w_548, w_854, w_855, ⟨_, _, rfl⟩, 3, rfl, by decide +kernel⟩)), (List.forall_mem_cons.mpr ⟨Or.inr (Or.inr (Or.inr ⟨by decide, _, _, _, _, _, k_Mo_strike, w_856, w_308, w_857, w_858, ⟨_, _, rfl⟩, 0, rfl, by decide +kernel⟩)), (List.forall_mem_cons.mpr ⟨Or.inr (Or.inr (Or.inr ⟨by decide, _, _, _, _, _, k_Md_strike, w_859, w_548, w_860, w_861, ⟨_, _, rfl⟩, 0, rfl, by decide +kernel⟩)), (List.forall_mem_cons.mpr ⟨Or.inr (Or.inr (Or.inr ⟨by decide, _, _, _, _, _, k_Mo_take, w_862, w_308, w_863, w_864, ⟨_, _, rfl⟩, 1, rfl, by decide +kernel⟩)), (List.forall_mem_cons.mpr ⟨Or.inr (Or.inr (Or.inr ⟨by decide, _, _, _, _, _, k_Md_take, w_865, w_548, w_866, w_867, ⟨_, _, rfl⟩, 1, rfl, by decide +kernel⟩)), (List.forall_mem_cons.mpr ⟨Or.inr (Or.inr (Or.inr ⟨by decide, _, _, _, _, _, k_Mo_dawn, w_868, w_308, w_869, w_870, ⟨_, _, rfl⟩, 0, rfl, by decide +kernel⟩)), (List.forall_mem_cons.mpr ⟨Or.inr (Or.inr (Or.inr ⟨by decide, _, _, _, _, _, k_Md_dawn, w_871, w_548, w_872, w_873, ⟨_, _, rfl⟩, 0, rfl, by decide +kernel⟩)), (List.forall_mem_cons.mpr ⟨Or.inr (Or.inr (Or.inr ⟨by decide, _, _, _, _, _, k_Mo_led, w_874, w_308, w_875, w_876, ⟨_, _, rfl⟩, 1, rfl, by decide +kernel⟩)), (List.forall_mem_cons.mpr ⟨Or.inr (Or.inr (Or.inr ⟨by decide, _, _, _, _, _, k_Md_led, w_877, w_548, w_653, w_654, ⟨_, _, rfl⟩, 1, rfl, by decide +kernel⟩)), (List.forall_mem_cons.mpr ⟨Or.inr (Or.inr (Or.inr ⟨by decide, _, _, _, _, _, k_Mo_image, w_878, w_308, w_879, w_880, ⟨_, _, rfl⟩, 0, rfl, by decide +kernel⟩)), (List.forall_mem_cons.mpr ⟨Or.inr (Or.inr (Or.inr ⟨by decide, _, _, _, _, _, k_Md_image, w_881, w_548, w_882, w_883, ⟨_, _, rfl⟩, 0, rfl, by decide +kernel⟩)), (List.forall_mem_cons.mpr ⟨Or.inr (Or.inr (Or.inr ⟨by decide, _, _, _, _, _, k_Mo_back, w_884, w_308, w_885, w_886, ⟨_, _, rfl⟩, 0, rfl, by decide +kernel⟩)), (List.forall_mem_cons.mpr ⟨Or.inr (Or.inr (Or.inr ⟨by decide, _, _, _, _, _, k_Md_back, w_887, w_548, w_888, w_889, ⟨_, _, rfl⟩, 0, rfl, by decide +kernel⟩)), (List.forall_mem_cons.mpr ⟨Or.inr (Or.inr (Or.inr ⟨by decide, _, _, _, _, _, k_Mo_undo, w_890, w_308, w_891, w_892, ⟨_, _, rfl⟩, 0, rfl, by decide +kernel⟩)), (List.forall_mem_cons.mpr ⟨Or.inr (Or.inr (Or.inr ⟨by decide, _, _, _, _, _, k_Md_undo, w_893, w_548, w_894, w_895, ⟨_, _, rfl⟩, 0, rfl, by decide +kernel⟩)), (List.forall_mem_cons.mpr ⟨Or.inr (Or.inr (Or.inr ⟨by decide, _, _, _, _, _, k_Mo_redo, w_896, w_308, w_897, w_898, ⟨_, _, rfl⟩, 0, rfl, by decide +kernel⟩)), (List.forall_mem_cons.mpr ⟨Or.inr (Or.inr (Or.inr ⟨by decide, _, _, _, _, _, k_Md_redo, w_899, w_548, w_900, w_901, ⟨_, _, rfl⟩, 0, rfl, by decide +kernel⟩)), (List.forall_mem_cons.mpr ⟨Or.inr (Or.inr (Or.inr ⟨by decide, _, _, _, _, _, k_Mo_body, w_902, w_308, w_903, w_904, ⟨_, _, rfl⟩, 1, rfl, by decide +kernel⟩)), (List.forall_mem_cons.mpr ⟨Or.inr (Or.inr (Or.inr ⟨by decide, _, _, _, _, _, k_Md_body, w_905, w_548, w_906, w_907, ⟨_, _, rfl⟩, 1, rfl, by decide +kernel⟩)), (List.forall_mem_cons.mpr ⟨Or.inr (Or.inr (Or.inr ⟨by decide, _, _, _, _, _, k_Mo_act, w_908, w_308, w_909, w_910, ⟨_, _, rfl⟩, 3, rfl, by decide +kernel⟩)), (List.forall_mem_cons.mpr ⟨Or.inr (Or.inr (Or.inr ⟨by decide, _, _, _, _, _, k_Md_act, w_911, w_548, w_912, w_913, ⟨_, _, rfl⟩, 3, rfl, by decide +kernel⟩)), (List.forall_mem_cons.mpr ⟨Or.inr (Or.inr (Or.inr ⟨by decide, _, _, _, _, _, k_Mo_trace, w_914, w_308, w_915, w_916, ⟨_, _, rfl⟩, 1, rfl, by decide +kernel⟩)), (List.forall_mem_cons.mpr ⟨Or.inr (Or.inr (Or.inr ⟨by decide, _, _, _, _, _, k_Md_trace, w_917, w_548, w_918, w_919, ⟨_, _, rfl⟩, 1, rfl, by decide +kernel⟩)), (List.forall_mem_cons.mpr ⟨Or.inr (Or.inr (Or.inr ⟨by decide, _, _, _, _, _, k_Mo_keep, w_920, w_308, w_921, w_922, ⟨_, _, rfl⟩, 2, rfl, by decide +kernel⟩)), (List.forall_mem_cons.mpr ⟨Or.inr (Or.inr (Or.inr ⟨by decide, _, _, _, _, _, k_Md_keep, w_923, w_548, w_924, w_925, ⟨_, _, rfl⟩, 2, rfl, by decide +kernel⟩)), (List.forall_mem_cons.mpr ⟨Or.inr (Or.inr (Or.inr ⟨by decide, _, _, _, _, _, k_Mo_row, w_926, w_308, w_927, w_928, ⟨_, _, rfl⟩, 3, rfl, by decide +kernel⟩)), (List.forall_mem_cons.mpr ⟨Or.inr (Or.inr (Or.inr ⟨by decide, _, _, _, _, _, k_Md_row, w_929, w_548, w_930, w_931, ⟨_, _, rfl⟩, 3, rfl, by decide +kernel⟩)), (List.forall_mem_cons.mpr ⟨Or.inr (Or.inr (Or.inr ⟨by decide, _, _, _, _, _, k_Mo_put, w_932, w_308, w_933, w_934, ⟨_, _, rfl⟩, 3, rfl, by decide +kernel⟩)), (List.forall_mem_cons.mpr ⟨Or.inr (Or.inr (Or.inr ⟨by decide, _, _, _, _, _, k_Md_put, w_935, w_548, w_936, w_937, ⟨_, _, rfl⟩, 3, rfl, by decide +kernel⟩)), (List.forall_mem_cons.mpr ⟨Or.inr (Or.inr (Or.inr ⟨by decide, _, _, _, _, _, k_Mo_element, w_938, w_308, w_939, w_940, ⟨_, _, rfl⟩, 2, rfl, by decide +kernel⟩)), (List.forall_mem_cons.mpr ⟨Or.inr (Or.inr (Or.inr ⟨by decide, _, _, _, _, _, k_Md_element, w_941, w_548, w_942, w_943, ⟨_, _, rfl⟩, 2, rfl, by decide +kernel⟩)), (List.forall_mem_cons.mpr ⟨Or.inr (Or.inr (Or.inr ⟨by decide, _, _, _, _, _, k_Mo_shift, w_944, w_308, w_945, w_946, ⟨_, _, rfl⟩, 5, rfl, by decide +kernel⟩)), (List.forall_mem_cons.mpr ⟨Or.inr (Or.inr (Or.inr ⟨by decide, _, _, _, _, _, k_Md_shift, w_947, w_548, w_948, w_949, ⟨_, _, rfl⟩, 5, rfl, by decide +kernel⟩)), (List.forall_mem_cons.mpr ⟨Or.inr (Or.inr (Or.inr ⟨by decide, _, _, _, _, _, k_Mo_taken, w_950, w_308, w_951, w_952, ⟨_, _, rfl⟩, 2, rfl, by decide +kernel⟩)), (List.forall_mem_cons.mpr ⟨Or.inr (Or.inr (Or.inr ⟨by decide, _, _, _, _, _, k_Md_taken, w_953, w_548, w_954, w_955, ⟨_, _, rfl⟩, 2, rfl, by decide +kernel⟩)), (List.forall_mem_cons.mpr ⟨Or.inr (Or.inr (Or.inr ⟨by decide, _, _, _, _, _, k_Mo_count, w_956, w_308, w_957, w_958, ⟨_, _, rfl⟩, 1, rfl, by decide +kernel⟩)), (List.forall_mem_cons.mpr ⟨Or.inr (Or.inr (Or.inr ⟨by decide, _, _, _, _, _, k_Md_count, w_959, w_548, w_960, w_961, ⟨_, _, rfl⟩, 1, rfl, by decide +kernel⟩)), (fun _ h => absurd h List.not_mem_nil)⟩)⟩)⟩)⟩)⟩)⟩)⟩)⟩)⟩)⟩)⟩)⟩)⟩)⟩)⟩)⟩)⟩)⟩)⟩)⟩)⟩)⟩)⟩)⟩)⟩)⟩)⟩)⟩)⟩)⟩)⟩)⟩)⟩)⟩)⟩)⟩)⟩)⟩)⟩)⟩)⟩)⟩)⟩)⟩)⟩)⟩)⟩)⟩)⟩)⟩)⟩)⟩)⟩)⟩)⟩)⟩)⟩)⟩)⟩)⟩)⟩)⟩)⟩)⟩)⟩)⟩)⟩)⟩)⟩)⟩)⟩)⟩)⟩)⟩)⟩)⟩)⟩)⟩)⟩)⟩)⟩)⟩)⟩)⟩)⟩)⟩)
theorem oi_La : ∀ e ∈ ck_La, Cond.constant "MiddleOneLaw" e.1 e.2 ∈ TB := (fun _ h => absurd h List.not_mem_nil)
theorem w_962 : Cond.constantLong "MiddleOneLaw" 170 (4294967295) ∈ TB := tb (mt7 _ (List.mem_of_getElem? (i := 107) rfl)) rfl
theorem ol_La : ∀ e ∈ cl_La, Cond.constantLong "MiddleOneLaw" e.1 e.2 ∈ TB := (List.forall_mem_cons.mpr ⟨w_962, (fun _ h => absurd h List.not_mem_nil)⟩)
theorem os_La : ∀ e ∈ cs_La, ∃ C nm, gSt.lookup e.2 = some (C, nm) ∧ Cond.fieldLink "MiddleOneLaw" e.1 C nm "[I" ∈ TB := (fun _ h => absurd h List.not_mem_nil)
theorem ox_La : am_okX TB cls (gG L xs) "MiddleOneLaw" cx_La := ⟨fun idx ci k b h => of_La _ (am_lk h), fun idx oc k n h => om_La _ (am_lk h), fun idx v h => oi_La _ (am_lk h), fun idx v h => ol_La _ (am_lk h)⟩
def am_okm (G : AG) (q : AMeth) : Prop := plainName q.1.cls = true ∧ Cond.code q.1 q.2.1 q.2.2.1 q.2.2.2.1 ∈ TB ∧ (q.1.cls ≠ "java/lang/invoke/MethodHandle" ∧ q.1.cls ≠ "java/lang/invoke/VarHandle") ∧ q.2.2.1 ≤ 40 ∧ am_okX TB cls G q.1.cls q.2.2.2.2 ∧ ∀ idx z, q.2.2.2.2.2.2.2.2.lookup idx = some z → ∃ C nm, gSt.lookup z = some (C, nm) ∧ Cond.fieldLink q.1.cls idx C nm "[I" ∈ TB
theorem w_963 : Cond.code y_Acts_isKind prog_2_method_2_code 1 (some .boolean) ∈ TB := tb (mt4 _ (List.mem_of_getElem? (i := 164) rfl)) rfl
theorem o_Acts_isKind : am_okm (gG L xs) m_Acts_isKind := ⟨by decide +kernel, w_963, ⟨by decide +kernel, by decide +kernel⟩, by decide, ox_Acts, fun idx z h => os_Acts _ (am_lk h)⟩
theorem w_964 : Cond.code y_Acts_isUnder prog_2_method_3_code 4 (some .boolean) ∈ TB := tb (mt5 _ (List.mem_of_getElem? (i := 43) rfl)) rfl
theorem o_Acts_isUnder : am_okm (gG L xs) m_Acts_isUnder := ⟨by decide +kernel, w_964, ⟨by decide +kernel, by decide +kernel⟩, by decide, ox_Acts, fun idx z h => os_Acts _ (am_lk h)⟩
theorem w_965 : Cond.code y_Acts_size prog_2_method_4_code 1 (some .int) ∈ TB := tb (mt4 _ (List.mem_of_getElem? (i := 168) rfl)) rfl
theorem o_Acts_size : am_okm (gG L xs) m_Acts_size := ⟨by decide +kernel, w_965, ⟨by decide +kernel, by decide +kernel⟩, by decide, ox_Acts, fun idx z h => os_Acts _ (am_lk h)⟩
theorem w_966 : Cond.code y_Acts_has prog_2_method_5_code 2 (some .boolean) ∈ TB := tb (mt4 _ (List.mem_of_getElem? (i := 184) rfl)) rfl
theorem o_Acts_has : am_okm (gG L xs) m_Acts_has := ⟨by decide +kernel, w_966, ⟨by decide +kernel, by decide +kernel⟩, by decide, ox_Acts, fun idx z h => os_Acts _ (am_lk h)⟩
theorem w_967 : Cond.code y_Acts_kindOf prog_2_method_6_code 2 (some .int) ∈ TB := tb (mt5 _ (List.mem_of_getElem? (i := 40) rfl)) rfl
theorem o_Acts_kindOf : am_okm (gG L xs) m_Acts_kindOf := ⟨by decide +kernel, w_967, ⟨by decide +kernel, by decide +kernel⟩, by decide, ox_Acts, fun idx z h => os_Acts _ (am_lk h)⟩
theorem w_968 : Cond.code y_Acts_joins prog_2_method_7_code 2 (some .int) ∈ TB := tb (mt4 _ (List.mem_of_getElem? (i := 172) rfl)) rfl
theorem o_Acts_joins : am_okm (gG L xs) m_Acts_joins := ⟨by decide +kernel, w_968, ⟨by decide +kernel, by decide +kernel⟩, by decide, ox_Acts, fun idx z h => os_Acts _ (am_lk h)⟩
theorem w_969 : Cond.code y_Acts_ranLast prog_2_method_8_code 1 (some .int) ∈ TB := tb (mt5 _ (List.mem_of_getElem? (i := 57) rfl)) rfl
theorem o_Acts_ranLast : am_okm (gG L xs) m_Acts_ranLast := ⟨by decide +kernel, w_969, ⟨by decide +kernel, by decide +kernel⟩, by decide, ox_Acts, fun idx z h => os_Acts _ (am_lk h)⟩
theorem w_970 : Cond.code y_Acts_traced prog_2_method_9_code 2 (some .int) ∈ TB := tb (mt4 _ (List.mem_of_getElem? (i := 208) rfl)) rfl
theorem o_Acts_traced : am_okm (gG L xs) m_Acts_traced := ⟨by decide +kernel, w_970, ⟨by decide +kernel, by decide +kernel⟩, by decide, ox_Acts, fun idx z h => os_Acts _ (am_lk h)⟩
theorem w_971 : Cond.code y_Acts_does prog_2_method_10_code 4 (some .int) ∈ TB := tb (mt4 _ (List.mem_of_getElem? (i := 180) rfl)) rfl
theorem o_Acts_does : am_okm (gG L xs) m_Acts_does := ⟨by decide +kernel, w_971, ⟨by decide +kernel, by decide +kernel⟩, by decide, ox_Acts, fun idx z h => os_Acts _ (am_lk h)⟩
theorem w_972 : Cond.code y_Acts_holder prog_2_method_11_code 4 (some .int) ∈ TB := tb (mt4 _ (List.mem_of_getElem? (i := 191) rfl)) rfl
theorem o_Acts_holder : am_okm (gG L xs) m_Acts_holder := ⟨by decide +kernel, w_972, ⟨by decide +kernel, by decide +kernel⟩, by decide, ox_Acts, fun idx z h => os_Acts _ (am_lk h)⟩
theorem w_973 : Cond.code y_Acts_notes prog_2_method_12_code 2 none ∈ TB := tb (mt4 _ (List.mem_of_getElem? (i := 200) rfl)) rfl
theorem o_Acts_notes : am_okm (gG L xs) m_Acts_notes := ⟨by decide +kernel, w_973, ⟨by decide +kernel, by decide +kernel⟩, by decide, ox_Acts, fun idx z h => os_Acts _ (am_lk h)⟩
theorem w_974 : Cond.code y_Acts_plays prog_2_method_13_code 9 (some .int) ∈ TB := tb (mt4 _ (List.mem_of_getElem? (i := 188) rfl)) rfl
theorem o_Acts_plays : am_okm (gG L xs) m_Acts_plays := ⟨by decide +kernel, w_974, ⟨by decide +kernel, by decide +kernel⟩, by decide, ox_Acts, fun idx z h => os_Acts _ (am_lk h)⟩
theorem w_975 : Cond.code y_Changes_undoable prog_3_method_2_code 1 (some .int) ∈ TB := tb (mt4 _ (List.mem_of_getElem? (i := 141) rfl)) rfl
theorem o_Changes_undoable : am_okm (gG L xs) m_Changes_undoable := ⟨by decide +kernel, w_975, ⟨by decide +kernel, by decide +kernel⟩, by decide, ox_Changes, fun idx z h => os_Changes _ (am_lk h)⟩
theorem w_976 : Cond.code y_Changes_redoable prog_3_method_3_code 1 (some .int) ∈ TB := tb (mt4 _ (List.mem_of_getElem? (i := 153) rfl)) rfl
theorem o_Changes_redoable : am_okm (gG L xs) m_Changes_redoable := ⟨by decide +kernel, w_976, ⟨by decide +kernel, by decide +kernel⟩, by decide, ox_Changes, fun idx z h => os_Changes _ (am_lk h)⟩
theorem w_977 : Cond.code y_Changes_happens prog_3_method_4_code 4 none ∈ TB := tb (mt2 _ (List.mem_of_getElem? (i := 134) rfl)) rfl
theorem o_Changes_happens : am_okm (gG L xs) m_Changes_happens := ⟨by decide +kernel, w_977, ⟨by decide +kernel, by decide +kernel⟩, by decide, ox_Changes, fun idx z h => os_Changes _ (am_lk h)⟩
theorem w_978 : Cond.code y_Changes_forgetsOldest prog_3_method_5_code 1 none ∈ TB := tb (mt2 _ (List.mem_of_getElem? (i := 138) rfl)) rfl
theorem o_Changes_forgetsOldest : am_okm (gG L xs) m_Changes_forgetsOldest := ⟨by decide +kernel, w_978, ⟨by decide +kernel, by decide +kernel⟩, by decide, ox_Changes, fun idx z h => os_Changes _ (am_lk h)⟩
theorem w_979 : Cond.code y_Changes_undoes prog_3_method_6_code 1 (some .int) ∈ TB := tb (mt4 _ (List.mem_of_getElem? (i := 145) rfl)) rfl
theorem o_Changes_undoes : am_okm (gG L xs) m_Changes_undoes := ⟨by decide +kernel, w_979, ⟨by decide +kernel, by decide +kernel⟩, by decide, ox_Changes, fun idx z h => os_Changes _ (am_lk h)⟩
theorem w_980 : Cond.code y_Changes_redoes prog_3_method_7_code 1 (some .int) ∈ TB := tb (mt4 _ (List.mem_of_getElem? (i := 157) rfl)) rfl
theorem o_Changes_redoes : am_okm (gG L xs) m_Changes_redoes := ⟨by decide +kernel, w_980, ⟨by decide +kernel, by decide +kernel⟩, by decide, ox_Changes, fun idx z h => os_Changes _ (am_lk h)⟩
theorem w_981 : Cond.code y_Crowd_isNumber prog_4_method_2_code 1 (some .boolean) ∈ TB := tb (mt2 _ (List.mem_of_getElem? (i := 73) rfl)) rfl
theorem o_Crowd_isNumber : am_okm (gG L xs) m_Crowd_isNumber := ⟨by decide +kernel, w_981, ⟨by decide +kernel, by decide +kernel⟩, by decide, ox_Crowd, fun idx z h => os_Crowd _ (am_lk h)⟩
theorem w_982 : Cond.code y_Crowd_fits prog_4_method_3_code 2 (some .boolean) ∈ TB := tb (mt2 _ (List.mem_of_getElem? (i := 70) rfl)) rfl
theorem o_Crowd_fits : am_okm (gG L xs) m_Crowd_fits := ⟨by decide +kernel, w_982, ⟨by decide +kernel, by decide +kernel⟩, by decide, ox_Crowd, fun idx z h => os_Crowd _ (am_lk h)⟩
theorem w_983 : Cond.code y_Crowd_size prog_4_method_4_code 1 (some .int) ∈ TB := tb (mt2 _ (List.mem_of_getElem? (i := 81) rfl)) rfl
theorem o_Crowd_size : am_okm (gG L xs) m_Crowd_size := ⟨by decide +kernel, w_983, ⟨by decide +kernel, by decide +kernel⟩, by decide, ox_Crowd, fun idx z h => os_Crowd _ (am_lk h)⟩
theorem w_984 : Cond.code y_Crowd_has prog_4_method_5_code 2 (some .boolean) ∈ TB := tb (mt2 _ (List.mem_of_getElem? (i := 126) rfl)) rfl
theorem o_Crowd_has : am_okm (gG L xs) m_Crowd_has := ⟨by decide +kernel, w_984, ⟨by decide +kernel, by decide +kernel⟩, by decide, ox_Crowd, fun idx z h => os_Crowd _ (am_lk h)⟩
theorem w_985 : Cond.code y_Crowd_everyone prog_4_method_6_code 1 (some .int) ∈ TB := tb (mt2 _ (List.mem_of_getElem? (i := 159) rfl)) rfl
theorem o_Crowd_everyone : am_okm (gG L xs) m_Crowd_everyone := ⟨by decide +kernel, w_985, ⟨by decide +kernel, by decide +kernel⟩, by decide, ox_Crowd, fun idx z h => os_Crowd _ (am_lk h)⟩
theorem w_986 : Cond.code y_Crowd_number prog_4_method_7_code 3 (some .int) ∈ TB := tb (mt2 _ (List.mem_of_getElem? (i := 130) rfl)) rfl
theorem o_Crowd_number : am_okm (gG L xs) m_Crowd_number := ⟨by decide +kernel, w_986, ⟨by decide +kernel, by decide +kernel⟩, by decide, ox_Crowd, fun idx z h => os_Crowd _ (am_lk h)⟩
theorem w_987 : Cond.code y_Crowd_setNumber prog_4_method_8_code 4 none ∈ TB := tb (mt2 _ (List.mem_of_getElem? (i := 146) rfl)) rfl
theorem o_Crowd_setNumber : am_okm (gG L xs) m_Crowd_setNumber := ⟨by decide +kernel, w_987, ⟨by decide +kernel, by decide +kernel⟩, by decide, ox_Crowd, fun idx z h => os_Crowd _ (am_lk h)⟩
theorem w_988 : Cond.code y_Crowd_joins prog_4_method_9_code 5 (some .int) ∈ TB := tb (mt2 _ (List.mem_of_getElem? (i := 85) rfl)) rfl
theorem o_Crowd_joins : am_okm (gG L xs) m_Crowd_joins := ⟨by decide +kernel, w_988, ⟨by decide +kernel, by decide +kernel⟩, by decide, ox_Crowd, fun idx z h => os_Crowd _ (am_lk h)⟩
theorem w_989 : Cond.code y_Crowd_shrinks prog_4_method_10_code 2 none ∈ TB := tb (mt3 _ (List.mem_of_getElem? (i := 164) rfl)) rfl
theorem o_Crowd_shrinks : am_okm (gG L xs) m_Crowd_shrinks := ⟨by decide +kernel, w_989, ⟨by decide +kernel, by decide +kernel⟩, by decide, ox_Crowd, fun idx z h => os_Crowd _ (am_lk h)⟩
theorem w_990 : Cond.code y_Crowd_becomes prog_4_method_11_code 2 none ∈ TB := tb (mt3 _ (List.mem_of_getElem? (i := 32) rfl)) rfl
theorem o_Crowd_becomes : am_okm (gG L xs) m_Crowd_becomes := ⟨by decide +kernel, w_990, ⟨by decide +kernel, by decide +kernel⟩, by decide, ox_Crowd, fun idx z h => os_Crowd _ (am_lk h)⟩
theorem w_991 : Cond.code y_Crowd_waiting prog_4_method_12_code 3 (some .int) ∈ TB := tb (mt2 _ (List.mem_of_getElem? (i := 163) rfl)) rfl
theorem o_Crowd_waiting : am_okm (gG L xs) m_Crowd_waiting := ⟨by decide +kernel, w_991, ⟨by decide +kernel, by decide +kernel⟩, by decide, ox_Crowd, fun idx z h => os_Crowd _ (am_lk h)⟩
theorem w_992 : Cond.code y_Crowd_thereAt prog_4_method_13_code 5 (some .int) ∈ TB := tb (mt2 _ (List.mem_of_getElem? (i := 167) rfl)) rfl
theorem o_Crowd_thereAt : am_okm (gG L xs) m_Crowd_thereAt := ⟨by decide +kernel, w_992, ⟨by decide +kernel, by decide +kernel⟩, by decide, ox_Crowd, fun idx z h => os_Crowd _ (am_lk h)⟩
theorem w_993 : Cond.code y_Crowd_comeBy prog_4_method_14_code 4 (some .int) ∈ TB := tb (mt3 _ (List.mem_of_getElem? (i := 127) rfl)) rfl
theorem o_Crowd_comeBy : am_okm (gG L xs) m_Crowd_comeBy := ⟨by decide +kernel, w_993, ⟨by decide +kernel, by decide +kernel⟩, by decide, ox_Crowd, fun idx z h => os_Crowd _ (am_lk h)⟩
theorem w_994 : Cond.code y_Crowd_priceOf prog_4_method_15_code 4 (some .int) ∈ TB := tb (mt3 _ (List.mem_of_getElem? (i := 131) rfl)) rfl
theorem o_Crowd_priceOf : am_okm (gG L xs) m_Crowd_priceOf := ⟨by decide +kernel, w_994, ⟨by decide +kernel, by decide +kernel⟩, by decide, ox_Crowd, fun idx z h => os_Crowd _ (am_lk h)⟩
theorem w_995 : Cond.code y_Day_who prog_5_method_2_code 1 (some (.object "MiddleOne$Crowd")) ∈ TB := tb (mt3 _ (List.mem_of_getElem? (i := 159) rfl)) rfl
theorem o_Day_who : am_okm (gG L xs) m_Day_who := ⟨by decide +kernel, w_995, ⟨by decide +kernel, by decide +kernel⟩, by decide, ox_Day, fun idx z h => os_Day _ (am_lk h)⟩
theorem w_996 : Cond.code y_Day_begins prog_5_method_3_code 2 none ∈ TB := tb (mt3 _ (List.mem_of_getElem? (i := 28) rfl)) rfl
theorem o_Day_begins : am_okm (gG L xs) m_Day_begins := ⟨by decide +kernel, w_996, ⟨by decide +kernel, by decide +kernel⟩, by decide, ox_Day, fun idx z h => os_Day _ (am_lk h)⟩
theorem w_997 : Cond.code y_Day_again prog_5_method_4_code 2 none ∈ TB := tb (mt3 _ (List.mem_of_getElem? (i := 38) rfl)) rfl
theorem o_Day_again : am_okm (gG L xs) m_Day_again := ⟨by decide +kernel, w_997, ⟨by decide +kernel, by decide +kernel⟩, by decide, ox_Day, fun idx z h => os_Day _ (am_lk h)⟩
theorem w_998 : Cond.code y_Day_againWith prog_5_method_5_code 4 none ∈ TB := tb (mt3 _ (List.mem_of_getElem? (i := 184) rfl)) rfl
theorem o_Day_againWith : am_okm (gG L xs) m_Day_againWith := ⟨by decide +kernel, w_998, ⟨by decide +kernel, by decide +kernel⟩, by decide, ox_Day, fun idx z h => os_Day _ (am_lk h)⟩
theorem w_999 : Cond.code y_Day_opens prog_5_method_6_code 6 (some .int) ∈ TB := tb (mt3 _ (List.mem_of_getElem? (i := 50) rfl)) rfl
theorem o_Day_opens : am_okm (gG L xs) m_Day_opens := ⟨by decide +kernel, w_999, ⟨by decide +kernel, by decide +kernel⟩, by decide, ox_Day, fun idx z h => os_Day _ (am_lk h)⟩
theorem w_1000 : Cond.code y_Day_passes prog_5_method_7_code 2 (some .int) ∈ TB := tb (mt3 _ (List.mem_of_getElem? (i := 80) rfl)) rfl
theorem o_Day_passes : am_okm (gG L xs) m_Day_passes := ⟨by decide +kernel, w_1000, ⟨by decide +kernel, by decide +kernel⟩, by decide, ox_Day, fun idx z h => os_Day _ (am_lk h)⟩
theorem w_1001 : Cond.code y_Day_runs prog_5_method_8_code 4 (some .int) ∈ TB := tb (mt3 _ (List.mem_of_getElem? (i := 76) rfl)) rfl
theorem o_Day_runs : am_okm (gG L xs) m_Day_runs := ⟨by decide +kernel, w_1001, ⟨by decide +kernel, by decide +kernel⟩, by decide, ox_Day, fun idx z h => os_Day _ (am_lk h)⟩
theorem w_1002 : Cond.code y_Day_till prog_5_method_9_code 5 (some .int) ∈ TB := tb (mt3 _ (List.mem_of_getElem? (i := 43) rfl)) rfl
theorem o_Day_till : am_okm (gG L xs) m_Day_till := ⟨by decide +kernel, w_1002, ⟨by decide +kernel, by decide +kernel⟩, by decide, ox_Day, fun idx z h => os_Day _ (am_lk h)⟩
theorem w_1003 : Cond.code y_Day_twoGates prog_5_method_10_code 4 (some .int) ∈ TB := tb (mt3 _ (List.mem_of_getElem? (i := 220) rfl)) rfl
theorem o_Day_twoGates : am_okm (gG L xs) m_Day_twoGates := ⟨by decide +kernel, w_1003, ⟨by decide +kernel, by decide +kernel⟩, by decide, ox_Day, fun idx z h => os_Day _ (am_lk h)⟩
theorem w_1004 : Cond.code y_Day_allAreIn prog_5_method_11_code 1 (some .boolean) ∈ TB := tb (mt4 _ (List.mem_of_getElem? (i := 18) rfl)) rfl
theorem o_Day_allAreIn : am_okm (gG L xs) m_Day_allAreIn := ⟨by decide +kernel, w_1004, ⟨by decide +kernel, by decide +kernel⟩, by decide, ox_Day, fun idx z h => os_Day _ (am_lk h)⟩
theorem w_1005 : Cond.code y_Day_stillOutside prog_5_method_12_code 1 (some .int) ∈ TB := tb (mt3 _ (List.mem_of_getElem? (i := 169) rfl)) rfl
theorem o_Day_stillOutside : am_okm (gG L xs) m_Day_stillOutside := ⟨by decide +kernel, w_1005, ⟨by decide +kernel, by decide +kernel⟩, by decide, ox_Day, fun idx z h => os_Day _ (am_lk h)⟩
theorem w_1006 : Cond.code y_Day_inSince prog_5_method_13_code 2 (some .int) ∈ TB := tb (mt3 _ (List.mem_of_getElem? (i := 151) rfl)) rfl
theorem o_Day_inSince : am_okm (gG L xs) m_Day_inSince := ⟨by decide +kernel, w_1006, ⟨by decide +kernel, by decide +kernel⟩, by decide, ox_Day, fun idx z h => os_Day _ (am_lk h)⟩
theorem w_1007 : Cond.code y_Day_waitedLast prog_5_method_14_code 1 (some .int) ∈ TB := tb (mt3 _ (List.mem_of_getElem? (i := 84) rfl)) rfl
theorem o_Day_waitedLast : am_okm (gG L xs) m_Day_waitedLast := ⟨by decide +kernel, w_1007, ⟨by decide +kernel, by decide +kernel⟩, by decide, ox_Day, fun idx z h => os_Day _ (am_lk h)⟩
theorem w_1008 : Cond.code y_Day_mostWaited prog_5_method_15_code 1 (some .int) ∈ TB := tb (mt3 _ (List.mem_of_getElem? (i := 97) rfl)) rfl
theorem o_Day_mostWaited : am_okm (gG L xs) m_Day_mostWaited := ⟨by decide +kernel, w_1008, ⟨by decide +kernel, by decide +kernel⟩, by decide, ox_Day, fun idx z h => os_Day _ (am_lk h)⟩
theorem w_1009 : Cond.code y_Day_wentWithout prog_5_method_16_code 5 (some .int) ∈ TB := tb (mt3 _ (List.mem_of_getElem? (i := 92) rfl)) rfl
theorem o_Day_wentWithout : am_okm (gG L xs) m_Day_wentWithout := ⟨by decide +kernel, w_1009, ⟨by decide +kernel, by decide +kernel⟩, by decide, ox_Day, fun idx z h => os_Day _ (am_lk h)⟩
theorem w_1010 : Cond.code y_Day_waitsWithin prog_5_method_17_code 3 (some .int) ∈ TB := tb (mt3 _ (List.mem_of_getElem? (i := 107) rfl)) rfl
theorem o_Day_waitsWithin : am_okm (gG L xs) m_Day_waitsWithin := ⟨by decide +kernel, w_1010, ⟨by decide +kernel, by decide +kernel⟩, by decide, ox_Day, fun idx z h => os_Day _ (am_lk h)⟩
theorem w_1011 : Cond.code y_Day_heightsWithin prog_5_method_18_code 3 (some .int) ∈ TB := tb (mt3 _ (List.mem_of_getElem? (i := 111) rfl)) rfl
theorem o_Day_heightsWithin : am_okm (gG L xs) m_Day_heightsWithin := ⟨by decide +kernel, w_1011, ⟨by decide +kernel, by decide +kernel⟩, by decide, ox_Day, fun idx z h => os_Day _ (am_lk h)⟩
theorem w_1012 : Cond.code y_Day_lastIn prog_5_method_19_code 3 (some .int) ∈ TB := tb (mt4 _ (List.mem_of_getElem? (i := 6) rfl)) rfl
theorem o_Day_lastIn : am_okm (gG L xs) m_Day_lastIn := ⟨by decide +kernel, w_1012, ⟨by decide +kernel, by decide +kernel⟩, by decide, ox_Day, fun idx z h => os_Day _ (am_lk h)⟩
theorem w_1013 : Cond.code y_Deed_leads prog_6_method_2_code 2 (some .int) ∈ TB := tb (mt4 _ (List.mem_of_getElem? (i := 80) rfl)) rfl
theorem o_Deed_leads : am_okm (gG L xs) m_Deed_leads := ⟨by decide +kernel, w_1013, ⟨by decide +kernel, by decide +kernel⟩, by decide, ox_Deed, fun idx z h => os_Deed _ (am_lk h)⟩
theorem w_1014 : Cond.code y_Deed_waitingNow prog_6_method_3_code 1 (some .int) ∈ TB := tb (mt2 _ (List.mem_of_getElem? (i := 155) rfl)) rfl
theorem o_Deed_waitingNow : am_okm (gG L xs) m_Deed_waitingNow := ⟨by decide +kernel, w_1014, ⟨by decide +kernel, by decide +kernel⟩, by decide, ox_Deed, fun idx z h => os_Deed _ (am_lk h)⟩
theorem w_1015 : Cond.code y_Deed_numberIn prog_6_method_4_code 1 (some .int) ∈ TB := tb (mt4 _ (List.mem_of_getElem? (i := 108) rfl)) rfl
theorem o_Deed_numberIn : am_okm (gG L xs) m_Deed_numberIn := ⟨by decide +kernel, w_1015, ⟨by decide +kernel, by decide +kernel⟩, by decide, ox_Deed, fun idx z h => os_Deed _ (am_lk h)⟩
theorem w_1016 : Cond.code y_Deed_inSince prog_6_method_5_code 2 (some .int) ∈ TB := tb (mt2 _ (List.mem_of_getElem? (i := 172) rfl)) rfl
theorem o_Deed_inSince : am_okm (gG L xs) m_Deed_inSince := ⟨by decide +kernel, w_1016, ⟨by decide +kernel, by decide +kernel⟩, by decide, ox_Deed, fun idx z h => os_Deed _ (am_lk h)⟩
theorem w_1017 : Cond.code y_Deed_opensNow prog_6_method_6_code 3 (some .int) ∈ TB := tb (mt4 _ (List.mem_of_getElem? (i := 84) rfl)) rfl
theorem o_Deed_opensNow : am_okm (gG L xs) m_Deed_opensNow := ⟨by decide +kernel, w_1017, ⟨by decide +kernel, by decide +kernel⟩, by decide, ox_Deed, fun idx z h => os_Deed _ (am_lk h)⟩
theorem w_1018 : Cond.code y_Deed_sendsAway prog_6_method_7_code 2 (some .int) ∈ TB := tb (mt4 _ (List.mem_of_getElem? (i := 96) rfl)) rfl
theorem o_Deed_sendsAway : am_okm (gG L xs) m_Deed_sendsAway := ⟨by decide +kernel, w_1018, ⟨by decide +kernel, by decide +kernel⟩, by decide, ox_Deed, fun idx z h => os_Deed _ (am_lk h)⟩
theorem w_1019 : Cond.code y_Deed_dawns prog_6_method_8_code 2 (some .int) ∈ TB := tb (mt4 _ (List.mem_of_getElem? (i := 104) rfl)) rfl
theorem o_Deed_dawns : am_okm (gG L xs) m_Deed_dawns := ⟨by decide +kernel, w_1019, ⟨by decide +kernel, by decide +kernel⟩, by decide, ox_Deed, fun idx z h => os_Deed _ (am_lk h)⟩
theorem w_1020 : Cond.code y_Deed_hasImage prog_6_method_9_code 1 (some .boolean) ∈ TB := tb (mt4 _ (List.mem_of_getElem? (i := 129) rfl)) rfl
theorem o_Deed_hasImage : am_okm (gG L xs) m_Deed_hasImage := ⟨by decide +kernel, w_1020, ⟨by decide +kernel, by decide +kernel⟩, by decide, ox_Deed, fun idx z h => os_Deed _ (am_lk h)⟩
theorem w_1021 : Cond.code y_Deed_keepsImage prog_6_method_10_code 1 (some .int) ∈ TB := tb (mt4 _ (List.mem_of_getElem? (i := 120) rfl)) rfl
theorem o_Deed_keepsImage : am_okm (gG L xs) m_Deed_keepsImage := ⟨by decide +kernel, w_1021, ⟨by decide +kernel, by decide +kernel⟩, by decide, ox_Deed, fun idx z h => os_Deed _ (am_lk h)⟩
theorem w_1022 : Cond.code y_Deed_laysBack prog_6_method_11_code 1 (some .int) ∈ TB := tb (mt4 _ (List.mem_of_getElem? (i := 133) rfl)) rfl
theorem o_Deed_laysBack : am_okm (gG L xs) m_Deed_laysBack := ⟨by decide +kernel, w_1022, ⟨by decide +kernel, by decide +kernel⟩, by decide, ox_Deed, fun idx z h => os_Deed _ (am_lk h)⟩
theorem w_1023 : Cond.code y_Law_learns prog_7_method_2_code 2 none ∈ TB := tb (mt2 _ (List.mem_of_getElem? (i := 229) rfl)) rfl
theorem o_Law_learns : am_okm (gG L xs) m_Law_learns := ⟨by decide +kernel, w_1023, ⟨by decide +kernel, by decide +kernel⟩, by decide, ox_Law, fun idx z h => os_Law _ (am_lk h)⟩
theorem w_1024 : Cond.code y_Law_tallness prog_7_method_3_code 10 (some .int) ∈ TB := tb (mt3 _ (List.mem_of_getElem? (i := 10) rfl)) rfl
theorem o_Law_tallness : am_okm (gG L xs) m_Law_tallness := ⟨by decide +kernel, w_1024, ⟨by decide +kernel, by decide +kernel⟩, by decide, ox_Law, fun idx z h => os_Law _ (am_lk h)⟩
theorem w_1025 : Cond.code y_Law_joined prog_7_method_4_code 3 (some .int) ∈ TB := tb (mt3 _ (List.mem_of_getElem? (i := 17) rfl)) rfl
theorem o_Law_joined : am_okm (gG L xs) m_Law_joined := ⟨by decide +kernel, w_1025, ⟨by decide +kernel, by decide +kernel⟩, by decide, ox_Law, fun idx z h => os_Law _ (am_lk h)⟩
theorem w_1026 : Cond.code y_Picker_picks prog_8_method_2_code 11 (some .int) ∈ TB := tb (mt3 _ (List.mem_of_getElem? (i := 62) rfl)) rfl
theorem o_Picker_picks : am_okm (gG L xs) m_Picker_picks := ⟨by decide +kernel, w_1026, ⟨by decide +kernel, by decide +kernel⟩, by decide, ox_Picker, fun idx z h => os_Picker _ (am_lk h)⟩
theorem w_1027 : Cond.code y_Reader_isFull prog_9_method_2_code 1 (some .boolean) ∈ TB := tb (mt2 _ (List.mem_of_getElem? (i := 180) rfl)) rfl
theorem o_Reader_isFull : am_okm (gG L xs) m_Reader_isFull := ⟨by decide +kernel, w_1027, ⟨by decide +kernel, by decide +kernel⟩, by decide, ox_Reader, fun idx z h => os_Reader _ (am_lk h)⟩
theorem w_1028 : Cond.code y_Reader_size prog_9_method_3_code 1 (some .int) ∈ TB := tb (mt5 _ (List.mem_of_getElem? (i := 53) rfl)) rfl
theorem o_Reader_size : am_okm (gG L xs) m_Reader_size := ⟨by decide +kernel, w_1028, ⟨by decide +kernel, by decide +kernel⟩, by decide, ox_Reader, fun idx z h => os_Reader _ (am_lk h)⟩
theorem w_1029 : Cond.code y_Reader_takes prog_9_method_4_code 2 (some .int) ∈ TB := tb (mt2 _ (List.mem_of_getElem? (i := 184) rfl)) rfl
theorem o_Reader_takes : am_okm (gG L xs) m_Reader_takes := ⟨by decide +kernel, w_1029, ⟨by decide +kernel, by decide +kernel⟩, by decide, ox_Reader, fun idx z h => os_Reader _ (am_lk h)⟩
theorem w_1030 : Cond.code y_Reader_clears prog_9_method_5_code 1 none ∈ TB := tb (mt3 _ (List.mem_of_getElem? (i := 1) rfl)) rfl
theorem o_Reader_clears : am_okm (gG L xs) m_Reader_clears := ⟨by decide +kernel, w_1030, ⟨by decide +kernel, by decide +kernel⟩, by decide, ox_Reader, fun idx z h => os_Reader _ (am_lk h)⟩
theorem w_1031 : Cond.code y_Reader_faultOfText prog_9_method_6_code 2 (some .int) ∈ TB := tb (mt2 _ (List.mem_of_getElem? (i := 192) rfl)) rfl
theorem o_Reader_faultOfText : am_okm (gG L xs) m_Reader_faultOfText := ⟨by decide +kernel, w_1031, ⟨by decide +kernel, by decide +kernel⟩, by decide, ox_Reader, fun idx z h => os_Reader _ (am_lk h)⟩
theorem w_1032 : Cond.code y_Reader_copySteps prog_9_method_7_code 4 (some .int) ∈ TB := tb (mt2 _ (List.mem_of_getElem? (i := 233) rfl)) rfl
theorem o_Reader_copySteps : am_okm (gG L xs) m_Reader_copySteps := ⟨by decide +kernel, w_1032, ⟨by decide +kernel, by decide +kernel⟩, by decide, ox_Reader, fun idx z h => os_Reader _ (am_lk h)⟩
theorem w_1033 : Cond.code y_Reader_reads prog_9_method_8_code 2 (some .boolean) ∈ TB := tb (mt2 _ (List.mem_of_getElem? (i := 196) rfl)) rfl
theorem o_Reader_reads : am_okm (gG L xs) m_Reader_reads := ⟨by decide +kernel, w_1033, ⟨by decide +kernel, by decide +kernel⟩, by decide, ox_Reader, fun idx z h => os_Reader _ (am_lk h)⟩
theorem w_1034 : Cond.code y_Reader_layer prog_9_method_9_code 6 (some .boolean) ∈ TB := tb (mt2 _ (List.mem_of_getElem? (i := 200) rfl)) rfl
theorem o_Reader_layer : am_okm (gG L xs) m_Reader_layer := ⟨by decide +kernel, w_1034, ⟨by decide +kernel, by decide +kernel⟩, by decide, ox_Reader, fun idx z h => os_Reader _ (am_lk h)⟩
theorem w_1035 : Cond.code y_Reader_operand prog_9_method_10_code 3 (some .boolean) ∈ TB := tb (mt2 _ (List.mem_of_getElem? (i := 204) rfl)) rfl
theorem o_Reader_operand : am_okm (gG L xs) m_Reader_operand := ⟨by decide +kernel, w_1035, ⟨by decide +kernel, by decide +kernel⟩, by decide, ox_Reader, fun idx z h => os_Reader _ (am_lk h)⟩
theorem w_1036 : Cond.code y_Reader_digits prog_9_method_11_code 3 (some .boolean) ∈ TB := tb (mt2 _ (List.mem_of_getElem? (i := 215) rfl)) rfl
theorem o_Reader_digits : am_okm (gG L xs) m_Reader_digits := ⟨by decide +kernel, w_1036, ⟨by decide +kernel, by decide +kernel⟩, by decide, ox_Reader, fun idx z h => os_Reader _ (am_lk h)⟩
theorem w_1037 : Cond.code y_Reader_sign prog_9_method_12_code 1 (some .int) ∈ TB := tb (mt2 _ (List.mem_of_getElem? (i := 208) rfl)) rfl
theorem o_Reader_sign : am_okm (gG L xs) m_Reader_sign := ⟨by decide +kernel, w_1037, ⟨by decide +kernel, by decide +kernel⟩, by decide, ox_Reader, fun idx z h => os_Reader _ (am_lk h)⟩
theorem w_1038 : Cond.code y_Reader_makes prog_9_method_13_code 3 none ∈ TB := tb (mt2 _ (List.mem_of_getElem? (i := 219) rfl)) rfl
theorem o_Reader_makes : am_okm (gG L xs) m_Reader_makes := ⟨by decide +kernel, w_1038, ⟨by decide +kernel, by decide +kernel⟩, by decide, ox_Reader, fun idx z h => os_Reader _ (am_lk h)⟩
theorem w_1039 : Cond.code y_Reader_isDigit prog_9_method_14_code 1 (some .boolean) ∈ TB := tb (mt2 _ (List.mem_of_getElem? (i := 211) rfl)) rfl
theorem o_Reader_isDigit : am_okm (gG L xs) m_Reader_isDigit := ⟨by decide +kernel, w_1039, ⟨by decide +kernel, by decide +kernel⟩, by decide, ox_Reader, fun idx z h => os_Reader _ (am_lk h)⟩
theorem w_1040 : Cond.code y_Reader_isName prog_9_method_15_code 1 (some .boolean) ∈ TB := tb (mt2 _ (List.mem_of_getElem? (i := 222) rfl)) rfl
theorem o_Reader_isName : am_okm (gG L xs) m_Reader_isName := ⟨by decide +kernel, w_1040, ⟨by decide +kernel, by decide +kernel⟩, by decide, ox_Reader, fun idx z h => os_Reader _ (am_lk h)⟩
theorem w_1041 : Cond.code y_Reader_rankOf prog_9_method_16_code 1 (some .int) ∈ TB := tb (mt2 _ (List.mem_of_getElem? (i := 225) rfl)) rfl
theorem o_Reader_rankOf : am_okm (gG L xs) m_Reader_rankOf := ⟨by decide +kernel, w_1041, ⟨by decide +kernel, by decide +kernel⟩, by decide, ox_Reader, fun idx z h => os_Reader _ (am_lk h)⟩
theorem w_1042 : Cond.code y_Seen_firstUnlike prog_10_method_2_code 2 (some .int) ∈ TB := tb (mt4 _ (List.mem_of_getElem? (i := 30) rfl)) rfl
theorem o_Seen_firstUnlike : am_okm (gG L xs) m_Seen_firstUnlike := ⟨by decide +kernel, w_1042, ⟨by decide +kernel, by decide +kernel⟩, by decide, ox_Seen, fun idx z h => os_Seen _ (am_lk h)⟩
theorem w_1043 : Cond.code y_Seen_goesOnUnlike prog_10_method_3_code 4 (some .int) ∈ TB := tb (mt4 _ (List.mem_of_getElem? (i := 35) rfl)) rfl
theorem o_Seen_goesOnUnlike : am_okm (gG L xs) m_Seen_goesOnUnlike := ⟨by decide +kernel, w_1043, ⟨by decide +kernel, by decide +kernel⟩, by decide, ox_Seen, fun idx z h => os_Seen _ (am_lk h)⟩
theorem w_1044 : Cond.code y_Seen_setsThatFit prog_10_method_4_code 6 (some .int) ∈ TB := tb (mt4 _ (List.mem_of_getElem? (i := 46) rfl)) rfl
theorem o_Seen_setsThatFit : am_okm (gG L xs) m_Seen_setsThatFit := ⟨by decide +kernel, w_1044, ⟨by decide +kernel, by decide +kernel⟩, by decide, ox_Seen, fun idx z h => os_Seen _ (am_lk h)⟩
theorem w_1045 : Cond.code y_Seen_leastHeeled prog_10_method_5_code 6 (some .int) ∈ TB := tb (mt4 _ (List.mem_of_getElem? (i := 56) rfl)) rfl
theorem o_Seen_leastHeeled : am_okm (gG L xs) m_Seen_leastHeeled := ⟨by decide +kernel, w_1045, ⟨by decide +kernel, by decide +kernel⟩, by decide, ox_Seen, fun idx z h => os_Seen _ (am_lk h)⟩
theorem w_1046 : Cond.code y_Seen_drawnDays prog_10_method_6_code 8 (some .int) ∈ TB := tb (mt4 _ (List.mem_of_getElem? (i := 69) rfl)) rfl
theorem o_Seen_drawnDays : am_okm (gG L xs) m_Seen_drawnDays := ⟨by decide +kernel, w_1046, ⟨by decide +kernel, by decide +kernel⟩, by decide, ox_Seen, fun idx z h => os_Seen _ (am_lk h)⟩
theorem w_1047 : Cond.code y_Shelves_isShelf prog_11_method_2_code 1 (some .boolean) ∈ TB := tb (mt2 _ (List.mem_of_getElem? (i := 92) rfl)) rfl
theorem o_Shelves_isShelf : am_okm (gG L xs) m_Shelves_isShelf := ⟨by decide +kernel, w_1047, ⟨by decide +kernel, by decide +kernel⟩, by decide, ox_Shelves, fun idx z h => os_Shelves _ (am_lk h)⟩
theorem w_1048 : Cond.code y_Shelves_isBare prog_11_method_3_code 2 (some .boolean) ∈ TB := tb (mt2 _ (List.mem_of_getElem? (i := 96) rfl)) rfl
theorem o_Shelves_isBare : am_okm (gG L xs) m_Shelves_isBare := ⟨by decide +kernel, w_1048, ⟨by decide +kernel, by decide +kernel⟩, by decide, ox_Shelves, fun idx z h => os_Shelves _ (am_lk h)⟩
theorem w_1049 : Cond.code y_Shelves_bodyOn prog_11_method_4_code 2 (some .int) ∈ TB := tb (mt5 _ (List.mem_of_getElem? (i := 3) rfl)) rfl
theorem o_Shelves_bodyOn : am_okm (gG L xs) m_Shelves_bodyOn := ⟨by decide +kernel, w_1049, ⟨by decide +kernel, by decide +kernel⟩, by decide, ox_Shelves, fun idx z h => os_Shelves _ (am_lk h)⟩
theorem w_1050 : Cond.code y_Shelves_holdsRow prog_11_method_5_code 3 (some .boolean) ∈ TB := tb (mt2 _ (List.mem_of_getElem? (i := 101) rfl)) rfl
theorem o_Shelves_holdsRow : am_okm (gG L xs) m_Shelves_holdsRow := ⟨by decide +kernel, w_1050, ⟨by decide +kernel, by decide +kernel⟩, by decide, ox_Shelves, fun idx z h => os_Shelves _ (am_lk h)⟩
theorem w_1051 : Cond.code y_Shelves_holdsLikeRows prog_11_method_6_code 3 (some .boolean) ∈ TB := tb (mt5 _ (List.mem_of_getElem? (i := 22) rfl)) rfl
theorem o_Shelves_holdsLikeRows : am_okm (gG L xs) m_Shelves_holdsLikeRows := ⟨by decide +kernel, w_1051, ⟨by decide +kernel, by decide +kernel⟩, by decide, ox_Shelves, fun idx z h => os_Shelves _ (am_lk h)⟩
theorem w_1052 : Cond.code y_Shelves_sizeOf prog_11_method_7_code 2 (some .int) ∈ TB := tb (mt2 _ (List.mem_of_getElem? (i := 113) rfl)) rfl
theorem o_Shelves_sizeOf : am_okm (gG L xs) m_Shelves_sizeOf := ⟨by decide +kernel, w_1052, ⟨by decide +kernel, by decide +kernel⟩, by decide, ox_Shelves, fun idx z h => os_Shelves _ (am_lk h)⟩
theorem w_1053 : Cond.code y_Shelves_isPlace prog_11_method_8_code 3 (some .boolean) ∈ TB := tb (mt2 _ (List.mem_of_getElem? (i := 109) rfl)) rfl
theorem o_Shelves_isPlace : am_okm (gG L xs) m_Shelves_isPlace := ⟨by decide +kernel, w_1053, ⟨by decide +kernel, by decide +kernel⟩, by decide, ox_Shelves, fun idx z h => os_Shelves _ (am_lk h)⟩
theorem w_1054 : Cond.code y_Shelves_isSpan prog_11_method_9_code 5 (some .boolean) ∈ TB := tb (mt5 _ (List.mem_of_getElem? (i := 26) rfl)) rfl
theorem o_Shelves_isSpan : am_okm (gG L xs) m_Shelves_isSpan := ⟨by decide +kernel, w_1054, ⟨by decide +kernel, by decide +kernel⟩, by decide, ox_Shelves, fun idx z h => os_Shelves _ (am_lk h)⟩
theorem w_1055 : Cond.code y_Shelves_holds prog_11_method_10_code 3 none ∈ TB := tb (mt4 _ (List.mem_of_getElem? (i := 217) rfl)) rfl
theorem o_Shelves_holds : am_okm (gG L xs) m_Shelves_holds := ⟨by decide +kernel, w_1055, ⟨by decide +kernel, by decide +kernel⟩, by decide, ox_Shelves, fun idx z h => os_Shelves _ (am_lk h)⟩
theorem w_1056 : Cond.code y_Shelves_lays prog_11_method_11_code 4 none ∈ TB := tb (mt4 _ (List.mem_of_getElem? (i := 225) rfl)) rfl
theorem o_Shelves_lays : am_okm (gG L xs) m_Shelves_lays := ⟨by decide +kernel, w_1056, ⟨by decide +kernel, by decide +kernel⟩, by decide, ox_Shelves, fun idx z h => os_Shelves _ (am_lk h)⟩
theorem w_1057 : Cond.code y_Shelves_cell prog_11_method_12_code 3 (some .long) ∈ TB := tb (mt2 _ (List.mem_of_getElem? (i := 117) rfl)) rfl
theorem o_Shelves_cell : am_okm (gG L xs) m_Shelves_cell := ⟨by decide +kernel, w_1057, ⟨by decide +kernel, by decide +kernel⟩, by decide, ox_Shelves, fun idx z h => os_Shelves _ (am_lk h)⟩
theorem w_1058 : Cond.code y_Shelves_sets prog_11_method_13_code 5 none ∈ TB := tb (mt5 _ (List.mem_of_getElem? (i := 7) rfl)) rfl
theorem o_Shelves_sets : am_okm (gG L xs) m_Shelves_sets := ⟨by decide +kernel, w_1058, ⟨by decide +kernel, by decide +kernel⟩, by decide, ox_Shelves, fun idx z h => os_Shelves _ (am_lk h)⟩
theorem w_1059 : Cond.code y_Shelves_narrowed prog_11_method_14_code 3 (some .long) ∈ TB := tb (mt5 _ (List.mem_of_getElem? (i := 10) rfl)) rfl
theorem o_Shelves_narrowed : am_okm (gG L xs) m_Shelves_narrowed := ⟨by decide +kernel, w_1059, ⟨by decide +kernel, by decide +kernel⟩, by decide, ox_Shelves, fun idx z h => os_Shelves _ (am_lk h)⟩
theorem w_1060 : Cond.code y_Shelves_moves prog_11_method_15_code 6 none ∈ TB := tb (mt5 _ (List.mem_of_getElem? (i := 30) rfl)) rfl
theorem o_Shelves_moves : am_okm (gG L xs) m_Shelves_moves := ⟨by decide +kernel, w_1060, ⟨by decide +kernel, by decide +kernel⟩, by decide, ox_Shelves, fun idx z h => os_Shelves _ (am_lk h)⟩
theorem w_1061 : Cond.code y_Wishes_sentAway prog_12_method_2_code 11 (some .int) ∈ TB := tb (mt3 _ (List.mem_of_getElem? (i := 122) rfl)) rfl
theorem o_Wishes_sentAway : am_okm (gG L xs) m_Wishes_sentAway := ⟨by decide +kernel, w_1061, ⟨by decide +kernel, by decide +kernel⟩, by decide, ox_Wishes, fun idx z h => os_Wishes _ (am_lk h)⟩
theorem w_1062 : Cond.code y_Wishes_isBetter prog_12_method_3_code 4 (some .boolean) ∈ TB := tb (mt3 _ (List.mem_of_getElem? (i := 134) rfl)) rfl
theorem o_Wishes_isBetter : am_okm (gG L xs) m_Wishes_isBetter := ⟨by decide +kernel, w_1062, ⟨by decide +kernel, by decide +kernel⟩, by decide, ox_Wishes, fun idx z h => os_Wishes _ (am_lk h)⟩
theorem w_1063 : Cond.code y_Wishes_boysFor prog_12_method_4_code 6 (some .int) ∈ TB := tb (mt3 _ (List.mem_of_getElem? (i := 146) rfl)) rfl
theorem o_Wishes_boysFor : am_okm (gG L xs) m_Wishes_boysFor := ⟨by decide +kernel, w_1063, ⟨by decide +kernel, by decide +kernel⟩, by decide, ox_Wishes, fun idx z h => os_Wishes _ (am_lk h)⟩
theorem w_1064 : Cond.code y_Wishes_heightOfBoys prog_12_method_5_code 10 (some .int) ∈ TB := tb (mt3 _ (List.mem_of_getElem? (i := 155) rfl)) rfl
theorem o_Wishes_heightOfBoys : am_okm (gG L xs) m_Wishes_heightOfBoys := ⟨by decide +kernel, w_1064, ⟨by decide +kernel, by decide +kernel⟩, by decide, ox_Wishes, fun idx z h => os_Wishes _ (am_lk h)⟩
theorem w_1065 : Cond.code y_Wishes_heelsFor prog_12_method_6_code 10 (some .int) ∈ TB := tb (mt3 _ (List.mem_of_getElem? (i := 180) rfl)) rfl
theorem o_Wishes_heelsFor : am_okm (gG L xs) m_Wishes_heelsFor := ⟨by decide +kernel, w_1065, ⟨by decide +kernel, by decide +kernel⟩, by decide, ox_Wishes, fun idx z h => os_Wishes _ (am_lk h)⟩
theorem w_1066 : Cond.code y_Wishes_comesBest prog_12_method_7_code 6 (some .int) ∈ TB := tb (mt3 _ (List.mem_of_getElem? (i := 193) rfl)) rfl
theorem o_Wishes_comesBest : am_okm (gG L xs) m_Wishes_comesBest := ⟨by decide +kernel, w_1066, ⟨by decide +kernel, by decide +kernel⟩, by decide, ox_Wishes, fun idx z h => os_Wishes _ (am_lk h)⟩
theorem w_1067 : Cond.code y_Wishes_allChoose prog_12_method_8_code 8 (some .int) ∈ TB := tb (mt3 _ (List.mem_of_getElem? (i := 206) rfl)) rfl
theorem o_Wishes_allChoose : am_okm (gG L xs) m_Wishes_allChoose := ⟨by decide +kernel, w_1067, ⟨by decide +kernel, by decide +kernel⟩, by decide, ox_Wishes, fun idx z h => os_Wishes _ (am_lk h)⟩
theorem w_1068 : Cond.code y_Wishes_earliestHeels prog_12_method_9_code 6 (some .int) ∈ TB := tb (mt3 _ (List.mem_of_getElem? (i := 211) rfl)) rfl
theorem o_Wishes_earliestHeels : am_okm (gG L xs) m_Wishes_earliestHeels := ⟨by decide +kernel, w_1068, ⟨by decide +kernel, by decide +kernel⟩, by decide, ox_Wishes, fun idx z h => os_Wishes _ (am_lk h)⟩
theorem w_1069 : Cond.code y_Wishes_betterGate prog_12_method_10_code 4 (some .int) ∈ TB := tb (mt3 _ (List.mem_of_getElem? (i := 229) rfl)) rfl
theorem o_Wishes_betterGate : am_okm (gG L xs) m_Wishes_betterGate := ⟨by decide +kernel, w_1069, ⟨by decide +kernel, by decide +kernel⟩, by decide, ox_Wishes, fun idx z h => os_Wishes _ (am_lk h)⟩
theorem w_1070 : Cond.code y_Wishes_fullestSet prog_12_method_11_code 7 (some .int) ∈ TB := tb (mt3 _ (List.mem_of_getElem? (i := 238) rfl)) rfl
theorem o_Wishes_fullestSet : am_okm (gG L xs) m_Wishes_fullestSet := ⟨by decide +kernel, w_1070, ⟨by decide +kernel, by decide +kernel⟩, by decide, ox_Wishes, fun idx z h => os_Wishes _ (am_lk h)⟩
theorem w_1071 : Cond.code y_Wishes_placeForAll prog_12_method_12_code 3 (some .int) ∈ TB := tb (mt4 _ (List.mem_of_getElem? (i := 14) rfl)) rfl
theorem o_Wishes_placeForAll : am_okm (gG L xs) m_Wishes_placeForAll := ⟨by decide +kernel, w_1071, ⟨by decide +kernel, by decide +kernel⟩, by decide, ox_Wishes, fun idx z h => os_Wishes _ (am_lk h)⟩
theorem w_1072 : Cond.code y_Mo_person prog_1_method_2_code 3 (some .int) ∈ TB := tb (mt2 _ (List.mem_of_getElem? (i := 67) rfl)) rfl
theorem o_Mo_person : am_okm (gG L xs) m_Mo_person := ⟨by decide +kernel, w_1072, ⟨by decide +kernel, by decide +kernel⟩, by decide, ox_Mo, fun idx z h => os_Mo _ (am_lk h)⟩
theorem w_1073 : Cond.code y_Mo_people prog_1_method_3_code 4 (some .int) ∈ TB := tb (mt2 _ (List.mem_of_getElem? (i := 89) rfl)) rfl
theorem o_Mo_people : am_okm (gG L xs) m_Mo_people := ⟨by decide +kernel, w_1073, ⟨by decide +kernel, by decide +kernel⟩, by decide, ox_Mo, fun idx z h => os_Mo _ (am_lk h)⟩
theorem w_1074 : Cond.code y_Mo_joinFromRow prog_1_method_4_code 10 (some .int) ∈ TB := tb (mt2 _ (List.mem_of_getElem? (i := 105) rfl)) rfl
theorem o_Mo_joinFromRow : am_okm (gG L xs) m_Mo_joinFromRow := ⟨by decide +kernel, w_1074, ⟨by decide +kernel, by decide +kernel⟩, by decide, ox_Mo, fun idx z h => os_Mo _ (am_lk h)⟩
theorem w_1075 : Cond.code y_Mo_mend prog_1_method_5_code 5 (some .int) ∈ TB := tb (mt2 _ (List.mem_of_getElem? (i := 122) rfl)) rfl
theorem o_Mo_mend : am_okm (gG L xs) m_Mo_mend := ⟨by decide +kernel, w_1075, ⟨by decide +kernel, by decide +kernel⟩, by decide, ox_Mo, fun idx z h => os_Mo _ (am_lk h)⟩
theorem w_1076 : Cond.code y_Mo_of prog_1_method_6_code 3 (some .int) ∈ TB := tb (mt2 _ (List.mem_of_getElem? (i := 150) rfl)) rfl
theorem o_Mo_of : am_okm (gG L xs) m_Mo_of := ⟨by decide +kernel, w_1076, ⟨by decide +kernel, by decide +kernel⟩, by decide, ox_Mo, fun idx z h => os_Mo _ (am_lk h)⟩
theorem w_1077 : Cond.code y_Mo_feed prog_1_method_7_code 2 (some .int) ∈ TB := tb (mt2 _ (List.mem_of_getElem? (i := 176) rfl)) rfl
theorem o_Mo_feed : am_okm (gG L xs) m_Mo_feed := ⟨by decide +kernel, w_1077, ⟨by decide +kernel, by decide +kernel⟩, by decide, ox_Mo, fun idx z h => os_Mo _ (am_lk h)⟩
theorem w_1078 : Cond.code y_Mo_law prog_1_method_8_code 2 (some .int) ∈ TB := tb (mt2 _ (List.mem_of_getElem? (i := 188) rfl)) rfl
theorem o_Mo_law : am_okm (gG L xs) m_Mo_law := ⟨by decide +kernel, w_1078, ⟨by decide +kernel, by decide +kernel⟩, by decide, ox_Mo, fun idx z h => os_Mo _ (am_lk h)⟩
theorem w_1079 : Cond.code y_Mo_tall prog_1_method_9_code 3 (some .int) ∈ TB := tb (mt3 _ (List.mem_of_getElem? (i := 5) rfl)) rfl
theorem o_Mo_tall : am_okm (gG L xs) m_Mo_tall := ⟨by decide +kernel, w_1079, ⟨by decide +kernel, by decide +kernel⟩, by decide, ox_Mo, fun idx z h => os_Mo _ (am_lk h)⟩
theorem w_1080 : Cond.code y_Mo_enters prog_1_method_10_code 3 (some .int) ∈ TB := tb (mt3 _ (List.mem_of_getElem? (i := 21) rfl)) rfl
theorem o_Mo_enters : am_okm (gG L xs) m_Mo_enters := ⟨by decide +kernel, w_1080, ⟨by decide +kernel, by decide +kernel⟩, by decide, ox_Mo, fun idx z h => os_Mo _ (am_lk h)⟩
theorem w_1081 : Cond.code y_Mo_stroke prog_1_method_11_code 4 (some .int) ∈ TB := tb (mt3 _ (List.mem_of_getElem? (i := 69) rfl)) rfl
theorem o_Mo_stroke : am_okm (gG L xs) m_Mo_stroke := ⟨by decide +kernel, w_1081, ⟨by decide +kernel, by decide +kernel⟩, by decide, ox_Mo, fun idx z h => os_Mo _ (am_lk h)⟩
theorem w_1082 : Cond.code y_Mo_day prog_1_method_12_code 4 (some .int) ∈ TB := tb (mt3 _ (List.mem_of_getElem? (i := 88) rfl)) rfl
theorem o_Mo_day : am_okm (gG L xs) m_Mo_day := ⟨by decide +kernel, w_1082, ⟨by decide +kernel, by decide +kernel⟩, by decide, ox_Mo, fun idx z h => os_Mo _ (am_lk h)⟩
theorem w_1083 : Cond.code y_Mo_mean prog_1_method_13_code 7 (some .long) ∈ TB := tb (mt3 _ (List.mem_of_getElem? (i := 101) rfl)) rfl
theorem o_Mo_mean : am_okm (gG L xs) m_Mo_mean := ⟨by decide +kernel, w_1083, ⟨by decide +kernel, by decide +kernel⟩, by decide, ox_Mo, fun idx z h => os_Mo _ (am_lk h)⟩
theorem w_1084 : Cond.code y_Mo_sharedDivisor prog_1_method_14_code 6 (some .int) ∈ TB := tb (mt3 _ (List.mem_of_getElem? (i := 114) rfl)) rfl
theorem o_Mo_sharedDivisor : am_okm (gG L xs) m_Mo_sharedDivisor := ⟨by decide +kernel, w_1084, ⟨by decide +kernel, by decide +kernel⟩, by decide, ox_Mo, fun idx z h => os_Mo _ (am_lk h)⟩
theorem w_1085 : Cond.code y_Mo_sent prog_1_method_15_code 4 (some .int) ∈ TB := tb (mt3 _ (List.mem_of_getElem? (i := 118) rfl)) rfl
theorem o_Mo_sent : am_okm (gG L xs) m_Mo_sent := ⟨by decide +kernel, w_1085, ⟨by decide +kernel, by decide +kernel⟩, by decide, ox_Mo, fun idx z h => os_Mo _ (am_lk h)⟩
theorem w_1086 : Cond.code y_Mo_brought prog_1_method_16_code 4 (some .int) ∈ TB := tb (mt3 _ (List.mem_of_getElem? (i := 142) rfl)) rfl
theorem o_Mo_brought : am_okm (gG L xs) m_Mo_brought := ⟨by decide +kernel, w_1086, ⟨by decide +kernel, by decide +kernel⟩, by decide, ox_Mo, fun idx z h => os_Mo _ (am_lk h)⟩
theorem w_1087 : Cond.code y_Mo_heels prog_1_method_17_code 4 (some .int) ∈ TB := tb (mt3 _ (List.mem_of_getElem? (i := 176) rfl)) rfl
theorem o_Mo_heels : am_okm (gG L xs) m_Mo_heels := ⟨by decide +kernel, w_1087, ⟨by decide +kernel, by decide +kernel⟩, by decide, ox_Mo, fun idx z h => os_Mo _ (am_lk h)⟩
theorem w_1088 : Cond.code y_Mo_later prog_1_method_18_code 2 (some .int) ∈ TB := tb (mt3 _ (List.mem_of_getElem? (i := 189) rfl)) rfl
theorem o_Mo_later : am_okm (gG L xs) m_Mo_later := ⟨by decide +kernel, w_1088, ⟨by decide +kernel, by decide +kernel⟩, by decide, ox_Mo, fun idx z h => os_Mo _ (am_lk h)⟩
theorem w_1089 : Cond.code y_Mo_allWear prog_1_method_19_code 2 (some .int) ∈ TB := tb (mt3 _ (List.mem_of_getElem? (i := 198) rfl)) rfl
theorem o_Mo_allWear : am_okm (gG L xs) m_Mo_allWear := ⟨by decide +kernel, w_1089, ⟨by decide +kernel, by decide +kernel⟩, by decide, ox_Mo, fun idx z h => os_Mo _ (am_lk h)⟩
theorem w_1090 : Cond.code y_Mo_gates prog_1_method_20_code 4 (some .int) ∈ TB := tb (mt3 _ (List.mem_of_getElem? (i := 215) rfl)) rfl
theorem o_Mo_gates : am_okm (gG L xs) m_Mo_gates := ⟨by decide +kernel, w_1090, ⟨by decide +kernel, by decide +kernel⟩, by decide, ox_Mo, fun idx z h => os_Mo _ (am_lk h)⟩
theorem w_1091 : Cond.code y_Mo_where prog_1_method_21_code 2 (some .int) ∈ TB := tb (mt3 _ (List.mem_of_getElem? (i := 225) rfl)) rfl
theorem o_Mo_where : am_okm (gG L xs) m_Mo_where := ⟨by decide +kernel, w_1091, ⟨by decide +kernel, by decide +kernel⟩, by decide, ox_Mo, fun idx z h => os_Mo _ (am_lk h)⟩
theorem w_1092 : Cond.code y_Mo_bestSet prog_1_method_22_code 3 (some .int) ∈ TB := tb (mt3 _ (List.mem_of_getElem? (i := 234) rfl)) rfl
theorem o_Mo_bestSet : am_okm (gG L xs) m_Mo_bestSet := ⟨by decide +kernel, w_1092, ⟨by decide +kernel, by decide +kernel⟩, by decide, ox_Mo, fun idx z h => os_Mo _ (am_lk h)⟩
theorem w_1093 : Cond.code y_Mo_atLast prog_1_method_23_code 1 (some .int) ∈ TB := tb (mt4 _ (List.mem_of_getElem? (i := 2) rfl)) rfl
theorem o_Mo_atLast : am_okm (gG L xs) m_Mo_atLast := ⟨by decide +kernel, w_1093, ⟨by decide +kernel, by decide +kernel⟩, by decide, ox_Mo, fun idx z h => os_Mo _ (am_lk h)⟩
theorem w_1094 : Cond.code y_Mo_rule prog_1_method_24_code 2 (some .int) ∈ TB := tb (mt4 _ (List.mem_of_getElem? (i := 10) rfl)) rfl
theorem o_Mo_rule : am_okm (gG L xs) m_Mo_rule := ⟨by decide +kernel, w_1094, ⟨by decide +kernel, by decide +kernel⟩, by decide, ox_Mo, fun idx z h => os_Mo _ (am_lk h)⟩
theorem w_1095 : Cond.code y_Mo_judge prog_1_method_25_code 3 (some .int) ∈ TB := tb (mt4 _ (List.mem_of_getElem? (i := 22) rfl)) rfl
theorem o_Mo_judge : am_okm (gG L xs) m_Mo_judge := ⟨by decide +kernel, w_1095, ⟨by decide +kernel, by decide +kernel⟩, by decide, ox_Mo, fun idx z h => os_Mo _ (am_lk h)⟩
theorem w_1096 : Cond.code y_Mo_with prog_1_method_26_code 4 (some .int) ∈ TB := tb (mt4 _ (List.mem_of_getElem? (i := 42) rfl)) rfl
theorem o_Mo_with : am_okm (gG L xs) m_Mo_with := ⟨by decide +kernel, w_1096, ⟨by decide +kernel, by decide +kernel⟩, by decide, ox_Mo, fun idx z h => os_Mo _ (am_lk h)⟩
theorem w_1097 : Cond.code y_Mo_heeled prog_1_method_27_code 3 (some .int) ∈ TB := tb (mt4 _ (List.mem_of_getElem? (i := 52) rfl)) rfl
theorem o_Mo_heeled : am_okm (gG L xs) m_Mo_heeled := ⟨by decide +kernel, w_1097, ⟨by decide +kernel, by decide +kernel⟩, by decide, ox_Mo, fun idx z h => os_Mo _ (am_lk h)⟩
theorem w_1098 : Cond.code y_Mo_drawn prog_1_method_28_code 4 (some .int) ∈ TB := tb (mt4 _ (List.mem_of_getElem? (i := 65) rfl)) rfl
theorem o_Mo_drawn : am_okm (gG L xs) m_Mo_drawn := ⟨by decide +kernel, w_1098, ⟨by decide +kernel, by decide +kernel⟩, by decide, ox_Mo, fun idx z h => os_Mo _ (am_lk h)⟩
theorem w_1099 : Cond.code y_Mo_refusedAsSeen prog_1_method_29_code 2 (some .int) ∈ TB := tb (mt4 _ (List.mem_of_getElem? (i := 26) rfl)) rfl
theorem o_Mo_refusedAsSeen : am_okm (gG L xs) m_Mo_refusedAsSeen := ⟨by decide +kernel, w_1099, ⟨by decide +kernel, by decide +kernel⟩, by decide, ox_Mo, fun idx z h => os_Mo _ (am_lk h)⟩
theorem w_1100 : Cond.code y_Mo_strike prog_1_method_30_code 2 (some .int) ∈ TB := tb (mt4 _ (List.mem_of_getElem? (i := 76) rfl)) rfl
theorem o_Mo_strike : am_okm (gG L xs) m_Mo_strike := ⟨by decide +kernel, w_1100, ⟨by decide +kernel, by decide +kernel⟩, by decide, ox_Mo, fun idx z h => os_Mo _ (am_lk h)⟩
theorem w_1101 : Cond.code y_Mo_take prog_1_method_31_code 2 (some .int) ∈ TB := tb (mt4 _ (List.mem_of_getElem? (i := 92) rfl)) rfl
theorem o_Mo_take : am_okm (gG L xs) m_Mo_take := ⟨by decide +kernel, w_1101, ⟨by decide +kernel, by decide +kernel⟩, by decide, ox_Mo, fun idx z h => os_Mo _ (am_lk h)⟩
theorem w_1102 : Cond.code y_Mo_dawn prog_1_method_32_code 1 (some .int) ∈ TB := tb (mt4 _ (List.mem_of_getElem? (i := 100) rfl)) rfl
theorem o_Mo_dawn : am_okm (gG L xs) m_Mo_dawn := ⟨by decide +kernel, w_1102, ⟨by decide +kernel, by decide +kernel⟩, by decide, ox_Mo, fun idx z h => os_Mo _ (am_lk h)⟩
theorem w_1103 : Cond.code y_Mo_led prog_1_method_33_code 2 (some .int) ∈ TB := tb (mt4 _ (List.mem_of_getElem? (i := 112) rfl)) rfl
theorem o_Mo_led : am_okm (gG L xs) m_Mo_led := ⟨by decide +kernel, w_1103, ⟨by decide +kernel, by decide +kernel⟩, by decide, ox_Mo, fun idx z h => os_Mo _ (am_lk h)⟩
theorem w_1104 : Cond.code y_Mo_image prog_1_method_34_code 1 (some .int) ∈ TB := tb (mt4 _ (List.mem_of_getElem? (i := 116) rfl)) rfl
theorem o_Mo_image : am_okm (gG L xs) m_Mo_image := ⟨by decide +kernel, w_1104, ⟨by decide +kernel, by decide +kernel⟩, by decide, ox_Mo, fun idx z h => os_Mo _ (am_lk h)⟩
theorem w_1105 : Cond.code y_Mo_back prog_1_method_35_code 1 (some .int) ∈ TB := tb (mt4 _ (List.mem_of_getElem? (i := 125) rfl)) rfl
theorem o_Mo_back : am_okm (gG L xs) m_Mo_back := ⟨by decide +kernel, w_1105, ⟨by decide +kernel, by decide +kernel⟩, by decide, ox_Mo, fun idx z h => os_Mo _ (am_lk h)⟩
theorem w_1106 : Cond.code y_Mo_undo prog_1_method_36_code 1 (some .int) ∈ TB := tb (mt4 _ (List.mem_of_getElem? (i := 137) rfl)) rfl
theorem o_Mo_undo : am_okm (gG L xs) m_Mo_undo := ⟨by decide +kernel, w_1106, ⟨by decide +kernel, by decide +kernel⟩, by decide, ox_Mo, fun idx z h => os_Mo _ (am_lk h)⟩
theorem w_1107 : Cond.code y_Mo_redo prog_1_method_37_code 1 (some .int) ∈ TB := tb (mt4 _ (List.mem_of_getElem? (i := 149) rfl)) rfl
theorem o_Mo_redo : am_okm (gG L xs) m_Mo_redo := ⟨by decide +kernel, w_1107, ⟨by decide +kernel, by decide +kernel⟩, by decide, ox_Mo, fun idx z h => os_Mo _ (am_lk h)⟩
theorem w_1108 : Cond.code y_Mo_body prog_1_method_38_code 2 (some .int) ∈ TB := tb (mt4 _ (List.mem_of_getElem? (i := 161) rfl)) rfl
theorem o_Mo_body : am_okm (gG L xs) m_Mo_body := ⟨by decide +kernel, w_1108, ⟨by decide +kernel, by decide +kernel⟩, by decide, ox_Mo, fun idx z h => os_Mo _ (am_lk h)⟩
theorem w_1109 : Cond.code y_Mo_act prog_1_method_39_code 4 (some .int) ∈ TB := tb (mt4 _ (List.mem_of_getElem? (i := 176) rfl)) rfl
theorem o_Mo_act : am_okm (gG L xs) m_Mo_act := ⟨by decide +kernel, w_1109, ⟨by decide +kernel, by decide +kernel⟩, by decide, ox_Mo, fun idx z h => os_Mo _ (am_lk h)⟩
theorem w_1110 : Cond.code y_Mo_trace prog_1_method_40_code 2 (some .int) ∈ TB := tb (mt4 _ (List.mem_of_getElem? (i := 204) rfl)) rfl
theorem o_Mo_trace : am_okm (gG L xs) m_Mo_trace := ⟨by decide +kernel, w_1110, ⟨by decide +kernel, by decide +kernel⟩, by decide, ox_Mo, fun idx z h => os_Mo _ (am_lk h)⟩
theorem w_1111 : Cond.code y_Mo_keep prog_1_method_41_code 3 (some .int) ∈ TB := tb (mt4 _ (List.mem_of_getElem? (i := 212) rfl)) rfl
theorem o_Mo_keep : am_okm (gG L xs) m_Mo_keep := ⟨by decide +kernel, w_1111, ⟨by decide +kernel, by decide +kernel⟩, by decide, ox_Mo, fun idx z h => os_Mo _ (am_lk h)⟩
theorem w_1112 : Cond.code y_Mo_row prog_1_method_42_code 4 (some .int) ∈ TB := tb (mt4 _ (List.mem_of_getElem? (i := 221) rfl)) rfl
theorem o_Mo_row : am_okm (gG L xs) m_Mo_row := ⟨by decide +kernel, w_1112, ⟨by decide +kernel, by decide +kernel⟩, by decide, ox_Mo, fun idx z h => os_Mo _ (am_lk h)⟩
theorem w_1113 : Cond.code y_Mo_put prog_1_method_43_code 6 (some .int) ∈ TB := tb (mt4 _ (List.mem_of_getElem? (i := 235) rfl)) rfl
theorem o_Mo_put : am_okm (gG L xs) m_Mo_put := ⟨by decide +kernel, w_1113, ⟨by decide +kernel, by decide +kernel⟩, by decide, ox_Mo, fun idx z h => os_Mo _ (am_lk h)⟩
theorem w_1114 : Cond.code y_Mo_element prog_1_method_44_code 3 (some .long) ∈ TB := tb (mt5 _ (List.mem_of_getElem? (i := 14) rfl)) rfl
theorem o_Mo_element : am_okm (gG L xs) m_Mo_element := ⟨by decide +kernel, w_1114, ⟨by decide +kernel, by decide +kernel⟩, by decide, ox_Mo, fun idx z h => os_Mo _ (am_lk h)⟩
theorem w_1115 : Cond.code y_Mo_shift prog_1_method_45_code 6 (some .int) ∈ TB := tb (mt5 _ (List.mem_of_getElem? (i := 18) rfl)) rfl
theorem o_Mo_shift : am_okm (gG L xs) m_Mo_shift := ⟨by decide +kernel, w_1115, ⟨by decide +kernel, by decide +kernel⟩, by decide, ox_Mo, fun idx z h => os_Mo _ (am_lk h)⟩
theorem w_1116 : Cond.code y_Mo_taken prog_1_method_46_code 4 (some .int) ∈ TB := tb (mt5 _ (List.mem_of_getElem? (i := 36) rfl)) rfl
theorem o_Mo_taken : am_okm (gG L xs) m_Mo_taken := ⟨by decide +kernel, w_1116, ⟨by decide +kernel, by decide +kernel⟩, by decide, ox_Mo, fun idx z h => os_Mo _ (am_lk h)⟩
theorem w_1117 : Cond.code y_Mo_count prog_1_method_47_code 2 (some .int) ∈ TB := tb (mt5 _ (List.mem_of_getElem? (i := 47) rfl)) rfl
theorem o_Mo_count : am_okm (gG L xs) m_Mo_count := ⟨by decide +kernel, w_1117, ⟨by decide +kernel, by decide +kernel⟩, by decide, ox_Mo, fun idx z h => os_Mo _ (am_lk h)⟩
theorem w_1118 : Cond.code y_Mo_refusedAsRow prog_1_method_48_code 2 (some .int) ∈ TB := tb (mt4 _ (List.mem_of_getElem? (i := 239) rfl)) rfl
theorem o_Mo_refusedAsRow : am_okm (gG L xs) m_Mo_refusedAsRow := ⟨by decide +kernel, w_1118, ⟨by decide +kernel, by decide +kernel⟩, by decide, ox_Mo, fun idx z h => os_Mo _ (am_lk h)⟩
theorem w_1119 : Cond.code y_Mo_isOneOrAll prog_1_method_49_code 2 (some .boolean) ∈ TB := tb (mt3 _ (List.mem_of_getElem? (i := 202) rfl)) rfl
theorem o_Mo_isOneOrAll : am_okm (gG L xs) m_Mo_isOneOrAll := ⟨by decide +kernel, w_1119, ⟨by decide +kernel, by decide +kernel⟩, by decide, ox_Mo, fun idx z h => os_Mo _ (am_lk h)⟩
theorem w_1120 : Cond.code y_Mo_isDay prog_1_method_50_code 1 (some .boolean) ∈ TB := tb (mt3 _ (List.mem_of_getElem? (i := 24) rfl)) rfl
theorem o_Mo_isDay : am_okm (gG L xs) m_Mo_isDay := ⟨by decide +kernel, w_1120, ⟨by decide +kernel, by decide +kernel⟩, by decide, ox_Mo, fun idx z h => os_Mo _ (am_lk h)⟩
theorem w_1121 : Cond.code y_Mo_isEither prog_1_method_51_code 1 (some .boolean) ∈ TB := tb (mt3 _ (List.mem_of_getElem? (i := 72) rfl)) rfl
theorem o_Mo_isEither : am_okm (gG L xs) m_Mo_isEither := ⟨by decide +kernel, w_1121, ⟨by decide +kernel, by decide +kernel⟩, by decide, ox_Mo, fun idx z h => os_Mo _ (am_lk h)⟩
theorem w_1122 : Cond.code y_Md_within prog_14_method_1_code 6 (some .boolean) ∈ TB := tb (mt5 _ (List.mem_of_getElem? (i := 235) rfl)) rfl
theorem o_Md_within : am_okm (gG L xs) m_Md_within := ⟨by decide +kernel, w_1122, ⟨by decide +kernel, by decide +kernel⟩, by decide, ox_Md, fun idx z h => os_Md _ (am_lk h)⟩
theorem w_1123 : Cond.code y_Md_isIn prog_14_method_2_code 2 (some .boolean) ∈ TB := tb (mt6 _ (List.mem_of_getElem? (i := 36) rfl)) rfl
theorem o_Md_isIn : am_okm (gG L xs) m_Md_isIn := ⟨by decide +kernel, w_1123, ⟨by decide +kernel, by decide +kernel⟩, by decide, ox_Md, fun idx z h => os_Md _ (am_lk h)⟩
theorem w_1124 : Cond.code y_Md_bitsOf prog_14_method_3_code 3 (some .int) ∈ TB := tb (mt6 _ (List.mem_of_getElem? (i := 161) rfl)) rfl
theorem o_Md_bitsOf : am_okm (gG L xs) m_Md_bitsOf := ⟨by decide +kernel, w_1124, ⟨by decide +kernel, by decide +kernel⟩, by decide, ox_Md, fun idx z h => os_Md _ (am_lk h)⟩
theorem w_1125 : Cond.code y_Md_becomes prog_14_method_5_code 5 (some .int) ∈ TB := tb (mt6 _ (List.mem_of_getElem? (i := 25) rfl)) rfl
theorem o_Md_becomes : am_okm (gG L xs) m_Md_becomes := ⟨by decide +kernel, w_1125, ⟨by decide +kernel, by decide +kernel⟩, by decide, ox_Md, fun idx z h => os_Md _ (am_lk h)⟩
theorem w_1126 : Cond.code y_Md_undo prog_14_method_6_code 1 (some .int) ∈ TB := tb (mt5 _ (List.mem_of_getElem? (i := 218) rfl)) rfl
theorem o_Md_undo : am_okm (gG L xs) m_Md_undo := ⟨by decide +kernel, w_1126, ⟨by decide +kernel, by decide +kernel⟩, by decide, ox_Md, fun idx z h => os_Md _ (am_lk h)⟩
theorem w_1127 : Cond.code y_Md_redo prog_14_method_7_code 1 (some .int) ∈ TB := tb (mt5 _ (List.mem_of_getElem? (i := 222) rfl)) rfl
theorem o_Md_redo : am_okm (gG L xs) m_Md_redo := ⟨by decide +kernel, w_1127, ⟨by decide +kernel, by decide +kernel⟩, by decide, ox_Md, fun idx z h => os_Md _ (am_lk h)⟩
theorem w_1128 : Cond.code y_Md_isOne prog_14_method_8_code 3 (some .boolean) ∈ TB := tb (mt6 _ (List.mem_of_getElem? (i := 16) rfl)) rfl
theorem o_Md_isOne : am_okm (gG L xs) m_Md_isOne := ⟨by decide +kernel, w_1128, ⟨by decide +kernel, by decide +kernel⟩, by decide, ox_Md, fun idx z h => os_Md _ (am_lk h)⟩
theorem w_1129 : Cond.code y_Md_mayCome prog_14_method_9_code 6 (some .boolean) ∈ TB := tb (mt5 _ (List.mem_of_getElem? (i := 230) rfl)) rfl
theorem o_Md_mayCome : am_okm (gG L xs) m_Md_mayCome := ⟨by decide +kernel, w_1129, ⟨by decide +kernel, by decide +kernel⟩, by decide, ox_Md, fun idx z h => os_Md _ (am_lk h)⟩
theorem w_1130 : Cond.code y_Md_puts prog_14_method_10_code 5 none ∈ TB := tb (mt5 _ (List.mem_of_getElem? (i := 239) rfl)) rfl
theorem o_Md_puts : am_okm (gG L xs) m_Md_puts := ⟨by decide +kernel, w_1130, ⟨by decide +kernel, by decide +kernel⟩, by decide, ox_Md, fun idx z h => os_Md _ (am_lk h)⟩
theorem w_1131 : Cond.code y_Md_person prog_14_method_11_code 3 (some .int) ∈ TB := tb (mt5 _ (List.mem_of_getElem? (i := 226) rfl)) rfl
theorem o_Md_person : am_okm (gG L xs) m_Md_person := ⟨by decide +kernel, w_1131, ⟨by decide +kernel, by decide +kernel⟩, by decide, ox_Md, fun idx z h => os_Md _ (am_lk h)⟩
theorem w_1132 : Cond.code y_Md_people prog_14_method_12_code 7 (some .int) ∈ TB := tb (mt6 _ (List.mem_of_getElem? (i := 3) rfl)) rfl
theorem o_Md_people : am_okm (gG L xs) m_Md_people := ⟨by decide +kernel, w_1132, ⟨by decide +kernel, by decide +kernel⟩, by decide, ox_Md, fun idx z h => os_Md _ (am_lk h)⟩
theorem w_1133 : Cond.code y_Md_mayBecome prog_14_method_13_code 2 (some .boolean) ∈ TB := tb (mt6 _ (List.mem_of_getElem? (i := 20) rfl)) rfl
theorem o_Md_mayBecome : am_okm (gG L xs) m_Md_mayBecome := ⟨by decide +kernel, w_1133, ⟨by decide +kernel, by decide +kernel⟩, by decide, ox_Md, fun idx z h => os_Md _ (am_lk h)⟩
theorem w_1134 : Cond.code y_Md_mend prog_14_method_14_code 4 (some .int) ∈ TB := tb (mt6 _ (List.mem_of_getElem? (i := 12) rfl)) rfl
theorem o_Md_mend : am_okm (gG L xs) m_Md_mend := ⟨by decide +kernel, w_1134, ⟨by decide +kernel, by decide +kernel⟩, by decide, ox_Md, fun idx z h => os_Md _ (am_lk h)⟩
theorem w_1135 : Cond.code y_Md_waitsNow prog_14_method_15_code 3 (some .boolean) ∈ TB := tb (mt6 _ (List.mem_of_getElem? (i := 33) rfl)) rfl
theorem o_Md_waitsNow : am_okm (gG L xs) m_Md_waitsNow := ⟨by decide +kernel, w_1135, ⟨by decide +kernel, by decide +kernel⟩, by decide, ox_Md, fun idx z h => os_Md _ (am_lk h)⟩
theorem w_1136 : Cond.code y_Md_of prog_14_method_16_code 3 (some .int) ∈ TB := tb (mt6 _ (List.mem_of_getElem? (i := 29) rfl)) rfl
theorem o_Md_of : am_okm (gG L xs) m_Md_of := ⟨by decide +kernel, w_1136, ⟨by decide +kernel, by decide +kernel⟩, by decide, ox_Md, fun idx z h => os_Md _ (am_lk h)⟩
theorem w_1137 : Cond.code y_Md_feed prog_14_method_17_code 2 (some .int) ∈ TB := tb (mt6 _ (List.mem_of_getElem? (i := 40) rfl)) rfl
theorem o_Md_feed : am_okm (gG L xs) m_Md_feed := ⟨by decide +kernel, w_1137, ⟨by decide +kernel, by decide +kernel⟩, by decide, ox_Md, fun idx z h => os_Md _ (am_lk h)⟩
theorem w_1138 : Cond.code y_Md_byteAt prog_14_method_18_code 1 (some .int) ∈ TB := tb (mt6 _ (List.mem_of_getElem? (i := 77) rfl)) rfl
theorem o_Md_byteAt : am_okm (gG L xs) m_Md_byteAt := ⟨by decide +kernel, w_1138, ⟨by decide +kernel, by decide +kernel⟩, by decide, ox_Md, fun idx z h => os_Md _ (am_lk h)⟩
theorem w_1139 : Cond.code y_Md_wrong prog_14_method_19_code 1 (some .int) ∈ TB := tb (mt6 _ (List.mem_of_getElem? (i := 81) rfl)) rfl
theorem o_Md_wrong : am_okm (gG L xs) m_Md_wrong := ⟨by decide +kernel, w_1139, ⟨by decide +kernel, by decide +kernel⟩, by decide, ox_Md, fun idx z h => os_Md _ (am_lk h)⟩
theorem w_1140 : Cond.code y_Md_takes prog_14_method_20_code 2 (some .boolean) ∈ TB := tb (mt6 _ (List.mem_of_getElem? (i := 85) rfl)) rfl
theorem o_Md_takes : am_okm (gG L xs) m_Md_takes := ⟨by decide +kernel, w_1140, ⟨by decide +kernel, by decide +kernel⟩, by decide, ox_Md, fun idx z h => os_Md _ (am_lk h)⟩
theorem w_1141 : Cond.code y_Md_either prog_14_method_21_code 3 (some .int) ∈ TB := tb (mt6 _ (List.mem_of_getElem? (i := 53) rfl)) rfl
theorem o_Md_either : am_okm (gG L xs) m_Md_either := ⟨by decide +kernel, w_1141, ⟨by decide +kernel, by decide +kernel⟩, by decide, ox_Md, fun idx z h => os_Md _ (am_lk h)⟩
theorem w_1142 : Cond.code y_Md_both prog_14_method_22_code 3 (some .int) ∈ TB := tb (mt6 _ (List.mem_of_getElem? (i := 57) rfl)) rfl
theorem o_Md_both : am_okm (gG L xs) m_Md_both := ⟨by decide +kernel, w_1142, ⟨by decide +kernel, by decide +kernel⟩, by decide, ox_Md, fun idx z h => os_Md _ (am_lk h)⟩
theorem w_1143 : Cond.code y_Md_compared prog_14_method_23_code 4 (some .int) ∈ TB := tb (mt6 _ (List.mem_of_getElem? (i := 61) rfl)) rfl
theorem o_Md_compared : am_okm (gG L xs) m_Md_compared := ⟨by decide +kernel, w_1143, ⟨by decide +kernel, by decide +kernel⟩, by decide, ox_Md, fun idx z h => os_Md _ (am_lk h)⟩
theorem w_1144 : Cond.code y_Md_sums prog_14_method_24_code 4 (some .int) ∈ TB := tb (mt6 _ (List.mem_of_getElem? (i := 65) rfl)) rfl
theorem o_Md_sums : am_okm (gG L xs) m_Md_sums := ⟨by decide +kernel, w_1144, ⟨by decide +kernel, by decide +kernel⟩, by decide, ox_Md, fun idx z h => os_Md _ (am_lk h)⟩
theorem w_1145 : Cond.code y_Md_product prog_14_method_25_code 4 (some .int) ∈ TB := tb (mt6 _ (List.mem_of_getElem? (i := 69) rfl)) rfl
theorem o_Md_product : am_okm (gG L xs) m_Md_product := ⟨by decide +kernel, w_1145, ⟨by decide +kernel, by decide +kernel⟩, by decide, ox_Md, fun idx z h => os_Md _ (am_lk h)⟩
theorem w_1146 : Cond.code y_Md_nameOf prog_14_method_26_code 1 (some .int) ∈ TB := tb (mt6 _ (List.mem_of_getElem? (i := 88) rfl)) rfl
theorem o_Md_nameOf : am_okm (gG L xs) m_Md_nameOf := ⟨by decide +kernel, w_1146, ⟨by decide +kernel, by decide +kernel⟩, by decide, ox_Md, fun idx z h => os_Md _ (am_lk h)⟩
theorem w_1147 : Cond.code y_Md_one prog_14_method_27_code 5 (some .int) ∈ TB := tb (mt6 _ (List.mem_of_getElem? (i := 73) rfl)) rfl
theorem o_Md_one : am_okm (gG L xs) m_Md_one := ⟨by decide +kernel, w_1147, ⟨by decide +kernel, by decide +kernel⟩, by decide, ox_Md, fun idx z h => os_Md _ (am_lk h)⟩
theorem w_1148 : Cond.code y_Md_workOut prog_14_method_28_code 8 (some .int) ∈ TB := tb (mt6 _ (List.mem_of_getElem? (i := 49) rfl)) rfl
theorem o_Md_workOut : am_okm (gG L xs) m_Md_workOut := ⟨by decide +kernel, w_1148, ⟨by decide +kernel, by decide +kernel⟩, by decide, ox_Md, fun idx z h => os_Md _ (am_lk h)⟩
theorem w_1149 : Cond.code y_Md_law prog_14_method_29_code 4 (some .int) ∈ TB := tb (mt6 _ (List.mem_of_getElem? (i := 45) rfl)) rfl
theorem o_Md_law : am_okm (gG L xs) m_Md_law := ⟨by decide +kernel, w_1149, ⟨by decide +kernel, by decide +kernel⟩, by decide, ox_Md, fun idx z h => os_Md _ (am_lk h)⟩
theorem w_1150 : Cond.code y_Md_tallAt prog_14_method_30_code 5 (some .int) ∈ TB := tb (mt6 _ (List.mem_of_getElem? (i := 97) rfl)) rfl
theorem o_Md_tallAt : am_okm (gG L xs) m_Md_tallAt := ⟨by decide +kernel, w_1150, ⟨by decide +kernel, by decide +kernel⟩, by decide, ox_Md, fun idx z h => os_Md _ (am_lk h)⟩
theorem w_1151 : Cond.code y_Md_tall prog_14_method_31_code 3 (some .int) ∈ TB := tb (mt6 _ (List.mem_of_getElem? (i := 92) rfl)) rfl
theorem o_Md_tall : am_okm (gG L xs) m_Md_tall := ⟨by decide +kernel, w_1151, ⟨by decide +kernel, by decide +kernel⟩, by decide, ox_Md, fun idx z h => os_Md _ (am_lk h)⟩
theorem w_1152 : Cond.code y_Md_begins1 prog_14_method_32_code 2 none ∈ TB := tb (mt6 _ (List.mem_of_getElem? (i := 109) rfl)) rfl
theorem o_Md_begins1 : am_okm (gG L xs) m_Md_begins1 := ⟨by decide +kernel, w_1152, ⟨by decide +kernel, by decide +kernel⟩, by decide, ox_Md, fun idx z h => os_Md _ (am_lk h)⟩
theorem w_1153 : Cond.code y_Md_asksWaiting prog_14_method_33_code 6 none ∈ TB := tb (mt6 _ (List.mem_of_getElem? (i := 121) rfl)) rfl
theorem o_Md_asksWaiting : am_okm (gG L xs) m_Md_asksWaiting := ⟨by decide +kernel, w_1153, ⟨by decide +kernel, by decide +kernel⟩, by decide, ox_Md, fun idx z h => os_Md _ (am_lk h)⟩
theorem w_1154 : Cond.code y_Md_atPlace prog_14_method_34_code 5 (some .int) ∈ TB := tb (mt6 _ (List.mem_of_getElem? (i := 125) rfl)) rfl
theorem o_Md_atPlace : am_okm (gG L xs) m_Md_atPlace := ⟨by decide +kernel, w_1154, ⟨by decide +kernel, by decide +kernel⟩, by decide, ox_Md, fun idx z h => os_Md _ (am_lk h)⟩
theorem w_1155 : Cond.code y_Md_strokes prog_14_method_35_code 5 (some .int) ∈ TB := tb (mt6 _ (List.mem_of_getElem? (i := 117) rfl)) rfl
theorem o_Md_strokes : am_okm (gG L xs) m_Md_strokes := ⟨by decide +kernel, w_1155, ⟨by decide +kernel, by decide +kernel⟩, by decide, ox_Md, fun idx z h => os_Md _ (am_lk h)⟩
theorem w_1156 : Cond.code y_Md_goes prog_14_method_36_code 3 none ∈ TB := tb (mt6 _ (List.mem_of_getElem? (i := 113) rfl)) rfl
theorem o_Md_goes : am_okm (gG L xs) m_Md_goes := ⟨by decide +kernel, w_1156, ⟨by decide +kernel, by decide +kernel⟩, by decide, ox_Md, fun idx z h => os_Md _ (am_lk h)⟩
theorem w_1157 : Cond.code y_Md_isN prog_14_method_37_code 1 (some .boolean) ∈ TB := tb (mt6 _ (List.mem_of_getElem? (i := 105) rfl)) rfl
theorem o_Md_isN : am_okm (gG L xs) m_Md_isN := ⟨by decide +kernel, w_1157, ⟨by decide +kernel, by decide +kernel⟩, by decide, ox_Md, fun idx z h => os_Md _ (am_lk h)⟩
theorem w_1158 : Cond.code y_Md_inMany prog_14_method_38_code 3 (some .int) ∈ TB := tb (mt6 _ (List.mem_of_getElem? (i := 138) rfl)) rfl
theorem o_Md_inMany : am_okm (gG L xs) m_Md_inMany := ⟨by decide +kernel, w_1158, ⟨by decide +kernel, by decide +kernel⟩, by decide, ox_Md, fun idx z h => os_Md _ (am_lk h)⟩
theorem w_1159 : Cond.code y_Md_enters prog_14_method_39_code 3 (some .int) ∈ TB := tb (mt6 _ (List.mem_of_getElem? (i := 102) rfl)) rfl
theorem o_Md_enters : am_okm (gG L xs) m_Md_enters := ⟨by decide +kernel, w_1159, ⟨by decide +kernel, by decide +kernel⟩, by decide, ox_Md, fun idx z h => os_Md _ (am_lk h)⟩
theorem w_1160 : Cond.code y_Md_stroke prog_14_method_40_code 5 (some .int) ∈ TB := tb (mt6 _ (List.mem_of_getElem? (i := 129) rfl)) rfl
theorem o_Md_stroke : am_okm (gG L xs) m_Md_stroke := ⟨by decide +kernel, w_1160, ⟨by decide +kernel, by decide +kernel⟩, by decide, ox_Md, fun idx z h => os_Md _ (am_lk h)⟩
theorem w_1161 : Cond.code y_Md_day prog_14_method_41_code 5 (some .int) ∈ TB := tb (mt6 _ (List.mem_of_getElem? (i := 133) rfl)) rfl
theorem o_Md_day : am_okm (gG L xs) m_Md_day := ⟨by decide +kernel, w_1161, ⟨by decide +kernel, by decide +kernel⟩, by decide, ox_Md, fun idx z h => os_Md _ (am_lk h)⟩
theorem w_1162 : Cond.code y_Md_commonOf prog_14_method_42_code 10 (some .long) ∈ TB := tb (mt6 _ (List.mem_of_getElem? (i := 150) rfl)) rfl
theorem o_Md_commonOf : am_okm (gG L xs) m_Md_commonOf := ⟨by decide +kernel, w_1162, ⟨by decide +kernel, by decide +kernel⟩, by decide, ox_Md, fun idx z h => os_Md _ (am_lk h)⟩
theorem w_1163 : Cond.code y_Md_partOf prog_14_method_43_code 7 (some .long) ∈ TB := tb (mt6 _ (List.mem_of_getElem? (i := 147) rfl)) rfl
theorem o_Md_partOf : am_okm (gG L xs) m_Md_partOf := ⟨by decide +kernel, w_1163, ⟨by decide +kernel, by decide +kernel⟩, by decide, ox_Md, fun idx z h => os_Md _ (am_lk h)⟩
theorem w_1164 : Cond.code y_Md_mean prog_14_method_44_code 7 (some .long) ∈ TB := tb (mt6 _ (List.mem_of_getElem? (i := 142) rfl)) rfl
theorem o_Md_mean : am_okm (gG L xs) m_Md_mean := ⟨by decide +kernel, w_1164, ⟨by decide +kernel, by decide +kernel⟩, by decide, ox_Md, fun idx z h => os_Md _ (am_lk h)⟩
theorem w_1165 : Cond.code y_Md_priceOf prog_14_method_45_code 4 (some .int) ∈ TB := tb (mt6 _ (List.mem_of_getElem? (i := 158) rfl)) rfl
theorem o_Md_priceOf : am_okm (gG L xs) m_Md_priceOf := ⟨by decide +kernel, w_1165, ⟨by decide +kernel, by decide +kernel⟩, by decide, ox_Md, fun idx z h => os_Md _ (am_lk h)⟩
theorem w_1166 : Cond.code y_Md_sent prog_14_method_46_code 8 (some .int) ∈ TB := tb (mt6 _ (List.mem_of_getElem? (i := 154) rfl)) rfl
theorem o_Md_sent : am_okm (gG L xs) m_Md_sent := ⟨by decide +kernel, w_1166, ⟨by decide +kernel, by decide +kernel⟩, by decide, ox_Md, fun idx z h => os_Md _ (am_lk h)⟩
theorem w_1167 : Cond.code y_Md_brought prog_14_method_47_code 7 (some .int) ∈ TB := tb (mt6 _ (List.mem_of_getElem? (i := 165) rfl)) rfl
theorem o_Md_brought : am_okm (gG L xs) m_Md_brought := ⟨by decide +kernel, w_1167, ⟨by decide +kernel, by decide +kernel⟩, by decide, ox_Md, fun idx z h => os_Md _ (am_lk h)⟩
theorem w_1168 : Cond.code y_Md_wearing prog_14_method_48_code 6 (some .int) ∈ TB := tb (mt6 _ (List.mem_of_getElem? (i := 173) rfl)) rfl
theorem o_Md_wearing : am_okm (gG L xs) m_Md_wearing := ⟨by decide +kernel, w_1168, ⟨by decide +kernel, by decide +kernel⟩, by decide, ox_Md, fun idx z h => os_Md _ (am_lk h)⟩
theorem w_1169 : Cond.code y_Md_heels prog_14_method_49_code 10 (some .int) ∈ TB := tb (mt6 _ (List.mem_of_getElem? (i := 169) rfl)) rfl
theorem o_Md_heels : am_okm (gG L xs) m_Md_heels := ⟨by decide +kernel, w_1169, ⟨by decide +kernel, by decide +kernel⟩, by decide, ox_Md, fun idx z h => os_Md _ (am_lk h)⟩
theorem w_1170 : Cond.code y_Md_later prog_14_method_50_code 8 (some .int) ∈ TB := tb (mt6 _ (List.mem_of_getElem? (i := 177) rfl)) rfl
theorem o_Md_later : am_okm (gG L xs) m_Md_later := ⟨by decide +kernel, w_1170, ⟨by decide +kernel, by decide +kernel⟩, by decide, ox_Md, fun idx z h => os_Md _ (am_lk h)⟩
theorem w_1171 : Cond.code y_Md_chooses prog_14_method_51_code 6 (some .int) ∈ TB := tb (mt6 _ (List.mem_of_getElem? (i := 185) rfl)) rfl
theorem o_Md_chooses : am_okm (gG L xs) m_Md_chooses := ⟨by decide +kernel, w_1171, ⟨by decide +kernel, by decide +kernel⟩, by decide, ox_Md, fun idx z h => os_Md _ (am_lk h)⟩
theorem w_1172 : Cond.code y_Md_allWear prog_14_method_52_code 6 (some .int) ∈ TB := tb (mt6 _ (List.mem_of_getElem? (i := 181) rfl)) rfl
theorem o_Md_allWear : am_okm (gG L xs) m_Md_allWear := ⟨by decide +kernel, w_1172, ⟨by decide +kernel, by decide +kernel⟩, by decide, ox_Md, fun idx z h => os_Md _ (am_lk h)⟩
theorem w_1173 : Cond.code y_Md_gates prog_14_method_53_code 3 (some .int) ∈ TB := tb (mt6 _ (List.mem_of_getElem? (i := 189) rfl)) rfl
theorem o_Md_gates : am_okm (gG L xs) m_Md_gates := ⟨by decide +kernel, w_1173, ⟨by decide +kernel, by decide +kernel⟩, by decide, ox_Md, fun idx z h => os_Md _ (am_lk h)⟩
theorem w_1174 : Cond.code y_Md_where prog_14_method_54_code 4 (some .int) ∈ TB := tb (mt6 _ (List.mem_of_getElem? (i := 193) rfl)) rfl
theorem o_Md_where : am_okm (gG L xs) m_Md_where := ⟨by decide +kernel, w_1174, ⟨by decide +kernel, by decide +kernel⟩, by decide, ox_Md, fun idx z h => os_Md _ (am_lk h)⟩
theorem w_1175 : Cond.code y_Md_bestSet prog_14_method_55_code 6 (some .int) ∈ TB := tb (mt6 _ (List.mem_of_getElem? (i := 197) rfl)) rfl
theorem o_Md_bestSet : am_okm (gG L xs) m_Md_bestSet := ⟨by decide +kernel, w_1175, ⟨by decide +kernel, by decide +kernel⟩, by decide, ox_Md, fun idx z h => os_Md _ (am_lk h)⟩
theorem w_1176 : Cond.code y_Md_atLast prog_14_method_56_code 3 (some .int) ∈ TB := tb (mt6 _ (List.mem_of_getElem? (i := 201) rfl)) rfl
theorem o_Md_atLast : am_okm (gG L xs) m_Md_atLast := ⟨by decide +kernel, w_1176, ⟨by decide +kernel, by decide +kernel⟩, by decide, ox_Md, fun idx z h => os_Md _ (am_lk h)⟩
theorem w_1177 : Cond.code y_Md_rule prog_14_method_57_code 4 (some .int) ∈ TB := tb (mt6 _ (List.mem_of_getElem? (i := 205) rfl)) rfl
theorem o_Md_rule : am_okm (gG L xs) m_Md_rule := ⟨by decide +kernel, w_1177, ⟨by decide +kernel, by decide +kernel⟩, by decide, ox_Md, fun idx z h => os_Md _ (am_lk h)⟩
theorem w_1178 : Cond.code y_Md_bytesIs prog_14_method_58_code 2 (some .int) ∈ TB := tb (mt6 _ (List.mem_of_getElem? (i := 213) rfl)) rfl
theorem o_Md_bytesIs : am_okm (gG L xs) m_Md_bytesIs := ⟨by decide +kernel, w_1178, ⟨by decide +kernel, by decide +kernel⟩, by decide, ox_Md, fun idx z h => os_Md _ (am_lk h)⟩
theorem w_1179 : Cond.code y_Md_firstFalse prog_14_method_59_code 4 (some .int) ∈ TB := tb (mt6 _ (List.mem_of_getElem? (i := 217) rfl)) rfl
theorem o_Md_firstFalse : am_okm (gG L xs) m_Md_firstFalse := ⟨by decide +kernel, w_1179, ⟨by decide +kernel, by decide +kernel⟩, by decide, ox_Md, fun idx z h => os_Md _ (am_lk h)⟩
theorem w_1180 : Cond.code y_Md_judge prog_14_method_60_code 2 (some .int) ∈ TB := tb (mt6 _ (List.mem_of_getElem? (i := 209) rfl)) rfl
theorem o_Md_judge : am_okm (gG L xs) m_Md_judge := ⟨by decide +kernel, w_1180, ⟨by decide +kernel, by decide +kernel⟩, by decide, ox_Md, fun idx z h => os_Md _ (am_lk h)⟩
theorem w_1181 : Cond.code y_Md_with prog_14_method_61_code 6 (some .int) ∈ TB := tb (mt6 _ (List.mem_of_getElem? (i := 221) rfl)) rfl
theorem o_Md_with : am_okm (gG L xs) m_Md_with := ⟨by decide +kernel, w_1181, ⟨by decide +kernel, by decide +kernel⟩, by decide, ox_Md, fun idx z h => os_Md _ (am_lk h)⟩
theorem w_1182 : Cond.code y_Md_wears prog_14_method_62_code 4 none ∈ TB := tb (mt6 _ (List.mem_of_getElem? (i := 229) rfl)) rfl
theorem o_Md_wears : am_okm (gG L xs) m_Md_wears := ⟨by decide +kernel, w_1182, ⟨by decide +kernel, by decide +kernel⟩, by decide, ox_Md, fun idx z h => os_Md _ (am_lk h)⟩
theorem w_1183 : Cond.code y_Md_heeled prog_14_method_63_code 4 (some .int) ∈ TB := tb (mt6 _ (List.mem_of_getElem? (i := 225) rfl)) rfl
theorem o_Md_heeled : am_okm (gG L xs) m_Md_heeled := ⟨by decide +kernel, w_1183, ⟨by decide +kernel, by decide +kernel⟩, by decide, ox_Md, fun idx z h => os_Md _ (am_lk h)⟩
theorem w_1184 : Cond.code y_Md_drawn prog_14_method_64_code 8 (some .int) ∈ TB := tb (mt6 _ (List.mem_of_getElem? (i := 233) rfl)) rfl
theorem o_Md_drawn : am_okm (gG L xs) m_Md_drawn := ⟨by decide +kernel, w_1184, ⟨by decide +kernel, by decide +kernel⟩, by decide, ox_Md, fun idx z h => os_Md _ (am_lk h)⟩
theorem w_1185 : Cond.code y_Md_waitMany prog_14_method_65_code 3 (some .int) ∈ TB := tb (mt7 _ (List.mem_of_getElem? (i := 106) rfl)) rfl
theorem o_Md_waitMany : am_okm (gG L xs) m_Md_waitMany := ⟨by decide +kernel, w_1185, ⟨by decide +kernel, by decide +kernel⟩, by decide, ox_Md, fun idx z h => os_Md _ (am_lk h)⟩
theorem w_1186 : Cond.code y_Md_insideMany prog_14_method_66_code 3 (some .int) ∈ TB := tb (mt7 _ (List.mem_of_getElem? (i := 10) rfl)) rfl
theorem o_Md_insideMany : am_okm (gG L xs) m_Md_insideMany := ⟨by decide +kernel, w_1186, ⟨by decide +kernel, by decide +kernel⟩, by decide, ox_Md, fun idx z h => os_Md _ (am_lk h)⟩
theorem w_1187 : Cond.code y_Md_strike prog_14_method_67_code 2 (some .int) ∈ TB := tb (mt6 _ (List.mem_of_getElem? (i := 238) rfl)) rfl
theorem o_Md_strike : am_okm (gG L xs) m_Md_strike := ⟨by decide +kernel, w_1187, ⟨by decide +kernel, by decide +kernel⟩, by decide, ox_Md, fun idx z h => os_Md _ (am_lk h)⟩
theorem w_1188 : Cond.code y_Md_take prog_14_method_68_code 2 (some .int) ∈ TB := tb (mt7 _ (List.mem_of_getElem? (i := 2) rfl)) rfl
theorem o_Md_take : am_okm (gG L xs) m_Md_take := ⟨by decide +kernel, w_1188, ⟨by decide +kernel, by decide +kernel⟩, by decide, ox_Md, fun idx z h => os_Md _ (am_lk h)⟩
theorem w_1189 : Cond.code y_Md_dawn prog_14_method_69_code 3 (some .int) ∈ TB := tb (mt7 _ (List.mem_of_getElem? (i := 6) rfl)) rfl
theorem o_Md_dawn : am_okm (gG L xs) m_Md_dawn := ⟨by decide +kernel, w_1189, ⟨by decide +kernel, by decide +kernel⟩, by decide, ox_Md, fun idx z h => os_Md _ (am_lk h)⟩
theorem w_1190 : Cond.code y_Md_led prog_14_method_70_code 2 (some .int) ∈ TB := tb (mt7 _ (List.mem_of_getElem? (i := 14) rfl)) rfl
theorem o_Md_led : am_okm (gG L xs) m_Md_led := ⟨by decide +kernel, w_1190, ⟨by decide +kernel, by decide +kernel⟩, by decide, ox_Md, fun idx z h => os_Md _ (am_lk h)⟩
theorem w_1191 : Cond.code y_Md_image prog_14_method_71_code 2 (some .int) ∈ TB := tb (mt7 _ (List.mem_of_getElem? (i := 18) rfl)) rfl
theorem o_Md_image : am_okm (gG L xs) m_Md_image := ⟨by decide +kernel, w_1191, ⟨by decide +kernel, by decide +kernel⟩, by decide, ox_Md, fun idx z h => os_Md _ (am_lk h)⟩
theorem w_1192 : Cond.code y_Md_back prog_14_method_72_code 2 (some .int) ∈ TB := tb (mt7 _ (List.mem_of_getElem? (i := 23) rfl)) rfl
theorem o_Md_back : am_okm (gG L xs) m_Md_back := ⟨by decide +kernel, w_1192, ⟨by decide +kernel, by decide +kernel⟩, by decide, ox_Md, fun idx z h => os_Md _ (am_lk h)⟩
theorem w_1193 : Cond.code y_Md_isBody prog_14_method_73_code 2 (some .boolean) ∈ TB := tb (mt7 _ (List.mem_of_getElem? (i := 36) rfl)) rfl
theorem o_Md_isBody : am_okm (gG L xs) m_Md_isBody := ⟨by decide +kernel, w_1193, ⟨by decide +kernel, by decide +kernel⟩, by decide, ox_Md, fun idx z h => os_Md _ (am_lk h)⟩
theorem w_1194 : Cond.code y_Md_kindOf prog_14_method_74_code 2 (some .int) ∈ TB := tb (mt7 _ (List.mem_of_getElem? (i := 95) rfl)) rfl
theorem o_Md_kindOf : am_okm (gG L xs) m_Md_kindOf := ⟨by decide +kernel, w_1194, ⟨by decide +kernel, by decide +kernel⟩, by decide, ox_Md, fun idx z h => os_Md _ (am_lk h)⟩
theorem w_1195 : Cond.code y_Md_body prog_14_method_75_code 2 (some .int) ∈ TB := tb (mt7 _ (List.mem_of_getElem? (i := 27) rfl)) rfl
theorem o_Md_body : am_okm (gG L xs) m_Md_body := ⟨by decide +kernel, w_1195, ⟨by decide +kernel, by decide +kernel⟩, by decide, ox_Md, fun idx z h => os_Md _ (am_lk h)⟩
theorem w_1196 : Cond.code y_Md_above prog_14_method_76_code 1 (some .int) ∈ TB := tb (mt7 _ (List.mem_of_getElem? (i := 98) rfl)) rfl
theorem o_Md_above : am_okm (gG L xs) m_Md_above := ⟨by decide +kernel, w_1196, ⟨by decide +kernel, by decide +kernel⟩, by decide, ox_Md, fun idx z h => os_Md _ (am_lk h)⟩
theorem w_1197 : Cond.code y_Md_begins prog_14_method_77_code 2 none ∈ TB := tb (mt7 _ (List.mem_of_getElem? (i := 44) rfl)) rfl
theorem o_Md_begins : am_okm (gG L xs) m_Md_begins := ⟨by decide +kernel, w_1197, ⟨by decide +kernel, by decide +kernel⟩, by decide, ox_Md, fun idx z h => os_Md _ (am_lk h)⟩
theorem w_1198 : Cond.code y_Md_waitsAs prog_14_method_78_code 3 (some .int) ∈ TB := tb (mt7 _ (List.mem_of_getElem? (i := 40) rfl)) rfl
theorem o_Md_waitsAs : am_okm (gG L xs) m_Md_waitsAs := ⟨by decide +kernel, w_1198, ⟨by decide +kernel, by decide +kernel⟩, by decide, ox_Md, fun idx z h => os_Md _ (am_lk h)⟩
theorem w_1199 : Cond.code y_Md_countsAs prog_14_method_79_code 4 (some .int) ∈ TB := tb (mt7 _ (List.mem_of_getElem? (i := 48) rfl)) rfl
theorem o_Md_countsAs : am_okm (gG L xs) m_Md_countsAs := ⟨by decide +kernel, w_1199, ⟨by decide +kernel, by decide +kernel⟩, by decide, ox_Md, fun idx z h => os_Md _ (am_lk h)⟩
theorem w_1200 : Cond.code y_Md_opensAs prog_14_method_80_code 4 (some .int) ∈ TB := tb (mt7 _ (List.mem_of_getElem? (i := 52) rfl)) rfl
theorem o_Md_opensAs : am_okm (gG L xs) m_Md_opensAs := ⟨by decide +kernel, w_1200, ⟨by decide +kernel, by decide +kernel⟩, by decide, ox_Md, fun idx z h => os_Md _ (am_lk h)⟩
theorem w_1201 : Cond.code y_Md_tellsAs prog_14_method_81_code 4 (some .int) ∈ TB := tb (mt7 _ (List.mem_of_getElem? (i := 56) rfl)) rfl
theorem o_Md_tellsAs : am_okm (gG L xs) m_Md_tellsAs := ⟨by decide +kernel, w_1201, ⟨by decide +kernel, by decide +kernel⟩, by decide, ox_Md, fun idx z h => os_Md _ (am_lk h)⟩
theorem w_1202 : Cond.code y_Md_act prog_14_method_82_code 4 (some .int) ∈ TB := tb (mt7 _ (List.mem_of_getElem? (i := 32) rfl)) rfl
theorem o_Md_act : am_okm (gG L xs) m_Md_act := ⟨by decide +kernel, w_1202, ⟨by decide +kernel, by decide +kernel⟩, by decide, ox_Md, fun idx z h => os_Md _ (am_lk h)⟩
theorem w_1203 : Cond.code y_Md_trace prog_14_method_83_code 2 (some .int) ∈ TB := tb (mt7 _ (List.mem_of_getElem? (i := 60) rfl)) rfl
theorem o_Md_trace : am_okm (gG L xs) m_Md_trace := ⟨by decide +kernel, w_1203, ⟨by decide +kernel, by decide +kernel⟩, by decide, ox_Md, fun idx z h => os_Md _ (am_lk h)⟩
theorem w_1204 : Cond.code y_Md_isShelf prog_14_method_84_code 1 (some .boolean) ∈ TB := tb (mt6 _ (List.mem_of_getElem? (i := 6) rfl)) rfl
theorem o_Md_isShelf : am_okm (gG L xs) m_Md_isShelf := ⟨by decide +kernel, w_1204, ⟨by decide +kernel, by decide +kernel⟩, by decide, ox_Md, fun idx z h => os_Md _ (am_lk h)⟩
theorem w_1205 : Cond.code y_Md_keep prog_14_method_85_code 3 (some .int) ∈ TB := tb (mt7 _ (List.mem_of_getElem? (i := 64) rfl)) rfl
theorem o_Md_keep : am_okm (gG L xs) m_Md_keep := ⟨by decide +kernel, w_1205, ⟨by decide +kernel, by decide +kernel⟩, by decide, ox_Md, fun idx z h => os_Md _ (am_lk h)⟩
theorem w_1206 : Cond.code y_Md_row prog_14_method_86_code 5 (some .int) ∈ TB := tb (mt7 _ (List.mem_of_getElem? (i := 68) rfl)) rfl
theorem o_Md_row : am_okm (gG L xs) m_Md_row := ⟨by decide +kernel, w_1206, ⟨by decide +kernel, by decide +kernel⟩, by decide, ox_Md, fun idx z h => os_Md _ (am_lk h)⟩
theorem w_1207 : Cond.code y_Md_refusal prog_14_method_87_code 3 (some .int) ∈ TB := tb (mt7 _ (List.mem_of_getElem? (i := 76) rfl)) rfl
theorem o_Md_refusal : am_okm (gG L xs) m_Md_refusal := ⟨by decide +kernel, w_1207, ⟨by decide +kernel, by decide +kernel⟩, by decide, ox_Md, fun idx z h => os_Md _ (am_lk h)⟩
theorem w_1208 : Cond.code y_Md_asSort prog_14_method_88_code 3 (some .long) ∈ TB := tb (mt7 _ (List.mem_of_getElem? (i := 79) rfl)) rfl
theorem o_Md_asSort : am_okm (gG L xs) m_Md_asSort := ⟨by decide +kernel, w_1208, ⟨by decide +kernel, by decide +kernel⟩, by decide, ox_Md, fun idx z h => os_Md _ (am_lk h)⟩
theorem w_1209 : Cond.code y_Md_put prog_14_method_89_code 6 (some .int) ∈ TB := tb (mt7 _ (List.mem_of_getElem? (i := 72) rfl)) rfl
theorem o_Md_put : am_okm (gG L xs) m_Md_put := ⟨by decide +kernel, w_1209, ⟨by decide +kernel, by decide +kernel⟩, by decide, ox_Md, fun idx z h => os_Md _ (am_lk h)⟩
theorem w_1210 : Cond.code y_Md_element prog_14_method_90_code 3 (some .long) ∈ TB := tb (mt7 _ (List.mem_of_getElem? (i := 83) rfl)) rfl
theorem o_Md_element : am_okm (gG L xs) m_Md_element := ⟨by decide +kernel, w_1210, ⟨by decide +kernel, by decide +kernel⟩, by decide, ox_Md, fun idx z h => os_Md _ (am_lk h)⟩
theorem w_1211 : Cond.code y_Md_shift prog_14_method_91_code 7 (some .int) ∈ TB := tb (mt7 _ (List.mem_of_getElem? (i := 87) rfl)) rfl
theorem o_Md_shift : am_okm (gG L xs) m_Md_shift := ⟨by decide +kernel, w_1211, ⟨by decide +kernel, by decide +kernel⟩, by decide, ox_Md, fun idx z h => os_Md _ (am_lk h)⟩
theorem w_1212 : Cond.code y_Md_taken prog_14_method_92_code 4 (some .int) ∈ TB := tb (mt7 _ (List.mem_of_getElem? (i := 91) rfl)) rfl
theorem o_Md_taken : am_okm (gG L xs) m_Md_taken := ⟨by decide +kernel, w_1212, ⟨by decide +kernel, by decide +kernel⟩, by decide, ox_Md, fun idx z h => os_Md _ (am_lk h)⟩
theorem w_1213 : Cond.code y_Md_count prog_14_method_93_code 2 (some .int) ∈ TB := tb (mt7 _ (List.mem_of_getElem? (i := 102) rfl)) rfl
theorem o_Md_count : am_okm (gG L xs) m_Md_count := ⟨by decide +kernel, w_1213, ⟨by decide +kernel, by decide +kernel⟩, by decide, ox_Md, fun idx z h => os_Md _ (am_lk h)⟩
theorem w_1214 : Cond.code y_J_bitCount prog_15_method_49_code 1 (some .int) ∈ TB := tb (mt3 _ (List.mem_of_getElem? (i := 54) rfl)) rfl
theorem o_J_bitCount : am_okm (gG L xs) m_J_bitCount := ⟨by decide +kernel, w_1214, ⟨by decide +kernel, by decide +kernel⟩, by decide, ox_JI, fun idx z h => os_JI _ (am_lk h)⟩
theorem w_1215 : Cond.code y_J_rangeCheck prog_18_method_30_code 3 none ∈ TB := tb (mt4 _ (List.mem_of_getElem? (i := 231) rfl)) rfl
theorem o_J_rangeCheck : am_okm (gG L xs) m_J_rangeCheck := ⟨by decide +kernel, w_1215, ⟨by decide +kernel, by decide +kernel⟩, by decide, ox_JA, fun idx z h => os_JA _ (am_lk h)⟩
theorem w_1216 : Cond.code y_J_fillL prog_18_method_102_code 6 none ∈ TB := tb (mt4 _ (List.mem_of_getElem? (i := 228) rfl)) rfl
theorem o_J_fillL : am_okm (gG L xs) m_J_fillL := ⟨by decide +kernel, w_1216, ⟨by decide +kernel, by decide +kernel⟩, by decide, ox_JA, fun idx z h => os_JA _ (am_lk h)⟩
theorem w_1217 : Cond.code y_J_fillI prog_18_method_103_code 4 none ∈ TB := tb (mt1 _ (List.mem_of_getElem? (i := 160) rfl)) rfl
theorem o_J_fillI : am_okm (gG L xs) m_J_fillI := ⟨by decide +kernel, w_1217, ⟨by decide +kernel, by decide +kernel⟩, by decide, ox_JA, fun idx z h => os_JA _ (am_lk h)⟩
end OKX
