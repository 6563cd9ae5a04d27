def y_Changes_init : MethodName := ⟨"MiddleOne$Changes", "<init>", "(LMiddleOne$Crowd;)V"⟩
def y_Day_init : MethodName := ⟨"MiddleOne$Day", "<init>", "(LMiddleOne$Picker;)V"⟩
def y_Deed_init : MethodName := ⟨"MiddleOne$Deed", "<init>", "(LMiddleOne$Crowd;LMiddleOne$Picker;)V"⟩
def y_Picker_init : MethodName := ⟨"MiddleOne$Picker", "<init>", "(LMiddleOne$Law;)V"⟩
def y_Seen_init : MethodName := ⟨"MiddleOne$Seen", "<init>", "(LMiddleOne$Crowd;LMiddleOne$Day;LMiddleOne$Shelves;)V"⟩
def y_Shelves_init : MethodName := ⟨"MiddleOne$Shelves", "<init>", "()V"⟩
def y_Wishes_init : MethodName := ⟨"MiddleOne$Wishes", "<init>", "(LMiddleOne$Crowd;LMiddleOne$Day;LMiddleOne$Picker;)V"⟩
def y_Mo_init : MethodName := ⟨"MiddleOne", "<init>", "()V"⟩
def y_Md_init : MethodName := ⟨"MiddleOneModel", "<init>", "()V"⟩
theorem iw_0 : Cond.methodLink "MiddleOne$Crowd" 5 objectInit ∈ TB := tb (mt1 _ (List.mem_of_getElem? (i := 31) rfl)) rfl
theorem iw_1 : Cond.instanceMethod objectInit ∈ TB := tb (mt1 _ (List.mem_of_getElem? (i := 24) rfl)) rfl
theorem iw_2 : Cond.code objectInit ⟨#[0xb1]⟩ 1 none ∈ TB := tb (mt1 _ (List.mem_of_getElem? (i := 25) rfl)) rfl
theorem iw_3 : Cond.fieldLink "MiddleOne$Crowd" 11 "MiddleOne$Crowd" "numbers" "[I" ∈ TB := tb (mt1 _ (List.mem_of_getElem? (i := 32) rfl)) rfl
theorem iw_4 : Cond.fieldLink "MiddleOne$Crowd" 15 "MiddleOne$Crowd" "count" "I" ∈ TB := tb (mt1 _ (List.mem_of_getElem? (i := 33) rfl)) rfl
theorem iw_5 : Cond.fieldLink "MiddleOne$Crowd" 19 "MiddleOne$Crowd" "there" "[I" ∈ TB := tb (mt1 _ (List.mem_of_getElem? (i := 34) rfl)) rfl
theorem iw_6 : Cond.fieldLink "MiddleOne$Crowd" 22 "MiddleOne$Crowd" "thereIsStale" "Z" ∈ TB := tb (mt1 _ (List.mem_of_getElem? (i := 35) rfl)) rfl
theorem iw_7 : Cond.methodLink "MiddleOne$Law" 1 objectInit ∈ TB := tb (mt1 _ (List.mem_of_getElem? (i := 51) rfl)) rfl
theorem iw_8 : Cond.fieldLink "MiddleOne$Law" 9 "MiddleOne$Law" "steps" "[I" ∈ TB := tb (mt1 _ (List.mem_of_getElem? (i := 52) rfl)) rfl
theorem iw_9 : Cond.fieldLink "MiddleOne$Law" 15 "MiddleOne$Law" "details" "[I" ∈ TB := tb (mt1 _ (List.mem_of_getElem? (i := 53) rfl)) rfl
theorem iw_10 : Cond.fieldLink "MiddleOne$Law" 18 "MiddleOne$Law" "size" "I" ∈ TB := tb (mt1 _ (List.mem_of_getElem? (i := 54) rfl)) rfl
theorem iw_11 : Cond.fieldLink "MiddleOne$Law" 22 "MiddleOne$Law" "stack" "[I" ∈ TB := tb (mt1 _ (List.mem_of_getElem? (i := 55) rfl)) rfl
theorem iw_12 : Cond.methodLink "MiddleOne$Reader" 3 objectInit ∈ TB := tb (mt1 _ (List.mem_of_getElem? (i := 70) rfl)) rfl
theorem iw_13 : Cond.fieldLink "MiddleOne$Reader" 9 "MiddleOne$Reader" "tape" "[I" ∈ TB := tb (mt1 _ (List.mem_of_getElem? (i := 71) rfl)) rfl
theorem iw_14 : Cond.fieldLink "MiddleOne$Reader" 13 "MiddleOne$Reader" "length" "I" ∈ TB := tb (mt1 _ (List.mem_of_getElem? (i := 72) rfl)) rfl
theorem iw_15 : Cond.fieldLink "MiddleOne$Reader" 17 "MiddleOne$Reader" "place" "I" ∈ TB := tb (mt1 _ (List.mem_of_getElem? (i := 73) rfl)) rfl
theorem iw_16 : Cond.fieldLink "MiddleOne$Reader" 20 "MiddleOne$Reader" "steps" "[I" ∈ TB := tb (mt1 _ (List.mem_of_getElem? (i := 74) rfl)) rfl
theorem iw_17 : Cond.fieldLink "MiddleOne$Reader" 23 "MiddleOne$Reader" "details" "[I" ∈ TB := tb (mt1 _ (List.mem_of_getElem? (i := 75) rfl)) rfl
theorem iw_18 : Cond.fieldLink "MiddleOne$Reader" 26 "MiddleOne$Reader" "made" "I" ∈ TB := tb (mt1 _ (List.mem_of_getElem? (i := 76) rfl)) rfl
theorem iw_19 : Cond.methodLink "MiddleOne$Picker" 3 objectInit ∈ TB := tb (mt1 _ (List.mem_of_getElem? (i := 95) rfl)) rfl
theorem iw_20 : Cond.fieldLink "MiddleOne$Picker" 11 "MiddleOne$Picker" "order" "[I" ∈ TB := tb (mt1 _ (List.mem_of_getElem? (i := 97) rfl)) rfl
theorem iw_21 : Cond.fieldLink "MiddleOne$Picker" 17 "MiddleOne$Picker" "tallness" "[I" ∈ TB := tb (mt1 _ (List.mem_of_getElem? (i := 98) rfl)) rfl
theorem iw_22 : Cond.fieldLink "MiddleOne$Picker" 20 "MiddleOne$Picker" "law" "LMiddleOne$Law;" ∈ TB := tb (mt1 _ (List.mem_of_getElem? (i := 96) rfl)) rfl
theorem iw_23 : Cond.methodLink "MiddleOne$Day" 3 objectInit ∈ TB := tb (mt1 _ (List.mem_of_getElem? (i := 111) rfl)) rfl
theorem iw_24 : Cond.classLink "MiddleOne$Day" 9 "MiddleOne$Crowd" ∈ TB := tb (mt1 _ (List.mem_of_getElem? (i := 112) rfl)) rfl
theorem iw_25 : Cond.instantiable "MiddleOne$Crowd" 4 ∈ TB := tb (mt1 _ (List.mem_of_getElem? (i := 27) rfl)) rfl
theorem iw_26 : Cond.initialized "MiddleOne$Crowd" ∈ TB := tb (mt1 _ (List.mem_of_getElem? (i := 2) rfl)) rfl
theorem iw_27 : Cond.code y_Crowd_init prog_4_method_1_code 1 none ∈ TB := tb (mt1 _ (List.mem_of_getElem? (i := 30) rfl)) rfl
theorem iw_28 : Cond.instanceMethod y_Crowd_init ∈ TB := tb (mt1 _ (List.mem_of_getElem? (i := 29) rfl)) rfl
theorem iw_29 : Cond.fieldLink "MiddleOne$Day" 12 "MiddleOne$Day" "crowd" "LMiddleOne$Crowd;" ∈ TB := tb (mt1 _ (List.mem_of_getElem? (i := 115) rfl)) rfl
theorem iw_30 : Cond.fieldLink "MiddleOne$Day" 18 "MiddleOne$Day" "inAt" "[I" ∈ TB := tb (mt1 _ (List.mem_of_getElem? (i := 116) rfl)) rfl
theorem iw_31 : Cond.fieldLink "MiddleOne$Day" 22 "MiddleOne$Day" "outside" "I" ∈ TB := tb (mt1 _ (List.mem_of_getElem? (i := 117) rfl)) rfl
theorem iw_32 : Cond.fieldLink "MiddleOne$Day" 26 "MiddleOne$Day" "inside" "I" ∈ TB := tb (mt1 _ (List.mem_of_getElem? (i := 118) rfl)) rfl
theorem iw_33 : Cond.fieldLink "MiddleOne$Day" 29 "MiddleOne$Day" "waited" "I" ∈ TB := tb (mt1 _ (List.mem_of_getElem? (i := 119) rfl)) rfl
theorem iw_34 : Cond.fieldLink "MiddleOne$Day" 32 "MiddleOne$Day" "longest" "I" ∈ TB := tb (mt1 _ (List.mem_of_getElem? (i := 120) rfl)) rfl
theorem iw_35 : Cond.fieldLink "MiddleOne$Day" 35 "MiddleOne$Day" "picker" "LMiddleOne$Picker;" ∈ TB := tb (mt1 _ (List.mem_of_getElem? (i := 114) rfl)) rfl
theorem iw_36 : Cond.methodLink "MiddleOne$Wishes" 3 objectInit ∈ TB := tb (mt1 _ (List.mem_of_getElem? (i := 141) rfl)) rfl
theorem iw_37 : Cond.fieldLink "MiddleOne$Wishes" 9 "MiddleOne$Wishes" "told" "LMiddleOne$Crowd;" ∈ TB := tb (mt1 _ (List.mem_of_getElem? (i := 142) rfl)) rfl
theorem iw_38 : Cond.fieldLink "MiddleOne$Wishes" 15 "MiddleOne$Wishes" "day" "LMiddleOne$Day;" ∈ TB := tb (mt1 _ (List.mem_of_getElem? (i := 143) rfl)) rfl
theorem iw_39 : Cond.fieldLink "MiddleOne$Wishes" 19 "MiddleOne$Wishes" "picker" "LMiddleOne$Picker;" ∈ TB := tb (mt1 _ (List.mem_of_getElem? (i := 144) rfl)) rfl
theorem iw_40 : Cond.methodLink "MiddleOne$Seen" 3 objectInit ∈ TB := tb (mt1 _ (List.mem_of_getElem? (i := 180) rfl)) rfl
theorem iw_41 : Cond.fieldLink "MiddleOne$Seen" 9 "MiddleOne$Seen" "told" "LMiddleOne$Crowd;" ∈ TB := tb (mt1 _ (List.mem_of_getElem? (i := 181) rfl)) rfl
theorem iw_42 : Cond.fieldLink "MiddleOne$Seen" 15 "MiddleOne$Seen" "day" "LMiddleOne$Day;" ∈ TB := tb (mt1 _ (List.mem_of_getElem? (i := 182) rfl)) rfl
theorem iw_43 : Cond.fieldLink "MiddleOne$Seen" 19 "MiddleOne$Seen" "shelves" "LMiddleOne$Shelves;" ∈ TB := tb (mt1 _ (List.mem_of_getElem? (i := 183) rfl)) rfl
theorem iw_44 : Cond.methodLink "MiddleOne$Changes" 1 objectInit ∈ TB := tb (mt1 _ (List.mem_of_getElem? (i := 225) rfl)) rfl
theorem iw_45 : Cond.fieldLink "MiddleOne$Changes" 9 "MiddleOne$Changes" "person" "[I" ∈ TB := tb (mt1 _ (List.mem_of_getElem? (i := 227) rfl)) rfl
theorem iw_46 : Cond.fieldLink "MiddleOne$Changes" 13 "MiddleOne$Changes" "what" "[I" ∈ TB := tb (mt1 _ (List.mem_of_getElem? (i := 228) rfl)) rfl
theorem iw_47 : Cond.fieldLink "MiddleOne$Changes" 16 "MiddleOne$Changes" "before" "[I" ∈ TB := tb (mt1 _ (List.mem_of_getElem? (i := 229) rfl)) rfl
theorem iw_48 : Cond.fieldLink "MiddleOne$Changes" 19 "MiddleOne$Changes" "after" "[I" ∈ TB := tb (mt1 _ (List.mem_of_getElem? (i := 230) rfl)) rfl
theorem iw_49 : Cond.fieldLink "MiddleOne$Changes" 22 "MiddleOne$Changes" "done" "I" ∈ TB := tb (mt1 _ (List.mem_of_getElem? (i := 231) rfl)) rfl
theorem iw_50 : Cond.fieldLink "MiddleOne$Changes" 26 "MiddleOne$Changes" "kept" "I" ∈ TB := tb (mt1 _ (List.mem_of_getElem? (i := 232) rfl)) rfl
theorem iw_51 : Cond.fieldLink "MiddleOne$Changes" 29 "MiddleOne$Changes" "told" "LMiddleOne$Crowd;" ∈ TB := tb (mt1 _ (List.mem_of_getElem? (i := 226) rfl)) rfl
theorem iw_52 : Cond.methodLink "MiddleOne$Acts" 3 objectInit ∈ TB := tb (mt2 _ (List.mem_of_getElem? (i := 13) rfl)) rfl
theorem iw_53 : Cond.fieldLink "MiddleOne$Acts" 11 "MiddleOne$Acts" "kinds" "[I" ∈ TB := tb (mt2 _ (List.mem_of_getElem? (i := 14) rfl)) rfl
theorem iw_54 : Cond.fieldLink "MiddleOne$Acts" 15 "MiddleOne$Acts" "count" "I" ∈ TB := tb (mt2 _ (List.mem_of_getElem? (i := 15) rfl)) rfl
theorem iw_55 : Cond.fieldLink "MiddleOne$Acts" 19 "MiddleOne$Acts" "trace" "[I" ∈ TB := tb (mt2 _ (List.mem_of_getElem? (i := 16) rfl)) rfl
theorem iw_56 : Cond.fieldLink "MiddleOne$Acts" 22 "MiddleOne$Acts" "ran" "I" ∈ TB := tb (mt2 _ (List.mem_of_getElem? (i := 17) rfl)) rfl
theorem iw_57 : Cond.fieldLink "MiddleOne$Acts" 25 "MiddleOne$Acts" "own" "I" ∈ TB := tb (mt2 _ (List.mem_of_getElem? (i := 18) rfl)) rfl
theorem iw_58 : Cond.fieldLink "MiddleOne$Acts" 28 "MiddleOne$Acts" "number" "I" ∈ TB := tb (mt2 _ (List.mem_of_getElem? (i := 19) rfl)) rfl
set_option maxHeartbeats 4000000 in
set_option maxRecDepth 100000 in
theorem c_Crowd_init (l : Launch) (D : va_G) (cI cL : ClassId) (h0 sz : Nat) : Met l y_Crowd_init (.code y_Crowd_init prog_4_method_1_code 1 none :: TB) ({ frames := 1, cells := 2, slots := 175, locals := 12 }) (va_Pc [.ref h0] (fun U => U.heap.size = sz ∧ va_P D cls [(h0, .inr (2, [.null, .int 0, .null, .int 0]))] U.heap ∧ va_K D cls (am_tys cI cL) U ∧ va_D (fun _ => True) [(h0, .inr (2, [.null, .int 0, .null, .int 0]))] ∧ nst U)) (va_Qv (fun _ : Unit => True) (fun _ t => ∃ q1 q2, va_P D cls [(h0, .inr (2, [.ref q1, .int 0, .ref q2, .int 1])), (q1, .inl (cI, 75, .inl (fun _ => 0))), (q2, .inl (cI, 100, .inl (fun _ => 0)))] t.heap ∧ va_D (va_A [(h0, .inr (2, [.null, .int 0, .null, .int 0]))] sz) [(h0, .inr (2, [.ref q1, .int 0, .ref q2, .int 1])), (q1, .inl (cI, 75, .inl (fun _ => 0))), (q2, .inl (cI, 100, .inl (fun _ => 0)))]) (va_A [(h0, .inr (2, [.null, .int 0, .null, .int 0]))] sz)) 2 175 (va_A [(h0, .inr (2, [.null, .int 0, .null, .int 0]))] sz) := by
  refine Met.ofW (cc := prog_4_method_1_code) (maxL := 1) (ret := none) (by decide +kernel) rfl ?_
  intro p e s m args below meth c s₁ B hml hv
  obtain ⟨rfl, hsz, hP, hK, hD0, hN⟩ := hv
  have hx := B.exec
  have hb := B.bytes
  have hr := B.returns
  have hts0 := atoms_spec (ws := .code y_Crowd_init prog_4_method_1_code 1 none :: TB) B.pre
  have hts : ∀ w ∈ TB, w.before ([.ref h0] : List Value).toArray s = true := fun w hw => hts0 w (List.mem_cons_of_mem _ hw)
  have hown : s.vm.findClass "MiddleOne$Crowd" = some m.cls := findClass_of_methodNamed B.named
  have hlocks := B.notSynchronized
  have hin : meth.name = "<init>" := (name_of_methodNamed B.named B.method).1
  subst hsz
  have hD := hD0.self (sz := s.heap.size)
  generalize hAe : va_A [(h0, .inr (2, [.null, .int 0, .null, .int 0]))] s.heap.size = A at hD ⊢
  have hA : ∀ q : Nat, s.heap.size ≤ q → A q := fun q h => by rw [← hAe]; exact Or.inr h
  have hS : va_S A s.heap s.heap [] := va_S.rf
  have hP : va_P D cls [(h0, .inr (2, [.null, .int 0, .null, .int 0]))] s.heap := hP
  have hl := lv_entry ([.ref h0]) (n := 1) (Nat.le_of_ble_eq_true rfl)
  rw [lg_entry_eq]
  generalize (lg_sl ([.ref h0]) ++ List.replicate (1 - (lg_sl ([.ref h0])).length) Slot.unset).toArray = ls at hl ⊢
  have hl : lv_has ls 1 [(0, .ref h0)] := hl
  refine lv_aload_n hx hb d_Crowd_init_0 rfl (lv_at hl 0 rfl) ?_
  refine W.objInit hx hb hown (hts _ iw_0) (hts _ iw_1) (hts _ iw_2) rfl (by rw [hml]; exact hl.1) rfl d_Crowd_init_1 (Nat.le_of_ble_eq_true rfl) (Nat.le_of_ble_eq_true rfl) ?_
  refine W.eq (g2 := F0 m 4 ls []) rfl ?_
  refine lv_aload_n hx hb d_Crowd_init_4 rfl (lv_at hl 0 rfl) ?_
  refine lv_bipush (v := 75) hx hb d_Crowd_init_5 (by decide) ?_
  refine ck_newI hx hb hts hK hP hD hS hA (N := 75) (by decide) (by decide) (by decide) (Nat.le_of_ble_eq_true rfl) (Nat.le_of_ble_eq_true rfl) d_Crowd_init_7 (fun q1 H hP hD hS => ?_)
  have hP : va_P D cls [(h0, .inr (2, [.null, .int 0, .null, .int 0])), (q1, .inl (cI, 75, .inl (fun _ => 0)))] H := hP
  have hD : va_D A [(h0, .inr (2, [.null, .int 0, .null, .int 0])), (q1, .inl (cI, 75, .inl (fun _ => 0)))] := hD
  refine va_putF (ci := 2) (v := .ref q1) (ty := .array .int) (C := "MiddleOne$Crowd") (T := F_Crowd) (N := 4) hx hb hts j_Crowd t_Crowd t_Crowd_ok n_Crowd hown hK hP hD hS 0 rfl rfl 0 (by decide) (hts _ iw_3) (fun _ h9 => h9) rfl hin rfl (by decide +kernel) rfl rfl (Nat.le_of_ble_eq_true rfl) d_Crowd_init_9 (fun H locs hP hD hS => ?_)
  have hP : va_P D cls [(h0, .inr (2, [.ref q1, .int 0, .null, .int 0])), (q1, .inl (cI, 75, .inl (fun _ => 0)))] H := hP
  have hD : va_D A [(h0, .inr (2, [.ref q1, .int 0, .null, .int 0])), (q1, .inl (cI, 75, .inl (fun _ => 0)))] := hD
  refine lv_aload_n hx hb d_Crowd_init_12 rfl (lv_at hl 0 rfl) ?_
  refine lv_iconst (v := 0) hx hb d_Crowd_init_13 (by decide) ?_
  refine va_put (ci := 2) (v := .int 0) (ty := .int) (C := "MiddleOne$Crowd") (T := F_Crowd) (N := 4) hx hb hts j_Crowd t_Crowd t_Crowd_ok n_Crowd hown hK hP hD hS 0 rfl rfl 1 (by decide) (hts _ iw_4) (fun _ h9 => h9) rfl (by decide +kernel) rfl rfl (Nat.le_of_ble_eq_true rfl) d_Crowd_init_14 (fun H locs hP hD hS => ?_)
  have hP : va_P D cls [(h0, .inr (2, [.ref q1, .int 0, .null, .int 0])), (q1, .inl (cI, 75, .inl (fun _ => 0)))] H := hP
  have hD : va_D A [(h0, .inr (2, [.ref q1, .int 0, .null, .int 0])), (q1, .inl (cI, 75, .inl (fun _ => 0)))] := hD
  refine lv_aload_n hx hb d_Crowd_init_17 rfl (lv_at hl 0 rfl) ?_
  refine lv_bipush (v := 100) hx hb d_Crowd_init_18 (by decide) ?_
  refine ck_newI hx hb hts hK hP hD hS hA (N := 100) (by decide) (by decide) (by decide) (Nat.le_of_ble_eq_true rfl) (Nat.le_of_ble_eq_true rfl) d_Crowd_init_20 (fun q2 H hP hD hS => ?_)
  have hP : va_P D cls [(h0, .inr (2, [.ref q1, .int 0, .null, .int 0])), (q1, .inl (cI, 75, .inl (fun _ => 0))), (q2, .inl (cI, 100, .inl (fun _ => 0)))] H := hP
  have hD : va_D A [(h0, .inr (2, [.ref q1, .int 0, .null, .int 0])), (q1, .inl (cI, 75, .inl (fun _ => 0))), (q2, .inl (cI, 100, .inl (fun _ => 0)))] := hD
  refine va_putF (ci := 2) (v := .ref q2) (ty := .array .int) (C := "MiddleOne$Crowd") (T := F_Crowd) (N := 4) hx hb hts j_Crowd t_Crowd t_Crowd_ok n_Crowd hown hK hP hD hS 0 rfl rfl 2 (by decide) (hts _ iw_5) (fun _ h9 => h9) rfl hin rfl (by decide +kernel) rfl rfl (Nat.le_of_ble_eq_true rfl) d_Crowd_init_22 (fun H locs hP hD hS => ?_)
  have hP : va_P D cls [(h0, .inr (2, [.ref q1, .int 0, .ref q2, .int 0])), (q1, .inl (cI, 75, .inl (fun _ => 0))), (q2, .inl (cI, 100, .inl (fun _ => 0)))] H := hP
  have hD : va_D A [(h0, .inr (2, [.ref q1, .int 0, .ref q2, .int 0])), (q1, .inl (cI, 75, .inl (fun _ => 0))), (q2, .inl (cI, 100, .inl (fun _ => 0)))] := hD
  refine lv_aload_n hx hb d_Crowd_init_25 rfl (lv_at hl 0 rfl) ?_
  refine lv_iconst (v := 1) hx hb d_Crowd_init_26 (by decide) ?_
  refine va_put (ci := 2) (v := .int 1) (ty := .boolean) (C := "MiddleOne$Crowd") (T := F_Crowd) (N := 4) hx hb hts j_Crowd t_Crowd t_Crowd_ok n_Crowd hown hK hP hD hS 0 rfl rfl 3 (by decide) (hts _ iw_6) (fun _ h9 => h9) rfl (by decide +kernel) rfl rfl (Nat.le_of_ble_eq_true rfl) d_Crowd_init_27 (fun H locs hP hD hS => ?_)
  have hP : va_P D cls [(h0, .inr (2, [.ref q1, .int 0, .ref q2, .int 1])), (q1, .inl (cI, 75, .inl (fun _ => 0))), (q2, .inl (cI, 100, .inl (fun _ => 0)))] H := hP
  have hD : va_D A [(h0, .inr (2, [.ref q1, .int 0, .ref q2, .int 1])), (q1, .inl (cI, 75, .inl (fun _ => 0))), (q2, .inl (cI, 100, .inl (fun _ => 0)))] := hD
  refine W.widen (k := 2) (n := 175) (Nat.le_of_ble_eq_true rfl) (Nat.le_of_ble_eq_true rfl) ?_
  exact W.vret hx hb hr (fun t ht hW => ⟨⟨(), rfl, trivial, q1, q2, by rw [ht]; exact hP, hD⟩, hS.F ht⟩) hS.2.2 d_Crowd_init_30
set_option maxHeartbeats 4000000 in
set_option maxRecDepth 100000 in
theorem c_Law_init (l : Launch) (D : va_G) (cI cL : ClassId) (h0 sz : Nat) : Met l y_Law_init (.code y_Law_init prog_7_method_1_code 1 none :: TB) ({ frames := 1, cells := 3, slots := 303, locals := 12 }) (va_Pc [.ref h0] (fun U => U.heap.size = sz ∧ va_P D cls [(h0, .inr (5, [.null, .null, .int 0, .null]))] U.heap ∧ va_K D cls (am_tys cI cL) U ∧ va_D (fun _ => True) [(h0, .inr (5, [.null, .null, .int 0, .null]))] ∧ nst U)) (va_Qv (fun _ : Unit => True) (fun _ t => ∃ q1 q2 q3, va_P D cls [(h0, .inr (5, [.ref q1, .ref q2, .int 0, .ref q3])), (q1, .inl (cI, 121, .inl (fun _ => 0))), (q2, .inl (cI, 121, .inl (fun _ => 0))), (q3, .inl (cI, 61, .inl (fun _ => 0)))] t.heap ∧ va_D (va_A [(h0, .inr (5, [.null, .null, .int 0, .null]))] sz) [(h0, .inr (5, [.ref q1, .ref q2, .int 0, .ref q3])), (q1, .inl (cI, 121, .inl (fun _ => 0))), (q2, .inl (cI, 121, .inl (fun _ => 0))), (q3, .inl (cI, 61, .inl (fun _ => 0)))]) (va_A [(h0, .inr (5, [.null, .null, .int 0, .null]))] sz)) 3 303 (va_A [(h0, .inr (5, [.null, .null, .int 0, .null]))] sz) := by
  refine Met.ofW (cc := prog_7_method_1_code) (maxL := 1) (ret := none) (by decide +kernel) rfl ?_
  intro p e s m args below meth c s₁ B hml hv
  obtain ⟨rfl, hsz, hP, hK, hD0, hN⟩ := hv
  have hx := B.exec
  have hb := B.bytes
  have hr := B.returns
  have hts0 := atoms_spec (ws := .code y_Law_init prog_7_method_1_code 1 none :: TB) B.pre
  have hts : ∀ w ∈ TB, w.before ([.ref h0] : List Value).toArray s = true := fun w hw => hts0 w (List.mem_cons_of_mem _ hw)
  have hown : s.vm.findClass "MiddleOne$Law" = some m.cls := findClass_of_methodNamed B.named
  have hlocks := B.notSynchronized
  have hin : meth.name = "<init>" := (name_of_methodNamed B.named B.method).1
  subst hsz
  have hD := hD0.self (sz := s.heap.size)
  generalize hAe : va_A [(h0, .inr (5, [.null, .null, .int 0, .null]))] s.heap.size = A at hD ⊢
  have hA : ∀ q : Nat, s.heap.size ≤ q → A q := fun q h => by rw [← hAe]; exact Or.inr h
  have hS : va_S A s.heap s.heap [] := va_S.rf
  have hP : va_P D cls [(h0, .inr (5, [.null, .null, .int 0, .null]))] s.heap := hP
  have hl := lv_entry ([.ref h0]) (n := 1) (Nat.le_of_ble_eq_true rfl)
  rw [lg_entry_eq]
  generalize (lg_sl ([.ref h0]) ++ List.replicate (1 - (lg_sl ([.ref h0])).length) Slot.unset).toArray = ls at hl ⊢
  have hl : lv_has ls 1 [(0, .ref h0)] := hl
  refine lv_aload_n hx hb d_Law_init_0 rfl (lv_at hl 0 rfl) ?_
  refine W.objInit hx hb hown (hts _ iw_7) (hts _ iw_1) (hts _ iw_2) rfl (by rw [hml]; exact hl.1) rfl d_Law_init_1 (Nat.le_of_ble_eq_true rfl) (Nat.le_of_ble_eq_true rfl) ?_
  refine W.eq (g2 := F0 m 4 ls []) rfl ?_
  refine lv_aload_n hx hb d_Law_init_4 rfl (lv_at hl 0 rfl) ?_
  refine lv_bipush (v := 121) hx hb d_Law_init_5 (by decide) ?_
  refine ck_newI hx hb hts hK hP hD hS hA (N := 121) (by decide) (by decide) (by decide) (Nat.le_of_ble_eq_true rfl) (Nat.le_of_ble_eq_true rfl) d_Law_init_7 (fun q1 H hP hD hS => ?_)
  have hP : va_P D cls [(h0, .inr (5, [.null, .null, .int 0, .null])), (q1, .inl (cI, 121, .inl (fun _ => 0)))] H := hP
  have hD : va_D A [(h0, .inr (5, [.null, .null, .int 0, .null])), (q1, .inl (cI, 121, .inl (fun _ => 0)))] := hD
  refine va_putF (ci := 5) (v := .ref q1) (ty := .array .int) (C := "MiddleOne$Law") (T := F_Law) (N := 4) hx hb hts j_Law t_Law t_Law_ok n_Law hown hK hP hD hS 0 rfl rfl 0 (by decide) (hts _ iw_8) (fun _ h9 => h9) rfl hin rfl (by decide +kernel) rfl rfl (Nat.le_of_ble_eq_true rfl) d_Law_init_9 (fun H locs hP hD hS => ?_)
  have hP : va_P D cls [(h0, .inr (5, [.ref q1, .null, .int 0, .null])), (q1, .inl (cI, 121, .inl (fun _ => 0)))] H := hP
  have hD : va_D A [(h0, .inr (5, [.ref q1, .null, .int 0, .null])), (q1, .inl (cI, 121, .inl (fun _ => 0)))] := hD
  refine lv_aload_n hx hb d_Law_init_12 rfl (lv_at hl 0 rfl) ?_
  refine lv_bipush (v := 121) hx hb d_Law_init_13 (by decide) ?_
  refine ck_newI hx hb hts hK hP hD hS hA (N := 121) (by decide) (by decide) (by decide) (Nat.le_of_ble_eq_true rfl) (Nat.le_of_ble_eq_true rfl) d_Law_init_15 (fun q2 H hP hD hS => ?_)
  have hP : va_P D cls [(h0, .inr (5, [.ref q1, .null, .int 0, .null])), (q1, .inl (cI, 121, .inl (fun _ => 0))), (q2, .inl (cI, 121, .inl (fun _ => 0)))] H := hP
  have hD : va_D A [(h0, .inr (5, [.ref q1, .null, .int 0, .null])), (q1, .inl (cI, 121, .inl (fun _ => 0))), (q2, .inl (cI, 121, .inl (fun _ => 0)))] := hD
  refine va_putF (ci := 5) (v := .ref q2) (ty := .array .int) (C := "MiddleOne$Law") (T := F_Law) (N := 4) hx hb hts j_Law t_Law t_Law_ok n_Law hown hK hP hD hS 0 rfl rfl 1 (by decide) (hts _ iw_9) (fun _ h9 => h9) rfl hin rfl (by decide +kernel) rfl rfl (Nat.le_of_ble_eq_true rfl) d_Law_init_17 (fun H locs hP hD hS => ?_)
  have hP : va_P D cls [(h0, .inr (5, [.ref q1, .ref q2, .int 0, .null])), (q1, .inl (cI, 121, .inl (fun _ => 0))), (q2, .inl (cI, 121, .inl (fun _ => 0)))] H := hP
  have hD : va_D A [(h0, .inr (5, [.ref q1, .ref q2, .int 0, .null])), (q1, .inl (cI, 121, .inl (fun _ => 0))), (q2, .inl (cI, 121, .inl (fun _ => 0)))] := hD
  refine lv_aload_n hx hb d_Law_init_20 rfl (lv_at hl 0 rfl) ?_
  refine lv_iconst (v := 0) hx hb d_Law_init_21 (by decide) ?_
  refine va_put (ci := 5) (v := .int 0) (ty := .int) (C := "MiddleOne$Law") (T := F_Law) (N := 4) hx hb hts j_Law t_Law t_Law_ok n_Law hown hK hP hD hS 0 rfl rfl 2 (by decide) (hts _ iw_10) (fun _ h9 => h9) rfl (by decide +kernel) rfl rfl (Nat.le_of_ble_eq_true rfl) d_Law_init_22 (fun H locs hP hD hS => ?_)
  have hP : va_P D cls [(h0, .inr (5, [.ref q1, .ref q2, .int 0, .null])), (q1, .inl (cI, 121, .inl (fun _ => 0))), (q2, .inl (cI, 121, .inl (fun _ => 0)))] H := hP
  have hD : va_D A [(h0, .inr (5, [.ref q1, .ref q2, .int 0, .null])), (q1, .inl (cI, 121, .inl (fun _ => 0))), (q2, .inl (cI, 121, .inl (fun _ => 0)))] := hD
  refine lv_aload_n hx hb d_Law_init_25 rfl (lv_at hl 0 rfl) ?_
  refine lv_bipush (v := 61) hx hb d_Law_init_26 (by decide) ?_
  refine ck_newI hx hb hts hK hP hD hS hA (N := 61) (by decide) (by decide) (by decide) (Nat.le_of_ble_eq_true rfl) (Nat.le_of_ble_eq_true rfl) d_Law_init_28 (fun q3 H hP hD hS => ?_)
  have hP : va_P D cls [(h0, .inr (5, [.ref q1, .ref q2, .int 0, .null])), (q1, .inl (cI, 121, .inl (fun _ => 0))), (q2, .inl (cI, 121, .inl (fun _ => 0))), (q3, .inl (cI, 61, .inl (fun _ => 0)))] H := hP
  have hD : va_D A [(h0, .inr (5, [.ref q1, .ref q2, .int 0, .null])), (q1, .inl (cI, 121, .inl (fun _ => 0))), (q2, .inl (cI, 121, .inl (fun _ => 0))), (q3, .inl (cI, 61, .inl (fun _ => 0)))] := hD
  refine va_putF (ci := 5) (v := .ref q3) (ty := .array .int) (C := "MiddleOne$Law") (T := F_Law) (N := 4) hx hb hts j_Law t_Law t_Law_ok n_Law hown hK hP hD hS 0 rfl rfl 3 (by decide) (hts _ iw_11) (fun _ h9 => h9) rfl hin rfl (by decide +kernel) rfl rfl (Nat.le_of_ble_eq_true rfl) d_Law_init_30 (fun H locs hP hD hS => ?_)
  have hP : va_P D cls [(h0, .inr (5, [.ref q1, .ref q2, .int 0, .ref q3])), (q1, .inl (cI, 121, .inl (fun _ => 0))), (q2, .inl (cI, 121, .inl (fun _ => 0))), (q3, .inl (cI, 61, .inl (fun _ => 0)))] H := hP
  have hD : va_D A [(h0, .inr (5, [.ref q1, .ref q2, .int 0, .ref q3])), (q1, .inl (cI, 121, .inl (fun _ => 0))), (q2, .inl (cI, 121, .inl (fun _ => 0))), (q3, .inl (cI, 61, .inl (fun _ => 0)))] := hD
  refine W.widen (k := 3) (n := 303) (Nat.le_of_ble_eq_true rfl) (Nat.le_of_ble_eq_true rfl) ?_
  exact W.vret hx hb hr (fun t ht hW => ⟨⟨(), rfl, trivial, q1, q2, q3, by rw [ht]; exact hP, hD⟩, hS.F ht⟩) hS.2.2 d_Law_init_33
set_option maxHeartbeats 4000000 in
set_option maxRecDepth 100000 in
theorem c_Reader_init (l : Launch) (D : va_G) (cI cL : ClassId) (h0 sz : Nat) : Met l y_Reader_init (.code y_Reader_init prog_9_method_1_code 1 none :: TB) ({ frames := 1, cells := 3, slots := 362, locals := 12 }) (va_Pc [.ref h0] (fun U => U.heap.size = sz ∧ va_P D cls [(h0, .inr (7, [.null, .int 0, .int 0, .null, .null, .int 0]))] U.heap ∧ va_K D cls (am_tys cI cL) U ∧ va_D (fun _ => True) [(h0, .inr (7, [.null, .int 0, .int 0, .null, .null, .int 0]))] ∧ nst U)) (va_Qv (fun _ : Unit => True) (fun _ t => ∃ q1 q2 q3, va_P D cls [(h0, .inr (7, [.ref q1, .int 0, .int 0, .ref q2, .ref q3, .int 0])), (q1, .inl (cI, 120, .inl (fun _ => 0))), (q2, .inl (cI, 121, .inl (fun _ => 0))), (q3, .inl (cI, 121, .inl (fun _ => 0)))] t.heap ∧ va_D (va_A [(h0, .inr (7, [.null, .int 0, .int 0, .null, .null, .int 0]))] sz) [(h0, .inr (7, [.ref q1, .int 0, .int 0, .ref q2, .ref q3, .int 0])), (q1, .inl (cI, 120, .inl (fun _ => 0))), (q2, .inl (cI, 121, .inl (fun _ => 0))), (q3, .inl (cI, 121, .inl (fun _ => 0)))]) (va_A [(h0, .inr (7, [.null, .int 0, .int 0, .null, .null, .int 0]))] sz)) 3 362 (va_A [(h0, .inr (7, [.null, .int 0, .int 0, .null, .null, .int 0]))] sz) := by
  refine Met.ofW (cc := prog_9_method_1_code) (maxL := 1) (ret := none) (by decide +kernel) rfl ?_
  intro p e s m args below meth c s₁ B hml hv
  obtain ⟨rfl, hsz, hP, hK, hD0, hN⟩ := hv
  have hx := B.exec
  have hb := B.bytes
  have hr := B.returns
  have hts0 := atoms_spec (ws := .code y_Reader_init prog_9_method_1_code 1 none :: TB) B.pre
  have hts : ∀ w ∈ TB, w.before ([.ref h0] : List Value).toArray s = true := fun w hw => hts0 w (List.mem_cons_of_mem _ hw)
  have hown : s.vm.findClass "MiddleOne$Reader" = some m.cls := findClass_of_methodNamed B.named
  have hlocks := B.notSynchronized
  have hin : meth.name = "<init>" := (name_of_methodNamed B.named B.method).1
  subst hsz
  have hD := hD0.self (sz := s.heap.size)
  generalize hAe : va_A [(h0, .inr (7, [.null, .int 0, .int 0, .null, .null, .int 0]))] s.heap.size = A at hD ⊢
  have hA : ∀ q : Nat, s.heap.size ≤ q → A q := fun q h => by rw [← hAe]; exact Or.inr h
  have hS : va_S A s.heap s.heap [] := va_S.rf
  have hP : va_P D cls [(h0, .inr (7, [.null, .int 0, .int 0, .null, .null, .int 0]))] s.heap := hP
  have hl := lv_entry ([.ref h0]) (n := 1) (Nat.le_of_ble_eq_true rfl)
  rw [lg_entry_eq]
  generalize (lg_sl ([.ref h0]) ++ List.replicate (1 - (lg_sl ([.ref h0])).length) Slot.unset).toArray = ls at hl ⊢
  have hl : lv_has ls 1 [(0, .ref h0)] := hl
  refine lv_aload_n hx hb d_Reader_init_0 rfl (lv_at hl 0 rfl) ?_
  refine W.objInit hx hb hown (hts _ iw_12) (hts _ iw_1) (hts _ iw_2) rfl (by rw [hml]; exact hl.1) rfl d_Reader_init_1 (Nat.le_of_ble_eq_true rfl) (Nat.le_of_ble_eq_true rfl) ?_
  refine W.eq (g2 := F0 m 4 ls []) rfl ?_
  refine lv_aload_n hx hb d_Reader_init_4 rfl (lv_at hl 0 rfl) ?_
  refine lv_bipush (v := 120) hx hb d_Reader_init_5 (by decide) ?_
  refine ck_newI hx hb hts hK hP hD hS hA (N := 120) (by decide) (by decide) (by decide) (Nat.le_of_ble_eq_true rfl) (Nat.le_of_ble_eq_true rfl) d_Reader_init_7 (fun q1 H hP hD hS => ?_)
  have hP : va_P D cls [(h0, .inr (7, [.null, .int 0, .int 0, .null, .null, .int 0])), (q1, .inl (cI, 120, .inl (fun _ => 0)))] H := hP
  have hD : va_D A [(h0, .inr (7, [.null, .int 0, .int 0, .null, .null, .int 0])), (q1, .inl (cI, 120, .inl (fun _ => 0)))] := hD
  refine va_putF (ci := 7) (v := .ref q1) (ty := .array .int) (C := "MiddleOne$Reader") (T := F_Reader) (N := 6) hx hb hts j_Reader t_Reader t_Reader_ok n_Reader hown hK hP hD hS 0 rfl rfl 0 (by decide) (hts _ iw_13) (fun _ h9 => h9) rfl hin rfl (by decide +kernel) rfl rfl (Nat.le_of_ble_eq_true rfl) d_Reader_init_9 (fun H locs hP hD hS => ?_)
  have hP : va_P D cls [(h0, .inr (7, [.ref q1, .int 0, .int 0, .null, .null, .int 0])), (q1, .inl (cI, 120, .inl (fun _ => 0)))] H := hP
  have hD : va_D A [(h0, .inr (7, [.ref q1, .int 0, .int 0, .null, .null, .int 0])), (q1, .inl (cI, 120, .inl (fun _ => 0)))] := hD
  refine lv_aload_n hx hb d_Reader_init_12 rfl (lv_at hl 0 rfl) ?_
  refine lv_iconst (v := 0) hx hb d_Reader_init_13 (by decide) ?_
  refine va_put (ci := 7) (v := .int 0) (ty := .int) (C := "MiddleOne$Reader") (T := F_Reader) (N := 6) hx hb hts j_Reader t_Reader t_Reader_ok n_Reader hown hK hP hD hS 0 rfl rfl 1 (by decide) (hts _ iw_14) (fun _ h9 => h9) rfl (by decide +kernel) rfl rfl (Nat.le_of_ble_eq_true rfl) d_Reader_init_14 (fun H locs hP hD hS => ?_)
  have hP : va_P D cls [(h0, .inr (7, [.ref q1, .int 0, .int 0, .null, .null, .int 0])), (q1, .inl (cI, 120, .inl (fun _ => 0)))] H := hP
  have hD : va_D A [(h0, .inr (7, [.ref q1, .int 0, .int 0, .null, .null, .int 0])), (q1, .inl (cI, 120, .inl (fun _ => 0)))] := hD
  refine lv_aload_n hx hb d_Reader_init_17 rfl (lv_at hl 0 rfl) ?_
  refine lv_iconst (v := 0) hx hb d_Reader_init_18 (by decide) ?_
  refine va_put (ci := 7) (v := .int 0) (ty := .int) (C := "MiddleOne$Reader") (T := F_Reader) (N := 6) hx hb hts j_Reader t_Reader t_Reader_ok n_Reader hown hK hP hD hS 0 rfl rfl 2 (by decide) (hts _ iw_15) (fun _ h9 => h9) rfl (by decide +kernel) rfl rfl (Nat.le_of_ble_eq_true rfl) d_Reader_init_19 (fun H locs hP hD hS => ?_)
  have hP : va_P D cls [(h0, .inr (7, [.ref q1, .int 0, .int 0, .null, .null, .int 0])), (q1, .inl (cI, 120, .inl (fun _ => 0)))] H := hP
  have hD : va_D A [(h0, .inr (7, [.ref q1, .int 0, .int 0, .null, .null, .int 0])), (q1, .inl (cI, 120, .inl (fun _ => 0)))] := hD
  refine lv_aload_n hx hb d_Reader_init_22 rfl (lv_at hl 0 rfl) ?_
  refine lv_bipush (v := 121) hx hb d_Reader_init_23 (by decide) ?_
  refine ck_newI hx hb hts hK hP hD hS hA (N := 121) (by decide) (by decide) (by decide) (Nat.le_of_ble_eq_true rfl) (Nat.le_of_ble_eq_true rfl) d_Reader_init_25 (fun q2 H hP hD hS => ?_)
  have hP : va_P D cls [(h0, .inr (7, [.ref q1, .int 0, .int 0, .null, .null, .int 0])), (q1, .inl (cI, 120, .inl (fun _ => 0))), (q2, .inl (cI, 121, .inl (fun _ => 0)))] H := hP
  have hD : va_D A [(h0, .inr (7, [.ref q1, .int 0, .int 0, .null, .null, .int 0])), (q1, .inl (cI, 120, .inl (fun _ => 0))), (q2, .inl (cI, 121, .inl (fun _ => 0)))] := hD
  refine va_putF (ci := 7) (v := .ref q2) (ty := .array .int) (C := "MiddleOne$Reader") (T := F_Reader) (N := 6) hx hb hts j_Reader t_Reader t_Reader_ok n_Reader hown hK hP hD hS 0 rfl rfl 3 (by decide) (hts _ iw_16) (fun _ h9 => h9) rfl hin rfl (by decide +kernel) rfl rfl (Nat.le_of_ble_eq_true rfl) d_Reader_init_27 (fun H locs hP hD hS => ?_)
  have hP : va_P D cls [(h0, .inr (7, [.ref q1, .int 0, .int 0, .ref q2, .null, .int 0])), (q1, .inl (cI, 120, .inl (fun _ => 0))), (q2, .inl (cI, 121, .inl (fun _ => 0)))] H := hP
  have hD : va_D A [(h0, .inr (7, [.ref q1, .int 0, .int 0, .ref q2, .null, .int 0])), (q1, .inl (cI, 120, .inl (fun _ => 0))), (q2, .inl (cI, 121, .inl (fun _ => 0)))] := hD
  refine lv_aload_n hx hb d_Reader_init_30 rfl (lv_at hl 0 rfl) ?_
  refine lv_bipush (v := 121) hx hb d_Reader_init_31 (by decide) ?_
  refine ck_newI hx hb hts hK hP hD hS hA (N := 121) (by decide) (by decide) (by decide) (Nat.le_of_ble_eq_true rfl) (Nat.le_of_ble_eq_true rfl) d_Reader_init_33 (fun q3 H hP hD hS => ?_)
  have hP : va_P D cls [(h0, .inr (7, [.ref q1, .int 0, .int 0, .ref q2, .null, .int 0])), (q1, .inl (cI, 120, .inl (fun _ => 0))), (q2, .inl (cI, 121, .inl (fun _ => 0))), (q3, .inl (cI, 121, .inl (fun _ => 0)))] H := hP
  have hD : va_D A [(h0, .inr (7, [.ref q1, .int 0, .int 0, .ref q2, .null, .int 0])), (q1, .inl (cI, 120, .inl (fun _ => 0))), (q2, .inl (cI, 121, .inl (fun _ => 0))), (q3, .inl (cI, 121, .inl (fun _ => 0)))] := hD
  refine va_putF (ci := 7) (v := .ref q3) (ty := .array .int) (C := "MiddleOne$Reader") (T := F_Reader) (N := 6) hx hb hts j_Reader t_Reader t_Reader_ok n_Reader hown hK hP hD hS 0 rfl rfl 4 (by decide) (hts _ iw_17) (fun _ h9 => h9) rfl hin rfl (by decide +kernel) rfl rfl (Nat.le_of_ble_eq_true rfl) d_Reader_init_35 (fun H locs hP hD hS => ?_)
  have hP : va_P D cls [(h0, .inr (7, [.ref q1, .int 0, .int 0, .ref q2, .ref q3, .int 0])), (q1, .inl (cI, 120, .inl (fun _ => 0))), (q2, .inl (cI, 121, .inl (fun _ => 0))), (q3, .inl (cI, 121, .inl (fun _ => 0)))] H := hP
  have hD : va_D A [(h0, .inr (7, [.ref q1, .int 0, .int 0, .ref q2, .ref q3, .int 0])), (q1, .inl (cI, 120, .inl (fun _ => 0))), (q2, .inl (cI, 121, .inl (fun _ => 0))), (q3, .inl (cI, 121, .inl (fun _ => 0)))] := hD
  refine lv_aload_n hx hb d_Reader_init_38 rfl (lv_at hl 0 rfl) ?_
  refine lv_iconst (v := 0) hx hb d_Reader_init_39 (by decide) ?_
  refine va_put (ci := 7) (v := .int 0) (ty := .int) (C := "MiddleOne$Reader") (T := F_Reader) (N := 6) hx hb hts j_Reader t_Reader t_Reader_ok n_Reader hown hK hP hD hS 0 rfl rfl 5 (by decide) (hts _ iw_18) (fun _ h9 => h9) rfl (by decide +kernel) rfl rfl (Nat.le_of_ble_eq_true rfl) d_Reader_init_40 (fun H locs hP hD hS => ?_)
  have hP : va_P D cls [(h0, .inr (7, [.ref q1, .int 0, .int 0, .ref q2, .ref q3, .int 0])), (q1, .inl (cI, 120, .inl (fun _ => 0))), (q2, .inl (cI, 121, .inl (fun _ => 0))), (q3, .inl (cI, 121, .inl (fun _ => 0)))] H := hP
  have hD : va_D A [(h0, .inr (7, [.ref q1, .int 0, .int 0, .ref q2, .ref q3, .int 0])), (q1, .inl (cI, 120, .inl (fun _ => 0))), (q2, .inl (cI, 121, .inl (fun _ => 0))), (q3, .inl (cI, 121, .inl (fun _ => 0)))] := hD
  refine W.widen (k := 3) (n := 362) (Nat.le_of_ble_eq_true rfl) (Nat.le_of_ble_eq_true rfl) ?_
  exact W.vret hx hb hr (fun t ht hW => ⟨⟨(), rfl, trivial, q1, q2, q3, by rw [ht]; exact hP, hD⟩, hS.F ht⟩) hS.2.2 d_Reader_init_43
set_option maxHeartbeats 4000000 in
set_option maxRecDepth 100000 in
theorem c_Picker_init (l : Launch) (D : va_G) (cI cL : ClassId) (h0 a1 sz : Nat) : Met l y_Picker_init (.code y_Picker_init prog_8_method_1_code 2 none :: TB) ({ frames := 1, cells := 2, slots := 30, locals := 12 }) (va_Pc [.ref h0, .ref a1] (fun U => U.heap.size = sz ∧ va_P D cls [(h0, .inr (6, [.null, .null, .null]))] U.heap ∧ va_K D cls (am_tys cI cL) U ∧ va_D (fun _ => True) [(h0, .inr (6, [.null, .null, .null]))] ∧ nst U)) (va_Qv (fun _ : Unit => True) (fun _ t => ∃ q1 q2, va_P D cls [(h0, .inr (6, [.ref a1, .ref q1, .ref q2])), (q1, .inl (cI, 15, .inl (fun _ => 0))), (q2, .inl (cI, 15, .inl (fun _ => 0)))] t.heap ∧ va_D (va_A [(h0, .inr (6, [.null, .null, .null]))] sz) [(h0, .inr (6, [.ref a1, .ref q1, .ref q2])), (q1, .inl (cI, 15, .inl (fun _ => 0))), (q2, .inl (cI, 15, .inl (fun _ => 0)))]) (va_A [(h0, .inr (6, [.null, .null, .null]))] sz)) 2 30 (va_A [(h0, .inr (6, [.null, .null, .null]))] sz) := by
  refine Met.ofW (cc := prog_8_method_1_code) (maxL := 2) (ret := none) (by decide +kernel) rfl ?_
  intro p e s m args below meth c s₁ B hml hv
  obtain ⟨rfl, hsz, hP, hK, hD0, hN⟩ := hv
  have hx := B.exec
  have hb := B.bytes
  have hr := B.returns
  have hts0 := atoms_spec (ws := .code y_Picker_init prog_8_method_1_code 2 none :: TB) B.pre
  have hts : ∀ w ∈ TB, w.before ([.ref h0, .ref a1] : List Value).toArray s = true := fun w hw => hts0 w (List.mem_cons_of_mem _ hw)
  have hown : s.vm.findClass "MiddleOne$Picker" = some m.cls := findClass_of_methodNamed B.named
  have hlocks := B.notSynchronized
  have hin : meth.name = "<init>" := (name_of_methodNamed B.named B.method).1
  subst hsz
  have hD := hD0.self (sz := s.heap.size)
  generalize hAe : va_A [(h0, .inr (6, [.null, .null, .null]))] s.heap.size = A at hD ⊢
  have hA : ∀ q : Nat, s.heap.size ≤ q → A q := fun q h => by rw [← hAe]; exact Or.inr h
  have hS : va_S A s.heap s.heap [] := va_S.rf
  have hP : va_P D cls [(h0, .inr (6, [.null, .null, .null]))] s.heap := hP
  have hl := lv_entry ([.ref h0, .ref a1]) (n := 2) (Nat.le_of_ble_eq_true rfl)
  rw [lg_entry_eq]
  generalize (lg_sl ([.ref h0, .ref a1]) ++ List.replicate (2 - (lg_sl ([.ref h0, .ref a1])).length) Slot.unset).toArray = ls at hl ⊢
  have hl : lv_has ls 2 [(0, .ref h0), (1, .ref a1)] := hl
  refine lv_aload_n hx hb d_Picker_init_0 rfl (lv_at hl 0 rfl) ?_
  refine W.objInit hx hb hown (hts _ iw_19) (hts _ iw_1) (hts _ iw_2) rfl (by rw [hml]; exact hl.1) rfl d_Picker_init_1 (Nat.le_of_ble_eq_true rfl) (Nat.le_of_ble_eq_true rfl) ?_
  refine W.eq (g2 := F0 m 4 ls []) rfl ?_
  refine lv_aload_n hx hb d_Picker_init_4 rfl (lv_at hl 0 rfl) ?_
  refine lv_bipush (v := 15) hx hb d_Picker_init_5 (by decide) ?_
  refine ck_newI hx hb hts hK hP hD hS hA (N := 15) (by decide) (by decide) (by decide) (Nat.le_of_ble_eq_true rfl) (Nat.le_of_ble_eq_true rfl) d_Picker_init_7 (fun q1 H hP hD hS => ?_)
  have hP : va_P D cls [(h0, .inr (6, [.null, .null, .null])), (q1, .inl (cI, 15, .inl (fun _ => 0)))] H := hP
  have hD : va_D A [(h0, .inr (6, [.null, .null, .null])), (q1, .inl (cI, 15, .inl (fun _ => 0)))] := hD
  refine va_putF (ci := 6) (v := .ref q1) (ty := .array .int) (C := "MiddleOne$Picker") (T := F_Picker) (N := 3) hx hb hts j_Picker t_Picker t_Picker_ok n_Picker hown hK hP hD hS 0 rfl rfl 1 (by decide) (hts _ iw_20) (fun _ h9 => h9) rfl hin rfl (by decide +kernel) rfl rfl (Nat.le_of_ble_eq_true rfl) d_Picker_init_9 (fun H locs hP hD hS => ?_)
  have hP : va_P D cls [(h0, .inr (6, [.null, .ref q1, .null])), (q1, .inl (cI, 15, .inl (fun _ => 0)))] H := hP
  have hD : va_D A [(h0, .inr (6, [.null, .ref q1, .null])), (q1, .inl (cI, 15, .inl (fun _ => 0)))] := hD
  refine lv_aload_n hx hb d_Picker_init_12 rfl (lv_at hl 0 rfl) ?_
  refine lv_bipush (v := 15) hx hb d_Picker_init_13 (by decide) ?_
  refine ck_newI hx hb hts hK hP hD hS hA (N := 15) (by decide) (by decide) (by decide) (Nat.le_of_ble_eq_true rfl) (Nat.le_of_ble_eq_true rfl) d_Picker_init_15 (fun q2 H hP hD hS => ?_)
  have hP : va_P D cls [(h0, .inr (6, [.null, .ref q1, .null])), (q1, .inl (cI, 15, .inl (fun _ => 0))), (q2, .inl (cI, 15, .inl (fun _ => 0)))] H := hP
  have hD : va_D A [(h0, .inr (6, [.null, .ref q1, .null])), (q1, .inl (cI, 15, .inl (fun _ => 0))), (q2, .inl (cI, 15, .inl (fun _ => 0)))] := hD
  refine va_putF (ci := 6) (v := .ref q2) (ty := .array .int) (C := "MiddleOne$Picker") (T := F_Picker) (N := 3) hx hb hts j_Picker t_Picker t_Picker_ok n_Picker hown hK hP hD hS 0 rfl rfl 2 (by decide) (hts _ iw_21) (fun _ h9 => h9) rfl hin rfl (by decide +kernel) rfl rfl (Nat.le_of_ble_eq_true rfl) d_Picker_init_17 (fun H locs hP hD hS => ?_)
  have hP : va_P D cls [(h0, .inr (6, [.null, .ref q1, .ref q2])), (q1, .inl (cI, 15, .inl (fun _ => 0))), (q2, .inl (cI, 15, .inl (fun _ => 0)))] H := hP
  have hD : va_D A [(h0, .inr (6, [.null, .ref q1, .ref q2])), (q1, .inl (cI, 15, .inl (fun _ => 0))), (q2, .inl (cI, 15, .inl (fun _ => 0)))] := hD
  refine lv_aload_n hx hb d_Picker_init_20 rfl (lv_at hl 0 rfl) ?_
  refine lv_aload_n hx hb d_Picker_init_21 rfl (lv_at hl 1 rfl) ?_
  refine va_putF (ci := 6) (v := .ref a1) (ty := .object "MiddleOne$Law") (C := "MiddleOne$Picker") (T := F_Picker) (N := 3) hx hb hts j_Picker t_Picker t_Picker_ok n_Picker hown hK hP hD hS 0 rfl rfl 0 (by decide) (hts _ iw_22) (fun _ h9 => h9) rfl hin rfl (by decide +kernel) rfl rfl (Nat.le_of_ble_eq_true rfl) d_Picker_init_22 (fun H locs hP hD hS => ?_)
  have hP : va_P D cls [(h0, .inr (6, [.ref a1, .ref q1, .ref q2])), (q1, .inl (cI, 15, .inl (fun _ => 0))), (q2, .inl (cI, 15, .inl (fun _ => 0)))] H := hP
  have hD : va_D A [(h0, .inr (6, [.ref a1, .ref q1, .ref q2])), (q1, .inl (cI, 15, .inl (fun _ => 0))), (q2, .inl (cI, 15, .inl (fun _ => 0)))] := hD
  refine W.widen (k := 2) (n := 30) (Nat.le_of_ble_eq_true rfl) (Nat.le_of_ble_eq_true rfl) ?_
  exact W.vret hx hb hr (fun t ht hW => ⟨⟨(), rfl, trivial, q1, q2, by rw [ht]; exact hP, hD⟩, hS.F ht⟩) hS.2.2 d_Picker_init_25
set_option maxHeartbeats 4000000 in
set_option maxRecDepth 100000 in
theorem c_Day_init (l : Launch) (D : va_G) (cI cL : ClassId) (h0 a1 sz : Nat) : Met l y_Day_init (.code y_Day_init prog_5_method_1_code 2 none :: TB) ({ frames := 2, cells := 4, slots := 194, locals := 40 }) (va_Pc [.ref h0, .ref a1] (fun U => U.heap.size = sz ∧ va_P D cls [(h0, .inr (3, [.null, .null, .null, .int 0, .int 0, .int 0, .int 0]))] U.heap ∧ va_K D cls (am_tys cI cL) U ∧ va_D (fun _ => True) [(h0, .inr (3, [.null, .null, .null, .int 0, .int 0, .int 0, .int 0]))] ∧ nst U)) (va_Qv (fun _ : Unit => True) (fun _ t => ∃ q1 q2 q3 q4, va_P D cls [(h0, .inr (3, [.ref a1, .ref q1, .ref q4, .int 0, .int 0, .int 0, .int 0])), (q1, .inr (2, [.ref q2, .int 0, .ref q3, .int 1])), (q2, .inl (cI, 75, .inl (fun _ => 0))), (q3, .inl (cI, 100, .inl (fun _ => 0))), (q4, .inl (cI, 15, .inl (fun _ => 0)))] t.heap ∧ va_D (va_A [(h0, .inr (3, [.null, .null, .null, .int 0, .int 0, .int 0, .int 0]))] sz) [(h0, .inr (3, [.ref a1, .ref q1, .ref q4, .int 0, .int 0, .int 0, .int 0])), (q1, .inr (2, [.ref q2, .int 0, .ref q3, .int 1])), (q2, .inl (cI, 75, .inl (fun _ => 0))), (q3, .inl (cI, 100, .inl (fun _ => 0))), (q4, .inl (cI, 15, .inl (fun _ => 0)))]) (va_A [(h0, .inr (3, [.null, .null, .null, .int 0, .int 0, .int 0, .int 0]))] sz)) 4 194 (va_A [(h0, .inr (3, [.null, .null, .null, .int 0, .int 0, .int 0, .int 0]))] sz) := by
  refine Met.ofW (cc := prog_5_method_1_code) (maxL := 2) (ret := none) (by decide +kernel) rfl ?_
  intro p e s m args below meth c s₁ B hml hv
  obtain ⟨rfl, hsz, hP, hK, hD0, hN⟩ := hv
  have hx := B.exec
  have hb := B.bytes
  have hr := B.returns
  have hts0 := atoms_spec (ws := .code y_Day_init prog_5_method_1_code 2 none :: TB) B.pre
  have hts : ∀ w ∈ TB, w.before ([.ref h0, .ref a1] : List Value).toArray s = true := fun w hw => hts0 w (List.mem_cons_of_mem _ hw)
  have hown : s.vm.findClass "MiddleOne$Day" = some m.cls := findClass_of_methodNamed B.named
  have hlocks := B.notSynchronized
  have hin : meth.name = "<init>" := (name_of_methodNamed B.named B.method).1
  subst hsz
  have hD := hD0.self (sz := s.heap.size)
  generalize hAe : va_A [(h0, .inr (3, [.null, .null, .null, .int 0, .int 0, .int 0, .int 0]))] s.heap.size = A at hD ⊢
  have hA : ∀ q : Nat, s.heap.size ≤ q → A q := fun q h => by rw [← hAe]; exact Or.inr h
  have hS : va_S A s.heap s.heap [] := va_S.rf
  have hP : va_P D cls [(h0, .inr (3, [.null, .null, .null, .int 0, .int 0, .int 0, .int 0]))] s.heap := hP
  have hl := lv_entry ([.ref h0, .ref a1]) (n := 2) (Nat.le_of_ble_eq_true rfl)
  rw [lg_entry_eq]
  generalize (lg_sl ([.ref h0, .ref a1]) ++ List.replicate (2 - (lg_sl ([.ref h0, .ref a1])).length) Slot.unset).toArray = ls at hl ⊢
  have hl : lv_has ls 2 [(0, .ref h0), (1, .ref a1)] := hl
  refine lv_aload_n hx hb d_Day_init_0 rfl (lv_at hl 0 rfl) ?_
  refine W.objInit hx hb hown (hts _ iw_23) (hts _ iw_1) (hts _ iw_2) rfl (by rw [hml]; exact hl.1) rfl d_Day_init_1 (Nat.le_of_ble_eq_true rfl) (Nat.le_of_ble_eq_true rfl) ?_
  refine W.eq (g2 := F0 m 4 ls []) rfl ?_
  refine lv_aload_n hx hb d_Day_init_4 rfl (lv_at hl 0 rfl) ?_
  refine va_new (ci := 2) (fs := [.null, .int 0, .null, .int 0]) (C := "MiddleOne$Crowd") (T := F_Crowd) (N := 4) hx hb hts j_Crowd t_Crowd t_Crowd_ok hown (hts _ iw_24) (hts _ iw_25) (hts _ iw_26) hK hP hD hS hA rfl (fun j hj => by rcases (show j = 0 ∨ j = 1 ∨ j = 2 ∨ j = 3 by omega) with rfl | rfl | rfl | rfl <;> rfl) (Nat.le_of_ble_eq_true rfl) (Nat.le_of_ble_eq_true rfl) d_Day_init_5 (fun q1 H hP hD hS => ?_)
  have hP : va_P D cls [(h0, .inr (3, [.null, .null, .null, .int 0, .int 0, .int 0, .int 0])), (q1, .inr (2, [.null, .int 0, .null, .int 0]))] H := hP
  have hD : va_D A [(h0, .inr (3, [.null, .null, .null, .int 0, .int 0, .int 0, .int 0])), (q1, .inr (2, [.null, .int 0, .null, .int 0]))] := hD
  refine lv_dup hx hb d_Day_init_8 rfl ?_
  have hPc := hP.sub (ws' := [(q1, .inr (2, [.null, .int 0, .null, .int 0]))]) [1] rfl
  have hDc := hD.sub (ws' := [(q1, .inr (2, [.null, .int 0, .null, .int 0]))]) [1] (by decide) rfl
  have hFc := va_free (wc := [(q1, .inr (2, [.null, .int 0, .null, .int 0]))]) hD hS hA [1] rfl
  refine va_callv (va_runIN (As := []) (rest := [.ref q1, .ref h0]) ⟨hx, hb, hml, hown, hts⟩ (c_Crowd_init l D cI cL q1 H.size) ⟨va_cnB 0 hts (g_init iw_27) rfl rfl rfl hN.2.2.2.1 (hts _ iw_26) ⟨by decide +kernel, by decide +kernel, by decide +kernel⟩ ⟨(Nat.le_of_ble_eq_true rfl), (Nat.le_of_ble_eq_true rfl)⟩, rfl, hts _ iw_28⟩ ⟨fun a U g mk q => by obtain ⟨z0, z1, zP, zK, zD, zN⟩ := q; exact ⟨z0, z1, zP, va_K.moved (u := U) (U := U.calling g mk a) (Vm.Alike.refl U.vm) zK, zD, nst_same rfl zN⟩, fun U hU hW => ⟨rfl, by rw [hU], by rw [hU]; exact hPc, va_K.moved hW.alike hK, hDc.weaken (fun _ _ _ _ => trivial), nst_warm hW hN⟩⟩ rfl rfl hl.1 rfl (lv_room (Nat.le_of_ble_eq_true rfl)) d_Day_init_9 ⟨(Nat.le_of_ble_eq_true rfl), (Nat.le_of_ble_eq_true rfl)⟩) hS (fun q _ h => hFc q h) hFc (fun u t H1 locs ht hvm hw hB hz1 hk1 hS => ?_)
  obtain ⟨q2, q3, hP1, hD1⟩ := hB
  rw [ht] at hP1
  obtain ⟨hP, hD⟩ := va_join (wr := [(h0, .inr (3, [.null, .null, .null, .int 0, .int 0, .int 0, .int 0]))]) (w1 := [(q1, .inr (2, [.ref q2, .int 0, .ref q3, .int 1])), (q2, .inl (cI, 75, .inl (fun _ => 0))), (q3, .inl (cI, 100, .inl (fun _ => 0)))]) hP hD [1] [0] rfl rfl (by decide) (by decide) hk1 hFc hP1 hD1
  generalize H1 = H at hP hS ⊢
  have hP : va_P D cls [(h0, .inr (3, [.null, .null, .null, .int 0, .int 0, .int 0, .int 0])), (q1, .inr (2, [.ref q2, .int 0, .ref q3, .int 1])), (q2, .inl (cI, 75, .inl (fun _ => 0))), (q3, .inl (cI, 100, .inl (fun _ => 0)))] H := hP
  have hD : va_D A [(h0, .inr (3, [.null, .null, .null, .int 0, .int 0, .int 0, .int 0])), (q1, .inr (2, [.ref q2, .int 0, .ref q3, .int 1])), (q2, .inl (cI, 75, .inl (fun _ => 0))), (q3, .inl (cI, 100, .inl (fun _ => 0)))] := hD
  refine va_putF (ci := 3) (v := .ref q1) (ty := .object "MiddleOne$Crowd") (C := "MiddleOne$Day") (T := F_Day) (N := 7) hx hb hts j_Day t_Day t_Day_ok n_Day hown hK hP hD hS 0 rfl rfl 1 (by decide) (hts _ iw_29) (fun _ h9 => h9) rfl hin rfl (by decide +kernel) rfl rfl (Nat.le_of_ble_eq_true rfl) d_Day_init_12 (fun H locs hP hD hS => ?_)
  have hP : va_P D cls [(h0, .inr (3, [.null, .ref q1, .null, .int 0, .int 0, .int 0, .int 0])), (q1, .inr (2, [.ref q2, .int 0, .ref q3, .int 1])), (q2, .inl (cI, 75, .inl (fun _ => 0))), (q3, .inl (cI, 100, .inl (fun _ => 0)))] H := hP
  have hD : va_D A [(h0, .inr (3, [.null, .ref q1, .null, .int 0, .int 0, .int 0, .int 0])), (q1, .inr (2, [.ref q2, .int 0, .ref q3, .int 1])), (q2, .inl (cI, 75, .inl (fun _ => 0))), (q3, .inl (cI, 100, .inl (fun _ => 0)))] := hD
  refine lv_aload_n hx hb d_Day_init_15 rfl (lv_at hl 0 rfl) ?_
  refine lv_bipush (v := 15) hx hb d_Day_init_16 (by decide) ?_
  refine ck_newI hx hb hts hK hP hD hS hA (N := 15) (by decide) (by decide) (by decide) (Nat.le_of_ble_eq_true rfl) (Nat.le_of_ble_eq_true rfl) d_Day_init_18 (fun q4 H hP hD hS => ?_)
  have hP : va_P D cls [(h0, .inr (3, [.null, .ref q1, .null, .int 0, .int 0, .int 0, .int 0])), (q1, .inr (2, [.ref q2, .int 0, .ref q3, .int 1])), (q2, .inl (cI, 75, .inl (fun _ => 0))), (q3, .inl (cI, 100, .inl (fun _ => 0))), (q4, .inl (cI, 15, .inl (fun _ => 0)))] H := hP
  have hD : va_D A [(h0, .inr (3, [.null, .ref q1, .null, .int 0, .int 0, .int 0, .int 0])), (q1, .inr (2, [.ref q2, .int 0, .ref q3, .int 1])), (q2, .inl (cI, 75, .inl (fun _ => 0))), (q3, .inl (cI, 100, .inl (fun _ => 0))), (q4, .inl (cI, 15, .inl (fun _ => 0)))] := hD
  refine va_putF (ci := 3) (v := .ref q4) (ty := .array .int) (C := "MiddleOne$Day") (T := F_Day) (N := 7) hx hb hts j_Day t_Day t_Day_ok n_Day hown hK hP hD hS 0 rfl rfl 2 (by decide) (hts _ iw_30) (fun _ h9 => h9) rfl hin rfl (by decide +kernel) rfl rfl (Nat.le_of_ble_eq_true rfl) d_Day_init_20 (fun H locs hP hD hS => ?_)
  have hP : va_P D cls [(h0, .inr (3, [.null, .ref q1, .ref q4, .int 0, .int 0, .int 0, .int 0])), (q1, .inr (2, [.ref q2, .int 0, .ref q3, .int 1])), (q2, .inl (cI, 75, .inl (fun _ => 0))), (q3, .inl (cI, 100, .inl (fun _ => 0))), (q4, .inl (cI, 15, .inl (fun _ => 0)))] H := hP
  have hD : va_D A [(h0, .inr (3, [.null, .ref q1, .ref q4, .int 0, .int 0, .int 0, .int 0])), (q1, .inr (2, [.ref q2, .int 0, .ref q3, .int 1])), (q2, .inl (cI, 75, .inl (fun _ => 0))), (q3, .inl (cI, 100, .inl (fun _ => 0))), (q4, .inl (cI, 15, .inl (fun _ => 0)))] := hD
  refine lv_aload_n hx hb d_Day_init_23 rfl (lv_at hl 0 rfl) ?_
  refine lv_iconst (v := 0) hx hb d_Day_init_24 (by decide) ?_
  refine va_put (ci := 3) (v := .int 0) (ty := .int) (C := "MiddleOne$Day") (T := F_Day) (N := 7) hx hb hts j_Day t_Day t_Day_ok n_Day hown hK hP hD hS 0 rfl rfl 3 (by decide) (hts _ iw_31) (fun _ h9 => h9) rfl (by decide +kernel) rfl rfl (Nat.le_of_ble_eq_true rfl) d_Day_init_25 (fun H locs hP hD hS => ?_)
  have hP : va_P D cls [(h0, .inr (3, [.null, .ref q1, .ref q4, .int 0, .int 0, .int 0, .int 0])), (q1, .inr (2, [.ref q2, .int 0, .ref q3, .int 1])), (q2, .inl (cI, 75, .inl (fun _ => 0))), (q3, .inl (cI, 100, .inl (fun _ => 0))), (q4, .inl (cI, 15, .inl (fun _ => 0)))] H := hP
  have hD : va_D A [(h0, .inr (3, [.null, .ref q1, .ref q4, .int 0, .int 0, .int 0, .int 0])), (q1, .inr (2, [.ref q2, .int 0, .ref q3, .int 1])), (q2, .inl (cI, 75, .inl (fun _ => 0))), (q3, .inl (cI, 100, .inl (fun _ => 0))), (q4, .inl (cI, 15, .inl (fun _ => 0)))] := hD
  refine lv_aload_n hx hb d_Day_init_28 rfl (lv_at hl 0 rfl) ?_
  refine lv_iconst (v := 0) hx hb d_Day_init_29 (by decide) ?_
  refine va_put (ci := 3) (v := .int 0) (ty := .int) (C := "MiddleOne$Day") (T := F_Day) (N := 7) hx hb hts j_Day t_Day t_Day_ok n_Day hown hK hP hD hS 0 rfl rfl 4 (by decide) (hts _ iw_32) (fun _ h9 => h9) rfl (by decide +kernel) rfl rfl (Nat.le_of_ble_eq_true rfl) d_Day_init_30 (fun H locs hP hD hS => ?_)
  have hP : va_P D cls [(h0, .inr (3, [.null, .ref q1, .ref q4, .int 0, .int 0, .int 0, .int 0])), (q1, .inr (2, [.ref q2, .int 0, .ref q3, .int 1])), (q2, .inl (cI, 75, .inl (fun _ => 0))), (q3, .inl (cI, 100, .inl (fun _ => 0))), (q4, .inl (cI, 15, .inl (fun _ => 0)))] H := hP
  have hD : va_D A [(h0, .inr (3, [.null, .ref q1, .ref q4, .int 0, .int 0, .int 0, .int 0])), (q1, .inr (2, [.ref q2, .int 0, .ref q3, .int 1])), (q2, .inl (cI, 75, .inl (fun _ => 0))), (q3, .inl (cI, 100, .inl (fun _ => 0))), (q4, .inl (cI, 15, .inl (fun _ => 0)))] := hD
  refine lv_aload_n hx hb d_Day_init_33 rfl (lv_at hl 0 rfl) ?_
  refine lv_iconst (v := 0) hx hb d_Day_init_34 (by decide) ?_
  refine va_put (ci := 3) (v := .int 0) (ty := .int) (C := "MiddleOne$Day") (T := F_Day) (N := 7) hx hb hts j_Day t_Day t_Day_ok n_Day hown hK hP hD hS 0 rfl rfl 5 (by decide) (hts _ iw_33) (fun _ h9 => h9) rfl (by decide +kernel) rfl rfl (Nat.le_of_ble_eq_true rfl) d_Day_init_35 (fun H locs hP hD hS => ?_)
  have hP : va_P D cls [(h0, .inr (3, [.null, .ref q1, .ref q4, .int 0, .int 0, .int 0, .int 0])), (q1, .inr (2, [.ref q2, .int 0, .ref q3, .int 1])), (q2, .inl (cI, 75, .inl (fun _ => 0))), (q3, .inl (cI, 100, .inl (fun _ => 0))), (q4, .inl (cI, 15, .inl (fun _ => 0)))] H := hP
  have hD : va_D A [(h0, .inr (3, [.null, .ref q1, .ref q4, .int 0, .int 0, .int 0, .int 0])), (q1, .inr (2, [.ref q2, .int 0, .ref q3, .int 1])), (q2, .inl (cI, 75, .inl (fun _ => 0))), (q3, .inl (cI, 100, .inl (fun _ => 0))), (q4, .inl (cI, 15, .inl (fun _ => 0)))] := hD
  refine lv_aload_n hx hb d_Day_init_38 rfl (lv_at hl 0 rfl) ?_
  refine lv_iconst (v := 0) hx hb d_Day_init_39 (by decide) ?_
  refine va_put (ci := 3) (v := .int 0) (ty := .int) (C := "MiddleOne$Day") (T := F_Day) (N := 7) hx hb hts j_Day t_Day t_Day_ok n_Day hown hK hP hD hS 0 rfl rfl 6 (by decide) (hts _ iw_34) (fun _ h9 => h9) rfl (by decide +kernel) rfl rfl (Nat.le_of_ble_eq_true rfl) d_Day_init_40 (fun H locs hP hD hS => ?_)
  have hP : va_P D cls [(h0, .inr (3, [.null, .ref q1, .ref q4, .int 0, .int 0, .int 0, .int 0])), (q1, .inr (2, [.ref q2, .int 0, .ref q3, .int 1])), (q2, .inl (cI, 75, .inl (fun _ => 0))), (q3, .inl (cI, 100, .inl (fun _ => 0))), (q4, .inl (cI, 15, .inl (fun _ => 0)))] H := hP
  have hD : va_D A [(h0, .inr (3, [.null, .ref q1, .ref q4, .int 0, .int 0, .int 0, .int 0])), (q1, .inr (2, [.ref q2, .int 0, .ref q3, .int 1])), (q2, .inl (cI, 75, .inl (fun _ => 0))), (q3, .inl (cI, 100, .inl (fun _ => 0))), (q4, .inl (cI, 15, .inl (fun _ => 0)))] := hD
  refine lv_aload_n hx hb d_Day_init_43 rfl (lv_at hl 0 rfl) ?_
  refine lv_aload_n hx hb d_Day_init_44 rfl (lv_at hl 1 rfl) ?_
  refine va_putF (ci := 3) (v := .ref a1) (ty := .object "MiddleOne$Picker") (C := "MiddleOne$Day") (T := F_Day) (N := 7) hx hb hts j_Day t_Day t_Day_ok n_Day hown hK hP hD hS 0 rfl rfl 0 (by decide) (hts _ iw_35) (fun _ h9 => h9) rfl hin rfl (by decide +kernel) rfl rfl (Nat.le_of_ble_eq_true rfl) d_Day_init_45 (fun H locs hP hD hS => ?_)
  have hP : va_P D cls [(h0, .inr (3, [.ref a1, .ref q1, .ref q4, .int 0, .int 0, .int 0, .int 0])), (q1, .inr (2, [.ref q2, .int 0, .ref q3, .int 1])), (q2, .inl (cI, 75, .inl (fun _ => 0))), (q3, .inl (cI, 100, .inl (fun _ => 0))), (q4, .inl (cI, 15, .inl (fun _ => 0)))] H := hP
  have hD : va_D A [(h0, .inr (3, [.ref a1, .ref q1, .ref q4, .int 0, .int 0, .int 0, .int 0])), (q1, .inr (2, [.ref q2, .int 0, .ref q3, .int 1])), (q2, .inl (cI, 75, .inl (fun _ => 0))), (q3, .inl (cI, 100, .inl (fun _ => 0))), (q4, .inl (cI, 15, .inl (fun _ => 0)))] := hD
  refine W.widen (k := 4) (n := 194) (Nat.le_of_ble_eq_true rfl) (Nat.le_of_ble_eq_true rfl) ?_
  exact W.vret hx hb hr (fun t ht hW => ⟨⟨(), rfl, trivial, q1, q2, q3, q4, by rw [ht]; exact hP, hD⟩, hS.F ht⟩) hS.2.2 d_Day_init_48
set_option maxHeartbeats 4000000 in
set_option maxRecDepth 100000 in
theorem c_Wishes_init (l : Launch) (D : va_G) (cI cL : ClassId) (h0 a1 a2 a3 sz : Nat) : Met l y_Wishes_init (.code y_Wishes_init prog_12_method_1_code 4 none :: TB) ({ frames := 1, cells := 0, slots := 0, locals := 12 }) (va_Pc [.ref h0, .ref a1, .ref a2, .ref a3] (fun U => U.heap.size = sz ∧ va_P D cls [(h0, .inr (10, [.null, .null, .null]))] U.heap ∧ va_K D cls (am_tys cI cL) U ∧ va_D (fun _ => True) [(h0, .inr (10, [.null, .null, .null]))] ∧ nst U)) (va_Qv (fun _ : Unit => True) (fun _ t => va_P D cls [(h0, .inr (10, [.ref a1, .ref a2, .ref a3]))] t.heap ∧ va_D (va_A [(h0, .inr (10, [.null, .null, .null]))] sz) [(h0, .inr (10, [.ref a1, .ref a2, .ref a3]))]) (va_A [(h0, .inr (10, [.null, .null, .null]))] sz)) 0 0 (va_A [(h0, .inr (10, [.null, .null, .null]))] sz) := by
  refine Met.ofW (cc := prog_12_method_1_code) (maxL := 4) (ret := none) (by decide +kernel) rfl ?_
  intro p e s m args below meth c s₁ B hml hv
  obtain ⟨rfl, hsz, hP, hK, hD0, hN⟩ := hv
  have hx := B.exec
  have hb := B.bytes
  have hr := B.returns
  have hts0 := atoms_spec (ws := .code y_Wishes_init prog_12_method_1_code 4 none :: TB) B.pre
  have hts : ∀ w ∈ TB, w.before ([.ref h0, .ref a1, .ref a2, .ref a3] : List Value).toArray s = true := fun w hw => hts0 w (List.mem_cons_of_mem _ hw)
  have hown : s.vm.findClass "MiddleOne$Wishes" = some m.cls := findClass_of_methodNamed B.named
  have hlocks := B.notSynchronized
  have hin : meth.name = "<init>" := (name_of_methodNamed B.named B.method).1
  subst hsz
  have hD := hD0.self (sz := s.heap.size)
  generalize hAe : va_A [(h0, .inr (10, [.null, .null, .null]))] s.heap.size = A at hD ⊢
  have hA : ∀ q : Nat, s.heap.size ≤ q → A q := fun q h => by rw [← hAe]; exact Or.inr h
  have hS : va_S A s.heap s.heap [] := va_S.rf
  have hP : va_P D cls [(h0, .inr (10, [.null, .null, .null]))] s.heap := hP
  have hl := lv_entry ([.ref h0, .ref a1, .ref a2, .ref a3]) (n := 4) (Nat.le_of_ble_eq_true rfl)
  rw [lg_entry_eq]
  generalize (lg_sl ([.ref h0, .ref a1, .ref a2, .ref a3]) ++ List.replicate (4 - (lg_sl ([.ref h0, .ref a1, .ref a2, .ref a3])).length) Slot.unset).toArray = ls at hl ⊢
  have hl : lv_has ls 4 [(0, .ref h0), (1, .ref a1), (2, .ref a2), (3, .ref a3)] := hl
  refine lv_aload_n hx hb d_Wishes_init_0 rfl (lv_at hl 0 rfl) ?_
  refine W.objInit hx hb hown (hts _ iw_36) (hts _ iw_1) (hts _ iw_2) rfl (by rw [hml]; exact hl.1) rfl d_Wishes_init_1 (Nat.le_of_ble_eq_true rfl) (Nat.le_of_ble_eq_true rfl) ?_
  refine W.eq (g2 := F0 m 4 ls []) rfl ?_
  refine lv_aload_n hx hb d_Wishes_init_4 rfl (lv_at hl 0 rfl) ?_
  refine lv_aload_n hx hb d_Wishes_init_5 rfl (lv_at hl 1 rfl) ?_
  refine va_putF (ci := 10) (v := .ref a1) (ty := .object "MiddleOne$Crowd") (C := "MiddleOne$Wishes") (T := F_Wishes) (N := 3) hx hb hts j_Wishes t_Wishes t_Wishes_ok n_Wishes hown hK hP hD hS 0 rfl rfl 0 (by decide) (hts _ iw_37) (fun _ h9 => h9) rfl hin rfl (by decide +kernel) rfl rfl (Nat.le_of_ble_eq_true rfl) d_Wishes_init_6 (fun H locs hP hD hS => ?_)
  have hP : va_P D cls [(h0, .inr (10, [.ref a1, .null, .null]))] H := hP
  have hD : va_D A [(h0, .inr (10, [.ref a1, .null, .null]))] := hD
  refine lv_aload_n hx hb d_Wishes_init_9 rfl (lv_at hl 0 rfl) ?_
  refine lv_aload_n hx hb d_Wishes_init_10 rfl (lv_at hl 2 rfl) ?_
  refine va_putF (ci := 10) (v := .ref a2) (ty := .object "MiddleOne$Day") (C := "MiddleOne$Wishes") (T := F_Wishes) (N := 3) hx hb hts j_Wishes t_Wishes t_Wishes_ok n_Wishes hown hK hP hD hS 0 rfl rfl 1 (by decide) (hts _ iw_38) (fun _ h9 => h9) rfl hin rfl (by decide +kernel) rfl rfl (Nat.le_of_ble_eq_true rfl) d_Wishes_init_11 (fun H locs hP hD hS => ?_)
  have hP : va_P D cls [(h0, .inr (10, [.ref a1, .ref a2, .null]))] H := hP
  have hD : va_D A [(h0, .inr (10, [.ref a1, .ref a2, .null]))] := hD
  refine lv_aload_n hx hb d_Wishes_init_14 rfl (lv_at hl 0 rfl) ?_
  refine lv_aload_n hx hb d_Wishes_init_15 rfl (lv_at hl 3 rfl) ?_
  refine va_putF (ci := 10) (v := .ref a3) (ty := .object "MiddleOne$Picker") (C := "MiddleOne$Wishes") (T := F_Wishes) (N := 3) hx hb hts j_Wishes t_Wishes t_Wishes_ok n_Wishes hown hK hP hD hS 0 rfl rfl 2 (by decide) (hts _ iw_39) (fun _ h9 => h9) rfl hin rfl (by decide +kernel) rfl rfl (Nat.le_of_ble_eq_true rfl) d_Wishes_init_16 (fun H locs hP hD hS => ?_)
  have hP : va_P D cls [(h0, .inr (10, [.ref a1, .ref a2, .ref a3]))] H := hP
  have hD : va_D A [(h0, .inr (10, [.ref a1, .ref a2, .ref a3]))] := hD
  refine W.widen (k := 0) (n := 0) (Nat.le_of_ble_eq_true rfl) (Nat.le_of_ble_eq_true rfl) ?_
  exact W.vret hx hb hr (fun t ht hW => ⟨⟨(), rfl, trivial, by rw [ht]; exact hP, hD⟩, hS.F ht⟩) hS.2.2 d_Wishes_init_19
set_option maxHeartbeats 4000000 in
set_option maxRecDepth 100000 in
theorem c_Seen_init (l : Launch) (D : va_G) (cI cL : ClassId) (h0 a1 a2 a3 sz : Nat) : Met l y_Seen_init (.code y_Seen_init prog_10_method_1_code 4 none :: TB) ({ frames := 1, cells := 0, slots := 0, locals := 12 }) (va_Pc [.ref h0, .ref a1, .ref a2, .ref a3] (fun U => U.heap.size = sz ∧ va_P D cls [(h0, .inr (8, [.null, .null, .null]))] U.heap ∧ va_K D cls (am_tys cI cL) U ∧ va_D (fun _ => True) [(h0, .inr (8, [.null, .null, .null]))] ∧ nst U)) (va_Qv (fun _ : Unit => True) (fun _ t => va_P D cls [(h0, .inr (8, [.ref a1, .ref a2, .ref a3]))] t.heap ∧ va_D (va_A [(h0, .inr (8, [.null, .null, .null]))] sz) [(h0, .inr (8, [.ref a1, .ref a2, .ref a3]))]) (va_A [(h0, .inr (8, [.null, .null, .null]))] sz)) 0 0 (va_A [(h0, .inr (8, [.null, .null, .null]))] sz) := by
  refine Met.ofW (cc := prog_10_method_1_code) (maxL := 4) (ret := none) (by decide +kernel) rfl ?_
  intro p e s m args below meth c s₁ B hml hv
  obtain ⟨rfl, hsz, hP, hK, hD0, hN⟩ := hv
  have hx := B.exec
  have hb := B.bytes
  have hr := B.returns
  have hts0 := atoms_spec (ws := .code y_Seen_init prog_10_method_1_code 4 none :: TB) B.pre
  have hts : ∀ w ∈ TB, w.before ([.ref h0, .ref a1, .ref a2, .ref a3] : List Value).toArray s = true := fun w hw => hts0 w (List.mem_cons_of_mem _ hw)
  have hown : s.vm.findClass "MiddleOne$Seen" = some m.cls := findClass_of_methodNamed B.named
  have hlocks := B.notSynchronized
  have hin : meth.name = "<init>" := (name_of_methodNamed B.named B.method).1
  subst hsz
  have hD := hD0.self (sz := s.heap.size)
  generalize hAe : va_A [(h0, .inr (8, [.null, .null, .null]))] s.heap.size = A at hD ⊢
  have hA : ∀ q : Nat, s.heap.size ≤ q → A q := fun q h => by rw [← hAe]; exact Or.inr h
  have hS : va_S A s.heap s.heap [] := va_S.rf
  have hP : va_P D cls [(h0, .inr (8, [.null, .null, .null]))] s.heap := hP
  have hl := lv_entry ([.ref h0, .ref a1, .ref a2, .ref a3]) (n := 4) (Nat.le_of_ble_eq_true rfl)
  rw [lg_entry_eq]
  generalize (lg_sl ([.ref h0, .ref a1, .ref a2, .ref a3]) ++ List.replicate (4 - (lg_sl ([.ref h0, .ref a1, .ref a2, .ref a3])).length) Slot.unset).toArray = ls at hl ⊢
  have hl : lv_has ls 4 [(0, .ref h0), (1, .ref a1), (2, .ref a2), (3, .ref a3)] := hl
  refine lv_aload_n hx hb d_Seen_init_0 rfl (lv_at hl 0 rfl) ?_
  refine W.objInit hx hb hown (hts _ iw_40) (hts _ iw_1) (hts _ iw_2) rfl (by rw [hml]; exact hl.1) rfl d_Seen_init_1 (Nat.le_of_ble_eq_true rfl) (Nat.le_of_ble_eq_true rfl) ?_
  refine W.eq (g2 := F0 m 4 ls []) rfl ?_
  refine lv_aload_n hx hb d_Seen_init_4 rfl (lv_at hl 0 rfl) ?_
  refine lv_aload_n hx hb d_Seen_init_5 rfl (lv_at hl 1 rfl) ?_
  refine va_putF (ci := 8) (v := .ref a1) (ty := .object "MiddleOne$Crowd") (C := "MiddleOne$Seen") (T := F_Seen) (N := 3) hx hb hts j_Seen t_Seen t_Seen_ok n_Seen hown hK hP hD hS 0 rfl rfl 0 (by decide) (hts _ iw_41) (fun _ h9 => h9) rfl hin rfl (by decide +kernel) rfl rfl (Nat.le_of_ble_eq_true rfl) d_Seen_init_6 (fun H locs hP hD hS => ?_)
  have hP : va_P D cls [(h0, .inr (8, [.ref a1, .null, .null]))] H := hP
  have hD : va_D A [(h0, .inr (8, [.ref a1, .null, .null]))] := hD
  refine lv_aload_n hx hb d_Seen_init_9 rfl (lv_at hl 0 rfl) ?_
  refine lv_aload_n hx hb d_Seen_init_10 rfl (lv_at hl 2 rfl) ?_
  refine va_putF (ci := 8) (v := .ref a2) (ty := .object "MiddleOne$Day") (C := "MiddleOne$Seen") (T := F_Seen) (N := 3) hx hb hts j_Seen t_Seen t_Seen_ok n_Seen hown hK hP hD hS 0 rfl rfl 1 (by decide) (hts _ iw_42) (fun _ h9 => h9) rfl hin rfl (by decide +kernel) rfl rfl (Nat.le_of_ble_eq_true rfl) d_Seen_init_11 (fun H locs hP hD hS => ?_)
  have hP : va_P D cls [(h0, .inr (8, [.ref a1, .ref a2, .null]))] H := hP
  have hD : va_D A [(h0, .inr (8, [.ref a1, .ref a2, .null]))] := hD
  refine lv_aload_n hx hb d_Seen_init_14 rfl (lv_at hl 0 rfl) ?_
  refine lv_aload_n hx hb d_Seen_init_15 rfl (lv_at hl 3 rfl) ?_
  refine va_putF (ci := 8) (v := .ref a3) (ty := .object "MiddleOne$Shelves") (C := "MiddleOne$Seen") (T := F_Seen) (N := 3) hx hb hts j_Seen t_Seen t_Seen_ok n_Seen hown hK hP hD hS 0 rfl rfl 2 (by decide) (hts _ iw_43) (fun _ h9 => h9) rfl hin rfl (by decide +kernel) rfl rfl (Nat.le_of_ble_eq_true rfl) d_Seen_init_16 (fun H locs hP hD hS => ?_)
  have hP : va_P D cls [(h0, .inr (8, [.ref a1, .ref a2, .ref a3]))] H := hP
  have hD : va_D A [(h0, .inr (8, [.ref a1, .ref a2, .ref a3]))] := hD
  refine W.widen (k := 0) (n := 0) (Nat.le_of_ble_eq_true rfl) (Nat.le_of_ble_eq_true rfl) ?_
  exact W.vret hx hb hr (fun t ht hW => ⟨⟨(), rfl, trivial, by rw [ht]; exact hP, hD⟩, hS.F ht⟩) hS.2.2 d_Seen_init_19
set_option maxHeartbeats 4000000 in
set_option maxRecDepth 100000 in
theorem c_Changes_init (l : Launch) (D : va_G) (cI cL : ClassId) (h0 a1 sz : Nat) : Met l y_Changes_init (.code y_Changes_init prog_3_method_1_code 2 none :: TB) ({ frames := 1, cells := 4, slots := 160, locals := 12 }) (va_Pc [.ref h0, .ref a1] (fun U => U.heap.size = sz ∧ va_P D cls [(h0, .inr (1, [.null, .null, .null, .null, .null, .int 0, .int 0]))] U.heap ∧ va_K D cls (am_tys cI cL) U ∧ va_D (fun _ => True) [(h0, .inr (1, [.null, .null, .null, .null, .null, .int 0, .int 0]))] ∧ nst U)) (va_Qv (fun _ : Unit => True) (fun _ t => ∃ q1 q2 q3 q4, va_P D cls [(h0, .inr (1, [.ref a1, .ref q1, .ref q2, .ref q3, .ref q4, .int 0, .int 0])), (q1, .inl (cI, 40, .inl (fun _ => 0))), (q2, .inl (cI, 40, .inl (fun _ => 0))), (q3, .inl (cI, 40, .inl (fun _ => 0))), (q4, .inl (cI, 40, .inl (fun _ => 0)))] t.heap ∧ va_D (va_A [(h0, .inr (1, [.null, .null, .null, .null, .null, .int 0, .int 0]))] sz) [(h0, .inr (1, [.ref a1, .ref q1, .ref q2, .ref q3, .ref q4, .int 0, .int 0])), (q1, .inl (cI, 40, .inl (fun _ => 0))), (q2, .inl (cI, 40, .inl (fun _ => 0))), (q3, .inl (cI, 40, .inl (fun _ => 0))), (q4, .inl (cI, 40, .inl (fun _ => 0)))]) (va_A [(h0, .inr (1, [.null, .null, .null, .null, .null, .int 0, .int 0]))] sz)) 4 160 (va_A [(h0, .inr (1, [.null, .null, .null, .null, .null, .int 0, .int 0]))] sz) := by
  refine Met.ofW (cc := prog_3_method_1_code) (maxL := 2) (ret := none) (by decide +kernel) rfl ?_
  intro p e s m args below meth c s₁ B hml hv
  obtain ⟨rfl, hsz, hP, hK, hD0, hN⟩ := hv
  have hx := B.exec
  have hb := B.bytes
  have hr := B.returns
  have hts0 := atoms_spec (ws := .code y_Changes_init prog_3_method_1_code 2 none :: TB) B.pre
  have hts : ∀ w ∈ TB, w.before ([.ref h0, .ref a1] : List Value).toArray s = true := fun w hw => hts0 w (List.mem_cons_of_mem _ hw)
  have hown : s.vm.findClass "MiddleOne$Changes" = some m.cls := findClass_of_methodNamed B.named
  have hlocks := B.notSynchronized
  have hin : meth.name = "<init>" := (name_of_methodNamed B.named B.method).1
  subst hsz
  have hD := hD0.self (sz := s.heap.size)
  generalize hAe : va_A [(h0, .inr (1, [.null, .null, .null, .null, .null, .int 0, .int 0]))] s.heap.size = A at hD ⊢
  have hA : ∀ q : Nat, s.heap.size ≤ q → A q := fun q h => by rw [← hAe]; exact Or.inr h
  have hS : va_S A s.heap s.heap [] := va_S.rf
  have hP : va_P D cls [(h0, .inr (1, [.null, .null, .null, .null, .null, .int 0, .int 0]))] s.heap := hP
  have hl := lv_entry ([.ref h0, .ref a1]) (n := 2) (Nat.le_of_ble_eq_true rfl)
  rw [lg_entry_eq]
  generalize (lg_sl ([.ref h0, .ref a1]) ++ List.replicate (2 - (lg_sl ([.ref h0, .ref a1])).length) Slot.unset).toArray = ls at hl ⊢
  have hl : lv_has ls 2 [(0, .ref h0), (1, .ref a1)] := hl
  refine lv_aload_n hx hb d_Changes_init_0 rfl (lv_at hl 0 rfl) ?_
  refine W.objInit hx hb hown (hts _ iw_44) (hts _ iw_1) (hts _ iw_2) rfl (by rw [hml]; exact hl.1) rfl d_Changes_init_1 (Nat.le_of_ble_eq_true rfl) (Nat.le_of_ble_eq_true rfl) ?_
  refine W.eq (g2 := F0 m 4 ls []) rfl ?_
  refine lv_aload_n hx hb d_Changes_init_4 rfl (lv_at hl 0 rfl) ?_
  refine lv_bipush (v := 40) hx hb d_Changes_init_5 (by decide) ?_
  refine ck_newI hx hb hts hK hP hD hS hA (N := 40) (by decide) (by decide) (by decide) (Nat.le_of_ble_eq_true rfl) (Nat.le_of_ble_eq_true rfl) d_Changes_init_7 (fun q1 H hP hD hS => ?_)
  have hP : va_P D cls [(h0, .inr (1, [.null, .null, .null, .null, .null, .int 0, .int 0])), (q1, .inl (cI, 40, .inl (fun _ => 0)))] H := hP
  have hD : va_D A [(h0, .inr (1, [.null, .null, .null, .null, .null, .int 0, .int 0])), (q1, .inl (cI, 40, .inl (fun _ => 0)))] := hD
  refine va_putF (ci := 1) (v := .ref q1) (ty := .array .int) (C := "MiddleOne$Changes") (T := F_Changes) (N := 7) hx hb hts j_Changes t_Changes t_Changes_ok n_Changes hown hK hP hD hS 0 rfl rfl 1 (by decide) (hts _ iw_45) (fun _ h9 => h9) rfl hin rfl (by decide +kernel) rfl rfl (Nat.le_of_ble_eq_true rfl) d_Changes_init_9 (fun H locs hP hD hS => ?_)
  have hP : va_P D cls [(h0, .inr (1, [.null, .ref q1, .null, .null, .null, .int 0, .int 0])), (q1, .inl (cI, 40, .inl (fun _ => 0)))] H := hP
  have hD : va_D A [(h0, .inr (1, [.null, .ref q1, .null, .null, .null, .int 0, .int 0])), (q1, .inl (cI, 40, .inl (fun _ => 0)))] := hD
  refine lv_aload_n hx hb d_Changes_init_12 rfl (lv_at hl 0 rfl) ?_
  refine lv_bipush (v := 40) hx hb d_Changes_init_13 (by decide) ?_
  refine ck_newI hx hb hts hK hP hD hS hA (N := 40) (by decide) (by decide) (by decide) (Nat.le_of_ble_eq_true rfl) (Nat.le_of_ble_eq_true rfl) d_Changes_init_15 (fun q2 H hP hD hS => ?_)
  have hP : va_P D cls [(h0, .inr (1, [.null, .ref q1, .null, .null, .null, .int 0, .int 0])), (q1, .inl (cI, 40, .inl (fun _ => 0))), (q2, .inl (cI, 40, .inl (fun _ => 0)))] H := hP
  have hD : va_D A [(h0, .inr (1, [.null, .ref q1, .null, .null, .null, .int 0, .int 0])), (q1, .inl (cI, 40, .inl (fun _ => 0))), (q2, .inl (cI, 40, .inl (fun _ => 0)))] := hD
  refine va_putF (ci := 1) (v := .ref q2) (ty := .array .int) (C := "MiddleOne$Changes") (T := F_Changes) (N := 7) hx hb hts j_Changes t_Changes t_Changes_ok n_Changes hown hK hP hD hS 0 rfl rfl 2 (by decide) (hts _ iw_46) (fun _ h9 => h9) rfl hin rfl (by decide +kernel) rfl rfl (Nat.le_of_ble_eq_true rfl) d_Changes_init_17 (fun H locs hP hD hS => ?_)
  have hP : va_P D cls [(h0, .inr (1, [.null, .ref q1, .ref q2, .null, .null, .int 0, .int 0])), (q1, .inl (cI, 40, .inl (fun _ => 0))), (q2, .inl (cI, 40, .inl (fun _ => 0)))] H := hP
  have hD : va_D A [(h0, .inr (1, [.null, .ref q1, .ref q2, .null, .null, .int 0, .int 0])), (q1, .inl (cI, 40, .inl (fun _ => 0))), (q2, .inl (cI, 40, .inl (fun _ => 0)))] := hD
  refine lv_aload_n hx hb d_Changes_init_20 rfl (lv_at hl 0 rfl) ?_
  refine lv_bipush (v := 40) hx hb d_Changes_init_21 (by decide) ?_
  refine ck_newI hx hb hts hK hP hD hS hA (N := 40) (by decide) (by decide) (by decide) (Nat.le_of_ble_eq_true rfl) (Nat.le_of_ble_eq_true rfl) d_Changes_init_23 (fun q3 H hP hD hS => ?_)
  have hP : va_P D cls [(h0, .inr (1, [.null, .ref q1, .ref q2, .null, .null, .int 0, .int 0])), (q1, .inl (cI, 40, .inl (fun _ => 0))), (q2, .inl (cI, 40, .inl (fun _ => 0))), (q3, .inl (cI, 40, .inl (fun _ => 0)))] H := hP
  have hD : va_D A [(h0, .inr (1, [.null, .ref q1, .ref q2, .null, .null, .int 0, .int 0])), (q1, .inl (cI, 40, .inl (fun _ => 0))), (q2, .inl (cI, 40, .inl (fun _ => 0))), (q3, .inl (cI, 40, .inl (fun _ => 0)))] := hD
  refine va_putF (ci := 1) (v := .ref q3) (ty := .array .int) (C := "MiddleOne$Changes") (T := F_Changes) (N := 7) hx hb hts j_Changes t_Changes t_Changes_ok n_Changes hown hK hP hD hS 0 rfl rfl 3 (by decide) (hts _ iw_47) (fun _ h9 => h9) rfl hin rfl (by decide +kernel) rfl rfl (Nat.le_of_ble_eq_true rfl) d_Changes_init_25 (fun H locs hP hD hS => ?_)
  have hP : va_P D cls [(h0, .inr (1, [.null, .ref q1, .ref q2, .ref q3, .null, .int 0, .int 0])), (q1, .inl (cI, 40, .inl (fun _ => 0))), (q2, .inl (cI, 40, .inl (fun _ => 0))), (q3, .inl (cI, 40, .inl (fun _ => 0)))] H := hP
  have hD : va_D A [(h0, .inr (1, [.null, .ref q1, .ref q2, .ref q3, .null, .int 0, .int 0])), (q1, .inl (cI, 40, .inl (fun _ => 0))), (q2, .inl (cI, 40, .inl (fun _ => 0))), (q3, .inl (cI, 40, .inl (fun _ => 0)))] := hD
  refine lv_aload_n hx hb d_Changes_init_28 rfl (lv_at hl 0 rfl) ?_
  refine lv_bipush (v := 40) hx hb d_Changes_init_29 (by decide) ?_
  refine ck_newI hx hb hts hK hP hD hS hA (N := 40) (by decide) (by decide) (by decide) (Nat.le_of_ble_eq_true rfl) (Nat.le_of_ble_eq_true rfl) d_Changes_init_31 (fun q4 H hP hD hS => ?_)
  have hP : va_P D cls [(h0, .inr (1, [.null, .ref q1, .ref q2, .ref q3, .null, .int 0, .int 0])), (q1, .inl (cI, 40, .inl (fun _ => 0))), (q2, .inl (cI, 40, .inl (fun _ => 0))), (q3, .inl (cI, 40, .inl (fun _ => 0))), (q4, .inl (cI, 40, .inl (fun _ => 0)))] H := hP
  have hD : va_D A [(h0, .inr (1, [.null, .ref q1, .ref q2, .ref q3, .null, .int 0, .int 0])), (q1, .inl (cI, 40, .inl (fun _ => 0))), (q2, .inl (cI, 40, .inl (fun _ => 0))), (q3, .inl (cI, 40, .inl (fun _ => 0))), (q4, .inl (cI, 40, .inl (fun _ => 0)))] := hD
  refine va_putF (ci := 1) (v := .ref q4) (ty := .array .int) (C := "MiddleOne$Changes") (T := F_Changes) (N := 7) hx hb hts j_Changes t_Changes t_Changes_ok n_Changes hown hK hP hD hS 0 rfl rfl 4 (by decide) (hts _ iw_48) (fun _ h9 => h9) rfl hin rfl (by decide +kernel) rfl rfl (Nat.le_of_ble_eq_true rfl) d_Changes_init_33 (fun H locs hP hD hS => ?_)
  have hP : va_P D cls [(h0, .inr (1, [.null, .ref q1, .ref q2, .ref q3, .ref q4, .int 0, .int 0])), (q1, .inl (cI, 40, .inl (fun _ => 0))), (q2, .inl (cI, 40, .inl (fun _ => 0))), (q3, .inl (cI, 40, .inl (fun _ => 0))), (q4, .inl (cI, 40, .inl (fun _ => 0)))] H := hP
  have hD : va_D A [(h0, .inr (1, [.null, .ref q1, .ref q2, .ref q3, .ref q4, .int 0, .int 0])), (q1, .inl (cI, 40, .inl (fun _ => 0))), (q2, .inl (cI, 40, .inl (fun _ => 0))), (q3, .inl (cI, 40, .inl (fun _ => 0))), (q4, .inl (cI, 40, .inl (fun _ => 0)))] := hD
  refine lv_aload_n hx hb d_Changes_init_36 rfl (lv_at hl 0 rfl) ?_
  refine lv_iconst (v := 0) hx hb d_Changes_init_37 (by decide) ?_
  refine va_put (ci := 1) (v := .int 0) (ty := .int) (C := "MiddleOne$Changes") (T := F_Changes) (N := 7) hx hb hts j_Changes t_Changes t_Changes_ok n_Changes hown hK hP hD hS 0 rfl rfl 5 (by decide) (hts _ iw_49) (fun _ h9 => h9) rfl (by decide +kernel) rfl rfl (Nat.le_of_ble_eq_true rfl) d_Changes_init_38 (fun H locs hP hD hS => ?_)
  have hP : va_P D cls [(h0, .inr (1, [.null, .ref q1, .ref q2, .ref q3, .ref q4, .int 0, .int 0])), (q1, .inl (cI, 40, .inl (fun _ => 0))), (q2, .inl (cI, 40, .inl (fun _ => 0))), (q3, .inl (cI, 40, .inl (fun _ => 0))), (q4, .inl (cI, 40, .inl (fun _ => 0)))] H := hP
  have hD : va_D A [(h0, .inr (1, [.null, .ref q1, .ref q2, .ref q3, .ref q4, .int 0, .int 0])), (q1, .inl (cI, 40, .inl (fun _ => 0))), (q2, .inl (cI, 40, .inl (fun _ => 0))), (q3, .inl (cI, 40, .inl (fun _ => 0))), (q4, .inl (cI, 40, .inl (fun _ => 0)))] := hD
  refine lv_aload_n hx hb d_Changes_init_41 rfl (lv_at hl 0 rfl) ?_
  refine lv_iconst (v := 0) hx hb d_Changes_init_42 (by decide) ?_
  refine va_put (ci := 1) (v := .int 0) (ty := .int) (C := "MiddleOne$Changes") (T := F_Changes) (N := 7) hx hb hts j_Changes t_Changes t_Changes_ok n_Changes hown hK hP hD hS 0 rfl rfl 6 (by decide) (hts _ iw_50) (fun _ h9 => h9) rfl (by decide +kernel) rfl rfl (Nat.le_of_ble_eq_true rfl) d_Changes_init_43 (fun H locs hP hD hS => ?_)
  have hP : va_P D cls [(h0, .inr (1, [.null, .ref q1, .ref q2, .ref q3, .ref q4, .int 0, .int 0])), (q1, .inl (cI, 40, .inl (fun _ => 0))), (q2, .inl (cI, 40, .inl (fun _ => 0))), (q3, .inl (cI, 40, .inl (fun _ => 0))), (q4, .inl (cI, 40, .inl (fun _ => 0)))] H := hP
  have hD : va_D A [(h0, .inr (1, [.null, .ref q1, .ref q2, .ref q3, .ref q4, .int 0, .int 0])), (q1, .inl (cI, 40, .inl (fun _ => 0))), (q2, .inl (cI, 40, .inl (fun _ => 0))), (q3, .inl (cI, 40, .inl (fun _ => 0))), (q4, .inl (cI, 40, .inl (fun _ => 0)))] := hD
  refine lv_aload_n hx hb d_Changes_init_46 rfl (lv_at hl 0 rfl) ?_
  refine lv_aload_n hx hb d_Changes_init_47 rfl (lv_at hl 1 rfl) ?_
  refine va_putF (ci := 1) (v := .ref a1) (ty := .object "MiddleOne$Crowd") (C := "MiddleOne$Changes") (T := F_Changes) (N := 7) hx hb hts j_Changes t_Changes t_Changes_ok n_Changes hown hK hP hD hS 0 rfl rfl 0 (by decide) (hts _ iw_51) (fun _ h9 => h9) rfl hin rfl (by decide +kernel) rfl rfl (Nat.le_of_ble_eq_true rfl) d_Changes_init_48 (fun H locs hP hD hS => ?_)
  have hP : va_P D cls [(h0, .inr (1, [.ref a1, .ref q1, .ref q2, .ref q3, .ref q4, .int 0, .int 0])), (q1, .inl (cI, 40, .inl (fun _ => 0))), (q2, .inl (cI, 40, .inl (fun _ => 0))), (q3, .inl (cI, 40, .inl (fun _ => 0))), (q4, .inl (cI, 40, .inl (fun _ => 0)))] H := hP
  have hD : va_D A [(h0, .inr (1, [.ref a1, .ref q1, .ref q2, .ref q3, .ref q4, .int 0, .int 0])), (q1, .inl (cI, 40, .inl (fun _ => 0))), (q2, .inl (cI, 40, .inl (fun _ => 0))), (q3, .inl (cI, 40, .inl (fun _ => 0))), (q4, .inl (cI, 40, .inl (fun _ => 0)))] := hD
  refine W.widen (k := 4) (n := 160) (Nat.le_of_ble_eq_true rfl) (Nat.le_of_ble_eq_true rfl) ?_
  exact W.vret hx hb hr (fun t ht hW => ⟨⟨(), rfl, trivial, q1, q2, q3, q4, by rw [ht]; exact hP, hD⟩, hS.F ht⟩) hS.2.2 d_Changes_init_51
set_option maxHeartbeats 4000000 in
set_option maxRecDepth 100000 in
theorem c_Acts_init (l : Launch) (D : va_G) (cI cL : ClassId) (h0 sz : Nat) : Met l y_Acts_init (.code y_Acts_init prog_2_method_1_code 1 none :: TB) ({ frames := 1, cells := 2, slots := 74, locals := 12 }) (va_Pc [.ref h0] (fun U => U.heap.size = sz ∧ va_P D cls [(h0, .inr (0, [.null, .int 0, .null, .int 0, .int 0, .int 0]))] U.heap ∧ va_K D cls (am_tys cI cL) U ∧ va_D (fun _ => True) [(h0, .inr (0, [.null, .int 0, .null, .int 0, .int 0, .int 0]))] ∧ nst U)) (va_Qv (fun _ : Unit => True) (fun _ t => ∃ q1 q2, va_P D cls [(h0, .inr (0, [.ref q1, .int 0, .ref q2, .int 0, .int 0, .int 0])), (q1, .inl (cI, 50, .inl (fun _ => 0))), (q2, .inl (cI, 24, .inl (fun _ => 0)))] t.heap ∧ va_D (va_A [(h0, .inr (0, [.null, .int 0, .null, .int 0, .int 0, .int 0]))] sz) [(h0, .inr (0, [.ref q1, .int 0, .ref q2, .int 0, .int 0, .int 0])), (q1, .inl (cI, 50, .inl (fun _ => 0))), (q2, .inl (cI, 24, .inl (fun _ => 0)))]) (va_A [(h0, .inr (0, [.null, .int 0, .null, .int 0, .int 0, .int 0]))] sz)) 2 74 (va_A [(h0, .inr (0, [.null, .int 0, .null, .int 0, .int 0, .int 0]))] sz) := by
  refine Met.ofW (cc := prog_2_method_1_code) (maxL := 1) (ret := none) (by decide +kernel) rfl ?_
  intro p e s m args below meth c s₁ B hml hv
  obtain ⟨rfl, hsz, hP, hK, hD0, hN⟩ := hv
  have hx := B.exec
  have hb := B.bytes
  have hr := B.returns
  have hts0 := atoms_spec (ws := .code y_Acts_init prog_2_method_1_code 1 none :: TB) B.pre
  have hts : ∀ w ∈ TB, w.before ([.ref h0] : List Value).toArray s = true := fun w hw => hts0 w (List.mem_cons_of_mem _ hw)
  have hown : s.vm.findClass "MiddleOne$Acts" = some m.cls := findClass_of_methodNamed B.named
  have hlocks := B.notSynchronized
  have hin : meth.name = "<init>" := (name_of_methodNamed B.named B.method).1
  subst hsz
  have hD := hD0.self (sz := s.heap.size)
  generalize hAe : va_A [(h0, .inr (0, [.null, .int 0, .null, .int 0, .int 0, .int 0]))] s.heap.size = A at hD ⊢
  have hA : ∀ q : Nat, s.heap.size ≤ q → A q := fun q h => by rw [← hAe]; exact Or.inr h
  have hS : va_S A s.heap s.heap [] := va_S.rf
  have hP : va_P D cls [(h0, .inr (0, [.null, .int 0, .null, .int 0, .int 0, .int 0]))] s.heap := hP
  have hl := lv_entry ([.ref h0]) (n := 1) (Nat.le_of_ble_eq_true rfl)
  rw [lg_entry_eq]
  generalize (lg_sl ([.ref h0]) ++ List.replicate (1 - (lg_sl ([.ref h0])).length) Slot.unset).toArray = ls at hl ⊢
  have hl : lv_has ls 1 [(0, .ref h0)] := hl
  refine lv_aload_n hx hb d_Acts_init_0 rfl (lv_at hl 0 rfl) ?_
  refine W.objInit hx hb hown (hts _ iw_52) (hts _ iw_1) (hts _ iw_2) rfl (by rw [hml]; exact hl.1) rfl d_Acts_init_1 (Nat.le_of_ble_eq_true rfl) (Nat.le_of_ble_eq_true rfl) ?_
  refine W.eq (g2 := F0 m 4 ls []) rfl ?_
  refine lv_aload_n hx hb d_Acts_init_4 rfl (lv_at hl 0 rfl) ?_
  refine lv_bipush (v := 50) hx hb d_Acts_init_5 (by decide) ?_
  refine ck_newI hx hb hts hK hP hD hS hA (N := 50) (by decide) (by decide) (by decide) (Nat.le_of_ble_eq_true rfl) (Nat.le_of_ble_eq_true rfl) d_Acts_init_7 (fun q1 H hP hD hS => ?_)
  have hP : va_P D cls [(h0, .inr (0, [.null, .int 0, .null, .int 0, .int 0, .int 0])), (q1, .inl (cI, 50, .inl (fun _ => 0)))] H := hP
  have hD : va_D A [(h0, .inr (0, [.null, .int 0, .null, .int 0, .int 0, .int 0])), (q1, .inl (cI, 50, .inl (fun _ => 0)))] := hD
  refine va_putF (ci := 0) (v := .ref q1) (ty := .array .int) (C := "MiddleOne$Acts") (T := F_Acts) (N := 6) hx hb hts j_Acts t_Acts t_Acts_ok n_Acts hown hK hP hD hS 0 rfl rfl 0 (by decide) (hts _ iw_53) (fun _ h9 => h9) rfl hin rfl (by decide +kernel) rfl rfl (Nat.le_of_ble_eq_true rfl) d_Acts_init_9 (fun H locs hP hD hS => ?_)
  have hP : va_P D cls [(h0, .inr (0, [.ref q1, .int 0, .null, .int 0, .int 0, .int 0])), (q1, .inl (cI, 50, .inl (fun _ => 0)))] H := hP
  have hD : va_D A [(h0, .inr (0, [.ref q1, .int 0, .null, .int 0, .int 0, .int 0])), (q1, .inl (cI, 50, .inl (fun _ => 0)))] := hD
  refine lv_aload_n hx hb d_Acts_init_12 rfl (lv_at hl 0 rfl) ?_
  refine lv_iconst (v := 0) hx hb d_Acts_init_13 (by decide) ?_
  refine va_put (ci := 0) (v := .int 0) (ty := .int) (C := "MiddleOne$Acts") (T := F_Acts) (N := 6) hx hb hts j_Acts t_Acts t_Acts_ok n_Acts hown hK hP hD hS 0 rfl rfl 1 (by decide) (hts _ iw_54) (fun _ h9 => h9) rfl (by decide +kernel) rfl rfl (Nat.le_of_ble_eq_true rfl) d_Acts_init_14 (fun H locs hP hD hS => ?_)
  have hP : va_P D cls [(h0, .inr (0, [.ref q1, .int 0, .null, .int 0, .int 0, .int 0])), (q1, .inl (cI, 50, .inl (fun _ => 0)))] H := hP
  have hD : va_D A [(h0, .inr (0, [.ref q1, .int 0, .null, .int 0, .int 0, .int 0])), (q1, .inl (cI, 50, .inl (fun _ => 0)))] := hD
  refine lv_aload_n hx hb d_Acts_init_17 rfl (lv_at hl 0 rfl) ?_
  refine lv_bipush (v := 24) hx hb d_Acts_init_18 (by decide) ?_
  refine ck_newI hx hb hts hK hP hD hS hA (N := 24) (by decide) (by decide) (by decide) (Nat.le_of_ble_eq_true rfl) (Nat.le_of_ble_eq_true rfl) d_Acts_init_20 (fun q2 H hP hD hS => ?_)
  have hP : va_P D cls [(h0, .inr (0, [.ref q1, .int 0, .null, .int 0, .int 0, .int 0])), (q1, .inl (cI, 50, .inl (fun _ => 0))), (q2, .inl (cI, 24, .inl (fun _ => 0)))] H := hP
  have hD : va_D A [(h0, .inr (0, [.ref q1, .int 0, .null, .int 0, .int 0, .int 0])), (q1, .inl (cI, 50, .inl (fun _ => 0))), (q2, .inl (cI, 24, .inl (fun _ => 0)))] := hD
  refine va_putF (ci := 0) (v := .ref q2) (ty := .array .int) (C := "MiddleOne$Acts") (T := F_Acts) (N := 6) hx hb hts j_Acts t_Acts t_Acts_ok n_Acts hown hK hP hD hS 0 rfl rfl 2 (by decide) (hts _ iw_55) (fun _ h9 => h9) rfl hin rfl (by decide +kernel) rfl rfl (Nat.le_of_ble_eq_true rfl) d_Acts_init_22 (fun H locs hP hD hS => ?_)
  have hP : va_P D cls [(h0, .inr (0, [.ref q1, .int 0, .ref q2, .int 0, .int 0, .int 0])), (q1, .inl (cI, 50, .inl (fun _ => 0))), (q2, .inl (cI, 24, .inl (fun _ => 0)))] H := hP
  have hD : va_D A [(h0, .inr (0, [.ref q1, .int 0, .ref q2, .int 0, .int 0, .int 0])), (q1, .inl (cI, 50, .inl (fun _ => 0))), (q2, .inl (cI, 24, .inl (fun _ => 0)))] := hD
  refine lv_aload_n hx hb d_Acts_init_25 rfl (lv_at hl 0 rfl) ?_
  refine lv_iconst (v := 0) hx hb d_Acts_init_26 (by decide) ?_
  refine va_put (ci := 0) (v := .int 0) (ty := .int) (C := "MiddleOne$Acts") (T := F_Acts) (N := 6) hx hb hts j_Acts t_Acts t_Acts_ok n_Acts hown hK hP hD hS 0 rfl rfl 3 (by decide) (hts _ iw_56) (fun _ h9 => h9) rfl (by decide +kernel) rfl rfl (Nat.le_of_ble_eq_true rfl) d_Acts_init_27 (fun H locs hP hD hS => ?_)
  have hP : va_P D cls [(h0, .inr (0, [.ref q1, .int 0, .ref q2, .int 0, .int 0, .int 0])), (q1, .inl (cI, 50, .inl (fun _ => 0))), (q2, .inl (cI, 24, .inl (fun _ => 0)))] H := hP
  have hD : va_D A [(h0, .inr (0, [.ref q1, .int 0, .ref q2, .int 0, .int 0, .int 0])), (q1, .inl (cI, 50, .inl (fun _ => 0))), (q2, .inl (cI, 24, .inl (fun _ => 0)))] := hD
  refine lv_aload_n hx hb d_Acts_init_30 rfl (lv_at hl 0 rfl) ?_
  refine lv_iconst (v := 0) hx hb d_Acts_init_31 (by decide) ?_
  refine va_put (ci := 0) (v := .int 0) (ty := .int) (C := "MiddleOne$Acts") (T := F_Acts) (N := 6) hx hb hts j_Acts t_Acts t_Acts_ok n_Acts hown hK hP hD hS 0 rfl rfl 4 (by decide) (hts _ iw_57) (fun _ h9 => h9) rfl (by decide +kernel) rfl rfl (Nat.le_of_ble_eq_true rfl) d_Acts_init_32 (fun H locs hP hD hS => ?_)
  have hP : va_P D cls [(h0, .inr (0, [.ref q1, .int 0, .ref q2, .int 0, .int 0, .int 0])), (q1, .inl (cI, 50, .inl (fun _ => 0))), (q2, .inl (cI, 24, .inl (fun _ => 0)))] H := hP
  have hD : va_D A [(h0, .inr (0, [.ref q1, .int 0, .ref q2, .int 0, .int 0, .int 0])), (q1, .inl (cI, 50, .inl (fun _ => 0))), (q2, .inl (cI, 24, .inl (fun _ => 0)))] := hD
  refine lv_aload_n hx hb d_Acts_init_35 rfl (lv_at hl 0 rfl) ?_
  refine lv_iconst (v := 0) hx hb d_Acts_init_36 (by decide) ?_
  refine va_put (ci := 0) (v := .int 0) (ty := .int) (C := "MiddleOne$Acts") (T := F_Acts) (N := 6) hx hb hts j_Acts t_Acts t_Acts_ok n_Acts hown hK hP hD hS 0 rfl rfl 5 (by decide) (hts _ iw_58) (fun _ h9 => h9) rfl (by decide +kernel) rfl rfl (Nat.le_of_ble_eq_true rfl) d_Acts_init_37 (fun H locs hP hD hS => ?_)
  have hP : va_P D cls [(h0, .inr (0, [.ref q1, .int 0, .ref q2, .int 0, .int 0, .int 0])), (q1, .inl (cI, 50, .inl (fun _ => 0))), (q2, .inl (cI, 24, .inl (fun _ => 0)))] H := hP
  have hD : va_D A [(h0, .inr (0, [.ref q1, .int 0, .ref q2, .int 0, .int 0, .int 0])), (q1, .inl (cI, 50, .inl (fun _ => 0))), (q2, .inl (cI, 24, .inl (fun _ => 0)))] := hD
  refine W.widen (k := 2) (n := 74) (Nat.le_of_ble_eq_true rfl) (Nat.le_of_ble_eq_true rfl) ?_
  exact W.vret hx hb hr (fun t ht hW => ⟨⟨(), rfl, trivial, q1, q2, by rw [ht]; exact hP, hD⟩, hS.F ht⟩) hS.2.2 d_Acts_init_40
