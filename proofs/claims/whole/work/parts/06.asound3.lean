section AMT
variable {p : Program} {l : Launch} {e : Env} {R : Room} {s : State} {m : MethodId} {args : Array Value} {below : List Frame} {meth : Method} {c : Code} {cells slots : Nat} {Qf : State → Prop}
variable {G : AG} {sts : List (Nat × String × String)} {cls : List vw_C} {D : va_G} {ad : Nat → Nat} {cI cL : ClassId} {A : Nat → Prop} {TB : List Cond} {cc : ByteArray} {nL : Nat} {cx : ACx} {own : String} {rt : Option FieldType} {Cl : AC} {Q : AQ}
def am_rd (cc : ByteArray) (pc : Nat) (v : Option Value) : Prop := match v with
  | none => decode cc pc = .ok (.return_, 1)
  | some (.int _) => decode cc pc = .ok (.ireturn, 1)
  | some (.long _) => decode cc pc = .ok (.lreturn, 1)
  | some (.ref _) => decode cc pc = .ok (.areturn, 1)
  | _ => False
set_option maxHeartbeats 8000000 in
theorem am_step (hx : p.tables.exec = Jvm.exec) (hb : c.code = cc) (hml : c.maxLocals = nL) (hown : s.vm.findClass own = some m.cls) (hts : ∀ w ∈ TB, w.before args s = true) (hTB : ∀ w ∈ TB, goodWord w = true) (hK : va_K D cls (am_tys cI cL) s) (hSt : am_St G sts ad A s s.heap) (hA : ∀ q, s.heap.size ≤ q → A q)
    (hX : am_okX TB cls G own cx) (hX5 : ∀ idx q, cx.2.2.2.2.lookup idx = some q → ∃ C nm, sts.lookup q = some (C, nm) ∧ Cond.fieldLink own idx C nm "[I" ∈ TB) (hSh : ∀ (a ci : Nat) (fs : List (Option Nat)), G.1[a]? = some (.inl (ci, fs)) → ∃ (C : String) (T : u_T) (N : Nat), cls[ci]? = some (C, T, N) ∧ fs.length = N ∧ ∀ k, fs[k]? = some none → (T k).2.2.2 = false)
    (hMt : ∀ (k : Nat) (y : MethodName) (cc : ByteArray) (nL : Nat) (rt : Option FieldType) (cx : ACx), G.2.2[k]? = some (y, cc, nL, rt, cx) → Cond.code y cc nL rt ∈ TB ∧ (y.cls ≠ "java/lang/invoke/MethodHandle" ∧ y.cls ≠ "java/lang/invoke/VarHandle") ∧ nL ≤ 40)
    {rmC : Room} (hrm : rmC.cells = 0 ∧ rmC.slots = 0 ∧ rmC.frames + 1 ≤ R.frames ∧ 96 + rmC.locals ≤ R.locals) (hcs : cells ≤ R.cells ∧ slots ≤ R.slots)
    (hCl : ∀ k as M Q', Cl k as M Q' → ∀ (y : MethodName) (cc' : ByteArray) (nL' : Nat) (rt' : Option FieldType) (cx' : ACx), G.2.2[k]? = some (y, cc', nL', rt', cx') → ∀ sz, Met l y (.code y cc' nL' rt' :: TB) rmC (am_Pc G sts cls D ad cI cL sz as M) (am_Qc G cls D ad cI cL sz M Q') 0 0 (va_A (am_w G.1 ad cI cL M) sz))
    (hClN : ∀ k as M Q', Cl k as M Q' → G.2.2[k]? ≠ none)
    (hR : ∀ (v : Option Value) (M : AM) (H : Heap) (locs : List Loc) (ls : Array Slot) (pc : Nat), Q v M → am_fit rt v → am_rd cc pc v → va_P D cls (am_w G.1 ad cI cL M) H → va_S A s.heap H locs → W p l e R s m args below meth c H locs cells slots Qf (F0 m pc ls (v.map (am_cv ad)).toList)) :
    am_cl G cc cx nL rt Cl Q (am_CW p l e R s m args below meth c cells slots Qf G cls D ad cI cL A nL) := by
  refine ⟨fun pc i len la st M hd hs => ?_, fun pc la la' st M hla h H locs ls hP hD hS hl => h H locs ls hP hD hS (am_lc_sub hl hla)⟩
  intro H locs ls hP hD hS hl
  have hf : ∀ q, va_A (am_w G.1 ad cI cL M) H.size q → A q := by
    intro q h
    rcases h with ⟨k, e, h⟩ | h
    · exact hD.2 k _ h
    · exact hA q (Nat.le_trans hS.1 h)
  have set1 : ∀ (i : Nat) (v : Value) (ls' : Array Slot), v.category = 1 → lv_has ls' nL ((i, am_cv ad v) :: (am_lc ad la).filter (fun q => !(q.1 == i) && !(q.1 + 1 == i && q.2.category == 2))) → lv_has ls' nL (am_lc ad (am_set la i v)) := fun i v ls' hv h => by
    rw [am_lc_set]
    exact am_lvs h (fun q hq => am_set_sub (by rw [am_cat]; exact hv) q hq)
  have set2 : ∀ (i : Nat) (v : Value) (ls' : Array Slot), v.category = 2 → lv_has ls' nL ((i, am_cv ad v) :: (am_lc ad la).filter (fun q => !(q.1 == i) && (!(q.1 == i + 1) && !(q.1 + 1 == i && q.2.category == 2)))) → lv_has ls' nL (am_lc ad (am_set la i v)) := fun i v ls' hv h => by
    rw [am_lc_set]
    exact am_lvs h (fun q hq => am_set_sub2 (by rw [am_cat]; exact hv) q hq)
  cases i
  case iconst n => obtain ⟨rfl, h⟩ := hs; exact lv_iconst hx hb hd rfl (h H locs ls hP hD hS hl)
  case bipush n => obtain ⟨rfl, h⟩ := hs; exact lv_bipush hx hb hd rfl (h H locs ls hP hD hS hl)
  case sipush n => obtain ⟨rfl, h⟩ := hs; exact lv_sipush hx hb hd rfl (h H locs ls hP hD hS hl)
  case lconst n => obtain ⟨rfl, h⟩ := hs; exact lv_lconst hx hb hd rfl (h H locs ls hP hD hS hl)
  case ldc idx => obtain ⟨rfl, v, h1, h⟩ := hs; exact lv_ldc hx hb hown (hts _ (hX.2.2.1 idx v h1)) hd (h H locs ls hP hD hS hl)
  case ldc_w idx => obtain ⟨rfl, v, h1, h⟩ := hs; exact lv_ldcw hx hb hown (hts _ (hX.2.2.1 idx v h1)) hd (h H locs ls hP hD hS hl)
  case ldc2_w idx => obtain ⟨rfl, v, h1, h⟩ := hs; exact lv_ldc2 hx hb hown (hts _ (hX.2.2.2 idx v h1)) hd (h H locs ls hP hD hS hl)
  case iload_n k =>
    obtain ⟨rfl, v, h1, h2, h⟩ := hs
    cases v <;> first | exact h2.elim | exact lv_iload_n hx hb hd rfl (am_lc_at hl h1) (h H locs ls hP hD hS hl)
  case iload k =>
    obtain ⟨rfl, v, h1, h2, h⟩ := hs
    cases v <;> first | exact h2.elim | exact lv_iload hx hb hd (am_lc_at hl h1) (h H locs ls hP hD hS hl)
  case lload_n k =>
    obtain ⟨rfl, v, h1, h2, h⟩ := hs
    cases v <;> first | exact h2.elim | exact lv_lload_n hx hb hd rfl (am_lc_at hl h1) (h H locs ls hP hD hS hl)
  case lload k =>
    obtain ⟨rfl, v, h1, h2, h⟩ := hs
    cases v <;> first | exact h2.elim | exact lv_lload hx hb hd (am_lc_at hl h1) (h H locs ls hP hD hS hl)
  case aload_n k =>
    obtain ⟨rfl, v, h1, h2, h⟩ := hs
    cases v <;> first | exact h2.elim | exact lv_aload_n hx hb hd rfl (am_lc_at hl h1) (h H locs ls hP hD hS hl)
  case aload k =>
    obtain ⟨rfl, v, h1, h2, h⟩ := hs
    cases v <;> first | exact h2.elim | exact lv_aload hx hb hd (am_lc_at hl h1) (h H locs ls hP hD hS hl)
  case istore_n k =>
    obtain ⟨rfl, h⟩ := hs
    unfold am_st at h
    split at h <;> first | exact h.elim | (obtain ⟨h1, h2, h⟩ := h; first | cases h1; done | exact lv_istore_n hx hb hd rfl hl h2 rfl (fun ls' h' => h H locs ls' hP hD hS (set1 _ _ ls' rfl h')))
  case istore k =>
    obtain ⟨rfl, h⟩ := hs
    unfold am_st at h
    split at h <;> first | exact h.elim | (obtain ⟨h1, h2, h⟩ := h; first | cases h1; done | exact lv_istore hx hb hd hl h2 rfl (fun ls' h' => h H locs ls' hP hD hS (set1 _ _ ls' rfl h')))
  case lstore_n k =>
    obtain ⟨rfl, h⟩ := hs
    unfold am_st at h
    split at h <;> first | exact h.elim | (obtain ⟨h1, h2, h⟩ := h; first | cases h1; done | exact lv_lstore_n hx hb hd rfl hl h2 rfl (fun ls' h' => h H locs ls' hP hD hS (set2 _ _ ls' rfl h')))
  case lstore k =>
    obtain ⟨rfl, h⟩ := hs
    unfold am_st at h
    split at h <;> first | exact h.elim | (obtain ⟨h1, h2, h⟩ := h; first | cases h1; done | exact lv_lstore hx hb hd hl h2 rfl (fun ls' h' => h H locs ls' hP hD hS (set2 _ _ ls' rfl h')))
  case astore_n k =>
    obtain ⟨rfl, h⟩ := hs
    unfold am_st at h
    split at h <;> first | exact h.elim | (obtain ⟨h1, h2, h⟩ := h; first | cases h1; done | exact lv_astore_n hx hb hd rfl hl h2 rfl (fun ls' h' => h H locs ls' hP hD hS (set1 _ (.ref _) ls' rfl h')))
  case astore k =>
    obtain ⟨rfl, h⟩ := hs
    unfold am_st at h
    split at h <;> first | exact h.elim | (obtain ⟨h1, h2, h⟩ := h; first | cases h1; done | exact lv_astore hx hb hd hl h2 rfl (fun ls' h' => h H locs ls' hP hD hS (set1 _ (.ref _) ls' rfl h')))
  case iinc i n =>
    obtain ⟨rfl, x, h1, h2, h⟩ := hs
    have hm : (i, Value.int x) ∈ am_lc ad la := List.mem_map.mpr ⟨(i, .int x), h1, rfl⟩
    obtain ⟨k, hk⟩ := List.getElem?_of_mem hm
    exact lv_iinc hx hb hd hl hk rfl h2 rfl (fun ls' h' => h H locs ls' hP hD hS (set1 _ (.int _) ls' rfl h'))
  case iadd => obtain ⟨rfl, h⟩ := hs; unfold am_ii at h; split at h <;> first | exact h.elim | exact lv_iadd hx hb hd (h.2 H locs ls hP hD hS hl)
  case isub => obtain ⟨rfl, h⟩ := hs; unfold am_ii at h; split at h <;> first | exact h.elim | exact lv_isub hx hb hd (h.2 H locs ls hP hD hS hl)
  case imul => obtain ⟨rfl, h⟩ := hs; unfold am_ii at h; split at h <;> first | exact h.elim | exact lv_imul hx hb hd (h.2 H locs ls hP hD hS hl)
  case iand => obtain ⟨rfl, h⟩ := hs; unfold am_ii at h; split at h <;> first | exact h.elim | exact lv_iand hx hb hd (h.2 H locs ls hP hD hS hl)
  case ior => obtain ⟨rfl, h⟩ := hs; unfold am_ii at h; split at h <;> first | exact h.elim | exact lv_ior hx hb hd (h.2 H locs ls hP hD hS hl)
  case ixor => obtain ⟨rfl, h⟩ := hs; unfold am_ii at h; split at h <;> first | exact h.elim | exact lv_ixor hx hb hd (h.2 H locs ls hP hD hS hl)
  case ishl => obtain ⟨rfl, h⟩ := hs; unfold am_ii at h; split at h <;> first | exact h.elim | exact lv_ishl hx hb hd (h.2 H locs ls hP hD hS hl)
  case ishr => obtain ⟨rfl, h⟩ := hs; unfold am_ii at h; split at h <;> first | exact h.elim | exact lv_ishr hx hb hd (h.2 H locs ls hP hD hS hl)
  case iushr => obtain ⟨rfl, h⟩ := hs; unfold am_ii at h; split at h <;> first | exact h.elim | exact lv_iushr hx hb hd rfl (h.2 H locs ls hP hD hS hl)
  case idiv => obtain ⟨rfl, h⟩ := hs; unfold am_ii at h; split at h <;> first | exact h.elim | exact lv_idiv hx hb hd h.1 (h.2 H locs ls hP hD hS hl)
  case irem => obtain ⟨rfl, h⟩ := hs; unfold am_ii at h; split at h <;> first | exact h.elim | exact lv_irem hx hb hd h.1 (h.2 H locs ls hP hD hS hl)
  case ineg => obtain ⟨rfl, h⟩ := hs; unfold am_i1 at h; split at h <;> first | exact h.elim | exact lv_ineg hx hb hd (h H locs ls hP hD hS hl)
  case i2l => obtain ⟨rfl, h⟩ := hs; unfold am_i1 at h; split at h <;> first | exact h.elim | exact lv_i2l hx hb hd rfl (h H locs ls hP hD hS hl)
  case i2b => obtain ⟨rfl, h⟩ := hs; unfold am_i1 at h; split at h <;> first | exact h.elim | exact lv_i2b hx hb hd rfl (h H locs ls hP hD hS hl)
  case i2s => obtain ⟨rfl, h⟩ := hs; unfold am_i1 at h; split at h <;> first | exact h.elim | exact lv_i2s hx hb hd rfl (h H locs ls hP hD hS hl)
  case l2i => obtain ⟨rfl, h⟩ := hs; unfold am_l2i at h; split at h <;> first | exact h.elim | exact lv_l2i hx hb hd rfl (h H locs ls hP hD hS hl)
  case ladd => obtain ⟨rfl, h⟩ := hs; unfold am_ll at h; split at h <;> first | exact h.elim | exact lv_ladd hx hb hd (h.2 H locs ls hP hD hS hl)
  case lor => obtain ⟨rfl, h⟩ := hs; unfold am_ll at h; split at h <;> first | exact h.elim | exact lv_lor hx hb hd (h.2 H locs ls hP hD hS hl)
  case land => obtain ⟨rfl, h⟩ := hs; unfold am_ll at h; split at h <;> first | exact h.elim | exact lv_land hx hb hd (h.2 H locs ls hP hD hS hl)
  case ldiv => obtain ⟨rfl, h⟩ := hs; unfold am_ll at h; split at h <;> first | exact h.elim | exact lv_ldiv hx hb hd h.1 (h.2 H locs ls hP hD hS hl)
  case lrem => obtain ⟨rfl, h⟩ := hs; unfold am_ll at h; split at h <;> first | exact h.elim | exact lv_lrem hx hb hd h.1 (h.2 H locs ls hP hD hS hl)
  case lshl => obtain ⟨rfl, h⟩ := hs; unfold am_lsh at h; split at h <;> first | exact h.elim | exact lv_lshl hx hb hd rfl (h H locs ls hP hD hS hl)
  case lcmp => obtain ⟨rfl, h⟩ := hs; unfold am_lcmp at h; split at h <;> first | exact h.elim | exact W.lcmp hx hb hd (h H locs ls hP hD hS hl)
  case dup => obtain ⟨rfl, h⟩ := hs; unfold am_dup at h; split at h <;> first | exact h.elim | exact lv_dup hx hb hd (by rw [am_cat]; exact h.1) (h.2 H locs ls hP hD hS hl)
  case dup2 => obtain ⟨rfl, h⟩ := hs; unfold am_dup2 at h; split at h <;> first | exact h.elim | exact lv_dup2_11 hx hb hd (by rw [am_cat]; exact h.1) (by rw [am_cat]; exact h.2.1) (h.2.2 H locs ls hP hD hS hl)
  case pop => obtain ⟨rfl, h⟩ := hs; unfold am_pop at h; split at h <;> first | exact h.elim | exact lv_pop hx hb hd (by rw [am_cat]; exact h.1) (h.2 H locs ls hP hD hS hl)
  case if_icmp cn off =>
    obtain ⟨rfl, t, ht, h⟩ := hs
    unfold am_br at h
    split at h
    · cases cn
      · exact lv_icmp_eq hx hb hd ht (fun z => h.1 z H locs ls hP hD hS hl) (fun z => h.2 z H locs ls hP hD hS hl)
      · exact lv_icmp_ne hx hb hd ht (fun z => h.1 z H locs ls hP hD hS hl) (fun z => h.2 (fun w => w z) H locs ls hP hD hS hl)
      · exact lv_icmp_lt hx hb hd ht (fun z => h.1 z H locs ls hP hD hS hl) (fun z => h.2 z H locs ls hP hD hS hl)
      · exact lv_icmp_ge hx hb hd ht (fun z => h.1 z H locs ls hP hD hS hl) (fun z => h.2 z H locs ls hP hD hS hl)
      · exact lv_icmp_gt hx hb hd ht (fun z => h.1 z H locs ls hP hD hS hl) (fun z => h.2 z H locs ls hP hD hS hl)
      · exact lv_icmp_le hx hb hd ht (fun z => h.1 z H locs ls hP hD hS hl) (fun z => h.2 z H locs ls hP hD hS hl)
    · exact h.elim
  case ifCond cn off =>
    obtain ⟨rfl, t, ht, h⟩ := hs
    unfold am_br0 at h
    split at h
    · cases cn
      · exact lv_if_eq hx hb hd ht (fun z => h.1 z H locs ls hP hD hS hl) (fun z => h.2 z H locs ls hP hD hS hl)
      · exact lv_if_ne hx hb hd ht (fun z => h.1 z H locs ls hP hD hS hl) (fun z => h.2 (fun w => w z) H locs ls hP hD hS hl)
      · exact lv_if_lt hx hb hd ht (fun z => h.1 z H locs ls hP hD hS hl) (fun z => h.2 z H locs ls hP hD hS hl)
      · exact lv_if_ge hx hb hd ht (fun z => h.1 z H locs ls hP hD hS hl) (fun z => h.2 z H locs ls hP hD hS hl)
      · exact lv_if_gt hx hb hd ht (fun z => h.1 z H locs ls hP hD hS hl) (fun z => h.2 z H locs ls hP hD hS hl)
      · exact lv_if_le hx hb hd ht (fun z => h.1 z H locs ls hP hD hS hl) (fun z => h.2 z H locs ls hP hD hS hl)
    · exact h.elim
  case goto off => obtain ⟨rfl, t, ht, h⟩ := hs; exact lv_goto hx hb hd ht (h H locs ls hP hD hS hl)
  case tableswitch d lo hi offs =>
    have h : am_tsw _ pc d lo hi offs la st M := hs
    unfold am_tsw at h
    split at h
    · rename_i x r
      by_cases h1 : x.toInt < lo ∨ hi < x.toInt
      · obtain ⟨t, ht, h⟩ := h.1 h1
        exact lv_tableOut hx hb hd h1 ht (h H locs ls hP hD hS hl)
      · obtain ⟨off, t, ho, ht, h⟩ := h.2 (fun z => h1 (Or.inl z)) (fun z => h1 (Or.inr z))
        exact lv_tableIn hx hb hd (fun z => h1 (Or.inl z)) (fun z => h1 (Or.inr z)) ho ht (h H locs ls hP hD hS hl)
    · exact h.elim
  case lookupswitch d ps =>
    have h : am_lsw _ pc d ps la st M := hs
    unfold am_lsw at h
    split at h
    · obtain ⟨h1, t, ht, h⟩ := h
      exact lv_lookup hx hb hd h1 rfl ht (h H locs ls hP hD hS hl)
    · exact h.elim
  case getfield idx =>
    obtain ⟨rfl, h⟩ := hs
    unfold am_getf at h
    split at h
    · rename_i a r
      obtain ⟨ci, k, b, fs, h1, h2, h⟩ := h
      obtain ⟨C, T, N, ty, g1, g2, g3, g4, g5, g6, g7⟩ := hX.1 idx ci k b h1
      have he := am_w_at (ad := ad) (cI := cI) (cL := cL) (M := M) h2
      have key : ∀ v : Value, (fs.mapIdx (fun j f => am_fv ad M a j f))[k]? = some v → W p l e R s m args below meth c H locs cells slots Qf (F0 m (pc + 3) ls (v :: r.map (am_cv ad))) → W p l e R s m args below meth c H locs cells slots Qf (F0 m pc ls (.ref (ad a) :: r.map (am_cv ad))) := fun v hv hw =>
        va_get (C := C) (T := T) (N := N) hx hb hts g4 hown hK hP a he g1 k g2 (hts _ g3) (fun _ z => z) hv hd hw
      cases hk : fs[k]? with
      | none => rw [hk] at h; exact h.elim
      | some f =>
        rw [hk] at h
        refine key (am_fv ad M a k f) (by rw [List.getElem?_mapIdx, hk]; rfl) ?_
        cases f with
        | none => exact h H locs ls hP hD hS hl
        | some q => exact h H locs ls hP hD hS hl
    · exact h.elim
  case putfield idx =>
    obtain ⟨rfl, h⟩ := hs
    unfold am_putf at h
    split at h
    · rename_i v a r
      obtain ⟨ci, k, b, fs, h1, h2, h3, h4, h⟩ := h
      obtain ⟨C, T, N, ty, g1, g2, g3, g4, g5, g6, g7⟩ := hX.1 idx ci k b h1
      obtain ⟨C', T', N', q1, q2, q3⟩ := hSh a ci fs h2
      have hq : (C', T', N') = (C, T, N) := Option.some.inj (q1.symm.trans g1)
      cases hq
      have he := am_w_at (ad := ad) (cI := cI) (cL := cL) (M := M) h2
      have hfin := q3 k h3
      have hty := g7 hfin
      have hnar : narrow (ty k) (.int v) = .int v ∧ fits (ty k) (.int v) = true := by
        rw [hty]
        cases b with
        | false => exact ⟨rfl, rfl⟩
        | true =>
          rcases h4 with h4 | h4 | h4
          · cases h4
          · subst h4; exact ⟨rfl, rfl⟩
          · subst h4; exact ⟨rfl, rfl⟩
      refine va_put (C := C) (T := T) (N := N) hx hb hts g4 ty g5 g6 hown hK hP hD hS a he g1 k g2 (hts _ g3) (fun _ z => z) hfin (g5 k g2) hnar.1 hnar.2 (by rw [List.length_mapIdx, q2]; exact g2) hd (fun H1 locs1 hP1 hD1 hS1 => ?_)
      have hset : (am_w G.1 ad cI cL M).set a (ad a, .inr (ci, (fs.mapIdx (fun j f => am_fv ad M a j f)).set k (.int v))) = am_w G.1 ad cI cL (am_wi M a k v) := by
        refine am_w_set h2 (fun b hb => am_up_ne hb) (fun b hb => rfl) ?_
        show Sum.inr (ci, fs.mapIdx (fun j f => am_fv ad (am_wi M a k v) a j f)) = _
        congr 2
        apply List.ext_getElem?
        intro j
        by_cases hj : j = k
        · subst hj
          rw [List.getElem?_set_self (by rw [List.length_mapIdx, q2]; exact g2), List.getElem?_mapIdx, h3]
          simp [am_fv, am_wi, am_up]
        · rw [List.getElem?_set_ne (Ne.symm hj), List.getElem?_mapIdx, List.getElem?_mapIdx]
          cases hc : fs[j]? with
          | none => rfl
          | some f => cases f <;> simp [am_fv, am_wi, am_up, hj]
      exact h H1 locs1 ls (hset ▸ hP1) (hset ▸ hD1) hS1 hl
    · exact h.elim
  case getstatic idx =>
    obtain ⟨rfl, q, h1, h⟩ := hs
    obtain ⟨C, nm, g1, g2⟩ := hX5 idx q h1
    exact va_gets hx hb (hSt.1 q C nm g1) hS hown (hts _ g2) (fun _ z => z) hd (h H locs ls hP hD hS hl)
  case iaload =>
    obtain ⟨rfl, h⟩ := hs
    unfold am_iald at h
    split at h
    · rcases h with ⟨n, h1, h2, h⟩ | ⟨n, f, h1, h2, h⟩
      · exact va_iald hx hb hK hP _ 0 (am_w_at h1) rfl h2 hd (h H locs ls hP hD hS hl)
      · exact va_ti hx hb (hSt.2 _ n f h1) hS h2 rfl hd (h H locs ls hP hD hS hl)
    · exact h.elim
  case iastore =>
    obtain ⟨rfl, h⟩ := hs
    unfold am_iast at h
    split at h
    · rename_i v i a r
      obtain ⟨n, h1, h2, h⟩ := h
      refine va_iast hx hb hK hP hD hS a 0 (am_w_at h1) rfl h2 hd (fun H1 locs1 hP1 hD1 hS1 => ?_)
      rw [am_w_set (M' := am_wi M a i.toNatClampNeg v) h1 (fun b hb => am_up_ne hb) (fun b hb => rfl) (by show Sum.inl (cI, n, Sum.inl (am_up M.1 a i.toNatClampNeg v a)) = _; rw [am_up_upd])] at hP1 hD1
      exact h H1 locs1 ls hP1 hD1 hS1 hl
    · exact h.elim
  case laload =>
    obtain ⟨rfl, h⟩ := hs
    unfold am_lald at h
    split at h
    · obtain ⟨n, h1, h2, h⟩ := h
      exact va_lald hx hb hK hP _ 1 (am_w_at h1) rfl h2 hd (h H locs ls hP hD hS hl)
    · exact h.elim
  case lastore =>
    obtain ⟨rfl, h⟩ := hs
    unfold am_last at h
    split at h
    · rename_i v i a r
      obtain ⟨n, h1, h2, h⟩ := h
      refine va_last hx hb hK hP hD hS a 1 (am_w_at h1) rfl h2 hd (fun H1 locs1 hP1 hD1 hS1 => ?_)
      rw [am_w_set (M := M) (M' := am_wl M a i.toNatClampNeg v) h1 (fun b hb => rfl) (fun b hb => am_up_ne hb) (by show Sum.inl (cL, n, Sum.inr (Sum.inl (am_up M.2 a i.toNatClampNeg v a))) = _; rw [am_up_updL])] at hP1 hD1
      exact h H1 locs1 ls hP1 hD1 hS1 hl
    · exact h.elim
  case arraylength =>
    obtain ⟨rfl, h⟩ := hs
    unfold am_alen at h
    split at h
    · obtain ⟨n, ⟨b, h1⟩ | ⟨f, h1⟩, h⟩ := h
      · cases b with
        | false => exact va_alen hx hb hK hP _ 0 (am_w_at h1) rfl rfl hd (h H locs ls hP hD hS hl)
        | true => exact va_alen hx hb hK hP _ 1 (am_w_at h1) rfl rfl hd (h H locs ls hP hD hS hl)
      · obtain ⟨cell, t1, t2, t3, t4, t5, t6, t7⟩ := hSt.2 _ n f h1
        exact W.alen (n := Int32.ofNat n) hx hb (by rw [hS.2.1 _ (Array.getElem?_eq_some_iff.mp t1).1 t7]; exact t1) t2 t5 rfl rfl hd (h H locs ls hP hD hS hl)
    · exact h.elim
  case invokevirtual idx =>
    obtain ⟨rfl, oc, k, n, as, rest, h1, rfl, h3, h4, h5, h⟩ := hs
    cases oc with
    | none => exact absurd (show true = false from h5) (by decide)
    | some ci =>
      obtain ⟨-, a, fs, hh, hsh⟩ := h5
      obtain ⟨As, rfl⟩ : ∃ As, as = .ref a :: As := by
        cases as with
        | nil => cases hh
        | cons x xs => cases hh; exact ⟨xs, rfl⟩
      rcases hX.2.1 idx _ k n h1 with ⟨-, hn, -⟩ | ⟨-, hn, -⟩ | ⟨-, hn, -⟩ | ⟨-, y, cc', nL', rt', cx', gk, w1, w2, w3, w4, ⟨T, N, w5⟩, n', rfl, w6⟩
      · exact absurd hn (hClN _ _ _ _ h)
      · exact absurd hn (hClN _ _ _ _ h)
      · exact absurd hn (hClN _ _ _ _ h)
      · obtain ⟨t1, t2, t3⟩ := hMt k y cc' nL' rt' cx' gk
        have hM := hCl k _ M _ h y cc' nL' rt' cx' gk H.size
        have hG : GoodIn TB (wsV own idx y.cls y (.code y cc' nL' rt' :: TB)) := by
          intro w hw
          have hm : w ∈ TB := by
            unfold wsV at hw
            rcases List.mem_append.mp hw with hw | hw
            · simp only [List.mem_cons, List.not_mem_nil, or_false] at hw
              rcases hw with rfl | rfl | rfl | rfl
              · exact w1
              · exact w3
              · exact w4
              · exact w2
            · rcases List.mem_cons.mp hw with rfl | hw
              · exact t1
              · exact hw
          exact ⟨hm, good_of_word (hTB w hm)⟩
        refine am_callK (va_runV (Ts := TB) (As := As.map (am_cv ad)) (b := ad a) (rest := rest.map (am_cv ad)) ⟨hx, hb, hml, hown, hts⟩ hM (cwV n' hts hG rfl hrm.1 hrm.2.1 ⟨rfl, t2.1, t2.2, w6⟩ ⟨hrm.2.2.1, by have := hrm.2.2.2; omega⟩) ⟨am_blind, va_recv hK hP w5 (am_w_at hsh), am_start hK hSt hP hD hS hf⟩ rfl (by rw [List.length_map]; exact Nat.succ.inj h3) hl.1 ?_ (lv_room (by rw [am_cats]; exact h4)) hd hcs) hS hf (fun r M' H1 locs1 hq hP1 hS1 => ?_)
        · show ((Value.ref a :: As).reverse ++ rest).map (am_cv ad) = _
          simp [am_cv]
        · have hw := hq H1 locs1 ls hP1 (am_w_D hD) hS1 hl
          cases r <;> exact hw
  case invokestatic idx =>
    obtain ⟨rfl, ⟨oc, k, n, as, rest, h1, rfl, h3, h4, h5, h⟩ | ⟨h1, h⟩ | ⟨h1, h⟩ | ⟨h1, h⟩⟩ := hs
    · cases oc with
      | some ci => exact absurd h5.1 (by decide)
      | none =>
        rcases hX.2.1 idx _ k n h1 with ⟨-, hn, -⟩ | ⟨-, hn, -⟩ | ⟨-, hn, -⟩ | ⟨w0, y, cc', nL', rt', cx', gk, w1, w2, w3, w4⟩
        · exact absurd hn (hClN _ _ _ _ h)
        · exact absurd hn (hClN _ _ _ _ h)
        · exact absurd hn (hClN _ _ _ _ h)
        · obtain ⟨t1, t2, t3⟩ := hMt k y cc' nL' rt' cx' gk
          have hM := hCl k _ M _ h y cc' nL' rt' cx' gk H.size
          have hG : GoodIn TB (va_wsS own idx y (.code y cc' nL' rt' :: TB)) := by
            intro w hw
            have hm : w ∈ TB := by
              unfold va_wsS at hw
              rcases List.mem_append.mp hw with hw | hw
              · simp only [List.mem_cons, List.not_mem_nil, or_false] at hw
                rcases hw with rfl | rfl | rfl
                · exact w1
                · exact w3
                · exact w2
              · rcases List.mem_cons.mp hw with rfl | hw
                · exact t1
                · exact hw
            exact ⟨hm, good_of_word (hTB w hm)⟩
          refine am_callK (va_runS (Ts := TB) (As := as.map (am_cv ad)) (rest := rest.map (am_cv ad)) ⟨hx, hb, hml, hown, hts⟩ hM (va_cwS n hts hG rfl hrm.1 hrm.2.1 ⟨t2.1, t2.2, w4⟩ ⟨hrm.2.2.1, by have := hrm.2.2.2; omega⟩) ⟨am_blind, am_start hK hSt hP hD hS hf⟩ rfl (by rw [List.length_map]; exact h3) hl.1 ?_ (lv_room (by rw [am_cats]; exact h4)) hd hcs) hS hf (fun r M' H1 locs1 hq hP1 hS1 => ?_)
          · show (as.reverse ++ rest).map (am_cv ad) = _
            simp
          · have hw := hq H1 locs1 ls hP1 (am_w_D hD) hS1 hl
            cases r <;> exact hw
    · rcases hX.2.1 idx _ _ _ h1 with ⟨-, -, w1, w2, w3, w4⟩ | ⟨w0, -⟩ | ⟨w0, -⟩ | ⟨w0, -⟩
      · unfold am_copy at h
        split at h
        · rename_i nn dp b sp a r
          obtain ⟨z, n0, n1, a1, a2, a3, a4, a5, a6, a7, a8, h⟩ := h
          have hfr : 1 ≤ R.frames := by have := hrm.2.2.1; omega
          have hlo : ((r.map (am_cv ad)).map fun v => v.category).sum + (nativeFrameWords "java/lang/System" "arraycopy" 5 + 11) ≤ R.locals := by
            rw [am_cats]
            have h0 : nativeFrameWords "java/lang/System" "arraycopy" 5 = 7 := by decide +kernel
            have := hrm.2.2.2
            omega
          cases z with
          | false =>
            refine va_copyi hx hb (hml.trans hl.1.symm) hown (hts _ w1) (hts _ w2) (hts _ w3) (hts _ w4) hK hP hD hS a b 0 0 (am_w_at a1) (am_w_at a2) rfl rfl rfl a3 a4 a5 a6 a7 (fun _ _ => rfl) hfr hlo hd (fun H1 locs1 hP1 hD1 hS1 => ?_)
            rw [am_w_set (M := M) (M' := am_cpi M a b sp.toNatClampNeg dp.toNatClampNeg nn.toNatClampNeg) a2 (fun b hb => am_ur_ne hb) (fun b hb => rfl) (by show Sum.inl (cI, n1, Sum.inl (am_ur M.1 b _ b)) = _; rw [am_ur_eq])] at hP1 hD1
            exact h H1 locs1 ls hP1 hD1 hS1 hl
          | true =>
            refine va_copyl hx hb (hml.trans hl.1.symm) hown (hts _ w1) (hts _ w2) (hts _ w3) (hts _ w4) hK hP hD hS a b 1 1 (am_w_at a1) (am_w_at a2) rfl rfl rfl a3 a4 a5 a6 a7 (fun _ _ => rfl) hfr hlo hd (fun H1 locs1 hP1 hD1 hS1 => ?_)
            rw [am_w_set (M := M) (M' := am_cpl M a b sp.toNatClampNeg dp.toNatClampNeg nn.toNatClampNeg) a2 (fun b hb => rfl) (fun b hb => am_ur_ne hb) (by show Sum.inl (cL, n1, Sum.inr (Sum.inl (am_ur M.2 b _ b))) = _; rw [am_ur_eq])] at hP1 hD1
            exact h H1 locs1 ls hP1 hD1 hS1 hl
        · exact h.elim
      · exact absurd w0 (by decide)
      · exact absurd w0 (by decide)
      · exact absurd w0 (by decide)
    · rcases hX.2.1 idx _ _ _ h1 with ⟨w0, -⟩ | ⟨-, -, w1, w2, w3, w4⟩ | ⟨w0, -⟩ | ⟨w0, -⟩
      · exact absurd w0 (by decide)
      · unfold am_mm at h
        split at h
        · exact va_mmax hx hb (hml.trans hl.1.symm) hown (hts _ w1) (hts _ w2) (hts _ w3) (hts _ w4) (by have := hrm.2.2.1; omega) (by rw [am_cats]; have := hrm.2.2.2; have := h.1; omega) hcs.1 hcs.2 hd (h.2 H locs ls hP hD hS hl)
        · exact h.elim
      · exact absurd w0 (by decide)
      · exact absurd w0 (by decide)
    · rcases hX.2.1 idx _ _ _ h1 with ⟨w0, -⟩ | ⟨w0, -⟩ | ⟨-, -, w1, w2, w3, w4⟩ | ⟨w0, -⟩
      · exact absurd w0 (by decide)
      · exact absurd w0 (by decide)
      · unfold am_mm at h
        split at h
        · exact va_mmin hx hb (hml.trans hl.1.symm) hown (hts _ w1) (hts _ w2) (hts _ w3) (hts _ w4) (by have := hrm.2.2.1; omega) (by rw [am_cats]; have := hrm.2.2.2; have := h.1; omega) hcs.1 hcs.2 hd (h.2 H locs ls hP hD hS hl)
        · exact h.elim
      · exact absurd w0 (by decide)
  case ireturn =>
    obtain ⟨rfl, h⟩ := hs
    unfold am_ret at h
    split at h <;> first | exact h.elim | (first | exact hR _ M H locs ls pc h.2 h.1 hd hP hS | (rename_i h9; exact absurd h9 (by decide)))
  case lreturn =>
    obtain ⟨rfl, h⟩ := hs
    unfold am_ret at h
    split at h <;> first | exact h.elim | (first | exact hR _ M H locs ls pc h.2 h.1 hd hP hS | (rename_i h9; exact absurd h9 (by decide)))
  case areturn =>
    obtain ⟨rfl, h⟩ := hs
    unfold am_ret at h
    split at h <;> first | exact h.elim | (first | exact hR _ M H locs ls pc h.2 h.1 hd hP hS | (rename_i h9; exact absurd h9 (by decide)))
  case return_ =>
    obtain ⟨rfl, h⟩ := hs
    unfold am_ret at h
    split at h <;> first | exact h.elim | (first | exact hR _ M H locs ls pc h.2 h.1 hd hP hS | (rename_i h9; exact absurd h9 (by decide)))
  all_goals exact hs.elim
end AMT
theorem am_lcargs (ad : Nat → Nat) : ∀ (as : List Value) (i : Nat), lv_args i (as.map (am_cv ad)) = am_lc ad (lv_args i as) := by
  intro as
  induction as with
  | nil => intro i; rfl
  | cons v t ih =>
    intro i
    simp only [List.map_cons, lv_args, am_cat, am_lc]
    rw [ih]
    rfl
theorem am_sl (vs : List Value) : (lg_sl vs).length = (vs.map fun v => v.category).sum := by
  induction vs with
  | nil => rfl
  | cons v t ih =>
    have h1 : lg_sl (v :: t) = (if v.category = 2 then [.val v, .second] else [.val v]) ++ lg_sl t := by simp [lg_sl]
    rw [h1, List.length_append, ih, List.map_cons, List.sum_cons]
    rcases lv_cat v with h | h <;> simp [h]
theorem am_Call_some {G : AG} {d k : Nat} {as : List Value} {M : AM} {Q : AQ} (h : am_Call G d k as M Q) : G.2.2[k]? ≠ none := by
  cases d with
  | zero => exact h.elim
  | succ d =>
    obtain ⟨y, cc, nL, rt, cx, h1, -⟩ := h
    rw [h1]
    exact fun z => by cases z
set_option maxHeartbeats 4000000 in
/-- every call that comes to its end on the machine does so on the Java machine -/
theorem am_sound {TB : List Cond} {cls : List vw_C} {G : AG} {sts : List (Nat × String × String)} (hG : am_ok TB cls G sts) (l : Launch) (D : va_G) (ad : Nat → Nat) (cI cL : ClassId) : ∀ (d k : Nat) (as : List Value) (M : AM) (Q : AQ), am_Call G d k as M Q → ∀ (y : MethodName) (cc : ByteArray) (nL : Nat) (rt : Option FieldType) (cx : ACx), G.2.2[k]? = some (y, cc, nL, rt, cx) → ∀ sz, Met l y (.code y cc nL rt :: TB) (am_rm d) (am_Pc G sts cls D ad cI cL sz as M) (am_Qc G cls D ad cI cL sz M Q) 0 0 (va_A (am_w G.1 ad cI cL M) sz) := by
  intro d
  induction d with
  | zero => intro k as M Q h; exact h.elim
  | succ d ih =>
    intro k as M Q h y cc nL rt cx hk sz
    obtain ⟨y', cc', nL', rt', cx', hk', hcat, hV⟩ := h
    cases hk.symm.trans hk'
    obtain ⟨g1, g2, g3, g4, g5, g6⟩ := hG.2.1 k y cc nL rt cx hk
    refine Met.ofW (cc := cc) (maxL := nL) (ret := rt) g1 rfl ?_
    intro p e s m args below meth c s₁ B hml hv
    obtain ⟨rfl, hsz, hP, hK, hD0, hSt⟩ := hv
    subst hsz
    have hts := atoms_spec (ws := .code y cc nL rt :: TB) B.pre
    have hown : s.vm.findClass y.cls = some m.cls := findClass_of_methodNamed B.named
    have hr := B.returns
    have hlocks := B.notSynchronized
    have hD := hD0.self (sz := s.heap.size)
    have hcl := am_step (p := p) (l := l) (e := e) (R := am_rm (d + 1)) (s := s) (m := m) (args := (as.map (am_cv ad)).toArray) (below := below) (meth := meth) (c := c) (cells := 0) (slots := 0) (Qf := MQ below (am_Qc G cls D ad cI cL s.heap.size M Q) (as.map (am_cv ad)).toArray s 0 0 (va_A (am_w G.1 ad cI cL M) s.heap.size))
      (G := G) (sts := sts) (cls := cls) (D := D) (ad := ad) (cI := cI) (cL := cL) (A := va_A (am_w G.1 ad cI cL M) s.heap.size) (TB := TB) (cc := cc) (nL := nL) (cx := cx) (own := y.cls) (rt := rt) (Cl := am_Call G d) (Q := Q)
      B.exec B.bytes hml hown (fun w hw => hts w (List.mem_cons_of_mem _ hw)) hG.1 hK hSt (fun q h => Or.inr h) g5 g6 hG.2.2 (fun k y cc nL rt cx h => by obtain ⟨-, a1, a2, a3, -⟩ := hG.2.1 k y cc nL rt cx h; exact ⟨a1, a2, a3⟩) (rmC := am_rm d) ⟨rfl, rfl, Nat.le_refl _, by show 96 + 96 * d ≤ 96 * (d + 1); omega⟩ ⟨Nat.zero_le _, Nat.zero_le _⟩ ih (fun k as M Q' h => am_Call_some h) ?_
    · have hl := lv_entry (as.map (am_cv ad)) (n := nL) (by rw [am_sl, am_cats]; exact hcat)
      rw [lg_entry_eq]
      generalize (lg_sl (as.map (am_cv ad)) ++ List.replicate (nL - (lg_sl (as.map (am_cv ad))).length) Slot.unset).toArray = ls at hl ⊢
      rw [am_lcargs] at hl
      exact hV _ hcl s.heap [] ls hP hD va_S.rf hl
    · intro v M1 H locs ls pc hq hfit hrd hP1 hS1
      have fin : ∀ (v : Option Value), Q v M1 → ∀ t : State, t.heap = H → s.WarmedH t.vm → am_Qc G cls D ad cI cL s.heap.size M Q (as.map (am_cv ad)).toArray s (.returned (v.map (am_cv ad))) t := fun v hv t ht hW => ⟨⟨v, M1, rfl, hv, by rw [ht]; exact hP1, va_K.moved hW.alike hK⟩, hS1.F ht⟩
      cases v with
      | none =>
        cases rt with
        | none => exact W.vret B.exec B.bytes hr (fin none hq) hS1.2.2 hrd
        | some t => cases t <;> exact hfit.elim
      | some v =>
        cases v with
        | int x =>
          cases rt with
          | none => exact hfit.elim
          | some t =>
            cases t with
            | int => exact W.iret B.exec B.bytes hr (fin _ hq) hS1.2.2 hrd
            | boolean =>
              have hn : narrow .boolean (.int x) = .int x := by
                rcases hfit with h | h <;> subst h <;> rfl
              exact W.zret B.exec B.bytes hr hn (fin _ hq) hS1.2.2 hrd
            | _ => exact hfit.elim
        | long x =>
          cases rt with
          | none => exact hfit.elim
          | some t =>
            cases t with
            | long => exact W.lret B.exec B.bytes hr (fin _ hq) hS1.2.2 hrd
            | _ => exact hfit.elim
        | ref x =>
          cases rt with
          | none => exact hfit.elim
          | some t =>
            cases t with
            | object n => exact W.aret (v := .ref (ad x)) B.exec B.bytes hr (Or.inl ⟨n, rfl⟩) (Or.inr ⟨_, rfl⟩) (fin _ hq) hS1.2.2 hrd
            | _ => exact hfit.elim
        | _ => exact hrd.elim
