/-! ===== what the tables must say of a machine ===== -/
def am_okF (TB : List Cond) (cls : List vw_C) (own : String) (idx ci k : Nat) (b : Bool) : Prop := ∃ (C : String) (T : u_T) (N : Nat) (ty : Nat → FieldType), cls[ci]? = some (C, T, N) ∧ k < N ∧ Cond.fieldLink own idx (T k).1 (T k).2.1 (T k).2.2.1 ∈ TB ∧ (∀ w ∈ u_ws C T N, w ∈ TB) ∧ (∀ k, k < N → parseFieldDescriptor (T k).2.2.1 = some (ty k)) ∧ (∀ a, a < N → ∀ b, b < N → a ≠ b → (T a).2.1 ≠ (T b).2.1) ∧ ((T k).2.2.2 = false → ty k = if b then .boolean else .int)
def am_okM (TB : List Cond) (cls : List vw_C) (G : AG) (own : String) (idx : Nat) (oc : Option Nat) (k n : Nat) : Prop :=
  (k = 99999 ∧ G.2.2[k]? = none ∧ Cond.methodLink own idx arraycopyName ∈ TB ∧ Cond.native arraycopyName ∈ TB ∧ Cond.static arraycopyName ∈ TB ∧ Cond.initialized "java/lang/System" ∈ TB) ∨
  (k = 99998 ∧ G.2.2[k]? = none ∧ Cond.methodLink own idx Lib.Math.max.name ∈ TB ∧ Cond.static Lib.Math.max.name ∈ TB ∧ Cond.initialized "java/lang/Math" ∈ TB ∧ Cond.code Lib.Math.max.name Lib.Math.max.code 2 (some .int) ∈ TB) ∨
  (k = 99997 ∧ G.2.2[k]? = none ∧ Cond.methodLink own idx Lib.Math.min.name ∈ TB ∧ Cond.static Lib.Math.min.name ∈ TB ∧ Cond.initialized "java/lang/Math" ∈ TB ∧ Cond.code Lib.Math.min.name Lib.Math.min.code 2 (some .int) ∈ TB) ∨
  (k < 99997 ∧ ∃ (y : MethodName) (cc : ByteArray) (nL : Nat) (rt : Option FieldType) (cx : ACx), G.2.2[k]? = some (y, cc, nL, rt, cx) ∧ Cond.methodLink own idx y ∈ TB ∧ Cond.initialized y.cls ∈ TB ∧ (match oc with
    | none => Cond.static y ∈ TB ∧ (parseMethodDescriptor y.desc).map (fun d => d.parameters.length) = some n
    | some ci => Cond.instanceMethod y ∈ TB ∧ Cond.selects y.cls y y ∈ TB ∧ (∃ (T : u_T) (N : Nat), cls[ci]? = some (y.cls, T, N)) ∧ ∃ n', n = n' + 1 ∧ (parseMethodDescriptor y.desc).map (fun d => d.parameters.length) = some n'))
def am_okX (TB : List Cond) (cls : List vw_C) (G : AG) (own : String) (cx : ACx) : Prop :=
  (∀ idx ci k b, cx.1.lookup idx = some (ci, k, b) → am_okF TB cls own idx ci k b) ∧ (∀ idx oc k n, cx.2.1.lookup idx = some (oc, k, n) → am_okM TB cls G own idx oc k n) ∧ (∀ idx v, cx.2.2.1.lookup idx = some v → Cond.constant own idx v ∈ TB) ∧ (∀ idx v, cx.2.2.2.1.lookup idx = some v → Cond.constantLong own idx v ∈ TB)
/-- the static arrays: cell, class, name; where they lie and what they hold -/
def am_St (G : AG) (sts : List (Nat × String × String)) (ad : Nat → Nat) (A : Nat → Prop) (U : State) (H : Heap) : Prop :=
  (∀ q C nm, sts.lookup q = some (C, nm) → va_Z C nm "[I" (.ref (ad q)) A U H) ∧ ∀ q n f, G.2.1 q = some (n, f) → va_T .int (ad q) n (fun j => .int (f j)) A U H
def am_ok (TB : List Cond) (cls : List vw_C) (G : AG) (sts : List (Nat × String × String)) : Prop :=
  (∀ w ∈ TB, goodWord w = true) ∧
  (∀ (k : Nat) (y : MethodName) (cc : ByteArray) (nL : Nat) (rt : Option FieldType) (cx : ACx), G.2.2[k]? = some (y, cc, nL, rt, cx) → plainName y.cls = true ∧ Cond.code y cc nL rt ∈ TB ∧ (y.cls ≠ "java/lang/invoke/MethodHandle" ∧ y.cls ≠ "java/lang/invoke/VarHandle") ∧ nL ≤ 40 ∧ am_okX TB cls G y.cls cx ∧ ∀ idx q, cx.2.2.2.2.lookup idx = some q → ∃ C nm, sts.lookup q = some (C, nm) ∧ Cond.fieldLink y.cls idx C nm "[I" ∈ TB) ∧
  (∀ (a ci : Nat) (fs : List (Option Nat)), G.1[a]? = some (.inl (ci, fs)) → ∃ (C : String) (T : u_T) (N : Nat), cls[ci]? = some (C, T, N) ∧ fs.length = N ∧ ∀ k, fs[k]? = some none → (T k).2.2.2 = false)
def am_rm (d : Nat) : Room := { frames := d, cells := 0, slots := 0, locals := 96 * d }
abbrev am_tys (cI cL : ClassId) : List (ClassId × FieldType) := [(cI, .int), (cL, .long)]
def am_Pc (G : AG) (sts : List (Nat × String × String)) (cls : List vw_C) (D : va_G) (ad : Nat → Nat) (cI cL : ClassId) (sz : Nat) (as : List Value) (M : AM) : Array Value → State → Prop :=
  va_Pc (as.map (am_cv ad)) (fun U => U.heap.size = sz ∧ va_P D cls (am_w G.1 ad cI cL M) U.heap ∧ va_K D cls (am_tys cI cL) U ∧ va_D (fun _ => True) (am_w G.1 ad cI cL M) ∧ am_St G sts ad (va_A (am_w G.1 ad cI cL M) sz) U U.heap)
def am_Qc (G : AG) (cls : List vw_C) (D : va_G) (ad : Nat → Nat) (cI cL : ClassId) (sz : Nat) (M : AM) (Q : AQ) : Array Value → State → Outcome → State → Prop := fun _ st oc t =>
  (∃ (r : Option Value) (M' : AM), oc = .returned (r.map (am_cv ad)) ∧ Q r M' ∧ va_P D cls (am_w G.1 ad cI cL M') t.heap ∧ va_K D cls (am_tys cI cL) t) ∧ va_F (va_A (am_w G.1 ad cI cL M) sz) st t
section AMS
variable {p : Program} {l : Launch} {e : Env} {R : Room} {s : State} {m : MethodId} {args : Array Value} {below : List Frame} {meth : Method} {c : Code} {cells slots : Nat} {Qf : State → Prop}
variable {G : AG} {sts : List (Nat × String × String)} {cls : List vw_C} {D : va_G} {ad : Nat → Nat} {cI cL : ClassId} {A : Nat → Prop} {TB Ts : List Cond} {cc : ByteArray} {nL : Nat} {cx : ACx} {own : String}
def am_CW (p : Program) (l : Launch) (e : Env) (R : Room) (s : State) (m : MethodId) (args : Array Value) (below : List Frame) (meth : Method) (c : Code) (cells slots : Nat) (Qf : State → Prop) (G : AG) (cls : List vw_C) (D : va_G) (ad : Nat → Nat) (cI cL : ClassId) (A : Nat → Prop) (nL : Nat) : AK := fun pc la st M =>
  ∀ (H : Heap) (locs : List Loc) (ls : Array Slot), va_P D cls (am_w G.1 ad cI cL M) H → va_D A (am_w G.1 ad cI cL M) → va_S A s.heap H locs → lv_has ls nL (am_lc ad la) → W p l e R s m args below meth c H locs cells slots Qf (F0 m pc ls (st.map (am_cv ad)))
/-- behind a call -/
theorem am_callK {H : Heap} {locs : List Loc} {pc : Nat} {ls : Array Slot} {st0 rest : List Value} {a : Array Value} {M : AM} {Q : AQ} (hr : va_Run p l e R s m args below meth c H locs cells slots 0 0 (F0 m pc ls st0) rest (am_Qc G cls D ad cI cL H.size M Q a) (va_A (am_w G.1 ad cI cL M) H.size)) (hS : va_S A s.heap H locs) (hf : ∀ q, va_A (am_w G.1 ad cI cL M) H.size q → A q)
    (kk : ∀ (r : Option Value) (M' : AM) (H1 : Heap) (locs1 : List Loc), Q r M' → va_P D cls (am_w G.1 ad cI cL M') H1 → va_S A s.heap H1 locs1 → W p l e R s m args below meth c H1 locs1 cells slots Qf (F0 m (pc + 3) ls ((r.map (am_cv ad)).toList ++ rest))) : W p l e R s m args below meth c H locs cells slots Qf (F0 m pc ls st0) := by
  intro T hT X
  obtain ⟨v, st₀, t, T', L, h0, X', hL, e1, e2, ⟨⟨r, M', hv, hp, hb, -⟩, hz, hk⟩, st⟩ := hr T hT X
  cases hv
  rw [h0] at hz hk
  obtain ⟨t2, a1, b1⟩ := kk r M' T'.heap (locs ++ L) hp (by rw [e1]; exact hb)
    ⟨Nat.le_trans hS.1 (by rw [e1]; exact hz), fun q h1 h2 => by rw [e1, hk q (Nat.lt_of_lt_of_le h1 hS.1) (fun z => h2 (hf q z))]; exact hS.2.1 q h1 h2, fun q hq => by
      rcases List.mem_append.mp hq with h | h
      · exact hS.2.2 q h
      · exact hf _ (hL q h)⟩ T' rfl X'
  exact ⟨t2, st t2 a1, b1⟩
theorem am_blind {sz : Nat} {as : List Value} {M : AM} : FrameBlind (am_Pc G sts cls D ad cI cL sz as M) := by
  intro a U g mk ⟨h1, h2, h3, h4, h5, h6, h7⟩
  refine ⟨h1, h2, h3, va_K.moved (u := U) (U := U.calling g mk a) (Vm.Alike.refl U.vm) h4, h5, fun q C nm h => ?_, fun q n f h => ?_⟩
  · exact va_Z.moved (u := U) (U := U.calling g mk a) (Vm.Alike.refl U.vm) (h6 q C nm h)
  · exact va_T.moved (u := U) (U := U.calling g mk a) (Vm.Alike.refl U.vm) (h7 q n f h)
/-- the callee's start, out of the caller's world -/
theorem am_start {H : Heap} {locs : List Loc} {M : AM} {as : List Value} (hK : va_K D cls (am_tys cI cL) s) (hSt : am_St G sts ad A s s.heap) (hP : va_P D cls (am_w G.1 ad cI cL M) H) (hD : va_D A (am_w G.1 ad cI cL M)) (hS : va_S A s.heap H locs) (hf : ∀ q, va_A (am_w G.1 ad cI cL M) H.size q → A q) (U : State) (hU : U.heap = H) (hW : s.WarmedH U.vm) : am_Pc G sts cls D ad cI cL H.size as M (as.map (am_cv ad)).toArray U := by
  refine ⟨rfl, by rw [hU], by rw [hU]; exact hP, va_K.moved hW.alike hK, hD.weaken (fun _ _ _ _ => trivial), fun q C nm h => ?_, fun q n f h => ?_⟩
  · rw [hU]
    exact va_Z.moved hW.alike (((hSt.1 q C nm h).kept hS.2.1).narrow hf)
  · rw [hU]
    exact va_T.moved hW.alike (((hSt.2 q n f h).kept hS.2.1).narrow hf)
end AMS
