/-! ===== constructors: what they stand on ===== -/
theorem w_arI : Cond.arrayClass .int ∈ TB := tb (mt1 _ (List.mem_of_getElem? (i := 45) rfl)) rfl
theorem w_arL : Cond.arrayClass .long ∈ TB := tb (mt1 _ (List.mem_of_getElem? (i := 174) rfl)) rfl
section CK
variable {p : Program} {l : Launch} {e : Env} {R : Room} {s : State} {m : MethodId} {args : Array Value} {below : List Frame} {meth : Method} {c : Code} {cells slots : Nat} {Q : State → Prop}
variable {D : va_G} {cI cL : ClassId} {A : Nat → Prop} {cc : ByteArray} {nL pc : Nat} {own : String} {ls : Array Slot} {H H0 : Heap} {locs : List Loc} {ws : va_W} {rest : List Value}
theorem ck_newI (hx : p.tables.exec = Jvm.exec) (hb : c.code = cc) (hts : ∀ w ∈ TB, w.before args s = true) (hK : va_K D cls (am_tys cI cL) s) (hP : va_P D cls ws H) (hD : va_D A ws) (hS : va_S A H0 H locs) (hA : ∀ q, H0.size ≤ q → A q)
    {n : Int32} {N : Nat} (hn : ¬ n < 0) (hN : n.toNatClampNeg = N) (hN2 : N ≤ 1000) (hc : cells + 1 ≤ R.cells) (hs : slots + N ≤ R.slots) (hdg : decode cc pc = .ok (.newarray .int, 2))
    (kk : ∀ (q : Nat) (H1 : Heap), va_P D cls (ws ++ [(q, .inl (cI, N, .inl (fun _ => 0)))]) H1 → va_D A (ws ++ [(q, .inl (cI, N, .inl (fun _ => 0)))]) → va_S A H0 H1 locs → W p l e R s m args below meth c H1 locs (cells + 1) (slots + N) Q (F0 m (pc + 2) ls (.ref q :: rest))) : W p l e R s m args below meth c H locs cells slots Q (F0 m pc ls (.int n :: rest)) := by
  refine va_newaK hx hb (atype := .int) (hts _ w_arI) rfl hdg rfl hn hN (Nat.le_trans (Nat.mul_le_mul_right _ hN2) (by decide)) hc hs rfl fun H1 cA e1 z1 o1 hAr hNm => ?_
  have ecI : cA = cI := Option.some.inj (hNm.symm.trans (hK.2 0 (cI, .int) rfl).2)
  rw [ecI] at e1
  have hk : ∀ (k : Nat) (x : Nat × va_E), ws[k]? = some x → H1[x.1]? = H[x.1]? := fun k x hx => o1 x.1 ((hP k x hx).lt)
  refine kk H.size H1 ((hP.kept hk).app (fun k x hx => ?_)) (hD.push hP rfl (hA _ hS.1)) ⟨Nat.le_trans hS.1 (by omega), fun x h1 h2 => (o1 x (Nat.lt_of_lt_of_le h1 hS.1)).trans (hS.2.1 x h1 h2), hS.2.2⟩
  have hz : k < 1 := (List.getElem?_eq_some_iff.mp hx).1
  rw [show k = 0 by omega] at hx
  cases hx
  exact e1
theorem ck_newL (hx : p.tables.exec = Jvm.exec) (hb : c.code = cc) (hts : ∀ w ∈ TB, w.before args s = true) (hK : va_K D cls (am_tys cI cL) s) (hP : va_P D cls ws H) (hD : va_D A ws) (hS : va_S A H0 H locs) (hA : ∀ q, H0.size ≤ q → A q)
    {n : Int32} {N : Nat} (hn : ¬ n < 0) (hN : n.toNatClampNeg = N) (hN2 : N ≤ 1000) (hc : cells + 1 ≤ R.cells) (hs : slots + N ≤ R.slots) (hdg : decode cc pc = .ok (.newarray .long, 2))
    (kk : ∀ (q : Nat) (H1 : Heap), va_P D cls (ws ++ [(q, .inl (cL, N, .inr (.inl (fun _ => 0))))]) H1 → va_D A (ws ++ [(q, .inl (cL, N, .inr (.inl (fun _ => 0))))]) → va_S A H0 H1 locs → W p l e R s m args below meth c H1 locs (cells + 1) (slots + N) Q (F0 m (pc + 2) ls (.ref q :: rest))) : W p l e R s m args below meth c H locs cells slots Q (F0 m pc ls (.int n :: rest)) := by
  refine va_newaK hx hb (atype := .long) (hts _ w_arL) rfl hdg rfl hn hN (Nat.le_trans (Nat.mul_le_mul_right _ hN2) (by decide)) hc hs rfl fun H1 cA e1 z1 o1 hAr hNm => ?_
  have ecL : cA = cL := Option.some.inj (hNm.symm.trans (hK.2 1 (cL, .long) rfl).2)
  rw [ecL] at e1
  have hk : ∀ (k : Nat) (x : Nat × va_E), ws[k]? = some x → H1[x.1]? = H[x.1]? := fun k x hx => o1 x.1 ((hP k x hx).lt)
  refine kk H.size H1 ((hP.kept hk).app (fun k x hx => ?_)) (hD.push hP rfl (hA _ hS.1)) ⟨Nat.le_trans hS.1 (by omega), fun x h1 h2 => (o1 x (Nat.lt_of_lt_of_le h1 hS.1)).trans (hS.2.1 x h1 h2), hS.2.2⟩
  have hz : k < 1 := (List.getElem?_eq_some_iff.mp hx).1
  rw [show k = 0 by omega] at hx
  cases hx
  exact e1
end CK
def y_Crowd_init : MethodName := ⟨"MiddleOne$Crowd", "<init>", "()V"⟩
def y_Law_init : MethodName := ⟨"MiddleOne$Law", "<init>", "()V"⟩
def y_Reader_init : MethodName := ⟨"MiddleOne$Reader", "<init>", "()V"⟩
def y_Acts_init : MethodName := ⟨"MiddleOne$Acts", "<init>", "()V"⟩
/-- what the tables say of constructors that another class calls -/
def nst (U : State) : Prop := va_Nw (.methodLinkNest "MiddleOne" 9 y_Crowd_init "MiddleOne") U ∧ va_Nw (.methodLinkNest "MiddleOne" 18 y_Law_init "MiddleOne") U ∧ va_Nw (.methodLinkNest "MiddleOne" 25 y_Reader_init "MiddleOne") U ∧ va_Nw (.methodLinkNest "MiddleOne$Day" 11 y_Crowd_init "MiddleOne") U ∧ va_Nw (.methodLinkNest "MiddleOne" 89 y_Acts_init "MiddleOne") U
theorem nst_same {u U : State} (h : u.vm = U.vm) (hn : nst u) : nst U := ⟨va_Nw.same rfl h hn.1, va_Nw.same rfl h hn.2.1, va_Nw.same rfl h hn.2.2.1, va_Nw.same rfl h hn.2.2.2.1, va_Nw.same rfl h hn.2.2.2.2⟩
theorem nst_warm {s U : State} (hW : s.WarmedH U.vm) (hn : nst s) : nst U := ⟨va_Nw.warmM hW hn.1, va_Nw.warmM hW hn.2.1, va_Nw.warmM hW hn.2.2.1, va_Nw.warmM hW hn.2.2.2.1, va_Nw.warmM hW hn.2.2.2.2⟩
theorem g_init {y : MethodName} {cc : ByteArray} {nL : Nat} (h : Cond.code y cc nL none ∈ TB) : GoodIn TB (.code y cc nL none :: TB) := fun w hw => by
  have hm : w ∈ TB := by
    rcases List.mem_cons.mp hw with rfl | hw
    · exact h
    · exact hw
  exact ⟨hm, good_of_word (goodTB w hm)⟩
/-! ===== Arrays.fill on a machine of its own ===== -/
abbrev m_fl : AMeth := (y_J_fillI, prog_18_method_103_code, 4, none, ([], [], [], [], []))
theorem fl_run {G : AG} {Q : AQ} {M : AM} {a n : Nat} {v : Int32} (hm : G.2.2[0]? = some m_fl) (ha : G.1[a]? = some (.inr (false, n))) (hn : n < 2 ^ 31) (k : Q none (am_fl M a n v)) : am_Call G 1 0 [.ref a, .int v] M Q := by
  refine am_enter (l0 := [(0, .ref a), (1, .int v)]) hm (Nat.le_of_ble_eq_true rfl) rfl ?_
  refine av_iconst (v := 0) d_J_fillI_0 (by decide) ?_
  refine av_istore_n (l' := [(0, .ref a), (1, .int v), (2, .int 0)]) d_J_fillI_1 (by decide) rfl ?_
  refine av_aload_n 0 d_J_fillI_2 rfl ?_
  refine av_alen (v := nI n) d_J_fillI_3 ha rfl ?_
  refine av_istore_n (l' := [(0, .ref a), (1, .int v), (2, .int 0), (3, .int (nI n))]) d_J_fillI_4 (by decide) rfl ?_
  have loop : ∀ j q, q + j = n → av G prog_18_method_103_code ([], [], [], [], []) 4 none 0 Q 5 [(0, .ref a), (1, .int v), (2, .int (nI q)), (3, .int (nI n))] [] (am_fl M a q v) := by
    intro j
    induction j with
    | zero =>
      intro q hq
      have : q = n := by omega
      subst this
      exact av_iload_n 2 d_J_fillI_5 rfl (av_iload_n 3 d_J_fillI_6 rfl (av_icmp 20 d_J_fillI_7 (by decide) (fun _ => av_vret d_J_fillI_20 trivial k) (fun z => absurd (nI_le (Nat.le_refl _) hn) z)))
    | succ j ih =>
      intro q hq
      refine av_iload_n 2 d_J_fillI_5 rfl (av_iload_n 3 d_J_fillI_6 rfl (av_icmp 20 d_J_fillI_7 (by decide) (fun z => absurd z (nI_ge (by omega) (by omega))) (fun _ => ?_)))
      refine av_aload_n 0 d_J_fillI_10 rfl (av_iload_n 2 d_J_fillI_11 rfl (av_iload_n 1 d_J_fillI_12 rfl (av_iast d_J_fillI_13 ha ((n_vp (by omega)).mpr (by omega)) ?_)))
      refine av_iinc (w := 1) (l' := [(0, .ref a), (1, .int v), (2, .int (nI q + 1)), (3, .int (nI n))]) 2 d_J_fillI_14 rfl (by decide) (by decide) rfl (av_goto 5 d_J_fillI_17 (by decide) ?_)
      have R := ih (q + 1) (by omega)
      rw [n_cl (by omega), am_fl_s, nI_1]
      exact R
  have R := loop n 0 (by omega)
  rw [am_fl_0] at R
  exact R
theorem fl_ok {sh : List ASh} (hsh : ∀ (a ci : Nat) (fs : List (Option Nat)), sh[a]? = some (.inl (ci, fs)) → ∃ (C : String) (T : u_T) (N : Nat), cls[ci]? = some (C, T, N) ∧ fs.length = N ∧ ∀ k, fs[k]? = some none → (T k).2.2.2 = false) : am_ok TB cls (sh, (fun _ => none), [m_fl]) [] := by
  refine ⟨goodTB, fun k y cc nL rt cx h => ?_, hsh⟩
  have ho := o_J_fillI (L := 0) (xs := fun _ => 0)
  have hk : k < 1 := (List.getElem?_eq_some_iff.mp h).1
  rw [show k = 0 by omega] at h
  cases h
  exact ⟨ho.1, ho.2.1, ho.2.2.1, ho.2.2.2.1, ⟨fun _ _ _ _ h => by simp at h, fun _ _ _ _ h => by simp at h, fun _ _ h => by simp at h, fun _ _ h => by simp at h⟩, fun _ _ h => by simp at h⟩
section CT
variable {p : Program} {l : Launch} {e : Env} {R : Room} {s : State} {m : MethodId} {args : Array Value} {below : List Frame} {meth : Method} {c : Code} {cells slots : Nat} {Qf : State → Prop}
variable {D : va_G} {cI cL : ClassId} {A : Nat → Prop} {cc : ByteArray} {nL pc : Nat} {own : String} {ls : Array Slot} {H : Heap} {locs : List Loc} {sh : List ASh} {ad : Nat → Nat} {cx : ACx} {Q : AQ} {la : AL} {M : AM}
/-- a constructor's end, on the machine of its own cells -/
theorem ck_tail (hx : p.tables.exec = Jvm.exec) (hb : c.code = cc) (hml : c.maxLocals = nL) (hown : s.vm.findClass own = some m.cls) (hts : ∀ w ∈ TB, w.before args s = true) (hK : va_K D cls (am_tys cI cL) s) (hA : ∀ q, s.heap.size ≤ q → A q)
    (hsh : ∀ (a ci : Nat) (fs : List (Option Nat)), sh[a]? = some (.inl (ci, fs)) → ∃ (C : String) (T : u_T) (N : Nat), cls[ci]? = some (C, T, N) ∧ fs.length = N ∧ ∀ k, fs[k]? = some none → (T k).2.2.2 = false)
    (hX : am_okX TB cls (sh, (fun _ => none), [m_fl]) own cx) (hX5 : cx.2.2.2.2 = []) (hRm : 2 ≤ R.frames ∧ 192 ≤ R.locals) (hcs : cells ≤ R.cells ∧ slots ≤ R.slots)
    (hP : va_P D cls (am_w sh ad cI cL M) H) (hD : va_D A (am_w sh ad cI cL M)) (hS : va_S A s.heap H locs) (hl : lv_has ls nL (am_lc ad la))
    (fin : ∀ (M1 : AM) (H1 : Heap) (locs1 : List Loc) (ls1 : Array Slot) (pc1 : Nat), Q none M1 → decode cc pc1 = .ok (.return_, 1) → va_P D cls (am_w sh ad cI cL M1) H1 → va_S A s.heap H1 locs1 → W p l e R s m args below meth c H1 locs1 cells slots Qf (F0 m pc1 ls1 []))
    (run : av (sh, (fun _ => none), [m_fl]) cc cx nL none 1 Q pc la [] M) : W p l e R s m args below meth c H locs cells slots Qf (F0 m pc ls []) := by
  have hG := fl_ok hsh
  have hcl := am_step (p := p) (l := l) (e := e) (R := R) (s := s) (m := m) (args := args) (below := below) (meth := meth) (c := c) (cells := cells) (slots := slots) (Qf := Qf)
    (G := (sh, (fun _ => none), [m_fl])) (sts := []) (cls := cls) (D := D) (ad := ad) (cI := cI) (cL := cL) (A := A) (TB := TB) (cc := cc) (nL := nL) (cx := cx) (own := own) (rt := none) (Cl := am_Call (sh, (fun _ => none), [m_fl]) 1) (Q := Q)
    hx hb hml hown hts goodTB hK ⟨fun q C nm h => by simp at h, fun q n f h => by simp at h⟩ hA hX (fun idx q h => by rw [hX5] at h; simp at h) hsh (fun k y cc nL rt cx h => by obtain ⟨-, a1, a2, a3, -⟩ := hG.2.1 k y cc nL rt cx h; exact ⟨a1, a2, a3⟩)
    (rmC := am_rm 1) ⟨rfl, rfl, hRm.1, hRm.2⟩ hcs (fun k as M Q' h y cc' nL' rt' cx' hk sz => am_sound hG l D ad cI cL 1 k as M Q' h y cc' nL' rt' cx' hk sz) (fun k as M Q' h => am_Call_some h)
    (fun v M H locs ls pc hq hf hd hP hS => by
      cases v with
      | none => exact fin M H locs ls pc hq hd hP hS
      | some v => exact hf.elim)
  exact run _ hcl H locs ls hP hD hS hl
end CT
