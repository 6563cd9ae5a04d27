/-! ===== an abstract machine: values with cells by number, memory as functions; a method's run as a least fixed point ===== -/
abbrev AL : Type := List (Nat × Value)
abbrev AM : Type := (Nat → Nat → Int32) × (Nat → Nat → Int64)
abbrev AK : Type := Nat → AL → List Value → AM → Prop
abbrev AQ : Type := Option Value → AM → Prop
abbrev AC : Type := Nat → List Value → AM → AQ → Prop
/-- a cell's shape: an object (its class's number, its fields: a cell or an int), or an array (long or int, its length) -/
abbrev ASh : Type := (Nat × List (Option Nat)) ⊕ (Bool × Nat)
/-- what a class's constant pool means: fields (class, slot, boolean), methods (receiver's class, method, arguments), ints, longs, static arrays -/
abbrev ACx : Type := List (Nat × Nat × Nat × Bool) × List (Nat × Option Nat × Nat × Nat) × List (Nat × Int32) × List (Nat × Int64) × List (Nat × Nat)
abbrev AMeth : Type := MethodName × ByteArray × Nat × Option FieldType × ACx
/-- shapes; static arrays by their cells' numbers (length, contents); methods -/
abbrev AG : Type := List ASh × (Nat → Option (Nat × (Nat → Int32))) × List AMeth
def am_set (l : AL) (i : Nat) (v : Value) : AL := l.filter (fun q => decide (q.1 < i) && !(q.1 + 1 == i && q.2.category == 2)) ++ (i, v) :: l.filter (fun q => decide (i < q.1) && !(q.1 == i + 1 && v.category == 2))
def am_up {α : Type} (f : Nat → Nat → α) (a k : Nat) (v : α) : Nat → Nat → α := fun b j => if b = a then (if j = k then v else f b j) else f b j
def am_ur {α : Type} (f : Nat → Nat → α) (a : Nat) (g : Nat → α) : Nat → Nat → α := fun b j => if b = a then g j else f b j
def am_wi (M : AM) (a k : Nat) (v : Int32) : AM := (am_up M.1 a k v, M.2)
def am_wl (M : AM) (a k : Nat) (v : Int64) : AM := (M.1, am_up M.2 a k v)
def am_len (G : AG) (a : Nat) : Option (Bool × Nat) := match G.1[a]? with
  | some (.inr x) => some x
  | _ => (G.2.1 a).map (fun q => (false, q.1))
def am_ld (K : AK) (npc i : Nat) (c : Nat) (l : AL) (st : List Value) (M : AM) : Prop := ∃ v : Value, (i, v) ∈ l ∧ (match v, c with
  | .int _, 0 => True
  | .long _, 1 => True
  | .ref _, 2 => True
  | _, _ => False) ∧ K npc l (v :: st) M
def am_st (K : AK) (npc i nL : Nat) (c : Nat) (l : AL) (st : List Value) (M : AM) : Prop := match st with
  | .int x :: r => c = 0 ∧ i < nL ∧ K npc (am_set l i (.int x)) r M
  | .long x :: r => c = 1 ∧ i + 1 < nL ∧ K npc (am_set l i (.long x)) r M
  | .ref x :: r => c = 2 ∧ i < nL ∧ K npc (am_set l i (.ref x)) r M
  | _ => False
def am_ii (f : Int32 → Int32 → Int32) (g : Int32 → Int32 → Prop) (K : AK) (npc : Nat) (l : AL) (st : List Value) (M : AM) : Prop := match st with
  | .int y :: .int x :: r => g x y ∧ K npc l (.int (f x y) :: r) M
  | _ => False
def am_ll (f : Int64 → Int64 → Int64) (g : Int64 → Int64 → Prop) (K : AK) (npc : Nat) (l : AL) (st : List Value) (M : AM) : Prop := match st with
  | .long y :: .long x :: r => g x y ∧ K npc l (.long (f x y) :: r) M
  | _ => False
def am_i1 (f : Int32 → Value) (K : AK) (npc : Nat) (l : AL) (st : List Value) (M : AM) : Prop := match st with
  | .int x :: r => K npc l (f x :: r) M
  | _ => False
def am_br (p : Int32 → Int32 → Prop) (K : AK) (npc tgt : Nat) (l : AL) (st : List Value) (M : AM) : Prop := match st with
  | .int y :: .int x :: r => (p x y → K tgt l r M) ∧ (¬ p x y → K npc l r M)
  | _ => False
def am_br0 (p : Int32 → Int32 → Prop) (K : AK) (npc tgt : Nat) (l : AL) (st : List Value) (M : AM) : Prop := match st with
  | .int x :: r => (p x 0 → K tgt l r M) ∧ (¬ p x 0 → K npc l r M)
  | _ => False
def am_cond : ClassFile.Cond → Int32 → Int32 → Prop
  | .eq => fun x y => x = y
  | .ne => fun x y => ¬ x = y
  | .lt => fun x y => x < y
  | .ge => fun x y => y ≤ x
  | .gt => fun x y => y < x
  | .le => fun x y => x ≤ y
def am_getf (G : AG) (cx : ACx) (K : AK) (npc idx : Nat) (l : AL) (st : List Value) (M : AM) : Prop := match st with
  | .ref a :: r => ∃ (ci k : Nat) (b : Bool) (fs : List (Option Nat)), cx.1.lookup idx = some (ci, k, b) ∧ G.1[a]? = some (.inl (ci, fs)) ∧ (match fs[k]? with
    | some none => K npc l (.int (M.1 a k) :: r) M
    | some (some q) => K npc l (.ref q :: r) M
    | none => False)
  | _ => False
def am_putf (G : AG) (cx : ACx) (K : AK) (npc idx : Nat) (l : AL) (st : List Value) (M : AM) : Prop := match st with
  | .int v :: .ref a :: r => ∃ (ci k : Nat) (b : Bool) (fs : List (Option Nat)), cx.1.lookup idx = some (ci, k, b) ∧ G.1[a]? = some (.inl (ci, fs)) ∧ fs[k]? = some none ∧ (b = false ∨ v = 0 ∨ v = 1) ∧ K npc l r (am_wi M a k v)
  | _ => False
def am_iald (G : AG) (K : AK) (npc : Nat) (l : AL) (st : List Value) (M : AM) : Prop := match st with
  | .int i :: .ref a :: r => (∃ n, G.1[a]? = some (.inr (false, n)) ∧ vp_in i n ∧ K npc l (.int (M.1 a i.toNatClampNeg) :: r) M) ∨ (∃ n f, G.2.1 a = some (n, f) ∧ vp_in i n ∧ K npc l (.int (f i.toNatClampNeg) :: r) M)
  | _ => False
def am_iast (G : AG) (K : AK) (npc : Nat) (l : AL) (st : List Value) (M : AM) : Prop := match st with
  | .int v :: .int i :: .ref a :: r => ∃ n, G.1[a]? = some (.inr (false, n)) ∧ vp_in i n ∧ K npc l r (am_wi M a i.toNatClampNeg v)
  | _ => False
def am_lald (G : AG) (K : AK) (npc : Nat) (l : AL) (st : List Value) (M : AM) : Prop := match st with
  | .int i :: .ref a :: r => ∃ n, G.1[a]? = some (.inr (true, n)) ∧ vp_in i n ∧ K npc l (.long (M.2 a i.toNatClampNeg) :: r) M
  | _ => False
def am_last (G : AG) (K : AK) (npc : Nat) (l : AL) (st : List Value) (M : AM) : Prop := match st with
  | .long v :: .int i :: .ref a :: r => ∃ n, G.1[a]? = some (.inr (true, n)) ∧ vp_in i n ∧ K npc l r (am_wl M a i.toNatClampNeg v)
  | _ => False
def am_alen (G : AG) (K : AK) (npc : Nat) (l : AL) (st : List Value) (M : AM) : Prop := match st with
  | .ref a :: r => ∃ n, ((∃ b, G.1[a]? = some (.inr (b, n))) ∨ ∃ f, G.2.1 a = some (n, f)) ∧ K npc l (.int (Int32.ofNat n) :: r) M
  | _ => False
def am_cpi (M : AM) (a b sp dp n : Nat) : AM := (am_ur M.1 b (va_cpy (M.1 a) (M.1 b) sp dp n), M.2)
def am_cpl (M : AM) (a b sp dp n : Nat) : AM := (M.1, am_ur M.2 b (va_cpy (M.2 a) (M.2 b) sp dp n))
def am_copy (G : AG) (K : AK) (npc : Nat) (l : AL) (st : List Value) (M : AM) : Prop := match st with
  | .int n :: .int dp :: .ref b :: .int sp :: .ref a :: r => ∃ (z : Bool) (n0 n1 : Nat), G.1[a]? = some (.inr (z, n0)) ∧ G.1[b]? = some (.inr (z, n1)) ∧ ¬ sp < 0 ∧ ¬ dp < 0 ∧ ¬ n < 0 ∧ sp.toNatClampNeg + n.toNatClampNeg ≤ n0 ∧ dp.toNatClampNeg + n.toNatClampNeg ≤ n1 ∧ (r.map fun v => v.category).sum ≤ 8 ∧
      K npc l r (if z then am_cpl M a b sp.toNatClampNeg dp.toNatClampNeg n.toNatClampNeg else am_cpi M a b sp.toNatClampNeg dp.toNatClampNeg n.toNatClampNeg)
  | _ => False
def am_inv (G : AG) (cx : ACx) (Cl : AC) (K : AK) (vir : Bool) (npc idx : Nat) (l : AL) (st : List Value) (M : AM) : Prop :=
  ∃ (oc : Option Nat) (k n : Nat) (as rest : List Value), cx.2.1.lookup idx = some (oc, k, n) ∧ st = as.reverse ++ rest ∧ as.length = n ∧ (rest.map fun v => v.category).sum ≤ 8 ∧
    (match oc with
      | none => vir = false
      | some ci => vir = true ∧ ∃ (a : Nat) (fs : List (Option Nat)), as.head? = some (.ref a) ∧ G.1[a]? = some (.inl (ci, fs))) ∧ Cl k as M (fun r M' => K npc l (r.toList ++ rest) M')
def am_mm (f : Int32 → Int32 → Int32) (K : AK) (npc : Nat) (l : AL) (st : List Value) (M : AM) : Prop := match st with
  | .int y :: .int x :: r => (r.map fun v => v.category).sum ≤ 8 ∧ K npc l (.int (f x y) :: r) M
  | _ => False
def am_fit (rt : Option FieldType) (v : Option Value) : Prop := match rt, v with
  | none, none => True
  | some .int, some (.int _) => True
  | some .boolean, some (.int x) => x = 0 ∨ x = 1
  | some .long, some (.long _) => True
  | some (.object _), some (.ref _) => True
  | _, _ => False
def am_tsw (K : AK) (pc : Nat) (dflt lo hi : Int) (offs : Array Int) (l : AL) (st : List Value) (M : AM) : Prop := match st with
  | .int x :: r => ((x.toInt < lo ∨ hi < x.toInt) → ∃ t : Nat, (pc : Int) + dflt = (t : Int) ∧ K t l r M) ∧ (¬ x.toInt < lo → ¬ hi < x.toInt → ∃ (off : Int) (t : Nat), offs[(x.toInt - lo).toNat]? = some off ∧ (pc : Int) + off = (t : Int) ∧ K t l r M)
  | _ => False
def am_lsw (K : AK) (pc : Nat) (dflt : Int) (ps : Array (Int × Int)) (l : AL) (st : List Value) (M : AM) : Prop := match st with
  | .int x :: r => (ps.toList.zip (ps.toList.drop 1)).all (fun (a, next) => a.1 < next.1) = true ∧ ∃ t : Nat, (pc : Int) + Op.lookupswitch.offset ps.toList dflt x.toInt = (t : Int) ∧ K t l r M
  | _ => False
def am_dup (K : AK) (npc : Nat) (l : AL) (st : List Value) (M : AM) : Prop := match st with
  | v :: r => v.category = 1 ∧ K npc l (v :: v :: r) M
  | _ => False
def am_dup2 (K : AK) (npc : Nat) (l : AL) (st : List Value) (M : AM) : Prop := match st with
  | v :: w :: r => v.category = 1 ∧ w.category = 1 ∧ K npc l (v :: w :: v :: w :: r) M
  | _ => False
def am_pop (K : AK) (npc : Nat) (l : AL) (st : List Value) (M : AM) : Prop := match st with
  | v :: r => v.category = 1 ∧ K npc l r M
  | _ => False
def am_l2i (K : AK) (npc : Nat) (l : AL) (st : List Value) (M : AM) : Prop := match st with
  | .long x :: r => K npc l (.int x.toInt32 :: r) M
  | _ => False
def am_lcmp (K : AK) (npc : Nat) (l : AL) (st : List Value) (M : AM) : Prop := match st with
  | .long y :: .long x :: r => K npc l (.int (lg_cmp x y) :: r) M
  | _ => False
def am_lsh (K : AK) (npc : Nat) (l : AL) (st : List Value) (M : AM) : Prop := match st with
  | .int y :: .long x :: r => K npc l (.long (x <<< (y.toInt64 &&& 63)) :: r) M
  | _ => False
def am_iinc (K : AK) (npc i nL : Nat) (n : Int) (l : AL) (st : List Value) (M : AM) : Prop := ∃ x : Int32, (i, .int x) ∈ l ∧ i < nL ∧ K npc (am_set l i (.int (x + Int32.ofInt n))) st M
def am_ret (rt : Option FieldType) (Q : AQ) (c : Nat) (st : List Value) (M : AM) : Prop := match st, c with
  | [], 3 => am_fit rt none ∧ Q none M
  | [.int v], 0 => am_fit rt (some (.int v)) ∧ Q (some (.int v)) M
  | [.long v], 1 => am_fit rt (some (.long v)) ∧ Q (some (.long v)) M
  | [.ref v], 2 => am_fit rt (some (.ref v)) ∧ Q (some (.ref v)) M
  | _, _ => False
/-- one instruction -/
def am_sem (G : AG) (cx : ACx) (nL : Nat) (rt : Option FieldType) (Cl : AC) (Q : AQ) (K : AK) (i : Instr) (len pc : Nat) (l : AL) (st : List Value) (M : AM) : Prop := match i with
  | .iconst n => len = 1 ∧ K (pc + 1) l (.int (Int32.ofInt n) :: st) M
  | .bipush n => len = 2 ∧ K (pc + 2) l (.int (Int8.ofInt n).toInt32 :: st) M
  | .sipush n => len = 3 ∧ K (pc + 3) l (.int (Int16.ofInt n).toInt32 :: st) M
  | .lconst n => len = 1 ∧ K (pc + 1) l (.long (Int64.ofNat (n : Nat)) :: st) M
  | .ldc idx => len = 2 ∧ ∃ v, cx.2.2.1.lookup idx = some v ∧ K (pc + 2) l (.int v :: st) M
  | .ldc_w idx => len = 3 ∧ ∃ v, cx.2.2.1.lookup idx = some v ∧ K (pc + 3) l (.int v :: st) M
  | .ldc2_w idx => len = 3 ∧ ∃ v, cx.2.2.2.1.lookup idx = some v ∧ K (pc + 3) l (.long v :: st) M
  | .iload_n k => len = 1 ∧ am_ld K (pc + 1) (k : Nat) 0 l st M
  | .iload k => len = 2 ∧ am_ld K (pc + 2) k 0 l st M
  | .lload_n k => len = 1 ∧ am_ld K (pc + 1) (k : Nat) 1 l st M
  | .lload k => len = 2 ∧ am_ld K (pc + 2) k 1 l st M
  | .aload_n k => len = 1 ∧ am_ld K (pc + 1) (k : Nat) 2 l st M
  | .aload k => len = 2 ∧ am_ld K (pc + 2) k 2 l st M
  | .istore_n k => len = 1 ∧ am_st K (pc + 1) (k : Nat) nL 0 l st M
  | .istore k => len = 2 ∧ am_st K (pc + 2) k nL 0 l st M
  | .lstore_n k => len = 1 ∧ am_st K (pc + 1) (k : Nat) nL 1 l st M
  | .lstore k => len = 2 ∧ am_st K (pc + 2) k nL 1 l st M
  | .astore_n k => len = 1 ∧ am_st K (pc + 1) (k : Nat) nL 2 l st M
  | .astore k => len = 2 ∧ am_st K (pc + 2) k nL 2 l st M
  | .iinc i n => len = 3 ∧ am_iinc K (pc + 3) i nL n l st M
  | .iadd => len = 1 ∧ am_ii (fun x y => x + y) (fun _ _ => True) K (pc + 1) l st M
  | .isub => len = 1 ∧ am_ii (fun x y => x - y) (fun _ _ => True) K (pc + 1) l st M
  | .imul => len = 1 ∧ am_ii (fun x y => x * y) (fun _ _ => True) K (pc + 1) l st M
  | .iand => len = 1 ∧ am_ii (fun x y => x &&& y) (fun _ _ => True) K (pc + 1) l st M
  | .ior => len = 1 ∧ am_ii (fun x y => x ||| y) (fun _ _ => True) K (pc + 1) l st M
  | .ixor => len = 1 ∧ am_ii (fun x y => x ^^^ y) (fun _ _ => True) K (pc + 1) l st M
  | .ishl => len = 1 ∧ am_ii (fun x y => x <<< (y &&& 31)) (fun _ _ => True) K (pc + 1) l st M
  | .ishr => len = 1 ∧ am_ii (fun x y => x >>> (y &&& 31)) (fun _ _ => True) K (pc + 1) l st M
  | .iushr => len = 1 ∧ am_ii (fun x y => (x.toUInt32 >>> (y.toUInt32 &&& Int32.toUInt32 31)).toInt32) (fun _ _ => True) K (pc + 1) l st M
  | .idiv => len = 1 ∧ am_ii (fun x y => x / y) (fun _ y => ¬ y = 0) K (pc + 1) l st M
  | .irem => len = 1 ∧ am_ii (fun x y => x - x / y * y) (fun _ y => ¬ y = 0) K (pc + 1) l st M
  | .ineg => len = 1 ∧ am_i1 (fun x => .int (-x)) K (pc + 1) l st M
  | .i2l => len = 1 ∧ am_i1 (fun x => .long x.toInt64) K (pc + 1) l st M
  | .i2b => len = 1 ∧ am_i1 (fun x => .int x.toInt8.toInt32) K (pc + 1) l st M
  | .i2s => len = 1 ∧ am_i1 (fun x => .int x.toInt16.toInt32) K (pc + 1) l st M
  | .l2i => len = 1 ∧ am_l2i K (pc + 1) l st M
  | .ladd => len = 1 ∧ am_ll (fun x y => x + y) (fun _ _ => True) K (pc + 1) l st M
  | .lor => len = 1 ∧ am_ll (fun x y => x ||| y) (fun _ _ => True) K (pc + 1) l st M
  | .land => len = 1 ∧ am_ll (fun x y => x &&& y) (fun _ _ => True) K (pc + 1) l st M
  | .ldiv => len = 1 ∧ am_ll (fun x y => x / y) (fun _ y => ¬ y = 0) K (pc + 1) l st M
  | .lrem => len = 1 ∧ am_ll (fun x y => x - x / y * y) (fun _ y => ¬ y = 0) K (pc + 1) l st M
  | .lshl => len = 1 ∧ am_lsh K (pc + 1) l st M
  | .lcmp => len = 1 ∧ am_lcmp K (pc + 1) l st M
  | .dup => len = 1 ∧ am_dup K (pc + 1) l st M
  | .dup2 => len = 1 ∧ am_dup2 K (pc + 1) l st M
  | .pop => len = 1 ∧ am_pop K (pc + 1) l st M
  | .if_icmp c off => len = 3 ∧ ∃ t : Nat, (pc : Int) + off = (t : Int) ∧ am_br (am_cond c) K (pc + 3) t l st M
  | .ifCond c off => len = 3 ∧ ∃ t : Nat, (pc : Int) + off = (t : Int) ∧ am_br0 (am_cond c) K (pc + 3) t l st M
  | .goto off => len = 3 ∧ ∃ t : Nat, (pc : Int) + off = (t : Int) ∧ K t l st M
  | .tableswitch d lo hi offs => am_tsw K pc d lo hi offs l st M
  | .lookupswitch d ps => am_lsw K pc d ps l st M
  | .getfield idx => len = 3 ∧ am_getf G cx K (pc + 3) idx l st M
  | .putfield idx => len = 3 ∧ am_putf G cx K (pc + 3) idx l st M
  | .getstatic idx => len = 3 ∧ ∃ q, cx.2.2.2.2.lookup idx = some q ∧ K (pc + 3) l (.ref q :: st) M
  | .iaload => len = 1 ∧ am_iald G K (pc + 1) l st M
  | .iastore => len = 1 ∧ am_iast G K (pc + 1) l st M
  | .laload => len = 1 ∧ am_lald G K (pc + 1) l st M
  | .lastore => len = 1 ∧ am_last G K (pc + 1) l st M
  | .arraylength => len = 1 ∧ am_alen G K (pc + 1) l st M
  | .invokevirtual idx => len = 3 ∧ am_inv G cx Cl K true (pc + 3) idx l st M
  | .invokestatic idx => len = 3 ∧ (am_inv G cx Cl K false (pc + 3) idx l st M ∨ (cx.2.1.lookup idx = some (none, 99999, 5) ∧ am_copy G K (pc + 3) l st M) ∨ (cx.2.1.lookup idx = some (none, 99998, 2) ∧ am_mm (fun x y => if x < y then y else x) K (pc + 3) l st M) ∨ (cx.2.1.lookup idx = some (none, 99997, 2) ∧ am_mm (fun x y => if y < x then y else x) K (pc + 3) l st M))
  | .ireturn => len = 1 ∧ am_ret rt Q 0 st M
  | .lreturn => len = 1 ∧ am_ret rt Q 1 st M
  | .areturn => len = 1 ∧ am_ret rt Q 2 st M
  | .return_ => len = 1 ∧ am_ret rt Q 3 st M
  | _ => False
def am_cl (G : AG) (cc : ByteArray) (cx : ACx) (nL : Nat) (rt : Option FieldType) (Cl : AC) (Q : AQ) (X : AK) : Prop :=
  (∀ pc i len l st M, decode cc pc = .ok (i, len) → am_sem G cx nL rt Cl Q X i len pc l st M → X pc l st M) ∧ ∀ pc (l l' : AL) st M, (∀ q ∈ l', q ∈ l) → X pc l' st M → X pc l st M
/-- a method's run from a place on comes to its end with Q -/
def am_V (G : AG) (cc : ByteArray) (cx : ACx) (nL : Nat) (rt : Option FieldType) (Cl : AC) (Q : AQ) : AK := fun pc l st M => ∀ X : AK, am_cl G cc cx nL rt Cl Q X → X pc l st M
/-- a call, at most d deep -/
def am_Call (G : AG) : Nat → AC
  | 0 => fun _ _ _ _ => False
  | d + 1 => fun k as M Q => ∃ (y : MethodName) (cc : ByteArray) (nL : Nat) (rt : Option FieldType) (cx : ACx), G.2.2[k]? = some (y, cc, nL, rt, cx) ∧ (as.map fun v => v.category).sum ≤ nL ∧ am_V G cc cx nL rt (am_Call G d) Q 0 (lv_args 0 as) [] M
