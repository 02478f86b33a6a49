/-! THE PROGRAM LOGIC: an interpreter of resolved instructions over a memory of places, as a least fixed point. -/
abbrev xe_M : Type := Nat → va_E
abbrev xe_K : Type := Nat → List Value → List Value → Nat → Nat → Nat → xe_M → Prop
abbrev xe_Q : Type := Option Value → Nat → xe_M → Prop
abbrev xe_C : Type := Nat → List Value → Nat → xe_M → xe_Q → Prop
/-- a method: name, bytes, locals, answer, its class's number, kind (0 static, 1 instance, 2 constructor, 3 instance that may throw, 4 static with a table), arguments, cells, slots, resolved code, the places of its instructions -/
abbrev xe_I : Type := MethodName × ByteArray × Nat × Option FieldType × Nat × Nat × Nat × Nat × Nat × List Instr × List Nat
def xe_iy (f : xe_I) : MethodName := f.1
def xe_ib (f : xe_I) : ByteArray := f.2.1
def xe_iL (f : xe_I) : Nat := f.2.2.1
def xe_ir (f : xe_I) : Option FieldType := f.2.2.2.1
def xe_ic (f : xe_I) : Nat := f.2.2.2.2.1
def xe_ik (f : xe_I) : Nat := f.2.2.2.2.2.1
def xe_in (f : xe_I) : Nat := f.2.2.2.2.2.2.1
def xe_im (f : xe_I) : Nat := f.2.2.2.2.2.2.2.1
def xe_is (f : xe_I) : Nat := f.2.2.2.2.2.2.2.2.1
def xe_code (f : xe_I) : List Instr := f.2.2.2.2.2.2.2.2.2.1
def xe_pcs (f : xe_I) : List Nat := f.2.2.2.2.2.2.2.2.2.2
def xe_lg (v : Value) : Bool := match v with
  | .long _ => true
  | _ => false
/-- a value of one slot may be put at k -/
def xe_s1 (dl : List Value) (k : Nat) : Bool := decide (k < dl.length) && (k == 0 || !(xe_lg (dl.getD (k - 1) .null)))
def xe_s2 (dl : List Value) (k : Nat) : Bool := decide (k + 1 < dl.length) && (k == 0 || !(xe_lg (dl.getD (k - 1) .null)))
/-- an argument: an int or a reference -/
def xe_c1 (v : Value) : Bool := match v with
  | .int _ => true
  | .ref _ => true
  | _ => false
def xe_cat (r : List Value) : Nat := (r.map fun v => v.category).sum
def xe_b (c : ClassFile.Cond) (x y : Int32) : Prop := match c with
  | .eq => x = y
  | .ne => ¬ x = y
  | .lt => x < y
  | .ge => y ≤ x
  | .gt => y < x
  | .le => x ≤ y
/-- one resolved instruction: what must hold, and where it goes on -/
def xe_ins (T : List xe_I) (C : xe_C) (Q : xe_Q) (K : xe_K) (i : Nat) (dl st : List Value) (kc ks z : Nat) (M : xe_M) (ins : Instr) : Prop := match ins with
  | .sipush v => K (i + 1) dl (.int (Int32.ofInt v) :: st) kc ks z M
  | .lconst n => n = 0 ∧ K (i + 1) dl (.long 0 :: st) kc ks z M
  | .aconst_null => K (i + 1) dl (.null :: st) kc ks z M
  | .iload k => ∃ x, dl[k]? = some (.int x) ∧ K (i + 1) dl (.int x :: st) kc ks z M
  | .lload k => ∃ x, dl[k]? = some (.long x) ∧ K (i + 1) dl (.long x :: st) kc ks z M
  | .aload k => ∃ x, dl[k]? = some (.ref x) ∧ K (i + 1) dl (.ref x :: st) kc ks z M
  | .istore k => ∃ x r, st = .int x :: r ∧ xe_s1 dl k = true ∧ K (i + 1) (dl.set k (.int x)) r kc ks z M
  | .astore k => ∃ x r, st = .ref x :: r ∧ xe_s1 dl k = true ∧ K (i + 1) (dl.set k (.ref x)) r kc ks z M
  | .lstore k => ∃ x r, st = .long x :: r ∧ xe_s2 dl k = true ∧ K (i + 1) ((dl.set k (.long x)).set (k + 1) (.double 0)) r kc ks z M
  | .iinc k n => ∃ x, dl[k]? = some (.int x) ∧ xe_s1 dl k = true ∧ K (i + 1) (dl.set k (.int (x + Int32.ofInt n))) st kc ks z M
  | .iadd => ∃ x y r, st = .int y :: .int x :: r ∧ K (i + 1) dl (.int (x + y) :: r) kc ks z M
  | .isub => ∃ x y r, st = .int y :: .int x :: r ∧ K (i + 1) dl (.int (x - y) :: r) kc ks z M
  | .imul => ∃ x y r, st = .int y :: .int x :: r ∧ K (i + 1) dl (.int (x * y) :: r) kc ks z M
  | .iand => ∃ x y r, st = .int y :: .int x :: r ∧ K (i + 1) dl (.int (x &&& y) :: r) kc ks z M
  | .ior => ∃ x y r, st = .int y :: .int x :: r ∧ K (i + 1) dl (.int (x ||| y) :: r) kc ks z M
  | .ixor => ∃ x y r, st = .int y :: .int x :: r ∧ K (i + 1) dl (.int (x ^^^ y) :: r) kc ks z M
  | .idiv => ∃ x y r, st = .int y :: .int x :: r ∧ ¬ y = 0 ∧ K (i + 1) dl (.int (x / y) :: r) kc ks z M
  | .irem => ∃ x y r, st = .int y :: .int x :: r ∧ ¬ y = 0 ∧ K (i + 1) dl (.int (x - x / y * y) :: r) kc ks z M
  | .ishl => ∃ x y r, st = .int y :: .int x :: r ∧ K (i + 1) dl (.int (x <<< (y &&& 31)) :: r) kc ks z M
  | .ishr => ∃ x y r, st = .int y :: .int x :: r ∧ K (i + 1) dl (.int (x >>> (y &&& 31)) :: r) kc ks z M
  | .iushr => ∃ x y r, st = .int y :: .int x :: r ∧ K (i + 1) dl (.int (x.toUInt32 >>> (y.toUInt32 &&& Int32.toUInt32 31)).toInt32 :: r) kc ks z M
  | .ineg => ∃ x r, st = .int x :: r ∧ K (i + 1) dl (.int (-x) :: r) kc ks z M
  | .i2b => ∃ x r, st = .int x :: r ∧ K (i + 1) dl (.int x.toInt8.toInt32 :: r) kc ks z M
  | .i2s => ∃ x r, st = .int x :: r ∧ K (i + 1) dl (.int x.toInt16.toInt32 :: r) kc ks z M
  | .i2l => ∃ x r, st = .int x :: r ∧ K (i + 1) dl (.long x.toInt64 :: r) kc ks z M
  | .l2i => ∃ x r, st = .long x :: r ∧ K (i + 1) dl (.int x.toInt32 :: r) kc ks z M
  | .lor => ∃ x y r, st = .long y :: .long x :: r ∧ K (i + 1) dl (.long (x ||| y) :: r) kc ks z M
  | .lxor => ∃ x y r, st = .long y :: .long x :: r ∧ K (i + 1) dl (.long (x ^^^ y) :: r) kc ks z M
  | .lcmp => ∃ x y r, st = .long y :: .long x :: r ∧ K (i + 1) dl (.int (lg_cmp x y) :: r) kc ks z M
  | .lshl => ∃ x y r, st = .int y :: .long x :: r ∧ K (i + 1) dl (.long (x <<< (y.toInt64 &&& 63)) :: r) kc ks z M
  | .lushr => ∃ x y r, st = .int y :: .long x :: r ∧ K (i + 1) dl (.long (x.toUInt64 >>> (y.toInt64.toUInt64 &&& Int64.toUInt64 63)).toInt64 :: r) kc ks z M
  | .dup => ∃ v r, st = v :: r ∧ v.category = 1 ∧ K (i + 1) dl (v :: v :: r) kc ks z M
  | .pop => ∃ v r, st = v :: r ∧ v.category = 1 ∧ K (i + 1) dl r kc ks z M
  | .dup_x1 => ∃ v w r, st = v :: w :: r ∧ v.category = 1 ∧ w.category = 1 ∧ K (i + 1) dl (v :: w :: v :: r) kc ks z M
  | .dup2 => ∃ v w r, st = v :: w :: r ∧ v.category = 1 ∧ w.category = 1 ∧ K (i + 1) dl (v :: w :: v :: w :: r) kc ks z M
  | .goto t => K t.toNat dl st kc ks z M
  | .ifCond c t => ∃ x r, st = .int x :: r ∧ (xe_b c x 0 → K t.toNat dl r kc ks z M) ∧ (¬ xe_b c x 0 → K (i + 1) dl r kc ks z M)
  | .if_icmp c t => ∃ x y r, st = .int y :: .int x :: r ∧ (xe_b c x y → K t.toNat dl r kc ks z M) ∧ (¬ xe_b c x y → K (i + 1) dl r kc ks z M)
  | .ifnonnull t => (∃ a r, st = .ref a :: r ∧ K t.toNat dl r kc ks z M) ∨ ∃ r, st = .null :: r ∧ K (i + 1) dl r kc ks z M
  | .tableswitch d lo hi os => ∃ x r, st = .int x :: r ∧ ((x.toInt < lo ∨ hi < x.toInt) → K d.toNat dl r kc ks z M) ∧ (¬ x.toInt < lo → ¬ hi < x.toInt → ∃ t, os[(x.toInt - lo).toNat]? = some t ∧ K t.toNat dl r kc ks z M)
  | .lookupswitch d ps => ∃ x r, st = .int x :: r ∧ K (Op.lookupswitch.offset ps.toList d x.toInt).toNat dl r kc ks z M
  | .getfield n => ∃ a fs v r, st = .ref a :: r ∧ 0 < a ∧ a < z ∧ M a = .inr (n / 64, fs) ∧ fs[n % 64]? = some v ∧ K (i + 1) dl (v :: r) kc ks z M
  | .putfield n => ∃ a fs v r, st = v :: .ref a :: r ∧ 0 < a ∧ a < z ∧ M a = .inr (n / 64, fs) ∧ n % 64 < fs.length ∧ fits (xe_ty (n / 64) (n % 64)) v = true ∧ K (i + 1) dl r kc ks z (va_up M a (.inr (n / 64, fs.set (n % 64) v)))
  | .iaload => ∃ a j n f r, st = .int j :: .ref a :: r ∧ a < z ∧ M a = .inl (1, n, .inl f) ∧ vp_in j n ∧ K (i + 1) dl (.int (f j.toNatClampNeg) :: r) kc ks z M
  | .baload => ∃ a j t n f r, st = .int j :: .ref a :: r ∧ 0 < a ∧ a < z ∧ (t = 0 ∨ t = 3) ∧ M a = .inl (t, n, .inl f) ∧ vp_in j n ∧ K (i + 1) dl (.int (f j.toNatClampNeg) :: r) kc ks z M
  | .laload => ∃ a j n f r, st = .int j :: .ref a :: r ∧ 0 < a ∧ a < z ∧ M a = .inl (2, n, .inr (.inl f)) ∧ vp_in j n ∧ K (i + 1) dl (.long (f j.toNatClampNeg) :: r) kc ks z M
  | .aaload => ∃ a j n f r, st = .int j :: .ref a :: r ∧ 0 < a ∧ a < z ∧ M a = .inl (4, n, .inr (.inr (.inr (.inr f)))) ∧ vp_in j n ∧ K (i + 1) dl (va_rf (f j.toNatClampNeg) :: r) kc ks z M
  | .iastore => ∃ a j x n f r, st = .int x :: .int j :: .ref a :: r ∧ 0 < a ∧ a < z ∧ M a = .inl (1, n, .inl f) ∧ vp_in j n ∧ K (i + 1) dl r kc ks z (va_up M a (.inl (1, n, .inl (upd f j.toNatClampNeg x))))
  | .bastore => ∃ a j x t n f r, st = .int x :: .int j :: .ref a :: r ∧ 0 < a ∧ a < z ∧ ((t = 0 ∧ x.toInt8.toInt32 = x) ∨ (t = 3 ∧ (x = 0 ∨ x = 1))) ∧ M a = .inl (t, n, .inl f) ∧ vp_in j n ∧ K (i + 1) dl r kc ks z (va_up M a (.inl (t, n, .inl (upd f j.toNatClampNeg x))))
  | .lastore => ∃ a j x n f r, st = .long x :: .int j :: .ref a :: r ∧ 0 < a ∧ a < z ∧ M a = .inl (2, n, .inr (.inl f)) ∧ vp_in j n ∧ K (i + 1) dl r kc ks z (va_up M a (.inl (2, n, .inr (.inl (vp_updL f j.toNatClampNeg x)))))
  | .aastore => ∃ a j q n f fs r, st = .ref q :: .int j :: .ref a :: r ∧ 0 < a ∧ a < z ∧ 0 < q ∧ q < z ∧ M q = .inr (5, fs) ∧ M a = .inl (4, n, .inr (.inr (.inr (.inr f)))) ∧ vp_in j n ∧ K (i + 1) dl r kc ks z (va_up M a (.inl (4, n, .inr (.inr (.inr (.inr (va_up f j.toNatClampNeg (some q))))))))
  | .arraylength => ∃ a t n x r, st = .ref a :: r ∧ a < z ∧ t < 5 ∧ M a = .inl (t, n, x) ∧ (a = 0 → t = 1) ∧ K (i + 1) dl (.int (Int32.ofNat n) :: r) kc ks z M
  | .monitorenter => ∃ a0 a sp dp n n0 n1 f g r, st = .int n :: .int dp :: .ref a :: .int sp :: .ref a0 :: r ∧ 0 < a0 ∧ a0 < z ∧ 0 < a ∧ a < z ∧ xe_cat r ≤ 8 ∧ M a0 = .inl (1, n0, .inl f) ∧ M a = .inl (1, n1, .inl g) ∧ ¬ sp < 0 ∧ ¬ dp < 0 ∧ ¬ n < 0 ∧ sp.toNatClampNeg + n.toNatClampNeg ≤ n0 ∧ dp.toNatClampNeg + n.toNatClampNeg ≤ n1 ∧ xe_Z ≤ z ∧ K (i + 1) dl r kc ks z (va_up M a (.inl (1, n1, .inl (va_cpy f g sp.toNatClampNeg dp.toNatClampNeg n.toNatClampNeg))))
  | .monitorexit => ∃ a0 a sp dp n n0 n1 f g r, st = .int n :: .int dp :: .ref a :: .int sp :: .ref a0 :: r ∧ 0 < a0 ∧ a0 < z ∧ 0 < a ∧ a < z ∧ xe_cat r ≤ 8 ∧ M a0 = .inl (2, n0, .inr (.inl f)) ∧ M a = .inl (2, n1, .inr (.inl g)) ∧ ¬ sp < 0 ∧ ¬ dp < 0 ∧ ¬ n < 0 ∧ sp.toNatClampNeg + n.toNatClampNeg ≤ n0 ∧ dp.toNatClampNeg + n.toNatClampNeg ≤ n1 ∧ xe_Z ≤ z ∧ K (i + 1) dl r kc ks z (va_up M a (.inl (2, n1, .inr (.inl (va_cpy f g sp.toNatClampNeg dp.toNatClampNeg n.toNatClampNeg)))))
  | .nop => ∃ a r, st = .ref a :: r ∧ xe_cat r ≤ 8 ∧ K (i + 1) dl r kc ks z M
  | .invokevirtual g => ∃ inf As a fs r, T[g]? = some inf ∧ xe_ik inf = 1 ∧ st = As.reverse ++ .ref a :: r ∧ As.length = xe_in inf ∧ As.all xe_c1 = true ∧ 0 < a ∧ a < z ∧ M a = .inr (xe_ic inf, fs) ∧ xe_cat r ≤ 8 ∧ xe_im inf ≤ kc ∧ xe_is inf ≤ ks ∧ C g (.ref a :: As) z M (fun v z' M' => K (i + 1) dl (v.toList ++ r) (kc - xe_im inf) (ks - xe_is inf) z' M')
  | .invokespecial g => ∃ inf As a fs r, T[g]? = some inf ∧ xe_ik inf = 2 ∧ st = As.reverse ++ .ref a :: r ∧ As.length = xe_in inf ∧ As.all xe_c1 = true ∧ 0 < a ∧ a < z ∧ M a = .inr (xe_ic inf, fs) ∧ xe_cat r ≤ 8 ∧ xe_im inf ≤ kc ∧ xe_is inf ≤ ks ∧ C g (.ref a :: As) z M (fun v z' M' => K (i + 1) dl (v.toList ++ r) (kc - xe_im inf) (ks - xe_is inf) z' M')
  | .invokestatic g => ∃ inf As r, T[g]? = some inf ∧ (xe_ik inf = 0 ∨ xe_ik inf = 4) ∧ st = As.reverse ++ r ∧ As.length = xe_in inf ∧ As.all xe_c1 = true ∧ xe_cat r ≤ 8 ∧ xe_im inf ≤ kc ∧ xe_is inf ≤ ks ∧ C g As z M (fun v z' M' => K (i + 1) dl (v.toList ++ r) (kc - xe_im inf) (ks - xe_is inf) z' M')
  | .new c => ∃ r, xe_cl[c]? = some r ∧ z < xe_Z ∧ 1 ≤ kc ∧ r.2.2 ≤ ks ∧ K (i + 1) dl (.ref z :: st) (kc - 1) (ks - r.2.2) (z + 1) (va_up M z (.inr (c, xe_dflt c)))
  | .newarray t => ∃ n r, st = .int n :: r ∧ ¬ n < 0 ∧ n.toNatClampNeg ≤ 10000 ∧ z < xe_Z ∧ 1 ≤ kc ∧ n.toNatClampNeg ≤ ks ∧ K (i + 1) dl (.ref z :: r) (kc - 1) (ks - n.toNatClampNeg) (z + 1) (va_up M z (match t with | .byte => .inl (0, n.toNatClampNeg, .inl (fun _ => 0)) | .boolean => .inl (3, n.toNatClampNeg, .inl (fun _ => 0)) | .long => .inl (2, n.toNatClampNeg, .inr (.inl (fun _ => 0))) | _ => .inl (1, n.toNatClampNeg, .inl (fun _ => 0))))
  | .anewarray _ => ∃ n r, st = .int n :: r ∧ ¬ n < 0 ∧ n.toNatClampNeg ≤ 10000 ∧ z < xe_Z ∧ 1 ≤ kc ∧ n.toNatClampNeg ≤ ks ∧ K (i + 1) dl (.ref z :: r) (kc - 1) (ks - n.toNatClampNeg) (z + 1) (va_up M z (.inl (4, n.toNatClampNeg, .inr (.inr (.inr (.inr (fun _ => none)))))))
  | .invokedynamic g => ∃ inf As a fs r, T[g]? = some inf ∧ xe_ik inf = 3 ∧ st = As.reverse ++ .ref a :: r ∧ As.length = xe_in inf ∧ As.all xe_c1 = true ∧ 0 < a ∧ a < z ∧ M a = .inr (xe_ic inf, fs) ∧ xe_cat r ≤ 8 ∧ xe_im inf ≤ kc ∧ xe_is inf ≤ ks ∧ C g (.ref a :: As) z M (fun v z' M' => (v = some (.double 0) → K (i + 5) (List.replicate dl.length (.double 0)) [] (kc - xe_im inf) (ks - xe_is inf) z' M') ∧ (v ≠ some (.double 0) → K (i + 1) dl (v.toList ++ r) (kc - xe_im inf) (ks - xe_is inf) z' M'))
  | .athrow => xe_cat st ≤ 8 ∧ 1 ≤ kc ∧ 6 ≤ ks ∧ xe_Z ≤ z ∧ Q (some (.double 0)) z M
  | .ireturn => ∃ x, st = [.int x] ∧ Q (some (.int x)) z M
  | .freturn => ∃ x, st = [.int x] ∧ (x = 0 ∨ x = 1) ∧ Q (some (.int x)) z M
  | .return_ => st = [] ∧ Q none z M
  | _ => False
def xe_step (T : List xe_I) (C : xe_C) (code : List Instr) (Q : xe_Q) (K : xe_K) : xe_K := fun i dl st kc ks z M => ∃ ins, code[i]? = some ins ∧ xe_ins T C Q K i dl st kc ks z M ins
/-- from here the body comes to an end with Q -/
def xe_Ev (T : List xe_I) (C : xe_C) (code : List Instr) (Q : xe_Q) : xe_K := fun i dl st kc ks z M => ∀ X : xe_K, (∀ i dl st kc ks z M, xe_step T C code Q X i dl st kc ks z M → X i dl st kc ks z M) → X i dl st kc ks z M
def xe_entry (n : Nat) (args : List Value) : List Value := args ++ List.replicate (n - args.length) (.double 0)
/-- a call, at most d deep -/
def xe_Call (T : List xe_I) : Nat → xe_C
  | 0 => fun _ _ _ _ _ => False
  | d + 1 => fun g args z M Q => ∃ inf, T[g]? = some inf ∧ xe_Ev T (xe_Call T d) (xe_code inf) Q 0 (xe_entry (xe_iL inf) args) [] (xe_im inf) (xe_is inf) z M
/-- the places in the heap -/
def xe_ad (b base k : Nat) : Nat := match k with
  | 0 => b
  | j + 1 => base + j
def xe_v (b base : Nat) (v : Value) : Value := match v with
  | .ref k => .ref (xe_ad b base k)
  | w => w
def xe_x (b base : Nat) (x : (Nat → Int32) ⊕ (Nat → Int64) ⊕ (Nat → UInt32) ⊕ (Nat → UInt64) ⊕ (Nat → Option Nat)) : (Nat → Int32) ⊕ (Nat → Int64) ⊕ (Nat → UInt32) ⊕ (Nat → UInt64) ⊕ (Nat → Option Nat) := match x with
  | .inr (.inr (.inr (.inr f))) => .inr (.inr (.inr (.inr (fun i => (f i).map (xe_ad b base)))))
  | y => y
def xe_c (ty : Nat → ClassId) (b base : Nat) (e : va_E) : va_E := match e with
  | .inl (t, n, x) => .inl (ty t, n, xe_x b base x)
  | .inr (ci, fs) => .inr (ci, fs.map (xe_v b base))
def xe_W (ty : Nat → ClassId) (b base z : Nat) (M : xe_M) : va_W := (List.range (z - 1)).map (fun k => (base + k, xe_c ty b base (M (k + 1))))
theorem xe_W_get {ty : Nat → ClassId} {b base z : Nat} {M : xe_M} {k : Nat} (h : k + 1 < z) : (xe_W ty b base z M)[k]? = some (base + k, xe_c ty b base (M (k + 1))) := by
  unfold xe_W
  rw [List.getElem?_map, List.getElem?_range (by omega)]
  rfl
theorem xe_W_len {ty : Nat → ClassId} {b base z : Nat} {M : xe_M} : (xe_W ty b base z M).length = z - 1 := by simp [xe_W]
theorem xe_W_set {ty : Nat → ClassId} {b base z : Nat} {M : xe_M} {k : Nat} (e : va_E) : (xe_W ty b base z M).set k (base + k, xe_c ty b base e) = xe_W ty b base z (va_up M (k + 1) e) := by
  apply List.ext_getElem?
  intro j
  by_cases hj : j + 1 < z
  · rw [xe_W_get hj]
    by_cases hk : j = k
    · subst hk
      rw [List.getElem?_set_self (by rw [xe_W_len]; omega)]
      simp [va_up]
    · rw [List.getElem?_set_ne (Ne.symm hk), xe_W_get hj, va_up_ne _ _ (by omega)]
  · rw [List.getElem?_eq_none (by rw [List.length_set, xe_W_len]; omega), List.getElem?_eq_none (by rw [xe_W_len]; omega)]
theorem xe_W_push {ty : Nat → ClassId} {b base z : Nat} {M : xe_M} (hz : 1 ≤ z) (e : va_E) : xe_W ty b base z M ++ [(base + (z - 1), xe_c ty b base e)] = xe_W ty b base (z + 1) (va_up M z e) := by
  apply List.ext_getElem?
  intro j
  by_cases hj : j + 1 < z
  · rw [List.getElem?_append_left (by rw [xe_W_len]; omega), xe_W_get hj, xe_W_get (by omega), va_up_ne _ _ (by omega)]
  · by_cases hj2 : j + 1 = z
    · subst hj2
      rw [List.getElem?_append_right (by rw [xe_W_len]; omega), xe_W_get (by omega), xe_W_len]
      simp [va_up]
    · rw [List.getElem?_eq_none (by rw [List.length_append, xe_W_len]; simp; omega), List.getElem?_eq_none (by rw [xe_W_len]; omega)]
theorem xe_W_D {ty : Nat → ClassId} {b base z : Nat} {M : xe_M} : va_D (fun q => base ≤ q) (xe_W ty b base z M) := by
  have key : ∀ (k : Nat) (q : Nat × va_E), (xe_W ty b base z M)[k]? = some q → q.1 = base + k := by
    intro k q hq
    have hl := (List.getElem?_eq_some_iff.mp hq).1
    rw [xe_W_len] at hl
    rw [xe_W_get (by omega)] at hq
    cases hq
    rfl
  refine ⟨fun i j x y hx hy hxy => ?_, fun k q hq => ?_⟩
  · have h1 := key i x hx
    have h2 := key j y hy
    omega
  · show base ≤ q.1
    rw [key k q hq]
    omega
/-- rules of the least fixed point -/
theorem xe_mono {T : List xe_I} {C : xe_C} (hC : ∀ g a z M (P P' : xe_Q), (∀ v z M, P v z M → P' v z M) → C g a z M P → C g a z M P') {Q : xe_Q} {K K' : xe_K} (hK : ∀ i dl st kc ks z M, K i dl st kc ks z M → K' i dl st kc ks z M) {i : Nat} {dl st : List Value} {kc ks z : Nat} {M : xe_M} {ins : Instr} (h : xe_ins T C Q K i dl st kc ks z M ins) : xe_ins T C Q K' i dl st kc ks z M ins := by
  unfold xe_ins at h ⊢
  split at h
  all_goals first
    | exact hK _ _ _ _ _ _ _ h
    | exact h.elim
    | exact h
    | exact ⟨h.1, hK _ _ _ _ _ _ _ h.2⟩
    | (obtain ⟨x, h1, h⟩ := h; exact ⟨x, h1, hK _ _ _ _ _ _ _ h⟩)
    | (obtain ⟨x, r, h1, h⟩ := h; exact ⟨x, r, h1, hK _ _ _ _ _ _ _ h⟩)
    | (obtain ⟨x, r, h1, h2, h⟩ := h; exact ⟨x, r, h1, h2, hK _ _ _ _ _ _ _ h⟩)
    | (obtain ⟨x, h1, h2, h⟩ := h; exact ⟨x, h1, h2, hK _ _ _ _ _ _ _ h⟩)
    | (obtain ⟨x, y, r, h1, h⟩ := h; exact ⟨x, y, r, h1, hK _ _ _ _ _ _ _ h⟩)
    | (obtain ⟨x, y, r, h1, h2, h⟩ := h; exact ⟨x, y, r, h1, h2, hK _ _ _ _ _ _ _ h⟩)
    | (obtain ⟨x, y, r, h1, h2, h3, h⟩ := h; exact ⟨x, y, r, h1, h2, h3, hK _ _ _ _ _ _ _ h⟩)
    | (obtain ⟨x, r, h1, h2, h⟩ := h; exact ⟨x, r, h1, fun q => hK _ _ _ _ _ _ _ (h2 q), fun q => hK _ _ _ _ _ _ _ (h q)⟩)
    | (obtain ⟨x, y, r, h1, h2, h⟩ := h; exact ⟨x, y, r, h1, fun q => hK _ _ _ _ _ _ _ (h2 q), fun q => hK _ _ _ _ _ _ _ (h q)⟩)
    | (rcases h with ⟨a, r, h1, h⟩ | ⟨r, h1, h⟩
       · exact Or.inl ⟨a, r, h1, hK _ _ _ _ _ _ _ h⟩
       · exact Or.inr ⟨r, h1, hK _ _ _ _ _ _ _ h⟩)
    | (obtain ⟨x, r, h1, h2, h⟩ := h; exact ⟨x, r, h1, fun q => hK _ _ _ _ _ _ _ (h2 q), fun q q' => (h q q').elim fun t ht => ⟨t, ht.1, hK _ _ _ _ _ _ _ ht.2⟩⟩)
    | (obtain ⟨a1, a2, a3, a4, h1, h2, h3, h4, h5, h⟩ := h; exact ⟨a1, a2, a3, a4, h1, h2, h3, h4, h5, hK _ _ _ _ _ _ _ h⟩)
    | (obtain ⟨a1, a2, a3, a4, h1, h2, h3, h4, h5, h6, h⟩ := h; exact ⟨a1, a2, a3, a4, h1, h2, h3, h4, h5, h6, hK _ _ _ _ _ _ _ h⟩)
    | (obtain ⟨a1, a2, a3, a4, a5, h1, h2, h3, h4, h⟩ := h; exact ⟨a1, a2, a3, a4, a5, h1, h2, h3, h4, hK _ _ _ _ _ _ _ h⟩)
    | (obtain ⟨a1, a2, a3, a4, a5, h1, h2, h3, h4, h5, h⟩ := h; exact ⟨a1, a2, a3, a4, a5, h1, h2, h3, h4, h5, hK _ _ _ _ _ _ _ h⟩)
    | (obtain ⟨a1, a2, a3, a4, a5, a6, h1, h2, h3, h4, h5, h⟩ := h; exact ⟨a1, a2, a3, a4, a5, a6, h1, h2, h3, h4, h5, hK _ _ _ _ _ _ _ h⟩)
    | (obtain ⟨a1, a2, a3, a4, a5, a6, h1, h2, h3, h4, h5, h6, h⟩ := h; exact ⟨a1, a2, a3, a4, a5, a6, h1, h2, h3, h4, h5, h6, hK _ _ _ _ _ _ _ h⟩)
    | (obtain ⟨a1, a2, a3, a4, a5, a6, a7, h1, h2, h3, h4, h5, h6, h⟩ := h; exact ⟨a1, a2, a3, a4, a5, a6, a7, h1, h2, h3, h4, h5, h6, hK _ _ _ _ _ _ _ h⟩)
    | (obtain ⟨a1, a2, a3, a4, a5, a6, a7, h1, h2, h3, h4, h5, h6, h7, h8, h⟩ := h; exact ⟨a1, a2, a3, a4, a5, a6, a7, h1, h2, h3, h4, h5, h6, h7, h8, hK _ _ _ _ _ _ _ h⟩)
    | (obtain ⟨a1, a2, a3, a4, a5, a6, a7, a8, a9, a10, h1, h2, h3, h4, h5, h6, h7, h8, h9, h10, h11, h12, h13, h14, h⟩ := h; exact ⟨a1, a2, a3, a4, a5, a6, a7, a8, a9, a10, h1, h2, h3, h4, h5, h6, h7, h8, h9, h10, h11, h12, h13, h14, hK _ _ _ _ _ _ _ h⟩)
    | (obtain ⟨a1, a2, a3, a4, a5, h1, h2, h3, h4, h5, h6, h7, h8, h9, h10, h11, h⟩ := h; exact ⟨a1, a2, a3, a4, a5, h1, h2, h3, h4, h5, h6, h7, h8, h9, h10, h11, hC _ _ _ _ _ _ (fun v z M q => hK _ _ _ _ _ _ _ q) h⟩)
    | (obtain ⟨a1, a2, a3, a4, a5, h1, h2, h3, h4, h5, h6, h7, h8, h9, h10, h11, h⟩ := h; exact ⟨a1, a2, a3, a4, a5, h1, h2, h3, h4, h5, h6, h7, h8, h9, h10, h11, hC _ _ _ _ _ _ (fun v z M q => ⟨fun w => hK _ _ _ _ _ _ _ (q.1 w), fun w => hK _ _ _ _ _ _ _ (q.2 w)⟩) h⟩)
    | (obtain ⟨a1, a2, a3, h1, h2, h3, h4, h5, h6, h7, h8, h⟩ := h; exact ⟨a1, a2, a3, h1, h2, h3, h4, h5, h6, h7, h8, hC _ _ _ _ _ _ (fun v z M q => hK _ _ _ _ _ _ _ q) h⟩)
    | (obtain ⟨a1, h1, h2, h3, h4, h⟩ := h; exact ⟨a1, h1, h2, h3, h4, hK _ _ _ _ _ _ _ h⟩)
    | (obtain ⟨a1, a2, h1, h2, h3, h4, h5, h6, h⟩ := h; exact ⟨a1, a2, h1, h2, h3, h4, h5, h6, hK _ _ _ _ _ _ _ h⟩)
theorem xe_Qmono {T : List xe_I} {C : xe_C} {Q Q' : xe_Q} (hQ : ∀ v z M, Q v z M → Q' v z M) {K : xe_K} {i : Nat} {dl st : List Value} {kc ks z : Nat} {M : xe_M} {ins : Instr} (h : xe_ins T C Q K i dl st kc ks z M ins) : xe_ins T C Q' K i dl st kc ks z M ins := by
  unfold xe_ins at h ⊢
  split at h
  all_goals first
    | exact h
    | (obtain ⟨x, h1, h⟩ := h; exact ⟨x, h1, hQ _ _ _ h⟩)
    | (obtain ⟨x, h1, h2, h⟩ := h; exact ⟨x, h1, h2, hQ _ _ _ h⟩)
    | exact ⟨h.1, hQ _ _ _ h.2⟩
    | exact ⟨h.1, h.2.1, h.2.2.1, h.2.2.2.1, hQ _ _ _ h.2.2.2.2⟩
theorem xe_Ev_Q {T : List xe_I} {C : xe_C} {code : List Instr} {Q Q' : xe_Q} (hQ : ∀ v z M, Q v z M → Q' v z M) {i : Nat} {dl st : List Value} {kc ks z : Nat} {M : xe_M} (h : xe_Ev T C code Q i dl st kc ks z M) : xe_Ev T C code Q' i dl st kc ks z M := fun X hX => h X (fun i dl st kc ks z M q => hX i dl st kc ks z M (q.elim fun ins hi => ⟨ins, hi.1, xe_Qmono hQ hi.2⟩))
theorem xe_Call_Q {T : List xe_I} : ∀ (d : Nat) (g : Nat) (a : List Value) (z : Nat) (M : xe_M) (P P' : xe_Q), (∀ v z M, P v z M → P' v z M) → xe_Call T d g a z M P → xe_Call T d g a z M P'
  | 0, _, _, _, _, _, _, _, h => h.elim
  | d + 1, g, a, z, M, P, P', hP, h => h.elim fun inf hi => ⟨inf, hi.1, xe_Ev_Q hP hi.2⟩
theorem xe_Ev_step {T : List xe_I} {d : Nat} {code : List Instr} {Q : xe_Q} {i : Nat} {dl st : List Value} {kc ks z : Nat} {M : xe_M} (h : xe_step T (xe_Call T d) code Q (xe_Ev T (xe_Call T d) code Q) i dl st kc ks z M) : xe_Ev T (xe_Call T d) code Q i dl st kc ks z M := by
  intro X hX
  obtain ⟨ins, h1, h2⟩ := h
  exact hX _ _ _ _ _ _ _ ⟨ins, h1, xe_mono (xe_Call_Q d) (fun i dl st kc ks z M q => q X hX) h2⟩
