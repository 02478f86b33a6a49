/-! WHAT THE TABLES AND THE BYTES MUST SAY of a resolved method. -/
def xe_good : List Cond := lw_tbl.filter goodWord
def xe_isN (w : Cond) : Bool := match w with
  | .fieldLinkNest .. => true
  | .methodLinkNest .. => true
  | _ => false
def xe_nest : List Cond := tables_1.filter xe_isN
/-- a class's tables -/
theorem xe_clok : ∀ (ci : Nat) (r : vw_C), xe_cl[ci]? = some r → (∀ k, k < r.2.2 → parseFieldDescriptor (r.2.1 k).2.2.1 = some (xe_ty ci k)) ∧ (∀ a, a < r.2.2 → ∀ b, b < r.2.2 → a ≠ b → (r.2.1 a).2.1 ≠ (r.2.1 b).2.1) ∧ ∀ j, j < r.2.2 → defaultValue (xe_ty ci j) = vp_V (xe_dflt ci) j := by
  intro ci r h
  match ci, h with
  | 0, h => cases h; exact ⟨tyX0_ok, nmX0, by decide +kernel⟩
  | 1, h => cases h; exact ⟨tyX1_ok, nmX1, by decide +kernel⟩
  | 2, h => cases h; exact ⟨tyX2_ok, nmX2, by decide +kernel⟩
  | 3, h => cases h; exact ⟨tyX3_ok, nmX3, by decide +kernel⟩
  | 4, h => cases h; exact ⟨tyX4_ok, nmX4, by decide +kernel⟩
  | 5, h => cases h; exact ⟨tyX5_ok, nmX5, by decide +kernel⟩
  | 6, h => cases h; exact ⟨tyX6_ok, nmX6, by decide +kernel⟩
  | 7, h => cases h; exact ⟨tyX7_ok, nmX7, by decide +kernel⟩
  | 8, h => cases h; exact ⟨tyX8_ok, nmX8, by decide +kernel⟩
  | 9, h => cases h; exact ⟨tyX9_ok, nmX9, by decide +kernel⟩
  | 10, h => cases h; exact ⟨tyX10_ok, nmX10, by decide +kernel⟩
  | 11, h => cases h; exact ⟨tyX11_ok, nmX11, by decide +kernel⟩
  | 12, h => cases h; exact ⟨tyX12_ok, nmX12, by decide +kernel⟩
  | n + 13, h => simp [xe_cl] at h
/-- constant pool: fields (entry, class, place), methods (entry, number), ints (entry, value), classes (entry, number), arraycopy, Object's constructor -/
abbrev xe_cp : Type := List (Nat × Nat × Nat) × List (Nat × Nat) × List (Nat × Int) × List (Nat × Nat) × List Nat × List Nat
def xe_okF (own : String) (idx ci k : Nat) : Prop := ∃ r, xe_cl[ci]? = some r ∧ k < r.2.2 ∧ (r.2.1 k).1 = r.1 ∧ (∀ w ∈ u_ws r.1 r.2.1 r.2.2, w ∈ xe_good) ∧ (Cond.fieldLink own idx r.1 (r.2.1 k).2.1 (r.2.1 k).2.2.1 ∈ xe_good ∨ ∃ host, Cond.fieldLinkNest own idx r.1 (r.2.1 k).2.1 (r.2.1 k).2.2.1 host ∈ xe_nest)
def xe_okM (own : String) (idx : Nat) (y : MethodName) : Prop := Cond.methodLink own idx y ∈ xe_good ∨ ∃ host, Cond.methodLinkNest own idx y host ∈ xe_nest
def xe_okC (own : String) (idx ci : Nat) : Prop := ∃ r, xe_cl[ci]? = some r ∧ (∀ w ∈ u_ws r.1 r.2.1 r.2.2, w ∈ xe_good) ∧ Cond.classLink own idx r.1 ∈ xe_good ∧ Cond.instantiable r.1 r.2.2 ∈ xe_good ∧ Cond.initialized r.1 ∈ xe_good
def xe_cpok (own : String) (T : List xe_I) (cp : xe_cp) : Prop := (∀ q ∈ cp.1, xe_okF own q.1 q.2.1 q.2.2) ∧ (∀ q ∈ cp.2.1, ∀ inf, T[q.2]? = some inf → xe_okM own q.1 (xe_iy inf)) ∧ (∀ q ∈ cp.2.2.1, Cond.constant own q.1 (Int32.ofInt q.2) ∈ xe_good) ∧ (∀ q ∈ cp.2.2.2.1, xe_okC own q.1 q.2) ∧ (∀ q ∈ cp.2.2.2.2.1, Cond.methodLink own q arraycopyName ∈ xe_good) ∧ (∀ q ∈ cp.2.2.2.2.2, Cond.methodLink own q objectInit ∈ xe_good)
/-- a resolved instruction against the bytes -/
def xe_D (bs : ByteArray) (pc : Nat) (r : Instr) (n : Nat) : Bool := decide (decode bs pc = .ok (r, n))
def xe_nx (bs : ByteArray) (pcs : List Nat) (i : Nat) (r : Instr) (n : Nat) : Bool := xe_D bs (pcs.getD i 0) r n && decide (pcs.getD (i + 1) 0 = pcs.getD i 0 + n)
def xe_jm (pcs : List Nat) (i : Nat) (t : Int) : Int := ((pcs.getD t.toNat 0 : Nat) : Int) - ((pcs.getD i 0 : Nat) : Int)
def xe_Dv (bs : ByteArray) (pc : Nat) (r : Instr) : Bool := match decode bs pc with
  | .ok (q, _) => decide (q = r)
  | _ => false
def xe_chk (cp : xe_cp) (bs : ByteArray) (kind : Nat) (own : String) (ret : Option FieldType) (pcs : List Nat) (i : Nat) (ins : Instr) : Bool := match ins with
  | .sipush v => xe_nx bs pcs i (.iconst v) 1 || (xe_nx bs pcs i (.bipush v) 2 && decide ((Int8.ofInt v).toInt32 = Int32.ofInt v)) || (xe_nx bs pcs i (.sipush v) 3 && decide ((Int16.ofInt v).toInt32 = Int32.ofInt v)) || cp.2.2.1.any (fun q => decide (q.2 = v) && (xe_nx bs pcs i (.ldc q.1) 2 || xe_nx bs pcs i (.ldc_w q.1) 3))
  | .lconst n => xe_nx bs pcs i (.lconst n) 1
  | .iload k => (decide (k < 4) && xe_nx bs pcs i (.iload_n (Fin.ofNat 4 k)) 1) || xe_nx bs pcs i (.iload k) 2
  | .lload k => (decide (k < 4) && xe_nx bs pcs i (.lload_n (Fin.ofNat 4 k)) 1) || xe_nx bs pcs i (.lload k) 2
  | .aload k => (decide (k < 4) && xe_nx bs pcs i (.aload_n (Fin.ofNat 4 k)) 1) || xe_nx bs pcs i (.aload k) 2
  | .istore k => (decide (k < 4) && xe_nx bs pcs i (.istore_n (Fin.ofNat 4 k)) 1) || xe_nx bs pcs i (.istore k) 2
  | .lstore k => (decide (k < 4) && xe_nx bs pcs i (.lstore_n (Fin.ofNat 4 k)) 1) || xe_nx bs pcs i (.lstore k) 2
  | .astore k => (decide (k < 4) && xe_nx bs pcs i (.astore_n (Fin.ofNat 4 k)) 1) || xe_nx bs pcs i (.astore k) 2
  | .iinc k n => xe_nx bs pcs i (.iinc k n) 3
  | .goto t => xe_D bs (pcs.getD i 0) (.goto (xe_jm pcs i t)) 3
  | .ifCond c t => xe_nx bs pcs i (.ifCond c (xe_jm pcs i t)) 3
  | .if_icmp c t => xe_nx bs pcs i (.if_icmp c (xe_jm pcs i t)) 3
  | .ifnonnull t => xe_nx bs pcs i (.ifnonnull (xe_jm pcs i t)) 3
  | .tableswitch d lo hi os => xe_Dv bs (pcs.getD i 0) (.tableswitch (xe_jm pcs i d) lo hi (os.map (xe_jm pcs i)))
  | .lookupswitch d ps => xe_Dv bs (pcs.getD i 0) (.lookupswitch (xe_jm pcs i d) (ps.map (fun q => (q.1, xe_jm pcs i q.2)))) && (ps.toList.zip (ps.toList.drop 1)).all (fun (a, next) => a.1 < next.1)
  | .getfield n => cp.1.any (fun q => decide (q.2.1 = n / 64 ∧ q.2.2 = n % 64) && xe_nx bs pcs i (.getfield q.1) 3)
  | .putfield n => cp.1.any (fun q => decide (q.2.1 = n / 64 ∧ q.2.2 = n % 64) && xe_nx bs pcs i (.putfield q.1) 3 && (match xe_cl[n / 64]? with | some r => !(r.2.1 (n % 64)).2.2.2 || (decide (kind = 2) && decide (r.1 = own)) | none => false))
  | .monitorenter => cp.2.2.2.2.1.any (fun q => xe_nx bs pcs i (.invokestatic q) 3)
  | .monitorexit => cp.2.2.2.2.1.any (fun q => xe_nx bs pcs i (.invokestatic q) 3)
  | .nop => cp.2.2.2.2.2.any (fun q => xe_nx bs pcs i (.invokespecial q) 3)
  | .invokevirtual g => cp.2.1.any (fun q => decide (q.2 = g) && xe_nx bs pcs i (.invokevirtual q.1) 3)
  | .invokespecial g => cp.2.1.any (fun q => decide (q.2 = g) && xe_nx bs pcs i (.invokespecial q.1) 3)
  | .invokestatic g => cp.2.1.any (fun q => decide (q.2 = g) && xe_nx bs pcs i (.invokestatic q.1) 3)
  | .new c => cp.2.2.2.1.any (fun q => decide (q.2 = c) && xe_nx bs pcs i (.new q.1) 3)
  | .anewarray _ => cp.2.2.2.1.any (fun q => decide (q.2 = 5) && xe_nx bs pcs i (.anewarray q.1) 3)
  | .newarray t => xe_nx bs pcs i (.newarray t) 2 && (decide (t = .byte) || decide (t = .int) || decide (t = .long) || decide (t = .boolean))
  | .athrow => decide (kind = 3) && xe_D bs (pcs.getD i 0) (.new 159) 3 && xe_D bs (pcs.getD i 0 + 3) .dup 1 && xe_D bs (pcs.getD i 0 + 4) (.invokespecial 161) 3 && xe_D bs (pcs.getD i 0 + 7) .athrow 1
  | .invokedynamic _ => decide (kind = 4)
  | .swap => decide (kind = 3)
  | .ireturn => xe_D bs (pcs.getD i 0) .ireturn 1 && decide (ret = some .int)
  | .freturn => xe_D bs (pcs.getD i 0) .ireturn 1 && decide (ret = some .boolean)
  | .return_ => xe_D bs (pcs.getD i 0) .return_ 1 && decide (ret = none)
  | r => xe_nx bs pcs i r 1
def xe_ok (T : List xe_I) (inf : xe_I) : Prop :=
  Cond.code (xe_iy inf) (xe_ib inf) (xe_iL inf) (xe_ir inf) ∈ xe_good ∧ Cond.initialized (xe_iy inf).cls ∈ xe_good ∧ plainFor (xe_iy inf) = true ∧
  ((xe_iy inf).cls ≠ "java/lang/invoke/MethodHandle" ∧ (xe_iy inf).cls ≠ "java/lang/invoke/VarHandle" ∧ (parseMethodDescriptor (xe_iy inf).desc).map (fun d => d.parameters.length) = some (xe_in inf)) ∧
  xe_iL inf ≤ 45 ∧ xe_in inf + (if xe_ik inf = 0 then 0 else 1) ≤ xe_iL inf ∧
  (xe_ik inf = 1 ∨ xe_ik inf = 3 → Cond.instanceMethod (xe_iy inf) ∈ xe_good ∧ Cond.selects (xe_iy inf).cls (xe_iy inf) (xe_iy inf) ∈ xe_good ∧ ∃ r, xe_cl[xe_ic inf]? = some r ∧ r.1 = (xe_iy inf).cls) ∧
  (xe_ik inf = 2 → Cond.instanceMethod (xe_iy inf) ∈ xe_good ∧ (xe_iy inf).name = "<init>" ∧ xe_ir inf = none) ∧
  (xe_ik inf = 0 → Cond.static (xe_iy inf) ∈ xe_good) ∧
  (xe_pcs inf).getD 0 0 = 0 ∧
  ∃ cp, xe_cpok (xe_iy inf).cls T cp ∧ ∀ i ins, (xe_code inf)[i]? = some ins → xe_chk cp (xe_ib inf) (xe_ik inf) (xe_iy inf).cls (xe_ir inf) (xe_pcs inf) i ins = true
theorem xe_good_w {w : Cond} (h : w ∈ xe_good) : (w.onTables && w.keeps) = true ∨ ∃ ty, w = .arrayClass ty := good_of_word (List.mem_filter.mp h).2
theorem xe_good_in : GoodIn xe_good xe_good := fun _ h => ⟨h, xe_good_w h⟩
