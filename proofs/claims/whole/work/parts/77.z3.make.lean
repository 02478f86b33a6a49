/-! THE MAKING: what the constructors leave. -/
abbrev cI' (n : Nat) : va_E := .inl (1, n, .inl (fun _ => 0))
abbrev cB' (n : Nat) : va_E := .inl (0, n, .inl (fun _ => 0))
abbrev cZ' (n : Nat) : va_E := .inl (3, n, .inl (fun _ => 0))
abbrev cL' (n : Nat) : va_E := .inl (2, n, .inr (.inl (fun _ => 0)))
abbrev cO' (n : Nat) (f : Nat → Option Nat) : va_E := .inl (4, n, .inr (.inr (.inr (.inr f))))
section MAK
variable {D : Nat} {code : List Instr} {Q : xe_Q} {i : Nat} {dl st : List Value} {kc ks z a : Nat} {N M : xe_M}
theorem up_aza {x c y : va_E} (h : ¬ a = z) : va_up (va_up (va_up N a x) z c) a y = va_up (va_up N z c) a y := by
  rw [xp_wc (p := z) (q := a) (fun w => h w.symm), xp_w0]
theorem up_at {c : va_E} : va_up N a c a = c := by simp [va_up]
theorem up_self : va_up M a (M a) = M := by
  funext j
  by_cases h : j = a
  · rw [h]; simp [va_up]
  · simp [va_up, h]
theorem mk_0 (h0 : code[0]? = some (.aload 0)) (h1 : code[1]? = some .nop) (hd : dl[0]? = some (.ref a)) (h : xe_Ev xm_T (xe_Call xm_T D) code Q 2 dl [] kc ks z M) : xe_Ev xm_T (xe_Call xm_T D) code Q 0 dl [] kc ks z M := xe_Ev_step ⟨_, h0, a, hd, xe_Ev_step ⟨_, h1, a, [], rfl, by decide, h⟩⟩
theorem it_int {n : Int} {k f : Nat} {fs : List Value} (h0 : code[i]? = some (.aload 0)) (h1 : code[i + 1]? = some (.sipush n)) (h2 : code[i + 1 + 1]? = some (.newarray .int)) (h3 : code[i + 1 + 1 + 1]? = some (.putfield f)) (hn : ¬ Int32.ofInt n < 0 ∧ (Int32.ofInt n).toNatClampNeg = k ∧ k ≤ 10000) (hd : dl[0]? = some (.ref a)) (ha : 0 < a ∧ a < z ∧ z < 178) (hl : f % 64 < fs.length) (hf : fits (xe_ty (f / 64) (f % 64)) (.ref z) = true) (hc : 1 ≤ kc ∧ k ≤ ks) (h : xe_Ev xm_T (xe_Call xm_T D) code Q (i + 4) dl [] (kc - 1) (ks - k) (z + 1) (va_up (va_up N z (cI' k)) a (.inr (f / 64, fs.set (f % 64) (.ref z))))) : xe_Ev xm_T (xe_Call xm_T D) code Q i dl [] kc ks z (va_up N a (.inr (f / 64, fs))) := by
  refine xe_Ev_step ⟨_, h0, a, hd, xe_Ev_step ⟨_, h1, xe_Ev_step ⟨_, h2, Int32.ofInt n, [.ref a], rfl, hn.1, by rw [hn.2.1]; exact hn.2.2, ha.2.2, hc.1, by rw [hn.2.1]; exact hc.2, ?_⟩⟩⟩
  rw [hn.2.1]
  refine xe_Ev_step ⟨_, h3, a, fs, .ref z, [], rfl, ha.1, Nat.lt_succ_of_lt ha.2.1, ?_, hl, hf, ?_⟩
  · rw [va_up_ne _ _ (show a ≠ z by omega)]; exact up_at
  · rw [up_aza (show ¬ a = z by omega)]; exact h
theorem it_byte {n : Int} {k f : Nat} {fs : List Value} (h0 : code[i]? = some (.aload 0)) (h1 : code[i + 1]? = some (.sipush n)) (h2 : code[i + 1 + 1]? = some (.newarray .byte)) (h3 : code[i + 1 + 1 + 1]? = some (.putfield f)) (hn : ¬ Int32.ofInt n < 0 ∧ (Int32.ofInt n).toNatClampNeg = k ∧ k ≤ 10000) (hd : dl[0]? = some (.ref a)) (ha : 0 < a ∧ a < z ∧ z < 178) (hl : f % 64 < fs.length) (hf : fits (xe_ty (f / 64) (f % 64)) (.ref z) = true) (hc : 1 ≤ kc ∧ k ≤ ks) (h : xe_Ev xm_T (xe_Call xm_T D) code Q (i + 4) dl [] (kc - 1) (ks - k) (z + 1) (va_up (va_up N z (cB' k)) a (.inr (f / 64, fs.set (f % 64) (.ref z))))) : xe_Ev xm_T (xe_Call xm_T D) code Q i dl [] kc ks z (va_up N a (.inr (f / 64, fs))) := by
  refine xe_Ev_step ⟨_, h0, a, hd, xe_Ev_step ⟨_, h1, xe_Ev_step ⟨_, h2, Int32.ofInt n, [.ref a], rfl, hn.1, by rw [hn.2.1]; exact hn.2.2, ha.2.2, hc.1, by rw [hn.2.1]; exact hc.2, ?_⟩⟩⟩
  rw [hn.2.1]
  refine xe_Ev_step ⟨_, h3, a, fs, .ref z, [], rfl, ha.1, Nat.lt_succ_of_lt ha.2.1, ?_, hl, hf, ?_⟩
  · rw [va_up_ne _ _ (show a ≠ z by omega)]; exact up_at
  · rw [up_aza (show ¬ a = z by omega)]; exact h
theorem it_bool {n : Int} {k f : Nat} {fs : List Value} (h0 : code[i]? = some (.aload 0)) (h1 : code[i + 1]? = some (.sipush n)) (h2 : code[i + 1 + 1]? = some (.newarray .boolean)) (h3 : code[i + 1 + 1 + 1]? = some (.putfield f)) (hn : ¬ Int32.ofInt n < 0 ∧ (Int32.ofInt n).toNatClampNeg = k ∧ k ≤ 10000) (hd : dl[0]? = some (.ref a)) (ha : 0 < a ∧ a < z ∧ z < 178) (hl : f % 64 < fs.length) (hf : fits (xe_ty (f / 64) (f % 64)) (.ref z) = true) (hc : 1 ≤ kc ∧ k ≤ ks) (h : xe_Ev xm_T (xe_Call xm_T D) code Q (i + 4) dl [] (kc - 1) (ks - k) (z + 1) (va_up (va_up N z (cZ' k)) a (.inr (f / 64, fs.set (f % 64) (.ref z))))) : xe_Ev xm_T (xe_Call xm_T D) code Q i dl [] kc ks z (va_up N a (.inr (f / 64, fs))) := by
  refine xe_Ev_step ⟨_, h0, a, hd, xe_Ev_step ⟨_, h1, xe_Ev_step ⟨_, h2, Int32.ofInt n, [.ref a], rfl, hn.1, by rw [hn.2.1]; exact hn.2.2, ha.2.2, hc.1, by rw [hn.2.1]; exact hc.2, ?_⟩⟩⟩
  rw [hn.2.1]
  refine xe_Ev_step ⟨_, h3, a, fs, .ref z, [], rfl, ha.1, Nat.lt_succ_of_lt ha.2.1, ?_, hl, hf, ?_⟩
  · rw [va_up_ne _ _ (show a ≠ z by omega)]; exact up_at
  · rw [up_aza (show ¬ a = z by omega)]; exact h
theorem it_long {n : Int} {k f : Nat} {fs : List Value} (h0 : code[i]? = some (.aload 0)) (h1 : code[i + 1]? = some (.sipush n)) (h2 : code[i + 1 + 1]? = some (.newarray .long)) (h3 : code[i + 1 + 1 + 1]? = some (.putfield f)) (hn : ¬ Int32.ofInt n < 0 ∧ (Int32.ofInt n).toNatClampNeg = k ∧ k ≤ 10000) (hd : dl[0]? = some (.ref a)) (ha : 0 < a ∧ a < z ∧ z < 178) (hl : f % 64 < fs.length) (hf : fits (xe_ty (f / 64) (f % 64)) (.ref z) = true) (hc : 1 ≤ kc ∧ k ≤ ks) (h : xe_Ev xm_T (xe_Call xm_T D) code Q (i + 4) dl [] (kc - 1) (ks - k) (z + 1) (va_up (va_up N z (cL' k)) a (.inr (f / 64, fs.set (f % 64) (.ref z))))) : xe_Ev xm_T (xe_Call xm_T D) code Q i dl [] kc ks z (va_up N a (.inr (f / 64, fs))) := by
  refine xe_Ev_step ⟨_, h0, a, hd, xe_Ev_step ⟨_, h1, xe_Ev_step ⟨_, h2, Int32.ofInt n, [.ref a], rfl, hn.1, by rw [hn.2.1]; exact hn.2.2, ha.2.2, hc.1, by rw [hn.2.1]; exact hc.2, ?_⟩⟩⟩
  rw [hn.2.1]
  refine xe_Ev_step ⟨_, h3, a, fs, .ref z, [], rfl, ha.1, Nat.lt_succ_of_lt ha.2.1, ?_, hl, hf, ?_⟩
  · rw [va_up_ne _ _ (show a ≠ z by omega)]; exact up_at
  · rw [up_aza (show ¬ a = z by omega)]; exact h
theorem it_fld {v : Int} {f : Nat} {fs : List Value} (h0 : code[i]? = some (.aload 0)) (h1 : code[i + 1]? = some (.sipush v)) (h2 : code[i + 1 + 1]? = some (.putfield f)) (hd : dl[0]? = some (.ref a)) (ha : 0 < a ∧ a < z) (hl : f % 64 < fs.length) (hf : fits (xe_ty (f / 64) (f % 64)) (.int (Int32.ofInt v)) = true) (h : xe_Ev xm_T (xe_Call xm_T D) code Q (i + 3) dl [] kc ks z (va_up N a (.inr (f / 64, fs.set (f % 64) (.int (Int32.ofInt v)))))) : xe_Ev xm_T (xe_Call xm_T D) code Q i dl [] kc ks z (va_up N a (.inr (f / 64, fs))) := by
  refine xe_Ev_step ⟨_, h0, a, hd, xe_Ev_step ⟨_, h1, xe_Ev_step ⟨_, h2, a, fs, _, [], rfl, ha.1, ha.2, up_at, hl, hf, ?_⟩⟩⟩
  rw [xp_w0]
  exact h
theorem it_oarr {n : Int} {k f c : Nat} {fs : List Value} (h0 : code[i]? = some (.aload 0)) (h1 : code[i + 1]? = some (.sipush n)) (h2 : code[i + 1 + 1]? = some (.anewarray c)) (h3 : code[i + 1 + 1 + 1]? = some (.putfield f)) (hn : ¬ Int32.ofInt n < 0 ∧ (Int32.ofInt n).toNatClampNeg = k ∧ k ≤ 10000) (hd : dl[0]? = some (.ref a)) (ha : 0 < a ∧ a < z ∧ z < 178) (hl : f % 64 < fs.length) (hf : fits (xe_ty (f / 64) (f % 64)) (.ref z) = true) (hc : 1 ≤ kc ∧ k ≤ ks) (h : xe_Ev xm_T (xe_Call xm_T D) code Q (i + 4) dl [] (kc - 1) (ks - k) (z + 1) (va_up (va_up N z (cO' k (fun _ => none))) a (.inr (f / 64, fs.set (f % 64) (.ref z))))) : xe_Ev xm_T (xe_Call xm_T D) code Q i dl [] kc ks z (va_up N a (.inr (f / 64, fs))) := by
  refine xe_Ev_step ⟨_, h0, a, hd, xe_Ev_step ⟨_, h1, xe_Ev_step ⟨_, h2, Int32.ofInt n, [.ref a], rfl, hn.1, by rw [hn.2.1]; exact hn.2.2, ha.2.2, hc.1, by rw [hn.2.1]; exact hc.2, ?_⟩⟩⟩
  rw [hn.2.1]
  refine xe_Ev_step ⟨_, h3, a, fs, .ref z, [], rfl, ha.1, Nat.lt_succ_of_lt ha.2.1, ?_, hl, hf, ?_⟩
  · rw [va_up_ne _ _ (show a ≠ z by omega)]; exact up_at
  · rw [up_aza (show ¬ a = z by omega)]; exact h
theorem cn_72 (h : ∀ fs, fs = [.ref (2 + 1), .int 0] → Q none (2 + 2) (va_up (va_up N (2 + 1) (cI' 80)) 2 (.inr (7, fs)))) : xe_Call xm_T (D + 1) 72 [.ref 2] (2 + 1) (va_up N 2 (.inr (7, xe_dflt 7))) Q := by
  refine ⟨_, rfl, mk_0 rfl rfl rfl ?_⟩
  refine it_int (n := 80) (k := 80) (f := 448) rfl rfl rfl rfl (by decide) rfl (by omega) (by simp [xe_dflt]) rfl (by decide) ?_
  refine it_fld (v := 0) (f := 449) rfl rfl rfl rfl (by omega) (by simp [xe_dflt]) rfl ?_
  exact xe_Ev_step ⟨_, rfl, rfl, h _ rfl⟩
theorem cn_30 (h : ∀ fs, fs = [.ref (4 + 1), .int 0] → Q none (4 + 2) (va_up (va_up N (4 + 1) (cI' 12)) 4 (.inr (3, fs)))) : xe_Call xm_T (D + 1) 30 [.ref 4] (4 + 1) (va_up N 4 (.inr (3, xe_dflt 3))) Q := by
  refine ⟨_, rfl, mk_0 rfl rfl rfl ?_⟩
  refine it_int (n := 12) (k := 12) (f := 192) rfl rfl rfl rfl (by decide) rfl (by omega) (by simp [xe_dflt]) rfl (by decide) ?_
  refine it_fld (v := 0) (f := 193) rfl rfl rfl rfl (by omega) (by simp [xe_dflt]) rfl ?_
  exact xe_Ev_step ⟨_, rfl, rfl, h _ rfl⟩
theorem cn_49 (ha : 0 < a ∧ a + 6 ≤ 178) (h : ∀ fs, fs = [.ref (a + 1), .ref (a + 2), .ref (a + 3), .ref (a + 4), .ref (a + 5), .int 0] → Q none (a + 6) (va_up (va_up (va_up (va_up (va_up (va_up N (a + 1) (cI' 9)) (a + 2) (cI' 9)) (a + 3) (cI' 9)) (a + 4) (cI' 54)) (a + 5) (cL' 30)) a (.inr (5, fs)))) : xe_Call xm_T (D + 1) 49 [.ref a] (a + 1) (va_up N a (.inr (5, xe_dflt 5))) Q := by
  refine ⟨_, rfl, mk_0 rfl rfl rfl ?_⟩
  refine it_int (n := 9) (k := 9) (f := 320) rfl rfl rfl rfl (by decide) rfl (by omega) (by simp [xe_dflt]) rfl (by decide) ?_
  refine it_int (n := 9) (k := 9) (f := 321) rfl rfl rfl rfl (by decide) rfl (by omega) (by simp [xe_dflt]) rfl (by decide) ?_
  refine it_int (n := 9) (k := 9) (f := 322) rfl rfl rfl rfl (by decide) rfl (by omega) (by simp [xe_dflt]) rfl (by decide) ?_
  refine it_int (n := 54) (k := 54) (f := 323) rfl rfl rfl rfl (by decide) rfl (by omega) (by simp [xe_dflt]) rfl (by decide) ?_
  refine it_long (n := 30) (k := 30) (f := 324) rfl rfl rfl rfl (by decide) rfl (by omega) (by simp [xe_dflt]) rfl (by decide) ?_
  refine it_fld (v := 0) (f := 325) rfl rfl rfl rfl (by omega) (by simp [xe_dflt]) rfl ?_
  exact xe_Ev_step ⟨_, rfl, rfl, h _ rfl⟩
theorem cn_33 (h : ∀ fs, fs = [.ref (111 + 1), .ref (111 + 2), .ref (111 + 3), .ref (111 + 4), .ref (111 + 5), .ref (111 + 6), .int 0, .int 0, .int 0, .int 0, .int 0, .int 1] → Q none (111 + 7) (va_up (va_up (va_up (va_up (va_up (va_up (va_up N (111 + 1) (cI' 40)) (111 + 2) (cI' 40)) (111 + 3) (cI' 40)) (111 + 4) (cI' 40)) (111 + 5) (cI' 7)) (111 + 6) (cZ' 5)) 111 (.inr (4, fs)))) : xe_Call xm_T (D + 1) 33 [.ref 111] (111 + 1) (va_up N 111 (.inr (4, xe_dflt 4))) Q := by
  refine ⟨_, rfl, mk_0 rfl rfl rfl ?_⟩
  refine it_int (n := 40) (k := 40) (f := 256) rfl rfl rfl rfl (by decide) rfl (by omega) (by simp [xe_dflt]) rfl (by decide) ?_
  refine it_int (n := 40) (k := 40) (f := 257) rfl rfl rfl rfl (by decide) rfl (by omega) (by simp [xe_dflt]) rfl (by decide) ?_
  refine it_int (n := 40) (k := 40) (f := 258) rfl rfl rfl rfl (by decide) rfl (by omega) (by simp [xe_dflt]) rfl (by decide) ?_
  refine it_int (n := 40) (k := 40) (f := 259) rfl rfl rfl rfl (by decide) rfl (by omega) (by simp [xe_dflt]) rfl (by decide) ?_
  refine it_int (n := 7) (k := 7) (f := 260) rfl rfl rfl rfl (by decide) rfl (by omega) (by simp [xe_dflt]) rfl (by decide) ?_
  refine it_bool (n := 5) (k := 5) (f := 261) rfl rfl rfl rfl (by decide) rfl (by omega) (by simp [xe_dflt]) rfl (by decide) ?_
  refine it_fld (v := 0) (f := 262) rfl rfl rfl rfl (by omega) (by simp [xe_dflt]) rfl ?_
  refine it_fld (v := 0) (f := 263) rfl rfl rfl rfl (by omega) (by simp [xe_dflt]) rfl ?_
  refine it_fld (v := 0) (f := 264) rfl rfl rfl rfl (by omega) (by simp [xe_dflt]) rfl ?_
  refine it_fld (v := 0) (f := 265) rfl rfl rfl rfl (by omega) (by simp [xe_dflt]) rfl ?_
  refine it_fld (v := 0) (f := 266) rfl rfl rfl rfl (by omega) (by simp [xe_dflt]) rfl ?_
  refine it_fld (v := 1) (f := 267) rfl rfl rfl rfl (by omega) (by simp [xe_dflt]) rfl ?_
  exact xe_Ev_step ⟨_, rfl, rfl, h _ rfl⟩
theorem cn_7 (h : ∀ fs, fs = [.ref (119 + 1), .ref (119 + 2), .ref (119 + 3), .ref (119 + 4), .ref (119 + 5), .ref (119 + 6), .int 0, .int 0, .int 0] → Q none (119 + 7) (va_up (va_up (va_up (va_up (va_up (va_up (va_up N (119 + 1) (cI' 9)) (119 + 2) (cI' 9)) (119 + 3) (cI' 9)) (119 + 4) (cI' 9)) (119 + 5) (cI' 81)) (119 + 6) (cI' 10)) 119 (.inr (0, fs)))) : xe_Call xm_T (D + 1) 7 [.ref 119] (119 + 1) (va_up N 119 (.inr (0, xe_dflt 0))) Q := by
  refine ⟨_, rfl, mk_0 rfl rfl rfl ?_⟩
  refine it_int (n := 9) (k := 9) (f := 0) rfl rfl rfl rfl (by decide) rfl (by omega) (by simp [xe_dflt]) rfl (by decide) ?_
  refine it_int (n := 9) (k := 9) (f := 1) rfl rfl rfl rfl (by decide) rfl (by omega) (by simp [xe_dflt]) rfl (by decide) ?_
  refine it_int (n := 9) (k := 9) (f := 2) rfl rfl rfl rfl (by decide) rfl (by omega) (by simp [xe_dflt]) rfl (by decide) ?_
  refine it_int (n := 9) (k := 9) (f := 3) rfl rfl rfl rfl (by decide) rfl (by omega) (by simp [xe_dflt]) rfl (by decide) ?_
  refine it_int (n := 81) (k := 81) (f := 4) rfl rfl rfl rfl (by decide) rfl (by omega) (by simp [xe_dflt]) rfl (by decide) ?_
  refine it_int (n := 10) (k := 10) (f := 5) rfl rfl rfl rfl (by decide) rfl (by omega) (by simp [xe_dflt]) rfl (by decide) ?_
  refine it_fld (v := 0) (f := 6) rfl rfl rfl rfl (by omega) (by simp [xe_dflt]) rfl ?_
  refine it_fld (v := 0) (f := 7) rfl rfl rfl rfl (by omega) (by simp [xe_dflt]) rfl ?_
  refine it_fld (v := 0) (f := 8) rfl rfl rfl rfl (by omega) (by simp [xe_dflt]) rfl ?_
  exact xe_Ev_step ⟨_, rfl, rfl, h _ rfl⟩
theorem cn_61 (h : ∀ fs, fs = [.ref (127 + 1), .ref (127 + 2), .ref (127 + 3), .ref (127 + 4), .ref (127 + 5), .ref (127 + 6), .ref (127 + 7), .ref (127 + 8), .int 0, .int 0, .int 0] → Q none (127 + 9) (va_up (va_up (va_up (va_up (va_up (va_up (va_up (va_up (va_up N (127 + 1) (cI' 6)) (127 + 2) (cI' 6)) (127 + 3) (cI' 64)) (127 + 4) (cI' 64)) (127 + 5) (cI' 512)) (127 + 6) (cI' 9)) (127 + 7) (cI' 2)) (127 + 8) (cI' 2)) 127 (.inr (6, fs)))) : xe_Call xm_T (D + 1) 61 [.ref 127] (127 + 1) (va_up N 127 (.inr (6, xe_dflt 6))) Q := by
  refine ⟨_, rfl, mk_0 rfl rfl rfl ?_⟩
  refine it_int (n := 6) (k := 6) (f := 384) rfl rfl rfl rfl (by decide) rfl (by omega) (by simp [xe_dflt]) rfl (by decide) ?_
  refine it_int (n := 6) (k := 6) (f := 385) rfl rfl rfl rfl (by decide) rfl (by omega) (by simp [xe_dflt]) rfl (by decide) ?_
  refine it_int (n := 64) (k := 64) (f := 386) rfl rfl rfl rfl (by decide) rfl (by omega) (by simp [xe_dflt]) rfl (by decide) ?_
  refine it_int (n := 64) (k := 64) (f := 387) rfl rfl rfl rfl (by decide) rfl (by omega) (by simp [xe_dflt]) rfl (by decide) ?_
  refine it_int (n := 512) (k := 512) (f := 388) rfl rfl rfl rfl (by decide) rfl (by omega) (by simp [xe_dflt]) rfl (by decide) ?_
  refine it_int (n := 9) (k := 9) (f := 389) rfl rfl rfl rfl (by decide) rfl (by omega) (by simp [xe_dflt]) rfl (by decide) ?_
  refine it_int (n := 2) (k := 2) (f := 390) rfl rfl rfl rfl (by decide) rfl (by omega) (by simp [xe_dflt]) rfl (by decide) ?_
  refine it_int (n := 2) (k := 2) (f := 391) rfl rfl rfl rfl (by decide) rfl (by omega) (by simp [xe_dflt]) rfl (by decide) ?_
  refine it_fld (v := 0) (f := 392) rfl rfl rfl rfl (by omega) (by simp [xe_dflt]) rfl ?_
  refine it_fld (v := 0) (f := 393) rfl rfl rfl rfl (by omega) (by simp [xe_dflt]) rfl ?_
  refine it_fld (v := 0) (f := 394) rfl rfl rfl rfl (by omega) (by simp [xe_dflt]) rfl ?_
  exact xe_Ev_step ⟨_, rfl, rfl, h _ rfl⟩
theorem cn_88 (h : ∀ fs, fs = [.ref (136 + 1), .ref (136 + 2), .ref (136 + 3), .ref (136 + 4), .ref (136 + 5), .int 0] → Q none (136 + 6) (va_up (va_up (va_up (va_up (va_up (va_up N (136 + 1) (cI' 12)) (136 + 2) (cI' 12)) (136 + 3) (cI' 12)) (136 + 4) (cI' 9)) (136 + 5) (cI' 9)) 136 (.inr (10, fs)))) : xe_Call xm_T (D + 1) 88 [.ref 136] (136 + 1) (va_up N 136 (.inr (10, xe_dflt 10))) Q := by
  refine ⟨_, rfl, mk_0 rfl rfl rfl ?_⟩
  refine it_int (n := 12) (k := 12) (f := 640) rfl rfl rfl rfl (by decide) rfl (by omega) (by simp [xe_dflt]) rfl (by decide) ?_
  refine it_int (n := 12) (k := 12) (f := 641) rfl rfl rfl rfl (by decide) rfl (by omega) (by simp [xe_dflt]) rfl (by decide) ?_
  refine it_int (n := 12) (k := 12) (f := 642) rfl rfl rfl rfl (by decide) rfl (by omega) (by simp [xe_dflt]) rfl (by decide) ?_
  refine it_int (n := 9) (k := 9) (f := 643) rfl rfl rfl rfl (by decide) rfl (by omega) (by simp [xe_dflt]) rfl (by decide) ?_
  refine it_int (n := 9) (k := 9) (f := 644) rfl rfl rfl rfl (by decide) rfl (by omega) (by simp [xe_dflt]) rfl (by decide) ?_
  refine it_fld (v := 0) (f := 645) rfl rfl rfl rfl (by omega) (by simp [xe_dflt]) rfl ?_
  exact xe_Ev_step ⟨_, rfl, rfl, h _ rfl⟩
theorem cn_79 (h : ∀ fs, fs = [.ref (142 + 1), .ref (142 + 2), .ref (142 + 3), .int 0] → Q none (142 + 4) (va_up (va_up (va_up (va_up N (142 + 1) (cI' 10)) (142 + 2) (cI' 10)) (142 + 3) (cI' 10)) 142 (.inr (8, fs)))) : xe_Call xm_T (D + 1) 79 [.ref 142] (142 + 1) (va_up N 142 (.inr (8, xe_dflt 8))) Q := by
  refine ⟨_, rfl, mk_0 rfl rfl rfl ?_⟩
  refine it_int (n := 10) (k := 10) (f := 512) rfl rfl rfl rfl (by decide) rfl (by omega) (by simp [xe_dflt]) rfl (by decide) ?_
  refine it_int (n := 10) (k := 10) (f := 513) rfl rfl rfl rfl (by decide) rfl (by omega) (by simp [xe_dflt]) rfl (by decide) ?_
  refine it_int (n := 10) (k := 10) (f := 514) rfl rfl rfl rfl (by decide) rfl (by omega) (by simp [xe_dflt]) rfl (by decide) ?_
  refine it_fld (v := 0) (f := 515) rfl rfl rfl rfl (by omega) (by simp [xe_dflt]) rfl ?_
  exact xe_Ev_step ⟨_, rfl, rfl, h _ rfl⟩
theorem cn_178 (h : ∀ fs, fs = [.ref (146 + 1), .int 0, .ref (146 + 2), .ref (146 + 3), .ref (146 + 4), .int 0, .ref (146 + 5), .int 0, .int 0, .null, .int 0, .int 0, .int 0, .int 0, .ref (146 + 6), .ref (146 + 7), .int 0, .null, .int 0, .int 0, .int 0, .ref (146 + 8), .ref (146 + 9), .ref (146 + 10), .ref (146 + 11), .int 0, .int 0, .int 0, .int 0, .int 0, .ref (146 + 12), .int 0, .ref (146 + 13), .ref (146 + 14), .int 0, .ref (146 + 15), .ref (146 + 16), .ref (146 + 17), .int 0, .ref (146 + 18), .ref (146 + 19), .int 0, .ref (146 + 20), .int 0, .ref (146 + 21), .ref (146 + 22), .int 0, .ref (146 + 23), .ref (146 + 24), .int 0, .ref (146 + 25), .int 0, .ref (146 + 26), .ref (146 + 27), .int 0, .int 0, .int 0, .int 0, .ref (146 + 28), .ref (146 + 29), .ref (146 + 30)] → Q none (146 + 31) (va_up (va_up (va_up (va_up (va_up (va_up (va_up (va_up (va_up (va_up (va_up (va_up (va_up (va_up (va_up (va_up (va_up (va_up (va_up (va_up (va_up (va_up (va_up (va_up (va_up (va_up (va_up (va_up (va_up (va_up (va_up N (146 + 1) (cI' 353)) (146 + 2) (cI' 81)) (146 + 3) (cI' 81)) (146 + 4) (cB' 80)) (146 + 5) (cI' 20)) (146 + 6) (cI' 27)) (146 + 7) (cB' 40)) (146 + 8) (cI' 9)) (146 + 9) (cI' 9)) (146 + 10) (cI' 9)) (146 + 11) (cI' 81)) (146 + 12) (cI' 4236)) (146 + 13) (cI' 353)) (146 + 14) (cI' 240)) (146 + 15) (cI' 9)) (146 + 16) (cI' 353)) (146 + 17) (cI' 12)) (146 + 18) (cI' 10)) (146 + 19) (cI' 10)) (146 + 20) (cI' 18)) (146 + 21) (cI' 4)) (146 + 22) (cI' 36)) (146 + 23) (cI' 9)) (146 + 24) (cI' 9)) (146 + 25) (cI' 4)) (146 + 26) (cI' 512)) (146 + 27) (cI' 20)) (146 + 28) (cI' 706)) (146 + 29) (cZ' 2)) (146 + 30) (cI' 2)) 146 (.inr (12, fs)))) : xe_Call xm_T (D + 1) 178 [.ref 146] (146 + 1) (va_up N 146 (.inr (12, xe_dflt 12))) Q := by
  refine ⟨_, rfl, mk_0 rfl rfl rfl ?_⟩
  refine it_int (n := 353) (k := 353) (f := 768) rfl rfl rfl rfl (by decide) rfl (by omega) (by simp [xe_dflt]) rfl (by decide) ?_
  refine it_int (n := 81) (k := 81) (f := 770) rfl rfl rfl rfl (by decide) rfl (by omega) (by simp [xe_dflt]) rfl (by decide) ?_
  refine it_int (n := 81) (k := 81) (f := 771) rfl rfl rfl rfl (by decide) rfl (by omega) (by simp [xe_dflt]) rfl (by decide) ?_
  refine it_byte (n := 80) (k := 80) (f := 772) rfl rfl rfl rfl (by decide) rfl (by omega) (by simp [xe_dflt]) rfl (by decide) ?_
  refine it_int (n := 20) (k := 20) (f := 774) rfl rfl rfl rfl (by decide) rfl (by omega) (by simp [xe_dflt]) rfl (by decide) ?_
  refine it_int (n := 27) (k := 27) (f := 782) rfl rfl rfl rfl (by decide) rfl (by omega) (by simp [xe_dflt]) rfl (by decide) ?_
  refine it_byte (n := 40) (k := 40) (f := 783) rfl rfl rfl rfl (by decide) rfl (by omega) (by simp [xe_dflt]) rfl (by decide) ?_
  refine it_int (n := 9) (k := 9) (f := 789) rfl rfl rfl rfl (by decide) rfl (by omega) (by simp [xe_dflt]) rfl (by decide) ?_
  refine it_int (n := 9) (k := 9) (f := 790) rfl rfl rfl rfl (by decide) rfl (by omega) (by simp [xe_dflt]) rfl (by decide) ?_
  refine it_int (n := 9) (k := 9) (f := 791) rfl rfl rfl rfl (by decide) rfl (by omega) (by simp [xe_dflt]) rfl (by decide) ?_
  refine it_int (n := 81) (k := 81) (f := 792) rfl rfl rfl rfl (by decide) rfl (by omega) (by simp [xe_dflt]) rfl (by decide) ?_
  refine it_int (n := 4236) (k := 4236) (f := 798) rfl rfl rfl rfl (by decide) rfl (by omega) (by simp [xe_dflt]) rfl (by decide) ?_
  refine it_int (n := 353) (k := 353) (f := 800) rfl rfl rfl rfl (by decide) rfl (by omega) (by simp [xe_dflt]) rfl (by decide) ?_
  refine it_int (n := 240) (k := 240) (f := 801) rfl rfl rfl rfl (by decide) rfl (by omega) (by simp [xe_dflt]) rfl (by decide) ?_
  refine it_int (n := 9) (k := 9) (f := 803) rfl rfl rfl rfl (by decide) rfl (by omega) (by simp [xe_dflt]) rfl (by decide) ?_
  refine it_int (n := 353) (k := 353) (f := 804) rfl rfl rfl rfl (by decide) rfl (by omega) (by simp [xe_dflt]) rfl (by decide) ?_
  refine it_int (n := 12) (k := 12) (f := 805) rfl rfl rfl rfl (by decide) rfl (by omega) (by simp [xe_dflt]) rfl (by decide) ?_
  refine it_int (n := 10) (k := 10) (f := 807) rfl rfl rfl rfl (by decide) rfl (by omega) (by simp [xe_dflt]) rfl (by decide) ?_
  refine it_int (n := 10) (k := 10) (f := 808) rfl rfl rfl rfl (by decide) rfl (by omega) (by simp [xe_dflt]) rfl (by decide) ?_
  refine it_int (n := 18) (k := 18) (f := 810) rfl rfl rfl rfl (by decide) rfl (by omega) (by simp [xe_dflt]) rfl (by decide) ?_
  refine it_int (n := 4) (k := 4) (f := 812) rfl rfl rfl rfl (by decide) rfl (by omega) (by simp [xe_dflt]) rfl (by decide) ?_
  refine it_int (n := 36) (k := 36) (f := 813) rfl rfl rfl rfl (by decide) rfl (by omega) (by simp [xe_dflt]) rfl (by decide) ?_
  refine it_int (n := 9) (k := 9) (f := 815) rfl rfl rfl rfl (by decide) rfl (by omega) (by simp [xe_dflt]) rfl (by decide) ?_
  refine it_int (n := 9) (k := 9) (f := 816) rfl rfl rfl rfl (by decide) rfl (by omega) (by simp [xe_dflt]) rfl (by decide) ?_
  refine it_int (n := 4) (k := 4) (f := 818) rfl rfl rfl rfl (by decide) rfl (by omega) (by simp [xe_dflt]) rfl (by decide) ?_
  refine it_int (n := 512) (k := 512) (f := 820) rfl rfl rfl rfl (by decide) rfl (by omega) (by simp [xe_dflt]) rfl (by decide) ?_
  refine it_int (n := 20) (k := 20) (f := 821) rfl rfl rfl rfl (by decide) rfl (by omega) (by simp [xe_dflt]) rfl (by decide) ?_
  refine it_int (n := 706) (k := 706) (f := 826) rfl rfl rfl rfl (by decide) rfl (by omega) (by simp [xe_dflt]) rfl (by decide) ?_
  refine it_bool (n := 2) (k := 2) (f := 827) rfl rfl rfl rfl (by decide) rfl (by omega) (by simp [xe_dflt]) rfl (by decide) ?_
  refine it_int (n := 2) (k := 2) (f := 828) rfl rfl rfl rfl (by decide) rfl (by omega) (by simp [xe_dflt]) rfl (by decide) ?_
  exact xe_Ev_step ⟨_, rfl, rfl, h _ rfl⟩
end MAK
