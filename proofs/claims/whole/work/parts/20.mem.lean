/-! THE MEMORY once all is made: a number of ints (d) and of longs (e) at each place. -/
/-- a reference that may change: its place as an int, 0 for null -/
def xd_r (x : Int32) : Value := if x = 0 then .null else .ref x.toNatClampNeg
def xd_cell (L : Nat) (k : Nat) (f : Nat → Int32) (g : Nat → Int64) : va_E := (if k < 89 then (if k < 44 then (if k < 22 then (if k < 11 then (if k < 5 then (if k < 2 then (if k < 1 then .inl (1, L, .inl f) else .inr (11, [.ref 2, .ref 4, .ref 6, .ref 11, .ref 17, .ref 23, .ref 111, .ref 118, .ref 127, .ref 136, .ref 142])) else (if k < 3 then .inr (7, [.ref 3, .int (f 1)]) else (if k < 4 then .inl (1, 80, .inl f) else .inr (3, [.ref 5, .int (f 1)])))) else (if k < 8 then (if k < 6 then .inl (1, 12, .inl f) else (if k < 7 then .inr (2, [.ref 7, .ref 8, .ref 9, .ref 10, .int (f 4)]) else .inl (1, 81, .inl f))) else (if k < 9 then .inl (1, 81, .inl f) else (if k < 10 then .inl (1, 4, .inl f) else .inl (1, 512, .inl f))))) else (if k < 16 then (if k < 13 then (if k < 12 then .inr (5, [.ref 12, .ref 13, .ref 14, .ref 15, .ref 16, .int (f 5)]) else .inl (1, 9, .inl f)) else (if k < 14 then .inl (1, 9, .inl f) else (if k < 15 then .inl (1, 9, .inl f) else .inl (1, 54, .inl f)))) else (if k < 19 then (if k < 17 then .inl (2, 30, .inr (.inl g)) else (if k < 18 then .inr (5, [.ref 18, .ref 19, .ref 20, .ref 21, .ref 22, .int (f 5)]) else .inl (1, 9, .inl f))) else (if k < 20 then .inl (1, 9, .inl f) else (if k < 21 then .inl (1, 9, .inl f) else .inl (1, 54, .inl f)))))) else (if k < 33 then (if k < 27 then (if k < 24 then (if k < 23 then .inl (2, 30, .inr (.inl g)) else .inr (1, [.ref 24, .ref 25, .ref 26, .int (f 3), .int (f 4)])) else (if k < 25 then .inl (4, 12, .inr (.inr (.inr (.inr (fun i => if i < 12 then some (27 + 6 * i) else none))))) else (if k < 26 then .inl (4, 2, .inr (.inr (.inr (.inr (fun i => if i < 2 then some (99 + 6 * i) else none))))) else .inl (1, 2, .inl f)))) else (if k < 30 then (if k < 28 then .inr (5, [.ref 28, .ref 29, .ref 30, .ref 31, .ref 32, .int (f 5)]) else (if k < 29 then .inl (1, 9, .inl f) else .inl (1, 9, .inl f))) else (if k < 31 then .inl (1, 9, .inl f) else (if k < 32 then .inl (1, 54, .inl f) else .inl (2, 30, .inr (.inl g)))))) else (if k < 38 then (if k < 35 then (if k < 34 then .inr (5, [.ref 34, .ref 35, .ref 36, .ref 37, .ref 38, .int (f 5)]) else .inl (1, 9, .inl f)) else (if k < 36 then .inl (1, 9, .inl f) else (if k < 37 then .inl (1, 9, .inl f) else .inl (1, 54, .inl f)))) else (if k < 41 then (if k < 39 then .inl (2, 30, .inr (.inl g)) else (if k < 40 then .inr (5, [.ref 40, .ref 41, .ref 42, .ref 43, .ref 44, .int (f 5)]) else .inl (1, 9, .inl f))) else (if k < 42 then .inl (1, 9, .inl f) else (if k < 43 then .inl (1, 9, .inl f) else .inl (1, 54, .inl f))))))) else (if k < 66 then (if k < 55 then (if k < 49 then (if k < 46 then (if k < 45 then .inl (2, 30, .inr (.inl g)) else .inr (5, [.ref 46, .ref 47, .ref 48, .ref 49, .ref 50, .int (f 5)])) else (if k < 47 then .inl (1, 9, .inl f) else (if k < 48 then .inl (1, 9, .inl f) else .inl (1, 9, .inl f)))) else (if k < 52 then (if k < 50 then .inl (1, 54, .inl f) else (if k < 51 then .inl (2, 30, .inr (.inl g)) else .inr (5, [.ref 52, .ref 53, .ref 54, .ref 55, .ref 56, .int (f 5)]))) else (if k < 53 then .inl (1, 9, .inl f) else (if k < 54 then .inl (1, 9, .inl f) else .inl (1, 9, .inl f))))) else (if k < 60 then (if k < 57 then (if k < 56 then .inl (1, 54, .inl f) else .inl (2, 30, .inr (.inl g))) else (if k < 58 then .inr (5, [.ref 58, .ref 59, .ref 60, .ref 61, .ref 62, .int (f 5)]) else (if k < 59 then .inl (1, 9, .inl f) else .inl (1, 9, .inl f)))) else (if k < 63 then (if k < 61 then .inl (1, 9, .inl f) else (if k < 62 then .inl (1, 54, .inl f) else .inl (2, 30, .inr (.inl g)))) else (if k < 64 then .inr (5, [.ref 64, .ref 65, .ref 66, .ref 67, .ref 68, .int (f 5)]) else (if k < 65 then .inl (1, 9, .inl f) else .inl (1, 9, .inl f)))))) else (if k < 77 then (if k < 71 then (if k < 68 then (if k < 67 then .inl (1, 9, .inl f) else .inl (1, 54, .inl f)) else (if k < 69 then .inl (2, 30, .inr (.inl g)) else (if k < 70 then .inr (5, [.ref 70, .ref 71, .ref 72, .ref 73, .ref 74, .int (f 5)]) else .inl (1, 9, .inl f)))) else (if k < 74 then (if k < 72 then .inl (1, 9, .inl f) else (if k < 73 then .inl (1, 9, .inl f) else .inl (1, 54, .inl f))) else (if k < 75 then .inl (2, 30, .inr (.inl g)) else (if k < 76 then .inr (5, [.ref 76, .ref 77, .ref 78, .ref 79, .ref 80, .int (f 5)]) else .inl (1, 9, .inl f))))) else (if k < 83 then (if k < 80 then (if k < 78 then .inl (1, 9, .inl f) else (if k < 79 then .inl (1, 9, .inl f) else .inl (1, 54, .inl f))) else (if k < 81 then .inl (2, 30, .inr (.inl g)) else (if k < 82 then .inr (5, [.ref 82, .ref 83, .ref 84, .ref 85, .ref 86, .int (f 5)]) else .inl (1, 9, .inl f)))) else (if k < 86 then (if k < 84 then .inl (1, 9, .inl f) else (if k < 85 then .inl (1, 9, .inl f) else .inl (1, 54, .inl f))) else (if k < 87 then .inl (2, 30, .inr (.inl g)) else (if k < 88 then .inr (5, [.ref 88, .ref 89, .ref 90, .ref 91, .ref 92, .int (f 5)]) else .inl (1, 9, .inl f)))))))) else (if k < 133 then (if k < 111 then (if k < 100 then (if k < 94 then (if k < 91 then (if k < 90 then .inl (1, 9, .inl f) else .inl (1, 9, .inl f)) else (if k < 92 then .inl (1, 54, .inl f) else (if k < 93 then .inl (2, 30, .inr (.inl g)) else .inr (5, [.ref 94, .ref 95, .ref 96, .ref 97, .ref 98, .int (f 5)])))) else (if k < 97 then (if k < 95 then .inl (1, 9, .inl f) else (if k < 96 then .inl (1, 9, .inl f) else .inl (1, 9, .inl f))) else (if k < 98 then .inl (1, 54, .inl f) else (if k < 99 then .inl (2, 30, .inr (.inl g)) else .inr (5, [.ref 100, .ref 101, .ref 102, .ref 103, .ref 104, .int (f 5)]))))) else (if k < 105 then (if k < 102 then (if k < 101 then .inl (1, 9, .inl f) else .inl (1, 9, .inl f)) else (if k < 103 then .inl (1, 9, .inl f) else (if k < 104 then .inl (1, 54, .inl f) else .inl (2, 30, .inr (.inl g))))) else (if k < 108 then (if k < 106 then .inr (5, [.ref 106, .ref 107, .ref 108, .ref 109, .ref 110, .int (f 5)]) else (if k < 107 then .inl (1, 9, .inl f) else .inl (1, 9, .inl f))) else (if k < 109 then .inl (1, 9, .inl f) else (if k < 110 then .inl (1, 54, .inl f) else .inl (2, 30, .inr (.inl g))))))) else (if k < 122 then (if k < 116 then (if k < 113 then (if k < 112 then .inr (4, [.ref 112, .ref 113, .ref 114, .ref 115, .ref 116, .ref 117, .int (f 6), .int (f 7), .int (f 8), .int (f 9), .int (f 10), .int (f 11)]) else .inl (1, 40, .inl f)) else (if k < 114 then .inl (1, 40, .inl f) else (if k < 115 then .inl (1, 40, .inl f) else .inl (1, 40, .inl f)))) else (if k < 119 then (if k < 117 then .inl (1, 7, .inl f) else (if k < 118 then .inl (3, 5, .inl f) else .inr (9, [.ref 119, .ref 126, .int (f 2), .int (f 3), .int (f 4)]))) else (if k < 120 then .inr (0, [.ref 120, .ref 121, .ref 122, .ref 123, .ref 124, .ref 125, .int (f 6), .int (f 7), .int (f 8)]) else (if k < 121 then .inl (1, 9, .inl f) else .inl (1, 9, .inl f))))) else (if k < 127 then (if k < 124 then (if k < 123 then .inl (1, 9, .inl f) else .inl (1, 9, .inl f)) else (if k < 125 then .inl (1, 81, .inl f) else (if k < 126 then .inl (1, 10, .inl f) else .inl (1, 9, .inl f)))) else (if k < 130 then (if k < 128 then .inr (6, [.ref 128, .ref 129, .ref 130, .ref 131, .ref 132, .ref 133, .ref 134, .ref 135, .int (f 8), .int (f 9), .int (f 10)]) else (if k < 129 then .inl (1, 6, .inl f) else .inl (1, 6, .inl f))) else (if k < 131 then .inl (1, 64, .inl f) else (if k < 132 then .inl (1, 64, .inl f) else .inl (1, 512, .inl f))))))) else (if k < 155 then (if k < 144 then (if k < 138 then (if k < 135 then (if k < 134 then .inl (1, 9, .inl f) else .inl (1, 2, .inl f)) else (if k < 136 then .inl (1, 2, .inl f) else (if k < 137 then .inr (10, [.ref 137, .ref 138, .ref 139, .ref 140, .ref 141, .int (f 5)]) else .inl (1, 12, .inl f)))) else (if k < 141 then (if k < 139 then .inl (1, 12, .inl f) else (if k < 140 then .inl (1, 12, .inl f) else .inl (1, 9, .inl f))) else (if k < 142 then .inl (1, 9, .inl f) else (if k < 143 then .inr (8, [.ref 143, .ref 144, .ref 145, .int (f 3)]) else .inl (1, 10, .inl f))))) else (if k < 149 then (if k < 146 then (if k < 145 then .inl (1, 10, .inl f) else .inl (1, 10, .inl f)) else (if k < 147 then .inr (12, [.ref 147, .int (f 1), .ref 148, .ref 149, .ref 150, .int (f 5), .ref 151, .int (f 7), .int (f 8), xd_r (f 9), .int (f 10), .int (f 11), .int (f 12), .int (f 13), .ref 152, .ref 153, .int (f 16), xd_r (f 17), .int (f 18), .int (f 19), .int (f 20), .ref 154, .ref 155, .ref 156, .ref 157, .int (f 25), .int (f 26), .int (f 27), .int (f 28), .int (f 29), .ref 158, .int (f 31), .ref 159, .ref 160, .int (f 34), .ref 161, .ref 162, .ref 163, .int (f 38), .ref 164, .ref 165, .int (f 41), .ref 166, .int (f 43), .ref 167, .ref 168, .int (f 46), .ref 169, .ref 170, .int (f 49), .ref 171, .int (f 51), .ref 172, .ref 173, .int (f 54), .int (f 55), .int (f 56), .int (f 57), .ref 174, .ref 175, .ref 176]) else (if k < 148 then .inl (1, 353, .inl f) else .inl (1, 81, .inl f)))) else (if k < 152 then (if k < 150 then .inl (1, 81, .inl f) else (if k < 151 then .inl (0, 80, .inl f) else .inl (1, 20, .inl f))) else (if k < 153 then .inl (1, 27, .inl f) else (if k < 154 then .inl (0, 40, .inl f) else .inl (1, 9, .inl f)))))) else (if k < 166 then (if k < 160 then (if k < 157 then (if k < 156 then .inl (1, 9, .inl f) else .inl (1, 9, .inl f)) else (if k < 158 then .inl (1, 81, .inl f) else (if k < 159 then .inl (1, 4236, .inl f) else .inl (1, 353, .inl f)))) else (if k < 163 then (if k < 161 then .inl (1, 240, .inl f) else (if k < 162 then .inl (1, 9, .inl f) else .inl (1, 353, .inl f))) else (if k < 164 then .inl (1, 12, .inl f) else (if k < 165 then .inl (1, 10, .inl f) else .inl (1, 10, .inl f))))) else (if k < 172 then (if k < 169 then (if k < 167 then .inl (1, 18, .inl f) else (if k < 168 then .inl (1, 4, .inl f) else .inl (1, 36, .inl f))) else (if k < 170 then .inl (1, 9, .inl f) else (if k < 171 then .inl (1, 9, .inl f) else .inl (1, 4, .inl f)))) else (if k < 175 then (if k < 173 then .inl (1, 512, .inl f) else (if k < 174 then .inl (1, 20, .inl f) else .inl (1, 706, .inl f))) else (if k < 176 then .inl (3, 2, .inl f) else (if k < 177 then .inl (1, 2, .inl f) else .inl (2, 1, .inr (.inl g))))))))))
abbrev xd_D : Type := Nat → Nat → Int32
abbrev xd_E : Type := Nat → Nat → Int64
def xd_mem (L : Nat) (d : xd_D) (e : xd_E) : xe_M := fun k => xd_cell L k (d k) (e k)
theorem xd_put (L : Nat) (d : xd_D) (e : xd_E) (p : Nat) (f : Nat → Int32) (c : va_E) (h : xd_cell L p f (e p) = c) : va_up (xd_mem L d e) p c = xd_mem L (va_up d p f) e := by
  funext j
  by_cases hj : j = p
  · subst hj
    simp only [va_up, if_true, xd_mem]
    exact h.symm
  · simp only [va_up, if_neg hj, xd_mem]
theorem xd_putL (L : Nat) (d : xd_D) (e : xd_E) (p : Nat) (f : Nat → Int64) (c : va_E) (h : xd_cell L p (d p) f = c) : va_up (xd_mem L d e) p c = xd_mem L d (va_up e p f) := by
  funext j
  by_cases hj : j = p
  · subst hj
    simp only [va_up, if_true, xd_mem]
    exact h.symm
  · simp only [va_up, if_neg hj, xd_mem]
def xd_isS (s : Nat) : Bool := [11, 17, 27, 33, 39, 45, 51, 57, 63, 69, 75, 81, 87, 93, 99, 105].contains s
theorem xd_S {s : Nat} (h : xd_isS s = true) (L : Nat) (f : Nat → Int32) (g : Nat → Int64) : xd_cell L s f g = .inr (5, [.ref (s + 1), .ref (s + 2), .ref (s + 3), .ref (s + 4), .ref (s + 5), .int (f 5)]) ∧ xd_cell L (s + 1) f g = .inl (1, 9, .inl f) ∧ xd_cell L (s + 2) f g = .inl (1, 9, .inl f) ∧ xd_cell L (s + 3) f g = .inl (1, 9, .inl f) ∧ xd_cell L (s + 4) f g = .inl (1, 54, .inl f) ∧ xd_cell L (s + 5) f g = .inl (2, 30, .inr (.inl g)) ∧ 0 < s ∧ s + 5 < 178 := by
  have h1 : s ∈ [11, 17, 27, 33, 39, 45, 51, 57, 63, 69, 75, 81, 87, 93, 99, 105] := List.contains_iff_mem.mp h
  simp only [List.mem_cons, List.not_mem_nil, or_false] at h1
  rcases h1 with rfl | rfl | rfl | rfl | rfl | rfl | rfl | rfl | rfl | rfl | rfl | rfl | rfl | rfl | rfl | rfl <;> exact ⟨rfl, rfl, rfl, rfl, rfl, rfl, by decide, by decide⟩
/-- an int array of n places lies at a -/
def xd_A (a n : Nat) : Prop := 0 < a ∧ a < 178 ∧ ∀ (L : Nat) (f : Nat → Int32) (g : Nat → Int64), xd_cell L a f g = .inl (1, n, .inl f)
theorem xd_A3 : xd_A 3 80 := ⟨by decide, by decide, fun _ _ _ => rfl⟩
theorem xd_A5 : xd_A 5 12 := ⟨by decide, by decide, fun _ _ _ => rfl⟩
theorem xd_A7 : xd_A 7 81 := ⟨by decide, by decide, fun _ _ _ => rfl⟩
theorem xd_A8 : xd_A 8 81 := ⟨by decide, by decide, fun _ _ _ => rfl⟩
theorem xd_A9 : xd_A 9 4 := ⟨by decide, by decide, fun _ _ _ => rfl⟩
theorem xd_A10 : xd_A 10 512 := ⟨by decide, by decide, fun _ _ _ => rfl⟩
theorem xd_A12 : xd_A 12 9 := ⟨by decide, by decide, fun _ _ _ => rfl⟩
theorem xd_A13 : xd_A 13 9 := ⟨by decide, by decide, fun _ _ _ => rfl⟩
theorem xd_A14 : xd_A 14 9 := ⟨by decide, by decide, fun _ _ _ => rfl⟩
theorem xd_A15 : xd_A 15 54 := ⟨by decide, by decide, fun _ _ _ => rfl⟩
theorem xd_A18 : xd_A 18 9 := ⟨by decide, by decide, fun _ _ _ => rfl⟩
theorem xd_A19 : xd_A 19 9 := ⟨by decide, by decide, fun _ _ _ => rfl⟩
theorem xd_A20 : xd_A 20 9 := ⟨by decide, by decide, fun _ _ _ => rfl⟩
theorem xd_A21 : xd_A 21 54 := ⟨by decide, by decide, fun _ _ _ => rfl⟩
theorem xd_A26 : xd_A 26 2 := ⟨by decide, by decide, fun _ _ _ => rfl⟩
theorem xd_A112 : xd_A 112 40 := ⟨by decide, by decide, fun _ _ _ => rfl⟩
theorem xd_A113 : xd_A 113 40 := ⟨by decide, by decide, fun _ _ _ => rfl⟩
theorem xd_A114 : xd_A 114 40 := ⟨by decide, by decide, fun _ _ _ => rfl⟩
theorem xd_A115 : xd_A 115 40 := ⟨by decide, by decide, fun _ _ _ => rfl⟩
theorem xd_A116 : xd_A 116 7 := ⟨by decide, by decide, fun _ _ _ => rfl⟩
theorem xd_A120 : xd_A 120 9 := ⟨by decide, by decide, fun _ _ _ => rfl⟩
theorem xd_A121 : xd_A 121 9 := ⟨by decide, by decide, fun _ _ _ => rfl⟩
theorem xd_A122 : xd_A 122 9 := ⟨by decide, by decide, fun _ _ _ => rfl⟩
theorem xd_A123 : xd_A 123 9 := ⟨by decide, by decide, fun _ _ _ => rfl⟩
theorem xd_A124 : xd_A 124 81 := ⟨by decide, by decide, fun _ _ _ => rfl⟩
theorem xd_A125 : xd_A 125 10 := ⟨by decide, by decide, fun _ _ _ => rfl⟩
theorem xd_A126 : xd_A 126 9 := ⟨by decide, by decide, fun _ _ _ => rfl⟩
theorem xd_A128 : xd_A 128 6 := ⟨by decide, by decide, fun _ _ _ => rfl⟩
theorem xd_A129 : xd_A 129 6 := ⟨by decide, by decide, fun _ _ _ => rfl⟩
theorem xd_A130 : xd_A 130 64 := ⟨by decide, by decide, fun _ _ _ => rfl⟩
theorem xd_A131 : xd_A 131 64 := ⟨by decide, by decide, fun _ _ _ => rfl⟩
theorem xd_A132 : xd_A 132 512 := ⟨by decide, by decide, fun _ _ _ => rfl⟩
theorem xd_A133 : xd_A 133 9 := ⟨by decide, by decide, fun _ _ _ => rfl⟩
theorem xd_A134 : xd_A 134 2 := ⟨by decide, by decide, fun _ _ _ => rfl⟩
theorem xd_A135 : xd_A 135 2 := ⟨by decide, by decide, fun _ _ _ => rfl⟩
theorem xd_A137 : xd_A 137 12 := ⟨by decide, by decide, fun _ _ _ => rfl⟩
theorem xd_A138 : xd_A 138 12 := ⟨by decide, by decide, fun _ _ _ => rfl⟩
theorem xd_A139 : xd_A 139 12 := ⟨by decide, by decide, fun _ _ _ => rfl⟩
theorem xd_A140 : xd_A 140 9 := ⟨by decide, by decide, fun _ _ _ => rfl⟩
theorem xd_A141 : xd_A 141 9 := ⟨by decide, by decide, fun _ _ _ => rfl⟩
theorem xd_A143 : xd_A 143 10 := ⟨by decide, by decide, fun _ _ _ => rfl⟩
theorem xd_A144 : xd_A 144 10 := ⟨by decide, by decide, fun _ _ _ => rfl⟩
theorem xd_A145 : xd_A 145 10 := ⟨by decide, by decide, fun _ _ _ => rfl⟩
theorem xd_A147 : xd_A 147 353 := ⟨by decide, by decide, fun _ _ _ => rfl⟩
theorem xd_A148 : xd_A 148 81 := ⟨by decide, by decide, fun _ _ _ => rfl⟩
theorem xd_A149 : xd_A 149 81 := ⟨by decide, by decide, fun _ _ _ => rfl⟩
theorem xd_A151 : xd_A 151 20 := ⟨by decide, by decide, fun _ _ _ => rfl⟩
theorem xd_A152 : xd_A 152 27 := ⟨by decide, by decide, fun _ _ _ => rfl⟩
theorem xd_A154 : xd_A 154 9 := ⟨by decide, by decide, fun _ _ _ => rfl⟩
theorem xd_A155 : xd_A 155 9 := ⟨by decide, by decide, fun _ _ _ => rfl⟩
theorem xd_A156 : xd_A 156 9 := ⟨by decide, by decide, fun _ _ _ => rfl⟩
theorem xd_A157 : xd_A 157 81 := ⟨by decide, by decide, fun _ _ _ => rfl⟩
theorem xd_A158 : xd_A 158 4236 := ⟨by decide, by decide, fun _ _ _ => rfl⟩
theorem xd_A159 : xd_A 159 353 := ⟨by decide, by decide, fun _ _ _ => rfl⟩
theorem xd_A160 : xd_A 160 240 := ⟨by decide, by decide, fun _ _ _ => rfl⟩
theorem xd_A161 : xd_A 161 9 := ⟨by decide, by decide, fun _ _ _ => rfl⟩
theorem xd_A162 : xd_A 162 353 := ⟨by decide, by decide, fun _ _ _ => rfl⟩
theorem xd_A163 : xd_A 163 12 := ⟨by decide, by decide, fun _ _ _ => rfl⟩
theorem xd_A164 : xd_A 164 10 := ⟨by decide, by decide, fun _ _ _ => rfl⟩
theorem xd_A165 : xd_A 165 10 := ⟨by decide, by decide, fun _ _ _ => rfl⟩
theorem xd_A166 : xd_A 166 18 := ⟨by decide, by decide, fun _ _ _ => rfl⟩
theorem xd_A167 : xd_A 167 4 := ⟨by decide, by decide, fun _ _ _ => rfl⟩
theorem xd_A168 : xd_A 168 36 := ⟨by decide, by decide, fun _ _ _ => rfl⟩
theorem xd_A169 : xd_A 169 9 := ⟨by decide, by decide, fun _ _ _ => rfl⟩
theorem xd_A170 : xd_A 170 9 := ⟨by decide, by decide, fun _ _ _ => rfl⟩
theorem xd_A171 : xd_A 171 4 := ⟨by decide, by decide, fun _ _ _ => rfl⟩
theorem xd_A172 : xd_A 172 512 := ⟨by decide, by decide, fun _ _ _ => rfl⟩
theorem xd_A173 : xd_A 173 20 := ⟨by decide, by decide, fun _ _ _ => rfl⟩
theorem xd_A174 : xd_A 174 706 := ⟨by decide, by decide, fun _ _ _ => rfl⟩
theorem xd_A176 : xd_A 176 2 := ⟨by decide, by decide, fun _ _ _ => rfl⟩
theorem xd_AS {s : Nat} (h : xd_isS s = true) : xd_A (s + 1) 9 ∧ xd_A (s + 2) 9 ∧ xd_A (s + 3) 9 ∧ xd_A (s + 4) 54 := by
  have h1 := fun L f g => xd_S h L f g
  have h2 := (xd_S h 0 (fun _ => 0) (fun _ => 0)).2.2.2.2.2.2
  exact ⟨⟨by omega, by omega, fun L f g => (h1 L f g).2.1⟩, ⟨by omega, by omega, fun L f g => (h1 L f g).2.2.1⟩, ⟨by omega, by omega, fun L f g => (h1 L f g).2.2.2.1⟩, ⟨by omega, by omega, fun L f g => (h1 L f g).2.2.2.2.1⟩⟩
