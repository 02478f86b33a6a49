/-! FRAMES: which cells are a call's own. -/
def kz (p : Nat) : Bool := decide (27 ≤ p) && decide (p < 111)
def sx (p : Nat) (i : Int) : Bool := !kz p && ([9, 10, 17, 18, 19, 20, 21, 22, 113, 114, 115, 116, 117, 118, 119, 120, 121, 122, 123, 124, 125, 126, 130, 131, 132, 133, 134, 135, 140, 141, 145].contains p || (p == 111 && !decide (i = 6)) || (p == 127 && !decide (i = 8)))
def sm (p : Nat) (i : Int) : Bool := !kz p && ([152, 154, 155, 157, 159, 160, 161, 162, 164, 165, 166, 167, 169, 170, 171].contains p || (p == 146 && !([1, 5, 7, 16, 31, 34, 38, 46, 54, 57].contains i)) || (p == 172 && !decide (i = 0)))
def sw (p : Nat) (i : Int) : Bool := !kz p && (p == 4 || p == 5 || p == 151 || (p == 146 && (decide (i = 7) || decide (i = 34))))
def sr (p : Nat) (i : Int) : Bool := sx p i || sm p i || sw p i
/-- but for cells of s nothing has changed -/
def Fk (s : Nat → Int → Bool) (d d' : xh_D) : Prop := ∀ p i, s p i = false → d' p i = d p i
theorem Fk_refl {s : Nat → Int → Bool} {d : xh_D} : Fk s d d := fun _ _ _ => rfl
theorem Fk_trans {s : Nat → Int → Bool} {d d' d2 : xh_D} (h : Fk s d d') (h2 : Fk s d' d2) : Fk s d d2 := fun p i q => (h2 p i q).trans (h p i q)
theorem Fk_mono {s s' : Nat → Int → Bool} {d d' : xh_D} (h : Fk s d d') (hs : ∀ p i, s' p i = false → s p i = false) : Fk s' d d' := fun p i q => h p i (hs p i q)
theorem Fk_xs {s : Nat → Int → Bool} {d d' : xh_D} {q : Nat} {j v : Int} (h : Fk s d d') (hq : s q j = true) : Fk s d (xs d' q j v) := fun p i c => by
  rw [← h p i c]
  refine if_neg (fun w => ?_)
  rw [w.1, w.2, hq] at c
  exact absurd c (by decide)
theorem Fk_wr {s : Nat → Int → Bool} {d d' : xh_D} {q : Nat} {n : Int} {f : Int → Int} (h : Fk s d d') (hq : ∀ j, s q j = true) : Fk s d (xwr d' q n f) := fun p i c => by
  rw [← h p i c]
  refine if_neg (fun w => ?_)
  rw [w.1, hq] at c
  exact absurd c (by decide)
theorem Fk_cp {s : Nat → Int → Bool} {d d' : xh_D} {q0 q : Nat} {n : Int} (h : Fk s d d') (hq : ∀ j, s q j = true) : Fk s d (xcp d' q0 q n) := fun p i c => by
  rw [← h p i c]
  refine if_neg (fun w => ?_)
  rw [w.1, hq] at c
  exact absurd c (by decide)
theorem Fk_x {d d' : xh_D} (h : Fk sx d d') : Fk sr d d' := Fk_mono h (fun p i q => by unfold sr at q; cases h1 : sx p i <;> simp_all)
theorem Fk_m {d d' : xh_D} (h : Fk sm d d') : Fk sr d d' := Fk_mono h (fun p i q => by unfold sr at q; cases h1 : sm p i <;> simp_all)
theorem Fk_p {s : Nat → Int → Bool} {d d' : xh_D} (h : Fk s d d') {p : Nat} (hp : ∀ i, s p i = false) : d' p = d p := funext fun i => h p i (hp i)
theorem kz_t {p : Nat} (h1 : 27 ≤ p) (h2 : p < 111) : kz p = true := by simp [kz, h1, h2]
theorem sr_z {p : Nat} {i : Int} (h1 : 27 ≤ p) (h2 : p < 111) : sr p i = false := by simp [sr, sx, sm, sw, kz_t h1 h2]
theorem sx_z {p : Nat} {i : Int} (h1 : 27 ≤ p) (h2 : p < 111) : sx p i = false := by simp [sx, kz_t h1 h2]
theorem sm_z {p : Nat} {i : Int} (h1 : 27 ≤ p) (h2 : p < 111) : sm p i = false := by simp [sm, kz_t h1 h2]
theorem Fk_Fz {d d' : xh_D} (h : Fk sr d d') : Fz d d' := fun _ h1 h2 => Fk_p h (fun _ => sr_z h1 h2)
def Ek (e e' : xd_E) : Prop := ∀ p, ¬ p = 22 → ¬ p = 177 → e' p = e p
theorem Ek_refl {e : xd_E} : Ek e e := fun _ _ _ => rfl
theorem Ek_trans {e e' e2 : xd_E} (h : Ek e e') (h2 : Ek e' e2) : Ek e e2 := fun p a c => (h2 p a c).trans (h p a c)
theorem iSs_e {b n : Int} {d : xh_D} {e e' : xd_E} {s : Nat} {a : Int → Int} (h : iSs b n d e s a) (he : e' (s + 5) = e (s + 5)) : iSs b n d e' s a := by
  unfold iSs at h ⊢
  rw [he]
  exact h
/-- what holds between two calls holds behind a question -/
theorem Inv_fk {R : xR} {b : Int} {d d' : xh_D} {e e' : xd_E} (hI : Inv R b d e) (h : Fk sr d d') (he : Ek e e') (hw : iW d') : Inv R b d' e' := by
  obtain ⟨hP, hT, hW, hL, hS, hU, hK, hR, hQ, hV, hH, hG⟩ := hI
  have c2 := Fk_p h (p := 2) (fun _ => rfl)
  have c3 := Fk_p h (p := 3) (fun _ => rfl)
  have c6 := Fk_p h (p := 6) (fun _ => rfl)
  have c7 := Fk_p h (p := 7) (fun _ => rfl)
  have c8 := Fk_p h (p := 8) (fun _ => rfl)
  have c11 := Fk_p h (p := 11) (fun _ => rfl)
  have c12 := Fk_p h (p := 12) (fun _ => rfl)
  have c13 := Fk_p h (p := 13) (fun _ => rfl)
  have c14 := Fk_p h (p := 14) (fun _ => rfl)
  have c15 := Fk_p h (p := 15) (fun _ => rfl)
  have c23 := Fk_p h (p := 23) (fun _ => rfl)
  have c26 := Fk_p h (p := 26) (fun _ => rfl)
  have c112 := Fk_p h (p := 112) (fun _ => rfl)
  have c128 := Fk_p h (p := 128) (fun _ => rfl)
  have c129 := Fk_p h (p := 129) (fun _ => rfl)
  have c136 := Fk_p h (p := 136) (fun _ => rfl)
  have c137 := Fk_p h (p := 137) (fun _ => rfl)
  have c138 := Fk_p h (p := 138) (fun _ => rfl)
  have c139 := Fk_p h (p := 139) (fun _ => rfl)
  have c142 := Fk_p h (p := 142) (fun _ => rfl)
  have c143 := Fk_p h (p := 143) (fun _ => rfl)
  have c144 := Fk_p h (p := 144) (fun _ => rfl)
  have c147 := Fk_p h (p := 147) (fun _ => rfl)
  have c148 := Fk_p h (p := 148) (fun _ => rfl)
  have c149 := Fk_p h (p := 149) (fun _ => rfl)
  have c150 := Fk_p h (p := 150) (fun _ => rfl)
  have c153 := Fk_p h (p := 153) (fun _ => rfl)
  have c156 := Fk_p h (p := 156) (fun _ => rfl)
  have c158 := Fk_p h (p := 158) (fun _ => rfl)
  have c163 := Fk_p h (p := 163) (fun _ => rfl)
  have c168 := Fk_p h (p := 168) (fun _ => rfl)
  have c173 := Fk_p h (p := 173) (fun _ => rfl)
  have c174 := Fk_p h (p := 174) (fun _ => rfl)
  have c175 := Fk_p h (p := 175) (fun _ => rfl)
  have c176 := Fk_p h (p := 176) (fun _ => rfl)
  have m1 := h 146 1 rfl
  have m5 := h 146 5 rfl
  have m16 := h 146 16 rfl
  have m31 := h 146 31 rfl
  have m38 := h 146 38 rfl
  have m46 := h 146 46 rfl
  have m54 := h 146 54 rfl
  have m57 := h 146 57 rfl
  have r6 := h 111 6 rfl
  have q8 := h 127 8 rfl
  have g0 := h 172 0 rfl
  have fz := Fk_Fz h
  refine ⟨?_, ?_, hw, ?_, ?_, ?_, ?_, ?_, ?_, ?_, ?_, ?_⟩
  · unfold iP at hP ⊢; rw [c6, m1, m57]; exact hP
  · unfold iT xt_ok at hT ⊢; rw [c2, c3, c150, m5]; exact hT
  · unfold iL at hL ⊢; rw [c6, c7, c8, c148, c149]; exact hL
  · unfold iS at hS ⊢; rw [c6, c12, c13, c14, c15, c11, c147, he 16 (by decide) (by decide)]; exact hS
  · have := iU_c hU fz (by rw [c23]) (by rw [c23]) m31 (by rw [c6]) c158
    exact ⟨this.1, this.2.1, this.2.2.1, fun k a c => iSs_e (this.2.2.2 k a c) (he _ (by omega) (by omega))⟩
  · have := iK_c hK fz c26 c174 c175 c176
    intro i a c
    rcases this i a c with q | q
    · exact Or.inl q
    · exact Or.inr ⟨q.1, q.2.1, q.2.2.1, q.2.2.2.1, iSs_e q.2.2.2.2 (he _ (by omega) (by omega))⟩
  · rw [r6, c112, m16, c153]; exact hR
  · unfold iQ at hQ ⊢; rw [q8, m38, c163, c128, c129]; exact hQ
  · unfold iV at hV ⊢; rw [c136, m46, c168, c137, c138, c139, c6]; exact hV
  · unfold iH at hH ⊢; rw [c142, m54, c173, c143, c144, c6]; exact hH
  · unfold iG at hG ⊢; rw [g0, c156]; exact hG
/-- the rows are as they were -/
theorem iW_fk {d d' : xh_D} (h : iW d) (h1 : d' 4 1 = d 4 1) (h2 : d' 146 7 = d 146 7) (h3 : d' 5 = d 5) (h4 : d' 151 = d 151) : iW d' := by
  unfold iW at h ⊢
  rw [h1, h2, h3, h4]
  exact h
/-- a state and its row, one cell of both changed -/
theorem iSt_h {b n : Int} {h s t l : Int → Int} {w : Int} {bk : Nat → Int64} {a : Int → Int} {p v : Int} (hn : n ≤ 9) (q : iSt b n h s t l w bk a) (hp : 0 ≤ p ∧ p < n) (hv : 0 ≤ v ∧ v < 9) : iSt b n (upI h p v) s t l w bk (upI a p v) := by
  obtain ⟨q1, q2, q3, q4, q5, q6, q7, q8⟩ := q
  refine ⟨fun i h1 h2 => ?_, fun i k h1 h2 h3 h4 => ?_, q3, q4, q5, ?_, ?_, fun j i h1 h2 h3 h4 h5 => ?_⟩
  · have := q1 i h1 h2
    simp only [upI_app, if_neg (show ¬ 9 + i = p by omega), if_neg (show ¬ 18 + i = p by omega)]
    by_cases c : i = p
    · simp only [if_pos c]; exact ⟨hv, this.2.1, this.2.2.1, trivial, this.2.2.2.2.1, this.2.2.2.2.2⟩
    · simp only [if_neg c]; exact this
  · rw [upI_app, if_neg (by omega)]; exact q2 i k h1 h2 h3 h4
  · rw [upI_app, if_neg (by omega)]; exact q6
  · rw [upI_app, if_neg (by omega)]; exact q7
  · rw [upI_app, if_neg (by omega)]; exact q8 j i h1 h2 h3 h4 h5
theorem iSt_s {b n : Int} {h s t l : Int → Int} {w : Int} {bk : Nat → Int64} {a : Int → Int} {p v : Int} (hn : n ≤ 9) (q : iSt b n h s t l w bk a) (hp : 0 ≤ p ∧ p < n) (hv : 0 ≤ v ∧ v < 9) : iSt b n h (upI s p v) t l w bk (upI a (9 + p) v) := by
  obtain ⟨q1, q2, q3, q4, q5, q6, q7, q8⟩ := q
  refine ⟨fun i h1 h2 => ?_, fun i k h1 h2 h3 h4 => ?_, q3, q4, q5, ?_, ?_, fun j i h1 h2 h3 h4 h5 => ?_⟩
  · have := q1 i h1 h2
    simp only [upI_app, if_neg (show ¬ i = 9 + p by omega), if_neg (show ¬ 18 + i = 9 + p by omega)]
    by_cases c : i = p
    · simp only [if_pos c, if_pos (show 9 + i = 9 + p by omega)]; exact ⟨this.1, hv, this.2.2.1, this.2.2.2.1, trivial, this.2.2.2.2.2⟩
    · simp only [if_neg c, if_neg (show ¬ 9 + i = 9 + p by omega)]; exact this
  · rw [upI_app, if_neg (by omega)]; exact q2 i k h1 h2 h3 h4
  · rw [upI_app, if_neg (by omega)]; exact q6
  · rw [upI_app, if_neg (by omega)]; exact q7
  · rw [upI_app, if_neg (by omega)]; exact q8 j i h1 h2 h3 h4 h5
theorem iSt_t {b n : Int} {h s t l : Int → Int} {w : Int} {bk : Nat → Int64} {a : Int → Int} {p v : Int} (hn : n ≤ 9) (q : iSt b n h s t l w bk a) (hp : 0 ≤ p ∧ p < n) (hv : 0 ≤ v ∧ v < 64) : iSt b n h s (upI t p v) l w bk (upI a (18 + p) v) := by
  obtain ⟨q1, q2, q3, q4, q5, q6, q7, q8⟩ := q
  refine ⟨fun i h1 h2 => ?_, fun i k h1 h2 h3 h4 => ?_, q3, q4, q5, ?_, ?_, fun j i h1 h2 h3 h4 h5 => ?_⟩
  · have := q1 i h1 h2
    simp only [upI_app, if_neg (show ¬ i = 18 + p by omega), if_neg (show ¬ 9 + i = 18 + p by omega)]
    by_cases c : i = p
    · simp only [if_pos c, if_pos (show 18 + i = 18 + p by omega)]; exact ⟨this.1, this.2.1, hv, this.2.2.2.1, this.2.2.2.2.1, trivial⟩
    · simp only [if_neg c, if_neg (show ¬ 18 + i = 18 + p by omega)]; exact this
  · rw [upI_app, if_neg (by omega)]; exact q2 i k h1 h2 h3 h4
  · rw [upI_app, if_neg (by omega)]; exact q6
  · rw [upI_app, if_neg (by omega)]; exact q7
  · rw [upI_app, if_neg (by omega)]; exact q8 j i h1 h2 h3 h4 h5
/-- only what is read of a state matters -/
theorem iSt_congr {b n : Int} {h s t l h' s' t' l' : Int → Int} {w w' : Int} {bk bk' : Nat → Int64} {a a' : Int → Int} (hn : 0 ≤ n ∧ n ≤ 9) (q : iSt b n h s t l w bk a) (eh : ∀ p, 0 ≤ p → p < 9 → h' p = h p) (es : ∀ p, 0 ≤ p → p < 9 → s' p = s p) (et : ∀ p, 0 ≤ p → p < 9 → t' p = t p) (el : ∀ p, 0 ≤ p → p < 54 → l' p = l p) (ew : w' = w) (eb : ∀ j, j < 30 → bk' j = bk j) (ea : ∀ i, 0 ≤ i → i < 353 → a' i = a i) : iSt b n h' s' t' l' w' bk' a' := by
  subst ew
  obtain ⟨q1, q2, q3, q4, q5, q6, q7, q8⟩ := q
  refine ⟨fun i h1 h2 => ?_, fun i k h1 h2 h3 h4 => ?_, fun i h1 h2 => ?_, fun i h1 h2 => ?_, q5, ?_, ?_, fun j i h1 h2 h3 h4 h5 => ?_⟩
  · rw [eh i h1 (by omega), es i h1 (by omega), et i h1 (by omega), ea i h1 (by omega), ea (9 + i) (by omega) (by omega), ea (18 + i) (by omega) (by omega)]; exact q1 i h1 h2
  · rw [ea _ (by omega) (by omega), el _ (by omega) (by omega)]; exact q2 i k h1 h2 h3 h4
  · rw [el i h1 h2]; exact q3 i h1 h2
  · rw [el i (by omega) h2]; exact q4 i h1 h2
  · rw [ea _ (by omega) (by omega)]; exact q6
  · rw [ea _ (by omega) (by omega)]; exact q7
  · rw [eb _ (by omega), ea _ (by omega) (by omega)]; exact q8 j i h1 h2 h3 h4 h5
