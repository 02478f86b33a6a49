/-! STATES that are copied, kept, remembered. -/
section CPY
variable {R : xR} {b : Int} {L D : Nat} {d : xh_D} {e : xd_E} {P : xh_D → xd_E → Prop}
theorem isS_ne {s t : Nat} (hs : xd_isS s = true) (ht : xd_isS t = true) (h : ¬ s = t) : s + 6 ≤ t ∨ t + 6 ≤ s := by
  have h1 : s ∈ [11, 17, 27, 33, 39, 45, 51, 57, 63, 69, 75, 81, 87, 93, 99, 105] := List.contains_iff_mem.mp hs
  have h2 : t ∈ [11, 17, 27, 33, 39, 45, 51, 57, 63, 69, 75, 81, 87, 93, 99, 105] := List.contains_iff_mem.mp ht
  have key : ∀ s ∈ [11, 17, 27, 33, 39, 45, 51, 57, 63, 69, 75, 81, 87, 93, 99, 105], ∀ t ∈ [11, 17, 27, 33, 39, 45, 51, 57, 63, 69, 75, 81, 87, 93, 99, 105], ¬ s = t → s + 6 ≤ t ∨ t + 6 ≤ s := by decide
  exact key s h1 t h2 h
def CpR (d : xh_D) (e : xd_E) (s t : Nat) (d' : xh_D) (e' : xd_E) : Prop := (∀ p, (p < s ∨ s + 4 < p) → d' p = d p) ∧ (∀ p, ¬ p = s + 5 → e' p = e p) ∧ (∀ i, 0 ≤ i → i < 9 → d' (s + 1) i = d (t + 1) i) ∧ (∀ b n a, 0 ≤ n ∧ n ≤ 9 → iSs b n d e t a → iSs b n d' e' s a)
theorem sc_50 {s t : Nat} (hs : xd_isS s = true) (ht : xd_isS t = true) (hst : ¬ s = t) (hD : 1 ≤ D) (h : ∀ d' e', CpR d e s t d' e' → P d' e') : yV D 50 L [.ref s, .ref t] d e P := by
  have hn := isS_ne hs ht hst
  refine yV_of rfl rfl rfl (by omega) (yk_50_s_t_0 hs ht (h _ _ ⟨?_, ?_, ?_, ?_⟩))
  · intro p hp
    funext i
    rw [xs_np (by omega), xcp_np (by omega), xcp_np (by omega), xcp_np (by omega), xcp_np (by omega)]
  · intro p hp
    simp [xcl, va_up, hp]
  · intro i h1 h2
    rw [xs_np (by omega), xcp_np (by omega), xcp_np (by omega), xcp_np (by omega)]
    exact if_pos ⟨rfl, h1, h2⟩
  · intro b n a hn9 q
    unfold iSs at q ⊢
    refine iSt_congr hn9 q (fun i h1 h2 => ?_) (fun i h1 h2 => ?_) (fun i h1 h2 => ?_) (fun i h1 h2 => ?_) ?_ (fun j hj => ?_) (fun i _ _ => rfl)
    · rw [xs_np (by omega), xcp_np (by omega), xcp_np (by omega), xcp_np (by omega)]
      exact if_pos ⟨rfl, h1, h2⟩
    · rw [xs_np (by omega), xcp_np (by omega), xcp_np (by omega)]
      refine (if_pos ⟨rfl, h1, h2⟩).trans ?_
      rw [xcp_np (by omega)]
    · rw [xs_np (by omega), xcp_np (by omega)]
      refine (if_pos ⟨rfl, h1, h2⟩).trans ?_
      rw [xcp_np (by omega), xcp_np (by omega)]
    · rw [xs_np (by omega)]
      refine (if_pos ⟨rfl, h1, h2⟩).trans ?_
      rw [xcp_np (by omega), xcp_np (by omega), xcp_np (by omega)]
    · rw [xs_eq, xcp_np (by omega), xcp_np (by omega), xcp_np (by omega), xcp_np (by omega)]
    · simp [xcl, va_up, va_cpy, hj]
/-- the class remembers a state -/
def RmX (d : xh_D) (e : xd_E) (d' : xh_D) (e' : xd_E) : Prop := (∀ p, ¬ p = 23 → (p < 27 + 6 * (d 23 3).toNat ∨ 31 + 6 * (d 23 3).toNat < p) → d' p = d p) ∧ (∀ p, ¬ p = 32 + 6 * (d 23 3).toNat → e' p = e p) ∧ d' 23 3 = (d 23 3 + 1) % 12 ∧ d' 23 4 = min (d 23 4 + 1) 12 ∧ (∀ b n a, 0 ≤ n ∧ n ≤ 9 → iSs b n d e 11 a → iSs b n d' e' (27 + 6 * (d 23 3).toNat) a)
theorem sc_17 (hD : 2 ≤ D) (h3 : 0 ≤ d 23 3 ∧ d 23 3 < 12) (h4 : 0 ≤ d 23 4 ∧ d 23 4 ≤ 12) (h : ∀ d' e', RmX d e d' e' → P d' e') : yV D 17 L [.ref 23, .ref 11] d e P := by
  refine yV_of rfl rfl rfl (by omega) (yk_17_11_0 (by omega) ⟨h3, sc_50 (xp_S27 h3) rfl (by omega) (by omega) (fun d1 e1 c => ?_)⟩)
  have c23 := c.1 23 (by omega)
  rw [c23]
  refine ⟨by omega, by omega, h _ _ ⟨fun p hp h2 => ?_, fun p hp => c.2.1 p (by omega), ?_, ?_, fun b n a hn q => ?_⟩⟩
  · funext i
    rw [xs_np hp, xs_np hp, c.1 p (by omega)]
  · rw [xs_ni (by decide), xs_eq]
  · rw [xs_eq]
  · exact iSs_c (by omega) (Fz_xs (Fz_xs Fz_refl (by decide)) (by decide)) rfl (c.2.2.2 b n a hn q)
/-- n of a place are written, from o on -/
def xwo (d : xh_D) (q : Nat) (o n : Int) (f : Int → Int) : xh_D := fun p i => if p = q ∧ o ≤ i ∧ i < o + n then f (i - o) else d p i
theorem xwo_0 {d : xh_D} {q : Nat} {o : Int} {f : Int → Int} : xwo d q o 0 f = d := by
  funext p i
  unfold xwo
  rw [if_neg (by omega)]
theorem xwo_s {d : xh_D} {q : Nat} {o i : Int} {f : Int → Int} (h : 0 ≤ i) : xs (xwo d q o i f) q (o + i) (f i) = xwo d q o (i + 1) f := by
  funext p j
  unfold xs xwo
  by_cases h1 : p = q
  · by_cases h2 : j = o + i
    · subst h2; rw [if_pos ⟨h1, rfl⟩, if_pos ⟨h1, by omega, by omega⟩, show o + i - o = i by omega]
    · rw [if_neg (fun c => h2 c.2)]
      by_cases h3 : o ≤ j ∧ j < o + i
      · rw [if_pos ⟨h1, h3⟩, if_pos ⟨h1, h3.1, by omega⟩]
      · rw [if_neg (fun c => h3 c.2), if_neg (fun c => h3 ⟨c.2.1, by omega⟩)]
  · rw [if_neg (fun c => h1 c.1), if_neg (fun c => h1 c.1), if_neg (fun c => h1 c.1)]
theorem xwo_np {d : xh_D} {q p : Nat} {o n i : Int} {f : Int → Int} (h : ¬ p = q) : xwo d q o n f p i = d p i := if_neg (fun c => h c.1)
theorem xwo_at {d : xh_D} {q : Nat} {o n i : Int} {f : Int → Int} (h : o ≤ i ∧ i < o + n) : xwo d q o n f q i = f (i - o) := if_pos ⟨rfl, h⟩
theorem xwo_ni {d : xh_D} {q p : Nat} {o n i : Int} {f : Int → Int} (h : ¬ (o ≤ i ∧ i < o + n)) : xwo d q o n f p i = d p i := if_neg (fun c => h c.2)
theorem sc_225_147_158 {o : Int} (hD : 1 ≤ D) (ho : 0 ≤ o ∧ o + 353 ≤ 4236) (h : P (xwo d 158 o 353 (d 147)) e) : yV D 225 L [.ref 147, .ref 158, .int (xJ o)] d e P := by
  refine yV_of rfl rfl rfl (by omega) (yk_225_147_158_0 ?_)
  have := lp_up (n := 353) (X := fun i => yB (D - 1) xm_c225 (yQv L P) L 2 [.ref 147, .ref 158, .int (xJ o), .int (xJ i)] [] (xwo d 158 o i (d 147)) e) (by omega) ?_ ?_
  · rw [xwo_0] at this; exact this
  · intro i h1 h2 ih
    refine yk_225_147_158_2 ⟨by omega, fun c => by omega, fun c => ⟨by omega, by omega, ?_⟩⟩
    rw [← xwo_s h1] at ih
    exact ih
  · exact yk_225_147_158_2 ⟨by omega, fun c => h, fun c => by omega⟩
theorem sc_225_147_159 {o : Int} (hD : 1 ≤ D) (ho : 0 ≤ o ∧ o + 353 ≤ 353) (h : P (xwo d 159 o 353 (d 147)) e) : yV D 225 L [.ref 147, .ref 159, .int (xJ o)] d e P := by
  refine yV_of rfl rfl rfl (by omega) (yk_225_147_159_0 ?_)
  have := lp_up (n := 353) (X := fun i => yB (D - 1) xm_c225 (yQv L P) L 2 [.ref 147, .ref 159, .int (xJ o), .int (xJ i)] [] (xwo d 159 o i (d 147)) e) (by omega) ?_ ?_
  · rw [xwo_0] at this; exact this
  · intro i h1 h2 ih
    refine yk_225_147_159_2 ⟨by omega, fun c => by omega, fun c => ⟨by omega, by omega, ?_⟩⟩
    rw [← xwo_s h1] at ih
    exact ih
  · exact yk_225_147_159_2 ⟨by omega, fun c => h, fun c => by omega⟩
theorem sc_225_147_162 {o : Int} (hD : 1 ≤ D) (ho : 0 ≤ o ∧ o + 353 ≤ 353) (h : P (xwo d 162 o 353 (d 147)) e) : yV D 225 L [.ref 147, .ref 162, .int (xJ o)] d e P := by
  refine yV_of rfl rfl rfl (by omega) (yk_225_147_162_0 ?_)
  have := lp_up (n := 353) (X := fun i => yB (D - 1) xm_c225 (yQv L P) L 2 [.ref 147, .ref 162, .int (xJ o), .int (xJ i)] [] (xwo d 162 o i (d 147)) e) (by omega) ?_ ?_
  · rw [xwo_0] at this; exact this
  · intro i h1 h2 ih
    refine yk_225_147_162_2 ⟨by omega, fun c => by omega, fun c => ⟨by omega, by omega, ?_⟩⟩
    rw [← xwo_s h1] at ih
    exact ih
  · exact yk_225_147_162_2 ⟨by omega, fun c => h, fun c => by omega⟩
theorem sc_225_147_174 {o : Int} (hD : 1 ≤ D) (ho : 0 ≤ o ∧ o + 353 ≤ 706) (h : P (xwo d 174 o 353 (d 147)) e) : yV D 225 L [.ref 147, .ref 174, .int (xJ o)] d e P := by
  refine yV_of rfl rfl rfl (by omega) (yk_225_147_174_0 ?_)
  have := lp_up (n := 353) (X := fun i => yB (D - 1) xm_c225 (yQv L P) L 2 [.ref 147, .ref 174, .int (xJ o), .int (xJ i)] [] (xwo d 174 o i (d 147)) e) (by omega) ?_ ?_
  · rw [xwo_0] at this; exact this
  · intro i h1 h2 ih
    refine yk_225_147_174_2 ⟨by omega, fun c => by omega, fun c => ⟨by omega, by omega, ?_⟩⟩
    rw [← xwo_s h1] at ih
    exact ih
  · exact yk_225_147_174_2 ⟨by omega, fun c => h, fun c => by omega⟩
theorem sc_225_159_158 {o : Int} (hD : 1 ≤ D) (ho : 0 ≤ o ∧ o + 353 ≤ 4236) (h : P (xwo d 158 o 353 (d 159)) e) : yV D 225 L [.ref 159, .ref 158, .int (xJ o)] d e P := by
  refine yV_of rfl rfl rfl (by omega) (yk_225_159_158_0 ?_)
  have := lp_up (n := 353) (X := fun i => yB (D - 1) xm_c225 (yQv L P) L 2 [.ref 159, .ref 158, .int (xJ o), .int (xJ i)] [] (xwo d 158 o i (d 159)) e) (by omega) ?_ ?_
  · rw [xwo_0] at this; exact this
  · intro i h1 h2 ih
    refine yk_225_159_158_2 ⟨by omega, fun c => by omega, fun c => ⟨by omega, by omega, ?_⟩⟩
    rw [← xwo_s h1] at ih
    exact ih
  · exact yk_225_159_158_2 ⟨by omega, fun c => h, fun c => by omega⟩
/-- the reference remembers a row -/
def RmM (q : Nat) (d d' : xh_D) : Prop := (∀ p, ¬ p = 146 → ¬ p = 158 → d' p = d p) ∧ (∀ i, ¬ i = 31 → d' 146 i = d 146 i) ∧ d' 146 31 = min (d 146 31 + 1) 12 ∧ (∀ i, 0 ≤ i → i < 353 → d' 158 (353 * (d' 146 31 - 1) + i) = d q i) ∧ (∀ j i, 0 ≤ j → j < d' 146 31 - 1 → 0 ≤ i → i < 353 → d' 158 (353 * j + i) = d 158 (353 * (j + (d 146 31 + 1 - d' 146 31)) + i))
theorem sc_226_147 (hD : 2 ≤ D) (hu : 0 ≤ d 146 31 ∧ d 146 31 ≤ 12) (h : ∀ d', RmM 147 d d' → P d' e) : yV D 226 L [.ref 146, .ref 147] d e P := by
  refine yV_of rfl rfl rfl (by omega) (yk_226_147_0 ⟨by omega, fun c => ?_, fun c => ?_⟩)
  · refine yk_226_147_27 (sc_225_147_158 (by omega) (by omega) (h _ ?_))
    refine ⟨fun p h1 h2 => ?_, fun i hi => ?_, ?_, fun i h1 h2 => ?_, fun j i h1 h2 h3 h4 => ?_⟩
    · funext i; rw [xs_np h1, xwo_np h2]
    · rw [xs_ni hi, xwo_np (by decide)]
    · rw [xs_eq, xwo_np (by decide)]; omega
    · rw [xs_eq, xwo_np (p := 146) (by decide), xs_np (by decide), xwo_at (by omega)]
      congr 1; omega
    · rw [xs_eq, xwo_np (p := 146) (by decide)] at h2 ⊢
      rw [xs_np (by decide), xwo_ni (by omega)]
      congr 1; omega
  · have hl := lp_up (n := 3883) (X := fun i => yB (D - 1) xm_c226 (yQv L P) L 6 [.ref 146, .ref 147, .int (xJ i)] [] (xwr d 158 i (fun j => d 158 (j + 353))) e) (by omega) ?_ ?_
    · rw [xwr_0] at hl; exact hl
    · intro i h1 h2 ih
      refine yk_226_147_6 ⟨by omega, fun c => by omega, fun c => ⟨by omega, by omega, ?_⟩⟩
      rw [← xwr_s h1] at ih
      rw [show xwr d 158 i (fun j => d 158 (j + 353)) 158 (i + 353) = d 158 (i + 353) from if_neg (by omega)]
      exact ih
    · refine yk_226_147_6 ⟨by omega, fun c2 => ?_, fun c2 => by omega⟩
      have u0 : xwr d 158 3883 (fun j => d 158 (j + 353)) 146 31 = 12 := by rw [xwr_fn (by decide)]; exact c
      rw [u0]
      refine yk_226_147_27 ?_
      rw [xs_eq]
      refine sc_225_147_158 (by omega) (by omega) (h _ ?_)
      have u1 : ∀ (f : Int → Int), xwo (xs (xwr d 158 3883 (fun j => d 158 (j + 353))) 146 31 (12 - 1)) 158 (353 * (12 - 1)) 353 f 146 31 = 11 := fun f => by rw [xwo_np (by decide), xs_eq]; rfl
      refine ⟨fun p h1 h2 => ?_, fun i hi => ?_, ?_, fun i h1 h2 => ?_, fun j i h1 h2 h3 h4 => ?_⟩
      · funext i; rw [xs_np h1, xwo_np h2, xs_np h1, xwr_fn h2]
      · rw [xs_ni hi, xwo_np (by decide), xs_ni hi, xwr_fn (by decide)]
      · rw [xs_eq, u1]; omega
      · rw [xs_eq, u1, xs_np (by decide), xwo_at (by omega), xs_np (by decide), xwr_fn (by decide)]
        congr 1; omega
      · rw [xs_eq, u1] at h2 ⊢
        rw [xs_np (by decide), xwo_ni (by omega), xs_np (by decide), xwr_at (by omega)]
        congr 1; omega
theorem sc_226_159 (hD : 2 ≤ D) (hu : 0 ≤ d 146 31 ∧ d 146 31 ≤ 12) (h : ∀ d', RmM 159 d d' → P d' e) : yV D 226 L [.ref 146, .ref 159] d e P := by
  refine yV_of rfl rfl rfl (by omega) (yk_226_159_0 ⟨by omega, fun c => ?_, fun c => ?_⟩)
  · refine yk_226_159_27 (sc_225_159_158 (by omega) (by omega) (h _ ?_))
    refine ⟨fun p h1 h2 => ?_, fun i hi => ?_, ?_, fun i h1 h2 => ?_, fun j i h1 h2 h3 h4 => ?_⟩
    · funext i; rw [xs_np h1, xwo_np h2]
    · rw [xs_ni hi, xwo_np (by decide)]
    · rw [xs_eq, xwo_np (by decide)]; omega
    · rw [xs_eq, xwo_np (p := 146) (by decide), xs_np (by decide), xwo_at (by omega)]
      congr 1; omega
    · rw [xs_eq, xwo_np (p := 146) (by decide)] at h2 ⊢
      rw [xs_np (by decide), xwo_ni (by omega)]
      congr 1; omega
  · have hl := lp_up (n := 3883) (X := fun i => yB (D - 1) xm_c226 (yQv L P) L 6 [.ref 146, .ref 159, .int (xJ i)] [] (xwr d 158 i (fun j => d 158 (j + 353))) e) (by omega) ?_ ?_
    · rw [xwr_0] at hl; exact hl
    · intro i h1 h2 ih
      refine yk_226_159_6 ⟨by omega, fun c => by omega, fun c => ⟨by omega, by omega, ?_⟩⟩
      rw [← xwr_s h1] at ih
      rw [show xwr d 158 i (fun j => d 158 (j + 353)) 158 (i + 353) = d 158 (i + 353) from if_neg (by omega)]
      exact ih
    · refine yk_226_159_6 ⟨by omega, fun c2 => ?_, fun c2 => by omega⟩
      have u0 : xwr d 158 3883 (fun j => d 158 (j + 353)) 146 31 = 12 := by rw [xwr_fn (by decide)]; exact c
      rw [u0]
      refine yk_226_159_27 ?_
      rw [xs_eq]
      refine sc_225_159_158 (by omega) (by omega) (h _ ?_)
      have u1 : ∀ (f : Int → Int), xwo (xs (xwr d 158 3883 (fun j => d 158 (j + 353))) 146 31 (12 - 1)) 158 (353 * (12 - 1)) 353 f 146 31 = 11 := fun f => by rw [xwo_np (by decide), xs_eq]; rfl
      refine ⟨fun p h1 h2 => ?_, fun i hi => ?_, ?_, fun i h1 h2 => ?_, fun j i h1 h2 h3 h4 => ?_⟩
      · funext i; rw [xs_np h1, xwo_np h2, xs_np h1, xwr_fn h2]
      · rw [xs_ni hi, xwo_np (by decide), xs_ni hi, xwr_fn (by decide)]
      · rw [xs_eq, u1]; omega
      · rw [xs_eq, u1, xs_np (by decide), xwo_at (by omega), xs_np (by decide), xwr_fn (by decide)]
        congr 1; omega
      · rw [xs_eq, u1] at h2 ⊢
        rw [xs_np (by decide), xwo_ni (by omega), xs_np (by decide), xwr_at (by omega)]
        congr 1; omega
/-- what can be undone, behind one more -/
theorem iU_rem {d1 da d2 d3 : xh_D} {e1 e3 : xd_E} {q : Nat} (hn : 0 ≤ d 6 4 ∧ d 6 4 ≤ 9) (hU : iU b d e) (hS : iS b d e) (x : RmX d e d1 e1) (m : RmM q da d2) (hq : ∀ i, 0 ≤ i → i < 353 → da q i = d 147 i) (h31 : da 146 31 = d 146 31) (h158 : da 158 = d 158) (z : ∀ p, 27 ≤ p → p < 111 → d3 p = d1 p) (ze : ∀ p, 27 ≤ p → p < 111 → e3 p = e1 p) (z23 : d3 23 = d1 23) (z158 : d3 158 = d2 158) (z31 : d3 146 31 = d2 146 31) (z6 : d3 6 4 = d 6 4) : iU b d3 e3 := by
  obtain ⟨u1, u2, u3, u4⟩ := hU
  obtain ⟨x1, x2, x3, x4, x5⟩ := x
  obtain ⟨m1, m2, m3, m4, m5⟩ := m
  rw [h31] at m3 m5
  have hw : ∀ {n : Int} {s : Nat} {a : Int → Int}, 27 ≤ s → s + 5 < 111 → iSs b n d1 e1 s a → iSs b n d3 e3 s a := fun h1 h2 h => iSs_e (iSs_c ⟨h1, by omega⟩ (fun p a c => z p a c) rfl h) (ze _ (by omega) (by omega))
  unfold iU
  rw [z23, z31, z158, z6, x3, x4, m3, u3]
  refine ⟨by omega, by omega, rfl, fun k h1 h2 => ?_⟩
  by_cases hk : k = 0
  · subst hk
    have e1 : ((d 23 3 + 1) % 12 + 11 - 0) % 12 = d 23 3 := by omega
    rw [e1]
    refine hw (by omega) (by omega) (x5 b _ _ hn ?_)
    unfold iSs
    refine iSt_congr hn hS (fun _ _ _ => rfl) (fun _ _ _ => rfl) (fun _ _ _ => rfl) (fun _ _ _ => rfl) rfl (fun _ _ => rfl) (fun i a c => ?_)
    have := m4 i a c
    rw [m3, u3, hq i a c] at this
    rw [← this]
    congr 1
    omega
  · have e1 : ((d 23 3 + 1) % 12 + 11 - k) % 12 = (d 23 3 + 11 - (k - 1)) % 12 := by omega
    rw [e1]
    have o := u4 (k - 1) (by omega) (by omega)
    have ne : ¬ (d 23 3 + 11 - (k - 1)) % 12 = d 23 3 := by omega
    refine hw (by omega) (by omega) ?_
    unfold iSs at o ⊢
    rw [x1 _ (by omega) (by omega), x1 _ (by omega) (by omega), x1 _ (by omega) (by omega), x1 _ (by omega) (by omega), x1 _ (by omega) (by omega), x2 _ (by omega)]
    refine iSt_congr hn o (fun _ _ _ => rfl) (fun _ _ _ => rfl) (fun _ _ _ => rfl) (fun _ _ _ => rfl) rfl (fun _ _ => rfl) (fun i a c => ?_)
    show d2 158 (353 * (min (d 23 4 + 1) 12 - 1 - k) + i) = d 158 (353 * (d 23 4 - 1 - (k - 1)) + i)
    rw [m5 (min (d 23 4 + 1) 12 - 1 - k) i (by omega) (by omega) a c, h158]
    congr 1
    omega
end CPY
