/-! CALLS: town. -/
section TW3
variable {R : xR} {b : Int} {L D : Nat} {d : xh_D} {e : xd_E}
/-- dm is d but for what reading touches -/
def rdF (d dm : xh_D) : Prop := (∀ q, ¬ q = 146 → ¬ q = 152 → dm q = d q) ∧ ∀ j, ¬ j = 12 → ¬ j = 13 → dm 146 j = d 146 j
theorem rdF_t {d1 d2 : xh_D} (h : rdF d d1) (h2 : rdF d1 d2) : rdF d d2 := ⟨fun q a c => by rw [h2.1 q a c, h.1 q a c], fun j a c => by rw [h2.2 j a c, h.2 j a c]⟩
theorem rdF_12 {v : Int} : rdF d (xs d 146 12 v) := ⟨fun q a _ => by rw [xs_fn, if_neg a], fun j a _ => by rw [xs_ni a]⟩
theorem rdF_13 {v : Int} : rdF d (xs d 146 13 v) := ⟨fun q a _ => by rw [xs_fn, if_neg a], fun j _ a => by rw [xs_ni a]⟩
theorem rdF_152 {i v : Int} : rdF d (xs d 152 i v) := ⟨fun q _ a => by rw [xs_fn, if_neg a], fun j _ _ => by rw [xs_np (by decide)]⟩
theorem rdF_r : rdF d d := ⟨fun _ _ _ => rfl, fun _ _ _ => rfl⟩
theorem rd_152 {T : Int → Int} {N lim i j v : Int} (s : rdS T N lim i d) : rdS T N lim i (xs d 152 j v) := rd_c s (fun j _ _ => by rw [xs_np (by decide)]) (by rw [xs_fn, if_neg (by decide)])
theorem sq_198 {T : Int → Int} {N p0 a1 rm : Int} {P : xh_D → xd_E → Prop} (hD : 5 ≤ D) (ha : 0 ≤ a1 ∧ a1 ≤ 24) (hrm : 0 < rm) (s : rdS T N 76 p0 d) (hp : p0 ≤ min N 76) (hf : ∀ dc, rdF d dc → ¬ dc 146 13 = -1 → dc 146 13 = tw T N rm 0 (-1) p0 → (0 ≤ dc 146 13 ∧ dc 146 13 ≤ 80) → (0 ≤ dc 146 12 ∧ dc 146 12 ≤ 80) → P dc e) (hk : ∀ dc i, rdF d dc → rdS T N 76 i dc → i ≤ min N 76 → ¬ (112 ≤ hcT T N 76 i ∧ hcT T N 76 i ≤ 117) → p0 < i → (∀ j, p0 ≤ j → j < i → ¬ T j = 59) → tw T N rm 0 (-1) p0 = (if hcT T N 76 i = 59 then tw T N (rm - 1) 0 (-1) (i + 1) else if N ≤ i then -1 else i) → dc 152 a1 = xt_dg (T p0) → dc 152 (a1 + 1) = xt_dg (T (p0 + 1)) → ((hcT T N 76 i = 59 ∨ N ≤ i) → dc 152 (a1 + 2) = trF T (N - (p0 + 2)).toNat 0 (p0 + 2)) → (∀ j, ¬ (a1 ≤ j ∧ j ≤ a1 + 2) → dc 152 j = d 152 j) → P dc e) : yV D 198 L [.ref 146, .int (xJ a1)] d e P := by
  have s7 := s.2.2.2.2.2.2.2.1
  have s6 := s.2.2.2.2.2.1
  have s12 : d 146 12 = p0 := s.2.2.2.1
  refine yV_of rfl rfl rfl (by omega) (yk_198_0 ?_)
  -- after a fault nothing is read
  have flt : ∀ dc, rdF d dc → ¬ dc 146 13 = -1 → dc 146 13 = tw T N rm 0 (-1) p0 → (0 ≤ dc 146 13 ∧ dc 146 13 ≤ 80) → (0 ≤ dc 146 12 ∧ dc 146 12 ≤ 80) → ∀ l, yB (D - 1) xm_c198 (yQv L P) L 25 [.ref 146, .int (xJ a1), .int (xJ l), .double 0] [] dc e := by
    intro dc f h1 h2 h3 h4 l
    exact yk_198_25 (by omega) ⟨by omega, fun z => absurd z h1, fun _ => hf dc f h1 h2 h3 h4⟩
  refine sq_195 (by omega) (by omega) s (fun g1 g2 => ?_) (fun g => ?_)
  · have t1 := tw_d (l := -1) (rm := rm) (k := 0) hp (by omega) (by omega) g1 (by omega)
    have n1 : rdS T N 76 (p0 + 1) (xs (xs d 146 12 (p0 + 1)) 152 a1 (hcT T N 76 p0 - 48)) := rd_152 (rd_n s (by omega))
    refine ⟨by omega, ?_⟩
    refine sq_195 (by omega) (by omega) n1 (fun g3 g4 => ?_) (fun g => ?_)
    · have t2 := tw_d (l := -1) (rm := rm) (k := 0 + 1) (i := p0 + 1) (T := T) (N := N) (by omega) (by omega) (by omega) g3 (by omega)
      refine ⟨by omega, by omega, ?_⟩
      have n2 := rd_152 (j := a1 + 2) (v := 0) (rd_152 (j := a1 + 1) (v := hcT T N 76 (p0 + 1) - 48) (rd_n n1 (by omega)))
      generalize hd3 : xs (xs (xs (xs (xs d 146 12 (p0 + 1)) 152 a1 (hcT T N 76 p0 - 48)) 146 12 (p0 + 1 + 1)) 152 (a1 + 1) (hcT T N 76 (p0 + 1) - 48)) 152 (a1 + 2) 0 = d3 at n2
      have f3 : rdF d d3 := by rw [← hd3]; exact rdF_t (rdF_t (rdF_t (rdF_t rdF_12 rdF_152) rdF_12) rdF_152) rdF_152
      have v0 : d3 152 a1 = xt_dg (T p0) := by
        rw [← hd3, xs_ni (by omega), xs_ni (by omega), xs_np (by decide), xs_eq]
        unfold xt_dg
        rw [t1.2.2, if_pos (by omega)]
      have v1 : d3 152 (a1 + 1) = xt_dg (T (p0 + 1)) := by
        rw [← hd3, xs_ni (by omega), xs_eq]
        unfold xt_dg
        rw [t2.2.2, if_pos (by omega)]
      have v2 : d3 152 (a1 + 2) = 0 := by rw [← hd3, xs_eq]
      have vo : ∀ j, ¬ (a1 ≤ j ∧ j ≤ a1 + 2) → d3 152 j = d 152 j := fun j h => by
        rw [← hd3, xs_ni (by omega), xs_ni (by omega), xs_np (by decide), xs_ni (by omega), xs_np (by decide)]
      have key : ∀ (f : Nat) (i l : Int) (dc : xh_D), i + f = min N 76 → (-1 ≤ l ∧ l ≤ 5) → rdF d dc → rdS T N 76 i dc → p0 + 2 ≤ i → (∀ j, p0 ≤ j → j < i → ¬ T j = 59) → tw T N rm 0 (-1) p0 = tw T N rm 2 l i → dc 152 a1 = xt_dg (T p0) → dc 152 (a1 + 1) = xt_dg (T (p0 + 1)) → trF T (N - i).toNat (dc 152 (a1 + 2)) i = trF T (N - (p0 + 2)).toNat 0 (p0 + 2) → (∀ j, ¬ (a1 ≤ j ∧ j ≤ a1 + 2) → dc 152 j = d 152 j) → yB (D - 1) xm_c198 (yQv L P) L 25 [.ref 146, .int (xJ a1), .int (xJ l), .double 0] [] dc e := by
        intro f
        induction f with
        | zero =>
          intro i l dc q1 q2 q3 q4 q5 q6 q7 q8 q9 q10 q11
          obtain ⟨r1, r2, r3, r4⟩ := rd_h q4
          have hc := hc_e (T := T) (N := N) (i := i) (by omega)
          have u := q4.2.2.2.2.1
          refine yk_198_25 (by omega) ?_
          rw [u]
          refine ⟨by omega, fun _ => ⟨r1, by omega, fun z => by omega, fun _ => ?_⟩, fun z => absurd rfl z⟩
          have tx := tw_x (T := T) (N := N) (rm := rm) (l := l) (i := i) (by omega) q2.1 (by omega)
          refine hk dc i q3 q4 (by omega) (by omega) (by omega) q6 (by rw [q7, tx]) q8 q9 (fun w => ?_) q11
          rw [← q10, show (N - i).toNat = 0 by omega]
          rfl
        | succ f ih =>
          intro i l dc q1 q2 q3 q4 q5 q6 q7 q8 q9 q10 q11
          obtain ⟨r1, r2, r3, r4⟩ := rd_h q4
          have hc := hc_n (T := T) (N := N) (i := i) (by omega)
          have u := q4.2.2.2.2.1
          have u12 := q4.2.2.2.1
          refine yk_198_25 (by omega) ?_
          rw [u, u12]
          refine ⟨by omega, fun _ => ⟨r1, by omega, fun z => ⟨by omega, by omega, fun y => ⟨by omega, ?_⟩, fun y => ?_⟩, fun z => ?_⟩, fun z => absurd rfl z⟩
          · have eh : xm_here dc = hcT T N 76 i := by omega
            have tl := tw_l (T := T) (N := N) (rm := rm) (l := l) (i := i) (by omega) (by omega) (by omega)
            rw [eh] at y ⊢
            rw [if_pos y] at tl
            have n4 := rd_n (rd_152 (j := a1 + 2) (v := xi_or (dc 152 (a1 + 2)) (xi_shl 1 (hcT T N 76 i - 112))) q4) (by omega)
            refine ih (i + 1) _ _ (by omega) (by omega) (rdF_t (rdF_t q3 rdF_152) rdF_12) n4 (by omega) (fun j a c => ?_) (by rw [q7, tl.1]) ?_ ?_ ?_ (fun j h => ?_)
            · by_cases w : j = i
              · rw [w, tl.2.2]; omega
              · exact q6 j a (by omega)
            · rw [xs_np (by decide), xs_ni (by omega)]; exact q8
            · rw [xs_np (by decide), xs_ni (by omega)]; exact q9
            · rw [xs_np (by decide), xs_eq, ← q10, show (N - i).toNat = (N - (i + 1)).toNat + 1 by omega]
              simp only [trF]
              rw [if_neg (by rw [tl.2.2]; omega), tl.2.2]
            · rw [xs_np (by decide), xs_ni (by omega)]; exact q11 j h
          · have eh : xm_here dc = hcT T N 76 i := by omega
            have tl := tw_l (T := T) (N := N) (rm := rm) (l := l) (i := i) (by omega) (by omega) (by omega)
            rw [eh] at y
            rw [if_neg y] at tl
            rw [if_pos rfl]
            have u2 : xs dc 146 13 i 146 13 = i := xs_eq
            exact flt _ (rdF_t q3 rdF_13) (by rw [u2]; omega) (by rw [u2, q7, tl.1]) (by rw [u2]; omega) (by rw [xs_ni (by decide), u12]; omega) l
          · have tx := tw_x (T := T) (N := N) (rm := rm) (l := l) (i := i) (by omega) q2.1 (by omega)
            refine hk dc i q3 q4 (by omega) (by omega) (by omega) q6 (by rw [q7, tx]) q8 q9 (fun w => ?_) q11
            rw [← q10, show (N - i).toNat = (N - (i + 1)).toNat + 1 by omega]
            simp only [trF]
            rw [if_pos (by omega)]
      refine key (min N 76 - (p0 + 2)).toNat (p0 + 2) (-1) d3 (by omega) (by omega) f3 (by rw [show p0 + 2 = p0 + 1 + 1 by omega]; exact n2) (by omega) (fun j a c => ?_) ?_ v0 v1 (by rw [v2]) vo
      · by_cases w : j = p0
        · rw [w, t1.2.2]; omega
        · rw [show j = p0 + 1 by omega, t2.2.2]; omega
      · rw [t1.1, t2.1, show (0 : Int) + 1 + 1 = 2 by decide, show p0 + 1 + 1 = p0 + 2 by omega]
    · have t2 := tw_df (l := -1) (rm := rm) (k := 0 + 1) (i := p0 + 1) (T := T) (N := N) (by omega) (by omega) (Or.inr (by omega))
      refine ⟨by omega, by omega, ?_⟩
      have u2 : ∀ x y, xs (xs (xs (xs (xs d 146 12 (p0 + 1)) 152 a1 (hcT T N 76 p0 - 48)) 146 13 (p0 + 1)) 152 (a1 + 1) x) 152 (a1 + 2) y 146 13 = p0 + 1 := fun x y => by rw [xs_np (by decide), xs_np (by decide), xs_eq]
      exact flt _ (rdF_t (rdF_t (rdF_t (rdF_t rdF_12 rdF_152) rdF_13) rdF_152) rdF_152) (by rw [u2]; omega) (by rw [u2, t1.1, t2]) (by rw [u2]; omega) (by rw [xs_np (by decide), xs_np (by decide), xs_ni (by decide), xs_np (by decide), xs_eq]; omega) _
  · have t1 := tw_df (l := -1) (rm := rm) (k := 0) (i := p0) (T := T) (N := N) (by omega) (by omega) (Or.inr (by omega))
    refine ⟨by omega, ?_⟩
    have u2 : ∀ x, xs (xs d 146 13 p0) 152 a1 x 146 13 = p0 := fun x => by rw [xs_np (by decide), xs_eq]
    refine sq_195_f (by omega) (by rw [u2]; omega) ⟨by omega, by omega, ?_⟩
    have u3 : ∀ x y z, xs (xs (xs (xs d 146 13 p0) 152 a1 x) 152 (a1 + 1) y) 152 (a1 + 2) z 146 13 = p0 := fun x y z => by rw [xs_np (by decide), xs_np (by decide), u2]
    exact flt _ (rdF_t (rdF_t (rdF_t rdF_13 rdF_152) rdF_152) rdF_152) (by rw [u3]; omega) (by rw [u3, t1]) (by rw [u3]; omega) (by rw [xs_np (by decide), xs_np (by decide), xs_np (by decide), xs_ni (by decide), s12]; omega) _
/-- what a line holds -/
def tH (T : Int → Int) (N j : Int) : Int := xt_dg (T (hpC (tSt T) N j))
def tM (T : Int → Int) (N j : Int) : Int := xt_dg (T (hpC (tSt T) N j + 1))
def tT (T : Int → Int) (N j : Int) : Int := trF T (N - (hpC (tSt T) N j + 2)).toNat 0 (hpC (tSt T) N j + 2)
theorem hpC_at {hf : Int → Bool} {N p : Int} (hN : 0 ≤ N) (hp : 0 ≤ p ∧ p < N) (h : hf p = true) : hpC hf N (cI hf p) = p := by
  have k1 := (cI_r hf hp.1).1
  have k2 := cI_mono (h := hf) (i := p + 1) (j := N) (by omega) (by omega)
  rw [cI_t hp.1 h] at k2
  have hx := (hpC_ok (hf := hf) hN).2 (cI hf p) k1 (by omega)
  exact cI_inj hx.1 hp.1 hx.2.2.1 h hx.2.2.2
theorem cI_ns {hf : Int → Bool} {p q : Int} (hp : 0 ≤ p) (hpq : p ≤ q) (h : ∀ j, p ≤ j → j < q → hf j = false) : cI hf q = cI hf p := by
  have key : ∀ k : Nat, p + k ≤ q → cI hf (p + k) = cI hf p := by
    intro k
    induction k with
    | zero => intro _; rw [show p + ((0 : Nat) : Int) = p by omega]
    | succ k ih =>
      intro hk
      rw [show p + ((k + 1 : Nat) : Int) = p + (k : Int) + 1 by omega, cI_f (by omega) (h _ (by omega) (by omega)), Int.add_zero]
      exact ih (by omega)
  have := key (q - p).toNat (by omega)
  rwa [show p + (((q - p).toNat : Nat) : Int) = q by omega] at this
theorem sq_197 {T : Int → Int} {N n r0 : Int} {P : Int → xh_D → xd_E → Prop} (hD : 8 ≤ D) (hn : 0 ≤ n ∧ n ≤ 9) (hn1 : d 146 1 = n) (hs : ∀ dc K, rdF d dc → r0 = -1 → K = cI (tSt T) N → (∀ j, 0 ≤ j → j < K → dc 152 (3 * j) = tH T N j ∧ dc 152 (3 * j + 1) = tM T N j ∧ dc 152 (3 * j + 2) = tT T N j) → yB (D - 1) xm_c197 (yQi L P) L 68 [.ref 146, .int (xJ K), .double 0, .int (xJ 0)] [] dc e) (hf : ∀ dc, rdF d dc → ¬ r0 = -1 → P (-1 - r0) dc e) : ∀ (rm : Nat) (l1 i : Int) (dm : xh_D), n + l1 + rm = 9 → 0 ≤ l1 → rdF d dm → rdS T N 76 i dm → i ≤ min N 76 → tSt T i = true → cI (tSt T) i = l1 → tw T N rm 0 (-1) i = r0 → (∀ j, 0 ≤ j → j < l1 → dm 152 (3 * j) = tH T N j ∧ dm 152 (3 * j + 1) = tM T N j ∧ dm 152 (3 * j + 2) = tT T N j) → yB (D - 1) xm_c197 (yQi L P) L 22 [.ref 146, .int (xJ l1), .int (xJ 1), .double 0] [] dm e := by
  -- a fault ends it
  have flt : ∀ (dc : xh_D) (l1 : Int), rdF d dc → ¬ dc 146 13 = -1 → dc 146 13 = r0 → (0 ≤ dc 146 13 ∧ dc 146 13 ≤ 80) → (0 ≤ dc 146 12 ∧ dc 146 12 ≤ 80) → (0 ≤ dc 146 10 ∧ dc 146 10 ≤ 80) → (0 ≤ l1 ∧ l1 ≤ 10) → yB (D - 1) xm_c197 (yQi L P) L 22 [.ref 146, .int (xJ l1), .int (xJ 0), .double 0] [] dc e := by
    intro dc l1 f h1 h2 h3 h4 h5 h6
    have g := hf dc f (by omega)
    rw [← h2] at g
    refine yk_197_22 (by omega) ⟨by omega, fun _ => ?_, fun z => absurd rfl z⟩
    refine yk_197_49 (by omega) ⟨by omega, by omega, fun _ => ⟨by omega, fun z => absurd z h1, fun _ => g⟩, fun _ => ⟨by omega, ?_⟩⟩
    rw [if_neg h1, xs_id rfl]
    exact ⟨by omega, fun z => absurd z h1, fun _ => g⟩
  intro rm
  induction rm with
  | zero =>
    intro l1 i dm h1 h2 h3 h4 h5 h6 h7 h8 h9
    obtain ⟨s1, s2, s3, s4, s5, s6, s7, s8, s9⟩ := id h4
    have tx := tw_df (T := T) (N := N) (rm := ((0 : Nat) : Int)) (k := 0) (l := -1) (i := i) h5 (by omega) (Or.inl ⟨rfl, rfl⟩)
    rw [tx] at h8
    refine yk_197_22 (by omega) ?_
    rw [s5, h3.2 1 (by decide) (by decide), hn1, s4]
    refine ⟨by omega, fun z => absurd z (by decide), fun _ => ⟨by omega, fun _ => ⟨by omega, fun z => by omega, fun _ => ?_⟩, fun z => absurd rfl z⟩⟩
    rw [if_pos rfl]
    have u : xs dm 146 13 i 146 13 = i := xs_eq
    refine sq_193_f (by omega) (by rw [u]; omega) ?_
    exact flt _ _ (rdF_t h3 rdF_13) (by rw [u]; omega) (by rw [u]; exact h8) (by rw [u]; omega) (by rw [xs_ni (by decide), s4]; omega) (by rw [xs_ni (by decide), s2]; omega) (by omega)
  | succ rm ih =>
    intro l1 i dm h1 h2 h3 h4 h5 h6 h7 h8 h9
    obtain ⟨s1, s2, s3, s4, s5, s6, s7, s8, s9⟩ := id h4
    refine yk_197_22 (by omega) ?_
    rw [s5, h3.2 1 (by decide) (by decide), hn1]
    refine ⟨by omega, fun z => absurd z (by decide), fun _ => ⟨by omega, fun _ => ⟨by omega, fun _ => ?_, fun z => by omega⟩, fun z => absurd rfl z⟩⟩
    refine sq_198 (rm := ((rm + 1 : Nat) : Int)) (by omega) (by omega) (by omega) h4 h5 (fun dc f g1 g2 g3 g4 => ?_) (fun dc i2 f n2 g1 g2 g3 g4 g5 v0 v1 v2 v3 => ?_)
    · refine sq_193_f (by omega) ⟨g1, by omega⟩ ?_
      exact flt dc _ (rdF_t h3 f) g1 (by rw [g2]; exact h8) g3 g4 (by rw [f.2 10 (by decide) (by decide), s2]; exact s6) (by omega)
    · rw [h8] at g5
      obtain ⟨t1, t2, t3, t4, t5, t6, t7, t8, t9⟩ := id n2
      have iN : i < N := by omega
      have hp := hpC_at (hf := tSt T) (N := N) s6.1 ⟨s8.1, iN⟩ h6
      rw [h7] at hp
      have c1 : cI (tSt T) i2 = l1 + 1 := by
        rw [cI_ns (p := i + 1) (q := i2) (by omega) (by omega) (fun j a c => ?_), cI_t s8.1 h6, h7]
        have := tSt_f (T := T) (i := j - 1) (by omega) (g4 (j - 1) (by omega) (by omega))
        rwa [show j - 1 + 1 = j by omega] at this
      have vv : (hcT T N 76 i2 = 59 ∨ N ≤ i2) → ∀ j, 0 ≤ j → j < l1 + 1 → dc 152 (3 * j) = tH T N j ∧ dc 152 (3 * j + 1) = tM T N j ∧ dc 152 (3 * j + 2) = tT T N j := fun w j a c => by
        by_cases z : j = l1
        · subst z
          unfold tH tM tT
          rw [hp]
          exact ⟨v0, v1, v2 w⟩
        · rw [v3 _ (by omega), v3 _ (by omega), v3 _ (by omega)]
          exact h9 j a (by omega)
      refine sq_193 (by omega) (by omega) n2 (fun w => ?_) (fun w => ?_)
      · rw [if_pos w] at g5
        have r4 := (rd_h n2).2.2.2 (by omega)
        have w' : T i2 = 59 := by omega
        refine ih (l1 + 1) (i2 + 1) _ (by omega) (by omega) (rdF_t (rdF_t h3 f) rdF_12) (rd_n n2 (by omega)) (by omega) (tSt_t w') ?_ ?_ (fun j a c => ?_)
        · have := tSt_f (T := T) (i := i2 - 1) (by omega) (g4 (i2 - 1) (by omega) (by omega))
          rw [show i2 - 1 + 1 = i2 by omega] at this
          rw [cI_f (by omega) this, c1, Int.add_zero]
        · rw [g5, show ((rm + 1 : Nat) : Int) - 1 = (rm : Int) by omega]
        · rw [xs_np (by decide), xs_np (by decide), xs_np (by decide)]
          exact vv (Or.inl w) j a c
      · rw [if_neg w] at g5
        refine yk_197_22 (by omega) ⟨by omega, fun _ => ?_, fun z => absurd rfl z⟩
        refine yk_197_49 (by omega) ?_
        rw [t4, t2, t5]
        refine ⟨by omega, by omega, fun z => ⟨by omega, fun _ => ?_, fun y => absurd rfl y⟩, fun z => ⟨by omega, ?_⟩⟩
        · rw [if_pos z] at g5
          have : i2 = N := by omega
          exact hs dc (l1 + 1) (rdF_t h3 f) g5 (by rw [← this, c1]) (vv (Or.inr z))
        · rw [if_neg z] at g5
          rw [if_pos rfl]
          refine ⟨by omega, fun y => by omega, fun y => ?_⟩
          rw [← g5]
          exact hf _ (rdF_t (rdF_t h3 f) rdF_13) (by omega)
end TW3
