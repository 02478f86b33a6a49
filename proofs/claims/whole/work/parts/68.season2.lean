/-! CALLS: season, the reference reads. -/
section SE2
variable {L D : Nat} {d : xh_D} {e : xd_E}
def rgA (d dm : xh_D) : Prop := (∀ q, ¬ q = 146 → ¬ q = 160 → dm q = d q) ∧ ∀ j, ¬ j = 12 → ¬ j = 13 → dm 146 j = d 146 j
theorem rgA_t {d1 d2 : xh_D} (h : rgA d d1) (h2 : rgA d1 d2) : rgA d d2 := ⟨fun q a c => by rw [h2.1 q a c, h.1 q a c], fun j a c => by rw [h2.2 j a c, h.2 j a c]⟩
theorem rgA_12 {v : Int} : rgA d (xs d 146 12 v) := ⟨fun q a _ => by rw [xs_fn, if_neg a], fun j a _ => by rw [xs_ni a]⟩
theorem rgA_13 {v : Int} : rgA d (xs d 146 13 v) := ⟨fun q a _ => by rw [xs_fn, if_neg a], fun j _ a => by rw [xs_ni a]⟩
theorem rgA_160 {i v : Int} : rgA d (xs d 160 i v) := ⟨fun q _ a => by rw [xs_fn, if_neg a], fun j _ _ => by rw [xs_np (by decide)]⟩
theorem rgA_r : rgA d d := ⟨fun _ _ _ => rfl, fun _ _ _ => rfl⟩
theorem rd_160 {T : Int → Int} {N lim i j v : Int} (s : rdS T N lim i d) : rdS T N lim i (xs d 160 j v) := rd_c s (fun j _ _ => by rw [xs_np (by decide)]) (by rw [xs_fn, if_neg (by decide)])
def acW (T : Int → Int) (d : xh_D) (a p : Int) : Prop := d 160 a = T p ∧ (T p = 100 → d 160 (a + 1) = max 1 (xt_dg (T (p + 1)))) ∧ (¬ T p = 100 → d 160 (a + 1) = T (p + 1) - 97) ∧ (T p = 115 → d 160 (a + 2) = T (p + 2) - 97) ∧ (¬ T p = 100 → ¬ T p = 115 → d 160 (a + 2) = xt_dg (T (p + 2)))
theorem sq_230 {T : Int → Int} {N p0 a1 : Int} {P : xh_D → xd_E → Prop} (hD : 6 ≤ D) (ha : 0 ≤ a1 ∧ a1 ≤ 230) (hN : ¬ N = 0) (hTo : T N = -1) (s : rdS T N 60 p0 d) (hp : p0 ≤ min N 60) (hf : ∀ dc, rgA d dc → ¬ dc 146 13 = -1 → dc 146 13 = se T N 0 p0 → (0 ≤ dc 146 13 ∧ dc 146 13 ≤ 80) → (0 ≤ dc 146 12 ∧ dc 146 12 ≤ 90) → P dc e) (hk : ∀ dc i, rgA d dc → rdS T N 60 i dc → i ≤ min N 60 → p0 < i → (∀ j, p0 ≤ j → j < i → ¬ T j = 59) → se T N 0 p0 = (if hcT T N 60 i = 59 then se T N 0 (i + 1) else if N ≤ i then -1 else i) → ((hcT T N 60 i = 59 ∨ N ≤ i) → acW T dc a1 p0) → (∀ j, ¬ (a1 ≤ j ∧ j ≤ a1 + 2) → dc 160 j = d 160 j) → P dc e) : yV D 230 L [.ref 146, .int (xJ a1)] d e P := by
  have s8 := s.2.2.2.2.2.2.2.1
  have s6 := s.2.2.2.2.2.1
  have s12 : d 146 12 = p0 := s.2.2.2.1
  have s13 : d 146 13 = -1 := s.2.2.2.2.1
  obtain ⟨r1, r2, r3, r4⟩ := rd_h s
  -- behind the act's sign
  have key : (hcT T N 60 p0 = 100 ∨ hcT T N 60 p0 = 104 ∨ hcT T N 60 p0 = 115 ∨ hcT T N 60 p0 = 109) → yB (D - 1) xm_c230 (yQv L P) L 19 [.ref 146, .int (xJ a1), .int (xJ (hcT T N 60 p0))] [] d e := by
    intro hc
    have rr := r4 (by omega)
    have n1 : rdS T N 60 (p0 + 1) (xs (xs d 146 12 (p0 + 1)) 160 a1 (hcT T N 60 p0)) := rd_160 (rd_n s (by omega))
    have f1 : rgA d (xs (xs d 146 12 (p0 + 1)) 160 a1 (hcT T N 60 p0)) := rgA_t rgA_12 rgA_160
    have v0 : xs (xs d 146 12 (p0 + 1)) 160 a1 (hcT T N 60 p0) 160 a1 = T p0 := by rw [xs_eq, rr.2.2]
    have o1 : ∀ j, ¬ j = a1 → xs (xs d 146 12 (p0 + 1)) 160 a1 (hcT T N 60 p0) 160 j = d 160 j := fun j h => by rw [xs_ni h, xs_np (by decide)]
    have w12 : xs (xs d 146 12 (p0 + 1)) 160 a1 (hcT T N 60 p0) 146 12 = p0 + 1 := by rw [xs_np (by decide), xs_eq]
    refine yk_230_19 (by omega) ?_
    rw [s12]
    generalize xs (xs d 146 12 (p0 + 1)) 160 a1 (hcT T N 60 p0) = d1 at n1 f1 v0 o1 w12 ⊢
    have Tp : T p0 = hcT T N 60 p0 := rr.2.2.symm
    refine ⟨by omega, by omega, fun c => ?_, fun c => ?_⟩
    · -- a person comes next
      have pr : ∀ x : Int, (hcT T N 60 p0 = 115 ∧ x = 3) ∨ (¬ hcT T N 60 p0 = 115 ∧ x = 2) → se T N 0 p0 = se T N x (p0 + 1) := fun x hx => by
        refine (se_s (p := 0) (r := x) hp ?_ (by omega)).1
        have := pb_c (p := 0) (x := hcT T N 60 p0) (by omega)
        have h0 : ¬ xp_pb 0 (hcT T N 60 p0) = -1 := by
          rcases hc with h | h | h | h <;> (rw [h]; decide)
        omega
      refine sq_196 (by omega) n1 (fun g1 g2 => ⟨by omega, fun c2 => ?_, fun c2 => ?_⟩) (fun g => ⟨by omega, fun c2 => ?_, fun c2 => ?_⟩)
      · -- a digit
        have e1 := pr 2 (Or.inr ⟨c2, rfl⟩)
        have q2 := pb_c (p := 2) (x := hcT T N 60 (p0 + 1)) (by omega)
        have t2 := se_s (T := T) (N := N) (p := 2) (i := p0 + 1) (r := 4) (by omega) (by unfold lTr dG8 at q2; unfold xp_pb; rw [if_neg (by decide), if_pos rfl, if_pos ⟨g1, g2⟩]) (by decide)
        have n2 := rd_160 (j := a1 + 1) (v := hcT T N 60 (p0 + 1) - 97) (rd_n n1 (by omega))
        refine sq_195 (by omega) (by omega) n2 (fun g3 g4 => ⟨by omega, ?_⟩) (fun g => ⟨by omega, ?_⟩)
        · have t3 := se_s (T := T) (N := N) (p := 4) (i := p0 + 1 + 1) (r := 6) (by omega) (by unfold xp_pb; rw [if_neg (by decide), if_neg (by decide), if_neg (by decide), if_pos rfl, if_pos ⟨g3, by omega⟩]) (by decide)
          have n3 := rd_160 (j := a1 + 2) (v := hcT T N 60 (p0 + 1 + 1) - 48) (rd_n n2 (by omega))
          refine hk _ (p0 + 1 + 1 + 1) (rgA_t (rgA_t (rgA_t (rgA_t f1 rgA_12) rgA_160) rgA_12) rgA_160) n3 (by omega) (by omega) (fun j a cj => ?_) ?_ (fun _ => ⟨?_, fun z => by omega, fun _ => ?_, fun z => by omega, fun _ _ => ?_⟩) (fun j h => ?_)
          · have : j = p0 ∨ j = p0 + 1 ∨ j = p0 + 1 + 1 := by omega
            rcases this with rfl | rfl | rfl
            · omega
            · rw [t2.2.2]; omega
            · rw [t3.2.2]; omega
          · rw [e1, t2.1, t3.1]; exact se_x (by omega) (Or.inl rfl)
          · rw [xs_ni (by omega), xs_np (by decide), xs_ni (by omega), xs_np (by decide), v0]
          · rw [xs_ni (by omega), xs_np (by decide), xs_eq, t2.2.2]
          · rw [xs_eq]
            unfold xt_dg
            rw [show p0 + 2 = p0 + 1 + 1 by omega, t3.2.2, if_pos (by omega)]
          · rw [xs_ni (by omega), xs_np (by decide), xs_ni (by omega), xs_np (by decide), o1 j (by omega)]
        · have t3 := se_f (T := T) (N := N) (p := 4) (i := p0 + 1 + 1) (by omega) hN (by decide) (by unfold xp_pb; rw [if_neg (by decide), if_neg (by decide), if_neg (by decide), if_pos rfl, if_neg (by omega)])
          have u : ∀ x y, xs (xs (xs (xs d1 146 12 (p0 + 1 + 1)) 160 (a1 + 1) x) 146 13 (p0 + 1 + 1)) 160 (a1 + 2) y 146 13 = p0 + 1 + 1 := fun x y => by rw [xs_np (by decide), xs_eq]
          exact hf _ (rgA_t (rgA_t (rgA_t (rgA_t f1 rgA_12) rgA_160) rgA_13) rgA_160) (by rw [u]; omega) (by rw [u, e1, t2.1, t3]) (by rw [u]; omega) (by rw [xs_np (by decide), xs_ni (by decide), xs_np (by decide), xs_eq]; omega)
      · -- a second person
        have e1 := pr 3 (Or.inl ⟨c2, rfl⟩)
        have t2 := se_s (T := T) (N := N) (p := 3) (i := p0 + 1) (r := 5) (by omega) (by unfold xp_pb; rw [if_neg (by decide), if_neg (by decide), if_pos rfl, if_pos ⟨g1, g2⟩]) (by decide)
        have n2 := rd_160 (j := a1 + 1) (v := hcT T N 60 (p0 + 1) - 97) (rd_n n1 (by omega))
        refine sq_196 (by omega) n2 (fun g3 g4 => ⟨by omega, ?_⟩) (fun g => ⟨by omega, ?_⟩)
        · have t3 := se_s (T := T) (N := N) (p := 5) (i := p0 + 1 + 1) (r := 6) (by omega) (by unfold xp_pb; rw [if_neg (by decide), if_neg (by decide), if_neg (by decide), if_neg (by decide), if_pos rfl, if_pos ⟨g3, g4⟩]) (by decide)
          have n3 := rd_160 (j := a1 + 2) (v := hcT T N 60 (p0 + 1 + 1) - 97) (rd_n n2 (by omega))
          refine hk _ (p0 + 1 + 1 + 1) (rgA_t (rgA_t (rgA_t (rgA_t f1 rgA_12) rgA_160) rgA_12) rgA_160) n3 (by omega) (by omega) (fun j a cj => ?_) ?_ (fun _ => ⟨?_, fun z => by omega, fun _ => ?_, fun _ => ?_, fun _ z => by omega⟩) (fun j h => ?_)
          · have : j = p0 ∨ j = p0 + 1 ∨ j = p0 + 1 + 1 := by omega
            rcases this with rfl | rfl | rfl
            · omega
            · rw [t2.2.2]; omega
            · rw [t3.2.2]; omega
          · rw [e1, t2.1, t3.1]; exact se_x (by omega) (Or.inl rfl)
          · rw [xs_ni (by omega), xs_np (by decide), xs_ni (by omega), xs_np (by decide), v0]
          · rw [xs_ni (by omega), xs_np (by decide), xs_eq, t2.2.2]
          · rw [xs_eq, show p0 + 2 = p0 + 1 + 1 by omega, t3.2.2]
          · rw [xs_ni (by omega), xs_np (by decide), xs_ni (by omega), xs_np (by decide), o1 j (by omega)]
        · have t3 := se_f (T := T) (N := N) (p := 5) (i := p0 + 1 + 1) (by omega) hN (by decide) (by unfold xp_pb; rw [if_neg (by decide), if_neg (by decide), if_neg (by decide), if_neg (by decide), if_pos rfl, if_neg (by omega)])
          have u : ∀ x y, xs (xs (xs (xs d1 146 12 (p0 + 1 + 1)) 160 (a1 + 1) x) 146 13 (p0 + 1 + 1)) 160 (a1 + 2) y 146 13 = p0 + 1 + 1 := fun x y => by rw [xs_np (by decide), xs_eq]
          exact hf _ (rgA_t (rgA_t (rgA_t (rgA_t f1 rgA_12) rgA_160) rgA_13) rgA_160) (by rw [u]; omega) (by rw [u, e1, t2.1, t3]) (by rw [u]; omega) (by rw [xs_np (by decide), xs_ni (by decide), xs_np (by decide), xs_eq]; omega)
      · have e1 := pr 2 (Or.inr ⟨c2, rfl⟩)
        have t2 := se_f (T := T) (N := N) (p := 2) (i := p0 + 1) (by omega) hN (by decide) (by unfold xp_pb; rw [if_neg (by decide), if_pos rfl, if_neg g])
        have u : ∀ x, xs (xs d1 146 13 (p0 + 1)) 160 (a1 + 1) x 146 13 = p0 + 1 := fun x => by rw [xs_np (by decide), xs_eq]
        refine sq_195_f (by omega) (by rw [u]; omega) ⟨by omega, ?_⟩
        have u2 : ∀ x y, xs (xs (xs d1 146 13 (p0 + 1)) 160 (a1 + 1) x) 160 (a1 + 2) y 146 13 = p0 + 1 := fun x y => by rw [xs_np (by decide), u]
        exact hf _ (rgA_t (rgA_t (rgA_t f1 rgA_13) rgA_160) rgA_160) (by rw [u2]; omega) (by rw [u2, e1, t2]) (by rw [u2]; omega) (by rw [xs_np (by decide), xs_np (by decide), xs_ni (by decide), w12]; omega)
      · have e1 := pr 3 (Or.inl ⟨c2, rfl⟩)
        have t2 := se_f (T := T) (N := N) (p := 3) (i := p0 + 1) (by omega) hN (by decide) (by unfold xp_pb; rw [if_neg (by decide), if_neg (by decide), if_pos rfl, if_neg g])
        have u : ∀ x, xs (xs d1 146 13 (p0 + 1)) 160 (a1 + 1) x 146 13 = p0 + 1 := fun x => by rw [xs_np (by decide), xs_eq]
        refine sq_196_f (by omega) (by rw [u]; omega) ⟨by omega, ?_⟩
        have u2 : ∀ x y, xs (xs (xs d1 146 13 (p0 + 1)) 160 (a1 + 1) x) 160 (a1 + 2) y 146 13 = p0 + 1 := fun x y => by rw [xs_np (by decide), u]
        exact hf _ (rgA_t (rgA_t (rgA_t f1 rgA_13) rgA_160) rgA_160) (by rw [u2]; omega) (by rw [u2, e1, t2]) (by rw [u2]; omega) (by rw [xs_np (by decide), xs_np (by decide), xs_ni (by decide), w12]; omega)
    · -- days
      have e1 := (se_s (T := T) (N := N) (p := 0) (i := p0) (r := 1) hp (by rw [c]; decide) (by decide)).1
      obtain ⟨y1, y2, y3, y4⟩ := rd_h n1
      refine ⟨y1, by omega, fun g => ?_, fun g => ⟨by omega, ?_⟩⟩
      · have g' : 49 ≤ hcT T N 60 (p0 + 1) ∧ hcT T N 60 (p0 + 1) ≤ 57 := by omega
        have t2 := se_s (T := T) (N := N) (p := 1) (i := p0 + 1) (r := 6) (by omega) (by unfold xp_pb; rw [if_neg (by decide), if_neg (by decide), if_neg (by decide), if_neg (by decide), if_neg (by decide), if_pos ⟨rfl, g'⟩]) (by decide)
        refine sq_195 (by omega) (by omega) n1 (fun g3 g4 => ⟨by omega, ?_⟩) (fun z => absurd ⟨by omega, by omega⟩ z)
        have n3 := rd_160 (j := a1 + 1) (v := hcT T N 60 (p0 + 1) - 48) (rd_n n1 (by omega))
        refine hk _ (p0 + 1 + 1) (rgA_t (rgA_t f1 rgA_12) rgA_160) n3 (by omega) (by omega) (fun j a cj => ?_) ?_ (fun _ => ⟨?_, fun _ => ?_, fun z => by omega, fun z => by omega, fun z => by omega⟩) (fun j h => ?_)
        · have : j = p0 ∨ j = p0 + 1 := by omega
          rcases this with rfl | rfl
          · omega
          · rw [t2.2.2]; omega
        · rw [e1, t2.1]; exact se_x (by omega) (Or.inl rfl)
        · rw [xs_ni (by omega), xs_np (by decide), v0]
        · rw [xs_eq]
          unfold xt_dg
          rw [t2.2.2, if_pos (by omega)]
          omega
        · rw [xs_ni (by omega), xs_np (by decide), o1 j (by omega)]
      · have g' : ¬ (49 ≤ hcT T N 60 (p0 + 1) ∧ hcT T N 60 (p0 + 1) ≤ 57) := by omega
        have n3 := rd_160 (j := a1 + 1) (v := 1) n1
        refine hk _ (p0 + 1) (rgA_t f1 rgA_160) n3 (by omega) (by omega) (fun j a cj => ?_) ?_ (fun w => ⟨?_, fun _ => ?_, fun z => by omega, fun z => by omega, fun z => by omega⟩) (fun j h => ?_)
        · rw [show j = p0 by omega]; omega
        · rw [e1]; exact se_x (by omega) (Or.inr ⟨rfl, g'⟩)
        · rw [xs_ni (by omega), v0]
        · rw [xs_eq]
          have : T (p0 + 1) = 59 ∨ T (p0 + 1) = -1 := by
            rcases w with w | w
            · have := y4 (by omega); omega
            · rw [show p0 + 1 = N by omega]; exact Or.inr hTo
          unfold xt_dg
          rw [if_neg (by omega)]
          rfl
        · rw [xs_ni (by omega), o1 j (by omega)]
  refine yV_of rfl rfl rfl (by omega) (yk_230_0 (by omega) ⟨r1, by omega, fun c => ?_, fun c => ⟨fun c2 => ?_, fun c2 => ⟨fun c3 => ?_, fun c3 => ⟨fun c4 => ?_, fun c4 => ?_⟩⟩⟩⟩)
  · have := key (by omega); rwa [show hcT T N 60 p0 = xm_here d by omega] at this
  · have := key (by omega); rwa [show hcT T N 60 p0 = xm_here d by omega] at this
  · have := key (by omega); rwa [show hcT T N 60 p0 = xm_here d by omega] at this
  · have := key (by omega); rwa [show hcT T N 60 p0 = xm_here d by omega] at this
  · rw [s13, s12, if_pos rfl]
    refine ⟨by omega, ?_⟩
    have hx := pb_c (p := 0) (x := hcT T N 60 p0) (by omega)
    have t1 := se_f (T := T) (N := N) (p := 0) (i := p0) hp hN (by decide) (by omega)
    have u : xs d 146 13 p0 146 13 = p0 := xs_eq
    have u12 : xs d 146 13 p0 146 12 = p0 := by rw [xs_ni (by decide), s12]
    refine yk_230_19 (by omega) ⟨by omega, by omega, fun _ => ?_, fun z => absurd z c⟩
    rw [u12]
    have a1' : ∀ y z, xs (xs (xs d 146 13 p0) 146 12 y) 160 a1 z 146 13 = p0 := fun y z => by rw [xs_np (by decide), xs_ni (by decide), u]
    have a2' : ∀ y z x, xs (xs (xs (xs d 146 13 p0) 146 12 y) 160 a1 z) 160 (a1 + 1) x 146 13 = p0 := fun y z x => by rw [xs_np (by decide), a1']
    have a3' : ∀ y z x w, xs (xs (xs (xs (xs d 146 13 p0) 146 12 y) 160 a1 z) 160 (a1 + 1) x) 160 (a1 + 2) w 146 13 = p0 := fun y z x w => by rw [xs_np (by decide), a2']
    have fin : ∀ z x w, P (xs (xs (xs (xs (xs d 146 13 p0) 146 12 (p0 + 1)) 160 a1 z) 160 (a1 + 1) x) 160 (a1 + 2) w) e := fun z x w => hf _ (rgA_t (rgA_t (rgA_t (rgA_t rgA_13 rgA_12) rgA_160) rgA_160) rgA_160) (by rw [a3']; omega) (by rw [a3', t1]) (by rw [a3']; omega) (by rw [xs_np (by decide), xs_np (by decide), xs_np (by decide), xs_eq]; omega)
    refine sq_196_f (by omega) (by rw [a1']; omega) ⟨by omega, fun _ => ?_, fun _ => ?_⟩
    · exact sq_195_f (by omega) (by rw [a2']; omega) ⟨by omega, fin _ _ _⟩
    · exact sq_196_f (by omega) (by rw [a2']; omega) ⟨by omega, fin _ _ _⟩
end SE2
