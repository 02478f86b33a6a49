/-! THE RULE: the class reads. -/
def wRk (d : xh_D) : List Int → Prop
  | [] => True
  | s :: w => d 114 (w.length : Int) = s ∧ wRk d w
/-- what the class has read so far -/
def Sx (s : cS) (d : xh_D) : Prop := d 111 7 = (s.1.length : Int) ∧ cR (d 113) 0 s.1 ∧ d 111 8 = (s.2.1.length : Int) ∧ wRk d s.2.1 ∧ d 111 9 = s.2.2.1 ∧ (0 ≤ s.2.2.1 ∧ s.2.2.1 ≤ 4) ∧ d 111 10 = s.2.2.2.1 ∧ (0 ≤ s.2.2.2.1 ∧ s.2.2.2.1 ≤ 3) ∧ d 111 11 = (if s.2.2.2.2.1 = true then 1 else 0) ∧ (∀ i, 0 ≤ i → i ≤ s.2.2.1 → d 117 i = if s.2.2.2.2.2 i = true then 1 else 0) ∧ ∀ x ∈ s.2.1, 0 ≤ x ∧ x ≤ 256
def rcF (d d' : xh_D) : Prop := (∀ q, ¬ q = 111 → ¬ q = 113 → ¬ q = 114 → ¬ q = 117 → d' q = d q) ∧ ∀ i, ¬ (7 ≤ i ∧ i ≤ 11) → d' 111 i = d 111 i
theorem rcF_r {d : xh_D} : rcF d d := ⟨fun _ _ _ _ _ => rfl, fun _ _ => rfl⟩
theorem rcF_t {d d1 d2 : xh_D} (h : rcF d d1) (h2 : rcF d1 d2) : rcF d d2 := ⟨fun q a b c e => by rw [h2.1 q a b c e, h.1 q a b c e], fun i a => by rw [h2.2 i a, h.2 i a]⟩
theorem rcF_x {d d1 : xh_D} {q : Nat} {j v : Int} (h : rcF d d1) (hq : q = 113 ∨ q = 114 ∨ q = 117 ∨ (q = 111 ∧ 7 ≤ j ∧ j ≤ 11)) : rcF d (xs d1 q j v) := ⟨fun p a b c e => by rw [xs_fn, if_neg (by omega), h.1 p a b c e], fun i a => by
  by_cases z : q = 111
  · rw [z, xs_ni (by omega), h.2 i a]
  · rw [xs_np (fun w => z w.symm), h.2 i a]⟩
section RUZ
variable {L D : Nat} {d : xh_D} {e : xd_E}
theorem wRk_c {d' : xh_D} : ∀ (w : List Int), (∀ j, 0 ≤ j → j < (w.length : Int) → d' 114 j = d 114 j) → wRk d w → wRk d' w
  | [], _, _ => trivial
  | x :: s, h, hs => ⟨by rw [h _ (by omega) (by rw [List.length_cons]; omega)]; exact hs.1, wRk_c s (fun j a b => h j a (by rw [List.length_cons]; omega)) hs.2⟩
theorem cR_app {f : Int → Int} {x : Int} : ∀ (l : List Int) (i : Int), cR f i l → f (i + (l.length : Int)) = x → cR f i (l ++ [x])
  | [], i, _, h => ⟨by rw [List.length_nil] at h; rw [← h]; congr 1; omega, trivial⟩
  | y :: l, i, hs, h => ⟨hs.1, cR_app l (i + 1) hs.2 (by rw [← h, List.length_cons]; congr 1; omega)⟩
theorem cR_put {d' : xh_D} {l : List Int} {x : Int} (hs : cR (d 113) 0 l) (h1 : ∀ j, 0 ≤ j → j < (l.length : Int) → d' 113 j = d 113 j) (h2 : d' 113 (l.length : Int) = x) : cR (d' 113) 0 (l ++ [x]) := cR_app l 0 (cR_c l 0 (fun j a b => h1 j a (by omega)) hs) (by rw [Int.zero_add]; exact h2)
theorem sq_43 {k : Int} {P : xh_D → xd_E → Prop} (hD : 2 ≤ D) (hk : 0 ≤ k ∧ k ≤ 4) : ∀ (w dr : List Int) (d0 : xh_D), d0 111 7 = (dr.length : Int) → cR (d0 113) 0 dr → d0 111 8 = (w.length : Int) → wRk d0 w → (∀ x ∈ w, 0 ≤ x ∧ x ≤ 256) → dr.length + w.length ≤ 40 → (∀ d', (∀ q, ¬ q = 111 → ¬ q = 113 → d' q = d0 q) → (∀ i, ¬ i = 7 → ¬ i = 8 → d' 111 i = d0 111 i) → d' 111 7 = ((pw k dr w).1.length : Int) → cR (d' 113) 0 (pw k dr w).1 → d' 111 8 = ((pw k dr w).2.length : Int) → (pw k dr w).1.length + (pw k dr w).2.length = dr.length + w.length → wRk d' (pw k dr w).2 → (∀ x ∈ (pw k dr w).2, x ∈ w) → P d' e) → yB D xm_c43 (yQv L P) L 0 [.ref 111, .int (xJ k)] [] d0 e := by
  intro w
  induction w with
  | nil =>
    intro dr d0 h7 hc h8 hw hx hb h
    have e0 : pw k dr [] = (dr, []) := rfl
    rw [e0] at h
    refine yk_43_0 (by omega) ?_
    rw [h8]
    exact ⟨by decide, fun _ => h d0 (fun _ _ _ => rfl) (fun _ _ _ => rfl) h7 hc h8 rfl trivial (fun x hx => hx), fun z => absurd (show ((0 : Nat) : Int) ≤ 0 by decide) z⟩
  | cons s w ih =>
    intro dr d0 h7 hc h8 hw hx hb h
    have hs := hx s (List.mem_cons_self ..)
    rw [List.length_cons] at h8 hb
    have ht : d0 114 (((w.length + 1 : Nat) : Int) - 1) = s := by rw [show ((w.length + 1 : Nat) : Int) - 1 = (w.length : Int) by omega]; exact hw.1
    have sv := @str_v s
    refine yk_43_0 (by omega) ?_
    rw [h8, ht, h7]
    have stop : s = 40 ∨ xp_str s < k → P d0 e := fun z => by
      have e0 : pw k dr (s :: w) = (dr, s :: w) := by unfold pw; rw [if_pos z]
      rw [e0] at h
      exact h d0 (fun _ _ _ => rfl) (fun _ _ _ => rfl) h7 hc (by rw [List.length_cons]; exact h8) rfl hw (fun x hx => hx)
    refine ⟨by omega, fun z => by omega, fun _ => ⟨by omega, by omega, fun z => stop (Or.inl z), fun z => ⟨by omega, fun z2 => stop (Or.inr z2), fun z2 => ⟨by omega, ?_⟩⟩⟩⟩
    have e0 : pw k dr (s :: w) = pw k (dr ++ [-s]) w := by conv => lhs; unfold pw; rw [if_neg (by omega)]
    rw [e0] at h
    have ln : (dr ++ [-s]).length = dr.length + 1 := by rw [List.length_append]; rfl
    refine ih (dr ++ [-s]) _ ?_ ?_ ?_ ?_ (fun x hx' => hx x (List.mem_cons_of_mem _ hx')) (by rw [ln]; omega) (fun d' f1 f2 g1 g2 g3 g4 g5 g6 => h d' (fun q a b => ?_) (fun i a b => ?_) g1 g2 g3 (by rw [g4, ln, List.length_cons]; omega) g5 (fun x hx' => List.mem_cons_of_mem _ (g6 x hx')))
    · rw [xs_eq, ln]; rfl
    · refine cR_put (d := d0) hc (fun j a b => ?_) ?_
      · rw [xs_np (by decide), xs_ni (by omega), xs_np (by decide)]
      · rw [xs_np (by decide), xs_eq]
    · rw [xs_ni (by decide), xs_np (by decide), xs_eq]; omega
    · exact wRk_c w (fun j _ _ => by rw [xs_np (by decide), xs_np (by decide), xs_np (by decide)]) hw.2
    · rw [f1 q a b, xs_fn, if_neg a, xs_fn, if_neg b, xs_fn, if_neg a]
    · rw [f2 i a b, xs_ni a, xs_np (by decide), xs_ni b]
/-- a sign where a thing can begin -/
theorem sq_36 {s : cS} {ch : Int} {P1 P0 : xh_D → xd_E → Prop} (hD : 4 ≤ D) (sx : Sx s d) (hch : -1 ≤ ch ∧ ch < 256) (hw : s.2.2.2.2.1 = true) (hb : s.1.length + s.2.1.length ≤ 39) (h1 : ∀ s' d', stC s ch = some s' → Sx s' d' → rcF d d' → s'.1.length + s'.2.1.length ≤ s.1.length + s.2.1.length + 1 → P1 d' e) (h0 : stC s ch = none → P0 d e) : yZ D 36 L [.ref 111, .int (xJ ch)] d e P1 P0 := by
  obtain ⟨x1, x2, x3, x4, x5, x6, x7, x8, x9, x10, x11⟩ := sx
  unfold stC at h1 h0
  rw [if_pos hw] at h1 h0 x9
  unfold stA at h1 h0
  refine yZ_of rfl rfl rfl (by omega) (yk_36_0 (by omega) ⟨by omega, fun z => ⟨fun z2 => ?_, fun z2 => ?_⟩, fun z => ?_⟩)
  · rw [if_neg z, if_neg z2] at h1 h0
    have g29 : ¬ dgB ch → yB (D - 1) xm_c36 (yQz L P1 P0) L 29 [.ref 111, .int (xJ ch)] [] d e := fun nd => by
      rw [if_neg nd] at h1 h0
      refine yk_36_29 (by omega) ⟨by omega, fun w => h0 (by rw [if_pos w]), fun w => ?_⟩
      rw [if_neg w] at h1
      rw [x1]
      refine ⟨by omega, h1 _ _ rfl ⟨?_, ?_, ?_, ?_, ?_, x6, ?_, ⟨show (0 : Int) ≤ 0 by decide, show (0 : Int) ≤ 3 by decide⟩, ?_, fun i a b => ?_, x11⟩ (rcF_x (rcF_x (rcF_x (rcF_x rcF_r (Or.inl rfl)) (by omega)) (by omega)) (by omega)) (by rw [List.length_append]; simp only [List.length_singleton]; omega)⟩
      · rw [xs_ni (by decide), xs_ni (by decide), xs_eq, List.length_append]; rfl
      · refine cR_put (d := d) x2 (fun j a b => ?_) ?_
        · rw [xs_np (by decide), xs_np (by decide), xs_np (by decide), xs_ni (by omega)]
        · rw [xs_np (by decide), xs_np (by decide), xs_np (by decide), xs_eq]
      · rw [xs_ni (by decide), xs_ni (by decide), xs_ni (by decide), xs_np (by decide)]; exact x3
      · exact wRk_c _ (fun j _ _ => by rw [xs_np (by decide), xs_np (by decide), xs_np (by decide), xs_np (by decide)]) x4
      · rw [xs_ni (by decide), xs_ni (by decide), xs_ni (by decide), xs_np (by decide)]; exact x5
      · rw [xs_ni (by decide), xs_eq]
      · rw [xs_eq]; rfl
      · rw [xs_np (by decide), xs_np (by decide), xs_np (by decide), xs_np (by decide)]; exact x10 i a b
    refine ⟨fun w => g29 (fun u => by unfold dgB at u; omega), fun w => ⟨fun w2 => g29 (fun u => by unfold dgB at u; omega), fun w2 => ?_⟩⟩
    rw [if_pos (show dgB ch from ⟨by omega, by omega⟩)] at h1
    rw [x1]
    refine ⟨by omega, h1 _ _ rfl ⟨?_, ?_, ?_, ?_, ?_, x6, ?_, ⟨show (0 : Int) ≤ 1 by decide, show (1 : Int) ≤ 3 by decide⟩, ?_, fun i a b => ?_, x11⟩ (rcF_x (rcF_x (rcF_x (rcF_x rcF_r (Or.inl rfl)) (by omega)) (by omega)) (by omega)) (by rw [List.length_append]; simp only [List.length_singleton]; omega)⟩
    · rw [xs_ni (by decide), xs_ni (by decide), xs_eq, List.length_append]; rfl
    · refine cR_put (d := d) x2 (fun j a b => ?_) ?_
      · rw [xs_np (by decide), xs_np (by decide), xs_np (by decide), xs_ni (by omega)]
      · rw [xs_np (by decide), xs_np (by decide), xs_np (by decide), xs_eq]
    · rw [xs_ni (by decide), xs_ni (by decide), xs_ni (by decide), xs_np (by decide)]; exact x3
    · exact wRk_c _ (fun j _ _ => by rw [xs_np (by decide), xs_np (by decide), xs_np (by decide), xs_np (by decide)]) x4
    · rw [xs_ni (by decide), xs_ni (by decide), xs_ni (by decide), xs_np (by decide)]; exact x5
    · rw [xs_ni (by decide), xs_eq]
    · rw [xs_eq]; rfl
    · rw [xs_np (by decide), xs_np (by decide), xs_np (by decide), xs_np (by decide)]; exact x10 i a b
  · rw [if_neg z, if_pos z2] at h1 h0
    refine yZ_of rfl rfl rfl (by omega) (yk_37_0 (by omega) ?_)
    rw [x5, x3]
    refine ⟨by omega, fun w => ⟨by omega, by omega, ?_⟩, fun w => h0 (by rw [if_pos w])⟩
    rw [if_neg w] at h1
    refine h1 _ _ rfl ⟨?_, ?_, ?_, ?_, ?_, ⟨by show 0 ≤ s.2.2.1 + 1; omega, by show s.2.2.1 + 1 ≤ 4; omega⟩, ?_, x8, ?_, fun i a b => ?_, fun x hx => ?_⟩ (rcF_x (rcF_x (rcF_x (rcF_x rcF_r (by omega)) (by omega)) (by omega)) (by omega)) (by show s.1.length + (40 :: s.2.1).length ≤ _; rw [List.length_cons]; omega)
    · rw [xs_np (by decide), xs_ni (by decide), xs_ni (by decide), xs_np (by decide)]; exact x1
    · refine cR_c _ 0 (fun j _ _ => ?_) x2
      rw [xs_np (by decide), xs_np (by decide), xs_np (by decide), xs_np (by decide)]
    · rw [xs_np (by decide), xs_ni (by decide), xs_eq]; rfl
    · exact ⟨by rw [xs_np (by decide), xs_np (by decide), xs_np (by decide), xs_eq], wRk_c _ (fun j _ _ => by rw [xs_np (by decide), xs_np (by decide), xs_np (by decide), xs_ni (by omega)]) x4⟩
    · rw [xs_np (by decide), xs_eq]
    · rw [xs_np (by decide), xs_ni (by decide), xs_ni (by decide), xs_np (by decide)]; exact x7
    · rw [xs_np (by decide), xs_ni (by decide), xs_ni (by decide), xs_np (by decide)]
      show d 111 11 = if s.2.2.2.2.1 = true then 1 else 0
      rw [if_pos hw]; exact x9
    · show _ = if (if i = s.2.2.1 + 1 then false else s.2.2.2.2.2 i) = true then 1 else 0
      by_cases u : i = s.2.2.1 + 1
      · rw [u, xs_eq, if_pos rfl]; rfl
      · have b' : i ≤ s.2.2.1 + 1 := b
        rw [xs_ni u, if_neg u, xs_np (by decide), xs_np (by decide), xs_np (by decide)]
        exact x10 i a (by omega)
    · rcases List.mem_cons.mp hx with u | u
      · rw [u]; decide
      · exact x11 x u
  · rw [if_pos z] at h1
    rw [x3]
    refine ⟨by omega, h1 _ _ rfl ⟨?_, ?_, ?_, ?_, ?_, x6, ?_, x8, ?_, fun i a b => ?_, fun x hx => ?_⟩ (rcF_x (rcF_x rcF_r (by omega)) (by omega)) (by show s.1.length + (256 :: s.2.1).length ≤ _; rw [List.length_cons]; omega)⟩
    · rw [xs_ni (by decide), xs_np (by decide)]; exact x1
    · refine cR_c _ 0 (fun j _ _ => ?_) x2
      rw [xs_np (by decide), xs_np (by decide)]
    · rw [xs_eq]; rfl
    · exact ⟨by rw [xs_np (by decide), xs_eq], wRk_c _ (fun j _ _ => by rw [xs_np (by decide), xs_ni (by omega)]) x4⟩
    · rw [xs_ni (by decide), xs_np (by decide)]; exact x5
    · rw [xs_ni (by decide), xs_np (by decide)]; exact x7
    · rw [xs_ni (by decide), xs_np (by decide)]
      show d 111 11 = if s.2.2.2.2.1 = true then 1 else 0
      rw [if_pos hw]; exact x9
    · rw [xs_np (by decide), xs_np (by decide)]; exact x10 i a b
    · rcases List.mem_cons.mp hx with u | u
      · rw [u]; decide
      · exact x11 x u
end RUZ
