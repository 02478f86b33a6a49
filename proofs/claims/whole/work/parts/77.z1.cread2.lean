/-! THE RULE: the class reads, behind a thing. -/
section RZ1
variable {L D : Nat} {d : xh_D} {e : xd_E}
theorem pw_len {k : Int} : ∀ (w dr : List Int), (pw k dr w).1.length + (pw k dr w).2.length = dr.length + w.length ∧ ∀ x ∈ (pw k dr w).2, x ∈ w
  | [], dr => ⟨rfl, fun x hx => hx⟩
  | s :: w, dr => by
    unfold pw
    by_cases z : s = 40 ∨ xp_str s < k
    · rw [if_pos z]; exact ⟨rfl, fun x hx => hx⟩
    · rw [if_neg z]
      have := pw_len w (dr ++ [-s]) (k := k)
      refine ⟨?_, fun x hx => List.mem_cons_of_mem _ (this.2 x hx)⟩
      rw [this.1, List.length_append]
      simp only [List.length_cons, List.length_nil]
      omega
theorem wRk_t {w : List Int} (h : wRk d w) : wRk d w.tail := by
  cases w with
  | nil => trivial
  | cons x w => exact h.2
theorem cR_mod {f g : Int → Int} {x y : Int} : ∀ (l : List Int) (i : Int), cR f i (l ++ [x]) → (∀ j, i ≤ j → j < i + (l.length : Int) → g j = f j) → g (i + (l.length : Int)) = y → cR g i (l ++ [y]) ∧ f (i + (l.length : Int)) = x
  | [], i, h, _, hy => by
    rw [List.length_nil] at hy ⊢
    rw [show i + ((0 : Nat) : Int) = i by omega] at hy ⊢
    exact ⟨⟨hy, trivial⟩, h.1⟩
  | z :: l, i, h, hj, hy => by
    rw [List.length_cons] at hj hy ⊢
    have t := cR_mod l (i + 1) h.2 (fun j a b => hj j (by omega) (by omega)) (y := y) (by rw [show i + 1 + (l.length : Int) = i + ((l.length + 1 : Nat) : Int) by omega]; exact hy)
    rw [show i + 1 + (l.length : Int) = i + ((l.length + 1 : Nat) : Int) by omega] at t
    exact ⟨⟨by rw [hj i (Int.le_refl _) (by omega)]; exact h.1, t.1⟩, t.2⟩
theorem sq_38 {s : cS} {ch : Int} {P1 P0 : xh_D → xd_E → Prop} (hD : 6 ≤ D) (sx : Sx s d) (hch : -1 ≤ ch ∧ ch < 256) (hw : s.2.2.2.2.1 = false) (hb : s.1.length + s.2.1.length ≤ 39) (h1 : ∀ s' d', stC s ch = some s' → Sx s' d' → rcF d d' → s'.1.length + s'.2.1.length ≤ s.1.length + s.2.1.length + 1 → P1 d' e) (h0 : stC s ch = none → P0 d e) : yZ D 38 L [.ref 111, .int (xJ ch)] d e P1 P0 := by
  obtain ⟨x1, x2, x3, x4, x5, x6, x7, x8, x9, x10, x11⟩ := sx
  unfold stC at h1 h0
  rw [if_neg (by rw [hw]; decide)] at h1 h0 x9
  unfold stB at h1 h0
  -- what is no digit
  have g12 : ¬ dgB ch → yB (D - 1) xm_c38 (yQz L P1 P0) L 12 [.ref 111, .int (xJ ch), .double 0] [] d e := fun nd => by
    rw [if_neg nd] at h1 h0
    have sv := @str_v ch
    refine yk_38_12 (by omega) ⟨by omega, fun z => ?_, fun z => ?_⟩
    · rw [if_neg z] at h1 h0
      -- a sign that joins
      have g34 : ¬ (xp_str ch = 0 ∨ (xp_str ch = 1 ∧ s.2.2.2.2.2 s.2.2.1 = true)) → yB (D - 1) xm_c38 (yQz L P1 P0) L 34 [.ref 111, .int (xJ ch), .int (xJ (xp_str ch))] [] d e := fun ng => by
        rw [if_neg ng] at h1
        have pl := pw_len (k := xp_str ch) s.2.1 s.1
        have put : ∀ (d1 : xh_D), rcF d d1 → Sx s d1 ∨ (∃ _ : xp_str ch = 1, True) → d1 111 7 = (s.1.length : Int) → cR (d1 113) 0 s.1 → d1 111 8 = (s.2.1.length : Int) → wRk d1 s.2.1 → d1 111 9 = s.2.2.1 → d1 111 10 = s.2.2.2.1 → (∀ i, 0 ≤ i → i ≤ s.2.2.1 → d1 117 i = if (if xp_str ch = 1 ∧ i = s.2.2.1 then true else s.2.2.2.2.2 i) = true then 1 else 0) → yV (D - 1) 43 L [.ref 111, .int (xJ (xp_str ch))] d1 e (fun d2 e3 => (0 ≤ d2 111 8 ∧ d2 111 8 < 40) ∧ P1 (xs (xs (xs d2 114 (d2 111 8) ch) 111 8 (d2 111 8 + 1)) 111 11 1) e3) := fun d1 f1 _ y1 y2 y3 y4 y5 y7 y10 => by
          refine yV_of rfl rfl rfl (by omega) (sq_43 (by omega) (by omega) s.2.1 s.1 d1 y1 y2 y3 y4 x11 (by omega) (fun d2 f2 f3 g1 g2 g3 g4 g5 g6 => ?_))
          rw [g3]
          refine ⟨by omega, h1 _ _ rfl ⟨?_, ?_, ?_, ?_, ?_, x6, ?_, x8, ?_, fun i a b => ?_, fun x hx => ?_⟩ ?_ ?_⟩
          · rw [xs_ni (by decide), xs_ni (by decide), xs_np (by decide)]; exact g1
          · refine cR_c _ 0 (fun j _ _ => ?_) g2
            rw [xs_np (by decide), xs_np (by decide), xs_np (by decide)]
          · rw [xs_ni (by decide), xs_eq]; rfl
          · exact ⟨by rw [xs_np (by decide), xs_np (by decide), xs_eq], wRk_c _ (fun j _ _ => by rw [xs_np (by decide), xs_np (by decide), xs_ni (by omega)]) g5⟩
          · rw [xs_ni (by decide), xs_ni (by decide), xs_np (by decide), f3 9 (by decide) (by decide)]; exact y5
          · rw [xs_ni (by decide), xs_ni (by decide), xs_np (by decide), f3 10 (by decide) (by decide)]; exact y7
          · rw [xs_eq]; rfl
          · rw [xs_np (by decide), xs_np (by decide), xs_np (by decide), f2 117 (by decide) (by decide)]; exact y10 i a b
          · rcases List.mem_cons.mp hx with u | u
            · have n1 : ¬ ch = -1 := fun t => ng (Or.inl (by rw [t]; decide))
              rw [u]; exact ⟨by omega, by omega⟩
            · exact x11 x (g6 x u)
          · refine rcF_x (rcF_x (rcF_x (rcF_t f1 ⟨fun q a b c e => f2 q a b, fun i a => f3 i (by omega) (by omega)⟩) (by omega)) (by omega)) (by omega)
          · show (pw (xp_str ch) s.1 s.2.1).1.length + (ch :: (pw (xp_str ch) s.1 s.2.1).2).length ≤ _
            rw [List.length_cons]
            omega
        refine yk_38_34 (by omega) ⟨by omega, fun w => ?_, fun w => ?_⟩
        · exact put d rcF_r (Or.inl ⟨x1, x2, x3, x4, x5, x6, x7, x8, by rw [if_neg (by rw [hw]; decide)]; exact x9, x10, x11⟩) x1 x2 x3 x4 x5 x7 (fun i a b => by rw [show (if xp_str ch = 1 ∧ i = s.2.2.1 then true else s.2.2.2.2.2 i) = s.2.2.2.2.2 i from if_neg (fun u => w u.1)]; exact x10 i a b)
        · rw [x5]
          refine ⟨by omega, put _ (rcF_x rcF_r (by omega)) (Or.inr ⟨w, trivial⟩) ?_ ?_ ?_ ?_ ?_ ?_ (fun i a b => ?_)⟩
          · rw [xs_np (by decide)]; exact x1
          · refine cR_c _ 0 (fun j _ _ => ?_) x2
            rw [xs_np (by decide)]
          · rw [xs_np (by decide)]; exact x3
          · exact wRk_c _ (fun j _ _ => by rw [xs_np (by decide)]) x4
          · rw [xs_np (by decide)]; exact x5
          · rw [xs_np (by decide)]; exact x7
          · by_cases u : i = s.2.2.1
            · rw [u, xs_eq, show (if xp_str ch = 1 ∧ s.2.2.1 = s.2.2.1 then true else s.2.2.2.2.2 s.2.2.1) = true from if_pos ⟨w, rfl⟩]; rfl
            · rw [xs_ni u, show (if xp_str ch = 1 ∧ i = s.2.2.1 then true else s.2.2.2.2.2 i) = s.2.2.2.2.2 i from if_neg (fun t => u t.2)]; exact x10 i a b
      refine ⟨fun w => h0 (by rw [if_pos (Or.inl w)]), fun w => ⟨fun w2 => g34 (fun t => by omega), fun w2 => ?_⟩⟩
      rw [x5, x10 s.2.2.1 x6.1 (Int.le_refl _)]
      cases cm : s.2.2.2.2.2 s.2.2.1
      · exact ⟨by omega, by decide, fun _ => g34 (fun t => by rcases t with t | t; exact w t; rw [cm] at t; exact absurd t.2 (by decide)), fun t => absurd rfl t⟩
      · exact ⟨by omega, by decide, fun t => absurd t (by decide), fun _ => h0 (by rw [if_pos (Or.inr ⟨w2, cm⟩)])⟩
    · rw [if_pos z] at h1 h0
      refine yZ_of rfl rfl rfl (by omega) (yk_40_0 (by omega) ?_)
      rw [x5]
      refine ⟨by omega, fun w => ?_, fun w => h0 (by rw [if_pos w])⟩
      rw [if_neg w] at h1
      have pl := pw_len (k := 0) s.2.1 s.1
      refine yV_of rfl rfl rfl (by omega) (sq_43 (by omega) (by omega) s.2.1 s.1 d x1 x2 x3 x4 x11 (by omega) (fun d2 f2 f3 g1 g2 g3 g4 g5 g6 => ?_))
      have tl : max 0 ((((pw 0 s.1 s.2.1).2.length : Nat) : Int) - 1) = ((pw 0 s.1 s.2.1).2.tail.length : Int) := by
        rw [List.length_tail]
        omega
      rw [g3, f3 9 (by decide) (by decide), x5, tl]
      refine ⟨by omega, h1 _ _ rfl ⟨?_, ?_, ?_, ?_, ?_, ⟨by show 0 ≤ s.2.2.1 - 1; omega, by show s.2.2.1 - 1 ≤ 4; omega⟩, ?_, ⟨show (0 : Int) ≤ 0 by decide, show (0 : Int) ≤ 3 by decide⟩, ?_, fun i a b => ?_, fun x hx => x11 x (g6 x (List.mem_of_mem_tail hx))⟩ (rcF_x (rcF_x (rcF_x ⟨fun q a b c e => f2 q a b, fun i a => f3 i (by omega) (by omega)⟩ (by omega)) (by omega)) (by omega)) ?_⟩
      · rw [xs_ni (by decide), xs_ni (by decide), xs_ni (by decide)]; exact g1
      · refine cR_c _ 0 (fun j _ _ => ?_) g2
        rw [xs_np (by decide), xs_np (by decide), xs_np (by decide)]
      · rw [xs_ni (by decide), xs_ni (by decide), xs_eq]
      · exact wRk_c _ (fun j _ _ => by rw [xs_np (by decide), xs_np (by decide), xs_np (by decide)]) (wRk_t g5)
      · rw [xs_ni (by decide), xs_eq]
      · rw [xs_eq]
      · rw [xs_ni (by decide), xs_ni (by decide), xs_ni (by decide), f3 11 (by decide) (by decide)]
        show d 111 11 = if s.2.2.2.2.1 = true then 1 else 0
        rw [if_neg (by rw [hw]; decide)]; exact x9
      · have b' : i ≤ s.2.2.1 - 1 := b
        rw [xs_np (by decide), xs_np (by decide), xs_np (by decide), f2 117 (by decide) (by decide)]
        exact x10 i a (by omega)
      · show (pw 0 s.1 s.2.1).1.length + (pw 0 s.1 s.2.1).2.tail.length ≤ _
        rw [List.length_tail]
        omega
  refine yZ_of rfl rfl rfl (by omega) (yk_38_0 ⟨by omega, fun z => g12 (fun u => by unfold dgB at u; omega), fun z => ⟨fun z2 => g12 (fun u => by unfold dgB at u; omega), fun z2 => ?_⟩⟩)
  rw [if_pos (show dgB ch from ⟨by omega, by omega⟩)] at h1 h0
  refine yZ_of rfl rfl rfl (by omega) (yk_39_0 ?_)
  rw [x7, x1]
  refine ⟨by omega, fun w => h0 (by rw [if_pos (Or.inl w)]), fun w => ⟨fun w2 => h0 (by rw [if_pos (Or.inr (Or.inl w2))]), fun w2 => ⟨by omega, fun w3 => ⟨by omega, ?_⟩, fun w3 => h0 (by rw [if_pos (Or.inr (Or.inr (List.length_eq_zero_iff.mp (by omega))))])⟩⟩⟩
  have ne : ¬ s.1 = [] := fun u => w3 (by rw [u]; rfl)
  rw [if_neg (fun t => by rcases t with t | t | t; exact w t; exact w2 t; exact ne t)] at h1
  obtain ⟨l, y, el⟩ : ∃ l y, s.1 = l ++ [y] := ⟨s.1.dropLast, s.1.getLast ne, (List.dropLast_concat_getLast ne).symm⟩
  have ln : s.1.length = l.length + 1 := by rw [el, List.length_append]; rfl
  have li : ((s.1.length : Nat) : Int) - 1 = (l.length : Int) := by omega
  rw [li]
  rw [el] at x2
  have md := cR_mod (g := xs (xs d 113 (l.length : Int) (d 113 (l.length : Int) * 10 + (ch - 48))) 111 10 (s.2.2.2.1 + 1) 113) (y := d 113 (l.length : Int) * 10 + (ch - 48)) l 0 x2 (fun j a b => by rw [xs_np (by decide), xs_ni (by omega)]) (by rw [Int.zero_add, xs_np (by decide), xs_eq])
  rw [Int.zero_add] at md
  refine h1 _ _ rfl ⟨?_, ?_, ?_, ?_, ?_, x6, ?_, ⟨by show 0 ≤ s.2.2.2.1 + 1; omega, by show s.2.2.2.1 + 1 ≤ 3; omega⟩, ?_, fun i a b => ?_, x11⟩ (rcF_x (rcF_x rcF_r (by omega)) (by omega)) ?_
  · rw [xs_ni (by decide), xs_np (by decide), x1]
    show ((s.1.length : Nat) : Int) = ((lenL s.1 (ch - 48)).length : Int)
    rw [el, lenL_a, List.length_append, List.length_append]; rfl
  · show cR _ 0 (lenL s.1 (ch - 48))
    rw [el, lenL_a, ← md.2]
    exact md.1
  · rw [xs_ni (by decide), xs_np (by decide)]; exact x3
  · exact wRk_c _ (fun j _ _ => by rw [xs_np (by decide), xs_np (by decide)]) x4
  · rw [xs_ni (by decide), xs_np (by decide)]; exact x5
  · rw [xs_eq]
  · rw [xs_ni (by decide), xs_np (by decide)]
    show d 111 11 = if s.2.2.2.2.1 = true then 1 else 0
    rw [if_neg (by rw [hw]; decide)]; exact x9
  · rw [xs_np (by decide), xs_np (by decide)]; exact x10 i a b
  · show (lenL s.1 (ch - 48)).length + s.2.1.length ≤ _
    rw [el, lenL_a, List.length_append, List.length_append]
    simp only [List.length_singleton]
    omega
end RZ1
