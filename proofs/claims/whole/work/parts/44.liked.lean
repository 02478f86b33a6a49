/-! CALLS: whom one leads, what is liked. -/
section OPA
variable {R : xR} {b : Int} {L D : Nat} {d : xh_D} {e : xd_E} {P : Int → xh_D → xd_E → Prop}
def leF (c : Int → Int) : Int → Int → Int := fun p x => if (x = -1 ∧ 0 < c p) ∨ (¬ x = -1 ∧ c x < c p) then p else x
theorem leF_r (c : Int → Int) {n : Int} (hn : 0 ≤ n) : -1 ≤ fI (leF c) (-1) n ∧ fI (leF c) (-1) n < max n 1 ∧ (0 < n → fI (leF c) (-1) n < n) := by
  refine fI_inv (g := leF c) (a := -1) (I := fun i x => -1 ≤ x ∧ x < max i 1 ∧ (0 < i → x < i)) (by omega) ?_ hn
  intro i x h1 h2 h3
  unfold leF
  split <;> omega
theorem op_leads {a1 : Int} (r1 : yR a1) (hb : b < 2000000000) (hI : Inv R b d e) : Op R b b L 129 236 [.int (xJ a1)] d e := by
  have hI0 := hI
  obtain ⟨hP, hT, hW, hL, hS, hU, hK, hR, hQ, hV, hH, hG⟩ := hI
  have p1 := hP.1
  have p2 := hP.2.1
  have hw := hS.2.2.2.2.1
  have h81 : d 147 81 = d 11 5 := hS.2.2.2.2.2.1
  have h82 : d 147 82 = min (d 11 5) 30 := hS.2.2.2.2.2.2.1
  have f0 : ¬ (0 ≤ a1 ∧ a1 < d 6 4) → yC 150 236 L [.ref 146, .int (xJ a1)] d e (fun r2 d2 e2 => -1 = r2 ∧ Inv R b d2 e2) := fun c => by
    refine yC_of rfl rfl rfl (by omega) (yk_236_0 (by omega) ⟨r1, by omega, fun c2 => by omega, fun c2 => ⟨rfl, hP, hT, hW, hL, hS, (iU_c hU (by repeat' (first | exact Fz_refl | refine Fz_xs ?_ (by decide))) rfl rfl rfl rfl rfl), (iK_c hK (by repeat' (first | exact Fz_refl | refine Fz_xs ?_ (by decide))) rfl rfl rfl rfl), hR, hQ, hV, hH, hG⟩⟩)
  refine yC_of rfl rfl rfl (by omega) (yk_129_0 (by omega) ⟨r1, by omega, fun c => ?_, fun c => f0 c⟩)
  generalize hcc : (fun p => cI (fun j => decide (xp_ent (e 16 ((d 11 5 - (j + 1)) % 30).toNat) p = a1)) (min (d 11 5) 30)) = cc
  have hc : ∀ p, cI (fun j => decide (xp_ent (e 16 ((d 11 5 - (j + 1)) % 30).toNat) p = a1)) (min (d 11 5) 30) = cc p := fun p => by rw [← hcc]
  have cr : ∀ p, 0 ≤ cc p ∧ cc p ≤ 30 := fun p => by
    rw [← hc p]
    have := cI_r (fun j => decide (xp_ent (e 16 ((d 11 5 - (j + 1)) % 30).toNat) p = a1)) (n := min (d 11 5) 30) (by omega)
    omega
  have sr' : ∀ i, 0 ≤ i → i ≤ 9 → 0 ≤ sI cc i ∧ sI cc i ≤ 270 := fun i h1 h2 => by
    have := sI_b (f := cc) (n := i) (lo := 0) (hi := 30) h1 (fun j _ _ => cr j)
    omega
  -- the reference
  have mm : ∀ dx : xh_D, dx = xs (xs (xs (xs (xs d 4 1 0) 5 0 (bI (fun p => decide (0 < cc p)) (d 6 4))) 4 1 1) 5 1 (fI (leF cc) (-1) (d 6 4))) 4 1 2 → yC 150 236 L [.ref 146, .int (xJ a1)] dx e (fun r2 d2 e2 => sI cc (d 6 4) = r2 ∧ Inv R b d2 e2) := by
    intro dx hdx
    have m146 : dx 146 = d 146 := by rw [hdx]; (try simp only [xs_fn, upI_app, Nat.reduceEqDiff, Int.reduceEq, eq_self, false_and, true_and, and_false, and_true, if_false, if_true, ↓reduceIte])
    have m147 : dx 147 = d 147 := by rw [hdx]; (try simp only [xs_fn, upI_app, Nat.reduceEqDiff, Int.reduceEq, eq_self, false_and, true_and, and_false, and_true, if_false, if_true, ↓reduceIte])
    have x0 : ∀ i v, xwr (xs dx 146 8 0) 161 i v 146 1 = d 6 4 := fun i v => by rw [xwr_fn (by decide), xs_ni (by decide), m146, p2]
    refine yC_of rfl rfl rfl (by omega) (yk_236_0 (by omega) ?_)
    rw [m146]
    refine ⟨r1, by omega, fun _ => ?_, fun c2 => by omega⟩
    have hl := lp_up (n := d 6 4) (X := fun i => yB (150 - 1) xm_c236 (yQi L (fun r2 d2 e2 => sI cc (d 6 4) = r2 ∧ Inv R b d2 e2)) L 17 [.ref 146, .int (xJ a1), .int (xJ (sI cc i)), .int (xJ (bI (fun p => decide (0 < cc p)) i)), .int (xJ (fI (leF cc) (-1) i)), .int (xJ i), .double 0] [] (xwr (xs dx 146 8 0) 161 i cc) e) p1.1 ?_ ?_
    · rw [xwr_0] at hl; exact hl
    · intro i i1 i2 ih
      have fr := leF_r cc i1
      refine yk_236_17 (by omega) ?_
      rw [x0]
      refine ⟨by omega, by omega, fun c2 => by omega, fun _ => ⟨by omega, ?_⟩⟩
      have hl := lp_up (n := min (d 11 5) 30) (X := fun j => yB (150 - 1) xm_c236 (yQi L (fun r2 d2 e2 => sI cc (d 6 4) = r2 ∧ Inv R b d2 e2)) L 28 [.ref 146, .int (xJ a1), .int (xJ (sI cc i)), .int (xJ (bI (fun p => decide (0 < cc p)) i)), .int (xJ (fI (leF cc) (-1) i)), .int (xJ i), .int (xJ (j + 1))] [] (xs (xwr (xs dx 146 8 0) 161 i cc) 161 i (cI (fun j => decide (xp_ent (e 16 ((d 11 5 - (j + 1)) % 30).toNat) i = a1)) j)) e) (by omega) ?_ ?_
      · exact hl
      · intro j j1 j2 jh
        have y147 : ∀ v, xs (xwr (xs dx 146 8 0) 161 i cc) 161 i v 147 = d 147 := fun v => by rw [xs_fn, if_neg (by decide), xwr_fn (by decide), xs_fn, if_neg (by decide), m147]
        refine yk_236_28 ?_
        rw [y147, h82]
        refine ⟨by omega, by omega, fun c2 => by omega, fun _ => ⟨by omega, ?_⟩⟩
        refine yC_of rfl rfl rfl (by omega) (yk_234_0 ?_)
        rw [y147, h81, xs_eq]
        refine ⟨by omega, by omega, ?_⟩
        have en := iS_ent hS (a1 := i) (k := j + 1) ⟨i1, i2⟩ p1.2 (by omega)
        rw [h81] at en
        rw [← en, xs_xs, xs_xs]
        have hr : yR (xp_ent (e 16 ((d 11 5 - (j + 1)) % 30).toNat) i) := xJ_rng _
        refine ⟨hr, r1, fun c2 => ?_, fun c2 => ?_⟩
        · rw [cI_f j1 (by simp [c2])] at jh; exact jh
        · rw [cI_t j1 (by simp [c2])] at jh; exact jh
      · have y147 : ∀ v, xs (xwr (xs dx 146 8 0) 161 i cc) 161 i v 147 = d 147 := fun v => by rw [xs_fn, if_neg (by decide), xwr_fn (by decide), xs_fn, if_neg (by decide), m147]
        have ci := cr i
        rw [fI_s _ _ i1, sI_s _ i1] at ih
        rw [hc, xwr_s i1]
        have z1 : xwr (xs dx 146 8 0) 161 (i + 1) cc 161 i = cc i := xwr_at ⟨i1, by omega⟩
        have z2 : ¬ fI (leF cc) (-1) i = -1 → xwr (xs dx 146 8 0) 161 (i + 1) cc 161 (fI (leF cc) (-1) i) = cc (fI (leF cc) (-1) i) := fun q => xwr_at (by omega)
        refine yk_236_28 ?_
        rw [show xwr (xs dx 146 8 0) 161 (i + 1) cc 147 = d 147 by rw [xwr_fn (by decide), xs_fn, if_neg (by decide), m147], h82, z1]
        refine ⟨by omega, by omega, fun _ => ⟨by omega, by omega, fun c3 => ⟨by omega, fun c4 => ?_, fun c4 => ?_⟩, fun c3 => ?_⟩, fun c2 => by omega⟩
        · rw [bI_t (by omega) (by simp; omega)]
          rw [show leF cc i (fI (leF cc) (-1) i) = i from if_pos (by omega)] at ih
          exact ih
        · rw [z2 c4]
          have := cr (fI (leF cc) (-1) i)
          refine ⟨by omega, by omega, fun c5 => ?_, fun c5 => ?_⟩
          · rw [bI_t (by omega) (by simp; omega)]
            rw [show leF cc i (fI (leF cc) (-1) i) = fI (leF cc) (-1) i from if_neg (by omega)] at ih
            exact ih
          · rw [bI_t (by omega) (by simp; omega)]
            rw [show leF cc i (fI (leF cc) (-1) i) = i from if_pos (by omega)] at ih
            exact ih
        · rw [← bI_k (by omega) (by simp; omega), c3, Int.add_zero] at ih
          have : leF cc i (fI (leF cc) (-1) i) = fI (leF cc) (-1) i := by
            have := cr (fI (leF cc) (-1) i)
            exact if_neg (by omega)
          rw [this] at ih
          exact ih
    · refine yk_236_17 (by omega) ?_
      rw [x0]
      refine ⟨by omega, by omega, fun _ => ⟨rfl, ?_⟩, fun c2 => by omega⟩
      refine Inv_fk hI0 (Fk_xs (Fk_xs (Fk_xs (Fk_xs (Fk_xs (Fk_wr (Fk_xs ?_ rfl) (fun _ => rfl)) rfl) rfl) rfl) rfl) rfl) Ek_refl ?_
      · rw [hdx]
        exact Fk_xs (Fk_xs (Fk_xs (Fk_xs (Fk_xs Fk_refl rfl) rfl) rfl) rfl) rfl
      · have q4 : ∀ (p : Nat) (j : Int), ¬ p = 146 → ¬ p = 151 → ¬ p = 161 → ∀ u v w x y : Int, xs (xs (xs (xs (xs (xwr (xs dx 146 8 0) 161 (d 6 4) cc) 146 7 u) 151 0 v) 146 7 w) 151 (0 + 1) x) 146 7 y p j = dx p j := fun p j h1 h2 h3 u v w x y => by
          rw [xs_np h1, xs_np h2, xs_np h1, xs_np h2, xs_np h1, xwr_fn h3, xs_np h1]
        refine iW2 ?_ ?_ ?_ ?_
        · rw [q4 4 1 (by decide) (by decide) (by decide), hdx]; (try simp only [xs_fn, upI_app, Nat.reduceEqDiff, Int.reduceEq, eq_self, false_and, true_and, and_false, and_true, if_false, if_true, ↓reduceIte])
        · rw [xs_eq]; rfl
        · rw [q4 5 0 (by decide) (by decide) (by decide), hdx]; rfl
        · rw [q4 5 1 (by decide) (by decide) (by decide), hdx]; rfl
  have hl := lp_up (n := d 6 4) (X := fun i => yB (150 - 1) xm_c129 (yQi L (fun r1 d1 e1 => yC 150 236 L [.ref 146, .int (xJ a1)] d1 e1 (fun r2 d2 e2 => r1 = r2 ∧ Inv R b d2 e2))) L 17 [.ref 1, .int (xJ a1), .int (xJ (sI cc i)), .int (xJ (bI (fun p => decide (0 < cc p)) i)), .int (xJ (fI (leF cc) (-1) i)), .int (xJ (if fI (leF cc) (-1) i = -1 then 0 else cc (fI (leF cc) (-1) i))), .int (xJ i), .double 0, .double 0] [] d e) p1.1 ?_ ?_
  · exact hl
  · intro i i1 i2 ih
    refine yk_129_17 (by omega) ⟨by omega, by omega, fun c2 => by omega, fun _ => ?_⟩
    have hl := lp_up (n := min (d 11 5) 30) (X := fun j => yB (150 - 1) xm_c129 (yQi L (fun r1 d1 e1 => yC 150 236 L [.ref 146, .int (xJ a1)] d1 e1 (fun r2 d2 e2 => r1 = r2 ∧ Inv R b d2 e2))) L 26 [.ref 1, .int (xJ a1), .int (xJ (sI cc i)), .int (xJ (bI (fun p => decide (0 < cc p)) i)), .int (xJ (fI (leF cc) (-1) i)), .int (xJ (if fI (leF cc) (-1) i = -1 then 0 else cc (fI (leF cc) (-1) i))), .int (xJ i), .int (xJ (cI (fun j => decide (xp_ent (e 16 ((d 11 5 - (j + 1)) % 30).toNat) i = a1)) j)), .int (xJ (j + 1))] [] d e) (by omega) ?_ ?_
    · exact hl
    · intro j j1 j2 jh
      have hr : yR (xp_ent (e 16 ((d 11 5 - (j + 1)) % 30).toNat) i) := xJ_rng _
      refine yk_129_26 (by omega) ⟨by omega, by omega, by omega, fun c2 => by omega, fun _ => ⟨by omega, hr, r1, fun c2 => ?_, fun c2 => ?_⟩⟩
      · rw [cI_f j1 (by simp [c2]), Int.add_zero] at jh; exact jh
      · rw [cI_t j1 (by simp [c2])] at jh; exact jh
    · have ci := cr i
      have cf := cr (fI (leF cc) (-1) i)
      rw [fI_s _ _ i1, sI_s _ i1] at ih
      have hm : yR (if fI (leF cc) (-1) i = -1 then 0 else cc (fI (leF cc) (-1) i)) := by split <;> omega
      have fin : ∀ f m : Int, f = leF cc i (fI (leF cc) (-1) i) → m = (if f = -1 then 0 else cc f) → yB (150 - 1) xm_c129 (yQi L (fun r1 d1 e1 => yC 150 236 L [.ref 146, .int (xJ a1)] d1 e1 (fun r2 d2 e2 => r1 = r2 ∧ Inv R b d2 e2))) L 48 [.ref 1, .int (xJ a1), .int (xJ (sI cc i)), .int (xJ (bI (fun p => decide (0 < cc p)) i)), .int (xJ f), .int (xJ m), .int (xJ i), .int (xJ (cc i)), .double 0] [] d e := by
        intro f m hf hm2
        subst hf
        subst hm2
        refine yk_129_48 ⟨by omega, fun c2 => ?_, fun c2 => ?_⟩
        · rw [bI_f (by omega) (by simp; omega)]; exact ih
        · rw [bI_t (by omega) (by simp; omega)]; exact ih
      rw [hc]
      refine yk_129_26 (by omega) ⟨by omega, by omega, by omega, fun _ => ⟨by omega, hm, fun c3 => fin _ _ ?_ rfl, fun c3 => fin _ _ ?_ ?_⟩, fun c2 => by omega⟩
      · have c4 : (fI (leF cc) (-1) i = -1 → cc i ≤ 0) ∧ (¬ fI (leF cc) (-1) i = -1 → cc i ≤ cc (fI (leF cc) (-1) i)) := ⟨fun z => by rw [if_pos z] at c3; exact c3, fun z => by rw [if_neg z] at c3; exact c3⟩
        exact (show leF cc i (fI (leF cc) (-1) i) = _ from if_neg (by omega)).symm
      · have c4 : (fI (leF cc) (-1) i = -1 → ¬ cc i ≤ 0) ∧ (¬ fI (leF cc) (-1) i = -1 → ¬ cc i ≤ cc (fI (leF cc) (-1) i)) := ⟨fun z => by rw [if_pos z] at c3; exact c3, fun z => by rw [if_neg z] at c3; exact c3⟩
        exact (show leF cc i (fI (leF cc) (-1) i) = _ from if_pos (by omega)).symm
      · rw [if_neg (by omega)]
  · exact yk_129_17 (by omega) ⟨by omega, by omega, fun _ => mm _ rfl, fun c2 => by omega⟩
/-- what is most liked, by sets of hoods -/
def lkV (T lk h : Int → Int) (n s : Int) : Int := fI (fun p x => if xi_and (xi_shr s p) 1 = 0 then x else max x (T (xi_xor s (xi_shl 1 p)) + lk ((xp_bc s - 1) * 9 + h p))) 0 n
def lkT (lk h : Int → Int) (n s : Int) : Int → Int := fI (fun s T => if s = 0 then T else upI T s (lkV T lk h n s)) (fun _ => 0) s
def lkG (lk h : Int → Int) (n s : Int) : Int := lkT lk h n (s + 1) s
theorem bk_x {s p : Int} (hs : 0 ≤ s ∧ s < 512) (hp : 0 ≤ p ∧ p < 9) : (xi_and (xi_shr s p) 1 = 0 ∨ xi_and (xi_shr s p) 1 = 1) ∧ (¬ xi_and (xi_shr s p) 1 = 0 → 0 ≤ xi_xor s (xi_shl 1 p) ∧ xi_xor s (xi_shl 1 p) < s ∧ xi_and s (xi_xor (xi_shl 1 p) (-1)) = xi_xor s (xi_shl 1 p)) := by
  have key : ∀ s : Nat, s < 512 → ∀ p : Nat, p < 9 → (xi_and (xi_shr s p) 1 = 0 ∨ xi_and (xi_shr s p) 1 = 1) ∧ (¬ xi_and (xi_shr s p) 1 = 0 → 0 ≤ xi_xor s (xi_shl 1 p) ∧ xi_xor s (xi_shl 1 p) < s ∧ xi_and s (xi_xor (xi_shl 1 p) (-1)) = xi_xor s (xi_shl 1 p)) := by decide +kernel
  have := key s.toNat (by omega) p.toNat (by omega)
  rw [show ((s.toNat : Nat) : Int) = s by omega, show ((p.toNat : Nat) : Int) = p by omega] at this
  exact this
theorem bk_c {s n : Int} (hn : 0 ≤ n ∧ n ≤ 9) (hs : 0 < s ∧ s < xi_shl 1 n) : (1 ≤ xp_bc s ∧ xp_bc s ≤ n) ∧ ∃ p, 0 ≤ p ∧ p < n ∧ ¬ xi_and (xi_shr s p) 1 = 0 := by
  have key : ∀ n : Nat, n < 10 → ∀ s : Nat, s < 2 ^ n → 0 < s → (1 ≤ xp_bc s ∧ xp_bc s ≤ n) ∧ ∃ p, p < n ∧ ¬ xi_and (xi_shr s p) 1 = 0 := by decide +kernel
  have h1 : xi_shl 1 n = ((2 ^ n.toNat : Nat) : Int) := by
    have := bt_shl (k := n.toNat) (by omega)
    rw [show ((n.toNat : Nat) : Int) = n by omega] at this
    exact this
  rw [h1] at hs
  obtain ⟨h2, p, h3, h4⟩ := key n.toNat (by omega) s.toNat (by omega) (by omega)
  rw [show ((s.toNat : Nat) : Int) = s by omega] at h2 h4
  exact ⟨by omega, p, by omega, by omega, h4⟩
theorem lkT_st {lk h : Int → Int} {n s x : Int} (h0 : 0 ≤ x) (hs : x < s) : lkT lk h n s x = lkG lk h n x := by
  have key : ∀ k : Nat, lkT lk h n (x + 1 + k) x = lkG lk h n x := by
    intro k
    induction k with
    | zero => simp [lkG]
    | succ k ih =>
      rw [← ih, show x + 1 + ((k + 1 : Nat) : Int) = x + 1 + k + 1 by omega]
      unfold lkT
      rw [fI_s _ _ (show 0 ≤ x + 1 + (k : Int) by omega), if_neg (by omega), upI_app, if_neg (by omega)]
  have := key (s - x - 1).toNat
  rwa [show x + 1 + (((s - x - 1).toNat : Nat) : Int) = s by omega] at this
theorem lkG_0 {lk h : Int → Int} {n : Int} : lkG lk h n 0 = 0 := rfl
theorem lkV_c {T T' lk h : Int → Int} {n s : Int} (hn : n ≤ 9) (hs : 0 ≤ s ∧ s < 512) (hT : ∀ x, 0 ≤ x → x < s → T x = T' x) : lkV T lk h n s = lkV T' lk h n s := by
  refine fI_congr (fun p x h1 h2 => ?_)
  by_cases q : xi_and (xi_shr s p) 1 = 0
  · rw [if_pos q, if_pos q]
  · have := (bk_x hs ⟨h1, by omega⟩).2 q
    rw [if_neg q, if_neg q, hT _ this.1 this.2.1]
theorem lkG_s {lk h : Int → Int} {n s : Int} (hn : n ≤ 9) (hs : 0 < s ∧ s < 512) : lkG lk h n s = lkV (lkG lk h n) lk h n s := by
  rw [← lkV_c (T := lkT lk h n s) hn (by omega) (fun x a c => lkT_st a c)]
  unfold lkG lkT
  rw [fI_s _ _ (by omega), if_neg (by omega), upI_app, if_pos rfl]
/-- partly gone through -/
def lkP (lk h : Int → Int) (n s i : Int) : Int := fI (fun p x => if xi_and (xi_shr s p) 1 = 0 then x else max x (lkG lk h n (xi_xor s (xi_shl 1 p)) + lk ((xp_bc s - 1) * 9 + h p))) 0 i
theorem lkP_s {lk h : Int → Int} {n s i : Int} (hi : 0 ≤ i) : lkP lk h n s (i + 1) = if xi_and (xi_shr s i) 1 = 0 then lkP lk h n s i else max (lkP lk h n s i) (lkG lk h n (xi_xor s (xi_shl 1 i)) + lk ((xp_bc s - 1) * 9 + h i)) := fI_s _ _ hi
theorem lkG_b {lk h : Int → Int} {n : Int} (hn : 0 ≤ n ∧ n ≤ 9) (hl : ∀ i, 0 ≤ i → i < 81 → 0 ≤ lk i ∧ lk i ≤ 9) (hh : ∀ p, 0 ≤ p → p < n → 0 ≤ h p ∧ h p < 9) : ∀ s, 0 ≤ s → s < xi_shl 1 n → (0 ≤ lkG lk h n s ∧ lkG lk h n s ≤ 9 * s) ∧ ∀ i, 0 ≤ i → i ≤ n → 0 ≤ lkP lk h n s i ∧ lkP lk h n s i ≤ 9 * s := by
  have hN : xi_shl 1 n - 1 = bI (fun _ => true) n := bI_all (by omega)
  have hNr := bI_r9 (fun _ => true) hn.2
  have key : ∀ k : Nat, ∀ s : Int, 0 ≤ s → s < k → s < xi_shl 1 n → (0 ≤ lkG lk h n s ∧ lkG lk h n s ≤ 9 * s) ∧ ∀ i, 0 ≤ i → i ≤ n → 0 ≤ lkP lk h n s i ∧ lkP lk h n s i ≤ 9 * s := by
    intro k
    induction k with
    | zero => intro s h1 h2; omega
    | succ k ih =>
      intro s h1 h2 h3
      have hi : ∀ i, 0 ≤ i → i ≤ n → 0 ≤ lkP lk h n s i ∧ lkP lk h n s i ≤ 9 * s := by
        intro i i1 i2
        unfold lkP
        refine fI_inv (n := i) (g := fun p x => if xi_and (xi_shr s p) 1 = 0 then x else max x (lkG lk h n (xi_xor s (xi_shl 1 p)) + lk ((xp_bc s - 1) * 9 + h p))) (a := 0) (I := fun _ x => 0 ≤ x ∧ x ≤ 9 * s) (by omega) ?_ i1
        intro p x p1 p2 hx
        split
        · exact hx
        · rename_i q
          have w := (bk_x (s := s) (p := p) (by omega) (by omega)).2 q
          have w2 := (ih _ w.1 (by omega) (by omega)).1
          have w3 := (bk_c hn (s := s) ⟨by omega, h3⟩).1
          have w4 := hh p p1 (by omega)
          have w5 := hl ((xp_bc s - 1) * 9 + h p) (by omega) (by omega)
          omega
      refine ⟨?_, hi⟩
      by_cases hz : s = 0
      · subst hz; rw [lkG_0]; omega
      · rw [lkG_s hn.2 (by omega)]
        exact hi n hn.1 (Int.le_refl _)
  intro s h1 h2
  exact key (s + 1).toNat s h1 (by omega) h2
theorem sq_29 (hD : 3 ≤ D) (hn : 0 ≤ d 6 4 ∧ d 6 4 ≤ 9) (hl : ∀ i, 0 ≤ i → i < 81 → 0 ≤ d 8 i ∧ d 8 i ≤ 9) (hh : ∀ p, 0 ≤ p → p < d 6 4 → 0 ≤ d 12 p ∧ d 12 p < 9) (h : ∀ d', Fk sx d d' → P (lkG (d 8) (d 12) (d 6 4) (xi_shl 1 (d 6 4) - 1)) d' e) : yC D 29 L [.ref 6, .ref 12] d e P := by
  have hN : xi_shl 1 (d 6 4) - 1 = bI (fun _ => true) (d 6 4) := bI_all (by omega)
  have hNr := bI_r9 (fun _ => true) hn.2
  have hb := lkG_b hn hl hh
  refine yC_of rfl rfl rfl (by omega) (yk_29_12_0 ?_)
  have w : ∀ s p, ¬ p = 10 → xwr d 10 s (lkG (d 8) (d 12) (d 6 4)) p = d p := fun s p q => xwr_fn q
  have hlp := lp_from (m := 1) (n := xi_shl 1 (d 6 4)) (X := fun s => yB (D - 1) xm_c29 (yQi L P) L 7 [.ref 6, .ref 12, .int (xJ s), .double 0, .double 0, .double 0] [] (xwr d 10 s (lkG (d 8) (d 12) (d 6 4))) e) (by omega) ?_ ?_
  · have : xwr d 10 1 (lkG (d 8) (d 12) (d 6 4)) = xs d 10 0 0 := by
      funext p i
      unfold xwr xs
      by_cases c : p = 10 ∧ i = 0
      · rw [if_pos (by omega), if_pos c, c.2]; rfl
      · rw [if_neg (by omega), if_neg c]
    rw [this] at hlp
    exact hlp
  · intro s s1 s2 ih
    have cb := (bk_c hn (s := s) ⟨by omega, s2⟩).1
    refine yk_29_12_7 (by omega) ?_
    rw [w s 6 (by decide)]
    refine ⟨by omega, by omega, fun c => by omega, fun _ => ?_⟩
    have hl2 := lp_up (n := d 6 4) (X := fun i => yB (D - 1) xm_c29 (yQi L P) L 20 [.ref 6, .ref 12, .int (xJ s), .int (xJ (xp_bc s - 1)), .int (xJ (lkP (d 8) (d 12) (d 6 4) s i)), .int (xJ i)] [] (xwr d 10 s (lkG (d 8) (d 12) (d 6 4))) e) hn.1 ?_ ?_
    · exact hl2
    · intro i i1 i2 jh
      have hb2 := (hb s (by omega) s2).2 i i1 (by omega)
      rw [lkP_s i1] at jh
      refine yk_29_12_20 (by omega) ?_
      rw [w s 6 (by decide), w s 8 (by decide), w s 12 (by decide)]
      refine ⟨by omega, by omega, fun c => by omega, fun _ => ⟨fun c => ?_, fun c => ?_⟩⟩
      · rw [if_pos c] at jh; exact jh
      · rw [if_neg c] at jh
        have k := (bk_x (s := s) (p := i) (by omega) (by omega)).2 c
        have h12 := hh i i1 i2
        have h8 := hl ((xp_bc s - 1) * 9 + d 12 i) (by omega) (by omega)
        have g := (hb _ k.1 (by omega)).1
        rw [xwr_at ⟨k.1, k.2.1⟩]
        exact ⟨by omega, by omega, by omega, by omega, by omega, fun v e1 => by rw [e1]; exact jh⟩
    · refine yk_29_12_20 (by omega) ?_
      rw [w s 6 (by decide)]
      refine ⟨by omega, by omega, fun _ => ⟨by omega, ?_⟩, fun c => by omega⟩
      rw [show lkP (d 8) (d 12) (d 6 4) s (d 6 4) = lkG (d 8) (d 12) (d 6 4) s from (lkG_s hn.2 (by omega)).symm, xwr_s (by omega)]
      exact ih
  · refine yk_29_12_7 (by omega) ?_
    rw [w _ 6 (by decide), xwr_at (by omega)]
    exact ⟨by omega, by omega, fun _ => ⟨by omega, h _ (Fk_wr Fk_refl (fun _ => rfl))⟩, fun c => by omega⟩
theorem op_liked (hI : Inv R b d e) : Op R b b L 156 274 [] d e := by
  have hI0 := hI
  obtain ⟨hP, hT, hW, hL, hS, hU, hK, hR, hQ, hV, hH, hG⟩ := hI
  have hn := hP.1
  have p2 := hP.2.1
  have hh := iS_h hS
  have hl : ∀ i, 0 ≤ i → i < 81 → 0 ≤ d 8 i ∧ d 8 i ≤ 9 := fun i a c => (hL i a c).2.1
  have hN : xi_shl 1 (d 6 4) - 1 = bI (fun _ => true) (d 6 4) := bI_all (by omega)
  have hNr := bI_r9 (fun _ => true) hn.2
  have hb := lkG_b hn hl hh
  have hm : ∀ p, 0 ≤ p → p < d 6 4 → d 147 p = d 12 p := fun p a c => (hS.1 p a c).2.2.2.1
  have hml : ∀ q x, 0 ≤ q → q < d 6 4 → 0 ≤ x → x < 9 → d 149 (9 * q + x) = d 8 (q * 9 + x) := fun q x a c a2 c2 => by
    have := (hL (q * 9 + x) (by omega) (by omega)).2.2.2.2.1 (by omega)
    rw [show 9 * q + x = q * 9 + x by omega]
    exact this
  refine yC_of rfl rfl rfl (by omega) (yk_156_0 ?_)
  have hlp := lp_up (n := d 6 4) (X := fun i => yB (150 - 1) xm_c156 (yQi L (fun r1 d1 e1 => yC 150 274 L [.ref 146] d1 e1 (fun r2 d2 e2 => r1 = r2 ∧ Inv R b d2 e2))) L 4 [.ref 1, .int (xJ (sI (fun p => d 8 (p * 9 + d 12 p)) i)), .int (xJ i)] [] d e) hn.1 ?_ ?_
  · exact hlp
  · intro i i1 i2 ih
    have := hh i i1 i2
    rw [sI_s _ i1] at ih
    exact yk_156_4 (by omega) ⟨by omega, by omega, fun c => by omega, fun _ => ⟨by omega, by omega, fun v e1 => by rw [e1]; exact ih⟩⟩
  refine yk_156_4 (by omega) ⟨by omega, by omega, fun _ => ?_, fun c => by omega⟩
  refine sq_29 (by omega) hn hl hh (fun d1 f1 => ?_)
  have d41 : d1 4 1 = 0 := by rw [f1 4 1 rfl]; (try simp only [xs_fn, upI_app, Nat.reduceEqDiff, Int.reduceEq, eq_self, false_and, true_and, and_false, and_true, if_false, if_true, ↓reduceIte])
  rw [d41]
  refine ⟨by omega, ?_⟩
  (try simp only [xs_fn, upI_app, Nat.reduceEqDiff, Int.reduceEq, eq_self, false_and, true_and, and_false, and_true, if_false, if_true, ↓reduceIte])
  generalize hg : lkG (d 8) (d 12) (d 6 4) (xi_shl 1 (d 6 4) - 1) = g
  have m146 : ∀ i, d1 146 i = d 146 i := fun i => by rw [f1 146 i rfl]; (try simp only [xs_fn, upI_app, Nat.reduceEqDiff, Int.reduceEq, eq_self, false_and, true_and, and_false, and_true, if_false, if_true, ↓reduceIte])
  have m147 : d1 147 = d 147 := by rw [Fk_p f1 (p := 147) (fun _ => rfl)]; (try simp only [xs_fn, upI_app, Nat.reduceEqDiff, Int.reduceEq, eq_self, false_and, true_and, and_false, and_true, if_false, if_true, ↓reduceIte])
  have m149 : d1 149 = d 149 := by rw [Fk_p f1 (p := 149) (fun _ => rfl)]; (try simp only [xs_fn, upI_app, Nat.reduceEqDiff, Int.reduceEq, eq_self, false_and, true_and, and_false, and_true, if_false, if_true, ↓reduceIte])
  have m172 : d1 172 0 = 0 := by rw [f1 172 0 rfl]; exact hG.1
  generalize hdx : xs (xs d1 5 0 g) 4 1 (0 + 1) = dx
  have x146 : ∀ i, dx 146 i = d 146 i := fun i => by rw [← hdx, xs_np (by decide), xs_np (by decide), m146]
  have x147 : dx 147 = d 147 := by rw [← hdx]; (try simp only [xs_fn, upI_app, Nat.reduceEqDiff, Int.reduceEq, eq_self, false_and, true_and, and_false, and_true, if_false, if_true, ↓reduceIte]); exact m147
  have x149 : dx 149 = d 149 := by rw [← hdx]; (try simp only [xs_fn, upI_app, Nat.reduceEqDiff, Int.reduceEq, eq_self, false_and, true_and, and_false, and_true, if_false, if_true, ↓reduceIte]); exact m149
  have x172 : dx 172 0 = 0 := by rw [← hdx, xs_np (by decide), xs_np (by decide), m172]
  refine yC_of rfl rfl rfl (by omega) (yk_274_0 ?_)
  have e1 : xs dx 146 8 0 146 1 = d 6 4 := by rw [xs_ni (by decide), x146, p2]
  have e2 : xs dx 146 8 0 147 = d 147 := by rw [xs_fn, if_neg (by decide), x147]
  have e3 : xs dx 146 8 0 149 = d 149 := by rw [xs_fn, if_neg (by decide), x149]
  have hlp := lp_up (n := d 6 4) (X := fun i => yB (150 - 1) xm_c274 (yQi L (fun r2 d2 e2 => sI (fun p => d 8 (p * 9 + d 12 p)) (d 6 4) = r2 ∧ Inv R b d2 e2)) L 7 [.ref 146, .int (xJ (sI (fun p => d 8 (p * 9 + d 12 p)) i)), .int (xJ i), .double 0, .double 0] [] (xs dx 146 8 0) e) hn.1 ?_ ?_
  · exact hlp
  · intro i i1 i2 ih
    have := hh i i1 i2
    rw [sI_s _ i1] at ih
    refine yk_274_7 ?_
    rw [e1, e2, e3, hm i i1 i2, hml i _ i1 i2 this.1 this.2]
    exact ⟨by omega, by omega, fun c => by omega, fun _ => ⟨by omega, by omega, fun v e1 => by rw [e1]; exact ih⟩⟩
  refine yk_274_7 ?_
  rw [e1]
  refine ⟨by omega, by omega, fun _ => ?_, fun c => by omega⟩
  have w : ∀ s p, ¬ p = 172 → xwr (xs dx 146 8 0) 172 s (lkG (d 8) (d 12) (d 6 4)) p = xs dx 146 8 0 p := fun s p q => xwr_fn q
  have hlp := lp_from (m := 1) (n := xi_shl 1 (d 6 4)) (X := fun s => yB (150 - 1) xm_c274 (yQi L (fun r2 d2 e2 => sI (fun p => d 8 (p * 9 + d 12 p)) (d 6 4) = r2 ∧ Inv R b d2 e2)) L 29 [.ref 146, .int (xJ (sI (fun p => d 8 (p * 9 + d 12 p)) (d 6 4))), .int (xJ s), .double 0, .double 0] [] (xwr (xs dx 146 8 0) 172 s (lkG (d 8) (d 12) (d 6 4))) e) (by omega) ?_ ?_
  · have : xwr (xs dx 146 8 0) 172 1 (lkG (d 8) (d 12) (d 6 4)) = xs dx 146 8 0 := by
      funext p i
      unfold xwr
      by_cases c : p = 172 ∧ i = 0
      · rw [if_pos (by omega), c.1, c.2, xs_np (by decide), x172]; rfl
      · rw [if_neg (by omega)]
    rw [this] at hlp
    exact hlp
  · intro s s1 s2 ih
    have cb := bk_c hn (s := s) ⟨by omega, s2⟩
    refine yk_274_29 (by omega) ?_
    rw [w s 146 (by decide), e1]
    refine ⟨by omega, fun c => by omega, fun _ => ⟨by omega, ?_⟩⟩
    have y1 : ∀ v, xs (xwr (xs dx 146 8 0) 172 s (lkG (d 8) (d 12) (d 6 4))) 172 s v 146 1 = d 6 4 := fun v => by rw [xs_np (by decide), w s 146 (by decide), e1]
    have y2 : ∀ v, xs (xwr (xs dx 146 8 0) 172 s (lkG (d 8) (d 12) (d 6 4))) 172 s v 147 = d 147 := fun v => by rw [xs_fn, if_neg (by decide), w s 147 (by decide), e2]
    have y3 : ∀ v, xs (xwr (xs dx 146 8 0) 172 s (lkG (d 8) (d 12) (d 6 4))) 172 s v 149 = d 149 := fun v => by rw [xs_fn, if_neg (by decide), w s 149 (by decide), e3]
    have hl2 := lp_up (n := d 6 4) (X := fun i => ∀ v, (v = lkP (d 8) (d 12) (d 6 4) s i ∨ (v = -1 ∧ lkP (d 8) (d 12) (d 6 4) s i = 0 ∧ ∀ p, 0 ≤ p → p < i → xi_and (xi_shr s p) 1 = 0)) → yB (150 - 1) xm_c274 (yQi L (fun r2 d2 e2 => sI (fun p => d 8 (p * 9 + d 12 p)) (d 6 4) = r2 ∧ Inv R b d2 e2)) L 47 [.ref 146, .int (xJ (sI (fun p => d 8 (p * 9 + d 12 p)) (d 6 4))), .int (xJ s), .int (xJ (xp_bc s - 1)), .int (xJ i)] [] (xs (xwr (xs dx 146 8 0) 172 s (lkG (d 8) (d 12) (d 6 4))) 172 s v) e) hn.1 ?_ ?_
    · exact hl2 (-1) (Or.inr ⟨rfl, rfl, fun p a c => by omega⟩)
    · intro i i1 i2 jh v hv
      have hb2 := (hb s (by omega) s2).2 i i1 (by omega)
      have h12 := hh i i1 i2
      have h8 := hl ((xp_bc s - 1) * 9 + d 12 i) (by omega) (by omega)
      have k0 := bk_x (s := s) (p := i) (by omega) (by omega)
      refine yk_274_47 (by omega) ?_
      rw [y1, y2, y3, hm i i1 i2, hml _ _ (by omega) (by omega) h12.1 h12.2, xs_eq]
      refine ⟨by omega, by omega, fun c => by omega, fun _ => ⟨fun c => ?_, fun c => ?_⟩⟩
      · have k := k0.2 (by omega)
        have g := (hb _ k.1 (by omega)).1
        rw [k.2.2, xs_ni (by omega), xwr_at ⟨k.1, k.2.1⟩, xs_xs]
        refine ⟨by omega, by omega, by omega, by omega, by omega, by omega, jh _ (Or.inl ?_)⟩
        rw [lkP_s i1, if_neg (by omega)]
        omega
      · refine jh v ?_
        rw [lkP_s i1, if_pos (by omega)]
        rcases hv with q | q
        · exact Or.inl q
        · exact Or.inr ⟨q.1, q.2.1, all_s (p := fun p => xi_and (xi_shr s p) 1 = 0) q.2.2 (by omega)⟩
    · intro v hv
      have hv2 : v = lkG (d 8) (d 12) (d 6 4) s := by
        rw [lkG_s hn.2 (by omega)]
        rcases hv with q | q
        · exact q
        · obtain ⟨p, q1, q2, q3⟩ := cb.2
          exact absurd (q.2.2 p q1 q2) q3
      refine yk_274_47 (by omega) ?_
      rw [y1, hv2, xwr_s (by omega)]
      exact ⟨by omega, by omega, fun _ => ih, fun c => by omega⟩
  · refine yk_274_29 (by omega) ?_
    rw [w _ 146 (by decide), e1, xwr_at (by omega), hg]
    refine ⟨by omega, fun _ => ⟨by omega, rfl, ?_⟩, fun c => by omega⟩
    have fx : Fk sr d dx := by
      rw [← hdx]
      exact Fk_xs (Fk_xs (Fk_trans (Fk_xs Fk_refl rfl) (Fk_x f1)) rfl) rfl
    refine Inv_fk hI0 (Fk_xs (Fk_xs (Fk_xs ?_ rfl) rfl) rfl) Ek_refl ?_
    · intro p i q
      by_cases c : p = 172
      · subst c
        by_cases c2 : i = 0
        · subst c2
          rw [xwr_at (by omega), lkG_0]
          exact hG.1.symm
        · exfalso
          have : sr 172 i = true := by simp [sr, sm, kz, c2]
          rw [this] at q
          exact absurd q (by decide)
      · rw [w _ p c, xs_app]
        split
        · rename_i c3
          rw [c3.1, c3.2] at q
          exact absurd q (by decide)
        · exact fx p i q
    · refine iW1 ?_ ?_ ?_
      · (try simp only [xs_fn, upI_app, Nat.reduceEqDiff, Int.reduceEq, eq_self, false_and, true_and, and_false, and_true, if_false, if_true, ↓reduceIte]); rw [w _ 4 (by decide), ← hdx]; (try simp only [xs_fn, upI_app, Nat.reduceEqDiff, Int.reduceEq, eq_self, false_and, true_and, and_false, and_true, if_false, if_true, ↓reduceIte]); rfl
      · (try simp only [xs_fn, upI_app, Nat.reduceEqDiff, Int.reduceEq, eq_self, false_and, true_and, and_false, and_true, if_false, if_true, ↓reduceIte]); rfl
      · (try simp only [xs_fn, upI_app, Nat.reduceEqDiff, Int.reduceEq, eq_self, false_and, true_and, and_false, and_true, if_false, if_true, ↓reduceIte]); rw [w _ 5 (by decide), ← hdx]; (try simp only [xs_fn, upI_app, Nat.reduceEqDiff, Int.reduceEq, eq_self, false_and, true_and, and_false, and_true, if_false, if_true, ↓reduceIte])
end OPA
