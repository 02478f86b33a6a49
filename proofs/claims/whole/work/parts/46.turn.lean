/-! RINGS turned; the calls. -/
def trS (rg : Int → Int) : Int → (Int → Int) → (Int → Int) := fun i x => upI x (rg i) (x (rg (i + 1)))
def trn (rg : Int → Int) (len : Int) (h : Int → Int) : Int → Int := upI (fI (trS rg) h (len - 1)) (rg (len - 1)) (h (rg 0))
/-- a place becomes another row -/
def xpl (d : xh_D) (a : Nat) (f : Int → Int) : xh_D := fun p => if p = a then f else d p
theorem xpl_at {d : xh_D} {a : Nat} {f : Int → Int} : xpl d a f a = f := if_pos rfl
theorem xpl_np {d : xh_D} {a p : Nat} {f : Int → Int} (h : ¬ p = a) : xpl d a f p = d p := if_neg h
theorem xpl_id {d : xh_D} {a : Nat} : xpl d a (d a) = d := by
  funext p
  unfold xpl
  split
  · rename_i h; rw [h]
  · rfl
theorem xpl_s {d : xh_D} {a : Nat} {f : Int → Int} {j v : Int} : xs (xpl d a f) a j v = xpl d a (upI f j v) := by
  funext p i
  unfold xs xpl upI
  by_cases h : p = a
  · simp [h]
  · simp [h]
theorem Fk_pl {s : Nat → Int → Bool} {d d' : xh_D} {a : Nat} {f : Int → Int} (h : Fk s d d') (ha : ∀ j, s a j = true) : Fk s d (xpl d' a f) := fun p i c => by
  by_cases q : p = a
  · rw [q, ha] at c
    exact absurd c (by decide)
  · rw [xpl_np q]
    exact h p i c
theorem trn_all {rg h : Int → Int} {len n : Int} {Q : Int → Prop} (hl : 2 ≤ len) (hr : ∀ j, 0 ≤ j → j < len → 0 ≤ rg j ∧ rg j < n) (hh : ∀ p, 0 ≤ p → p < n → Q (h p)) : ∀ p, 0 ≤ p → p < n → Q (trn rg len h p) := by
  have key : ∀ p, 0 ≤ p → p < n → Q (fI (trS rg) h (len - 1) p) := by
    refine fI_inv (g := trS rg) (a := h) (I := fun _ x => ∀ p, 0 ≤ p → p < n → Q (x p)) hh ?_ (by omega)
    intro i x i1 i2 hx p a c
    unfold trS
    rw [upI_app]
    split
    · have := hr (i + 1) (by omega) (by omega)
      exact hx _ this.1 this.2
    · exact hx p a c
  intro p a c
  unfold trn
  rw [upI_app]
  split
  · have := hr 0 (by omega) (by omega)
    exact hh _ this.1 this.2
  · exact key p a c
theorem trn_congr {rg h h' : Int → Int} {len n : Int} (hl : 2 ≤ len) (hr : ∀ j, 0 ≤ j → j < len → 0 ≤ rg j ∧ rg j < n) (hh : ∀ p, 0 ≤ p → p < n → h' p = h p) : ∀ p, 0 ≤ p → p < n → trn rg len h' p = trn rg len h p := by
  have key : ∀ k : Nat, (k : Int) ≤ len - 1 → ∀ p, 0 ≤ p → p < n → fI (trS rg) h' k p = fI (trS rg) h k p := by
    intro k
    induction k with
    | zero => intro _; exact hh
    | succ k ih =>
      intro hk p a c
      rw [show ((k + 1 : Nat) : Int) = (k : Int) + 1 from rfl, fI_s _ _ (by omega), fI_s _ _ (by omega)]
      unfold trS
      rw [upI_app, upI_app]
      have := hr (k + 1) (by omega) (by omega)
      split
      · exact ih (by omega) _ this.1 this.2
      · exact ih (by omega) p a c
  intro p a c
  have := key (len - 1).toNat (by omega) p a c
  rw [show (((len - 1).toNat : Nat) : Int) = len - 1 by omega] at this
  have r0 := hr 0 (by omega) (by omega)
  unfold trn
  rw [upI_app, upI_app, this, hh _ r0.1 r0.2]
theorem trn_ok {rg h : Int → Int} {len : Int} (hl : 2 ≤ len) (hd : ∀ j k, 0 ≤ k → k < j → j < len → ¬ rg k = rg j) : (∀ j, 0 ≤ j → j + 1 < len → trn rg len h (rg j) = h (rg (j + 1))) ∧ trn rg len h (rg (len - 1)) = h (rg 0) ∧ ∀ p, (∀ j, 0 ≤ j → j < len → ¬ p = rg j) → trn rg len h p = h p := by
  have key : ∀ k : Nat, (k : Int) ≤ len - 1 → (∀ j : Int, 0 ≤ j → j < k → fI (trS rg) h k (rg j) = h (rg (j + 1))) ∧ ∀ p, (∀ j : Int, 0 ≤ j → j < k → ¬ p = rg j) → fI (trS rg) h k p = h p := by
    intro k
    induction k with
    | zero => intro _; exact ⟨fun j a c => by omega, fun p _ => rfl⟩
    | succ k ih =>
      intro hk
      obtain ⟨i1, i2⟩ := ih (by omega)
      rw [show ((k + 1 : Nat) : Int) = (k : Int) + 1 from rfl, fI_s _ _ (by omega)]
      unfold trS
      refine ⟨fun j a c => ?_, fun p hp => ?_⟩
      · rw [upI_app]
        by_cases z : j = k
        · subst z
          rw [if_pos rfl]
          exact i2 _ (fun j a c q => hd _ _ a (by omega) (by omega) q.symm)
        · rw [if_neg (hd _ _ a (by omega) (by omega))]
          exact i1 j a (by omega)
      · rw [upI_app, if_neg (hp k (by omega) (by omega))]
        exact i2 p (fun j a c => hp j a (by omega))
  obtain ⟨i1, i2⟩ := key (len - 1).toNat (by omega)
  rw [show (((len - 1).toNat : Nat) : Int) = len - 1 by omega] at i1 i2
  refine ⟨fun j a c => ?_, ?_, fun p hp => ?_⟩
  · unfold trn
    rw [upI_app, if_neg (hd _ _ a (by omega) (by omega))]
    exact i1 j a (by omega)
  · unfold trn
    rw [upI_app, if_pos rfl]
  · unfold trn
    rw [upI_app, if_neg (hp _ (by omega) (by omega))]
    exact i2 p (fun j a c => hp j a (by omega))
theorem sI_lt {f g : Int → Int} {n j : Int} (hj : 0 ≤ j ∧ j < n) (h : ∀ i, 0 ≤ i → i < n → f i ≤ g i) (hs : f j < g j) : sI f n < sI g n := by
  have key : ∀ k : Nat, (k : Int) ≤ n → sI f k ≤ sI g k ∧ (j < k → sI f k < sI g k) := by
    intro k
    induction k with
    | zero => intro _; exact ⟨Int.le_refl _, fun c => by omega⟩
    | succ k ih =>
      intro hk
      rw [show ((k + 1 : Nat) : Int) = (k : Int) + 1 from rfl, sI_s _ (by omega), sI_s _ (by omega)]
      have h1 := ih (by omega)
      have h2 := h k (by omega) (by omega)
      refine ⟨by omega, fun c => ?_⟩
      by_cases z : j = k
      · subst z; omega
      · have := h1.2 (by omega)
        omega
  have := key n.toNat (by omega)
  rw [show ((n.toNat : Nat) : Int) = n by omega] at this
  exact this.2 hj.2
def wF (lk h : Int → Int) : Int → Int → Bool := fun p q => decide (lk (p * 9 + h p) < lk (p * 9 + h q))
theorem trn_sum {lk h rg : Int → Int} {n len : Int} (h0 : rgF (wF lk h) n = some (len, rg)) : sI (fun p => lk (p * 9 + h p)) n < sI (fun p => lk (p * 9 + trn rg len h p)) n := by
  obtain ⟨o1, o2, o3, o4, o5⟩ := rgF_ok h0
  obtain ⟨t1, t2, t3⟩ := trn_ok (h := h) o1.1 o3
  have st : ∀ j, 0 ≤ j → j < len → lk (rg j * 9 + h (rg j)) < lk (rg j * 9 + trn rg len h (rg j)) := fun j a c => by
    by_cases z : j = len - 1
    · subst z
      rw [t2]
      exact of_decide_eq_true o5
    · rw [t1 j a (by omega)]
      have := o4 (j + 1) (by omega) (by omega)
      rw [show j + 1 - 1 = j by omega] at this
      exact of_decide_eq_true this
  refine sI_lt (j := rg 0) (o2 0 (by omega) (by omega)) (fun p a c => ?_) (st 0 (by omega) (by omega))
  by_cases z : ∃ j, (0 ≤ j ∧ j < len) ∧ p = rg j
  · obtain ⟨j, z1, z2⟩ := z
    rw [z2]
    have := st j z1.1 z1.2
    omega
  · rw [t3 p (fun j a c q => z ⟨j, ⟨a, c⟩, q⟩)]
    exact Int.le_refl _
theorem iSt_trn {b n : Int} {h s t l : Int → Int} {w : Int} {bk : Nat → Int64} {a rg : Int → Int} {len : Int} (hn : n ≤ 9) (q : iSt b n h s t l w bk a) (hl : 2 ≤ len) (hr : ∀ j, 0 ≤ j → j < len → 0 ≤ rg j ∧ rg j < n) : iSt b n (trn rg len h) s t l w bk (trn rg len a) := by
  have key : ∀ k : Nat, (k : Int) ≤ len - 1 → iSt b n (fI (trS rg) h k) s t l w bk (fI (trS rg) a k) := by
    intro k
    induction k with
    | zero => intro _; exact q
    | succ k ih =>
      intro hk
      rw [show ((k + 1 : Nat) : Int) = (k : Int) + 1 from rfl, fI_s _ _ (by omega), fI_s _ _ (by omega)]
      show iSt b n (upI (fI (trS rg) h k) (rg k) (fI (trS rg) h k (rg (k + 1)))) s t l w bk (upI (fI (trS rg) a k) (rg k) (fI (trS rg) a k (rg (k + 1))))
      have i1 := ih (by omega)
      have r1 := hr (k + 1) (by omega) (by omega)
      have v := i1.1 _ r1.1 r1.2
      rw [v.2.2.2.1]
      exact iSt_h hn i1 (hr k (by omega) (by omega)) v.1
  have i1 := key (len - 1).toNat (by omega)
  rw [show (((len - 1).toNat : Nat) : Int) = len - 1 by omega] at i1
  have r0 := hr 0 (by omega) (by omega)
  have v := q.1 _ r0.1 r0.2
  unfold trn
  rw [v.2.2.2.1]
  exact iSt_h hn i1 (hr (len - 1) (by omega) (by omega)) v.1
theorem Fk_9 {d d' : xh_D} (f : Fk s9 d d') : Fk sr d d' := Fk_mono f (fun p i q => by
  by_cases z : p = 9
  · subst z; exact absurd (show true = false from q) (by decide)
  · simp [s9, z])
theorem Fk_171 {d d' : xh_D} (f : Fk s171 d d') : Fk sr d d' := Fk_mono f (fun p i q => by
  by_cases z : p = 171
  · subst z; exact absurd (show true = false from q) (by decide)
  · by_cases z2 : p = 146 ∧ i = 51
    · rw [z2.1, z2.2] at q; exact absurd q (by decide)
    · have : (p == 146 && decide (i = 51)) = false := by
        by_cases z3 : p = 146
        · simp [z3]; exact fun c => z2 ⟨z3, c⟩
        · simp [z3]
      simp only [s171, this]
      simp [z])
section TRN
variable {R : xR} {b : Int} {L D : Nat} {d : xh_D} {e : xd_E}
theorem sq_28_12 {len : Int} {rg : Int → Int} {P : xh_D → xd_E → Prop} (hD : 1 ≤ D) (hl : 2 ≤ len ∧ len ≤ 4) (hr : ∀ j, 0 ≤ j → j < len → d 9 j = rg j ∧ 0 ≤ rg j ∧ rg j < 9) (h : P (xpl d 12 (trn rg len (d 12))) e) : yV D 28 L [.ref 6, .ref 12, .int (xJ len)] d e P := by
  have r0 := hr 0 (by omega) (by omega)
  refine yV_of rfl rfl rfl (by omega) (yk_28_12_0 ?_)
  rw [r0.1]
  refine ⟨by omega, ?_⟩
  have hlp := lp_up (n := len - 1) (X := fun i => yB (D - 1) xm_c28 (yQv L P) L 9 [.ref 6, .ref 12, .int (xJ len), .int (xJ (d 12 (rg 0))), .int (xJ i)] [] (xpl d 12 (fI (trS rg) (d 12) i)) e) (by omega) ?_ ?_
  · rw [fI_0, xpl_id] at hlp; exact hlp
  · intro i i1 i2 ih
    have r1 := hr i i1 (by omega)
    have r2 := hr (i + 1) (by omega) (by omega)
    refine yk_28_12_9 ?_
    rw [xpl_np (p := 9) (by decide), r1.1, r2.1, xpl_at]
    simp only [xpl_s]
    rw [fI_s _ _ i1] at ih
    exact ⟨by omega, by omega, fun c => by omega, fun _ => ⟨by omega, by omega, by omega, by omega, ih⟩⟩
  · have r1 := hr (len - 1) (by omega) (by omega)
    refine yk_28_12_9 ?_
    rw [xpl_np (p := 9) (by decide), r1.1, xpl_s]
    exact ⟨by omega, by omega, fun _ => ⟨by omega, by omega, h⟩, fun c => by omega⟩
theorem sq_28_18 {len : Int} {rg : Int → Int} {P : xh_D → xd_E → Prop} (hD : 1 ≤ D) (hl : 2 ≤ len ∧ len ≤ 4) (hr : ∀ j, 0 ≤ j → j < len → d 9 j = rg j ∧ 0 ≤ rg j ∧ rg j < 9) (h : P (xpl d 18 (trn rg len (d 18))) e) : yV D 28 L [.ref 6, .ref 18, .int (xJ len)] d e P := by
  have r0 := hr 0 (by omega) (by omega)
  refine yV_of rfl rfl rfl (by omega) (yk_28_18_0 ?_)
  rw [r0.1]
  refine ⟨by omega, ?_⟩
  have hlp := lp_up (n := len - 1) (X := fun i => yB (D - 1) xm_c28 (yQv L P) L 9 [.ref 6, .ref 18, .int (xJ len), .int (xJ (d 18 (rg 0))), .int (xJ i)] [] (xpl d 18 (fI (trS rg) (d 18) i)) e) (by omega) ?_ ?_
  · rw [fI_0, xpl_id] at hlp; exact hlp
  · intro i i1 i2 ih
    have r1 := hr i i1 (by omega)
    have r2 := hr (i + 1) (by omega) (by omega)
    refine yk_28_18_9 ?_
    rw [xpl_np (p := 9) (by decide), r1.1, r2.1, xpl_at]
    simp only [xpl_s]
    rw [fI_s _ _ i1] at ih
    exact ⟨by omega, by omega, fun c => by omega, fun _ => ⟨by omega, by omega, by omega, by omega, ih⟩⟩
  · have r1 := hr (len - 1) (by omega) (by omega)
    refine yk_28_18_9 ?_
    rw [xpl_np (p := 9) (by decide), r1.1, xpl_s]
    exact ⟨by omega, by omega, fun _ => ⟨by omega, by omega, h⟩, fun c => by omega⟩
theorem sq_269_147 {len : Int} {rg : Int → Int} {P : xh_D → xd_E → Prop} (hD : 1 ≤ D) (hl : 2 ≤ len ∧ len ≤ 4) (h51 : d 146 51 = len) (hr : ∀ j, 0 ≤ j → j < len → d 171 j = rg j ∧ 0 ≤ rg j ∧ rg j < 9) (h : P (xpl d 147 (trn rg len (d 147))) e) : yV D 269 L [.ref 146, .ref 147] d e P := by
  have r0 := hr 0 (by omega) (by omega)
  refine yV_of rfl rfl rfl (by omega) (yk_269_147_0 ?_)
  rw [r0.1]
  refine ⟨by omega, ?_⟩
  have hlp := lp_up (n := len - 1) (X := fun i => yB (D - 1) xm_c269 (yQv L P) L 9 [.ref 146, .ref 147, .int (xJ (d 147 (rg 0))), .int (xJ i)] [] (xpl d 147 (fI (trS rg) (d 147) i)) e) (by omega) ?_ ?_
  · rw [fI_0, xpl_id] at hlp; exact hlp
  · intro i i1 i2 ih
    have r1 := hr i i1 (by omega)
    have r2 := hr (i + 1) (by omega) (by omega)
    refine yk_269_147_9 ?_
    rw [xpl_np (p := 171) (by decide), xpl_np (p := 146) (by decide), r1.1, r2.1, h51, xpl_at]
    simp only [xpl_s]
    rw [fI_s _ _ i1] at ih
    exact ⟨by omega, by omega, fun c => by omega, fun _ => ⟨by omega, by omega, by omega, by omega, ih⟩⟩
  · have r1 := hr (len - 1) (by omega) (by omega)
    refine yk_269_147_9 ?_
    rw [xpl_np (p := 171) (by decide), xpl_np (p := 146) (by decide), h51, r1.1, xpl_s]
    exact ⟨by omega, by omega, fun _ => ⟨by omega, by omega, h⟩, fun c => by omega⟩
theorem sq_269_162 {len : Int} {rg : Int → Int} {P : xh_D → xd_E → Prop} (hD : 1 ≤ D) (hl : 2 ≤ len ∧ len ≤ 4) (h51 : d 146 51 = len) (hr : ∀ j, 0 ≤ j → j < len → d 171 j = rg j ∧ 0 ≤ rg j ∧ rg j < 9) (h : P (xpl d 162 (trn rg len (d 162))) e) : yV D 269 L [.ref 146, .ref 162] d e P := by
  have r0 := hr 0 (by omega) (by omega)
  refine yV_of rfl rfl rfl (by omega) (yk_269_162_0 ?_)
  rw [r0.1]
  refine ⟨by omega, ?_⟩
  have hlp := lp_up (n := len - 1) (X := fun i => yB (D - 1) xm_c269 (yQv L P) L 9 [.ref 146, .ref 162, .int (xJ (d 162 (rg 0))), .int (xJ i)] [] (xpl d 162 (fI (trS rg) (d 162) i)) e) (by omega) ?_ ?_
  · rw [fI_0, xpl_id] at hlp; exact hlp
  · intro i i1 i2 ih
    have r1 := hr i i1 (by omega)
    have r2 := hr (i + 1) (by omega) (by omega)
    refine yk_269_162_9 ?_
    rw [xpl_np (p := 171) (by decide), xpl_np (p := 146) (by decide), r1.1, r2.1, h51, xpl_at]
    simp only [xpl_s]
    rw [fI_s _ _ i1] at ih
    exact ⟨by omega, by omega, fun c => by omega, fun _ => ⟨by omega, by omega, by omega, by omega, ih⟩⟩
  · have r1 := hr (len - 1) (by omega) (by omega)
    refine yk_269_162_9 ?_
    rw [xpl_np (p := 171) (by decide), xpl_np (p := 146) (by decide), h51, r1.1, xpl_s]
    exact ⟨by omega, by omega, fun _ => ⟨by omega, by omega, h⟩, fun c => by omega⟩
theorem xs_row {q p : Nat} {i k u v w : Int} {f : Int → Int} (hp : ¬ p = q) (hi : 0 ≤ i) (hf : f i = v) : xs (xs (xs (xwr d q i f) p k u) q i v) p k w = xs (xwr d q (i + 1) f) p k w := by
  rw [xs_sw (q := p) (q' := q) (fun c => hp c.1), xs_xs, ← hf, xwr_s hi]
theorem sq_154 {len : Int} {P : xh_D → xd_E → Prop} (hD : 2 ≤ D) (hl : 0 ≤ len ∧ len ≤ 4) (h : P (xs (xwr d 5 len (d 9)) 4 1 len) e) : yV D 154 L [.ref 1, .int (xJ len)] d e P := by
  refine yV_of rfl rfl rfl (by omega) (yk_154_0 (by omega) ?_)
  have hlp := lp_up (n := len) (X := fun i => yB (D - 1) xm_c154 (yQv L P) L 5 [.ref 1, .int (xJ len), .int (xJ i)] [] (xs (xwr d 5 i (d 9)) 4 1 i) e) hl.1 ?_ ?_
  · rw [xwr_0] at hlp; exact hlp
  · intro i i1 i2 ih
    refine yk_154_5 (by omega) ?_
    rw [xs_eq, show xs (xwr d 5 i (d 9)) 4 1 i 9 = d 9 by rw [xs_fn, if_neg (by decide), xwr_fn (by decide)], xs_row (by decide) i1 rfl]
    exact ⟨by omega, by omega, fun c => by omega, fun _ => ⟨by omega, by omega, ih⟩⟩
  · exact yk_154_5 (by omega) ⟨by omega, by omega, fun _ => h, fun c => by omega⟩
theorem sq_270 {w : Int → Int → Bool} {n : Int} {P : Int → xh_D → xd_E → Prop} (hD : 8 ≤ D) (hx : rgM 147 w n d) (hs : ∀ len rg d', rgF w n = some (len, rg) → Fk s171 d d' → d' 146 51 = len → (∀ j, 0 ≤ j → j < len → d' 171 j = rg j) → P len (xs (xwr d' 151 len (d' 171)) 146 7 len) e) (hn : ∀ d', rgF w n = none → Fk s171 d d' → P (-2) d' e) : yC D 270 L [.ref 146] d e P := by
  refine yC_of rfl rfl rfl (by omega) (yk_270_0 ?_)
  refine sq_268_147 (by omega) hx (fun len rg d1 g f h51 hr => ?_) hn
  have ok := (rgF_ok g).1
  have hlp := lp_up (n := len) (X := fun i => yB (D - 1) xm_c270 (yQi L P) L 12 [.ref 146, .int (xJ i)] [] (xs (xwr d1 151 i (d1 171)) 146 7 i) e) (by omega) ?_ ?_
  · rw [xwr_0] at hlp; exact hlp
  · intro i i1 i2 ih
    refine yk_270_12 (by omega) ?_
    rw [xs_eq, xs_ni (i := 51) (by decide), xwr_fn (p := 146) (by decide), h51, show xs (xwr d1 151 i (d1 171)) 146 7 i 171 = d1 171 by rw [xs_fn, if_neg (by decide), xwr_fn (by decide)], xs_row (by decide) i1 rfl]
    exact ⟨by omega, by omega, fun c => by omega, fun _ => ⟨by omega, by omega, ih⟩⟩
  · refine yk_270_12 (by omega) ?_
    rw [xs_ni (i := 51) (by decide), xwr_fn (p := 146) (by decide), h51]
    exact ⟨by omega, by omega, fun _ => hs len rg d1 g f h51 hr, fun c => by omega⟩
theorem rgM_c {a : Nat} {w : Int → Int → Bool} {n : Int} {d' : xh_D} (h : rgM a w n d) (e1 : d' 146 1 = d 146 1) (e2 : d' 149 = d 149) (e3 : d' a = d a) : rgM a w n d' := by
  unfold rgM at h ⊢
  rw [e1, e2, e3]
  exact h
theorem rgX_i (hP : iP d) (hL : iL d) (hS : iS b d e) : rgX 12 (wF (d 8) (d 12)) (d 6 4) d := ⟨rfl, hP.1, iS_h hS, fun i a c => (hL i a c).2.1, fun p q _ _ _ _ => by unfold wF; exact decide_eq_true_iff⟩
theorem rgM_i (hP : iP d) (hL : iL d) (hS : iS b d e) : rgM 147 (wF (d 8) (d 12)) (d 6 4) d := by
  have p1 := hP.1
  have hm : ∀ p x, 0 ≤ p → p < d 6 4 → 0 ≤ x → x < 9 → d 149 (9 * p + x) = d 8 (p * 9 + x) := fun q x a c a2 c2 => by
    have := (hL (q * 9 + x) (by omega) (by omega)).2.2.2.2.1 (by omega)
    rw [show 9 * q + x = q * 9 + x by omega]
    exact this
  have hh := iS_h hS
  have he : ∀ p, 0 ≤ p → p < d 6 4 → d 147 p = d 12 p := fun p a c => (hS.1 p a c).2.2.2.1
  refine ⟨hP.2.1, hP.1, fun p a c => by rw [he p a c]; exact hh p a c, fun p x a c a2 c2 => by rw [hm p x a c a2 c2]; exact (hL _ (by omega) (by omega)).2.1, fun p q a c a2 c2 => ?_⟩
  have h1 := hh p a c
  have h2 := hh q a2 c2
  unfold wF
  rw [decide_eq_true_iff, he p a c, he q a2 c2, hm p _ a c h1.1 h1.2, hm p _ a c h2.1 h2.2]
theorem op_ring (hI : Inv R b d e) : Op R b b L 152 271 [] d e := by
  have hI0 := hI
  obtain ⟨hP, hT, hW, hL, hS, hU, hK, hR, hQ, hV, hH, hG⟩ := hI
  have hM := rgM_i hP hL hS
  refine yC_of rfl rfl rfl (by omega) (yk_152_0 ?_)
  refine sq_24_12 (by omega) (rgX_i hP hL hS) (fun len rg d1 g f hr => ?_) (fun d1 g f => ?_)
  · have ok := rgF_ok g
    refine ⟨by omega, fun _ => sq_154 (by omega) (by omega) ?_, fun c => by omega⟩
    refine yC_of rfl rfl rfl (by omega) (yk_271_0 ?_)
    have y : ∀ p, ¬ p = 4 → ¬ p = 5 → ¬ p = 9 → ¬ p = 146 → xs (xs (xwr d1 5 len (d1 9)) 4 1 len) 146 8 0 p = d p := fun p h1 h2 h3 h4 => by
      rw [xs_fn, if_neg h4, xs_fn, if_neg h1, xwr_fn h2, Fk_p f (fun _ => by simp [s9, h3])]
    have ym : ∀ i, ¬ i = 8 → xs (xs (xwr d1 5 len (d1 9)) 4 1 len) 146 8 0 146 i = d 146 i := fun i h1 => by
      rw [xs_ni h1, xs_np (by decide), xwr_fn (by decide), f 146 i rfl]
    refine sq_270 (by omega) (rgM_c hM (ym 1 (by decide)) (y 149 (by decide) (by decide) (by decide) (by decide)) (y 147 (by decide) (by decide) (by decide) (by decide))) (fun len' rg' d2 g' f2 h51 hr2 => ?_) (fun d2 g' _ => absurd (g.symm.trans g') (by simp))
    have h3 : (len, rg) = (len', rg') := Option.some.inj (g.symm.trans g')
    have e1 : len = len' := congrArg Prod.fst h3
    have e2 : rg = rg' := congrArg Prod.snd h3
    subst e1
    subst e2
    have z5 : xs (xwr d2 151 len (d2 171)) 146 7 len 5 = xwr d1 5 len (d1 9) 5 := by
      rw [xs_fn, if_neg (by decide), xwr_fn (by decide), Fk_p f2 (p := 5) (fun _ => rfl), xs_fn, if_neg (by decide), xs_fn, if_neg (by decide)]
    have z4 : xs (xwr d2 151 len (d2 171)) 146 7 len 4 1 = len := by
      rw [xs_np (by decide), xwr_fn (by decide), f2 4 1 rfl, xs_np (by decide), xs_eq]
    refine ⟨rfl, Inv_fk hI0 ?_ Ek_refl ⟨by omega, by rw [xs_eq, z4], fun j a c => ?_⟩⟩
    · have fa : Fk sr d (xs (xs (xwr d1 5 len (d1 9)) 4 1 len) 146 8 0) := Fk_xs (Fk_xs (Fk_wr (Fk_9 f) (fun _ => rfl)) rfl) rfl
      exact Fk_xs (Fk_wr (Fk_trans fa (Fk_171 f2)) (fun _ => rfl)) rfl
    · rw [z4] at c
      rw [z5, xs_np (by decide), xwr_at ⟨a, c⟩, xwr_at ⟨a, c⟩, hr2 j a c, hr j a c]
  · refine ⟨by omega, fun c => absurd rfl c, fun _ => ?_⟩
    refine yC_of rfl rfl rfl (by omega) (yk_271_0 ?_)
    have y : ∀ p, ¬ p = 9 → ¬ p = 146 → xs d1 146 8 0 p = d p := fun p h3 h4 => by
      rw [xs_fn, if_neg h4, Fk_p f (fun _ => by simp [s9, h3])]
    have ym : ∀ i, ¬ i = 8 → xs d1 146 8 0 146 i = d 146 i := fun i h1 => by
      rw [xs_ni h1, f 146 i rfl]
    refine sq_270 (by omega) (rgM_c hM (ym 1 (by decide)) (y 149 (by decide) (by decide)) (y 147 (by decide) (by decide))) (fun len' rg' d2 g' f2 h51 hr2 => absurd (g.symm.trans g') (by simp)) (fun d2 g' f2 => ⟨rfl, ?_⟩)
    have fa : Fk sr d (xs d1 146 8 0) := Fk_xs (Fk_9 f) rfl
    refine Inv_fk hI0 (Fk_trans fa (Fk_171 f2)) Ek_refl ?_
    refine iW_fk hW ?_ ?_ ?_ ?_
    · rw [f2 4 1 rfl, y 4 (by decide) (by decide)]
    · rw [f2 146 7 rfl, ym 7 (by decide)]
    · rw [Fk_p f2 (p := 5) (fun _ => rfl), y 5 (by decide) (by decide)]
    · rw [Fk_p f2 (p := 151) (fun _ => rfl), y 151 (by decide) (by decide)]
theorem op_turn (hI : Inv R b d e) : Op R b b L 153 272 [] d e := by
  have hI0 := hI
  obtain ⟨hP, hT, hW, hL, hS, hU, hK, hR, hQ, hV, hH, hG⟩ := hI
  have p1 := hP.1
  have hM := rgM_i hP hL hS
  refine yC_of rfl rfl rfl (by omega) (yk_153_0 ?_)
  refine sq_24_12 (by omega) (rgX_i hP hL hS) (fun len rg d1 g f hr => ?_) (fun d1 g f => ?_)
  · have ok := rgF_ok g
    refine ⟨by omega, fun _ => sq_154 (by omega) (by omega) ?_, fun c => by omega⟩
    generalize hd2 : xs (xwr d1 5 len (d1 9)) 4 1 len = d2
    have y2 : ∀ p, ¬ p = 4 → ¬ p = 5 → ¬ p = 9 → d2 p = d p := fun p h1 h2 h3 => by
      rw [← hd2, xs_fn, if_neg h1, xwr_fn h2, Fk_p f (fun _ => by simp [s9, h3])]
    have f2 : Fk sr d d2 := by rw [← hd2]; exact Fk_xs (Fk_wr (Fk_9 f) (fun _ => rfl)) rfl
    have y29 : d2 9 = d1 9 := by rw [← hd2, xs_fn, if_neg (by decide), xwr_fn (by decide)]
    have y25 : ∀ j, 0 ≤ j → j < len → d2 5 j = rg j := fun j a c => by rw [← hd2, xs_np (by decide), xwr_at ⟨a, c⟩, hr j a c]
    have y24 : d2 4 1 = len := by rw [← hd2, xs_eq]
    have hU2 : iU b d2 e := iU_c hU (Fk_Fz f2) (by rw [y2 23 (by decide) (by decide) (by decide)]) (by rw [y2 23 (by decide) (by decide) (by decide)]) (by rw [y2 146 (by decide) (by decide) (by decide)]) (by rw [y2 6 (by decide) (by decide) (by decide)]) (y2 158 (by decide) (by decide) (by decide))
    have hS2 : iS b d2 e := by
      unfold iS at hS ⊢
      rw [y2 6 (by decide) (by decide) (by decide), y2 12 (by decide) (by decide) (by decide), y2 13 (by decide) (by decide) (by decide), y2 14 (by decide) (by decide) (by decide), y2 15 (by decide) (by decide) (by decide), y2 11 (by decide) (by decide) (by decide), y2 147 (by decide) (by decide) (by decide)]
      exact hS
    have p26 : d2 6 4 = d 6 4 := by rw [y2 6 (by decide) (by decide) (by decide)]
    refine sc_17 (by omega) hU2.2.1 hU2.1 (fun d3 e3 x => ?_)
    obtain ⟨z, ze⟩ := RmX_z x hU2.2.1
    refine sq_28_12 (rg := rg) (by omega) ok.1 (fun j a c => ⟨by rw [z 9 (by decide) (by decide), y29, hr j a c], by have := ok.2.1 j a c; omega⟩) ?_
    rw [z 12 (by decide) (by decide), y2 12 (by decide) (by decide) (by decide)]
    generalize hd4 : xpl d3 12 (trn rg len (d 12)) = d4
    have y4 : ∀ p, ¬ p = 12 → d4 p = d3 p := fun p h1 => by rw [← hd4, xpl_np h1]
    have y4d : ∀ p, ¬ p = 12 → ¬ p = 23 → ¬ p = 4 → ¬ p = 5 → ¬ p = 9 → (p < 27 ∨ 98 < p) → d4 p = d p := fun p h1 h2 h3 h4 h5 h6 => by rw [y4 p h1, z p h2 h6, y2 p h3 h4 h5]
    refine yC_of rfl rfl rfl (by omega) (yk_272_0 ?_)
    have ym : ∀ i, ¬ i = 8 → xs d4 146 8 0 146 i = d 146 i := fun i h1 => by rw [xs_ni h1, y4d 146 (by decide) (by decide) (by decide) (by decide) (by decide) (by decide)]
    have yx : ∀ p, ¬ p = 146 → xs d4 146 8 0 p = d4 p := fun p h1 => by rw [xs_fn, if_neg h1]
    refine sq_270 (by omega) (rgM_c hM (ym 1 (by decide)) (by rw [yx 149 (by decide), y4d 149 (by decide) (by decide) (by decide) (by decide) (by decide) (by decide)]) (by rw [yx 147 (by decide), y4d 147 (by decide) (by decide) (by decide) (by decide) (by decide) (by decide)])) (fun len' rg' d5 g' f5 h51 hr5 => ?_) (fun d5 g' _ => absurd (g.symm.trans g') (by simp))
    have h3 : (len, rg) = (len', rg') := Option.some.inj (g.symm.trans g')
    have e1 : len = len' := congrArg Prod.fst h3
    have e2 : rg = rg' := congrArg Prod.snd h3
    subst e1
    subst e2
    refine ⟨by omega, fun _ => ?_, fun c => by omega⟩
    have y5 : ∀ p, ¬ p = 146 → ¬ p = 171 → d5 p = d4 p := fun p h1 h2 => by rw [Fk_p f5 (fun _ => by simp [s171, h1, h2]), yx p h1]
    have y5m : ∀ i, ¬ i = 8 → ¬ i = 51 → d5 146 i = d 146 i := fun i h1 h2 => by rw [f5 146 i (by simp [s171, h2]), ym i h1]
    generalize hd6 : xs (xwr d5 151 len (d5 171)) 146 7 len = d6
    have y6 : ∀ p, ¬ p = 146 → ¬ p = 151 → d6 p = d5 p := fun p h1 h2 => by rw [← hd6, xs_fn, if_neg h1, xwr_fn h2]
    have y6m : ∀ i, ¬ i = 7 → d6 146 i = d5 146 i := fun i h1 => by rw [← hd6, xs_ni h1, xwr_fn (by decide)]
    refine sc_226_147 (by omega) (by rw [y6m 31 (by decide), y5m 31 (by decide) (by decide), hU.2.2.1]; exact hU.1) (fun d7 m => ?_)
    refine sq_269_147 (rg := rg) (len := len) (by omega) ok.1 (by rw [m.2.1 51 (by decide), y6m 51 (by decide), h51]) (fun j a c => ⟨by rw [m.1 171 (by decide) (by decide), y6 171 (by decide) (by decide), hr5 j a c], by have := ok.2.1 j a c; omega⟩) ⟨rfl, ?_⟩
    have z7 : d7 147 = d 147 := by rw [m.1 147 (by decide) (by decide), y6 147 (by decide) (by decide), y5 147 (by decide) (by decide), y4d 147 (by decide) (by decide) (by decide) (by decide) (by decide) (by decide)]
    rw [z7]
    -- all but what changes
    have w : ∀ p, ¬ p = 146 → ¬ p = 147 → ¬ p = 151 → ¬ p = 158 → ¬ p = 171 → xpl d7 147 (trn rg len (d 147)) p = d4 p := fun p h1 h2 h3 h4 h5 => by rw [xpl_np h2, m.1 p h1 h4, y6 p h1 h3, y5 p h1 h5]
    have wd : ∀ p, ¬ p = 146 → ¬ p = 147 → ¬ p = 151 → ¬ p = 158 → ¬ p = 171 → ¬ p = 12 → ¬ p = 23 → ¬ p = 4 → ¬ p = 5 → ¬ p = 9 → (p < 27 ∨ 98 < p) → xpl d7 147 (trn rg len (d 147)) p = d p := fun p h1 h2 h3 h4 h5 h6 h7 h8 h9 h10 h11 => by rw [w p h1 h2 h3 h4 h5, y4d p h6 h7 h8 h9 h10 h11]
    refine Inv_st hI0 ?_ ?_ ?_ ?_ ?_
    · have fa : Fk sa d d4 := by rw [← hd4]; exact Fk_pl (Fk_trans (Fk_sa f2) (RmX_fk x hU2.2.1)) (fun _ => rfl)
      have fb : Fk sa d d6 := by rw [← hd6]; exact Fk_xs (Fk_wr (Fk_trans (Fk_xs fa rfl) (Fk_sa (Fk_171 f5))) (fun _ => rfl)) rfl
      exact Fk_pl (Fk_trans fb (RmM_fk m)) (fun _ => rfl)
    · have q4 : xpl d7 147 (trn rg len (d 147)) 4 1 = len := by rw [w 4 (by decide) (by decide) (by decide) (by decide) (by decide), y4 4 (by decide), z 4 (by decide) (by decide), y24]
      refine ⟨by omega, ?_, fun j a c => ?_⟩
      · rw [q4, xpl_np (by decide), m.2.1 7 (by decide), ← hd6, xs_eq]
      · rw [q4] at c
        rw [w 5 (by decide) (by decide) (by decide) (by decide) (by decide), y4 5 (by decide), z 5 (by decide) (by decide), y25 j a c, xpl_np (by decide), m.1 151 (by decide) (by decide), ← hd6, xs_np (by decide), xwr_at ⟨a, c⟩, hr5 j a c]
    · unfold iS
      rw [wd 6 (by decide) (by decide) (by decide) (by decide) (by decide) (by decide) (by decide) (by decide) (by decide) (by decide) (by decide), wd 13 (by decide) (by decide) (by decide) (by decide) (by decide) (by decide) (by decide) (by decide) (by decide) (by decide) (by decide), wd 14 (by decide) (by decide) (by decide) (by decide) (by decide) (by decide) (by decide) (by decide) (by decide) (by decide) (by decide), wd 15 (by decide) (by decide) (by decide) (by decide) (by decide) (by decide) (by decide) (by decide) (by decide) (by decide) (by decide), wd 11 (by decide) (by decide) (by decide) (by decide) (by decide) (by decide) (by decide) (by decide) (by decide) (by decide) (by decide), w 12 (by decide) (by decide) (by decide) (by decide) (by decide), ← hd4, xpl_at, xpl_at, ze 16 (by decide)]
      exact iSt_trn p1.2 hS ok.1.1 ok.2.1
    · refine iU_rem (by rw [p26]; exact p1) hU2 hS2 x m (fun i _ _ => ?_) ?_ ?_ (fun p h1 h2 => ?_) (fun _ _ _ => rfl) ?_ ?_ ?_ ?_
      · rw [y6 147 (by decide) (by decide), y5 147 (by decide) (by decide), y4d 147 (by decide) (by decide) (by decide) (by decide) (by decide) (by decide), y2 147 (by decide) (by decide) (by decide)]
      · rw [y6m 31 (by decide), y5m 31 (by decide) (by decide), y2 146 (by decide) (by decide) (by decide)]
      · rw [y6 158 (by decide) (by decide), y5 158 (by decide) (by decide), y4d 158 (by decide) (by decide) (by decide) (by decide) (by decide) (by decide), y2 158 (by decide) (by decide) (by decide)]
      · rw [w p (by omega) (by omega) (by omega) (by omega) (by omega), y4 p (by omega)]
      · rw [w 23 (by decide) (by decide) (by decide) (by decide) (by decide), y4 23 (by decide)]
      · rw [xpl_np (by decide)]
      · rw [xpl_np (by decide)]
      · rw [wd 6 (by decide) (by decide) (by decide) (by decide) (by decide) (by decide) (by decide) (by decide) (by decide) (by decide) (by decide), p26]
    · refine iK_z (Int.le_refl _) hK (fun p h1 h2 => wd p (by omega) (by omega) (by omega) (by omega) (by omega) (by omega) (by omega) (by omega) (by omega) (by omega) (by omega)) (fun p h1 h2 => ze p (by omega)) ?_ ?_ ?_ ?_
      · exact wd 26 (by decide) (by decide) (by decide) (by decide) (by decide) (by decide) (by decide) (by decide) (by decide) (by decide) (by decide)
      · exact wd 174 (by decide) (by decide) (by decide) (by decide) (by decide) (by decide) (by decide) (by decide) (by decide) (by decide) (by decide)
      · exact wd 175 (by decide) (by decide) (by decide) (by decide) (by decide) (by decide) (by decide) (by decide) (by decide) (by decide) (by decide)
      · exact wd 176 (by decide) (by decide) (by decide) (by decide) (by decide) (by decide) (by decide) (by decide) (by decide) (by decide) (by decide)
  · refine ⟨by omega, fun c => absurd rfl c, fun _ => ?_⟩
    refine yC_of rfl rfl rfl (by omega) (yk_272_0 ?_)
    have y : ∀ p, ¬ p = 9 → ¬ p = 146 → xs d1 146 8 0 p = d p := fun p h3 h4 => by
      rw [xs_fn, if_neg h4, Fk_p f (fun _ => by simp [s9, h3])]
    have ym : ∀ i, ¬ i = 8 → xs d1 146 8 0 146 i = d 146 i := fun i h1 => by
      rw [xs_ni h1, f 146 i rfl]
    refine sq_270 (by omega) (rgM_c hM (ym 1 (by decide)) (y 149 (by decide) (by decide)) (y 147 (by decide) (by decide))) (fun len' rg' d2 g' f2 h51 hr2 => absurd (g.symm.trans g') (by simp)) (fun d2 g' f2 => ⟨by omega, fun c => by omega, fun _ => ⟨rfl, ?_⟩⟩)
    have fa : Fk sr d (xs d1 146 8 0) := Fk_xs (Fk_9 f) rfl
    refine Inv_fk hI0 (Fk_trans fa (Fk_171 f2)) Ek_refl ?_
    refine iW_fk hW ?_ ?_ ?_ ?_
    · rw [f2 4 1 rfl, y 4 (by decide) (by decide)]
    · rw [f2 146 7 rfl, ym 7 (by decide)]
    · rw [Fk_p f2 (p := 5) (fun _ => rfl), y 5 (by decide) (by decide)]
    · rw [Fk_p f2 (p := 151) (fun _ => rfl), y 151 (by decide) (by decide)]
end TRN
