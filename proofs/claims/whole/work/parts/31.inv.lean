/-! WHAT HOLDS BETWEEN TWO CALLS of the class's memory and the reference's. -/
theorem xs_app {d : xh_D} {q p : Nat} {j v i : Int} : xs d q j v p i = if p = q ∧ i = j then v else d p i := rfl
/-- a loop that counts up -/
theorem lp_up {n : Int} {X : Int → Prop} (hn : 0 ≤ n) (h : ∀ i, 0 ≤ i → i < n → X (i + 1) → X i) (hX : X n) : X 0 := by
  have key : ∀ k : Nat, (k : Int) ≤ n → X (n - k) := by
    intro k
    induction k with
    | zero => intro _; simpa using hX
    | succ k ih =>
      intro hk
      have h1 := ih (by omega)
      refine h (n - (k + 1 : Nat)) (by omega) (by omega) ?_
      rw [show n - ((k + 1 : Nat) : Int) + 1 = n - (k : Int) by omega]
      exact h1
  have := key n.toNat (by omega)
  rwa [show n - (n.toNat : Int) = 0 by omega] at this
theorem lp_from {m n : Int} {X : Int → Prop} (hn : m ≤ n) (h : ∀ i, m ≤ i → i < n → X (i + 1) → X i) (hX : X n) : X m := by
  have := lp_up (n := n - m) (X := fun i => X (m + i)) (by omega) (fun i h1 h2 h3 => h (m + i) (by omega) (by omega) (by rw [show m + i + 1 = m + (i + 1) by omega]; exact h3)) (by rw [show m + (n - m) = n by omega]; exact hX)
  simpa using this
/-- a fold over the numbers below one -/
def fN {α : Type} (g : Int → α → α) (a : α) : Nat → α
  | 0 => a
  | k + 1 => g k (fN g a k)
def fI {α : Type} (g : Int → α → α) (a : α) (i : Int) : α := fN g a i.toNat
theorem fI_0 {α : Type} (g : Int → α → α) (a : α) : fI g a 0 = a := rfl
theorem fI_s {α : Type} (g : Int → α → α) (a : α) {i : Int} (h : 0 ≤ i) : fI g a (i + 1) = g i (fI g a i) := by
  obtain ⟨k, rfl⟩ : ∃ k : Nat, i = k := ⟨i.toNat, by omega⟩
  rfl
theorem fI_congr {α : Type} {g g' : Int → α → α} {a : α} {n : Int} (h : ∀ i x, 0 ≤ i → i < n → g i x = g' i x) : fI g a n = fI g' a n := by
  unfold fI
  have key : ∀ k : Nat, (k : Int) ≤ n → fN g a k = fN g' a k := by
    intro k
    induction k with
    | zero => intro _; rfl
    | succ k ih =>
      intro hk
      show g k (fN g a k) = g' k (fN g' a k)
      rw [ih (by omega), h k _ (by omega) (by omega)]
  by_cases hn : 0 ≤ n
  · exact key _ (by omega)
  · rw [show n.toNat = 0 by omega]; rfl
theorem fI_inv {α : Type} {g : Int → α → α} {a : α} {n : Int} (I : Int → α → Prop) (h0 : I 0 a) (h : ∀ i x, 0 ≤ i → i < n → I i x → I (i + 1) (g i x)) (hn : 0 ≤ n) : I n (fI g a n) := by
  unfold fI
  have key : ∀ k : Nat, (k : Int) ≤ n → I k (fN g a k) := by
    intro k
    induction k with
    | zero => intro _; exact h0
    | succ k ih => intro hk; exact h k _ (by omega) (by omega) (ih (by omega))
  have := key n.toNat (by omega)
  rwa [show ((n.toNat : Nat) : Int) = n by omega] at this
/-- a mask, a count, a sum over the numbers below one -/
def bI (f : Int → Bool) (n : Int) : Int := ((bm (fun k => f k) n.toNat : Nat) : Int)
def cI (f : Int → Bool) (n : Int) : Int := ((cn (fun k => f k) n.toNat : Nat) : Int)
def sI (f : Int → Int) (n : Int) : Int := fI (fun i x => x + f i) 0 n
theorem sI_0 (f : Int → Int) : sI f 0 = 0 := rfl
theorem sI_s (f : Int → Int) {i : Int} (h : 0 ≤ i) : sI f (i + 1) = sI f i + f i := fI_s _ _ h
theorem sI_congr {f g : Int → Int} {n : Int} (h : ∀ i, 0 ≤ i → i < n → f i = g i) : sI f n = sI g n := fI_congr (fun i x h1 h2 => by rw [h i h1 h2])
theorem sI_b {f : Int → Int} {n lo hi : Int} (hn : 0 ≤ n) (h : ∀ i, 0 ≤ i → i < n → lo ≤ f i ∧ f i ≤ hi) : lo * n ≤ sI f n ∧ sI f n ≤ hi * n := by
  refine fI_inv (I := fun i x => lo * i ≤ x ∧ x ≤ hi * i) (by simp) ?_ hn
  intro i x h1 h2 h3
  have := h i h1 h2
  rw [Int.mul_add, Int.mul_add]
  omega
theorem bI_0 (f : Int → Bool) : bI f 0 = 0 := rfl
theorem bI_t {f : Int → Bool} {i : Int} (h : 0 ≤ i ∧ i ≤ 12) (hf : f i = true) : xi_or (bI f i) (xi_shl 1 i) = bI f (i + 1) := by
  obtain ⟨k, rfl⟩ : ∃ k : Nat, i = k := ⟨i.toNat, by omega⟩
  exact bm_step (f := fun k => f k) (by omega) hf
theorem bI_f {f : Int → Bool} {i : Int} (h : 0 ≤ i ∧ i ≤ 12) (hf : f i = false) : xi_or (bI f i) 0 = bI f (i + 1) := by
  obtain ⟨k, rfl⟩ : ∃ k : Nat, i = k := ⟨i.toNat, by omega⟩
  exact bm_skip (f := fun k => f k) (by omega) hf
theorem bI_k {f : Int → Bool} {i : Int} (h : 0 ≤ i ∧ i ≤ 12) (hf : f i = false) : bI f i = bI f (i + 1) := by
  obtain ⟨k, rfl⟩ : ∃ k : Nat, i = k := ⟨i.toNat, by omega⟩
  show ((bm (fun k => f k) k : Nat) : Int) = ((bm (fun k => f k) (k + 1) : Nat) : Int)
  simp [bm, hf]
theorem bI_r (f : Int → Bool) {n : Int} (h : n ≤ 12) : 0 ≤ bI f n ∧ bI f n < 4096 := by
  have := bm_lt9 (fun k => f k) (n := n.toNat) (by omega)
  unfold bI
  omega
theorem bI_r9 (f : Int → Bool) {n : Int} (h : n ≤ 9) : 0 ≤ bI f n ∧ bI f n < 512 := by
  have := bm_lt (fun k => f k) n.toNat
  have : 2 ^ n.toNat ≤ 2 ^ 9 := Nat.pow_le_pow_right (by omega) (by omega)
  unfold bI
  omega
theorem bI_congr {f g : Int → Bool} {n : Int} (h : ∀ i, 0 ≤ i → i < n → f i = g i) : bI f n = bI g n := by
  unfold bI
  rw [bm_congr fun i hi => h i (by omega) (by omega)]
theorem bI_and {f g : Int → Bool} {n : Int} (h : n ≤ 12) : xi_and (bI f n) (bI g n) = bI (fun i => f i && g i) n := bm_and' (by omega)
theorem bI_andn {f g : Int → Bool} {n : Int} (h : n ≤ 12) : xi_and (bI f n) (xi_xor (bI g n) (-1)) = bI (fun i => f i && !g i) n := bm_andn' (by omega)
theorem bI_or {f g : Int → Bool} {n : Int} (h : n ≤ 12) : xi_or (bI f n) (bI g n) = bI (fun i => f i || g i) n := by
  have h1 := bm_lt9 (fun k => f k) (n := n.toNat) (by omega)
  have h2 := bm_lt9 (fun k => g k) (n := n.toNat) (by omega)
  unfold bI
  rw [bt_or (by omega) (by omega)]
  congr 1
  apply Nat.eq_of_testBit_eq
  intro i
  rw [Nat.testBit_or, bm_bit, bm_bit, bm_bit]
  by_cases h3 : i < n.toNat <;> simp [h3]
theorem bI_test {f : Int → Bool} {n p : Int} (h : n ≤ 12) (hp : 0 ≤ p ∧ p < n) : xi_and (xi_shr (bI f n) p) 1 = if f p then 1 else 0 := by
  obtain ⟨k, rfl⟩ : ∃ k : Nat, p = k := ⟨p.toNat, by omega⟩
  exact bm_test (f := fun k => f k) (by omega) (by omega)
theorem bI_bc {f : Int → Bool} {n : Int} (h : n ≤ 12) : xp_bc (bI f n) = cI f n := xp_bc_bm (by omega)
theorem cI_0 (f : Int → Bool) : cI f 0 = 0 := rfl
theorem cI_s (f : Int → Bool) {i : Int} (h : 0 ≤ i) : cI f (i + 1) = cI f i + if f i then 1 else 0 := by
  obtain ⟨k, rfl⟩ : ∃ k : Nat, i = k := ⟨i.toNat, by omega⟩
  show ((cn (fun k => f k) k + (if f k then 1 else 0) : Nat) : Int) = ((cn (fun k => f k) k : Nat) : Int) + _
  split <;> simp
theorem cI_r (f : Int → Bool) {n : Int} (h : 0 ≤ n) : 0 ≤ cI f n ∧ cI f n ≤ n := by
  have := cn_le (fun k => f k) n.toNat
  unfold cI
  omega
theorem cI_congr {f g : Int → Bool} {n : Int} (h : ∀ i, 0 ≤ i → i < n → f i = g i) : cI f n = cI g n := by
  unfold cI
  rw [cn_congr fun i hi => h i (by omega) (by omega)]
theorem bI_all {n : Int} (h : 0 ≤ n ∧ n ≤ 12) : xi_shl 1 n - 1 = bI (fun _ => true) n := by
  obtain ⟨k, rfl⟩ : ∃ k : Nat, n = k := ⟨n.toNat, by omega⟩
  exact bm_all (by omega)
theorem bI_flip {f : Int → Bool} {n p : Int} (h : n ≤ 12) (hp : 0 ≤ p ∧ p < n) : xi_xor (bI f n) (xi_shl 1 p) = bI (fun i => if i = p then !f i else f i) n := by
  obtain ⟨k, rfl⟩ : ∃ k : Nat, p = k := ⟨p.toNat, by omega⟩
  have := bm_flip (f := fun k => f k) (n := n.toNat) (p := k) (by omega) (by omega)
  unfold bI
  rw [this]
  congr 1
  refine bm_congr fun i hi => ?_
  by_cases q : i = k
  · subst q; simp
  · simp [q, show ¬ (i : Int) = (k : Int) by omega]
/-- the signs as the reference has them -/
def xt_sb (c : Int) : Int := if c < 128 then c else c - 256
/-- a state of the class and a row of the reference -/
def iSt (b n : Int) (h s t l : Int → Int) (w : Int) (bk : Nat → Int64) (a : Int → Int) : Prop :=
  (∀ p, 0 ≤ p → p < n → (0 ≤ h p ∧ h p < 9) ∧ (0 ≤ s p ∧ s p < 9) ∧ (0 ≤ t p ∧ t p < 64) ∧ a p = h p ∧ a (9 + p) = s p ∧ a (18 + p) = t p) ∧
  (∀ p k, 0 ≤ p → p < n → 0 ≤ k → k < 6 → a (27 + 6 * p + k) = l (p * 6 + k)) ∧
  (∀ i, 0 ≤ i → i < 54 → 0 ≤ l i ∧ l i ≤ w) ∧
  (∀ i, n * 6 ≤ i → i < 54 → l i = 0) ∧
  (0 ≤ w ∧ w ≤ b) ∧ a 81 = w ∧ a 82 = min w 30 ∧
  (∀ j p, 0 ≤ j → j < 30 → j < w → 0 ≤ p → p < 9 → (p < n → xp_ent (bk j.toNat) p = a (83 + 9 * j + p)) ∧ (n ≤ p → xp_ent (bk j.toNat) p = 11))
def iP (d : xh_D) : Prop := (0 ≤ d 6 4 ∧ d 6 4 ≤ 9) ∧ d 146 1 = d 6 4 ∧ d 146 57 = d 6 4
def iT (d : xh_D) : Prop := xt_ok d ∧ d 146 5 = d 2 1 ∧ ∀ i, 0 ≤ i → i < d 2 1 → d 150 i = xt_sb (d 3 i)
def iW (d : xh_D) : Prop := (0 ≤ d 4 1 ∧ d 4 1 ≤ 12) ∧ d 146 7 = d 4 1 ∧ ∀ i, 0 ≤ i → i < d 4 1 → d 151 i = d 5 i
def iL (d : xh_D) : Prop := ∀ i, 0 ≤ i → i < 81 → (0 ≤ d 7 i ∧ d 7 i ≤ 9) ∧ (0 ≤ d 8 i ∧ d 8 i ≤ 9) ∧ (i / 9 < d 6 4 ∧ i % 9 < d 6 4 → d 148 i = d 7 i) ∧ (¬ (i / 9 < d 6 4 ∧ i % 9 < d 6 4) → d 7 i = 1) ∧ (i / 9 < d 6 4 → d 149 i = d 8 i) ∧ (¬ i / 9 < d 6 4 → d 8 i = 0)
def iS (b : Int) (d : xh_D) (e : xd_E) : Prop := iSt b (d 6 4) (d 12) (d 13) (d 14) (d 15) (d 11 5) (e 16) (d 147)
def iSs (b n : Int) (d : xh_D) (e : xd_E) (s : Nat) (a : Int → Int) : Prop := iSt b n (d (s + 1)) (d (s + 2)) (d (s + 3)) (d (s + 4)) (d s 5) (e (s + 5)) a
def iU (b : Int) (d : xh_D) (e : xd_E) : Prop := (0 ≤ d 23 4 ∧ d 23 4 ≤ 12) ∧ (0 ≤ d 23 3 ∧ d 23 3 < 12) ∧ d 146 31 = d 23 4 ∧ ∀ k, 0 ≤ k → k < d 23 4 → iSs b (d 6 4) d e (27 + 6 * ((d 23 3 + 11 - k) % 12).toNat) (fun i => d 158 (353 * (d 23 4 - 1 - k) + i))
def iK (b : Int) (d : xh_D) (e : xd_E) : Prop := ∀ i, 0 ≤ i → i < 2 → (d 175 i = 0 ∧ d 26 i = -1) ∨ (d 175 i = 1 ∧ d 176 i = d 26 i ∧ 0 ≤ d 26 i ∧ d 26 i ≤ 9 ∧ iSs b (d 26 i) d e (99 + 6 * i.toNat) (fun j => d 174 (353 * i + j)))
def iQ (d : xh_D) : Prop := (0 ≤ d 127 8 ∧ d 127 8 ≤ 6) ∧ d 146 38 = d 127 8 ∧ ∀ i, 0 ≤ i → i < d 127 8 → d 163 (2 * i) = d 128 i ∧ d 163 (2 * i + 1) = d 129 i ∧ (0 ≤ d 128 i ∧ d 128 i < 6) ∧ (1 ≤ d 129 i ∧ d 129 i ≤ 3)
def iV (d : xh_D) : Prop := (0 ≤ d 136 5 ∧ d 136 5 ≤ 12) ∧ d 146 46 = d 136 5 ∧ ∀ i, 0 ≤ i → i < d 136 5 → d 168 (3 * i) = d 137 i ∧ d 168 (3 * i + 1) = d 138 i ∧ d 168 (3 * i + 2) = d 139 i ∧ (0 ≤ d 137 i ∧ d 137 i < d 6 4) ∧ (0 ≤ d 138 i ∧ d 138 i < d 6 4) ∧ ¬ d 137 i = d 138 i ∧ (d 139 i = 0 ∨ d 139 i = 1)
def iH (d : xh_D) : Prop := (0 ≤ d 142 3 ∧ d 142 3 ≤ 10) ∧ d 146 54 = d 142 3 ∧ ∀ i, 0 ≤ i → i < d 142 3 → d 173 (2 * i) = d 143 i ∧ d 173 (2 * i + 1) = d 144 i ∧ (0 ≤ d 143 i ∧ d 143 i < d 6 4) ∧ (0 ≤ d 144 i ∧ d 144 i ≤ 999)
def iG (d : xh_D) : Prop := d 172 0 = 0 ∧ ∀ i, 0 ≤ i → i < 9 → d 156 i = 0
abbrev xR : Type := Int → (Int → Int) → Int → (Int → Int) → Prop
def Inv (R : xR) (b : Int) (d : xh_D) (e : xd_E) : Prop := iP d ∧ iT d ∧ iW d ∧ iL d ∧ iS b d e ∧ iU b d e ∧ iK b d e ∧ R (d 111 6) (d 112) (d 146 16) (d 153) ∧ iQ d ∧ iV d ∧ iH d ∧ iG d
/-- both answer alike, and what held holds again -/
def Op (R : xR) (b b' : Int) (L gx gm : Nat) (as : List Value) (d : xh_D) (e : xd_E) : Prop := yC 150 gx L (.ref 1 :: as) d e (fun r1 d1 e1 => yC 150 gm L (.ref 146 :: as) d1 e1 (fun r2 d2 e2 => r1 = r2 ∧ Inv R b' d2 e2))
def Oz (R : xR) (b b' : Int) (L gx gm : Nat) (as : List Value) (d : xh_D) (e : xd_E) : Prop := yZ 150 gx L (.ref 1 :: as) d e (fun d1 e1 => yZ 150 gm L (.ref 146 :: as) d1 e1 (fun d2 e2 => Inv R b' d2 e2) (fun _ _ => False)) (fun d1 e1 => yZ 150 gm L (.ref 146 :: as) d1 e1 (fun _ _ => False) (fun d2 e2 => Inv R b' d2 e2))
theorem iSt_mono {b b' n : Int} {h s t l : Int → Int} {w : Int} {bk : Nat → Int64} {a : Int → Int} (hb : b ≤ b') (q : iSt b n h s t l w bk a) : iSt b' n h s t l w bk a := ⟨q.1, q.2.1, q.2.2.1, q.2.2.2.1, ⟨q.2.2.2.2.1.1, by have := q.2.2.2.2.1.2; omega⟩, q.2.2.2.2.2⟩
theorem Inv_mono {R : xR} {b b' : Int} {d : xh_D} {e : xd_E} (hb : b ≤ b') (h : Inv R b d e) : Inv R b' d e := by
  obtain ⟨hP, hT, hW, hL, hS, hU, hK, hR, hQ, hV, hH, hG⟩ := h
  refine ⟨hP, hT, hW, hL, iSt_mono hb hS, ⟨hU.1, hU.2.1, hU.2.2.1, fun k h1 h2 => iSt_mono hb (hU.2.2.2 k h1 h2)⟩, fun i h1 h2 => ?_, hR, hQ, hV, hH, hG⟩
  rcases hK i h1 h2 with h | h
  · exact Or.inl h
  · exact Or.inr ⟨h.1, h.2.1, h.2.2.1, h.2.2.2.1, iSt_mono hb h.2.2.2.2⟩
/-- the states that are kept are as they were -/
def Fz (d d' : xh_D) : Prop := ∀ p, 27 ≤ p → p < 111 → d' p = d p
theorem Fz_refl {d : xh_D} : Fz d d := fun _ _ _ => rfl
theorem Fz_xs {d d' : xh_D} {q : Nat} {j v : Int} (h : Fz d d') (hq : q < 27 ∨ 111 ≤ q) : Fz d (xs d' q j v) := fun p h1 h2 => by
  rw [← h p h1 h2]
  funext i
  exact xs_np (by omega)
theorem Fz_trans {d d' d2 : xh_D} (h : Fz d d') (h2 : Fz d' d2) : Fz d d2 := fun p a c => (h2 p a c).trans (h p a c)
theorem iSs_c {b n : Int} {d d' : xh_D} {e : xd_E} {s : Nat} {a a' : Int → Int} (hs : 27 ≤ s ∧ s + 4 < 111) (fz : Fz d d') (ha : a' = a) (h : iSs b n d e s a) : iSs b n d' e s a' := by
  unfold iSs at h ⊢
  rw [fz (s + 1) (by omega) (by omega), fz (s + 2) (by omega) (by omega), fz (s + 3) (by omega) (by omega), fz (s + 4) (by omega) (by omega), fz s (by omega) (by omega), ha]
  exact h
theorem iU_c {b : Int} {d d' : xh_D} {e : xd_E} (h : iU b d e) (fz : Fz d d') (h1 : d' 23 3 = d 23 3) (h2 : d' 23 4 = d 23 4) (h3 : d' 146 31 = d 146 31) (h4 : d' 6 4 = d 6 4) (h5 : d' 158 = d 158) : iU b d' e := by
  unfold iU at h ⊢
  rw [h1, h2, h3, h4, h5]
  exact ⟨h.1, h.2.1, h.2.2.1, fun k a c => iSs_c (by omega) fz rfl (h.2.2.2 k a c)⟩
theorem iK_c {b : Int} {d d' : xh_D} {e : xd_E} (h : iK b d e) (fz : Fz d d') (h1 : d' 26 = d 26) (h2 : d' 174 = d 174) (h3 : d' 175 = d 175) (h4 : d' 176 = d 176) : iK b d' e := by
  unfold iK at h ⊢
  rw [h1, h2, h3, h4]
  intro i a c
  rcases h i a c with q | q
  · exact Or.inl q
  · exact Or.inr ⟨q.1, q.2.1, q.2.2.1, q.2.2.2.1, iSs_c (by omega) fz rfl q.2.2.2.2⟩
abbrev yR (a : Int) : Prop := -2147483648 ≤ a ∧ a < 2147483648
theorem xs_xs {d : xh_D} {q : Nat} {j v w : Int} : xs (xs d q j v) q j w = xs d q j w := by
  funext p i
  unfold xs
  split <;> simp_all
theorem xs_sw {d : xh_D} {q q' : Nat} {j j' v w : Int} (h : ¬ (q = q' ∧ j = j')) : xs (xs d q j v) q' j' w = xs (xs d q' j' w) q j v := by
  funext p i
  unfold xs
  by_cases h1 : p = q ∧ i = j
  · by_cases h2 : p = q' ∧ i = j'
    · exact absurd ⟨h1.1.symm.trans h2.1, h1.2.symm.trans h2.2⟩ h
    · rw [if_neg h2, if_pos h1, if_pos h1]
  · rw [if_neg h1, if_neg h1]
theorem xs_55 (d : xh_D) (u v w : Int) : xs (xs (xs d 146 55 u) 146 56 v) 146 55 w = xs (xs d 146 55 w) 146 56 v := by
  rw [xs_sw (q := 146) (j := 56) (by decide), xs_xs]
theorem xs_id {d : xh_D} {q : Nat} {j v : Int} (h : d q j = v) : xs d q j v = d := by
  funext p i
  unfold xs
  split
  · rename_i c; rw [c.1, c.2, h]
  · rfl
theorem cI_t {f : Int → Bool} {i : Int} (h : 0 ≤ i) (hf : f i = true) : cI f (i + 1) = cI f i + 1 := by rw [cI_s _ h, hf]; rfl
theorem cI_f {f : Int → Bool} {i : Int} (h : 0 ≤ i) (hf : f i = false) : cI f (i + 1) = cI f i + 0 := by rw [cI_s _ h, hf]; rfl
/-- one element of a row is changed -/
def upI (f : Int → Int) (j v : Int) : Int → Int := fun i => if i = j then v else f i
theorem upI_app {f : Int → Int} {j v i : Int} : upI f j v i = if i = j then v else f i := rfl
theorem xs_fn {d : xh_D} {q p : Nat} {j v : Int} : xs d q j v p = if p = q then upI (d p) j v else d p := by
  funext i
  unfold xs upI
  by_cases h : p = q <;> simp [h]
/-- the first n of a place are written -/
def xwr (d : xh_D) (q : Nat) (n : Int) (f : Int → Int) : xh_D := fun p i => if p = q ∧ 0 ≤ i ∧ i < n then f i else d p i
theorem xwr_0 {d : xh_D} {q : Nat} {f : Int → Int} : xwr d q 0 f = d := by
  funext p i
  unfold xwr
  rw [if_neg (by omega)]
theorem xwr_s {d : xh_D} {q : Nat} {i : Int} {f : Int → Int} (h : 0 ≤ i) : xs (xwr d q i f) q i (f i) = xwr d q (i + 1) f := by
  funext p j
  unfold xs xwr
  by_cases h1 : p = q
  · by_cases h2 : j = i
    · subst h2; rw [if_pos ⟨h1, rfl⟩, if_pos ⟨h1, h, by omega⟩]
    · rw [if_neg (fun c => h2 c.2)]
      by_cases h3 : 0 ≤ j ∧ j < i
      · rw [if_pos ⟨h1, h3⟩, if_pos ⟨h1, h3.1, by omega⟩]
      · rw [if_neg (fun c => h3 c.2), if_neg (fun c => h3 ⟨c.2.1, by omega⟩)]
  · rw [if_neg (fun c => h1 c.1), if_neg (fun c => h1 c.1), if_neg (fun c => h1 c.1)]
theorem xwr_fn {d : xh_D} {q p : Nat} {n : Int} {f : Int → Int} (h : ¬ p = q) : xwr d q n f p = d p := by
  funext i
  exact if_neg (fun c => h c.1)
theorem xwr_at {d : xh_D} {q : Nat} {n i : Int} {f : Int → Int} (h : 0 ≤ i ∧ i < n) : xwr d q n f q i = f i := if_pos ⟨rfl, h⟩
theorem Fz_wr {d d' : xh_D} {q : Nat} {n : Int} {f : Int → Int} (h : Fz d d') (hq : q < 27 ∨ 111 ≤ q) : Fz d (xwr d' q n f) := fun p h1 h2 => by
  rw [← h p h1 h2]
  exact xwr_fn (by omega)
/-- all of the numbers below one -/
def aI (f : Int → Bool) (n : Int) : Bool := fI (fun k x => x && f k) true n
theorem aI_s (f : Int → Bool) {i : Int} (h : 0 ≤ i) : aI f (i + 1) = (aI f i && f i) := fI_s _ _ h
theorem aI_iff {f : Int → Bool} {n : Int} (hn : 0 ≤ n) : aI f n = true ↔ ∀ i, 0 ≤ i → i < n → f i = true := by
  refine fI_inv (g := fun k x => x && f k) (a := true) (I := fun n x => x = true ↔ ∀ i, 0 ≤ i → i < n → f i = true) (by simp; omega) ?_ hn
  intro i x h1 h2 h3
  rw [Bool.and_eq_true, h3]
  constructor
  · intro q j a c
    by_cases hj : j = i
    · subst hj; exact q.2
    · exact q.1 j a (by omega)
  · intro q
    exact ⟨fun j a c => q j a (by omega), q i h1 (by omega)⟩
theorem aI_congr {f g : Int → Bool} {n : Int} (h : ∀ i, 0 ≤ i → i < n → f i = g i) : aI f n = aI g n := fI_congr (fun i x h1 h2 => by rw [h i h1 h2])
theorem xp_bc9 {i : Int} (h : 0 ≤ i ∧ i < 512) : 0 ≤ xp_bc i ∧ xp_bc i ≤ 9 := by
  obtain ⟨m, rfl⟩ : ∃ m : Nat, i = m := ⟨i.toNat, by omega⟩
  have h1 := xp_bc_bm (f := fun j => m.testBit j) (n := 9) (by omega)
  rw [bm_of (show m < 2 ^ 9 by omega)] at h1
  have := cn_le (fun j => m.testBit j) 9
  omega
theorem bI_clr {f : Int → Bool} {n p : Int} (h : n ≤ 12) (hp : 0 ≤ p ∧ p < 31) : xi_and (bI f n) (xi_xor (xi_shl 1 p) (-1)) = bI (fun i => f i && !decide (i = p)) n := by
  obtain ⟨k, rfl⟩ : ∃ k : Nat, p = k := ⟨p.toNat, by omega⟩
  have h1 := bm_lt9 (fun k => f k) (n := n.toNat) (by omega)
  have h2 := bm_lt9 (fun i => f i && !decide ((i : Int) = (k : Int))) (n := n.toNat) (by omega)
  have h3 : 2 ^ k ≤ 2 ^ 30 := Nat.pow_le_pow_right (by omega) (by omega)
  unfold bI
  rw [bt_shl (by omega)]
  refine bt_andn (by omega) (by omega) (show _ from Nat.lt_of_lt_of_le h2 (by omega)) ?_
  intro i
  rw [bm_bit, bm_bit, Nat.testBit_two_pow]
  by_cases hi : i < n.toNat
  · by_cases hk : k = i
    · subst hk; simp
    · simp [hi, hk, show ¬ (i : Int) = (k : Int) by omega]
  · simp [hi]
theorem all_s {p : Int → Prop} {k : Int} (h : ∀ j, 0 ≤ j → j < k → p j) (hk : p k) : ∀ j, 0 ≤ j → j < k + 1 → p j := fun j a c => by
  by_cases hj : j = k
  · subst hj; exact hk
  · exact h j a (by omega)
