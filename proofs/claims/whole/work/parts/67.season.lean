/-! CALLS: season, its text. -/
def lTr (c : Int) : Prop := 97 ≤ c ∧ c ≤ 105
def dG8 (c : Int) : Prop := 48 ≤ c ∧ c ≤ 56
def acV (T : Int → Int) (p : Int) : Prop := T p = 100 ∨ ((T p = 104 ∨ T p = 109) ∧ lTr (T (p + 1)) ∧ dG8 (T (p + 2))) ∨ (T p = 115 ∧ lTr (T (p + 1)) ∧ lTr (T (p + 2)))
theorem pb_c {p x : Int} (hp : 0 ≤ p ∧ p ≤ 6) : xp_pb p x = -1 ∨ (p = 0 ∧ x = 100 ∧ xp_pb p x = 1) ∨ (p = 0 ∧ x = 115 ∧ xp_pb p x = 3) ∨ (p = 0 ∧ (x = 104 ∨ x = 109) ∧ xp_pb p x = 2) ∨ (p = 1 ∧ (49 ≤ x ∧ x ≤ 57) ∧ xp_pb p x = 6) ∨ ((p = 1 ∨ p = 6) ∧ x = 59 ∧ xp_pb p x = 0) ∨ (p = 2 ∧ lTr x ∧ xp_pb p x = 4) ∨ (p = 3 ∧ lTr x ∧ xp_pb p x = 5) ∨ (p = 4 ∧ dG8 x ∧ xp_pb p x = 6) ∨ (p = 5 ∧ lTr x ∧ xp_pb p x = 6) := by
  unfold xp_pb xp_pia lTr dG8
  have : p = 0 ∨ p = 1 ∨ p = 2 ∨ p = 3 ∨ p = 4 ∨ p = 5 ∨ p = 6 := by omega
  rcases this with rfl | rfl | rfl | rfl | rfl | rfl | rfl <;> simp <;> (repeat' split) <;> omega
theorem pb_n {p : Int} : xp_pb p (-1) = -1 := by
  unfold xp_pb xp_pia
  (repeat' split) <;> omega
def seF (T : Int → Int) (N : Int) : Nat → Int → Int → Int
  | 0, p, _ => if N ≤ 60 then (if p = 1 ∨ p = 6 ∨ N = 0 then -1 else N) else 60
  | f + 1, p, i => if xp_pb p (T i) = -1 then i else seF T N f (xp_pb p (T i)) (i + 1)
def se (T : Int → Int) (N p i : Int) : Int := seF T N (min N 60 - i).toNat p i
section SEA
variable {L D : Nat} {d : xh_D} {e : xd_E}
theorem se_r {T : Int → Int} {N : Int} (hN : 0 ≤ N ∧ N ≤ 80) : ∀ (f : Nat) (p i : Int), 0 ≤ i → i + f ≤ 80 → -1 ≤ seF T N f p i ∧ seF T N f p i ≤ 80 := by
  intro f
  induction f with
  | zero =>
    intro p i h1 h2
    simp only [seF]
    split
    · split <;> omega
    · omega
  | succ f ih =>
    intro p i h1 h2
    simp only [seF]
    split
    · omega
    · exact ih _ _ (by omega) (by omega)
theorem sq_122 {P : Int → xh_D → xd_E → Prop} (hD : 5 ≤ D) (ho : xt_ok d) (h : P (seF (xt_at d) (d 2 1) (min (d 2 1) 60).toNat 0 0) d e) : yC D 122 L [.ref 1] d e P := by
  have o1 := ho.1
  refine yC_of rfl rfl rfl (by omega) (yk_122_0 (by omega) ⟨by omega, ?_⟩)
  have key : ∀ (f : Nat) (p i : Int), i + f = min (d 2 1) 60 → 0 ≤ i → (0 ≤ p ∧ p ≤ 6) → P (seF (xt_at d) (d 2 1) f p i) d e → yB (D - 1) xm_c122 (yQi L P) L 10 [.ref 1, .int (xJ p), .int (xJ (min (d 2 1) 60)), .int (xJ i)] [] d e := by
    intro f
    induction f with
    | zero =>
      intro p i h1 h2 h3 hp
      simp only [seF] at hp
      refine yk_122_10 (by omega) ⟨by omega, by omega, fun _ => ⟨by omega, fun c => ⟨by omega, fun c2 => ?_, fun c2 => ⟨fun c3 => ?_, fun c3 => ⟨fun c4 => ?_, fun c4 => ?_⟩⟩⟩, fun c => ?_⟩, fun z => by omega⟩
      · rw [if_pos c, if_pos (Or.inl c2)] at hp; exact hp
      · rw [if_pos c, if_pos (Or.inr (Or.inl c3))] at hp; exact hp
      · rw [if_pos c, if_neg (by omega)] at hp; exact hp
      · rw [if_pos c, if_pos (Or.inr (Or.inr c4))] at hp; exact hp
      · rw [if_neg c] at hp; exact hp
    | succ f ih =>
      intro p i h1 h2 h3 hp
      have r := xt_at_r ho i
      simp only [seF] at hp
      refine yk_122_10 (by omega) ⟨by omega, by omega, fun z => by omega, fun _ => ⟨ho, by omega, by omega, fun c => ?_, fun c => ?_⟩⟩
      · rw [if_neg c] at hp
        have := pb_c (p := p) (x := xt_at d i) h3
        exact ih _ _ (by omega) (by omega) (by omega) hp
      · rw [if_pos c] at hp; exact hp
  exact key _ _ _ (by omega) (by omega) (by omega) h
theorem se_ok {T : Int → Int} {N : Int} (hN : 0 < N) : ∀ (f : Nat) (p i : Int), i + f = min N 60 → 0 ≤ i → (0 ≤ p ∧ p ≤ 6) → (p = 0 → tSt T i = true) → (¬ p = 0 → tSt T i = false) → seF T N f p i = -1 → N ≤ 60 ∧ (p = 0 → acV T i) ∧ (p = 2 → lTr (T i) ∧ dG8 (T (i + 1))) ∧ (p = 3 → lTr (T i) ∧ lTr (T (i + 1))) ∧ (p = 4 → dG8 (T i)) ∧ (p = 5 → lTr (T i)) ∧ (∀ q, i ≤ q → q < N → tSt T q = true → acV T q) := by
  intro f
  induction f with
  | zero =>
    intro p i h1 h2 h3 h4 h5 hr
    simp only [seF] at hr
    by_cases c : N ≤ 60
    · rw [if_pos c] at hr
      by_cases c2 : p = 1 ∨ p = 6 ∨ N = 0
      · exact ⟨c, fun z => by omega, fun z => by omega, fun z => by omega, fun z => by omega, fun z => by omega, fun q q1 q2 => by omega⟩
      · rw [if_neg c2] at hr; omega
    · rw [if_neg c] at hr; omega
  | succ f ih =>
    intro p i h1 h2 h3 h4 h5 hr
    simp only [seF] at hr
    by_cases c : xp_pb p (T i) = -1
    · rw [if_pos c] at hr; omega
    · rw [if_neg c] at hr
      have pc := (pb_c (p := p) (x := T i) h3).resolve_left c
      generalize hq : xp_pb p (T i) = r at hr pc
      have r6 : 0 ≤ r ∧ r ≤ 6 := by omega
      have st1 : r = 0 → tSt T (i + 1) = true := fun z => tSt_t (by omega)
      have st2 : ¬ r = 0 → tSt T (i + 1) = false := fun z => tSt_f h2 (by unfold lTr dG8 at pc; omega)
      obtain ⟨g1, g2, g3, g4, g5, g6, g7⟩ := ih r (i + 1) (by omega) (by omega) r6 st1 st2 hr
      rw [show i + 1 + 1 = i + 2 by omega] at g3 g4
      have a0 : p = 0 → acV T i := fun z => by
        rcases pc with w | w | w | w | w | w | w | w | w
        · exact Or.inl w.2.1
        · exact Or.inr (Or.inr ⟨w.2.1, g4 w.2.2⟩)
        · exact Or.inr (Or.inl ⟨w.2.1, g3 w.2.2⟩)
        all_goals omega
      refine ⟨g1, a0, fun z => ?_, fun z => ?_, fun z => ?_, fun z => ?_, fun q q1 q2 q3 => ?_⟩
      · rcases pc with w | w | w | w | w | w | w | w | w
        rotate_left 5
        · exact ⟨w.2.1, g5 w.2.2⟩
        all_goals omega
      · rcases pc with w | w | w | w | w | w | w | w | w
        rotate_left 6
        · exact ⟨w.2.1, g6 w.2.2⟩
        all_goals omega
      · rcases pc with w | w | w | w | w | w | w | w | w
        rotate_left 7
        · exact w.2.1
        all_goals omega
      · rcases pc with w | w | w | w | w | w | w | w | w
        rotate_left 8
        · exact w.2.1
        all_goals omega
      · by_cases z : q = i
        · subst z
          by_cases w : p = 0
          · exact a0 w
          · rw [h5 w] at q3; exact absurd q3 (by decide)
        · exact g7 q (by omega) q2 q3
section SEP
variable {T : Int → Int} {N p i : Int}
theorem se_e (h : i = min N 60) : se T N p i = if N ≤ 60 then (if p = 1 ∨ p = 6 ∨ N = 0 then -1 else N) else 60 := by
  unfold se
  rw [show (min N 60 - i).toNat = 0 by omega]
  rfl
theorem se_n (h : i < min N 60) : se T N p i = if xp_pb p (T i) = -1 then i else se T N (xp_pb p (T i)) (i + 1) := by
  unfold se
  rw [show (min N 60 - i).toNat = (min N 60 - (i + 1)).toNat + 1 by omega]
  rfl
theorem hd_n (h : i < min N 60) : hcT T N 60 i = T i := if_pos (by omega)
theorem hd_e (h : i = min N 60) : hcT T N 60 i = -1 := if_neg (by omega)
theorem se_s {r : Int} (hi : i ≤ min N 60) (h : xp_pb p (hcT T N 60 i) = r) (hr : ¬ r = -1) : se T N p i = se T N r (i + 1) ∧ i < min N 60 ∧ T i = hcT T N 60 i := by
  by_cases z : i < min N 60
  · rw [hd_n z] at h ⊢
    rw [se_n z, h, if_neg hr]
    exact ⟨rfl, z, rfl⟩
  · rw [hd_e (by omega), pb_n] at h; omega
theorem se_f (hi : i ≤ min N 60) (hN : ¬ N = 0) (hp : ¬ p = 1 ∧ ¬ p = 6) (h : xp_pb p (hcT T N 60 i) = -1) : se T N p i = i := by
  by_cases z : i < min N 60
  · rw [hd_n z] at h
    rw [se_n z, if_pos h]
  · rw [se_e (by omega)]
    by_cases w : N ≤ 60
    · rw [if_pos w, if_neg (by omega)]; omega
    · rw [if_neg w]; omega
theorem se_x (hi : i ≤ min N 60) (hp : p = 6 ∨ (p = 1 ∧ ¬ (49 ≤ hcT T N 60 i ∧ hcT T N 60 i ≤ 57))) : se T N p i = if hcT T N 60 i = 59 then se T N 0 (i + 1) else if N ≤ i then -1 else i := by
  by_cases z : i < min N 60
  · rw [hd_n z] at hp ⊢
    have pc := pb_c (p := p) (x := T i) (by omega)
    rw [se_n z]
    by_cases w : T i = 59
    · rw [if_pos w]
      have : xp_pb p (T i) = 0 := by
        rcases hp with rfl | ⟨rfl, _⟩ <;> (rw [w]; decide)
      rw [this, if_neg (by decide)]
    · rw [if_neg w, if_neg (show ¬ N ≤ i by omega), if_pos (by omega)]
  · rw [se_e (by omega), hd_e (by omega), if_neg (show ¬ (-1 : Int) = 59 by decide)]
    by_cases w : N ≤ 60
    · rw [if_pos w, if_pos (by omega), if_pos (by omega)]
    · rw [if_neg w, if_neg (by omega)]; omega
end SEP
end SEA
