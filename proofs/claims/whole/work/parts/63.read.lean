/-! TEXTS: the reference's reading; the text of a town. -/
def hcT (T : Int → Int) (N lim i : Int) : Int := if i < N ∧ i < lim then T i else -1
def rdS (T : Int → Int) (N lim i : Int) (dm : xh_D) : Prop := dm 146 9 = 150 ∧ dm 146 10 = N ∧ dm 146 11 = lim ∧ dm 146 12 = i ∧ dm 146 13 = -1 ∧ (0 ≤ N ∧ N ≤ 80) ∧ (0 ≤ lim ∧ lim ≤ 80) ∧ (0 ≤ i ∧ i ≤ N) ∧ ∀ j, 0 ≤ j → j < N → (0 ≤ T j ∧ T j < 256) ∧ dm 150 j = xt_sb (T j)
section RDT
variable {L D : Nat} {d : xh_D} {e : xd_E} {T : Int → Int} {N lim i : Int}
theorem rd_h (s : rdS T N lim i d) : xm_hok d ∧ ((hcT T N lim i < 128 ∧ xm_here d = hcT T N lim i) ∨ (128 ≤ hcT T N lim i ∧ xm_here d = hcT T N lim i - 256)) ∧ (-1 ≤ hcT T N lim i ∧ hcT T N lim i < 256) ∧ (¬ hcT T N lim i = -1 → i < N ∧ i < lim ∧ hcT T N lim i = T i) := by
  obtain ⟨s1, s2, s3, s4, s5, s6, s7, s8, s9⟩ := s
  refine ⟨⟨by omega, by omega, by omega, by omega, Or.inl ⟨s1, by omega, by omega⟩⟩, ?_⟩
  unfold xm_here hcT
  rw [s1, s2, s3, s4]
  by_cases z : i < N ∧ i < lim
  · rw [if_pos z, if_pos z, show (150 : Int).toNat = 150 from rfl, (s9 i s8.1 z.1).2]
    have := (s9 i s8.1 z.1).1
    unfold xt_sb
    split <;> omega
  · rw [if_neg z, if_neg z]
    omega
theorem rd_n (s : rdS T N lim i d) (hi : i < N) : rdS T N lim (i + 1) (xs d 146 12 (i + 1)) := by
  obtain ⟨s1, s2, s3, s4, s5, s6, s7, s8, s9⟩ := s
  refine ⟨?_, ?_, ?_, ?_, ?_, s6, s7, by omega, fun j a c => ⟨(s9 j a c).1, ?_⟩⟩
  · rw [xs_ni (by decide)]; exact s1
  · rw [xs_ni (by decide)]; exact s2
  · rw [xs_ni (by decide)]; exact s3
  · rw [xs_eq]
  · rw [xs_ni (by decide)]; exact s5
  · rw [xs_np (by decide)]; exact (s9 j a c).2
theorem rd_c {d' : xh_D} (s : rdS T N lim i d) (h1 : ∀ j, 9 ≤ j → j ≤ 13 → d' 146 j = d 146 j) (h2 : d' 150 = d 150) : rdS T N lim i d' := by
  obtain ⟨s1, s2, s3, s4, s5, s6, s7, s8, s9⟩ := s
  refine ⟨?_, ?_, ?_, ?_, ?_, s6, s7, s8, fun j a c => ⟨(s9 j a c).1, ?_⟩⟩
  · rw [h1 9 (by decide) (by decide)]; exact s1
  · rw [h1 10 (by decide) (by decide)]; exact s2
  · rw [h1 11 (by decide) (by decide)]; exact s3
  · rw [h1 12 (by decide) (by decide)]; exact s4
  · rw [h1 13 (by decide) (by decide)]; exact s5
  · rw [h2]; exact (s9 j a c).2
theorem sq_193 {c : Int} {P1 P0 : xh_D → xd_E → Prop} (hD : 2 ≤ D) (hc : 0 ≤ c ∧ c < 128) (s : rdS T N lim i d) (h1 : hcT T N lim i = c → P1 (xs d 146 12 (i + 1)) e) (h0 : ¬ hcT T N lim i = c → P0 d e) : yZ D 193 L [.ref 146, .int (xJ c)] d e P1 P0 := by
  obtain ⟨r1, r2, r3, r4⟩ := rd_h s
  obtain ⟨s1, s2, s3, s4, s5, s6, s7, s8, s9⟩ := s
  refine yZ_of rfl rfl rfl (by omega) (yk_193_0 (by omega) ?_)
  rw [s5, s4]
  exact ⟨by omega, fun _ => ⟨r1, by omega, by omega, fun q => h1 (by omega), fun q => h0 (by omega)⟩, fun z => absurd rfl z⟩
theorem sq_193_f {c : Int} {P1 P0 : xh_D → xd_E → Prop} (hD : 2 ≤ D) (h13 : ¬ d 146 13 = -1 ∧ -1 ≤ d 146 13 ∧ d 146 13 ≤ 80) (h0 : P0 d e) : yZ D 193 L [.ref 146, .int (xJ c)] d e P1 P0 := by
  exact yZ_of rfl rfl rfl (by omega) (yk_193_0 (by omega) ⟨by omega, fun z => absurd z h13.1, fun _ => h0⟩)
theorem sq_195 {m : Int} {P : Int → xh_D → xd_E → Prop} (hD : 3 ≤ D) (hm : 0 ≤ m ∧ m ≤ 9) (s : rdS T N lim i d) (h1 : 48 ≤ hcT T N lim i → hcT T N lim i ≤ 48 + m → P (hcT T N lim i - 48) (xs d 146 12 (i + 1)) e) (h0 : ¬ (48 ≤ hcT T N lim i ∧ hcT T N lim i ≤ 48 + m) → P 0 (xs d 146 13 i) e) : yC D 195 L [.ref 146, .int (xJ m)] d e P := by
  obtain ⟨r1, r2, r3, r4⟩ := rd_h s
  obtain ⟨s1, s2, s3, s4, s5, s6, s7, s8, s9⟩ := s
  refine yC_of rfl rfl rfl (by omega) (yk_195_0 (by omega) ?_)
  rw [s5, s4, s1]
  refine ⟨by omega, fun _ => ⟨r1, by omega, by omega, fun q => ⟨fun _ => ?_, fun z => absurd z (by decide), Or.inl rfl⟩, fun q => ?_⟩, fun z => absurd rfl z⟩
  · have r := r4 (by omega)
    have t := s9 i s8.1 r.1
    have e1 : d 150 (i + 1 - 1) - 48 = hcT T N lim i - 48 := by
      rw [show i + 1 - 1 = i by omega, t.2]
      unfold xt_sb
      split <;> omega
    rw [e1]
    exact ⟨by omega, h1 (by omega) (by omega)⟩
  · rw [if_pos rfl]
    exact h0 (by omega)
theorem sq_195_f {m : Int} {P : Int → xh_D → xd_E → Prop} (hD : 3 ≤ D) (h13 : ¬ d 146 13 = -1 ∧ -1 ≤ d 146 13 ∧ d 146 13 ≤ 80) (h0 : P 0 d e) : yC D 195 L [.ref 146, .int (xJ m)] d e P := by
  exact yC_of rfl rfl rfl (by omega) (yk_195_0 (by omega) ⟨by omega, fun z => absurd z h13.1, fun _ => h0⟩)
theorem sq_196 {P : Int → xh_D → xd_E → Prop} (hD : 3 ≤ D) (s : rdS T N lim i d) (h1 : 97 ≤ hcT T N lim i → hcT T N lim i ≤ 105 → P (hcT T N lim i - 97) (xs d 146 12 (i + 1)) e) (h0 : ¬ (97 ≤ hcT T N lim i ∧ hcT T N lim i ≤ 105) → P 0 (xs d 146 13 i) e) : yC D 196 L [.ref 146] d e P := by
  obtain ⟨r1, r2, r3, r4⟩ := rd_h s
  obtain ⟨s1, s2, s3, s4, s5, s6, s7, s8, s9⟩ := s
  refine yC_of rfl rfl rfl (by omega) (yk_196_0 (by omega) ?_)
  rw [s5, s4, s1]
  refine ⟨by omega, fun _ => ⟨r1, by omega, fun q => ⟨fun _ => ?_, fun z => absurd z (by decide), Or.inl rfl⟩, fun q => ?_⟩, fun z => absurd rfl z⟩
  · have r := r4 (by omega)
    have t := s9 i s8.1 r.1
    have e1 : d 150 (i + 1 - 1) - 97 = hcT T N lim i - 97 := by
      rw [show i + 1 - 1 = i by omega, t.2]
      unfold xt_sb
      split <;> omega
    rw [e1]
    exact ⟨by omega, h1 (by omega) (by omega)⟩
  · rw [if_pos rfl]
    exact h0 (by omega)
theorem sq_196_f {P : Int → xh_D → xd_E → Prop} (hD : 3 ≤ D) (h13 : ¬ d 146 13 = -1 ∧ -1 ≤ d 146 13 ∧ d 146 13 ≤ 80) (h0 : P 0 d e) : yC D 196 L [.ref 146] d e P := by
  exact yC_of rfl rfl rfl (by omega) (yk_196_0 (by omega) ⟨by omega, fun z => absurd z h13.1, fun _ => h0⟩)
end RDT
def twF (T : Int → Int) (N : Int) : Nat → Int → Int → Int → Int → Int
  | 0, _, k, _, _ => if N ≤ 76 then (if 2 ≤ k then -1 else N) else 76
  | f + 1, rm, k, l, i => if 2 ≤ k then (if T i = 59 then twF T N f (rm - 1) 0 (-1) (i + 1) else if 117 < T i then i else if T i - 112 ≤ l then i else twF T N f rm k (T i - 112) (i + 1)) else if 48 ≤ T i ∧ T i ≤ 56 then (if k = 0 ∧ rm = 0 then i else twF T N f rm (k + 1) l (i + 1)) else i
def trF (T : Int → Int) : Nat → Int → Int → Int
  | 0, acc, _ => acc
  | f + 1, acc, i => if T i = 59 then acc else trF T f (xi_or acc (xi_shl 1 (T i - 112))) (i + 1)
def tSt (T : Int → Int) (p : Int) : Bool := decide (p = 0 ∨ T (p - 1) = 59)
section TWN
variable {L D : Nat} {d : xh_D} {e : xd_E}
theorem sq_101 {P : Int → xh_D → xd_E → Prop} (hD : 4 ≤ D) (ho : xt_ok d) (hn : 0 ≤ d 6 4 ∧ d 6 4 ≤ 9) (h : P (twF (xt_at d) (d 2 1) (min (d 2 1) 76).toNat (9 - d 6 4) 0 (-1) 0) d e) : yC D 101 L [.ref 1] d e P := by
  have o1 := ho.1
  refine yC_of rfl rfl rfl (by omega) (yk_101_0 (by omega) ⟨by omega, ?_⟩)
  have key : ∀ (f : Nat) (rm k l i : Int), i + f = min (d 2 1) 76 → 0 ≤ i → (0 ≤ k ∧ k ≤ 2) → (-1 ≤ l ∧ l ≤ 5) → (0 ≤ rm ∧ rm ≤ 9) → (1 ≤ k → 1 ≤ rm) → P (twF (xt_at d) (d 2 1) f rm k l i) d e → yB (D - 1) xm_c101 (yQi L P) L 18 [.ref 1, .int (xJ rm), .int (xJ k), .int (xJ l), .int (xJ (min (d 2 1) 76)), .int (xJ i), .double 0] [] d e := by
    intro f
    induction f with
    | zero =>
      intro rm k l i h1 h2 h3 h4 h5 h6 hp
      simp only [twF] at hp
      refine yk_101_18 (by omega) ⟨by omega, by omega, fun _ => ⟨by omega, fun c => ⟨by omega, fun c2 => ?_, fun c2 => ?_⟩, fun c => ?_⟩, fun z => by omega⟩
      · rw [if_pos c, if_pos c2] at hp; exact hp
      · rw [if_pos c, if_neg c2] at hp; exact hp
      · rw [if_neg c] at hp; exact hp
    | succ f ih =>
      intro rm k l i h1 h2 h3 h4 h5 h6 hp
      have r := xt_at_r ho i
      simp only [twF] at hp
      refine yk_101_18 (by omega) ⟨by omega, by omega, fun z => by omega, fun _ => ⟨ho, by omega, fun c => ⟨by omega, fun c2 => ⟨fun c3 => ?_, fun c3 => ⟨by omega, by omega, fun c4 => ?_, fun c4 => ?_⟩⟩, fun c2 => ?_⟩, fun c => ⟨by omega, fun c2 => ⟨fun c3 => ?_, fun c3 => ⟨by omega, fun c4 => ?_, fun c4 => ?_⟩⟩, fun c2 => ?_⟩⟩⟩
      · rw [if_pos c, if_neg c2, if_pos c3] at hp; exact hp
      · rw [if_pos c, if_neg c2, if_neg c3, if_pos c4] at hp; exact hp
      · rw [if_pos c, if_neg c2, if_neg c3, if_neg c4] at hp
        exact ih _ _ _ _ (by omega) (by omega) h3 (by omega) h5 h6 hp
      · rw [if_pos c, if_pos c2] at hp
        have := ih _ _ _ _ (by omega) (by omega) (by omega) (by omega) (by omega) (by omega) hp
        rw [show rm + -1 = rm - 1 by omega]
        exact this
      · rw [if_neg c, if_pos c2, if_neg (fun z => c3 z.1)] at hp
        exact ih _ _ _ _ (by omega) (by omega) (by omega) h4 h5 (by omega) hp
      · rw [if_neg c, if_pos c2, if_neg (fun z => c4 z.2)] at hp
        exact ih _ _ _ _ (by omega) (by omega) (by omega) h4 h5 (by omega) hp
      · rw [if_neg c, if_pos c2, if_pos ⟨c3, c4⟩] at hp; exact hp
      · rw [if_neg c, if_neg c2] at hp; exact hp
  exact key _ _ _ _ _ (by omega) (by omega) (by omega) (by omega) (by omega) (by omega) h
theorem sq_103 {p : Int} {P : Int → xh_D → xd_E → Prop} (hD : 4 ≤ D) (ho : xt_ok d) (hp : 0 ≤ p ∧ p ≤ 100) (h : P (trF (xt_at d) (d 2 1 - p).toNat 0 p) d e) : yC D 103 L [.ref 1, .int (xJ p)] d e P := by
  have o1 := ho.1
  refine yC_of rfl rfl rfl (by omega) (yk_103_0 ?_)
  have key : ∀ (f : Nat) (acc i : Int), (d 2 1 - i).toNat = f → (0 ≤ i ∧ i ≤ 100) → P (trF (xt_at d) f acc i) d e → yB (D - 1) xm_c103 (yQi L P) L 4 [.ref 1, .double 0, .int (xJ acc), .int (xJ i)] [] d e := by
    intro f
    induction f with
    | zero =>
      intro acc i h1 h2 hp
      exact yk_103_4 (by omega) ⟨by omega, by omega, fun _ => hp, fun z => by omega⟩
    | succ f ih =>
      intro acc i h1 h2 hp
      have r := xt_at_r ho i
      simp only [trF] at hp
      refine yk_103_4 (by omega) ⟨by omega, by omega, fun z => by omega, fun _ => ⟨ho, by omega, fun c => ?_, fun c v ev => ?_⟩⟩
      · rw [if_pos c] at hp; exact hp
      · rw [if_neg c] at hp
        rw [ev]
        exact ih _ _ (by omega) (by omega) hp
  exact key _ _ _ rfl hp h
end TWN
