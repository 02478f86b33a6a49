/-! CALLS: town, its text. -/
section TW2
variable {R : xR} {b : Int} {L D : Nat} {d : xh_D} {e : xd_E}
/-- only the text has changed -/
theorem Inv_te {d' : xh_D} (hI : Inv R b d e) (w : ∀ p, ¬ p = 2 → ¬ p = 3 → ¬ p = 146 → ¬ p = 150 → ¬ p = 152 → d' p = d p) (wm : ∀ i, sm 146 i = false → ¬ i = 5 → d' 146 i = d 146 i) (hT' : iT d') : Inv R b d' e := by
  obtain ⟨hP, hT, hW, hL, hS, hU, hK, hR, hQ, hV, hH, hG⟩ := hI
  have w' : ∀ p, (p < 2 ∨ (3 < p ∧ p < 146) ∨ (146 < p ∧ p < 150) ∨ p = 151 ∨ 152 < p) → d' p = d p := fun p h => w p (by omega) (by omega) (by omega) (by omega) (by omega)
  refine ⟨?_, hT', ?_, ?_, ?_, ?_, ?_, ?_, ?_, ?_, ?_, ?_⟩
  · unfold iP at hP ⊢; rw [w' 6 (by decide), wm 1 rfl (by decide), wm 57 rfl (by decide)]; exact hP
  · exact iW_fk hW (by rw [w' 4 (by decide)]) (wm 7 rfl (by decide)) (w' 5 (by decide)) (w' 151 (by decide))
  · unfold iL at hL ⊢; rw [w' 6 (by decide), w' 7 (by decide), w' 8 (by decide), w' 148 (by decide), w' 149 (by decide)]; exact hL
  · unfold iS at hS ⊢; rw [w' 6 (by decide), w' 12 (by decide), w' 13 (by decide), w' 14 (by decide), w' 15 (by decide), w' 11 (by decide), w' 147 (by decide)]; exact hS
  · exact iU_c hU (fun p h1 h2 => w' p (by omega)) (by rw [w' 23 (by decide)]) (by rw [w' 23 (by decide)]) (wm 31 rfl (by decide)) (by rw [w' 6 (by decide)]) (w' 158 (by decide))
  · exact iK_c hK (fun p h1 h2 => w' p (by omega)) (w' 26 (by decide)) (w' 174 (by decide)) (w' 175 (by decide)) (w' 176 (by decide))
  · rw [w' 111 (by decide), w' 112 (by decide), wm 16 rfl (by decide), w' 153 (by decide)]; exact hR
  · unfold iQ at hQ ⊢; rw [w' 127 (by decide), wm 38 rfl (by decide), w' 163 (by decide), w' 128 (by decide), w' 129 (by decide)]; exact hQ
  · unfold iV at hV ⊢; rw [w' 136 (by decide), wm 46 rfl (by decide), w' 168 (by decide), w' 137 (by decide), w' 138 (by decide), w' 139 (by decide), w' 6 (by decide)]; exact hV
  · unfold iH at hH ⊢; rw [w' 142 (by decide), wm 54 rfl (by decide), w' 173 (by decide), w' 143 (by decide), w' 144 (by decide), w' 6 (by decide)]; exact hH
  · unfold iG at hG ⊢; rw [w' 172 (by decide), w' 156 (by decide)]; exact hG
theorem or_b {a k : Int} (ha : 0 ≤ a ∧ a < 64) (hk : 0 ≤ k ∧ k < 6) : 0 ≤ xi_or a (xi_shl 1 k) ∧ xi_or a (xi_shl 1 k) < 64 := by
  have key : ∀ a : Nat, a < 64 → ∀ k : Nat, k < 6 → 0 ≤ xi_or a (xi_shl 1 k) ∧ xi_or a (xi_shl 1 k) < 64 := by decide +kernel
  have := key a.toNat (by omega) k.toNat (by omega)
  rw [show ((a.toNat : Nat) : Int) = a by omega, show ((k.toNat : Nat) : Int) = k by omega] at this
  exact this
def tDg (T : Int → Int) (N p : Int) : Prop := 48 ≤ T p ∧ T p ≤ 56 ∧ p < N
def tLn (T : Int → Int) (N p : Int) : Prop := tDg T N p ∧ tDg T N (p + 1) ∧ 0 ≤ trF T (N - (p + 2)).toNat 0 (p + 2) ∧ trF T (N - (p + 2)).toNat 0 (p + 2) < 64
theorem tSt_t {T : Int → Int} {i : Int} (h : T i = 59) : tSt T (i + 1) = true := by
  unfold tSt
  rw [show i + 1 - 1 = i by omega]
  simp [h]
theorem tSt_f {T : Int → Int} {i : Int} (hi : 0 ≤ i) (h : ¬ T i = 59) : tSt T (i + 1) = false := by
  unfold tSt
  rw [show i + 1 - 1 = i by omega]
  simp [h]
  omega
theorem tw_ok {T : Int → Int} {N : Int} (hN : 0 ≤ N) : ∀ (f : Nat) (rm k l i : Int), i + f = min N 76 → 0 ≤ i → (0 ≤ k ∧ k ≤ 2) → (-1 ≤ l ∧ l ≤ 5) → 0 ≤ rm → (1 ≤ k → 1 ≤ rm) → (k = 0 → tSt T i = true) → (¬ k = 0 → tSt T i = false) → twF T N f rm k l i = -1 → N ≤ 76 ∧ (cI (tSt T) N + (if k = 0 then 0 else 1) ≤ cI (tSt T) i + rm) ∧ (k < 2 → tDg T N i) ∧ (∀ acc, 0 ≤ acc → acc < 64 → 0 ≤ trF T (N - (i + 2 - k)).toNat acc (i + 2 - k) ∧ trF T (N - (i + 2 - k)).toNat acc (i + 2 - k) < 64) ∧ (∀ p, i ≤ p → p < N → tSt T p = true → tLn T N p) := by
  intro f
  induction f with
  | zero =>
    intro rm k l i h1 h2 h3 h4 h5 h6 h7 h8 hr
    simp only [twF] at hr
    by_cases c : N ≤ 76
    · rw [if_pos c] at hr
      by_cases c2 : 2 ≤ k
      · have ei : i = N := by omega
        have ek : k = 2 := by omega
        refine ⟨c, ?_, fun z => by omega, fun acc a1 a2 => ?_, fun p q1 q2 => by omega⟩
        · rw [ei, if_neg (by omega)]
          have := h6 (by omega)
          omega
        · rw [show (N - (i + 2 - k)).toNat = 0 by omega]
          exact ⟨a1, a2⟩
      · rw [if_neg c2] at hr; omega
    · rw [if_neg c] at hr; omega
  | succ f ih =>
    intro rm k l i h1 h2 h3 h4 h5 h6 h7 h8 hr
    simp only [twF] at hr
    have fu : (N - i).toNat = (N - (i + 1)).toNat + 1 := by omega
    by_cases c : 2 ≤ k
    · have ek : k = 2 := by omega
      have s0 := h8 (by omega)
      rw [if_pos c] at hr
      rw [ek, if_neg (by decide), show i + 2 - 2 = i by omega, fu]
      by_cases c2 : T i = 59
      · rw [if_pos c2] at hr
        have st := tSt_t (T := T) c2
        obtain ⟨g1, g2, g3, g4, g5⟩ := ih (rm - 1) 0 (-1) (i + 1) (by omega) (by omega) (by omega) (by omega) (by omega) (fun z => by omega) (fun _ => st) (fun z => absurd rfl z) hr
        rw [if_pos rfl, cI_f h2 s0] at g2
        refine ⟨g1, by omega, fun z => by omega, fun acc a1 a2 => ?_, fun p q1 q2 q3 => ?_⟩
        · simp only [trF]; rw [if_pos c2]; exact ⟨a1, a2⟩
        · by_cases z : p = i
          · rw [z, s0] at q3; exact absurd q3 (by decide)
          · exact g5 p (by omega) q2 q3
      · rw [if_neg c2] at hr
        by_cases c3 : 117 < T i
        · rw [if_pos c3] at hr; omega
        · rw [if_neg c3] at hr
          by_cases c4 : T i - 112 ≤ l
          · rw [if_pos c4] at hr; omega
          · rw [if_neg c4] at hr
            have st := tSt_f (T := T) h2 c2
            obtain ⟨g1, g2, g3, g4, g5⟩ := ih rm k (T i - 112) (i + 1) (by omega) (by omega) h3 (by omega) h5 h6 (fun z => by omega) (fun _ => st) hr
            rw [if_neg (by omega), cI_f h2 s0] at g2
            refine ⟨g1, by omega, fun z => by omega, fun acc a1 a2 => ?_, fun p q1 q2 q3 => ?_⟩
            · simp only [trF]
              rw [if_neg c2]
              have ob := or_b ⟨a1, a2⟩ (k := T i - 112) (by omega)
              have := g4 _ ob.1 ob.2
              rw [show i + 1 + 2 - k = i + 1 by omega] at this
              exact this
            · by_cases z : p = i
              · rw [z, s0] at q3; exact absurd q3 (by decide)
              · exact g5 p (by omega) q2 q3
    · rw [if_neg c] at hr
      by_cases c2 : 48 ≤ T i ∧ T i ≤ 56
      · rw [if_pos c2] at hr
        by_cases c3 : k = 0 ∧ rm = 0
        · rw [if_pos c3] at hr; omega
        · rw [if_neg c3] at hr
          have st := tSt_f (T := T) h2 (show ¬ T i = 59 by omega)
          obtain ⟨g1, g2, g3, g4, g5⟩ := ih rm (k + 1) l (i + 1) (by omega) (by omega) (by omega) h4 h5 (fun z => by omega) (fun z => by omega) (fun _ => st) hr
          rw [show i + 1 + 2 - (k + 1) = i + 2 - k by omega] at g4
          rw [if_neg (by omega)] at g2
          have dg : tDg T N i := ⟨c2.1, c2.2, by omega⟩
          refine ⟨g1, ?_, fun _ => dg, g4, fun p q1 q2 q3 => ?_⟩
          · by_cases z : k = 0
            · rw [if_pos z]; rw [cI_t h2 (h7 z)] at g2; omega
            · rw [if_neg z]; rw [cI_f h2 (h8 z)] at g2; omega
          · by_cases z : p = i
            · subst z
              by_cases w : k = 0
              · subst w
                have := g4 0 (by omega) (by omega)
                rw [show p + 2 - 0 = p + 2 by omega] at this
                exact ⟨dg, g3 (by omega), this⟩
              · rw [h8 w] at q3; exact absurd q3 (by decide)
            · exact g5 p (by omega) q2 q3
      · rw [if_neg c2] at hr; omega
def tw (T : Int → Int) (N rm k l i : Int) : Int := twF T N (min N 76 - i).toNat rm k l i
section TWP
variable {T : Int → Int} {N rm k l i : Int}
theorem tw_e (h : i = min N 76) : tw T N rm k l i = if N ≤ 76 then (if 2 ≤ k then -1 else N) else 76 := by
  unfold tw
  rw [show (min N 76 - i).toNat = 0 by omega]
  rfl
theorem tw_n (h : i < min N 76) : tw T N rm k l i = if 2 ≤ k then (if T i = 59 then tw T N (rm - 1) 0 (-1) (i + 1) else if 117 < T i then i else if T i - 112 ≤ l then i else tw T N rm k (T i - 112) (i + 1)) else if 48 ≤ T i ∧ T i ≤ 56 then (if k = 0 ∧ rm = 0 then i else tw T N rm (k + 1) l (i + 1)) else i := by
  unfold tw
  rw [show (min N 76 - i).toNat = (min N 76 - (i + 1)).toNat + 1 by omega]
  rfl
theorem hc_n (h : i < min N 76) : hcT T N 76 i = T i := if_pos (by omega)
theorem hc_e (h : i = min N 76) : hcT T N 76 i = -1 := if_neg (by omega)
theorem tw_d (hi : i ≤ min N 76) (hk : k < 2) (hz : ¬ (k = 0 ∧ rm = 0)) (h : 48 ≤ hcT T N 76 i) (h' : hcT T N 76 i ≤ 56) : tw T N rm k l i = tw T N rm (k + 1) l (i + 1) ∧ i < min N 76 ∧ T i = hcT T N 76 i := by
  by_cases z : i < min N 76
  · rw [hc_n z] at h h'
    rw [tw_n z, if_neg (by omega), if_pos ⟨h, h'⟩, if_neg hz, hc_n z]
    exact ⟨rfl, z, rfl⟩
  · rw [hc_e (by omega)] at h; omega
theorem tw_df (hi : i ≤ min N 76) (hk : k < 2) (h : (k = 0 ∧ rm = 0) ∨ ¬ (48 ≤ hcT T N 76 i ∧ hcT T N 76 i ≤ 56)) : tw T N rm k l i = i := by
  by_cases z : i < min N 76
  · rw [hc_n z] at h
    rw [tw_n z, if_neg (by omega)]
    by_cases w : 48 ≤ T i ∧ T i ≤ 56
    · rw [if_pos w, if_pos (h.resolve_right (fun q => q w))]
    · rw [if_neg w]
  · rw [tw_e (by omega)]
    by_cases w : N ≤ 76
    · rw [if_pos w, if_neg (by omega)]; omega
    · rw [if_neg w]; omega
theorem tw_l (hi : i ≤ min N 76) (h : 112 ≤ hcT T N 76 i) (h' : hcT T N 76 i ≤ 117) : (tw T N rm 2 l i = if l < hcT T N 76 i - 112 then tw T N rm 2 (hcT T N 76 i - 112) (i + 1) else i) ∧ i < min N 76 ∧ T i = hcT T N 76 i := by
  by_cases z : i < min N 76
  · rw [hc_n z] at h h'
    rw [tw_n z, if_pos (by omega), if_neg (by omega), if_neg (by omega), hc_n z]
    refine ⟨?_, z, rfl⟩
    by_cases w : T i - 112 ≤ l
    · rw [if_pos w, if_neg (by omega)]
    · rw [if_neg w, if_pos (by omega)]
  · rw [hc_e (by omega)] at h; omega
theorem tw_x (hi : i ≤ min N 76) (hl : -1 ≤ l) (h : ¬ (112 ≤ hcT T N 76 i ∧ hcT T N 76 i ≤ 117)) : tw T N rm 2 l i = if hcT T N 76 i = 59 then tw T N (rm - 1) 0 (-1) (i + 1) else if N ≤ i then -1 else i := by
  by_cases z : i < min N 76
  · rw [hc_n z] at h ⊢
    rw [tw_n z, if_pos (by omega)]
    by_cases w : T i = 59
    · rw [if_pos w, if_pos w]
    · rw [if_neg w, if_neg w, if_neg (show ¬ N ≤ i by omega)]
      by_cases w2 : 117 < T i
      · rw [if_pos w2]
      · rw [if_neg w2, if_pos (by omega)]
  · rw [tw_e (by omega), hc_e (by omega), if_pos (show (2 : Int) ≤ 2 by decide), if_neg (show ¬ (-1 : Int) = 59 by decide)]
    by_cases w : N ≤ 76
    · rw [if_pos w, if_pos (by omega)]
    · rw [if_neg w, if_neg (by omega)]; omega
end TWP
end TW2
