/-! THE RULE: what tokens come to; the reference's reading. -/
def tk (th : Int → Int) (s : List Int) (t : Int) : List Int := if -7 ≤ t then (if 0 ≤ t then t else th (-1 - t)) :: s else if t = -256 ∧ ¬ s = [] then xw (-(s.headD 0)) :: s.tail else match s with
  | y :: x :: s' => xp_join (-t) x y :: s'
  | s => s
def run (th : Int → Int) (r s : List Int) : List Int := r.foldl (tk th) s
def val (th : Int → Int) (r : List Int) (v : Int) : Prop := ∀ s, run th r s = v :: s
theorem run_app {th : Int → Int} {a b s : List Int} : run th (a ++ b) s = run th b (run th a s) := List.foldl_append
theorem val_neg {th : Int → Int} {r : List Int} {v : Int} (h : val th r v) : val th (r ++ [-256]) (xw (-v)) := fun s => by
  rw [run_app, h s]
  show tk th (v :: s) (-256) = _
  unfold tk
  rw [if_neg (by decide), if_pos ⟨rfl, by simp⟩]
  rfl
theorem val_op {th : Int → Int} {r1 r2 : List Int} {v1 v2 x : Int} (h1 : val th r1 v1) (h2 : val th r2 v2) (hx : 7 < x ∧ ¬ x = 256) : val th (r1 ++ r2 ++ [-x]) (xp_join x v1 v2) := fun s => by
  rw [run_app, run_app, h1 s, h2 (v1 :: s)]
  show tk th (v2 :: v1 :: s) (-x) = _
  unfold tk
  rw [if_neg (by omega), if_neg (fun w => hx.2 (by omega)), Int.neg_neg]
theorem val_num {th : Int → Int} {v : Int} (h : 0 ≤ v) : val th [v] v := fun s => by
  show tk th s v = _
  unfold tk
  rw [if_pos (by omega), if_pos h]
theorem val_th {th : Int → Int} {x : Int} (h : 0 ≤ x ∧ x < 7) : val th [-1 - x] (th x) := fun s => by
  show tk th s (-1 - x) = _
  unfold tk
  rw [if_pos (by omega), if_neg (by omega), show -1 - (-1 - x) = x by omega]
theorem yC_w {D g L : Nat} {a : List Value} {d : xh_D} {e : xd_E} {P : Int → xh_D → xd_E → Prop} (h : yC D g L a d e (fun z d e => P (xw z) d e)) : yC D g L a d e P := xC_mono h (fun _ _ _ ⟨z, d1, h1, h2, h3⟩ => ⟨xw z, d1, by rw [xw_J]; exact h1, h2, h3⟩)
def rdQ (q : Nat) (T : Int → Int) (N : Int) (i : Nat) (d : xh_D) : Prop := d 146 9 = q ∧ ((q = 150 ∧ N ≤ 80) ∨ (q = 153 ∧ N ≤ 40)) ∧ d 146 10 = N ∧ d 146 11 = 40 ∧ d 146 12 = i ∧ d 146 13 = -1 ∧ 0 ≤ N ∧ (i : Int) ≤ 40 ∧ ∀ j, 0 ≤ j → j < N → j < 40 → (0 ≤ T j ∧ T j < 256) ∧ d q j = xt_sb (T j)
def cH (T : Int → Int) (N : Int) (p : Nat) : Int := hcT T N 40 p
def Fr (d d' : xh_D) : Prop := ∀ p i, ¬ (p = 146 ∧ (i = 12 ∨ i = 13)) → d' p i = d p i
def evM (th : Int → Int) (d : xh_D) : Prop := (∀ x, 0 ≤ x → x < 7 → yR (th x)) ∧ ((d 146 17 = 0 ∧ ∀ x, 0 ≤ x → x < 7 → th x = 0) ∨ ∃ a : Nat, (a = 147 ∨ a = 162) ∧ d 146 17 = a ∧ (0 ≤ d 146 18 ∧ d 146 18 < 9) ∧ (0 ≤ d 146 19 ∧ d 146 19 < 9) ∧ (0 ≤ d 146 20 ∧ d 146 20 < 2147483648) ∧ (0 ≤ d a (9 + d 146 18) ∧ d a (9 + d 146 18) < 9) ∧ (0 ≤ d a (9 + d 146 19) ∧ d a (9 + d 146 19) < 9) ∧ th 0 = d 148 (9 * d 146 18 + d 146 19) ∧ th 1 = d 148 (9 * d 146 19 + d 146 18) ∧ th 2 = xp_apart (d a (9 + d 146 18)) (d a (9 + d 146 19)) ∧ th 3 = xp_bc (xi_and (d a (18 + d 146 19)) (xi_xor (d a (18 + d 146 18)) (-1))) ∧ th 4 = d 146 20 % 9 ∧ th 5 = d 146 18 ∧ th 6 = d 146 19)
theorem Fr_r {d : xh_D} : Fr d d := fun _ _ _ => rfl
theorem Fr_t {d d1 d2 : xh_D} (h : Fr d d1) (h2 : Fr d1 d2) : Fr d d2 := fun p i a => by rw [h2 p i a, h p i a]
theorem Fr_12 {d : xh_D} {v : Int} : Fr d (xs d 146 12 v) := fun p i a => by
  refine if_neg (fun w => a ⟨w.1, Or.inl w.2⟩)
theorem Fr_13 {d : xh_D} {v : Int} : Fr d (xs d 146 13 v) := fun p i a => by
  refine if_neg (fun w => a ⟨w.1, Or.inr w.2⟩)
theorem evM_c {th : Int → Int} {d d' : xh_D} (h : evM th d) (f : Fr d d') : evM th d' := by
  unfold evM at h ⊢
  rw [f 146 17 (by decide), f 146 18 (by decide), f 146 19 (by decide), f 146 20 (by decide)]
  refine ⟨h.1, ?_⟩
  rcases h.2 with h | ⟨a, h1, h⟩
  · exact Or.inl h
  · refine Or.inr ⟨a, h1, ?_⟩
    have fa : d' a = d a := funext fun i => f a i (by omega)
    have fb : d' 148 = d 148 := funext fun i => f 148 i (by omega)
    rw [fa, fb]
    exact h
section RUM
variable {L D : Nat} {d : xh_D} {e : xd_E} {T : Int → Int} {N : Int} {q i : Nat}
theorem rq_h (s : rdQ q T N i d) : xm_hok d ∧ ((cH T N i < 128 ∧ xm_here d = cH T N i) ∨ (128 ≤ cH T N i ∧ xm_here d = cH T N i - 256)) ∧ (-1 ≤ cH T N i ∧ cH T N i < 256) ∧ (¬ cH T N i = -1 → (i : Int) < N ∧ i < 40) := by
  obtain ⟨s1, s2, s3, s4, s5, s6, s7, s8, s9⟩ := s
  refine ⟨⟨by omega, by omega, by omega, by omega, ?_⟩, ?_⟩
  · rcases s2 with w | w
    · exact Or.inl ⟨by rw [s1, w.1]; rfl, by omega, by omega⟩
    · exact Or.inr ⟨by rw [s1, w.1]; rfl, by omega, by omega⟩
  unfold xm_here cH hcT
  rw [s1, s3, s4, s5]
  by_cases z : (i : Int) < N ∧ (i : Int) < 40
  · rw [if_pos z, if_pos z, Int.toNat_natCast, (s9 i (by omega) z.1 z.2).2]
    have := (s9 i (by omega) z.1 z.2).1
    unfold xt_sb
    split <;> omega
  · rw [if_neg z, if_neg z]
    omega
theorem rq_n (s : rdQ q T N i d) (h : (i : Int) < N ∧ i < 40) : rdQ q T N (i + 1) (xs d 146 12 (i + 1)) := by
  obtain ⟨s1, s2, s3, s4, s5, s6, s7, s8, s9⟩ := s
  refine ⟨?_, s2, ?_, ?_, ?_, ?_, s7, by omega, fun j a b c => ⟨(s9 j a b c).1, ?_⟩⟩
  · rw [xs_ni (by decide)]; exact s1
  · rw [xs_ni (by decide)]; exact s3
  · rw [xs_ni (by decide)]; exact s4
  · rw [xs_eq]; rfl
  · rw [xs_ni (by decide)]; exact s6
  · rw [xs_np (by omega)]; exact (s9 j a b c).2
theorem sq_193q {c : Int} {P1 P0 : xh_D → xd_E → Prop} (hD : 2 ≤ D) (hc : 0 ≤ c ∧ c < 128) (s : rdQ q T N i d) (h1 : cH T N i = c → P1 (xs d 146 12 (i + 1)) e) (h0 : ¬ cH T N i = c → P0 d e) : yZ D 193 L [.ref 146, .int (xJ c)] d e P1 P0 := by
  obtain ⟨r1, r2, r3, r4⟩ := rq_h s
  obtain ⟨s1, s2, s3, s4, s5, s6, s7, s8, s9⟩ := s
  refine yZ_of rfl rfl rfl (by omega) (yk_193_0 (by omega) ?_)
  rw [s6, s5]
  exact ⟨by omega, fun _ => ⟨r1, by omega, by omega, fun w => h1 (by omega), fun w => h0 (by omega)⟩, fun z => absurd rfl z⟩
theorem sq_207_147 {l : Int} {th : Int → Int} {P : Int → xh_D → xd_E → Prop} (hD : 3 ≤ D) (hl : ¬ xp_thg l = -1) (h6 : 0 ≤ d 146 18 ∧ d 146 18 < 9) (h7 : 0 ≤ d 146 19 ∧ d 146 19 < 9) (h8 : 0 ≤ d 146 20 ∧ d 146 20 < 2147483648) (h9 : 0 ≤ d 147 (9 + d 146 18) ∧ d 147 (9 + d 146 18) < 9) (h10 : 0 ≤ d 147 (9 + d 146 19) ∧ d 147 (9 + d 146 19) < 9) (e0 : th 0 = d 148 (9 * d 146 18 + d 146 19)) (e1 : th 1 = d 148 (9 * d 146 19 + d 146 18)) (e2 : th 2 = xp_apart (d 147 (9 + d 146 18)) (d 147 (9 + d 146 19))) (e3 : th 3 = xp_bc (xi_and (d 147 (18 + d 146 19)) (xi_xor (d 147 (18 + d 146 18)) (-1)))) (e4 : th 4 = d 146 20 % 9) (e5 : th 5 = d 146 18) (e6 : th 6 = d 146 19) (h : P (th (xp_thg l)) d e) : yC D 207 L [.ref 146, .int (xJ l), .ref 147] d e P := by
  have hv : l = 116 ∨ l = 117 ∨ l = 114 ∨ l = 107 ∨ l = 100 ∨ l = 105 ∨ l = 106 := by unfold xp_thg at hl; repeat' split at hl <;> omega
  rcases hv with rfl | rfl | rfl | rfl | rfl | rfl | rfl
  · replace h : P (th 0) d e := h
    exact yC_of rfl rfl rfl (by omega) (yk_207_147_0 (by omega) ⟨by decide, fun z => absurd z (by decide), fun z => absurd z (by decide), fun z => absurd z (by decide), fun z => absurd z (by decide), fun z => absurd z (by decide), fun z => absurd z (by decide), fun z => absurd z (by decide), fun z => absurd z (by decide), fun z => absurd z (by decide), fun z => absurd z (by decide), fun z => absurd z (by decide), fun z => absurd z (by decide), fun z => absurd z (by decide), fun z => absurd z (by decide), fun z => absurd z (by decide), fun z => absurd z (by decide), fun z => absurd z (by decide), fun _ => ⟨by omega, by rw [← e0]; exact h⟩, fun z => absurd z (by decide)⟩)
  · replace h : P (th 1) d e := h
    exact yC_of rfl rfl rfl (by omega) (yk_207_147_0 (by omega) ⟨by decide, fun z => absurd z (by decide), fun z => absurd z (by decide), fun z => absurd z (by decide), fun z => absurd z (by decide), fun z => absurd z (by decide), fun z => absurd z (by decide), fun z => absurd z (by decide), fun z => absurd z (by decide), fun z => absurd z (by decide), fun z => absurd z (by decide), fun z => absurd z (by decide), fun z => absurd z (by decide), fun z => absurd z (by decide), fun z => absurd z (by decide), fun z => absurd z (by decide), fun z => absurd z (by decide), fun z => absurd z (by decide), fun z => absurd z (by decide), fun _ => ⟨by omega, by rw [← e1]; exact h⟩⟩)
  · replace h : P (th 2) d e := h
    exact yC_of rfl rfl rfl (by omega) (yk_207_147_0 (by omega) ⟨by decide, fun z => absurd z (by decide), fun z => absurd z (by decide), fun z => absurd z (by decide), fun z => absurd z (by decide), fun z => absurd z (by decide), fun z => absurd z (by decide), fun z => absurd z (by decide), fun z => absurd z (by decide), fun z => absurd z (by decide), fun z => absurd z (by decide), fun z => absurd z (by decide), fun z => absurd z (by decide), fun z => absurd z (by decide), fun z => absurd z (by decide), fun z => absurd z (by decide), fun _ => ⟨by omega, by omega, h9, h10, by rw [← e2]; exact h⟩, fun z => absurd z (by decide), fun z => absurd z (by decide), fun z => absurd z (by decide)⟩)
  · replace h : P (th 3) d e := h
    exact yC_of rfl rfl rfl (by omega) (yk_207_147_0 (by omega) ⟨by decide, fun z => absurd z (by decide), fun z => absurd z (by decide), fun z => absurd z (by decide), fun z => absurd z (by decide), fun z => absurd z (by decide), fun z => absurd z (by decide), fun z => absurd z (by decide), fun z => absurd z (by decide), fun _ => ⟨by omega, by omega, by rw [← e3]; exact h⟩, fun z => absurd z (by decide), fun z => absurd z (by decide), fun z => absurd z (by decide), fun z => absurd z (by decide), fun z => absurd z (by decide), fun z => absurd z (by decide), fun z => absurd z (by decide), fun z => absurd z (by decide), fun z => absurd z (by decide), fun z => absurd z (by decide)⟩)
  · replace h : P (th 4) d e := h
    exact yC_of rfl rfl rfl (by omega) (yk_207_147_0 (by omega) ⟨by decide, fun z => absurd z (by decide), fun _ => ⟨h8, by rw [← e4]; exact h⟩, fun z => absurd z (by decide), fun z => absurd z (by decide), fun z => absurd z (by decide), fun z => absurd z (by decide), fun z => absurd z (by decide), fun z => absurd z (by decide), fun z => absurd z (by decide), fun z => absurd z (by decide), fun z => absurd z (by decide), fun z => absurd z (by decide), fun z => absurd z (by decide), fun z => absurd z (by decide), fun z => absurd z (by decide), fun z => absurd z (by decide), fun z => absurd z (by decide), fun z => absurd z (by decide), fun z => absurd z (by decide)⟩)
  · replace h : P (th 5) d e := h
    exact yC_of rfl rfl rfl (by omega) (yk_207_147_0 (by omega) ⟨by decide, fun z => absurd z (by decide), fun z => absurd z (by decide), fun z => absurd z (by decide), fun z => absurd z (by decide), fun z => absurd z (by decide), fun z => absurd z (by decide), fun _ => by rw [← e5]; exact h, fun z => absurd z (by decide), fun z => absurd z (by decide), fun z => absurd z (by decide), fun z => absurd z (by decide), fun z => absurd z (by decide), fun z => absurd z (by decide), fun z => absurd z (by decide), fun z => absurd z (by decide), fun z => absurd z (by decide), fun z => absurd z (by decide), fun z => absurd z (by decide), fun z => absurd z (by decide)⟩)
  · replace h : P (th 6) d e := h
    exact yC_of rfl rfl rfl (by omega) (yk_207_147_0 (by omega) ⟨by decide, fun z => absurd z (by decide), fun z => absurd z (by decide), fun z => absurd z (by decide), fun z => absurd z (by decide), fun z => absurd z (by decide), fun z => absurd z (by decide), fun z => absurd z (by decide), fun _ => by rw [← e6]; exact h, fun z => absurd z (by decide), fun z => absurd z (by decide), fun z => absurd z (by decide), fun z => absurd z (by decide), fun z => absurd z (by decide), fun z => absurd z (by decide), fun z => absurd z (by decide), fun z => absurd z (by decide), fun z => absurd z (by decide), fun z => absurd z (by decide), fun z => absurd z (by decide)⟩)
theorem sq_207_162 {l : Int} {th : Int → Int} {P : Int → xh_D → xd_E → Prop} (hD : 3 ≤ D) (hl : ¬ xp_thg l = -1) (h6 : 0 ≤ d 146 18 ∧ d 146 18 < 9) (h7 : 0 ≤ d 146 19 ∧ d 146 19 < 9) (h8 : 0 ≤ d 146 20 ∧ d 146 20 < 2147483648) (h9 : 0 ≤ d 162 (9 + d 146 18) ∧ d 162 (9 + d 146 18) < 9) (h10 : 0 ≤ d 162 (9 + d 146 19) ∧ d 162 (9 + d 146 19) < 9) (e0 : th 0 = d 148 (9 * d 146 18 + d 146 19)) (e1 : th 1 = d 148 (9 * d 146 19 + d 146 18)) (e2 : th 2 = xp_apart (d 162 (9 + d 146 18)) (d 162 (9 + d 146 19))) (e3 : th 3 = xp_bc (xi_and (d 162 (18 + d 146 19)) (xi_xor (d 162 (18 + d 146 18)) (-1)))) (e4 : th 4 = d 146 20 % 9) (e5 : th 5 = d 146 18) (e6 : th 6 = d 146 19) (h : P (th (xp_thg l)) d e) : yC D 207 L [.ref 146, .int (xJ l), .ref 162] d e P := by
  have hv : l = 116 ∨ l = 117 ∨ l = 114 ∨ l = 107 ∨ l = 100 ∨ l = 105 ∨ l = 106 := by unfold xp_thg at hl; repeat' split at hl <;> omega
  rcases hv with rfl | rfl | rfl | rfl | rfl | rfl | rfl
  · replace h : P (th 0) d e := h
    exact yC_of rfl rfl rfl (by omega) (yk_207_162_0 (by omega) ⟨by decide, fun z => absurd z (by decide), fun z => absurd z (by decide), fun z => absurd z (by decide), fun z => absurd z (by decide), fun z => absurd z (by decide), fun z => absurd z (by decide), fun z => absurd z (by decide), fun z => absurd z (by decide), fun z => absurd z (by decide), fun z => absurd z (by decide), fun z => absurd z (by decide), fun z => absurd z (by decide), fun z => absurd z (by decide), fun z => absurd z (by decide), fun z => absurd z (by decide), fun z => absurd z (by decide), fun z => absurd z (by decide), fun _ => ⟨by omega, by rw [← e0]; exact h⟩, fun z => absurd z (by decide)⟩)
  · replace h : P (th 1) d e := h
    exact yC_of rfl rfl rfl (by omega) (yk_207_162_0 (by omega) ⟨by decide, fun z => absurd z (by decide), fun z => absurd z (by decide), fun z => absurd z (by decide), fun z => absurd z (by decide), fun z => absurd z (by decide), fun z => absurd z (by decide), fun z => absurd z (by decide), fun z => absurd z (by decide), fun z => absurd z (by decide), fun z => absurd z (by decide), fun z => absurd z (by decide), fun z => absurd z (by decide), fun z => absurd z (by decide), fun z => absurd z (by decide), fun z => absurd z (by decide), fun z => absurd z (by decide), fun z => absurd z (by decide), fun z => absurd z (by decide), fun _ => ⟨by omega, by rw [← e1]; exact h⟩⟩)
  · replace h : P (th 2) d e := h
    exact yC_of rfl rfl rfl (by omega) (yk_207_162_0 (by omega) ⟨by decide, fun z => absurd z (by decide), fun z => absurd z (by decide), fun z => absurd z (by decide), fun z => absurd z (by decide), fun z => absurd z (by decide), fun z => absurd z (by decide), fun z => absurd z (by decide), fun z => absurd z (by decide), fun z => absurd z (by decide), fun z => absurd z (by decide), fun z => absurd z (by decide), fun z => absurd z (by decide), fun z => absurd z (by decide), fun z => absurd z (by decide), fun z => absurd z (by decide), fun _ => ⟨by omega, by omega, h9, h10, by rw [← e2]; exact h⟩, fun z => absurd z (by decide), fun z => absurd z (by decide), fun z => absurd z (by decide)⟩)
  · replace h : P (th 3) d e := h
    exact yC_of rfl rfl rfl (by omega) (yk_207_162_0 (by omega) ⟨by decide, fun z => absurd z (by decide), fun z => absurd z (by decide), fun z => absurd z (by decide), fun z => absurd z (by decide), fun z => absurd z (by decide), fun z => absurd z (by decide), fun z => absurd z (by decide), fun z => absurd z (by decide), fun _ => ⟨by omega, by omega, by rw [← e3]; exact h⟩, fun z => absurd z (by decide), fun z => absurd z (by decide), fun z => absurd z (by decide), fun z => absurd z (by decide), fun z => absurd z (by decide), fun z => absurd z (by decide), fun z => absurd z (by decide), fun z => absurd z (by decide), fun z => absurd z (by decide), fun z => absurd z (by decide)⟩)
  · replace h : P (th 4) d e := h
    exact yC_of rfl rfl rfl (by omega) (yk_207_162_0 (by omega) ⟨by decide, fun z => absurd z (by decide), fun _ => ⟨h8, by rw [← e4]; exact h⟩, fun z => absurd z (by decide), fun z => absurd z (by decide), fun z => absurd z (by decide), fun z => absurd z (by decide), fun z => absurd z (by decide), fun z => absurd z (by decide), fun z => absurd z (by decide), fun z => absurd z (by decide), fun z => absurd z (by decide), fun z => absurd z (by decide), fun z => absurd z (by decide), fun z => absurd z (by decide), fun z => absurd z (by decide), fun z => absurd z (by decide), fun z => absurd z (by decide), fun z => absurd z (by decide), fun z => absurd z (by decide)⟩)
  · replace h : P (th 5) d e := h
    exact yC_of rfl rfl rfl (by omega) (yk_207_162_0 (by omega) ⟨by decide, fun z => absurd z (by decide), fun z => absurd z (by decide), fun z => absurd z (by decide), fun z => absurd z (by decide), fun z => absurd z (by decide), fun z => absurd z (by decide), fun _ => by rw [← e5]; exact h, fun z => absurd z (by decide), fun z => absurd z (by decide), fun z => absurd z (by decide), fun z => absurd z (by decide), fun z => absurd z (by decide), fun z => absurd z (by decide), fun z => absurd z (by decide), fun z => absurd z (by decide), fun z => absurd z (by decide), fun z => absurd z (by decide), fun z => absurd z (by decide), fun z => absurd z (by decide)⟩)
  · replace h : P (th 6) d e := h
    exact yC_of rfl rfl rfl (by omega) (yk_207_162_0 (by omega) ⟨by decide, fun z => absurd z (by decide), fun z => absurd z (by decide), fun z => absurd z (by decide), fun z => absurd z (by decide), fun z => absurd z (by decide), fun z => absurd z (by decide), fun z => absurd z (by decide), fun _ => by rw [← e6]; exact h, fun z => absurd z (by decide), fun z => absurd z (by decide), fun z => absurd z (by decide), fun z => absurd z (by decide), fun z => absurd z (by decide), fun z => absurd z (by decide), fun z => absurd z (by decide), fun z => absurd z (by decide), fun z => absurd z (by decide), fun z => absurd z (by decide), fun z => absurd z (by decide)⟩)
theorem sq_104 {l : Int} {th : Int → Int} {P : Int → xh_D → xd_E → Prop} (hD : 4 ≤ D) (hl : ¬ xp_thg l = -1) (ev : evM th d) (h : P (th (xp_thg l)) (xs d 146 12 (d 146 12 + 1)) e) : yB D xm_c206 (yQi L P) L 104 [.ref 146, .double 0, .int (xJ l), .double 0, .double 0] [] d e := by
  have r : 0 ≤ xp_thg l ∧ xp_thg l < 7 := by unfold xp_thg at hl ⊢; repeat' split <;> omega
  have ev' := evM_c ev (Fr_12 (v := d 146 12 + 1))
  generalize hd' : xs d 146 12 (d 146 12 + 1) = d' at ev' h
  rcases ev.2 with ⟨w, w2⟩ | ⟨a, w1, w2, w3⟩
  · refine yk_206_104 ⟨by omega, fun z => absurd w z, fun _ => ?_⟩
    rw [w2 _ r.1 r.2] at h
    rw [hd']
    exact h
  · have e17 : d' 146 17 = a := by rw [← hd', xs_ni (by decide)]; exact w2
    rcases ev'.2 with ⟨u, _⟩ | ⟨a', u1, u2, u3, u4, u5, u6, u7, u8, u9, u10, u11, u12, u13, u14⟩
    · omega
    · have ea : a' = a := by omega
      subst ea
      rcases w1 with rfl | rfl
      · refine yk_206_104 ⟨by omega, fun _ => ⟨fun _ => ?_, fun z => by omega, Or.inl (by omega)⟩, fun z => by omega⟩
        rw [hd']
        exact sq_207_147 (by omega) hl u3 u4 u5 u6 u7 u8 u9 u10 u11 u12 u13 u14 h
      · refine yk_206_104 ⟨by omega, fun _ => ⟨fun z => by omega, fun _ => ?_, Or.inr (by omega)⟩, fun z => by omega⟩
        rw [hd']
        exact sq_207_162 (by omega) hl u3 u4 u5 u6 u7 u8 u9 u10 u11 u12 u13 u14 h
end RUM
