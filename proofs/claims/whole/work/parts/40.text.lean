/-! CALLS: sign, trust, likes. -/
theorem sg_b (v : Int) {k : Nat} (hk : k = 0 ∨ k = 8 ∨ k = 16 ∨ k = 24) : xi_i8 (xi_shr v k) = xt_sb (xi_and (xi_ushr v k) 255) ∧ 0 ≤ xi_and (xi_ushr v k) 255 ∧ xi_and (xi_ushr v k) 255 < 256 := by
  have hs : xi_shr v k = (xJ v).toInt / 2 ^ k := by
    show (BitVec.sshiftRight (xJ v).toBitVec ((xJ (k : Int) &&& 31).toBitVec.smod 32).toNat).toInt = _
    rw [bt_k (by omega), BitVec.toInt_sshiftRight, Int.shiftRight_eq_div_pow]
    rfl
  have hn : (xp_ushr (xJ v) (xJ (k : Int))).toBitVec.toNat = (xJ v).toBitVec.toNat >>> k := by
    show ((xJ v).toUInt32 >>> ((xJ (k : Int)).toUInt32 &&& Int32.toUInt32 31)).toNat = _
    rw [UInt32.toNat_shiftRight]
    have : ((xJ (k : Int)).toUInt32 &&& Int32.toUInt32 31).toNat % 32 = k := by rcases hk with rfl | rfl | rfl | rfl <;> decide
    rw [this]
    rfl
  have hu : xi_and (xi_ushr v k) 255 = (((xJ v).toBitVec.toNat / 2 ^ k % 256 : Nat) : Int) := by
    refine bt_of ?_ (Nat.lt_of_lt_of_le (Nat.mod_lt _ (by decide)) (by decide))
    rw [Int32.toBitVec_and, BitVec.toNat_and, show xJ (xi_ushr v k) = xp_ushr (xJ v) (xJ (k : Int)) from xJ_toInt _, hn, show (xJ 255).toBitVec.toNat = 2 ^ 8 - 1 from rfl, Nat.and_two_pow_sub_one_eq_mod, Nat.shiftRight_eq_div_pow]
  have hi : xi_i8 (xi_shr v k) = ((xJ v).toInt / 2 ^ k).bmod (2 ^ 8) := by
    unfold xi_i8
    rw [Int8.toInt_toInt32, Int32.toInt_toInt8, hs, show (xJ ((xJ v).toInt / 2 ^ k)).toInt = (xJ v).toInt / 2 ^ k from ?_]
    rw [← hs]
    exact xw_i (xJ_rng _)
  have ht : (xJ v).toInt = if 2 * (xJ v).toBitVec.toNat < 2 ^ 32 then (((xJ v).toBitVec.toNat : Nat) : Int) else (((xJ v).toBitVec.toNat : Nat) : Int) - ((2 ^ 32 : Nat) : Int) := BitVec.toInt_eq_toNat_cond _
  rw [hi, hu, ht]
  have hl := (xJ v).toBitVec.isLt
  generalize (xJ v).toBitVec.toNat = a at hl ⊢
  unfold xt_sb Int.bmod
  rcases hk with rfl | rfl | rfl | rfl <;> (refine ⟨?_, by omega, by omega⟩; split <;> simp only [] <;> split <;> split <;> omega)
section OP6
variable {R : xR} {b : Int} {L D : Nat} {d : xh_D} {e : xd_E} {P : Int → xh_D → xd_E → Prop}
theorem xs_xwo {q p : Nat} {o n v i : Int} {f : Int → Int} {u w : Int} (h : ¬ p = q) (hn : 0 ≤ n) (hf : f n = v) : xs (xs (xs (xwo d q o n f) p i u) q (o + n) v) p i w = xs (xwo d q o (n + 1) f) p i w := by
  rw [xs_sw (q := p) (q' := q) (fun c => h c.1), xs_xs, ← hf, xwo_s hn]
theorem op_sign {a1 : Int} (r1 : yR a1) (hI : Inv R b d e) : Op R b b L 98 187 [.int (xJ a1)] d e := by
  obtain ⟨hP, hT, hW, hL, hS, hU, hK, hR, hQ, hV, hH, hG⟩ := hI
  have t1 := hT.1.1
  have t2 := hT.2.1
  refine yC_of rfl rfl rfl (by omega) (yk_98_0 (by omega) ⟨by omega, fun c => ?_, fun c => ?_⟩)
  · have hf := fun (k : Int) (h : 0 ≤ k ∧ k < 4) => sg_b a1 (k := (24 - 8 * k).toNat) (by omega)
    have hc : ∀ k, 0 ≤ k → k < 4 → (((24 - 8 * k).toNat : Nat) : Int) = 24 - 8 * k := fun k h1 h2 => by omega
    have hf2 : ∀ k, 0 ≤ k → k < 4 → xi_i8 (xi_shr a1 (24 - 8 * k)) = xt_sb (xi_and (xi_ushr a1 (24 - 8 * k)) 255) ∧ 0 ≤ xi_and (xi_ushr a1 (24 - 8 * k)) 255 ∧ xi_and (xi_ushr a1 (24 - 8 * k)) 255 < 256 := fun k h1 h2 => by
      have := hf k ⟨h1, h2⟩
      rw [hc k h1 h2] at this
      exact this
    have hl := lp_up (n := 4) (X := fun k => yB (150 - 1) xm_c98 (yQi L (fun r1 d1 e1 => yC 150 187 L [.ref 146, .int (xJ a1)] d1 e1 (fun r2 d2 e2 => r1 = r2 ∧ Inv R b d2 e2))) L 9 [.ref 1, .int (xJ a1), .int (xJ (24 - 8 * k))] [] (xs (xwo d 3 (d 2 1) k (fun k => xi_and (xi_ushr a1 (24 - 8 * k)) 255)) 2 1 (d 2 1 + k)) e) (by omega) ?_ ?_
    · rw [xwo_0, xs_id (show d 2 1 = d 2 1 + 0 by omega)] at hl; exact hl
    · intro k h1 h2 ih
      refine yk_98_9 (by omega) ⟨by omega, fun c => by omega, fun c => ?_⟩
      rw [xs_eq, xs_xwo (by decide) h1 rfl, show 24 - 8 * k + -8 = 24 - 8 * (k + 1) by omega, show d 2 1 + k + 1 = d 2 1 + (k + 1) by omega]
      exact ⟨by omega, ih⟩
    · refine yk_98_9 (by omega) ⟨by omega, fun _ => ?_, fun c => by omega⟩
      rw [xs_eq]
      have m5 : ∀ v i, xs (xwo d 3 (d 2 1) 4 (fun k => xi_and (xi_ushr a1 (24 - 8 * k)) 255)) 2 1 v 146 i = d 146 i := fun v i => by rw [xs_np (by decide), xwo_np (by decide)]
      refine yC_of rfl rfl rfl (by omega) (yk_187_0 ?_)
      rw [m5]
      refine ⟨by omega, fun _ => ?_, fun c => by omega⟩
      have hl := lp_up (n := 4) (X := fun k => yB (150 - 1) xm_c187 (yQi L (fun r2 d2 e2 => d 2 1 + 4 = r2 ∧ Inv R b d2 e2)) L 13 [.ref 146, .int (xJ a1), .int (xJ (3 - k))] [] (xs (xwo (xs (xs (xwo d 3 (d 2 1) 4 (fun k => xi_and (xi_ushr a1 (24 - 8 * k)) 255)) 2 1 (d 2 1 + 4)) 146 8 0) 150 (d 2 1) k (fun k => xi_i8 (xi_shr a1 (24 - 8 * k)))) 146 5 (d 2 1 + k)) e) (by omega) ?_ ?_
      · rw [xwo_0, xs_id (show xs (xs (xwo d 3 (d 2 1) 4 (fun k => xi_and (xi_ushr a1 (24 - 8 * k)) 255)) 2 1 (d 2 1 + 4)) 146 8 0 146 5 = d 2 1 + 0 by rw [xs_ni (by decide), m5]; omega)] at hl; exact hl
      · intro k h1 h2 ih
        refine yk_187_13 ⟨by omega, fun c => by omega, fun c => ?_⟩
        rw [xs_eq, xs_xs, xs_sw (q := 146) (q' := 150) (fun c => absurd c.1 (by decide)), show 8 * (3 - k) = 24 - 8 * k by omega, xwo_s (f := fun k => xi_i8 (xi_shr a1 (24 - 8 * k))) h1, show 3 - k + -1 = 3 - (k + 1) by omega, show d 2 1 + k + 1 = d 2 1 + (k + 1) by omega]
        exact ⟨by omega, ih⟩
      · refine yk_187_13 ⟨by omega, fun _ => ⟨by rw [xs_eq], ?_⟩, fun c => by omega⟩
        have w : ∀ p, ¬ p = 2 → ¬ p = 3 → ¬ p = 146 → ¬ p = 150 → xs (xwo (xs (xs (xwo d 3 (d 2 1) 4 (fun k => xi_and (xi_ushr a1 (24 - 8 * k)) 255)) 2 1 (d 2 1 + 4)) 146 8 0) 150 (d 2 1) 4 (fun k => xi_i8 (xi_shr a1 (24 - 8 * k)))) 146 5 (d 2 1 + 4) p = d p := fun p h1 h2 h3 h4 => by
          funext i
          rw [xs_np h3, xwo_np h4, xs_np h3, xs_np h1, xwo_np h2]
        have wm : ∀ i, ¬ i = 5 → ¬ i = 8 → xs (xwo (xs (xs (xwo d 3 (d 2 1) 4 (fun k => xi_and (xi_ushr a1 (24 - 8 * k)) 255)) 2 1 (d 2 1 + 4)) 146 8 0) 150 (d 2 1) 4 (fun k => xi_i8 (xi_shr a1 (24 - 8 * k)))) 146 5 (d 2 1 + 4) 146 i = d 146 i := fun i h1 h2 => by
          rw [xs_ni h1, xwo_np (by decide), xs_ni h2, m5]
        have w3 : ∀ i, xs (xwo (xs (xs (xwo d 3 (d 2 1) 4 (fun k => xi_and (xi_ushr a1 (24 - 8 * k)) 255)) 2 1 (d 2 1 + 4)) 146 8 0) 150 (d 2 1) 4 (fun k => xi_i8 (xi_shr a1 (24 - 8 * k)))) 146 5 (d 2 1 + 4) 3 i = if d 2 1 ≤ i ∧ i < d 2 1 + 4 then xi_and (xi_ushr a1 (24 - 8 * (i - d 2 1))) 255 else d 3 i := fun i => by
          rw [xs_np (by decide), xwo_np (by decide), xs_np (by decide), xs_np (by decide)]
          unfold xwo
          simp
        have w150 : ∀ i, xs (xwo (xs (xs (xwo d 3 (d 2 1) 4 (fun k => xi_and (xi_ushr a1 (24 - 8 * k)) 255)) 2 1 (d 2 1 + 4)) 146 8 0) 150 (d 2 1) 4 (fun k => xi_i8 (xi_shr a1 (24 - 8 * k)))) 146 5 (d 2 1 + 4) 150 i = if d 2 1 ≤ i ∧ i < d 2 1 + 4 then xi_i8 (xi_shr a1 (24 - 8 * (i - d 2 1))) else d 150 i := fun i => by
          rw [xs_np (by decide)]
          unfold xwo
          rw [xs_np (by decide), xs_np (by decide)]
          simp
        have w2 : xs (xwo (xs (xs (xwo d 3 (d 2 1) 4 (fun k => xi_and (xi_ushr a1 (24 - 8 * k)) 255)) 2 1 (d 2 1 + 4)) 146 8 0) 150 (d 2 1) 4 (fun k => xi_i8 (xi_shr a1 (24 - 8 * k)))) 146 5 (d 2 1 + 4) 2 1 = d 2 1 + 4 := by rw [xs_np (by decide), xwo_np (by decide), xs_np (by decide), xs_eq]
        have w5 : xs (xwo (xs (xs (xwo d 3 (d 2 1) 4 (fun k => xi_and (xi_ushr a1 (24 - 8 * k)) 255)) 2 1 (d 2 1 + 4)) 146 8 0) 150 (d 2 1) 4 (fun k => xi_i8 (xi_shr a1 (24 - 8 * k)))) 146 5 (d 2 1 + 4) 146 5 = d 2 1 + 4 := xs_eq
        generalize xs (xwo (xs (xs (xwo d 3 (d 2 1) 4 (fun k => xi_and (xi_ushr a1 (24 - 8 * k)) 255)) 2 1 (d 2 1 + 4)) 146 8 0) 150 (d 2 1) 4 (fun k => xi_i8 (xi_shr a1 (24 - 8 * k)))) 146 5 (d 2 1 + 4) = d3 at w wm w3 w150 w2 w5 ⊢
        have hT' : iT d3 := by
          refine ⟨⟨by omega, fun i h1 h2 => ?_⟩, by omega, fun i h1 h2 => ?_⟩
          · rw [w3]
            split
            · exact (hf2 _ (by omega) (by omega)).2
            · exact hT.1.2 i h1 (by omega)
          · rw [w3, w150]
            split
            · exact (hf2 _ (by omega) (by omega)).1
            · exact hT.2.2 i h1 (by omega)
        have hI : Inv R b d3 e := by
          refine ⟨?_, hT', ?_, ?_, ?_, ?_, ?_, ?_, ?_, ?_, ?_, ?_⟩
          · unfold iP at hP ⊢; rw [w 6 (by decide) (by decide) (by decide) (by decide), wm 1 (by decide) (by decide), wm 57 (by decide) (by decide)]; exact hP
          · exact iW_fk hW (by rw [w 4 (by decide) (by decide) (by decide) (by decide)]) (wm 7 (by decide) (by decide)) (w 5 (by decide) (by decide) (by decide) (by decide)) (w 151 (by decide) (by decide) (by decide) (by decide))
          · unfold iL at hL ⊢; rw [w 6 (by decide) (by decide) (by decide) (by decide), w 7 (by decide) (by decide) (by decide) (by decide), w 8 (by decide) (by decide) (by decide) (by decide), w 148 (by decide) (by decide) (by decide) (by decide), w 149 (by decide) (by decide) (by decide) (by decide)]; exact hL
          · unfold iS at hS ⊢; rw [w 6 (by decide) (by decide) (by decide) (by decide), w 12 (by decide) (by decide) (by decide) (by decide), w 13 (by decide) (by decide) (by decide) (by decide), w 14 (by decide) (by decide) (by decide) (by decide), w 15 (by decide) (by decide) (by decide) (by decide), w 11 (by decide) (by decide) (by decide) (by decide), w 147 (by decide) (by decide) (by decide) (by decide)]; exact hS
          · exact iU_c hU (fun p h1 h2 => w p (by omega) (by omega) (by omega) (by omega)) (by rw [w 23 (by decide) (by decide) (by decide) (by decide)]) (by rw [w 23 (by decide) (by decide) (by decide) (by decide)]) (wm 31 (by decide) (by decide)) (by rw [w 6 (by decide) (by decide) (by decide) (by decide)]) (w 158 (by decide) (by decide) (by decide) (by decide))
          · exact iK_c hK (fun p h1 h2 => w p (by omega) (by omega) (by omega) (by omega)) (w 26 (by decide) (by decide) (by decide) (by decide)) (w 174 (by decide) (by decide) (by decide) (by decide)) (w 175 (by decide) (by decide) (by decide) (by decide)) (w 176 (by decide) (by decide) (by decide) (by decide))
          · rw [w 111 (by decide) (by decide) (by decide) (by decide), w 112 (by decide) (by decide) (by decide) (by decide), wm 16 (by decide) (by decide), w 153 (by decide) (by decide) (by decide) (by decide)]; exact hR
          · unfold iQ at hQ ⊢; rw [w 127 (by decide) (by decide) (by decide) (by decide), wm 38 (by decide) (by decide), w 163 (by decide) (by decide) (by decide) (by decide), w 128 (by decide) (by decide) (by decide) (by decide), w 129 (by decide) (by decide) (by decide) (by decide)]; exact hQ
          · unfold iV at hV ⊢; rw [w 136 (by decide) (by decide) (by decide) (by decide), wm 46 (by decide) (by decide), w 168 (by decide) (by decide) (by decide) (by decide), w 137 (by decide) (by decide) (by decide) (by decide), w 138 (by decide) (by decide) (by decide) (by decide), w 139 (by decide) (by decide) (by decide) (by decide), w 6 (by decide) (by decide) (by decide) (by decide)]; exact hV
          · unfold iH at hH ⊢; rw [w 142 (by decide) (by decide) (by decide) (by decide), wm 54 (by decide) (by decide), w 173 (by decide) (by decide) (by decide) (by decide), w 143 (by decide) (by decide) (by decide) (by decide), w 144 (by decide) (by decide) (by decide) (by decide), w 6 (by decide) (by decide) (by decide) (by decide)]; exact hH
          · unfold iG at hG ⊢; rw [w 172 (by decide) (by decide) (by decide) (by decide), w 156 (by decide) (by decide) (by decide) (by decide)]; exact hG
        exact hI
  · refine yC_of rfl rfl rfl (by omega) (yk_187_0 ⟨by omega, fun c => by omega, fun c => ⟨rfl, ?_⟩⟩)
    exact ⟨hP, hT, hW, hL, hS, (iU_c hU (by repeat' (first | exact Fz_refl | refine Fz_xs ?_ (by decide))) rfl rfl rfl rfl rfl), (iK_c hK (by repeat' (first | exact Fz_refl | refine Fz_xs ?_ (by decide))) rfl rfl rfl rfl), hR, hQ, hV, hH, hG⟩
/-- where the text fails to be n digits, or -1 -/
def dfR (d : xh_D) (n r : Int) : Prop := (r = -1 ∧ (∀ p, 0 ≤ p → p < n → ¬ xt_dig d p = -1) ∧ d 2 1 ≤ n) ∨ (0 ≤ r ∧ r < n ∧ (∀ p, 0 ≤ p → p < r → ¬ xt_dig d p = -1) ∧ xt_dig d r = -1) ∨ (r = n ∧ (∀ p, 0 ≤ p → p < n → ¬ xt_dig d p = -1) ∧ n < d 2 1)
theorem xt_dig_r (h : xt_ok d) (p : Int) : -1 ≤ xt_dig d p ∧ xt_dig d p ≤ 9 := by
  unfold xt_dig xt_dg
  split <;> omega
theorem sq_78 {n : Int} (hD : 3 ≤ D) (hn : 0 ≤ n ∧ n ≤ 9) (ho : xt_ok d) (h : ∀ r, dfR d n r → P r d e) : yC D 78 L [.ref 2, .int (xJ n)] d e P := by
  have ho1 := ho.1
  refine yC_of rfl rfl rfl (by omega) (yk_78_0 ?_)
  have key : ∀ i, 0 ≤ i → i ≤ n → (∀ p, 0 ≤ p → p < i → ¬ xt_dig d p = -1) → yB (D - 1) xm_c78 (yQi L P) L 2 [.ref 2, .int (xJ n), .int (xJ i)] [] d e := by
    intro i h1 h2
    revert h1
    refine lp_from (m := i) (n := n) (X := fun i => 0 ≤ i → (∀ p, 0 ≤ p → p < i → ¬ xt_dig d p = -1) → yB (D - 1) xm_c78 (yQi L P) L 2 [.ref 2, .int (xJ n), .int (xJ i)] [] d e) h2 ?_ ?_
    · intro k _ k2 ih k1 hk
      have := xt_dig_r ho k
      exact yk_78_2 (by omega) ⟨by omega, by omega, fun c => by omega, fun c => ⟨ho, by omega, fun c2 => ih (by omega) (all_s (p := fun j => ¬ xt_dig d j = -1) hk c2), fun c2 => h k (Or.inr (Or.inl ⟨k1, k2, hk, c2⟩))⟩⟩
    · intro k1 hk
      exact yk_78_2 (by omega) ⟨by omega, by omega, fun c => ⟨by omega, fun c2 => h _ (Or.inl ⟨rfl, hk, c2⟩), fun c2 => h _ (Or.inr (Or.inr ⟨rfl, hk, by omega⟩))⟩, fun c => by omega⟩
  exact key 0 (by omega) (by omega) (fun p a c => by omega)
theorem xt_digm (hT : iT d) {p : Int} (h : 0 ≤ p ∧ p < d 2 1) : (¬ xt_dig d p = -1 ↔ 48 ≤ d 150 p ∧ d 150 p ≤ 57) ∧ (¬ xt_dig d p = -1 → xt_dig d p = d 150 p - 48) ∧ -128 ≤ d 150 p ∧ d 150 p < 128 := by
  have h1 := hT.1.2 p h.1 h.2
  have h2 := hT.2.2 p h.1 h.2
  rw [h2]
  unfold xt_dig xt_at xt_dg xt_sb
  rw [if_pos h]
  split <;> split <;> omega
theorem xt_dign {p : Int} (h : ¬ (0 ≤ p ∧ p < d 2 1)) : xt_dig d p = -1 := by
  unfold xt_dig xt_at xt_dg
  rw [if_neg h]
  rfl
/-- the reference's look at digits; dm is d but for places that do not matter -/
theorem sq_200 {dm : xh_D} {n r : Int} {P1 P0 : xh_D → xd_E → Prop} (hD : 3 ≤ D) (hn : 0 ≤ n ∧ n ≤ 9) (hT : iT d) (hr : dfR d n r) (h5 : dm 146 5 = d 2 1) (h150 : dm 150 = d 150) (h1 : r = -1 → P1 (xs (xs dm 146 5 0) 146 13 (-1)) e) (h0 : ¬ r = -1 → P0 (xs (xs dm 146 5 0) 146 13 r) e) : yZ D 200 L [.ref 146, .int (xJ n)] dm e P1 P0 := by
  have t1 := hT.1.1
  refine yZ_of rfl rfl rfl (by omega) (yk_200_0 ?_)
  rw [h5]
  have w150 : ∀ v u, xs (xs dm 146 5 v) 146 13 u 150 = d 150 := fun v u => by rw [xs_fn, if_neg (by decide), xs_fn, if_neg (by decide), h150]
  have hlen : d 2 1 < n → ¬ r = -1 := fun c q => by
    rcases hr with w | w | w
    · exact w.2.1 (d 2 1) t1.1 c (xt_dign (by omega))
    · omega
    · omega
  -- behind the loop
  have fin : ∀ (i w : Int), yR i → (w = r ∨ (w = -1 ∧ d 2 1 < n ∧ r = d 2 1)) → ((d 2 1 ≤ i) ∨ ¬ w = -1) → (d 2 1 < n → ¬ w = -1 → w = r) → (¬ d 2 1 < n → w = r) → yB (D - 1) xm_c200 (yQz L P1 P0) L 11 [.ref 146, .int (xJ n), .int (xJ (d 2 1)), .int (xJ i)] [] (xs (xs dm 146 5 0) 146 13 w) e := by
    intro i w hi hw hc hx hy
    have hwr : yR w := by rcases hr with q | q | q <;> omega
    refine yk_200_11 (by omega) ?_
    rw [xs_eq, w150]
    refine ⟨hi, by omega, fun c => ⟨by omega, fun c2 => ⟨hwr, fun c3 => ?_, fun c3 => ?_⟩, fun c2 => ⟨hwr, ?_, ?_, ?_⟩⟩, fun c => ⟨hwr, fun c3 => by omega, fun c3 => ⟨by omega, fun c2 => ⟨fun c4 => by omega, fun c4 => ?_⟩, fun c2 => ⟨?_, ?_, ?_⟩⟩⟩⟩
    · have : w = r := by omega
      subst this
      rw [c3]; exact h1 c3
    · have : w = r := by omega
      subst this
      exact h0 c3
    · split <;> omega
    · intro c3
      exfalso
      split at c3 <;> omega
    · intro c3
      rw [xs_xs]
      have : (if w = -1 then d 2 1 else w) = r := by split <;> omega
      rw [this]
      rw [this] at c3
      exact h0 c3
    · have : w = r := by omega
      subst this
      exact h0 c3
    · rw [if_neg c3]; exact hwr
    · intro c4
      rw [if_neg c3] at c4
      exact absurd c4 c3
    · intro c4
      rw [if_neg c3, xs_id xs_eq]
      have : w = r := by omega
      subst this
      exact h0 c3
  have key : ∀ i, 0 ≤ i → i ≤ d 2 1 → (∀ p, 0 ≤ p → p < i → ¬ xt_dig d p = -1) → i ≤ n → yB (D - 1) xm_c200 (yQz L P1 P0) L 11 [.ref 146, .int (xJ n), .int (xJ (d 2 1)), .int (xJ i)] [] (xs (xs dm 146 5 0) 146 13 (-1)) e := by
    intro i h1' h2
    revert h1'
    refine lp_from (m := i) (n := d 2 1) (X := fun i => 0 ≤ i → (∀ p, 0 ≤ p → p < i → ¬ xt_dig d p = -1) → i ≤ n → yB (D - 1) xm_c200 (yQz L P1 P0) L 11 [.ref 146, .int (xJ n), .int (xJ (d 2 1)), .int (xJ i)] [] (xs (xs dm 146 5 0) 146 13 (-1)) e) h2 ?_ ?_
    · intro k _ k2 ih k1 hk kn
      have hm := xt_digm hT ⟨k1, k2⟩
      refine yk_200_11 (by omega) ?_
      rw [xs_eq, w150]
      refine ⟨by omega, by omega, fun c => by omega, fun c => ⟨by omega, fun _ => ⟨by omega, fun c2 => ?_, fun c2 => ⟨by omega, by omega, fun c3 => ?_, fun c3 => ?_⟩⟩, fun c => absurd rfl c⟩⟩
      · rw [if_pos rfl, xs_xs]
        have : r = k := by
          rcases hr with q | q | q
          · omega
          · exact absurd q.2.2.2 (hk r q.1 (by omega))
          · omega
        exact fin _ k (by omega) (Or.inl this.symm) (Or.inr (by omega)) (fun _ _ => this.symm) (fun _ => this.symm)
      · exact ih (by omega) (all_s (p := fun j => ¬ xt_dig d j = -1) hk (hm.1.mpr c3)) (by omega)
      · rw [if_pos rfl, xs_xs]
        have hd : xt_dig d k = -1 := Decidable.byContradiction fun q => c3 (hm.1.mp q)
        have : r = k := by
          rcases hr with q | q | q
          · exact absurd hd (q.2.1 k k1 (by omega))
          · by_cases z : r < k
            · exact absurd q.2.2.2 (hk r q.1 z)
            · by_cases z2 : k < r
              · exact absurd hd (q.2.2.1 k k1 z2)
              · omega
          · exact absurd hd (q.2.1 k k1 (by omega))
        exact fin _ k (by omega) (Or.inl this.symm) (Or.inr (by omega)) (fun _ _ => this.symm) (fun _ => this.symm)
    · intro k1 hk kn
      have hr2 : (d 2 1 < n → r = d 2 1) ∧ (¬ d 2 1 < n → r = -1) := by
        have hz : xt_dig d (d 2 1) = -1 := xt_dign (by omega)
        rcases hr with q | q | q
        · refine ⟨fun c => absurd hz (q.2.1 _ k1 c), fun _ => q.1⟩
        · by_cases z : r < d 2 1
          · exact absurd q.2.2.2 (hk r q.1 z)
          · by_cases z2 : d 2 1 < r
            · exact absurd hz (q.2.2.1 _ k1 z2)
            · exact ⟨fun _ => by omega, fun c => by omega⟩
        · omega
      exact fin _ (-1) (by omega) (by omega) (Or.inl (by omega)) (fun _ c => absurd rfl c) (fun c => (hr2.2 c).symm)
  exact key 0 (by omega) (by omega) (fun p a c => by omega) (by omega)
end OP6
