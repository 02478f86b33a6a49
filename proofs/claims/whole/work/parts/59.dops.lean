/-! CALLS: days. -/
theorem iSt_ok {b n : Int} {h s t l : Int → Int} {w : Int} {bk : Nat → Int64} {a : Int → Int} (hn : 0 ≤ n ∧ n ≤ 9) (q : iSt b n h s t l w bk a) : okD b n h s (t, l, w, fun j p => a (83 + 9 * j + p)) := ⟨hn, fun p a1 c => ⟨(q.1 p a1 c).1, (q.1 p a1 c).2.1, (q.1 p a1 c).2.2.1⟩, q.2.2.1, q.2.2.2.1, q.2.2.2.2.1⟩
theorem iSt_bk {b n : Int} {h s t l : Int → Int} {w : Int} {bk : Nat → Int64} {a : Int → Int} (q : iSt b n h s t l w bk a) : ∀ j p, 0 ≤ j → j < 30 → j < w → 0 ≤ p → p < 9 → xp_ent (bk j.toNat) p = if p < n then a (83 + 9 * j + p) else 11 := fun j p h1 h2 h3 h4 h5 => by
  have := q.2.2.2.2.2.2.2 j p h1 h2 h3 h4 h5
  by_cases z : p < n
  · rw [if_pos z]; exact this.1 z
  · rw [if_neg z]; exact this.2 (by omega)
theorem iSt_md {b n : Int} {h s t l : Int → Int} {w : Int} {bk : Nat → Int64} {d : xh_D} {a : Nat} {f : Int → Int} (q : iSt b n h s t l w bk f) (hf : ∀ i, 0 ≤ i → i < 353 → d a i = f i) (hn : n ≤ 9) : mdD a n h s (t, l, w, fun j p => f (83 + 9 * j + p)) d := by
  refine ⟨fun p a1 c => ?_, fun p k a1 c a2 c2 => ?_, ?_, ?_, fun j p a1 c c2 a2 c3 => ?_⟩
  · rw [hf p a1 (by omega), hf (9 + p) (by omega) (by omega), hf (18 + p) (by omega) (by omega)]; exact (q.1 p a1 c).2.2.2
  · rw [hf _ (by omega) (by omega)]; exact q.2.1 p k a1 c a2 c2
  · rw [hf _ (by omega) (by omega)]; exact q.2.2.2.2.2.1
  · rw [hf _ (by omega) (by omega)]; exact q.2.2.2.2.2.2.1
  · rw [hf _ (by omega) (by omega)]
theorem iSt_jn {b n : Int} {h s : Int → Int} {X : dT} {bk : Nat → Int64} {d : xh_D} {a : Nat} (ok : okD b n h s X) (hb : ∀ j p, 0 ≤ j → j < 30 → j < X.2.2.1 → 0 ≤ p → p < 9 → xp_ent (bk j.toNat) p = if p < n then X.2.2.2 j p else 11) (md : mdD a n h s X d) : iSt b n h s X.1 X.2.1 X.2.2.1 bk (d a) := by
  refine ⟨fun p a1 c => ⟨(ok.2.1 p a1 c).1, (ok.2.1 p a1 c).2.1, (ok.2.1 p a1 c).2.2, md.1 p a1 c⟩, md.2.1, ok.2.2.1, ok.2.2.2.1, ok.2.2.2.2, md.2.2.1, md.2.2.2.1, fun j p h1 h2 h3 h4 h5 => ⟨fun z => ?_, fun z => ?_⟩⟩
  · rw [hb j p h1 h2 h3 h4 h5, if_pos z, md.2.2.2.2 j p h1 h2 h3 h4 z]
  · rw [hb j p h1 h2 h3 h4 h5, if_neg (by omega)]
theorem iU_mono {b b' : Int} {d : xh_D} {e : xd_E} (hb : b ≤ b') (h : iU b d e) : iU b' d e := ⟨h.1, h.2.1, h.2.2.1, fun k a c => iSt_mono hb (h.2.2.2 k a c)⟩
theorem sD_sa {d d' : xh_D} (f : Fk (sD 11) d d') : Fk sa d d' := Fk_mono f (fun p i q => by
  cases w : sD 11 p i
  · rfl
  · exfalso
    unfold sD at w
    rcases Bool.or_eq_true_iff.mp w with w | w
    · rcases Bool.or_eq_true_iff.mp w with w | w
      · rcases Bool.or_eq_true_iff.mp w with w | w
        · rcases Bool.or_eq_true_iff.mp w with w | w
          · rcases Bool.or_eq_true_iff.mp w with w | w
            · have : p = 115 ∨ p = 116 ∨ p = 119 ∨ p = 120 ∨ p = 121 ∨ p = 122 ∨ p = 123 ∨ p = 124 ∨ p = 125 := by simpa [sF] using w
              rcases this with rfl | rfl | rfl | rfl | rfl | rfl | rfl | rfl | rfl <;> exact absurd (show true = false from q) (by decide)
            · have : p = 118 := by simpa using w
              subst this; exact absurd (show true = false from q) (by decide)
          · have : p = 126 := by simpa using w
            subst this; exact absurd (show true = false from q) (by decide)
        · have : p = 11 ∧ i = 5 := by simpa using w
          rw [this.1, this.2] at q; exact absurd q (by decide)
      · have : p = 14 := by simpa using w
        subst this; exact absurd (show true = false from q) (by decide)
    · have : p = 15 := by simpa using w
      subst this; exact absurd (show true = false from q) (by decide))
theorem sD_sx {d d' : xh_D} (f : Fk (sD 17) d d') : Fk sx d d' := Fk_mono f (fun p i q => by
  cases w : sD 17 p i
  · rfl
  · exfalso
    unfold sD at w
    rcases Bool.or_eq_true_iff.mp w with w | w
    · rcases Bool.or_eq_true_iff.mp w with w | w
      · rcases Bool.or_eq_true_iff.mp w with w | w
        · rcases Bool.or_eq_true_iff.mp w with w | w
          · rcases Bool.or_eq_true_iff.mp w with w | w
            · have : p = 115 ∨ p = 116 ∨ p = 119 ∨ p = 120 ∨ p = 121 ∨ p = 122 ∨ p = 123 ∨ p = 124 ∨ p = 125 := by simpa [sF] using w
              rcases this with rfl | rfl | rfl | rfl | rfl | rfl | rfl | rfl | rfl <;> exact absurd (show true = false from q) (by decide)
            · have : p = 118 := by simpa using w
              subst this; exact absurd (show true = false from q) (by decide)
          · have : p = 126 := by simpa using w
            subst this; exact absurd (show true = false from q) (by decide)
        · have : p = 17 ∧ i = 5 := by simpa using w
          rw [this.1, this.2] at q; exact absurd q (by decide)
      · have : p = 20 := by simpa using w
        subst this; exact absurd (show true = false from q) (by decide)
    · have : p = 21 := by simpa using w
      subst this; exact absurd (show true = false from q) (by decide))
theorem sm7_sa {d d' : xh_D} (f : Fk (fun p i => sm p i || p == 147) d d') : Fk sa d d' := Fk_mono f (fun p i q => by
  by_cases z : p = 147
  · subst z; exact absurd (show true = false from q) (by decide)
  · cases w : sm p i
    · simp [z]
    · exfalso
      have : sa p i = true := by simp [sa, sr, w]
      rw [this] at q
      exact absurd q (by decide))
theorem sm2_sm {d d' : xh_D} (f : Fk (fun p i => sm p i || p == 162) d d') : Fk sm d d' := Fk_mono f (fun p i q => by
  by_cases z : p = 162
  · subst z; exact absurd (show true = false from q) (by decide)
  · simp [q, z])
section DOP
variable {b : Int} {L D : Nat} {d : xh_D} {e : xd_E}
theorem sq_85 {P : xh_D → xd_E → Prop} (hD : 2 ≤ D) (h : ∀ d', (∀ q, ¬ q = 118 → ¬ q = 126 → d' q = d q) → d' 118 2 = 0 → d' 118 3 = 0 → d' 118 4 = 0 → (∀ g, 0 ≤ g → g < 9 → d' 126 g = 0) → P d' e) : yV D 85 L [.ref 118] d e P := by
  refine yV_of rfl rfl rfl (by omega) (yk_85_0 ?_)
  refine yV_of rfl rfl rfl (by omega) (yk_6_126_0 ?_)
  have hlp := lp_up (n := 9) (X := fun i => yB (D - 1 - 1) xm_c6 (yQv L P) L 5 [.ref 126, .int (xJ 0), .int (xJ i), .int (xJ 9)] [] (xwr (xs (xs (xs d 118 2 0) 118 3 0) 118 4 0) 126 i (fun _ => 0)) e) (by omega) ?_ ?_
  · rw [xwr_0] at hlp; exact hlp
  · intro i a c ih
    rw [← xwr_s a] at ih
    exact yk_6_126_5 ⟨by omega, by omega, fun z => by omega, fun _ => ⟨by omega, ih⟩⟩
  · refine yk_6_126_5 ⟨by omega, by omega, fun _ => h _ (fun q h1 h2 => ?_) ?_ ?_ ?_ (fun g a c => ?_), fun z => by omega⟩
    · rw [xwr_fn h2, xs_fn, if_neg h1, xs_fn, if_neg h1, xs_fn, if_neg h1]
    · rw [xwr_fn (by decide), xs_ni (by decide), xs_ni (by decide), xs_eq]
    · rw [xwr_fn (by decide), xs_ni (by decide), xs_eq]
    · rw [xwr_fn (by decide), xs_eq]
    · rw [xwr_at ⟨a, c⟩]
/-- remembered, if any day goes by -/
def RmO (m : Int) (d : xh_D) (e : xd_E) (d1 : xh_D) (e1 : xd_E) : Prop := (m ≤ 0 ∧ d1 = d ∧ e1 = e) ∨ (0 < m ∧ RmX d e d1 e1)
def RmN (m : Int) (q : Nat) (d d1 : xh_D) : Prop := (m ≤ 0 ∧ d1 = d) ∨ (0 < m ∧ RmM q d d1)
theorem RmO_z {m : Int} {d1 : xh_D} {e1 : xd_E} (x : RmO m d e d1 e1) (h3 : 0 ≤ d 23 3 ∧ d 23 3 < 12) : Fk sa d d1 ∧ (∀ p, ¬ p = 23 → (p < 27 ∨ 98 < p) → d1 p = d p) ∧ ∀ p, (p < 27 ∨ 98 < p) → e1 p = e p := by
  rcases x with ⟨_, rfl, rfl⟩ | ⟨_, x⟩
  · exact ⟨Fk_refl, fun _ _ _ => rfl, fun _ _ => rfl⟩
  · exact ⟨RmX_fk x h3, (RmX_z x h3).1, (RmX_z x h3).2⟩
theorem RmN_z {m : Int} {q : Nat} {d1 : xh_D} (x : RmN m q d d1) : Fk sa d d1 ∧ (∀ p, ¬ p = 146 → ¬ p = 158 → d1 p = d p) ∧ ∀ i, ¬ i = 31 → d1 146 i = d 146 i := by
  rcases x with ⟨_, rfl⟩ | ⟨_, x⟩
  · exact ⟨Fk_refl, fun _ _ _ => rfl, fun _ _ => rfl⟩
  · exact ⟨RmM_fk x, x.1, x.2.1⟩
theorem iU_rmo {m : Int} {q : Nat} {d1 da d2 d3 : xh_D} {e1 e3 : xd_E} (hn : 0 ≤ d 6 4 ∧ d 6 4 ≤ 9) (hU : iU b d e) (hS : iS b d e) (x : RmO m d e d1 e1) (mm : RmN m q da d2) (hq : ∀ i, 0 ≤ i → i < 353 → da q i = d 147 i) (h31 : da 146 31 = d 146 31) (h158 : da 158 = d 158) (z : ∀ p, 27 ≤ p → p < 111 → d3 p = d1 p) (ze : ∀ p, 27 ≤ p → p < 111 → e3 p = e1 p) (z23 : d3 23 = d1 23) (z158 : d3 158 = d2 158) (z31 : d3 146 31 = d2 146 31) (z6 : d3 6 4 = d 6 4) : iU b d3 e3 := by
  rcases x with ⟨k1, rfl, rfl⟩ | ⟨k1, x⟩
  · rcases mm with ⟨k2, rfl⟩ | ⟨k2, mm⟩
    · have := iU_c hU (fun p a c => z p a c) (by rw [z23]) (by rw [z23]) (by rw [z31, h31]) z6 (by rw [z158, h158])
      exact ⟨this.1, this.2.1, this.2.2.1, fun k a c => iSs_e (this.2.2.2 k a c) (ze _ (by omega) (by omega))⟩
    · omega
  · rcases mm with ⟨k2, rfl⟩ | ⟨k2, mm⟩
    · omega
    · exact iU_rem hn hU hS x mm hq h31 h158 z ze z23 z158 z31 z6
theorem op_dn {m : Int} {gx gm : Nat} {as : List Value} (hm : 0 ≤ m ∧ m ≤ 40) (hb : b < 1000000000) (hI : Inv iR b d e) (hx : ∀ (P : Int → xh_D → xd_E → Prop), yC 149 120 L [.ref 1, .int (xJ m)] d e P → yC 150 gx L (.ref 1 :: as) d e P) (hmm : ∀ (F : (Int → Int) → Int) (X : dT) (dx : xh_D) (e1 : xd_E) (P : Int → xh_D → xd_E → Prop), rM F (dx 146 16) (dx 153) → dx 146 1 = d 6 4 → (∀ p g, 0 ≤ p → p < d 6 4 → 0 ≤ g → g < d 6 4 → dx 148 (p * 9 + g) = d 7 (p * 9 + g) ∧ 0 ≤ d 7 (p * 9 + g) ∧ d 7 (p * 9 + g) ≤ 9) → (∀ g, 0 ≤ g → g < d 6 4 → dx 156 g = 0) → okD b (d 6 4) (d 12) (d 13) X → mdD 147 (d 6 4) (d 12) (d 13) X dx → (0 ≤ dx 146 31 ∧ dx 146 31 ≤ 12) → (∀ d2 d', RmN m 147 (xs dx 146 8 0) d2 → Fk (fun p i => sm p i || p == 147) d2 d' → (∀ q, ¬ q = 146 → ¬ q = 154 → ¬ q = 155 → ¬ q = 157 → ¬ q = 147 → d' q = d2 q) → mdD 147 (d 6 4) (d 12) (d 13) (fI (dF F (d 7) (d 12) (d 13) (d 6 4)) (X, ((0, 0, 0, fun _ => 0) : dZT)) m).1 d' → P (fI (dF F (d 7) (d 12) (d 13) (d 6 4)) (X, ((0, 0, 0, fun _ => 0) : dZT)) m).2.1 (xs (xs (xs (xs (xs d' 146 7 0) 151 0 (fI (dF F (d 7) (d 12) (d 13) (d 6 4)) (X, ((0, 0, 0, fun _ => 0) : dZT)) m).2.2.1) 146 7 (0 + 1)) 151 (0 + 1) (fI (dF F (d 7) (d 12) (d 13) (d 6 4)) (X, ((0, 0, 0, fun _ => 0) : dZT)) m).2.2.2.1) 146 7 (0 + 1 + 1)) e1) → yC 150 gm L (.ref 146 :: as) dx e1 P) : Op iR b (b + 40) L gx gm as d e := by
  have hI0 := hI
  obtain ⟨hP, hT, hW, hL, hS, hU, hK, hR, hQ, hV, hH, hG⟩ := hI
  have p1 := hP.1
  have p2 := hP.2.1
  obtain ⟨F, hX, hM⟩ := id hR
  have hU3 := hU.2.1
  refine hx _ ?_
  -- remembered, or not
  have mid : ∀ d1 e1, RmO m d e d1 e1 → yB (149 - 1) xm_c120 (yQi L (fun r1 d1 e1 => yC 150 gm L (.ref 146 :: as) d1 e1 (fun r2 d2 e2 => r1 = r2 ∧ Inv iR (b + 40) d2 e2))) L 7 [.ref 1, .int (xJ m)] [] d1 e1 := by
    intro d1 e1 x
    obtain ⟨xa, xz, xe⟩ := RmO_z x hU3
    refine yk_120_7 (by omega) ?_
    refine sq_85 (by omega) (fun d2 z1 z2 z3 z4 z5 => ?_)
    have y2 : ∀ p, ¬ p = 118 → ¬ p = 126 → ¬ p = 23 → (p < 27 ∨ 98 < p) → d2 p = d p := fun p h1 h2 h3 h4 => by rw [z1 p h1 h2, xz p h3 h4]
    have n6 : d2 6 4 = d 6 4 := by rw [y2 6 (by decide) (by decide) (by decide) (by decide)]
    generalize hXe : ((d 14, d 15, d 11 5, fun j p => d 147 (83 + 9 * j + p)) : dT) = X
    have ok : okD b (d 6 4) (d 12) (d 13) X := by rw [← hXe]; exact iSt_ok p1 hS
    have cl : clD 11 (d 6 4) (d 12) (d 13) X (0, 0, 0, fun _ => 0) d2 e1 := by
      rw [← hXe]
      refine ⟨y2 12 (by decide) (by decide) (by decide) (by decide), y2 13 (by decide) (by decide) (by decide) (by decide), y2 14 (by decide) (by decide) (by decide) (by decide), y2 15 (by decide) (by decide) (by decide) (by decide), by rw [y2 11 (by decide) (by decide) (by decide) (by decide)], ?_, z2, z3, z4, fun g a c => z5 g a (by omega)⟩
      rw [xe 16 (by decide)]
      exact iSt_bk hS
    refine sq_86_11 (F := F) (n := d 6 4) (by omega) (by rw [y2 111 (by decide) (by decide) (by decide) (by decide), y2 112 (by decide) (by decide) (by decide) (by decide)]; exact hX) n6 (by rw [y2 7 (by decide) (by decide) (by decide) (by decide)]; exact iL_t hL) ok (by omega) (by omega) cl (fun d3 e3 f3 ef3 cl3 => ?_)
    rw [y2 7 (by decide) (by decide) (by decide) (by decide)] at cl3
    have ok3 := okD_i (F := F) (tr := d 7) (Z := ((0, 0, 0, fun _ => 0) : dZT)) ok hm.1
    generalize hXZ : fI (dF F (d 7) (d 12) (d 13) (d 6 4)) (X, ((0, 0, 0, fun _ => 0) : dZT)) m = XZ at cl3 ok3
    obtain ⟨c1, c2, c3, c4, c5, c6, c7, c8, c9, c10⟩ := cl3
    rw [c7, c8, c9]
    generalize hd4 : xs (xs (xs (xs (xs d3 4 1 0) 5 0 XZ.2.2.1) 4 1 1) 5 1 XZ.2.2.2.1) 4 1 2 = d4
    have y4 : ∀ p, ¬ p = 4 → ¬ p = 5 → d4 p = d3 p := fun p h1 h2 => by rw [← hd4]; funext i; rw [xs_np h1, xs_np h2, xs_np h1, xs_np h2, xs_np h1]
    have y3 : ∀ p, (∀ i, sD 11 p i = false) → d3 p = d2 p := fun p hp => Fk_p f3 hp
    have y4d : ∀ p, ¬ p = 4 → ¬ p = 5 → ¬ p = 118 → ¬ p = 126 → ¬ p = 23 → (p < 27 ∨ 98 < p) → (∀ i, sD 11 p i = false) → d4 p = d p := fun p h1 h2 h3 h4 h5 h6 h7 => by rw [y4 p h1 h2, y3 p h7, y2 p h3 h4 h5 h6]
    have m146 := y4d 146 (by decide) (by decide) (by decide) (by decide) (by decide) (by decide) (fun _ => rfl)
    have m147 := y4d 147 (by decide) (by decide) (by decide) (by decide) (by decide) (by decide) (fun _ => rfl)
    have m148 := y4d 148 (by decide) (by decide) (by decide) (by decide) (by decide) (by decide) (fun _ => rfl)
    have m158 := y4d 158 (by decide) (by decide) (by decide) (by decide) (by decide) (by decide) (fun _ => rfl)
    refine hmm F X d4 e3 _ (by rw [m146, y4d 153 (by decide) (by decide) (by decide) (by decide) (by decide) (by decide) (fun _ => rfl)]; exact hM) (by rw [m146]; exact p2) (by rw [m148]; exact (okM_i hP hL hS).2.2.2) (by rw [y4d 156 (by decide) (by decide) (by decide) (by decide) (by decide) (by decide) (fun _ => rfl)]; exact fun g a c => hG.2 g a (by omega)) ok (by rw [← hXe]; exact iSt_md hS (fun i _ _ => by rw [m147]) p1.2) (by rw [m146, hU.2.2.1]; exact hU.1) (fun d5 d6 n5 f6 q6 md6 => ⟨?_, ?_⟩)
    · rw [hXZ]
    · rw [hXZ] at md6 ⊢
      obtain ⟨n5a, n5z, n5m⟩ := RmN_z n5
      generalize hd7 : xs (xs (xs (xs (xs d6 146 7 0) 151 0 XZ.2.2.1) 146 7 (0 + 1)) 151 (0 + 1) XZ.2.2.2.1) 146 7 (0 + 1 + 1) = d7
      have y7 : ∀ p, ¬ p = 146 → ¬ p = 151 → d7 p = d6 p := fun p h1 h2 => by rw [← hd7]; funext i; rw [xs_np h1, xs_np h2, xs_np h1, xs_np h2, xs_np h1]
      have y6 : ∀ p, ¬ p = 146 → ¬ p = 147 → ¬ p = 151 → ¬ p = 154 → ¬ p = 155 → ¬ p = 157 → ¬ p = 158 → d7 p = d4 p := fun p h1 h2 h3 h4 h5 h6 h7 => by rw [y7 p h1 h3, q6 p h1 h4 h5 h6 h2, n5z p h1 h7, xs_fn, if_neg h1]
      refine Inv_st hI0 ?_ ?_ ?_ ?_ ?_
      · have fa : Fk sa d d2 := Fk_trans xa (fun p i w => by
          have : ¬ p = 118 ∧ ¬ p = 126 := ⟨fun z => by subst z; exact absurd (show true = false from w) (by decide), fun z => by subst z; exact absurd (show true = false from w) (by decide)⟩
          rw [z1 p this.1 this.2])
        have fb : Fk sa d d4 := by rw [← hd4]; exact Fk_xs (Fk_xs (Fk_xs (Fk_xs (Fk_xs (Fk_trans fa (sD_sa f3)) rfl) rfl) rfl) rfl) rfl
        rw [← hd7]
        exact Fk_xs (Fk_xs (Fk_xs (Fk_xs (Fk_xs (Fk_trans (Fk_trans (Fk_xs fb rfl) n5a) (sm7_sa f6)) rfl) rfl) rfl) rfl) rfl
      · refine iW2 ?_ ?_ ?_ ?_
        · rw [y6 4 (by decide) (by decide) (by decide) (by decide) (by decide) (by decide) (by decide), ← hd4]; rfl
        · rw [← hd7]; rfl
        · rw [y6 5 (by decide) (by decide) (by decide) (by decide) (by decide) (by decide) (by decide), ← hd4, ← hd7]; rfl
        · rw [y6 5 (by decide) (by decide) (by decide) (by decide) (by decide) (by decide) (by decide), ← hd4, ← hd7]; rfl
      · unfold iS
        have g : ∀ p, p < 16 → ¬ p = 4 → ¬ p = 5 → d7 p = d3 p := fun p h1 h2 h3 => by rw [y6 p (by omega) (by omega) (by omega) (by omega) (by omega) (by omega) (by omega), y4 p h2 h3]
        rw [g 6 (by decide) (by decide) (by decide), y3 6 (fun _ => rfl), n6, g 12 (by decide) (by decide) (by decide), g 13 (by decide) (by decide) (by decide), g 14 (by decide) (by decide) (by decide), g 15 (by decide) (by decide) (by decide), g 11 (by decide) (by decide) (by decide), y7 147 (by decide) (by decide)]
        have c1' : d3 12 = d 12 := c1
        have c2' : d3 13 = d 13 := c2
        have c3' : d3 14 = XZ.1.1 := c3
        have c4' : d3 15 = XZ.1.2.1 := c4
        rw [c1', c2', c3', c4', c5]
        exact iSt_mono (by omega) (iSt_jn ok3 c6 md6)
      · refine iU_mono (by omega) (iU_rmo (m := m) (q := 147) p1 hU hS x n5 (fun i _ _ => ?_) ?_ ?_ (fun p h1 h2 => ?_) (fun p h1 h2 => ?_) ?_ ?_ ?_ ?_)
        · rw [xs_np (by decide), m147]
        · rw [xs_ni (by decide), m146]
        · rw [xs_fn, if_neg (by decide), m158]
        · rw [y6 p (by omega) (by omega) (by omega) (by omega) (by omega) (by omega) (by omega), y4 p (by omega) (by omega), y3 p (fun i => by simp [sD, sF]; omega), z1 p (by omega) (by omega)]
        · rw [ef3 p (by omega)]
        · rw [y6 23 (by decide) (by decide) (by decide) (by decide) (by decide) (by decide) (by decide), y4 23 (by decide) (by decide), y3 23 (fun _ => rfl), z1 23 (by decide) (by decide)]
        · rw [y7 158 (by decide) (by decide), q6 158 (by decide) (by decide) (by decide) (by decide) (by decide)]
        · rw [← hd7, xs_ni (by decide), xs_np (by decide), xs_ni (by decide), xs_np (by decide), xs_ni (by decide), f6 146 31 rfl]
        · rw [y6 6 (by decide) (by decide) (by decide) (by decide) (by decide) (by decide) (by decide), y4 6 (by decide) (by decide), y3 6 (fun _ => rfl), n6]
      · refine iK_z (by omega) hK (fun p h1 h2 => ?_) (fun p h1 h2 => ?_) ?_ ?_ ?_ ?_
        · rw [y6 p (by omega) (by omega) (by omega) (by omega) (by omega) (by omega) (by omega), y4d p (by omega) (by omega) (by omega) (by omega) (by omega) (by omega) (fun i => by simp [sD, sF]; omega)]
        · rw [ef3 p (by omega), xe p (by omega)]
        · rw [y6 26 (by decide) (by decide) (by decide) (by decide) (by decide) (by decide) (by decide), y4d 26 (by decide) (by decide) (by decide) (by decide) (by decide) (by decide) (fun _ => rfl)]
        · rw [y6 174 (by decide) (by decide) (by decide) (by decide) (by decide) (by decide) (by decide), y4d 174 (by decide) (by decide) (by decide) (by decide) (by decide) (by decide) (fun _ => rfl)]
        · rw [y6 175 (by decide) (by decide) (by decide) (by decide) (by decide) (by decide) (by decide), y4d 175 (by decide) (by decide) (by decide) (by decide) (by decide) (by decide) (fun _ => rfl)]
        · rw [y6 176 (by decide) (by decide) (by decide) (by decide) (by decide) (by decide) (by decide), y4d 176 (by decide) (by decide) (by decide) (by decide) (by decide) (by decide) (fun _ => rfl)]
  refine yC_of rfl rfl rfl (by omega) (yk_120_0 ⟨by omega, fun c => mid d e (Or.inl ⟨c, rfl, rfl⟩), fun c => ?_⟩)
  exact sc_17 (by omega) hU.2.1 hU.1 (fun d1 e1 x => mid d1 e1 (Or.inr ⟨by omega, x⟩))
end DOP
