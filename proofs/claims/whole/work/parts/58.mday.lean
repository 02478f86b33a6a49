/-! A DAY goes by, in the reference. -/
def mdD (a : Nat) (n : Int) (h s : Int → Int) (X : dT) (d : xh_D) : Prop := (∀ p, 0 ≤ p → p < n → d a p = h p ∧ d a (9 + p) = s p ∧ d a (18 + p) = X.1 p) ∧ (∀ p k, 0 ≤ p → p < n → 0 ≤ k → k < 6 → d a (27 + 6 * p + k) = X.2.1 (p * 6 + k)) ∧ d a 81 = X.2.2.1 ∧ d a 82 = min X.2.2.1 30 ∧ ∀ j p, 0 ≤ j → j < 30 → j < X.2.2.1 → 0 ≤ p → p < n → d a (83 + 9 * j + p) = X.2.2.2 j p
section MDY
variable {L D : Nat} {d : xh_D} {e : xd_E}
theorem sq_224_147 {n p g : Int} {x : (Int → Int) × (Int → Int) × Int} {P : xh_D → xd_E → Prop} (hD : 2 ≤ D) (hn : n ≤ 9) (hp : 0 ≤ p ∧ p < n) (hg : 0 ≤ g ∧ g < n) (ht : ∀ q, 0 ≤ q → q < n → d 147 (18 + q) = x.1 q ∧ 0 ≤ x.1 q ∧ x.1 q < 64) (hl : ∀ q k, 0 ≤ q → q < n → 0 ≤ k → k < 6 → d 147 (27 + 6 * q + k) = x.2.1 (q * 6 + k) ∧ 0 ≤ x.2.1 (q * 6 + k) ∧ x.2.1 (q * 6 + k) < 2000000000) (h29 : d 146 29 = x.2.2) (h : ∀ d', (∀ q, ¬ q = 146 → ¬ q = 147 → d' q = d q) → (∀ i, ¬ i = 29 → d' 146 i = d 146 i) → (∀ i, ¬ (18 ≤ i ∧ i < 81) → d' 147 i = d 147 i) → d' 146 29 = (lrn p g x).2.2 → (∀ q, 0 ≤ q → q < n → d' 147 (18 + q) = (lrn p g x).1 q) → (∀ q k, 0 ≤ q → q < n → 0 ≤ k → k < 6 → d' 147 (27 + 6 * q + k) = (lrn p g x).2.1 (q * 6 + k)) → P d' e) : yV D 224 L [.ref 146, .ref 147, .int (xJ p), .int (xJ g)] d e P := by
  have tp := ht p hp.1 hp.2
  have tg := ht g hg.1 hg.2
  have kk := ntz_k tg.2 tp.2
  refine yV_of rfl rfl rfl (by omega) (yk_224_147_0 (by omega) ?_)
  rw [tp.1, tg.1]
  refine ⟨by omega, by omega, fun v ev => ?_⟩
  rw [← ev] at kk
  have lr : lrn p g x = if v = 0 then x else if 3 ≤ x.2.1 (p * 6 + xp_ntz v) + 1 then (upI x.1 p (xi_or (x.1 p) (xi_shl 1 (xp_ntz v))), upI x.2.1 (p * 6 + xp_ntz v) (x.2.1 (p * 6 + xp_ntz v) + 1), x.2.2 + 1) else (x.1, upI x.2.1 (p * 6 + xp_ntz v) (x.2.1 (p * 6 + xp_ntz v) + 1), x.2.2) := by rw [ev]; rfl
  refine ⟨fun hv => ⟨by omega, fun v5 e5 => ?_⟩, fun hv => ?_⟩
  · rw [if_neg hv] at lr
    have l5 := hl p (xp_ntz v) hp.1 hp.2 kk.2.1.1 kk.2.1.2
    rw [← e5] at l5
    have up : ∀ q k, 0 ≤ q → q < n → 0 ≤ k → k < 6 → (if 27 + 6 * q + k = v5 then x.2.1 (p * 6 + xp_ntz v) + 1 else d 147 (27 + 6 * q + k)) = upI x.2.1 (p * 6 + xp_ntz v) (x.2.1 (p * 6 + xp_ntz v) + 1) (q * 6 + k) := fun q k a c a2 c2 => by
      rw [upI_app]
      by_cases z : 27 + 6 * q + k = v5
      · rw [if_pos z, if_pos (by omega)]
      · rw [if_neg z, if_neg (by omega)]
        exact (hl q k a c a2 c2).1
    rw [l5.1]
    refine ⟨by omega, by omega, fun z => ?_, fun z => ?_⟩
    · rw [if_pos z] at lr
      rw [lr] at h
      have z18 : xs d 147 v5 (x.2.1 (p * 6 + xp_ntz v) + 1) 147 (18 + p) = x.1 p := by rw [xs_ni (by omega), tp.1]
      rw [z18]
      refine h _ (fun q h1 h2 => ?_) (fun i h1 => ?_) (fun i h1 => ?_) ?_ (fun q a c => ?_) (fun q k a c a2 c2 => ?_)
      · rw [xs_fn, if_neg h1, xs_fn, if_neg h2, xs_fn, if_neg h2]
      · rw [xs_ni h1, xs_np (by decide), xs_np (by decide)]
      · rw [xs_np (by decide), xs_ni (by omega), xs_ni (by omega)]
      · rw [xs_eq, h29]
      · rw [xs_np (by decide)]
        simp only [upI_app]
        by_cases w : q = p
        · rw [w, xs_eq, if_pos rfl]
        · rw [xs_ni (by omega), xs_ni (by omega), if_neg w]
          exact (ht q a c).1
      · rw [xs_np (by decide), xs_ni (by omega), xs_app]
        simp only [true_and]
        exact up q k a c a2 c2
    · rw [if_neg z] at lr
      rw [lr] at h
      refine h _ (fun q h1 h2 => ?_) (fun i h1 => ?_) (fun i h1 => ?_) ?_ (fun q a c => ?_) (fun q k a c a2 c2 => ?_)
      · rw [xs_fn, if_neg h2]
      · rw [xs_np (by decide)]
      · rw [xs_ni (by omega)]
      · rw [xs_np (by decide), h29]
      · rw [xs_ni (by omega)]
        exact (ht q a c).1
      · rw [xs_app]
        simp only [true_and]
        exact up q k a c a2 c2
  · rw [if_pos hv] at lr
    rw [lr] at h
    exact h d (fun _ _ _ => rfl) (fun _ _ => rfl) (fun _ _ => rfl) h29 (fun q a c => (ht q a c).1) (fun q k a c a2 c2 => (hl q k a c a2 c2).1)
theorem sq_223_147 {F : (Int → Int) → Int} {tr h s : Int → Int} {b n : Int} {X : dT} {P : xh_D → xd_E → Prop} (hD : 112 ≤ D) (hM : rM F (d 146 16) (d 153)) (hn1 : d 146 1 = n) (ht : ∀ p g, 0 ≤ p → p < n → 0 ≤ g → g < n → d 148 (p * 9 + g) = tr (p * 9 + g) ∧ 0 ≤ tr (p * 9 + g) ∧ tr (p * 9 + g) ≤ 9) (h156 : ∀ g, 0 ≤ g → g < n → d 156 g = 0) (ok : okD b n h s X) (hb : b < 1900000000) (md : mdD 147 n h s X d) (hP : ∀ d', Fk (fun p i => sm p i || p == 147) d d' → (∀ q, ¬ q = 146 → ¬ q = 154 → ¬ q = 155 → ¬ q = 157 → ¬ q = 147 → d' q = d q) → mdD 147 n h s (dN F tr h s n X) d' → d' 146 28 = dyK h n X - (dyB F tr h s n X).1 / 1000 → d' 146 27 = (dyB F tr h s n X).1 % 1000 → d' 146 29 = (dyY F tr h s n X).2.2 → (∀ p, 0 ≤ p → p < n → d' 155 p = cvF (hfF h X.2.2.1) (dyB F tr h s n X).2 p) → P d' e) : yV D 223 L [.ref 146, .ref 147] d e P := by
  obtain ⟨m1, m2, m3, m4, m5⟩ := md
  have hn := ok.1
  have wr := ok.2.2.2.2
  have okm : okM n 147 h s X.1 tr d := ⟨hn1, hn, fun p a c => ⟨m1 p a c, ok.2.1 p a c⟩, ht⟩
  have kr := cI_r (hfF h X.2.2.1) hn.1
  have gok := gB_ok (F := F) (tr := tr) (h := h) (s := s) (t := X.1) (day := X.2.2.1) hn
  refine yV_of rfl rfl rfl (by omega) (yk_223_147_0 (by omega) ?_)
  rw [m3]
  refine sh_219_147 (F := F) (by omega) hM okm h156 (by omega) (fun d1 f1 fq m => ?_)
  have mw := fdM_w m
  have m25 := m.1
  have m155 := m.2.2.2.2
  rw [show gB F tr h s X.1 n X.2.2.1 = dyB F tr h s n X from rfl] at mw m155 gok
  generalize hB : dyB F tr h s n X = B at mw m155 gok hP
  have ea : d1 147 = d 147 := fq 147 (by decide) (by decide) (by decide) (by decide)
  rw [ea, m3, m25, bI_bc (by omega), mw.1]
  refine ⟨by omega, fun v4 e4 => ?_⟩
  generalize hd2 : xs (xs d1 146 28 (cI (hfF h X.2.2.1) n - B.1 / 1000)) 146 29 0 = d2
  have y2 : ∀ q, ¬ q = 146 → d2 q = d1 q := fun q hq => by rw [← hd2, xs_fn, if_neg hq, xs_fn, if_neg hq]
  have y2m : ∀ i, ¬ i = 28 → ¬ i = 29 → d2 146 i = d1 146 i := fun i h1 h2 => by rw [← hd2, xs_ni h2, xs_ni h1]
  have li := fun j (hj : 0 ≤ j ∧ j ≤ dyK h n X) => okD_l (F := F) (tr := tr) ok hj
  have hY : dyY F tr h s n X = fI (dyS (dyB F tr h s n X).2 (hpC (hfF h X.2.2.1) n)) (X.1, X.2.1, 0) (dyK h n X) := rfl
  rw [hB] at li hY
  generalize hS : dyS B.2 (hpC (hfF h X.2.2.1) n) = S at li hY
  have hSj : ∀ j x, S j x = if B.2 j = -1 then x else lrn (hpC (hfF h X.2.2.1) n j) (B.2 j) x := fun j x => by rw [← hS]; rfl
  have hpx := hpC_ok (hf := hfF h X.2.2.1) hn.1
  refine lp_up (n := n) (X := fun p => ∀ dc, (∀ q, ¬ q = 146 → ¬ q = 147 → dc q = d2 q) → (∀ i, ¬ i = 29 → dc 146 i = d2 146 i) → dc 146 29 = (fI S (X.1, X.2.1, 0) (cI (hfF h X.2.2.1) p)).2.2 → (∀ i, ¬ (18 ≤ i ∧ i < 81) → ¬ (v4 ≤ i ∧ i < v4 + n) → dc 147 i = d 147 i) → (∀ q, 0 ≤ q → q < n → dc 147 (18 + q) = (fI S (X.1, X.2.1, 0) (cI (hfF h X.2.2.1) p)).1 q) → (∀ q k, 0 ≤ q → q < n → 0 ≤ k → k < 6 → dc 147 (27 + 6 * q + k) = (fI S (X.1, X.2.1, 0) (cI (hfF h X.2.2.1) p)).2.1 (q * 6 + k)) → (∀ q, 0 ≤ q → q < p → dc 147 (v4 + q) = cvF (hfF h X.2.2.1) B.2 q) → yB (D - 1) xm_c223 (yQv L P) L 29 [.ref 146, .ref 147, .int (xJ v4), .int (xJ p)] [] dc e) hn.1 ?_ ?_ d2 (fun _ _ _ => rfl) (fun _ _ => rfl) (by rw [cI_0, ← hd2, xs_eq]; rfl) (fun i _ _ => by rw [y2 147 (by decide), ea]) (fun q a c => by rw [y2 147 (by decide), ea, cI_0]; exact (m1 q a c).2.2) (fun q k a c a2 c2 => by rw [y2 147 (by decide), ea, cI_0]; exact m2 q k a c a2 c2) (fun q a c => by omega)
  · intro p a c ih dc q1 q2 q3 q4 q5 q6 q7
    have e155 : dc 155 p = cvF (hfF h X.2.2.1) B.2 p := by rw [q1 155 (by decide) (by decide), y2 155 (by decide)]; exact m155 p a c
    have c0 := cI_r (hfF h X.2.2.1) a
    have cm := cI_mono (h := hfF h X.2.2.1) (i := p) (j := n) a (by omega)
    have lj := li (cI (hfF h X.2.2.1) p) ⟨c0.1, cm⟩
    have n1 : dc 146 1 = n := by rw [q2 1 (by decide), y2m 1 (by decide) (by decide), f1 146 1 rfl, hn1]
    refine yk_223_147_29 (by omega) ?_
    rw [n1, e155]
    have wline : ∀ q, 0 ≤ q → q < p + 1 → xs dc 147 (v4 + p) (cvF (hfF h X.2.2.1) B.2 p) 147 (v4 + q) = cvF (hfF h X.2.2.1) B.2 q := fun q a2 c2 => by
      by_cases z : q = p
      · rw [z, xs_eq]
      · rw [xs_ni (by omega)]; exact q7 q a2 (by omega)
    have w4 : ∀ i, ¬ (18 ≤ i ∧ i < 81) → ¬ (v4 ≤ i ∧ i < v4 + n) → xs dc 147 (v4 + p) (cvF (hfF h X.2.2.1) B.2 p) 147 i = d 147 i := fun i h1 h2 => by rw [xs_ni (by omega)]; exact q4 i h1 h2
    have w5 : ∀ q, 0 ≤ q → q < n → xs dc 147 (v4 + p) (cvF (hfF h X.2.2.1) B.2 p) 147 (18 + q) = (fI S (X.1, X.2.1, 0) (cI (hfF h X.2.2.1) p)).1 q := fun q a2 c2 => by rw [xs_ni (by omega)]; exact q5 q a2 c2
    have w6 : ∀ q k, 0 ≤ q → q < n → 0 ≤ k → k < 6 → xs dc 147 (v4 + p) (cvF (hfF h X.2.2.1) B.2 p) 147 (27 + 6 * q + k) = (fI S (X.1, X.2.1, 0) (cI (hfF h X.2.2.1) p)).2.1 (q * 6 + k) := fun q k a2 c2 a3 c3 => by rw [xs_ni (by omega)]; exact q6 q k a2 c2 a3 c3
    by_cases hfp : hfF h X.2.2.1 p = true
    · have e1 := cI_t a hfp
      have cm2 := cI_mono (h := hfF h X.2.2.1) (i := p + 1) (j := n) (by omega) (by omega)
      rw [e1] at cm2
      rw [e1, fI_s _ _ c0.1, hSj] at ih
      have gb := gok.2.2 (cI (hfF h X.2.2.1) p) c0.1 (by omega)
      have ev : cvF (hfF h X.2.2.1) B.2 p = if B.2 (cI (hfF h X.2.2.1) p) = -1 then 9 else B.2 (cI (hfF h X.2.2.1) p) := by unfold cvF; rw [if_pos hfp]
      have hpp := hpx.1 p a c hfp
      rw [hpp] at ih
      have er : yR (cvF (hfF h X.2.2.1) B.2 p) := by rw [ev]; split <;> omega
      refine ⟨by omega, by omega, fun z => by omega, fun _ => ⟨by omega, by omega, er, fun z => ?_, fun z => ?_⟩⟩
      · have zz : B.2 (cI (hfF h X.2.2.1) p) = -1 := by
          rw [ev] at z
          split at z
          · rename_i w; exact w
          · omega
        rw [if_pos zz] at ih
        exact ih _ (fun q h1 h2 => by rw [xs_fn, if_neg h2, q1 q h1 h2]) (fun i h1 => by rw [xs_np (by decide), q2 i h1]) (by rw [xs_np (by decide), q3]) w4 w5 w6 wline
      · have zz : ¬ B.2 (cI (hfF h X.2.2.1) p) = -1 := fun w => by rw [ev, if_pos w] at z; omega
        have eg : cvF (hfF h X.2.2.1) B.2 p = B.2 (cI (hfF h X.2.2.1) p) := by rw [ev, if_neg zz]
        rw [if_neg zz] at ih
        refine sq_224_147 (n := n) (x := fI S (X.1, X.2.1, 0) (cI (hfF h X.2.2.1) p)) (by omega) hn.2 ⟨a, c⟩ (by rw [eg]; omega) (fun q a2 c2 => ⟨w5 q a2 c2, lj.1 q a2 c2⟩) (fun q k a2 c2 a3 c3 => ⟨w6 q k a2 c2 a3 c3, by have := lj.2.1 (q * 6 + k) (by omega) (by omega); omega⟩) (by rw [xs_np (by decide), q3]) (fun d5 g1 g2 g3 g4 g5 g6 => ?_)
        rw [eg] at g4 g5 g6
        refine ih d5 (fun q h1 h2 => by rw [g1 q h1 h2, xs_fn, if_neg h2, q1 q h1 h2]) (fun i h1 => by rw [g2 i h1, xs_np (by decide), q2 i h1]) g4 (fun i h1 h2 => by rw [g3 i h1]; exact w4 i h1 h2) g5 g6 (fun q a2 c2 => by rw [g3 _ (by omega)]; exact wline q a2 c2)
    · have hff : hfF h X.2.2.1 p = false := by
        cases w : hfF h X.2.2.1 p
        · rfl
        · exact absurd w hfp
      have e1 : cI (hfF h X.2.2.1) (p + 1) = cI (hfF h X.2.2.1) p := by rw [cI_f a hff]; omega
      have ev : cvF (hfF h X.2.2.1) B.2 p = 10 := by unfold cvF; rw [if_neg hfp]
      rw [e1] at ih
      refine ⟨by omega, by omega, fun z => by omega, fun _ => ⟨by omega, by omega, by omega, fun z => ?_, fun z => by omega⟩⟩
      exact ih _ (fun q h1 h2 => by rw [xs_fn, if_neg h2, q1 q h1 h2]) (fun i h1 => by rw [xs_np (by decide), q2 i h1]) (by rw [xs_np (by decide), q3]) w4 w5 w6 wline
  · intro dc q1 q2 q3 q4 q5 q6 q7
    have n1 : dc 146 1 = n := by rw [q2 1 (by decide), y2m 1 (by decide) (by decide), f1 146 1 rfl, hn1]
    have e81 : dc 147 81 = X.2.2.1 := by rw [q4 81 (by omega) (by omega), m3]
    have e82 : dc 147 82 = min X.2.2.1 30 := by rw [q4 82 (by omega) (by omega), m4]
    refine yk_223_147_29 (by omega) ?_
    rw [n1, e81, e82]
    refine ⟨by omega, by omega, fun _ => ⟨by omega, ?_⟩, fun z => by omega⟩
    rw [show fI S (X.1, X.2.1, 0) (cI (hfF h X.2.2.1) n) = dyY F tr h s n X from hY.symm] at q3 q5 q6
    have z : ∀ i, ¬ i = 81 → ¬ i = 82 → xs (xs dc 147 81 (X.2.2.1 + 1)) 147 82 (min 30 (min X.2.2.1 30 + 1)) 147 i = dc 147 i := fun i h1 h2 => by rw [xs_ni h2, xs_ni h1]
    have zm : ∀ i, xs (xs dc 147 81 (X.2.2.1 + 1)) 147 82 (min 30 (min X.2.2.1 30 + 1)) 146 i = dc 146 i := fun i => by rw [xs_np (by decide), xs_np (by decide)]
    refine hP _ (fun p i w => ?_) (fun q h1 h2 h3 h4 h5 => by rw [xs_fn, if_neg h5, xs_fn, if_neg h5, q1 q h1 h5, y2 q h1, fq q h1 h2 h3 h4]) ⟨fun p a c => ⟨?_, ?_, ?_⟩, fun p k a c a2 c2 => ?_, ?_, ?_, fun j p a c c2 a2 c3 => ?_⟩ ?_ ?_ ?_ (fun p a c => ?_)
    · by_cases w1 : p = 147
      · subst w1; simp at w
      · rw [xs_np w1, xs_np w1]
        have ws : sm p i = false := by
          cases v : sm p i
          · rfl
          · simp [v] at w
        by_cases w2 : p = 146
        · subst w2
          have hi : ¬ i = 28 ∧ ¬ i = 29 := ⟨fun v => by subst v; exact absurd ws (by decide), fun v => by subst v; exact absurd ws (by decide)⟩
          rw [q2 i hi.2, y2m i hi.1 hi.2]
          exact f1 146 i ws
        · rw [q1 p w2 w1, y2 p w2]
          exact f1 p i ws
    · rw [z p (by omega) (by omega), q4 p (by omega) (by omega)]; exact (m1 p a c).1
    · rw [z _ (by omega) (by omega), q4 _ (by omega) (by omega)]; exact (m1 p a c).2.1
    · rw [z _ (by omega) (by omega)]; exact q5 p a c
    · rw [z _ (by omega) (by omega)]; exact q6 p k a c a2 c2
    · rw [xs_ni (by decide), xs_eq]; rfl
    · rw [xs_eq]; show min 30 (min X.2.2.1 30 + 1) = min (X.2.2.1 + 1) 30; omega
    · have c2' : j < X.2.2.1 + 1 := c2
      show _ = if j = X.2.2.1 % 30 then cvF (hfF h X.2.2.1) (dyB F tr h s n X).2 p else X.2.2.2 j p
      rw [z _ (by omega) (by omega), hB]
      by_cases w : j = X.2.2.1 % 30
      · rw [if_pos w, ← q7 p a2 c3, w, e4]
      · rw [if_neg w, q4 _ (by omega) (by omega)]
        exact m5 j p a c (by omega) a2 c3
    · rw [zm, q2 28 (by decide), ← hd2, xs_ni (by decide), xs_eq]; rfl
    · rw [zm, q2 27 (by decide), y2m 27 (by decide) (by decide), mw.2]
    · rw [zm, q3]
    · rw [xs_np (by decide), xs_np (by decide), q1 155 (by decide) (by decide), y2 155 (by decide)]
      exact m155 p a c
theorem sq_224_162 {n p g : Int} {x : (Int → Int) × (Int → Int) × Int} {P : xh_D → xd_E → Prop} (hD : 2 ≤ D) (hn : n ≤ 9) (hp : 0 ≤ p ∧ p < n) (hg : 0 ≤ g ∧ g < n) (ht : ∀ q, 0 ≤ q → q < n → d 162 (18 + q) = x.1 q ∧ 0 ≤ x.1 q ∧ x.1 q < 64) (hl : ∀ q k, 0 ≤ q → q < n → 0 ≤ k → k < 6 → d 162 (27 + 6 * q + k) = x.2.1 (q * 6 + k) ∧ 0 ≤ x.2.1 (q * 6 + k) ∧ x.2.1 (q * 6 + k) < 2000000000) (h29 : d 146 29 = x.2.2) (h : ∀ d', (∀ q, ¬ q = 146 → ¬ q = 162 → d' q = d q) → (∀ i, ¬ i = 29 → d' 146 i = d 146 i) → (∀ i, ¬ (18 ≤ i ∧ i < 81) → d' 162 i = d 162 i) → d' 146 29 = (lrn p g x).2.2 → (∀ q, 0 ≤ q → q < n → d' 162 (18 + q) = (lrn p g x).1 q) → (∀ q k, 0 ≤ q → q < n → 0 ≤ k → k < 6 → d' 162 (27 + 6 * q + k) = (lrn p g x).2.1 (q * 6 + k)) → P d' e) : yV D 224 L [.ref 146, .ref 162, .int (xJ p), .int (xJ g)] d e P := by
  have tp := ht p hp.1 hp.2
  have tg := ht g hg.1 hg.2
  have kk := ntz_k tg.2 tp.2
  refine yV_of rfl rfl rfl (by omega) (yk_224_162_0 (by omega) ?_)
  rw [tp.1, tg.1]
  refine ⟨by omega, by omega, fun v ev => ?_⟩
  rw [← ev] at kk
  have lr : lrn p g x = if v = 0 then x else if 3 ≤ x.2.1 (p * 6 + xp_ntz v) + 1 then (upI x.1 p (xi_or (x.1 p) (xi_shl 1 (xp_ntz v))), upI x.2.1 (p * 6 + xp_ntz v) (x.2.1 (p * 6 + xp_ntz v) + 1), x.2.2 + 1) else (x.1, upI x.2.1 (p * 6 + xp_ntz v) (x.2.1 (p * 6 + xp_ntz v) + 1), x.2.2) := by rw [ev]; rfl
  refine ⟨fun hv => ⟨by omega, fun v5 e5 => ?_⟩, fun hv => ?_⟩
  · rw [if_neg hv] at lr
    have l5 := hl p (xp_ntz v) hp.1 hp.2 kk.2.1.1 kk.2.1.2
    rw [← e5] at l5
    have up : ∀ q k, 0 ≤ q → q < n → 0 ≤ k → k < 6 → (if 27 + 6 * q + k = v5 then x.2.1 (p * 6 + xp_ntz v) + 1 else d 162 (27 + 6 * q + k)) = upI x.2.1 (p * 6 + xp_ntz v) (x.2.1 (p * 6 + xp_ntz v) + 1) (q * 6 + k) := fun q k a c a2 c2 => by
      rw [upI_app]
      by_cases z : 27 + 6 * q + k = v5
      · rw [if_pos z, if_pos (by omega)]
      · rw [if_neg z, if_neg (by omega)]
        exact (hl q k a c a2 c2).1
    rw [l5.1]
    refine ⟨by omega, by omega, fun z => ?_, fun z => ?_⟩
    · rw [if_pos z] at lr
      rw [lr] at h
      have z18 : xs d 162 v5 (x.2.1 (p * 6 + xp_ntz v) + 1) 162 (18 + p) = x.1 p := by rw [xs_ni (by omega), tp.1]
      rw [z18]
      refine h _ (fun q h1 h2 => ?_) (fun i h1 => ?_) (fun i h1 => ?_) ?_ (fun q a c => ?_) (fun q k a c a2 c2 => ?_)
      · rw [xs_fn, if_neg h1, xs_fn, if_neg h2, xs_fn, if_neg h2]
      · rw [xs_ni h1, xs_np (by decide), xs_np (by decide)]
      · rw [xs_np (by decide), xs_ni (by omega), xs_ni (by omega)]
      · rw [xs_eq, h29]
      · rw [xs_np (by decide)]
        simp only [upI_app]
        by_cases w : q = p
        · rw [w, xs_eq, if_pos rfl]
        · rw [xs_ni (by omega), xs_ni (by omega), if_neg w]
          exact (ht q a c).1
      · rw [xs_np (by decide), xs_ni (by omega), xs_app]
        simp only [true_and]
        exact up q k a c a2 c2
    · rw [if_neg z] at lr
      rw [lr] at h
      refine h _ (fun q h1 h2 => ?_) (fun i h1 => ?_) (fun i h1 => ?_) ?_ (fun q a c => ?_) (fun q k a c a2 c2 => ?_)
      · rw [xs_fn, if_neg h2]
      · rw [xs_np (by decide)]
      · rw [xs_ni (by omega)]
      · rw [xs_np (by decide), h29]
      · rw [xs_ni (by omega)]
        exact (ht q a c).1
      · rw [xs_app]
        simp only [true_and]
        exact up q k a c a2 c2
  · rw [if_pos hv] at lr
    rw [lr] at h
    exact h d (fun _ _ _ => rfl) (fun _ _ => rfl) (fun _ _ => rfl) h29 (fun q a c => (ht q a c).1) (fun q k a c a2 c2 => (hl q k a c a2 c2).1)
theorem sq_223_162 {F : (Int → Int) → Int} {tr h s : Int → Int} {b n : Int} {X : dT} {P : xh_D → xd_E → Prop} (hD : 112 ≤ D) (hM : rM F (d 146 16) (d 153)) (hn1 : d 146 1 = n) (ht : ∀ p g, 0 ≤ p → p < n → 0 ≤ g → g < n → d 148 (p * 9 + g) = tr (p * 9 + g) ∧ 0 ≤ tr (p * 9 + g) ∧ tr (p * 9 + g) ≤ 9) (h156 : ∀ g, 0 ≤ g → g < n → d 156 g = 0) (ok : okD b n h s X) (hb : b < 1900000000) (md : mdD 162 n h s X d) (hP : ∀ d', Fk (fun p i => sm p i || p == 162) d d' → (∀ q, ¬ q = 146 → ¬ q = 154 → ¬ q = 155 → ¬ q = 157 → ¬ q = 162 → d' q = d q) → mdD 162 n h s (dN F tr h s n X) d' → d' 146 28 = dyK h n X - (dyB F tr h s n X).1 / 1000 → d' 146 27 = (dyB F tr h s n X).1 % 1000 → d' 146 29 = (dyY F tr h s n X).2.2 → (∀ p, 0 ≤ p → p < n → d' 155 p = cvF (hfF h X.2.2.1) (dyB F tr h s n X).2 p) → P d' e) : yV D 223 L [.ref 146, .ref 162] d e P := by
  obtain ⟨m1, m2, m3, m4, m5⟩ := md
  have hn := ok.1
  have wr := ok.2.2.2.2
  have okm : okM n 162 h s X.1 tr d := ⟨hn1, hn, fun p a c => ⟨m1 p a c, ok.2.1 p a c⟩, ht⟩
  have kr := cI_r (hfF h X.2.2.1) hn.1
  have gok := gB_ok (F := F) (tr := tr) (h := h) (s := s) (t := X.1) (day := X.2.2.1) hn
  refine yV_of rfl rfl rfl (by omega) (yk_223_162_0 (by omega) ?_)
  rw [m3]
  refine sh_219_162 (F := F) (by omega) hM okm h156 (by omega) (fun d1 f1 fq m => ?_)
  have mw := fdM_w m
  have m25 := m.1
  have m155 := m.2.2.2.2
  rw [show gB F tr h s X.1 n X.2.2.1 = dyB F tr h s n X from rfl] at mw m155 gok
  generalize hB : dyB F tr h s n X = B at mw m155 gok hP
  have ea : d1 162 = d 162 := fq 162 (by decide) (by decide) (by decide) (by decide)
  rw [ea, m3, m25, bI_bc (by omega), mw.1]
  refine ⟨by omega, fun v4 e4 => ?_⟩
  generalize hd2 : xs (xs d1 146 28 (cI (hfF h X.2.2.1) n - B.1 / 1000)) 146 29 0 = d2
  have y2 : ∀ q, ¬ q = 146 → d2 q = d1 q := fun q hq => by rw [← hd2, xs_fn, if_neg hq, xs_fn, if_neg hq]
  have y2m : ∀ i, ¬ i = 28 → ¬ i = 29 → d2 146 i = d1 146 i := fun i h1 h2 => by rw [← hd2, xs_ni h2, xs_ni h1]
  have li := fun j (hj : 0 ≤ j ∧ j ≤ dyK h n X) => okD_l (F := F) (tr := tr) ok hj
  have hY : dyY F tr h s n X = fI (dyS (dyB F tr h s n X).2 (hpC (hfF h X.2.2.1) n)) (X.1, X.2.1, 0) (dyK h n X) := rfl
  rw [hB] at li hY
  generalize hS : dyS B.2 (hpC (hfF h X.2.2.1) n) = S at li hY
  have hSj : ∀ j x, S j x = if B.2 j = -1 then x else lrn (hpC (hfF h X.2.2.1) n j) (B.2 j) x := fun j x => by rw [← hS]; rfl
  have hpx := hpC_ok (hf := hfF h X.2.2.1) hn.1
  refine lp_up (n := n) (X := fun p => ∀ dc, (∀ q, ¬ q = 146 → ¬ q = 162 → dc q = d2 q) → (∀ i, ¬ i = 29 → dc 146 i = d2 146 i) → dc 146 29 = (fI S (X.1, X.2.1, 0) (cI (hfF h X.2.2.1) p)).2.2 → (∀ i, ¬ (18 ≤ i ∧ i < 81) → ¬ (v4 ≤ i ∧ i < v4 + n) → dc 162 i = d 162 i) → (∀ q, 0 ≤ q → q < n → dc 162 (18 + q) = (fI S (X.1, X.2.1, 0) (cI (hfF h X.2.2.1) p)).1 q) → (∀ q k, 0 ≤ q → q < n → 0 ≤ k → k < 6 → dc 162 (27 + 6 * q + k) = (fI S (X.1, X.2.1, 0) (cI (hfF h X.2.2.1) p)).2.1 (q * 6 + k)) → (∀ q, 0 ≤ q → q < p → dc 162 (v4 + q) = cvF (hfF h X.2.2.1) B.2 q) → yB (D - 1) xm_c223 (yQv L P) L 29 [.ref 146, .ref 162, .int (xJ v4), .int (xJ p)] [] dc e) hn.1 ?_ ?_ d2 (fun _ _ _ => rfl) (fun _ _ => rfl) (by rw [cI_0, ← hd2, xs_eq]; rfl) (fun i _ _ => by rw [y2 162 (by decide), ea]) (fun q a c => by rw [y2 162 (by decide), ea, cI_0]; exact (m1 q a c).2.2) (fun q k a c a2 c2 => by rw [y2 162 (by decide), ea, cI_0]; exact m2 q k a c a2 c2) (fun q a c => by omega)
  · intro p a c ih dc q1 q2 q3 q4 q5 q6 q7
    have e155 : dc 155 p = cvF (hfF h X.2.2.1) B.2 p := by rw [q1 155 (by decide) (by decide), y2 155 (by decide)]; exact m155 p a c
    have c0 := cI_r (hfF h X.2.2.1) a
    have cm := cI_mono (h := hfF h X.2.2.1) (i := p) (j := n) a (by omega)
    have lj := li (cI (hfF h X.2.2.1) p) ⟨c0.1, cm⟩
    have n1 : dc 146 1 = n := by rw [q2 1 (by decide), y2m 1 (by decide) (by decide), f1 146 1 rfl, hn1]
    refine yk_223_162_29 (by omega) ?_
    rw [n1, e155]
    have wline : ∀ q, 0 ≤ q → q < p + 1 → xs dc 162 (v4 + p) (cvF (hfF h X.2.2.1) B.2 p) 162 (v4 + q) = cvF (hfF h X.2.2.1) B.2 q := fun q a2 c2 => by
      by_cases z : q = p
      · rw [z, xs_eq]
      · rw [xs_ni (by omega)]; exact q7 q a2 (by omega)
    have w4 : ∀ i, ¬ (18 ≤ i ∧ i < 81) → ¬ (v4 ≤ i ∧ i < v4 + n) → xs dc 162 (v4 + p) (cvF (hfF h X.2.2.1) B.2 p) 162 i = d 162 i := fun i h1 h2 => by rw [xs_ni (by omega)]; exact q4 i h1 h2
    have w5 : ∀ q, 0 ≤ q → q < n → xs dc 162 (v4 + p) (cvF (hfF h X.2.2.1) B.2 p) 162 (18 + q) = (fI S (X.1, X.2.1, 0) (cI (hfF h X.2.2.1) p)).1 q := fun q a2 c2 => by rw [xs_ni (by omega)]; exact q5 q a2 c2
    have w6 : ∀ q k, 0 ≤ q → q < n → 0 ≤ k → k < 6 → xs dc 162 (v4 + p) (cvF (hfF h X.2.2.1) B.2 p) 162 (27 + 6 * q + k) = (fI S (X.1, X.2.1, 0) (cI (hfF h X.2.2.1) p)).2.1 (q * 6 + k) := fun q k a2 c2 a3 c3 => by rw [xs_ni (by omega)]; exact q6 q k a2 c2 a3 c3
    by_cases hfp : hfF h X.2.2.1 p = true
    · have e1 := cI_t a hfp
      have cm2 := cI_mono (h := hfF h X.2.2.1) (i := p + 1) (j := n) (by omega) (by omega)
      rw [e1] at cm2
      rw [e1, fI_s _ _ c0.1, hSj] at ih
      have gb := gok.2.2 (cI (hfF h X.2.2.1) p) c0.1 (by omega)
      have ev : cvF (hfF h X.2.2.1) B.2 p = if B.2 (cI (hfF h X.2.2.1) p) = -1 then 9 else B.2 (cI (hfF h X.2.2.1) p) := by unfold cvF; rw [if_pos hfp]
      have hpp := hpx.1 p a c hfp
      rw [hpp] at ih
      have er : yR (cvF (hfF h X.2.2.1) B.2 p) := by rw [ev]; split <;> omega
      refine ⟨by omega, by omega, fun z => by omega, fun _ => ⟨by omega, by omega, er, fun z => ?_, fun z => ?_⟩⟩
      · have zz : B.2 (cI (hfF h X.2.2.1) p) = -1 := by
          rw [ev] at z
          split at z
          · rename_i w; exact w
          · omega
        rw [if_pos zz] at ih
        exact ih _ (fun q h1 h2 => by rw [xs_fn, if_neg h2, q1 q h1 h2]) (fun i h1 => by rw [xs_np (by decide), q2 i h1]) (by rw [xs_np (by decide), q3]) w4 w5 w6 wline
      · have zz : ¬ B.2 (cI (hfF h X.2.2.1) p) = -1 := fun w => by rw [ev, if_pos w] at z; omega
        have eg : cvF (hfF h X.2.2.1) B.2 p = B.2 (cI (hfF h X.2.2.1) p) := by rw [ev, if_neg zz]
        rw [if_neg zz] at ih
        refine sq_224_162 (n := n) (x := fI S (X.1, X.2.1, 0) (cI (hfF h X.2.2.1) p)) (by omega) hn.2 ⟨a, c⟩ (by rw [eg]; omega) (fun q a2 c2 => ⟨w5 q a2 c2, lj.1 q a2 c2⟩) (fun q k a2 c2 a3 c3 => ⟨w6 q k a2 c2 a3 c3, by have := lj.2.1 (q * 6 + k) (by omega) (by omega); omega⟩) (by rw [xs_np (by decide), q3]) (fun d5 g1 g2 g3 g4 g5 g6 => ?_)
        rw [eg] at g4 g5 g6
        refine ih d5 (fun q h1 h2 => by rw [g1 q h1 h2, xs_fn, if_neg h2, q1 q h1 h2]) (fun i h1 => by rw [g2 i h1, xs_np (by decide), q2 i h1]) g4 (fun i h1 h2 => by rw [g3 i h1]; exact w4 i h1 h2) g5 g6 (fun q a2 c2 => by rw [g3 _ (by omega)]; exact wline q a2 c2)
    · have hff : hfF h X.2.2.1 p = false := by
        cases w : hfF h X.2.2.1 p
        · rfl
        · exact absurd w hfp
      have e1 : cI (hfF h X.2.2.1) (p + 1) = cI (hfF h X.2.2.1) p := by rw [cI_f a hff]; omega
      have ev : cvF (hfF h X.2.2.1) B.2 p = 10 := by unfold cvF; rw [if_neg hfp]
      rw [e1] at ih
      refine ⟨by omega, by omega, fun z => by omega, fun _ => ⟨by omega, by omega, by omega, fun z => ?_, fun z => by omega⟩⟩
      exact ih _ (fun q h1 h2 => by rw [xs_fn, if_neg h2, q1 q h1 h2]) (fun i h1 => by rw [xs_np (by decide), q2 i h1]) (by rw [xs_np (by decide), q3]) w4 w5 w6 wline
  · intro dc q1 q2 q3 q4 q5 q6 q7
    have n1 : dc 146 1 = n := by rw [q2 1 (by decide), y2m 1 (by decide) (by decide), f1 146 1 rfl, hn1]
    have e81 : dc 162 81 = X.2.2.1 := by rw [q4 81 (by omega) (by omega), m3]
    have e82 : dc 162 82 = min X.2.2.1 30 := by rw [q4 82 (by omega) (by omega), m4]
    refine yk_223_162_29 (by omega) ?_
    rw [n1, e81, e82]
    refine ⟨by omega, by omega, fun _ => ⟨by omega, ?_⟩, fun z => by omega⟩
    rw [show fI S (X.1, X.2.1, 0) (cI (hfF h X.2.2.1) n) = dyY F tr h s n X from hY.symm] at q3 q5 q6
    have z : ∀ i, ¬ i = 81 → ¬ i = 82 → xs (xs dc 162 81 (X.2.2.1 + 1)) 162 82 (min 30 (min X.2.2.1 30 + 1)) 162 i = dc 162 i := fun i h1 h2 => by rw [xs_ni h2, xs_ni h1]
    have zm : ∀ i, xs (xs dc 162 81 (X.2.2.1 + 1)) 162 82 (min 30 (min X.2.2.1 30 + 1)) 146 i = dc 146 i := fun i => by rw [xs_np (by decide), xs_np (by decide)]
    refine hP _ (fun p i w => ?_) (fun q h1 h2 h3 h4 h5 => by rw [xs_fn, if_neg h5, xs_fn, if_neg h5, q1 q h1 h5, y2 q h1, fq q h1 h2 h3 h4]) ⟨fun p a c => ⟨?_, ?_, ?_⟩, fun p k a c a2 c2 => ?_, ?_, ?_, fun j p a c c2 a2 c3 => ?_⟩ ?_ ?_ ?_ (fun p a c => ?_)
    · by_cases w1 : p = 162
      · subst w1; simp at w
      · rw [xs_np w1, xs_np w1]
        have ws : sm p i = false := by
          cases v : sm p i
          · rfl
          · simp [v] at w
        by_cases w2 : p = 146
        · subst w2
          have hi : ¬ i = 28 ∧ ¬ i = 29 := ⟨fun v => by subst v; exact absurd ws (by decide), fun v => by subst v; exact absurd ws (by decide)⟩
          rw [q2 i hi.2, y2m i hi.1 hi.2]
          exact f1 146 i ws
        · rw [q1 p w2 w1, y2 p w2]
          exact f1 p i ws
    · rw [z p (by omega) (by omega), q4 p (by omega) (by omega)]; exact (m1 p a c).1
    · rw [z _ (by omega) (by omega), q4 _ (by omega) (by omega)]; exact (m1 p a c).2.1
    · rw [z _ (by omega) (by omega)]; exact q5 p a c
    · rw [z _ (by omega) (by omega)]; exact q6 p k a c a2 c2
    · rw [xs_ni (by decide), xs_eq]; rfl
    · rw [xs_eq]; show min 30 (min X.2.2.1 30 + 1) = min (X.2.2.1 + 1) 30; omega
    · have c2' : j < X.2.2.1 + 1 := c2
      show _ = if j = X.2.2.1 % 30 then cvF (hfF h X.2.2.1) (dyB F tr h s n X).2 p else X.2.2.2 j p
      rw [z _ (by omega) (by omega), hB]
      by_cases w : j = X.2.2.1 % 30
      · rw [if_pos w, ← q7 p a2 c3, w, e4]
      · rw [if_neg w, q4 _ (by omega) (by omega)]
        exact m5 j p a c (by omega) a2 c3
    · rw [zm, q2 28 (by decide), ← hd2, xs_ni (by decide), xs_eq]; rfl
    · rw [zm, q2 27 (by decide), y2m 27 (by decide) (by decide), mw.2]
    · rw [zm, q3]
    · rw [xs_np (by decide), xs_np (by decide), q1 155 (by decide) (by decide), y2 155 (by decide)]
      exact m155 p a c
end MDY
