/-! TASKS: the fewest moves. -/
def mb (A : (Int → Int) → Bool) (H : Int → Int) (n : Int) : Nat → (Int → Int) → Int → Option (List (Int × Int))
  | 0, hd, _ => if A hd = true then some [] else none
  | k + 1, hd, f => fT (fun p => fT (fun h => if h = H p then none else (mb A H n k (upI hd p h) (p + 1)).map (fun l => (p, h) :: l)) 0 9) f n
def arC (d : xh_D) : Int → List (Int × Int) → Prop
  | _, [] => True
  | i, x :: l => d 134 i = x.1 ∧ d 135 i = x.2 ∧ arC d (i + 1) l
def arM (d : xh_D) : Int → List (Int × Int) → Prop
  | _, [] => True
  | i, x :: l => d 167 (2 * i) = x.1 ∧ d 167 (2 * i + 1) = x.2 ∧ arM d (i + 1) l
section TSC
variable {R : xR} {b : Int} {L D : Nat} {d dx : xh_D} {e e' : xd_E} {m n : Int} {T c tr sk hd H : Int → Int} {P : Int → xh_D → xd_E → Prop}
theorem wA_hd {cr : Int → Bool} {hd' : Int → Int} (h : ∀ q, 0 ≤ q → q < n → hd q = hd' q) : wA m n T c tr cr hd = wA m n T c tr cr hd' := by
  unfold wA
  exact sI_congr fun k _ _ => WN_cc fun q x y => ⟨by rw [h q x y], rfl⟩
theorem wA_tr {cr : Int → Bool} (h : ∀ q, 0 ≤ q → q < n → sk q = tr q) : wA m n T c sk cr hd = wA m n T c tr cr hd := by
  unfold wA
  exact sI_congr fun k _ _ => WN_cc fun q x y => ⟨rfl, h q x y⟩
/-- one has another hood day -/
theorem hdC_mv {cr : Int → Bool} {p own h x y : Int} (hn : n ≤ 9) (hp : 0 ≤ p ∧ p < n) (ho : 0 ≤ own ∧ own < 9) (hh : 0 ≤ h ∧ h < 9) (hc : hdC n cr hd d) (e0 : hd p = own) (ex : x = d 133 own) (ey : y = xs d 133 own (xi_xor x (xi_shl 1 p)) 133 h) : hdC n cr (upI hd p h) (xs (xs d 133 own (xi_xor x (xi_shl 1 p))) 133 h (xi_xor y (xi_shl 1 p))) := by
  refine ⟨by rw [xs_np (by decide), xs_np (by decide)]; exact hc.1, fun k a c => ?_⟩
  by_cases z : own = h
  · have hy : y = xi_xor x (xi_shl 1 p) := by rw [ey, z, xs_eq]
    by_cases w : k = h
    · rw [w, xs_eq, hy, ex, hc.2 own ho.1 ho.2, bI_flip (by omega) hp, bI_flip (by omega) hp]
      refine bI_congr fun q _ _ => ?_
      rw [upI_app]
      by_cases v : q = p
      · rw [if_pos v, if_pos v, if_pos v, v, e0, decide_eq_true rfl, decide_eq_true rfl]; rfl
      · rw [if_neg v, if_neg v, if_neg v, z]
    · rw [xs_ni w, xs_ni (by omega), hc.2 k a c]
      refine bI_congr fun q _ _ => ?_
      rw [upI_app]
      by_cases v : q = p
      · rw [if_pos v, v, e0, z]
      · rw [if_neg v]
  · have hy : y = d 133 h := by rw [ey, xs_ni (fun w => z w.symm)]
    by_cases w : k = h
    · rw [w, xs_eq, hy, hc.2 h hh.1 hh.2, bI_flip (by omega) hp]
      refine bI_congr fun q _ _ => ?_
      rw [upI_app]
      by_cases v : q = p
      · rw [if_pos v, if_pos v, v, e0, decide_eq_false z, decide_eq_true rfl]; rfl
      · rw [if_neg v, if_neg v]
    · rw [xs_ni w]
      by_cases u : k = own
      · rw [u, xs_eq, ex, hc.2 own ho.1 ho.2, bI_flip (by omega) hp]
        refine bI_congr fun q _ _ => ?_
        rw [upI_app]
        by_cases v : q = p
        · rw [if_pos v, if_pos v, v, e0, decide_eq_true rfl, decide_eq_false (fun w => z w.symm)]; rfl
        · rw [if_neg v, if_neg v]
      · rw [xs_ni u, hc.2 k a c]
        refine bI_congr fun q _ _ => ?_
        rw [upI_app]
        by_cases v : q = p
        · rw [if_pos v, v, e0, decide_eq_false (fun w => u w.symm), decide_eq_false (fun u => w u.symm)]
        · rw [if_neg v]
theorem hdC_c {cr : Int → Bool} {hd' : Int → Int} {d' : xh_D} (h : hdC n cr hd d) (h1 : d' 127 9 = d 127 9) (h2 : d' 133 = d 133) (hh : ∀ q, 0 ≤ q → q < n → hd q = hd' q) : hdC n cr hd' d' := by
  refine ⟨by rw [h1]; exact h.1, fun k a c => ?_⟩
  rw [h2, h.2 k a c]
  exact bI_congr fun q x y => by rw [hh q x y]
theorem arC_c {d' : xh_D} : ∀ (l : List (Int × Int)) (i : Int), (d' 134 = d 134) → d' 135 = d 135 → arC d i l → arC d' i l
  | [], _, _, _, _ => trivial
  | x :: l, i, h1, h2, h => ⟨by rw [h1]; exact h.1, by rw [h2]; exact h.2.1, arC_c l (i + 1) h1 h2 h.2.2⟩
def mvF (at' : Int) (d d' : xh_D) : Prop := (∀ q, ¬ q = 132 → ¬ q = 133 → ¬ q = 134 → ¬ q = 135 → d' q = d q) ∧ ∀ j, j < at' → d' 134 j = d 134 j ∧ d' 135 j = d 135 j
theorem mvF_t {i : Int} {d1 d2 : xh_D} (h : mvF i d d1) (h2 : mvF i d1 d2) : mvF i d d2 := ⟨fun q a1 a2 a3 a4 => by rw [h2.1 q a1 a2 a3 a4, h.1 q a1 a2 a3 a4], fun j a => by rw [(h2.2 j a).1, (h2.2 j a).2]; exact h.2 j a⟩
theorem sq_71 (tp : tkP m n T c tr) (hH : ∀ q, 0 ≤ q → q < n → 0 ≤ H q ∧ H q < 9) : ∀ (k : Nat) (D : Nat) (f at' mo : Int) (hd : Int → Int) (d0 : xh_D) (P1 P0 : xh_D → xd_E → Prop), 6 + 2 * k ≤ D → mo = at' + k → (0 ≤ at' ∧ mo ≤ 2) → (0 ≤ f ∧ f ≤ n) → d0 12 = H → tkC m n T c tr d0 → hdC n (fun _ => true) hd d0 → (∀ q, f ≤ q → q < n → hd q = H q) → (∀ l d2, mb (fun hd => decide (wA m n T c tr (fun _ => true) hd = 0)) H n k hd f = some l → mvF at' d0 d2 → arC d2 at' l → P1 d2 e) → (mb (fun hd => decide (wA m n T c tr (fun _ => true) hd = 0)) H n k hd f = none → ∀ d2, mvF at' d0 d2 → tkC m n T c tr d2 → hdC n (fun _ => true) hd d2 → P0 d2 e) → yZ D 71 L [.ref 127, .ref 11, .int (xJ f), .int (xJ at'), .int (xJ mo), .int (xJ n)] d0 e P1 P0 := by
  have hn := tp.2.1
  intro k
  induction k with
  | zero =>
    intro D f at' mo hd d0 P1 P0 hD hmo ha hf h12 tk hc hq y1 y0
    refine yZ_of rfl rfl rfl (by omega) (yk_71_11_0 ⟨by omega, by omega, fun z => by omega, fun _ => ?_⟩)
    refine sq_68 (by omega) tp tk hc (fun w d' tk' f' => ?_) (fun w d' tk' f' => ?_)
    · exact y1 [] d' (by unfold mb; rw [if_pos (decide_eq_true w)]) ⟨fun q a _ _ _ => f' q a, fun j _ => by rw [f' 134 (by decide), f' 135 (by decide)]; exact ⟨rfl, rfl⟩⟩ trivial
    · exact y0 (by unfold mb; rw [if_neg (by simp [w])]) d' ⟨fun q a _ _ _ => f' q a, fun j _ => by rw [f' 134 (by decide), f' 135 (by decide)]; exact ⟨rfl, rfl⟩⟩ tk' (hdC_c hc (by rw [f' 127 (by decide)]) (f' 133 (by decide)) (fun _ _ _ => rfl))
  | succ k ih =>
    intro D f at' mo hd d0 P1 P0 hD hmo ha hf h12 tk hc hq y1 y0
    obtain ⟨A, eA⟩ : ∃ A : (Int → Int) → Bool, A = fun hd => decide (wA m n T c tr (fun _ => true) hd = 0) := ⟨_, rfl⟩
    rw [← eA] at y1 y0 ih
    obtain ⟨G, eG⟩ : ∃ G : Int → Int → Option (List (Int × Int)), G = fun p h => if h = H p then none else (mb A H n k (upI hd p h) (p + 1)).map (fun l => (p, h) :: l) := ⟨_, rfl⟩
    have em : mb A H n (k + 1) hd f = fT (fun p => fT (G p) 0 9) f n := by rw [eG]; rfl
    rw [em] at y1 y0
    refine yZ_of rfl rfl rfl (by omega) (yk_71_11_0 ⟨by omega, by omega, fun _ => ?_, fun z => by omega⟩)
    refine lp_from (m := f) (n := n) (X := fun p => fT (fun p => fT (G p) 0 9) f n = fT (fun p => fT (G p) 0 9) p n → ∀ d2, mvF at' d0 d2 → tkC m n T c tr d2 → hdC n (fun _ => true) hd d2 → yB (D - 1) xm_c71 (yQz L P1 P0) L 8 [.ref 127, .ref 11, .double 0, .int (xJ at'), .int (xJ mo), .int (xJ n), .int (xJ p), .double 0, .double 0, .double 0] [] d2 e) hf.2 ?_ ?_ rfl d0 ⟨fun _ _ _ _ _ => rfl, fun _ _ => ⟨rfl, rfl⟩⟩ tk hc
    · intro p a1 a2 ihp ep d2 f2 tk2 hc2
      have c12 : d2 12 = H := by rw [f2.1 12 (by decide) (by decide) (by decide) (by decide), h12]
      have hp := hH p (by omega) a2
      refine yk_71_11_8 ⟨by omega, by omega, fun z => by omega, fun _ => ⟨by omega, ?_⟩⟩
      rw [c12]
      refine lp_up (n := 9) (X := fun h => fT (G p) 0 9 = fT (G p) h 9 → ∀ d2, mvF at' d0 d2 → tkC m n T c tr d2 → hdC n (fun _ => true) hd d2 → yB (D - 1) xm_c71 (yQz L P1 P0) L 18 [.ref 127, .ref 11, .double 0, .int (xJ at'), .int (xJ mo), .int (xJ n), .int (xJ p), .int (xJ (H p)), .int (xJ h), .double 0] [] d2 e) (by omega) ?_ ?_ rfl d2 f2 tk2 hc2
      · intro h b1 b2 ihh eh d2 f2 tk2 hc2
        refine yk_71_11_18 (by omega) ⟨by omega, fun z => by omega, fun _ => ⟨by omega, fun z => ?_, fun z => ⟨by omega, by omega, by omega, ?_⟩⟩⟩
        · refine ihh ?_ d2 f2 tk2 hc2
          rw [eh, fT_n b2]
          rw [eG]
          exact if_pos z
        · obtain ⟨dM, eM⟩ : ∃ dM, dM = xs (xs (xs (xs d2 134 at' p) 135 at' h) 133 (H p) (xi_xor (d2 133 (H p)) (xi_shl 1 p))) 133 h (xi_xor (xs (xs (xs d2 134 at' p) 135 at' h) 133 (H p) (xi_xor (d2 133 (H p)) (xi_shl 1 p)) 133 h) (xi_shl 1 p)) := ⟨_, rfl⟩
          rw [← eM]
          have q133 : ∀ q, ¬ q = 133 → ¬ q = 134 → ¬ q = 135 → dM q = d2 q := fun q h1 h2 h3 => by rw [eM, xs_fn, if_neg h1, xs_fn, if_neg h1, xs_fn, if_neg h3, xs_fn, if_neg h2]
          have qj : ∀ j, ¬ j = at' → dM 134 j = d2 134 j ∧ dM 135 j = d2 135 j := fun j hj => by
            rw [eM, xs_np (by decide), xs_np (by decide), xs_np (by decide), xs_ni hj, xs_np (by decide), xs_np (by decide), xs_ni hj, xs_np (by decide)]
            exact ⟨rfl, rfl⟩
          have qa : dM 134 at' = p ∧ dM 135 at' = h := by
            rw [eM, xs_np (by decide), xs_np (by decide), xs_np (by decide), xs_eq, xs_np (by decide), xs_np (by decide), xs_eq]
            exact ⟨rfl, rfl⟩
          have hcM : hdC n (fun _ => true) (upI hd p h) dM := by
            rw [eM]
            exact hdC_mv hn.2 ⟨by omega, a2⟩ hp ⟨b1, b2⟩ (hdC_c hc2 (by rw [xs_np (by decide), xs_np (by decide)]) (by rw [xs_fn, if_neg (by decide), xs_fn, if_neg (by decide)]) (fun _ _ _ => rfl)) (hq p a1 a2) (by rw [xs_np (by decide), xs_np (by decide)]) rfl
          have tkM' : tkC m n T c tr dM := tkC_c tk2 (by rw [q133 127 (by decide) (by decide) (by decide)]) (q133 130 (by decide) (by decide) (by decide)) (q133 131 (by decide) (by decide) (by decide)) (q133 132 (by decide) (by decide) (by decide))
          -- moved back
          have back : ∀ d3 : xh_D, mvF (at' + 1) dM d3 → mvF at' d0 (xs (xs d3 133 h (xi_xor (d3 133 h) (xi_shl 1 p))) 133 (H p) (xi_xor (xs d3 133 h (xi_xor (d3 133 h) (xi_shl 1 p)) 133 (H p)) (xi_shl 1 p))) := fun d3 f3 => by
            refine mvF_t f2 ⟨fun q h1 h2 h3 h4 => by rw [xs_fn, if_neg h2, xs_fn, if_neg h2, f3.1 q h1 h2 h3 h4, q133 q h2 h3 h4], fun j hj => ?_⟩
            rw [xs_np (by decide), xs_np (by decide), xs_np (by decide), xs_np (by decide), (f3.2 j (by omega)).1, (f3.2 j (by omega)).2]
            exact qj j (by omega)
          refine ih (D - 1) (p + 1) (at' + 1) mo (upI hd p h) dM _ _ (by omega) (by omega) (by omega) (by omega) (by rw [q133 12 (by decide) (by decide) (by decide), f2.1 12 (by decide) (by decide) (by decide) (by decide), h12]) tkM' hcM (fun q c1 c2 => by rw [upI_app, if_neg (by omega)]; exact hq q (by omega) c2) (fun l d3 el f3 ar3 => ?_) (fun el d3 f3 tk3 hc3 => ?_)
          · have eg : fT (G p) 0 9 = some ((p, h) :: l) := by
              rw [eh]
              refine fT_y b2 ?_
              rw [eG]
              try dsimp only
              rw [if_neg z, el]
              rfl
            refine y1 ((p, h) :: l) _ ?_ (back d3 f3) ⟨?_, ?_, ?_⟩
            · rw [ep]; exact fT_y a2 eg
            · rw [xs_np (by decide), xs_np (by decide), (f3.2 at' (by omega)).1]; exact qa.1
            · rw [xs_np (by decide), xs_np (by decide), (f3.2 at' (by omega)).2]; exact qa.2
            · exact arC_c l (at' + 1) (by rw [xs_fn, if_neg (by decide), xs_fn, if_neg (by decide)]) (by rw [xs_fn, if_neg (by decide), xs_fn, if_neg (by decide)]) ar3
          · refine ihh ?_ _ (back d3 f3) (tkC_c tk3 (by rw [xs_np (by decide), xs_np (by decide)]) (by rw [xs_fn, if_neg (by decide), xs_fn, if_neg (by decide)]) (by rw [xs_fn, if_neg (by decide), xs_fn, if_neg (by decide)]) (by rw [xs_fn, if_neg (by decide), xs_fn, if_neg (by decide)])) ?_
            · rw [eh]
              refine fT_n b2 ?_
              rw [eG]
              try dsimp only
              rw [if_neg z, el]
              rfl
            · have := hdC_mv hn.2 (own := h) (h := H p) ⟨by omega, a2⟩ ⟨b1, b2⟩ hp hc3 (by rw [upI_app, if_pos rfl]) rfl rfl
              refine hdC_c this rfl rfl (fun q c1 c2 => ?_)
              rw [upI_app]
              by_cases v : q = p
              · rw [if_pos v, v, hq p a1 a2]
              · rw [if_neg v, upI_app, if_neg v]
      · intro eh d2 f2 tk2 hc2
        refine yk_71_11_18 (by omega) ⟨by omega, fun _ => ihp ?_ d2 f2 tk2 hc2, fun z => by omega⟩
        rw [ep]
        refine fT_n a2 ?_
        try dsimp only
        rw [eh]
        exact fT_e (by omega)
    · intro ep d2 f2 tk2 hc2
      exact yk_71_11_8 ⟨by omega, by omega, fun _ => y0 (by rw [ep]; exact fT_e (by omega)) d2 f2 tk2 hc2, fun z => by omega⟩
end TSC
