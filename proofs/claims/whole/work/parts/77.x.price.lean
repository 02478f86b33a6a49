/-! THE RULE: what is read well comes to something; its price on both sides. -/
def gdR (r : List Int) : Prop := (∀ th : Int → Int, (∀ x, 0 ≤ x → x < 7 → yR (th x)) → ∃ v, yR v ∧ val th r v) ∧ ∀ t ∈ r, -256 ≤ t ∧ t ≤ 999
theorem jn_r {o x y : Int} : yR (xp_join o x y) := by
  have h1 := xw_r (x + y)
  have h2 := xw_r (x - y)
  have h3 := xw_r (x * y)
  have h4 : yR (xi_div x y) := xJ_rng _
  unfold xp_join
  repeat' split <;> first | omega | exact h4
theorem gd_neg {r : List Int} (h : gdR r) : gdR (r ++ [-256]) := ⟨fun th ht => by
  obtain ⟨v, _, h2⟩ := h.1 th ht
  exact ⟨_, xw_r _, val_neg h2⟩, fun t hx => by
  rcases List.mem_append.mp hx with w | w
  · exact h.2 t w
  · rw [List.mem_singleton.mp w]; decide⟩
theorem gd_op {r1 r2 : List Int} {x : Int} (h1 : gdR r1) (h2 : gdR r2) (hx : 7 < x ∧ x < 256) : gdR (r1 ++ r2 ++ [-x]) := ⟨fun th ht => by
  obtain ⟨v1, _, a1⟩ := h1.1 th ht
  obtain ⟨v2, _, a2⟩ := h2.1 th ht
  exact ⟨_, jn_r, val_op a1 a2 (by omega)⟩, fun t hx' => by
  rcases List.mem_append.mp hx' with w | w
  · rcases List.mem_append.mp w with w | w
    · exact h1.2 t w
    · exact h2.2 t w
  · rw [List.mem_singleton.mp w]; omega⟩
theorem gd_num {v : Int} (h : 0 ≤ v ∧ v ≤ 999) : gdR [v] := ⟨fun th _ => ⟨v, by omega, val_num h.1⟩, fun t hx => by rw [List.mem_singleton.mp hx]; omega⟩
theorem gd_th {x : Int} (h : 0 ≤ x ∧ x < 7) : gdR [-1 - x] := ⟨fun th ht => ⟨th x, ht x h.1 h.2, val_th h⟩, fun t hx => by rw [List.mem_singleton.mp hx]; omega⟩
theorem prs_gd {c : Nat → Int} (hc : ∀ p, c p < 256) : ∀ (f lev deep p : Nat) (acc : List Int) (p' : Nat) (r : List Int), (4 ≤ lev → gdR acc) → prs c f lev deep p acc = some (.inr (p', r)) → gdR r := by
  have fin : ∀ {p' a : Nat} {l r : List Int}, gdR l → (some (.inr (a, l)) : rS) = some (.inr (p', r)) → gdR r := by
    intro p' a l r h e
    have := congrArg Prod.snd (Sum.inr.inj (Option.some.inj e))
    dsimp only at this
    rw [← this]
    exact h
  intro f
  induction f with
  | zero => intro lev deep p acc p' r _ h; unfold prs at h; exact absurd h (by simp)
  | succ f ih =>
    intro lev deep p acc p' r ha h
    match lev, ha, h with
    | 0, _, h =>
      unfold prs at h
      by_cases z : c p = 45
      · rw [if_pos z] at h
        cases u : prs c f 0 deep (p + 1) [] with
        | none => rw [u] at h; exact absurd h (by simp)
        | some w =>
          rw [u] at h
          cases w with
          | inl q => exact absurd h (by simp)
          | inr w =>
            obtain ⟨p1, r1⟩ := w
            have i := (ih _ _ _ _ _ _ (fun z => by omega)) u
            exact fin (gd_neg i) h
      · rw [if_neg z] at h
        by_cases y : c p = 40 ∧ deep < 4
        · rw [if_pos y] at h
          cases u : prs c f 3 (deep + 1) (p + 1) [] with
          | none => rw [u] at h; exact absurd h (by simp)
          | some w =>
            rw [u] at h
            cases w with
            | inl q => exact absurd h (by simp)
            | inr w =>
              obtain ⟨p1, r1⟩ := w
              have i := (ih _ _ _ _ _ _ (fun z => by omega)) u
              replace h : (if c p1 = 41 then some (.inr (p1 + 1, r1)) else some (.inl p1) : rS) = some (.inr (p', r)) := h
              by_cases w : c p1 = 41
              · rw [if_pos w] at h; exact fin i h
              · rw [if_neg w] at h; exact absurd h (by simp)
        · rw [if_neg y] at h
          by_cases x : dgB (c p)
          · rw [if_pos x] at h
            unfold dgB at x
            by_cases w : dgB (c (p + 1))
            · rw [if_pos w] at h
              unfold dgB at w
              by_cases v : dgB (c (p + 2))
              · rw [if_pos v] at h; unfold dgB at v; exact fin (gd_num (by omega)) h
              · rw [if_neg v] at h; exact fin (gd_num (by omega)) h
            · rw [if_neg w] at h; exact fin (gd_num (by omega)) h
          · rw [if_neg x] at h
            by_cases w : xp_thg (c p) = -1
            · rw [if_pos w] at h; exact absurd h (by simp)
            · rw [if_neg w] at h; exact fin (gd_th (by unfold xp_thg at w ⊢; repeat' split <;> omega)) h
    | 1, _, h =>
      unfold prs at h
      cases u : prs c f 0 deep p [] with
      | none => rw [u] at h; exact absurd h (by simp)
      | some w =>
        rw [u] at h
        cases w with
        | inl q => exact absurd h (by simp)
        | inr w =>
          obtain ⟨p1, r1⟩ := w
          have i := (ih _ _ _ _ _ _ (fun z => by omega)) u
          exact ih _ _ _ _ _ _ (fun _ => i) h
    | 2, _, h =>
      unfold prs at h
      cases u : prs c f 1 deep p [] with
      | none => rw [u] at h; exact absurd h (by simp)
      | some w =>
        rw [u] at h
        cases w with
        | inl q => exact absurd h (by simp)
        | inr w =>
          obtain ⟨p1, r1⟩ := w
          have i := (ih _ _ _ _ _ _ (fun z => by omega)) u
          exact ih _ _ _ _ _ _ (fun _ => i) h
    | 3, _, h =>
      unfold prs at h
      cases u : prs c f 2 deep p [] with
      | none => rw [u] at h; exact absurd h (by simp)
      | some w =>
        rw [u] at h
        cases w with
        | inl q => exact absurd h (by simp)
        | inr w =>
          obtain ⟨p1, r1⟩ := w
          have i := (ih _ _ _ _ _ _ (fun z => by omega)) u
          replace h : (if c p1 = 60 ∨ c p1 = 62 ∨ c p1 = 61 then (match prs c f 2 deep (p1 + 1) [] with | some (.inr (p2, r2)) => some (.inr (p2, r1 ++ r2 ++ [-(c p1)])) | x => x) else some (.inr (p1, r1)) : rS) = some (.inr (p', r)) := h
          by_cases w : c p1 = 60 ∨ c p1 = 62 ∨ c p1 = 61
          · rw [if_pos w] at h
            cases u2 : prs c f 2 deep (p1 + 1) [] with
            | none => rw [u2] at h; exact absurd h (by simp)
            | some w2 =>
              rw [u2] at h
              cases w2 with
              | inl q => exact absurd h (by simp)
              | inr w2 =>
                obtain ⟨p2, r2⟩ := w2
                have i2 := (ih _ _ _ _ _ _ (fun z => by omega)) u2
                exact fin (gd_op i i2 (by omega)) h
          · rw [if_neg w] at h; exact fin i h
    | 4, ha, h =>
      unfold prs at h
      by_cases w : c p = 42 ∨ c p = 47
      · rw [if_pos w] at h
        cases u : prs c f 0 deep (p + 1) [] with
        | none => rw [u] at h; exact absurd h (by simp)
        | some w =>
          rw [u] at h
          cases w with
          | inl q => exact absurd h (by simp)
          | inr w =>
            obtain ⟨p1, r1⟩ := w
            have i := (ih _ _ _ _ _ _ (fun z => by omega)) u
            exact ih _ _ _ _ _ _ (fun _ => gd_op (ha (by omega)) i (by omega)) h
      · rw [if_neg w] at h; exact fin (ha (by omega)) h
    | k + 5, ha, h =>
      unfold prs at h
      by_cases w : c p = 43 ∨ c p = 45
      · rw [if_pos w] at h
        cases u : prs c f 1 deep (p + 1) [] with
        | none => rw [u] at h; exact absurd h (by simp)
        | some w =>
          rw [u] at h
          cases w with
          | inl q => exact absurd h (by simp)
          | inr w =>
            obtain ⟨p1, r1⟩ := w
            have i := (ih _ _ _ _ _ _ (fun z => by omega)) u
            exact ih _ _ _ _ _ _ (fun _ => gd_op (ha (by omega)) i (by omega)) h
      · rw [if_neg w] at h; exact fin (ha (by omega)) h
/-- what the rule comes to -/
def fR (r : List Int) (th : Int → Int) : Int := if r = [] then 9 - th 0 + th 2 else (run th r []).headD 0
def sRk (d : xh_D) : List Int → Prop
  | [] => True
  | x :: s => d 115 (s.length : Int) = x ∧ sRk d s
def cR (code : Int → Int) : Int → List Int → Prop
  | _, [] => True
  | i, x :: l => code i = x ∧ cR code (i + 1) l
section RUX
variable {L D : Nat} {d : xh_D} {e : xd_E}
theorem sRk_c {d' : xh_D} : ∀ (s : List Int), (∀ j, 0 ≤ j → j < (s.length : Int) → d' 115 j = d 115 j) → sRk d s → sRk d' s
  | [], _, _ => trivial
  | x :: s, h, hs => ⟨by rw [h _ (by omega) (by rw [List.length_cons]; omega)]; exact hs.1, sRk_c s (fun j a b => h j a (by rw [List.length_cons]; omega)) hs.2⟩
theorem yB_w {code : List Instr} {Q : xe_Q} {i : Nat} {dl st : List Value} {q : Nat} {j v : Int} (h : yB D code Q L i dl st (xs d q j (xw v)) e) : yB D code Q L i dl st (xs d q j v) e := by
  unfold yB at h ⊢
  rw [show xh_m (xs d q j v) = xh_m (xs d q j (xw v)) from ?_]
  · exact h
  · funext p k
    unfold xh_m xs
    by_cases z : p = q ∧ (k : Int) = j
    · rw [if_pos z, if_pos z, xw_J]
    · rw [if_neg z, if_neg z]
theorem tk_0 {th : Int → Int} {t : Int} (h : t < -7) : tk th [] t = [] := by unfold tk; rw [if_neg (by omega), if_neg (fun w => w.2 rfl)]
theorem tk_1 {th : Int → Int} {t x : Int} (h : t < -7) (h2 : ¬ t = -256) : tk th [x] t = [x] := by unfold tk; rw [if_neg (by omega), if_neg (fun w => h2 w.1)]
theorem tk_2 {th : Int → Int} {t x y : Int} {s : List Int} (h : t < -7) (h2 : ¬ t = -256) : tk th (y :: x :: s) t = xp_join (-t) x y :: s := by unfold tk; rw [if_neg (by omega), if_neg (fun w => h2 w.1)]
theorem sq_47 {r : List Int} {th : Int → Int} {v : Int} {P : Int → xh_D → xd_E → Prop} (hD : 4 ≤ D) (h6 : d 111 6 = (r.length : Int)) (hl : 0 < r.length ∧ r.length ≤ 40) (hc : cR (d 112) 0 r) (ht : ∀ i, 0 ≤ i → i < 7 → d 116 i = th i ∧ yR (th i)) (hr : ∀ t ∈ r, -256 ≤ t ∧ t ≤ 999) (hv : run th r [] = [v]) (h : ∀ d', Fk sP d d' → P (max 0 (min v 99)) d' e) : yC D 47 L [.ref 111] d e P := by
  have key : ∀ (rest : List Int) (i : Nat) (stk : List Int) (d2 : xh_D), i + rest.length = r.length → cR (d 112) i rest → (∀ t ∈ rest, -256 ≤ t ∧ t ≤ 999) → (∀ q, ¬ q = 115 → d2 q = d q) → sRk d2 stk → (∀ x ∈ stk, yR x) → stk.length ≤ i → run th rest stk = [v] → yB (D - 1) xm_c47 (yQi L P) L 21 [.ref 111, .int (xJ (stk.length : Int)), .int (xJ (i : Int)), .double 0] [] d2 e := by
    intro rest
    induction rest with
    | nil =>
      intro i stk d2 hi _ _ f2 hs hy hlen hrun
      have e1 : stk = [v] := hrun
      rw [List.length_nil] at hi
      rw [e1] at hs hy ⊢
      have v0 : d2 115 0 = v := hs.1
      have vr := hy v (List.mem_singleton.mpr rfl)
      refine yk_47_21 (by omega) ?_
      rw [f2 111 (by decide), h6, v0]
      exact ⟨by omega, by omega, fun _ => ⟨vr, h d2 (fun p i s => by rw [f2 p (fun w => by rw [w] at s; exact absurd (show true = false from s) (by decide))])⟩, fun z => by omega⟩
    | cons t rest ih =>
      intro i stk d2 hi hcr htr f2 hs hy hlen hrun
      rw [List.length_cons] at hi
      have tr := htr t (List.mem_cons_self ..)
      have tt := fun y (hy : y ∈ rest) => htr y (List.mem_cons_of_mem _ hy)
      have hn : run th rest (tk th stk t) = [v] := hrun
      have c2 : cR (d 112) ((i + 1 : Nat) : Int) rest := hcr.2
      have ci : d2 112 i = t := by rw [f2 112 (by decide)]; exact hcr.1
      -- what is left as it is
      have skip : tk th stk t = stk → yB (D - 1) xm_c47 (yQi L P) L 21 [.ref 111, .int (xJ (stk.length : Int)), .int (xJ ((i : Int) + 1)), .double 0] [] d2 e := fun w => by
        rw [w] at hn
        exact ih (i + 1) stk d2 (by omega) c2 tt f2 hs hy (by omega) hn
      have push : ∀ x, yR x → tk th stk t = x :: stk → yB (D - 1) xm_c47 (yQi L P) L 21 [.ref 111, .int (xJ ((stk.length : Int) + 1)), .int (xJ ((i : Int) + 1)), .double 0] [] (xs d2 115 (stk.length : Int) x) e := fun x xr w => by
        rw [w] at hn
        refine ih (i + 1) (x :: stk) _ (by omega) c2 tt (fun q hq => by rw [xs_fn, if_neg hq, f2 q hq]) ⟨xs_eq, sRk_c stk (fun j a b => xs_ni (by omega)) hs⟩ (fun y hy' => ?_) (by rw [List.length_cons]; omega) hn
        rcases List.mem_cons.mp hy' with u | u
        · rw [u]; exact xr
        · exact hy y u
      have jn : t < -7 → ¬ (t = -256 ∧ ¬ stk = []) → yB (D - 1) xm_c47 (yQi L P) L 69 [.ref 111, .int (xJ (stk.length : Int)), .int (xJ (i : Int)), .int (xJ t)] [] d2 e := fun w1 w2 => by
        match stk, hs, hy, hlen, hn, w2, skip with
        | [], _, _, _, _, w2, skip => exact yk_47_69 (by omega) ⟨by decide, fun _ => skip (tk_0 w1), fun z => absurd (show ((0 : Nat) : Int) < 2 by decide) z⟩
        | [x], _, _, _, _, w2, skip => exact yk_47_69 (by omega) ⟨show -2147483648 ≤ ((1 : Nat) : Int) ∧ ((1 : Nat) : Int) < 2147483648 by decide, fun _ => skip (tk_1 w1 (fun u => w2 ⟨u, by simp⟩)), fun z => absurd (show ((1 : Nat) : Int) < 2 by decide) z⟩
        | y :: x :: s', hs, hy, hlen, hn, w2, skip =>
          rw [List.length_cons, List.length_cons] at hlen
          have ln : (((y :: x :: s').length : Nat) : Int) = (s'.length : Int) + 2 := by rw [List.length_cons, List.length_cons]; omega
          rw [ln]
          have y0 : d2 115 ((s'.length : Int) + 2 + -1) = y := by rw [show (s'.length : Int) + 2 + -1 = (((x :: s').length : Nat) : Int) by rw [List.length_cons]; omega]; exact hs.1
          have x0 : d2 115 ((s'.length : Int) + 2 + -1 - 1) = x := by rw [show (s'.length : Int) + 2 + -1 - 1 = ((s'.length : Nat) : Int) by omega]; exact hs.2.1
          have yr := hy y (List.mem_cons_self ..)
          have xr := hy x (List.mem_cons_of_mem _ (List.mem_cons_self ..))
          refine yk_47_69 (by omega) ?_
          rw [y0, x0]
          refine ⟨by omega, fun z => by omega, fun _ => ⟨by omega, by omega, by omega, xr, yr, ?_⟩⟩
          rw [tk_2 w1 (fun u => w2 ⟨u, by simp⟩)] at hn
          have := ih (i + 1) (xp_join (-t) x y :: s') (xs d2 115 ((s'.length : Int) + 2 + -1 - 1) (xp_join (-t) x y)) (by omega) c2 tt (fun q hq => by rw [xs_fn, if_neg hq, f2 q hq]) ⟨by rw [show (s'.length : Int) + 2 + -1 - 1 = ((s'.length : Nat) : Int) by omega, xs_eq], sRk_c s' (fun j a b => xs_ni (by omega)) hs.2.2⟩ (fun z hz => ?_) (by rw [List.length_cons]; omega) hn
          · rw [show (((xp_join (-t) x y :: s').length : Nat) : Int) = (s'.length : Int) + 2 + -1 by rw [List.length_cons]; omega] at this
            exact this
          · rcases List.mem_cons.mp hz with u | u
            · rw [u]; exact jn_r
            · exact hy z (List.mem_cons_of_mem _ (List.mem_cons_of_mem _ u))
      refine yk_47_21 (by omega) ?_
      rw [f2 111 (by decide), h6, ci]
      refine ⟨by omega, by omega, fun z => by omega, fun _ => ⟨by omega, by omega, fun w => ⟨fun w2 => jn w (fun u => w2 u.1), fun w2 => ⟨by omega, fun w3 => jn w (fun u => ?_), fun w3 => ⟨by omega, ?_⟩⟩⟩, fun w => ⟨fun w2 => ⟨by omega, by omega, ?_⟩, fun w2 => ⟨by omega, push t (by omega) (by unfold tk; rw [if_pos (by omega), if_pos (by omega)])⟩⟩⟩⟩
      · cases stk with
        | nil => exact u.2 rfl
        | cons a b => rw [List.length_cons] at w3; omega
      · match stk, hs, hy, hlen, hn, w3 with
        | [], _, _, _, _, w3 => exact absurd (show ((0 : Nat) : Int) < 1 by decide) w3
        | y :: s', hs, hy, hlen, hn, w3 =>
          rw [List.length_cons] at hlen
          have ln : (((y :: s').length : Nat) : Int) = (s'.length : Int) + 1 := by rw [List.length_cons]; omega
          rw [ln]
          have y0 : d2 115 ((s'.length : Int) + 1 - 1) = y := by rw [show (s'.length : Int) + 1 - 1 = ((s'.length : Nat) : Int) by omega]; exact hs.1
          have et : tk th (y :: s') t = xw (-y) :: s' := by unfold tk; rw [if_neg (by omega), if_pos ⟨w2, by simp⟩]; rfl
          rw [et] at hn
          rw [y0]
          refine yB_w ?_
          have := ih (i + 1) (xw (-y) :: s') (xs d2 115 ((s'.length : Int) + 1 - 1) (xw (-y))) (by omega) c2 tt (fun q hq => by rw [xs_fn, if_neg hq, f2 q hq]) ⟨by rw [show (s'.length : Int) + 1 - 1 = ((s'.length : Nat) : Int) by omega, xs_eq], sRk_c s' (fun j a b => xs_ni (by omega)) hs.2⟩ (fun z hz => ?_) (by rw [List.length_cons]; omega) hn
          · rw [show (((xw (-y) :: s').length : Nat) : Int) = (s'.length : Int) + 1 by rw [List.length_cons]; omega] at this
            exact this
          · rcases List.mem_cons.mp hz with u | u
            · rw [u]; exact xw_r _
            · exact hy z (List.mem_cons_of_mem _ u)
      · have tq := ht (-1 - t) (by omega) (by omega)
        rw [f2 116 (by decide), tq.1]
        exact push _ tq.2 (by unfold tk; rw [if_pos (by omega), if_neg (by omega)])
  refine yC_of rfl rfl rfl (by omega) (yk_47_0 (by omega) ?_)
  rw [h6]
  exact ⟨by omega, fun _ => key r 0 [] d (by omega) hc hr (fun _ _ => rfl) trivial (fun x hx => by simp at hx) (Nat.le_refl _) hv, fun z => by omega⟩
end RUX
