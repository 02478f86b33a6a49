/-! THE RULE: texts of it, as the reference reads them and as the class does. -/
abbrev rS : Type := Option (Nat ⊕ (Nat × List Int))
abbrev dgB (x : Int) : Prop := 48 ≤ x ∧ x ≤ 57
/-- level 0 a thing, 1 a product, 2 a sum, 3 what may be compared, 4 and 5 the loops of 1 and 2: where it ends, its tokens; or where it fails -/
def prs (c : Nat → Int) : Nat → Nat → Nat → Nat → List Int → rS
  | 0, _, _, _, _ => none
  | f + 1, 0, deep, p, _ =>
    if c p = 45 then (match prs c f 0 deep (p + 1) [] with
      | some (.inr (p', r)) => some (.inr (p', r ++ [-256]))
      | x => x)
    else if c p = 40 ∧ deep < 4 then (match prs c f 3 (deep + 1) (p + 1) [] with
      | some (.inr (p', r)) => if c p' = 41 then some (.inr (p' + 1, r)) else some (.inl p')
      | x => x)
    else if dgB (c p) then
      (if dgB (c (p + 1)) then (if dgB (c (p + 2)) then some (.inr (p + 3, [((c p - 48) * 10 + (c (p + 1) - 48)) * 10 + (c (p + 2) - 48)])) else some (.inr (p + 2, [(c p - 48) * 10 + (c (p + 1) - 48)]))) else some (.inr (p + 1, [c p - 48])))
    else if xp_thg (c p) = -1 then some (.inl p) else some (.inr (p + 1, [-1 - xp_thg (c p)]))
  | f + 1, 1, deep, p, _ => (match prs c f 0 deep p [] with
      | some (.inr (p', r)) => prs c f 4 deep p' r
      | x => x)
  | f + 1, 2, deep, p, _ => (match prs c f 1 deep p [] with
      | some (.inr (p', r)) => prs c f 5 deep p' r
      | x => x)
  | f + 1, 3, deep, p, _ => (match prs c f 2 deep p [] with
      | some (.inr (p', r)) => if c p' = 60 ∨ c p' = 62 ∨ c p' = 61 then (match prs c f 2 deep (p' + 1) [] with
          | some (.inr (p2, r2)) => some (.inr (p2, r ++ r2 ++ [-(c p')]))
          | x => x) else some (.inr (p', r))
      | x => x)
  | f + 1, 4, deep, p, acc => if c p = 42 ∨ c p = 47 then (match prs c f 0 deep (p + 1) [] with
      | some (.inr (p', r)) => prs c f 4 deep p' (acc ++ r ++ [-(c p)])
      | x => x) else some (.inr (p, acc))
  | f + 1, _ + 5, deep, p, acc => if c p = 43 ∨ c p = 45 then (match prs c f 1 deep (p + 1) [] with
      | some (.inr (p', r)) => prs c f 5 deep p' (acc ++ r ++ [-(c p)])
      | x => x) else some (.inr (p, acc))
/-- the class's state when it reads -/
abbrev cS : Type := List Int × List Int × Int × Int × Bool × (Int → Bool)
def pw (k : Int) : List Int → List Int → List Int × List Int
  | dr, [] => (dr, [])
  | dr, s :: w => if s = 40 ∨ xp_str s < k then (dr, s :: w) else pw k (dr ++ [-s]) w
def lenL (dr : List Int) (g : Int) : List Int := dr.dropLast ++ [dr.getLastD 0 * 10 + g]
def stA (s : cS) (ch : Int) : Option cS :=
  if ch = 45 then some (s.1, 256 :: s.2.1, s.2.2.1, s.2.2.2.1, s.2.2.2.2.1, s.2.2.2.2.2)
  else if ch = 40 then (if s.2.2.1 = 4 then none else some (s.1, 40 :: s.2.1, s.2.2.1 + 1, s.2.2.2.1, s.2.2.2.2.1, fun i => if i = s.2.2.1 + 1 then false else s.2.2.2.2.2 i))
  else if dgB ch then some (s.1 ++ [ch - 48], s.2.1, s.2.2.1, 1, false, s.2.2.2.2.2)
  else if xp_thg ch = -1 then none else some (s.1 ++ [-1 - xp_thg ch], s.2.1, s.2.2.1, 0, false, s.2.2.2.2.2)
def stB (s : cS) (ch : Int) : Option cS :=
  if dgB ch then (if s.2.2.2.1 = 0 ∨ s.2.2.2.1 = 3 ∨ s.1 = [] then none else some (lenL s.1 (ch - 48), s.2.1, s.2.2.1, s.2.2.2.1 + 1, s.2.2.2.2.1, s.2.2.2.2.2))
  else if ch = 41 then (if s.2.2.1 = 0 then none else some ((pw 0 s.1 s.2.1).1, (pw 0 s.1 s.2.1).2.tail, s.2.2.1 - 1, 0, s.2.2.2.2.1, s.2.2.2.2.2))
  else if xp_str ch = 0 ∨ (xp_str ch = 1 ∧ s.2.2.2.2.2 s.2.2.1 = true) then none
  else some ((pw (xp_str ch) s.1 s.2.1).1, ch :: (pw (xp_str ch) s.1 s.2.1).2, s.2.2.1, s.2.2.2.1, true, fun i => if xp_str ch = 1 ∧ i = s.2.2.1 then true else s.2.2.2.2.2 i)
def stC (s : cS) (ch : Int) : Option cS := if s.2.2.2.2.1 = true then stA s ch else stB s ch
def prc (c : Nat → Int) : Nat → Nat → cS → Option cS
  | 0, _, s => some s
  | k + 1, p, s => (stC s (c p)).bind (prc c k (p + 1))
section RUL
variable {c : Nat → Int}
theorem prc_add : ∀ (a b p : Nat) (s : cS), prc c (a + b) p s = (prc c a p s).bind (prc c b (p + a))
  | 0, b, p, s => by rw [Nat.zero_add]; rfl
  | a + 1, b, p, s => by
    rw [show a + 1 + b = (a + b) + 1 by omega]
    show (stC s (c p)).bind (prc c (a + b) (p + 1)) = ((stC s (c p)).bind (prc c a (p + 1))).bind (prc c b (p + (a + 1)))
    cases h : stC s (c p) with
    | none => rfl
    | some s1 =>
      show prc c (a + b) (p + 1) s1 = (prc c a (p + 1) s1).bind (prc c b (p + (a + 1)))
      rw [prc_add a b (p + 1) s1, show p + 1 + a = p + (a + 1) by omega]
def low (k : Int) (W : List Int) : Prop := W = [] ∨ ∃ s w, W = s :: w ∧ (s = 40 ∨ xp_str s < k)
theorem pw_low {k : Int} {dr W : List Int} (h : low k W) : pw k dr W = (dr, W) := by
  rcases h with rfl | ⟨s, w, rfl, h⟩
  · rfl
  · unfold pw
    rw [if_pos h]
theorem pw_all {k : Int} {W : List Int} (hW : low k W) : ∀ (pend dr : List Int), (∀ x ∈ pend, ¬ x = 40 ∧ k ≤ xp_str x) → pw k dr (pend ++ W) = (dr ++ pend.map (fun x => -x), W)
  | [], dr, _ => by rw [List.nil_append, List.map_nil, List.append_nil]; exact pw_low hW
  | x :: pend, dr, h => by
    have hx := h x (List.mem_cons_self ..)
    rw [List.cons_append]
    unfold pw
    rw [if_neg (by omega), pw_all hW pend (dr ++ [-x]) (fun y hy => h y (List.mem_cons_of_mem _ hy)), List.map_cons, List.append_assoc]
    rfl
theorem lenL_a {dr : List Int} {x g : Int} : lenL (dr ++ [x]) g = dr ++ [x * 10 + g] := by
  unfold lenL
  rw [List.dropLast_concat, show (dr ++ [x]).getLastD 0 = x by simp]
def rej (s : cS) (ch : Int) : Prop := stC s ch = none ∧ (ch = -1 → s.2.2.2.2.1 = true ∨ 0 < s.2.2.1)
def okC (c : Nat → Int) (s : cS) (p : Nat) (res : rS) (G : Nat → List Int → cS → Prop) : Prop := match res with
  | none => True
  | some (.inl q) => p ≤ q ∧ ∃ s', prc c (q - p) p s = some s' ∧ rej s' (c q)
  | some (.inr (p', r)) => p ≤ p' ∧ ∃ s', prc c (p' - p) p s = some s' ∧ G p' r s'
theorem prc_to {s s1 s' : cS} {p p1 q : Nat} (h1 : p ≤ p1) (h2 : p1 ≤ q) (e1 : prc c (p1 - p) p s = some s1) (e2 : prc c (q - p1) p1 s1 = some s') : prc c (q - p) p s = some s' := by
  rw [show q - p = (p1 - p) + (q - p1) by omega, prc_add, e1, show p + (p1 - p) = p1 by omega]
  exact e2
theorem okC_b {s s1 : cS} {p p1 : Nat} {res : rS} {G : Nat → List Int → cS → Prop} (h1 : p ≤ p1) (e1 : prc c (p1 - p) p s = some s1) (h : okC c s1 p1 res G) : okC c s p res G := by
  unfold okC at h ⊢
  split
  · trivial
  · obtain ⟨a, s', b, d⟩ := h
    exact ⟨Nat.le_trans h1 a, s', prc_to h1 a e1 b, d⟩
  · obtain ⟨a, s', b, d⟩ := h
    exact ⟨Nat.le_trans h1 a, s', prc_to h1 a e1 b, d⟩
theorem okC_m {s : cS} {p : Nat} {res : rS} {G G' : Nat → List Int → cS → Prop} (h : okC c s p res G) (hG : ∀ p' r s', G p' r s' → G' p' r s') : okC c s p res G' := by
  unfold okC at h ⊢
  split
  · trivial
  · exact h
  · obtain ⟨a, s', b, d⟩ := h
    exact ⟨a, s', b, hG _ _ _ d⟩
theorem prc_1 {s s1 : cS} {p : Nat} (h : stC s (c p) = some s1) : prc c (p + 1 - p) p s = some s1 := by
  rw [show p + 1 - p = 1 by omega]
  show (stC s (c p)).bind (prc c 0 (p + 1)) = some s1
  rw [h]
  rfl
/-- what stands behind a part of strength k -/
def pst (c : Nat → Int) (k j deep : Int) (D0 W : List Int) (cm : Int → Bool) (p : Nat) (r : List Int) (s : cS) : Prop := (∃ dd pend, s.1 = D0 ++ dd ∧ s.2.1 = pend ++ W ∧ dd ++ pend.map (fun x => -x) = r ∧ ∀ x ∈ pend, ¬ x = 40 ∧ k ≤ xp_str x) ∧ s.2.2.1 = deep ∧ s.2.2.2.2.1 = false ∧ (∀ i, i < j → s.2.2.2.2.2 i = cm i) ∧ (dgB (c p) → s.2.2.2.1 = 0 ∨ s.2.2.2.1 = 3)
theorem pst_m {k k' j deep : Int} {D0 W : List Int} {cm : Int → Bool} {p : Nat} {r : List Int} {s : cS} (h : pst c k j deep D0 W cm p r s) (hk : k' ≤ k) : pst c k' j deep D0 W cm p r s := by
  obtain ⟨⟨dd, pend, a1, a2, a3, a4⟩, b⟩ := h
  exact ⟨⟨dd, pend, a1, a2, a3, fun x hx => ⟨(a4 x hx).1, by have := (a4 x hx).2; omega⟩⟩, b⟩
theorem str_v {x : Int} : xp_str x = 0 ∨ xp_str x = 1 ∨ xp_str x = 2 ∨ xp_str x = 3 ∨ xp_str x = 4 := by unfold xp_str; repeat' split <;> omega
theorem str_1 {x : Int} : xp_str x = 1 ↔ x = 60 ∨ x = 61 ∨ x = 62 := by unfold xp_str; repeat' split <;> omega
theorem str_2 {x : Int} : xp_str x = 2 ↔ x = 43 ∨ x = 45 := by unfold xp_str; repeat' split <;> omega
theorem str_3 {x : Int} : xp_str x = 3 ↔ x = 42 ∨ x = 47 := by unfold xp_str; repeat' split <;> omega
theorem str_4 {x : Int} : xp_str x = 4 ↔ x = 256 := by unfold xp_str; repeat' split <;> omega
/-- a sign that joins, behind a part -/
theorem op_st {k j deep : Int} {D0 W : List Int} {cm : Int → Bool} {p : Nat} {r : List Int} {s : cS} (h : pst c k j deep D0 W cm p r s) (hk : xp_str (c p) ≤ k) (h1 : 1 ≤ xp_str (c p)) (hc : c p < 256) (hW : low (xp_str (c p)) W) (hm : xp_str (c p) = 1 → s.2.2.2.2.2 deep = false) : ∃ s1, stC s (c p) = some s1 ∧ s1.2.2.2.2.1 = true ∧ s1.2.2.1 = deep ∧ s1.1 = D0 ++ r ∧ s1.2.1 = c p :: W ∧ (∀ i, ¬ i = deep → s1.2.2.2.2.2 i = s.2.2.2.2.2 i) ∧ (¬ xp_str (c p) = 1 → s1.2.2.2.2.2 deep = s.2.2.2.2.2 deep) ∧ (xp_str (c p) = 1 → s1.2.2.2.2.2 deep = true) := by
  obtain ⟨⟨dd, pend, a1, a2, a3, a4⟩, b1, b2, b3, b4⟩ := h
  have e1 : pw (xp_str (c p)) s.1 s.2.1 = (D0 ++ r, W) := by
    rw [a1, a2, pw_all hW pend _ (fun x hx => ⟨(a4 x hx).1, by have := (a4 x hx).2; omega⟩), ← a3, List.append_assoc]
  have nd : ¬ dgB (c p) := fun z => by
    unfold dgB at z
    have := @str_v (c p)
    have s1 := @str_1 (c p)
    have s2 := @str_2 (c p)
    have s3 := @str_3 (c p)
    have s4 := @str_4 (c p)
    omega
  have n41 : ¬ c p = 41 := fun z => by rw [z] at h1; exact absurd h1 (by decide)
  refine ⟨(D0 ++ r, c p :: W, s.2.2.1, s.2.2.2.1, true, fun i => if xp_str (c p) = 1 ∧ i = s.2.2.1 then true else s.2.2.2.2.2 i), ?_, ?_⟩
  · unfold stC
    rw [if_neg (by rw [b2]; decide)]
    unfold stB
    rw [if_neg nd, if_neg n41, if_neg (fun z => by
      rcases z with z | z
      · omega
      · rw [b1, hm z.1] at z; exact absurd z.2 (by decide)), e1]
  · refine ⟨rfl, b1, rfl, rfl, fun i hi => ?_, fun z => ?_, fun z => ?_⟩
    · show (if xp_str (c p) = 1 ∧ i = s.2.2.1 then true else s.2.2.2.2.2 i) = s.2.2.2.2.2 i
      rw [if_neg (fun w => hi (by rw [← b1]; exact w.2))]
    · show (if xp_str (c p) = 1 ∧ deep = s.2.2.1 then true else s.2.2.2.2.2 deep) = s.2.2.2.2.2 deep
      rw [if_neg (fun w => z w.1)]
    · show (if xp_str (c p) = 1 ∧ deep = s.2.2.1 then true else s.2.2.2.2.2 deep) = true
      rw [if_pos ⟨z, b1.symm⟩]
/-- behind all that can be held nothing more can stand -/
theorem rej_end {k j deep : Int} {D0 W : List Int} {cm : Int → Bool} {p : Nat} {r : List Int} {s : cS} (h : pst c k j deep D0 W cm p r s) (hc : c p < 256) (h3 : ¬ (c p = 42 ∨ c p = 47)) (h2 : ¬ (c p = 43 ∨ c p = 45)) (h1 : s.2.2.2.2.2 deep = true ∨ ¬ (c p = 60 ∨ c p = 62 ∨ c p = 61)) (h41 : c p = 41 → deep = 0) : stC s (c p) = none := by
  obtain ⟨⟨dd, pend, a1, a2, a3, a4⟩, b1, b2, b3, b4⟩ := h
  unfold stC
  rw [if_neg (by rw [b2]; decide)]
  unfold stB
  by_cases d : dgB (c p)
  · rw [if_pos d, if_pos (by rcases b4 d with z | z; exact Or.inl z; exact Or.inr (Or.inl z))]
  · rw [if_neg d]
    by_cases z : c p = 41
    · rw [if_pos z, if_pos (by rw [b1]; exact h41 z)]
    · rw [if_neg z, if_pos]
      have := @str_v (c p)
      have s1 := @str_1 (c p)
      have s2 := @str_2 (c p)
      have s3 := @str_3 (c p)
      have s4 := @str_4 (c p)
      by_cases y : xp_str (c p) = 1
      · rcases h1 with w | w
        · exact Or.inr ⟨y, by rw [b1]; exact w⟩
        · omega
      · exact Or.inl (by omega)
def spT (c : Nat → Int) (f : Nat) : Prop := ∀ (deep p : Nat) (s : cS), s.2.2.2.2.1 = true → s.2.2.1 = deep → deep ≤ 4 → okC c s p (prs c f 0 deep p []) (fun p' r s' => p < p' ∧ pst c 4 (deep + 1) deep s.1 s.2.1 s.2.2.2.2.2 p' r s')
def spP (c : Nat → Int) (f : Nat) : Prop := ∀ (deep p : Nat) (s : cS), s.2.2.2.2.1 = true → s.2.2.1 = deep → deep ≤ 4 → low 3 s.2.1 → okC c s p (prs c f 1 deep p []) (fun p' r s' => p < p' ∧ pst c 3 (deep + 1) deep s.1 s.2.1 s.2.2.2.2.2 p' r s' ∧ ¬ (c p' = 42 ∨ c p' = 47))
def spS (c : Nat → Int) (f : Nat) : Prop := ∀ (deep p : Nat) (s : cS), s.2.2.2.2.1 = true → s.2.2.1 = deep → deep ≤ 4 → low 2 s.2.1 → okC c s p (prs c f 2 deep p []) (fun p' r s' => p < p' ∧ pst c 2 (deep + 1) deep s.1 s.2.1 s.2.2.2.2.2 p' r s' ∧ ¬ (c p' = 42 ∨ c p' = 47) ∧ ¬ (c p' = 43 ∨ c p' = 45))
def spH (c : Nat → Int) (f : Nat) : Prop := ∀ (deep p : Nat) (s : cS), s.2.2.2.2.1 = true → s.2.2.1 = deep → deep ≤ 4 → low 1 s.2.1 → s.2.2.2.2.2 deep = false → okC c s p (prs c f 3 deep p []) (fun p' r s' => p < p' ∧ pst c 1 deep deep s.1 s.2.1 s.2.2.2.2.2 p' r s' ∧ ¬ (c p' = 42 ∨ c p' = 47) ∧ ¬ (c p' = 43 ∨ c p' = 45) ∧ (s'.2.2.2.2.2 deep = true ∨ ¬ (c p' = 60 ∨ c p' = 62 ∨ c p' = 61)))
def spL (c : Nat → Int) (f : Nat) : Prop := ∀ (deep p : Nat) (s : cS) (D0 W acc : List Int) (cm : Int → Bool), deep ≤ 4 → low 3 W → pst c 3 (deep + 1) deep D0 W cm p acc s → okC c s p (prs c f 4 deep p acc) (fun p' r s' => pst c 3 (deep + 1) deep D0 W cm p' r s' ∧ ¬ (c p' = 42 ∨ c p' = 47))
def spM (c : Nat → Int) (f : Nat) : Prop := ∀ (deep p : Nat) (s : cS) (D0 W acc : List Int) (cm : Int → Bool), deep ≤ 4 → low 2 W → pst c 2 (deep + 1) deep D0 W cm p acc s → ¬ (c p = 42 ∨ c p = 47) → okC c s p (prs c f 5 deep p acc) (fun p' r s' => pst c 2 (deep + 1) deep D0 W cm p' r s' ∧ ¬ (c p' = 42 ∨ c p' = 47) ∧ ¬ (c p' = 43 ∨ c p' = 45))
/-- a joined part -/
theorem pst_j {k j deep : Int} {D0 W r1 r2 : List Int} {cm cm2 : Int → Bool} {p : Nat} {x : Int} {s s1 : cS} (e1 : s1.1 = D0 ++ r1) (e2 : s1.2.1 = x :: W) (hx : ¬ x = 40 ∧ k ≤ xp_str x) (hcm : ∀ i, i < j → cm2 i = cm i) {k2 : Int} (hk : k ≤ k2) (h : pst c k2 j deep s1.1 s1.2.1 cm2 p r2 s) : pst c k j deep D0 W cm p (r1 ++ r2 ++ [-x]) s := by
  obtain ⟨⟨dd, pend, a1, a2, a3, a4⟩, b1, b2, b3, b4⟩ := h
  refine ⟨⟨r1 ++ dd, pend ++ [x], ?_, ?_, ?_, fun y hy => ?_⟩, b1, b2, fun i hi => by rw [b3 i hi, hcm i hi], b4⟩
  · rw [a1, e1, List.append_assoc]
  · rw [a2, e2, List.append_assoc]; rfl
  · rw [List.map_append, ← a3, List.append_assoc, List.append_assoc, List.append_assoc]; rfl
  · rcases List.mem_append.mp hy with z | z
    · exact ⟨(a4 y z).1, by have := (a4 y z).2; omega⟩
    · rw [List.mem_singleton.mp z]; exact hx
theorem C_L (hc : ∀ p, c p < 256) {f : Nat} (hT : spT c f) (hL : spL c f) : spL c (f + 1) := by
  intro deep p s D0 W acc cm hd hW h
  unfold prs
  by_cases z : c p = 42 ∨ c p = 47
  · rw [if_pos z]
    have s3 : xp_str (c p) = 3 := str_3.mpr z
    obtain ⟨s1, q1, q2, q3, q4, q5, q6, q7, q8⟩ := op_st h (by omega) (by omega) (hc p) (by rw [s3]; exact hW) (fun w => by omega)
    have t := hT deep (p + 1) s1 q2 q3 hd
    have b3 := h.2.2.2.1
    have st := prc_1 q1
    cases e : prs c f 0 deep (p + 1) [] with
    | none => trivial
    | some v =>
      rw [e] at t
      cases v with
      | inl q =>
        refine okC_b (Nat.le_succ p) st ?_
        exact t
      | inr v =>
        obtain ⟨p1, r1⟩ := v
        obtain ⟨t1, s2, t2, t3, t4⟩ := t
        refine okC_b (Nat.le_succ p) st (okC_b t1 t2 ?_)
        refine hL deep p1 s2 D0 W _ cm hd hW (pst_j q4 q5 ⟨by omega, by omega⟩ (fun i hi => ?_) (by omega) t4)
        by_cases y : i = (deep : Int)
        · rw [y, q7 (by omega)]; exact b3 _ (by omega)
        · rw [q6 i y]; exact b3 i hi
  · rw [if_neg z]
    exact ⟨Nat.le_refl _, s, by rw [Nat.sub_self]; rfl, h, z⟩
theorem C_M (hc : ∀ p, c p < 256) {f : Nat} (hP : spP c f) (hM : spM c f) : spM c (f + 1) := by
  intro deep p s D0 W acc cm hd hW h n3
  unfold prs
  by_cases z : c p = 43 ∨ c p = 45
  · rw [if_pos z]
    have s2' : xp_str (c p) = 2 := str_2.mpr z
    obtain ⟨s1, q1, q2, q3, q4, q5, q6, q7, q8⟩ := op_st h (by omega) (by omega) (hc p) (by rw [s2']; exact hW) (fun w => by omega)
    have t := hP deep (p + 1) s1 q2 q3 hd (by rw [q5]; exact Or.inr ⟨_, _, rfl, Or.inr (by omega)⟩)
    have b3 := h.2.2.2.1
    have st := prc_1 q1
    cases e : prs c f 1 deep (p + 1) [] with
    | none => trivial
    | some v =>
      rw [e] at t
      cases v with
      | inl q => exact okC_b (Nat.le_succ p) st t
      | inr v =>
        obtain ⟨p1, r1⟩ := v
        obtain ⟨t1, s2, t2, t3, t4, t5⟩ := t
        refine okC_b (Nat.le_succ p) st (okC_b t1 t2 ?_)
        refine hM deep p1 s2 D0 W _ cm hd hW (pst_j q4 q5 ⟨by omega, by omega⟩ (fun i hi => ?_) (by omega) t4) t5
        by_cases y : i = (deep : Int)
        · rw [y, q7 (by omega)]; exact b3 _ (by omega)
        · rw [q6 i y]; exact b3 i hi
  · rw [if_neg z]
    exact ⟨Nat.le_refl _, s, by rw [Nat.sub_self]; rfl, h, n3, z⟩
theorem C_P {f : Nat} (hT : spT c f) (hL : spL c f) : spP c (f + 1) := by
  intro deep p s h1 h2 h3 hW
  have t := hT deep p s h1 h2 h3
  unfold prs
  cases e : prs c f 0 deep p [] with
  | none => trivial
  | some v =>
    rw [e] at t
    cases v with
    | inl q => exact t
    | inr v =>
      obtain ⟨p1, r1⟩ := v
      obtain ⟨t1, s2, t2, t3, t4⟩ := t
      refine okC_b t1 t2 ?_
      have l := hL deep p1 s2 s.1 s.2.1 r1 s.2.2.2.2.2 h3 hW (pst_m t4 (by omega))
      show okC c s2 p1 (prs c f 4 deep p1 r1) _
      unfold okC at l ⊢
      split
      · trivial
      · rename_i q eq; rw [eq] at l; exact l
      · rename_i p' r eq
        rw [eq] at l
        obtain ⟨a, s', b, d1, d2⟩ := l
        exact ⟨a, s', b, by omega, d1, d2⟩
theorem C_S {f : Nat} (hP : spP c f) (hM : spM c f) : spS c (f + 1) := by
  intro deep p s h1 h2 h3 hW
  have t := hP deep p s h1 h2 h3 (by
    rcases hW with z | ⟨x, w, e, y⟩
    · exact Or.inl z
    · exact Or.inr ⟨x, w, e, by omega⟩)
  unfold prs
  cases e : prs c f 1 deep p [] with
  | none => trivial
  | some v =>
    rw [e] at t
    cases v with
    | inl q => exact t
    | inr v =>
      obtain ⟨p1, r1⟩ := v
      obtain ⟨t1, s2, t2, t3, t4, t5⟩ := t
      refine okC_b t1 t2 ?_
      have l := hM deep p1 s2 s.1 s.2.1 r1 s.2.2.2.2.2 h3 hW (pst_m t4 (by omega)) t5
      show okC c s2 p1 (prs c f 5 deep p1 r1) _
      unfold okC at l ⊢
      split
      · trivial
      · rename_i q eq; rw [eq] at l; exact l
      · rename_i p' r eq
        rw [eq] at l
        obtain ⟨a, s', b, d1, d2⟩ := l
        exact ⟨a, s', b, by omega, d1, d2⟩
theorem C_H (hc : ∀ p, c p < 256) {f : Nat} (hS : spS c f) : spH c (f + 1) := by
  intro deep p s h1 h2 h3 hW hm
  have lw : ∀ k, 1 ≤ k → low k s.2.1 := fun k hk => by
    rcases hW with z | ⟨x, w, e, y⟩
    · exact Or.inl z
    · exact Or.inr ⟨x, w, e, by omega⟩
  have t := hS deep p s h1 h2 h3 (lw 2 (by omega))
  unfold prs
  cases e : prs c f 2 deep p [] with
  | none => trivial
  | some v =>
    rw [e] at t
    cases v with
    | inl q => exact t
    | inr v =>
      obtain ⟨p1, r1⟩ := v
      obtain ⟨t1, s2, t2, t3, t4, t5, t6⟩ := t
      refine okC_b t1 t2 ?_
      show okC c s2 p1 (if c p1 = 60 ∨ c p1 = 62 ∨ c p1 = 61 then _ else _) _
      by_cases z : c p1 = 60 ∨ c p1 = 62 ∨ c p1 = 61
      · rw [if_pos z]
        have s1' : xp_str (c p1) = 1 := str_1.mpr (by omega)
        have c2 : s2.2.2.2.2.2 deep = false := by rw [t4.2.2.2.1 deep (by omega), hm]
        obtain ⟨s3, q1, q2, q3, q4, q5, q6, q7, q8⟩ := op_st t4 (by omega) (by omega) (hc p1) (by rw [s1']; exact lw 1 (by omega)) (fun _ => c2)
        have u := hS deep (p1 + 1) s3 q2 q3 h3 (by rw [q5]; exact Or.inr ⟨_, _, rfl, Or.inr (by omega)⟩)
        have st := prc_1 q1
        cases e2 : prs c f 2 deep (p1 + 1) [] with
        | none => trivial
        | some v =>
          rw [e2] at u
          cases v with
          | inl q => exact okC_b (Nat.le_succ p1) st u
          | inr v =>
            obtain ⟨p2, r2⟩ := v
            obtain ⟨u1, s4, u2, u3, u4, u5, u6⟩ := u
            refine okC_b (Nat.le_succ p1) st ⟨u1, s4, u2, by omega, ?_, u5, u6, Or.inl ?_⟩
            · obtain ⟨v1, v2, v3, v4, v5⟩ := u4
              refine pst_j q4 q5 ⟨by omega, by omega⟩ (cm2 := s3.2.2.2.2.2) (fun i hi => ?_) (k2 := 2) (by omega) ⟨v1, v2, v3, fun i hi => v4 i (by omega), v5⟩
              rw [q6 i (by omega)]
              exact t4.2.2.2.1 i (by omega)
            · rw [u4.2.2.2.1 deep (by omega), q8 s1']
      · rw [if_neg z]
        obtain ⟨v1, v2, v3, v4, v5⟩ := pst_m (k' := 1) t4 (by omega)
        exact ⟨Nat.le_refl _, s2, by rw [Nat.sub_self]; rfl, t3, ⟨v1, v2, v3, fun i hi => v4 i (by omega), v5⟩, t5, t6, Or.inr z⟩
end RUL
