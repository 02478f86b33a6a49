/-! BITS: masks of the first ones. -/
theorem bt_bv (a : Nat) : (xJ (a : Int)).toBitVec = BitVec.ofNat 32 a := BitVec.ofInt_natCast 32 a
theorem bt_of {x : Int32} {a : Nat} (h : x.toBitVec.toNat = a) (ha : a < 2147483648) : x.toInt = a := by
  show x.toBitVec.toInt = _
  rw [BitVec.toInt_eq_toNat_of_lt (by omega), h]
theorem bt_and {a b : Nat} (ha : a < 2147483648) (hb : b < 2147483648) : xi_and a b = ((a &&& b : Nat) : Int) := by
  refine bt_of ?_ (Nat.lt_of_le_of_lt Nat.and_le_left ha)
  rw [Int32.toBitVec_and, bt_bv, bt_bv, BitVec.toNat_and, BitVec.toNat_ofNat, BitVec.toNat_ofNat, Nat.mod_eq_of_lt (by omega), Nat.mod_eq_of_lt (by omega)]
theorem bt_or {a b : Nat} (ha : a < 2147483648) (hb : b < 2147483648) : xi_or a b = ((a ||| b : Nat) : Int) := by
  refine bt_of ?_ (Nat.or_lt_two_pow (n := 31) ha hb)
  rw [Int32.toBitVec_or, bt_bv, bt_bv, BitVec.toNat_or, BitVec.toNat_ofNat, BitVec.toNat_ofNat, Nat.mod_eq_of_lt (by omega), Nat.mod_eq_of_lt (by omega)]
theorem bt_xor {a b : Nat} (ha : a < 2147483648) (hb : b < 2147483648) : xi_xor a b = ((a ^^^ b : Nat) : Int) := by
  refine bt_of ?_ (Nat.xor_lt_two_pow (n := 31) ha hb)
  rw [Int32.toBitVec_xor, bt_bv, bt_bv, BitVec.toNat_xor, BitVec.toNat_ofNat, BitVec.toNat_ofNat, Nat.mod_eq_of_lt (by omega), Nat.mod_eq_of_lt (by omega)]
theorem bt_shl {k : Nat} (h : k < 31) : xi_shl 1 k = ((2 ^ k : Nat) : Int) := by
  have key : ∀ k : Nat, k < 31 → xi_shl 1 k = ((2 ^ k : Nat) : Int) := by decide +kernel
  exact key k h
theorem bt_k {k : Nat} (h : k < 32) : ((xJ (k : Int) &&& 31).toBitVec.smod 32).toNat = k := by
  have key : ∀ k : Nat, k < 32 → ((xJ (k : Int) &&& 31).toBitVec.smod 32).toNat = k := by decide +kernel
  exact key k h
theorem bt_shr {a k : Nat} (ha : a < 2147483648) (hk : k < 32) : xi_shr a k = ((a >>> k : Nat) : Int) := by
  refine bt_of ?_ (Nat.lt_of_le_of_lt (by rw [Nat.shiftRight_eq_div_pow]; exact Nat.div_le_self _ _) ha)
  show (BitVec.sshiftRight (xJ (a : Int)).toBitVec ((xJ (k : Int) &&& 31).toBitVec.smod 32).toNat).toNat = _
  rw [bt_k hk, bt_bv, BitVec.toNat_sshiftRight_of_msb_false, BitVec.toNat_ofNat, Nat.mod_eq_of_lt (by omega)]
  rw [BitVec.msb_eq_decide, BitVec.toNat_ofNat, Nat.mod_eq_of_lt (by omega)]
  simp
  omega
/-- those of the first n of whom f holds -/
def bm (f : Nat → Bool) : Nat → Nat
  | 0 => 0
  | k + 1 => bm f k ||| (if f k then 2 ^ k else 0)
theorem bm_lt (f : Nat → Bool) : ∀ k, bm f k < 2 ^ k
  | 0 => by simp [bm]
  | k + 1 => by
    unfold bm
    have h1 := bm_lt f k
    have h2 : 2 ^ k < 2 ^ (k + 1) := Nat.pow_lt_pow_right (by omega) (by omega)
    refine Nat.or_lt_two_pow (by omega) ?_
    split
    · exact h2
    · exact Nat.two_pow_pos _
theorem bm_bit (f : Nat → Bool) (i : Nat) : ∀ k, (bm f k).testBit i = (decide (i < k) && f i)
  | 0 => by simp [bm]
  | k + 1 => by
    unfold bm
    rw [Nat.testBit_or, bm_bit f i k]
    by_cases h : f k = true
    · rw [if_pos h, Nat.testBit_two_pow]
      by_cases hi : k = i
      · subst hi; simp [h]
      · by_cases hk : i < k
        · simp [hk, hi, show i < k + 1 by omega]
        · simp [hk, hi, show ¬ i < k + 1 by omega]
    · rw [if_neg h]
      by_cases hi : k = i
      · subst hi; simp [h]
      · by_cases hk : i < k
        · simp [hk, show i < k + 1 by omega]
        · simp [hk, show ¬ i < k + 1 by omega]
theorem bm_congr {f g : Nat → Bool} {n : Nat} (h : ∀ i, i < n → f i = g i) : bm f n = bm g n := by
  apply Nat.eq_of_testBit_eq
  intro i
  rw [bm_bit, bm_bit]
  by_cases hi : i < n
  · rw [h i hi]
  · simp [hi]
theorem bm_inj {f g : Nat → Bool} {n : Nat} (h : bm f n = bm g n) : ∀ i, i < n → f i = g i := by
  intro i hi
  have := congrArg (fun m => m.testBit i) h
  simp only [bm_bit, hi, decide_true, Bool.true_and] at this
  exact this
theorem bm_of {m n : Nat} (h : m < 2 ^ n) : bm (fun i => m.testBit i) n = m := by
  apply Nat.eq_of_testBit_eq
  intro i
  rw [bm_bit]
  by_cases hi : i < n
  · simp [hi]
  · simp only [hi, decide_false, Bool.false_and]
    exact (Nat.testBit_lt_two_pow (Nat.lt_of_lt_of_le h (Nat.pow_le_pow_right (by omega) (by omega)))).symm
theorem bm_lt9 (f : Nat → Bool) {n : Nat} (h : n ≤ 12) : bm f n < 4096 := Nat.lt_of_lt_of_le (bm_lt f n) (show 2 ^ n ≤ 2 ^ 12 from Nat.pow_le_pow_right (by omega) h)
theorem bm_step {f : Nat → Bool} {n : Nat} (hn : n ≤ 12) (hf : f n = true) : xi_or (bm f n) (xi_shl 1 n) = ((bm f (n + 1) : Nat) : Int) := by
  have h1 := bm_lt9 f hn
  have h2 : 2 ^ n ≤ 2 ^ 12 := Nat.pow_le_pow_right (by omega) hn
  rw [bt_shl (by omega), bt_or (by omega) (by omega)]
  simp [bm, hf]
theorem bm_skip {f : Nat → Bool} {n : Nat} (hn : n ≤ 12) (hf : f n = false) : xi_or (bm f n) 0 = ((bm f (n + 1) : Nat) : Int) := by
  have h1 := bm_lt9 f hn
  rw [show (0 : Int) = ((0 : Nat) : Int) from rfl, bt_or (by omega) (by omega)]
  simp [bm, hf]
theorem bm_and {f g : Nat → Bool} {n m : Nat} (hn : n ≤ 12) (hm : m ≤ 12) : xi_and (bm f n) (bm g m) = ((bm (fun i => decide (i < m) && (f i && g i)) n : Nat) : Int) := by
  have h1 := bm_lt9 f hn
  have h2 := bm_lt9 g hm
  rw [bt_and (by omega) (by omega)]
  congr 1
  apply Nat.eq_of_testBit_eq
  intro i
  rw [Nat.testBit_and, bm_bit, bm_bit, bm_bit]
  by_cases h3 : i < n <;> by_cases h4 : i < m <;> simp [h3, h4]
theorem bm_and' {f g : Nat → Bool} {n : Nat} (hn : n ≤ 12) : xi_and (bm f n) (bm g n) = ((bm (fun i => f i && g i) n : Nat) : Int) := by
  rw [bm_and hn hn]
  congr 1
  exact bm_congr fun i hi => by simp [hi]
theorem bt_andn {a b : Nat} (ha : a < 2147483648) (hb : b < 2147483648) {c : Nat} (hc : c < 2147483648) (h : ∀ i, c.testBit i = (a.testBit i && !b.testBit i)) : xi_and a (xi_xor b (-1)) = (c : Int) := by
  refine bt_of ?_ hc
  rw [Int32.toBitVec_and, show xJ (xi_xor b (-1)) = xJ b ^^^ xJ (-1) from xJ_toInt _, Int32.toBitVec_xor, bt_bv, bt_bv]
  apply Nat.eq_of_testBit_eq
  intro i
  rw [BitVec.testBit_toNat, BitVec.getLsbD_and, BitVec.getLsbD_xor, show (xJ (-1)).toBitVec = BitVec.allOnes 32 from rfl, BitVec.getLsbD_allOnes, BitVec.getLsbD_ofNat, BitVec.getLsbD_ofNat, h]
  by_cases hi : i < 32
  · simp [hi]
  · simp only [hi, decide_false, Bool.false_and]
    rw [Nat.testBit_lt_two_pow (Nat.lt_of_lt_of_le ha (show 2 ^ 31 ≤ 2 ^ i from Nat.pow_le_pow_right (by omega) (by omega)))]
    rfl
theorem bm_andn {f g : Nat → Bool} {n m : Nat} (hn : n ≤ 12) (hm : m ≤ 12) : xi_and (bm f n) (xi_xor (bm g m) (-1)) = ((bm (fun i => f i && !(decide (i < m) && g i)) n : Nat) : Int) := by
  have h1 := bm_lt9 f hn
  have h2 := bm_lt9 g hm
  have h3 := bm_lt9 (fun i => f i && !(decide (i < m) && g i)) hn
  refine bt_andn (by omega) (by omega) (by omega) ?_
  intro i
  rw [bm_bit, bm_bit, bm_bit]
  by_cases h3 : i < n <;> by_cases h4 : i < m <;> simp [h3, h4]
theorem bm_andn' {f g : Nat → Bool} {n : Nat} (hn : n ≤ 12) : xi_and (bm f n) (xi_xor (bm g n) (-1)) = ((bm (fun i => f i && !g i) n : Nat) : Int) := by
  rw [bm_andn hn hn]
  congr 1
  exact bm_congr fun i hi => by simp [hi]
theorem bm_test {f : Nat → Bool} {n p : Nat} (hn : n ≤ 12) (hp : p < n) : xi_and (xi_shr (bm f n) p) 1 = if f p then 1 else 0 := by
  have h1 := bm_lt9 f hn
  rw [bt_shr (by omega) (by omega), show (1 : Int) = ((1 : Nat) : Int) from rfl, bt_and (Nat.lt_of_le_of_lt (by rw [Nat.shiftRight_eq_div_pow]; exact Nat.div_le_self _ _) (show bm f n < 2147483648 by omega)) (by omega), Nat.and_one_is_mod, Nat.shiftRight_eq_div_pow, ← Nat.toNat_testBit, bm_bit]
  cases f p <;> simp [hp]
theorem bt_test {m p : Nat} (hm : m < 2147483648) (hp : p < 32) : xi_and (xi_shr m p) 1 = if m.testBit p then 1 else 0 := by
  rw [bt_shr hm hp, show (1 : Int) = ((1 : Nat) : Int) from rfl, bt_and (Nat.lt_of_le_of_lt (by rw [Nat.shiftRight_eq_div_pow]; exact Nat.div_le_self _ _) hm) (by omega), Nat.and_one_is_mod, Nat.shiftRight_eq_div_pow, ← Nat.toNat_testBit]
  cases m.testBit p <;> rfl
/-- how many of the first n -/
def cn (f : Nat → Bool) : Nat → Nat
  | 0 => 0
  | k + 1 => cn f k + (if f k then 1 else 0)
theorem cn_le (f : Nat → Bool) : ∀ k, cn f k ≤ k
  | 0 => Nat.le_refl _
  | k + 1 => by have := cn_le f k; unfold cn; split <;> omega
theorem cn_congr {f g : Nat → Bool} : ∀ {n : Nat}, (∀ i, i < n → f i = g i) → cn f n = cn g n
  | 0, _ => rfl
  | n + 1, h => by
    unfold cn
    rw [cn_congr (fun i hi => h i (by omega)), h n (by omega)]
theorem cn_ext {f g : Nat → Bool} {n : Nat} : ∀ {m : Nat}, n ≤ m → (∀ i, i < n → f i = g i) → (∀ i, n ≤ i → i < m → g i = false) → cn g m = cn f n
  | 0, hnm, h1, _ => by
    have : n = 0 := by omega
    subst this
    rfl
  | m + 1, hnm, h1, h2 => by
    by_cases h : n = m + 1
    · subst h; exact (cn_congr h1).symm
    · unfold cn
      rw [cn_ext (m := m) (by omega) h1 (fun i a b => h2 i a (by omega)), h2 m (by omega) (by omega)]
      cases n <;> simp [cn]
theorem xp_bc_nat {m : Nat} (h : m < 4096) : xp_bc m = ((cn (fun i => m.testBit i) 12 : Nat) : Int) := by
  have key : ∀ a : Nat, a < 64 → ∀ b : Nat, b < 64 → xp_bc ((64 * a + b : Nat) : Int) = ((cn (fun i => (64 * a + b).testBit i) 12 : Nat) : Int) := by decide +kernel
  have := key (m / 64) (by omega) (m % 64) (by omega)
  rw [show 64 * (m / 64) + m % 64 = m by omega] at this
  exact this
theorem xp_bc_bm {f : Nat → Bool} {n : Nat} (hn : n ≤ 12) : xp_bc (bm f n) = ((cn f n : Nat) : Int) := by
  rw [xp_bc_nat (bm_lt9 f hn)]
  congr 1
  refine cn_ext hn (fun i hi => ?_) (fun i hi _ => ?_)
  · rw [bm_bit]; simp [hi]
  · rw [bm_bit]; simp [show ¬ i < n by omega]
theorem bm_all {n : Nat} (hn : n ≤ 12) : xi_shl 1 n - 1 = ((bm (fun _ => true) n : Nat) : Int) := by
  have h1 : 2 ^ n - 1 = bm (fun _ => true) n := by
    apply Nat.eq_of_testBit_eq
    intro i
    rw [bm_bit, Nat.testBit_two_pow_sub_one]
    simp
  have h2 : 0 < 2 ^ n := Nat.two_pow_pos n
  rw [bt_shl (by omega), ← h1]
  omega
theorem bm_flip {f : Nat → Bool} {n p : Nat} (hn : n ≤ 12) (hp : p < n) : xi_xor (bm f n) (xi_shl 1 p) = ((bm (fun i => if i = p then !f i else f i) n : Nat) : Int) := by
  have h1 := bm_lt9 f hn
  have h2 : 2 ^ p ≤ 2 ^ 12 := Nat.pow_le_pow_right (by omega) (by omega)
  rw [bt_shl (by omega), bt_xor (by omega) (by omega)]
  congr 1
  apply Nat.eq_of_testBit_eq
  intro i
  rw [Nat.testBit_xor, Nat.testBit_two_pow, bm_bit, bm_bit]
  by_cases hi : i = p
  · subst hi; simp [hp]
  · simp [hi, Ne.symm hi]
theorem bm_zero {f : Nat → Bool} {n : Nat} : bm f n = 0 ↔ ∀ i, i < n → f i = false := by
  constructor
  · intro h i hi
    have := bm_bit f i n
    rw [h] at this
    simpa [hi] using this.symm
  · intro h
    rw [bm_congr (g := fun _ => false) h]
    apply Nat.eq_of_testBit_eq
    intro i
    rw [bm_bit]
    simp
theorem bt_or0 {z : Int} (h : 0 ≤ z ∧ z < 2147483648) : xi_or z 0 = z := by
  obtain ⟨m, rfl⟩ : ∃ m : Nat, z = m := ⟨z.toNat, by omega⟩
  rw [show (0 : Int) = ((0 : Nat) : Int) from rfl, bt_or (by omega) (by omega), Nat.or_zero]
