/-! THE LAW: from its start to its end. -/
section LEN
variable {L : Nat} {xs : Nat → Int32} {d : xh_D} {e : xd_E}
theorem and_63 {x : Int} : 0 ≤ xi_and x 63 ∧ xi_and x 63 < 64 := by
  have h : xi_and x 63 = (((xJ x).toBitVec.toNat &&& 63 : Nat) : Int) := by
    have le : (xJ x).toBitVec.toNat &&& 63 ≤ 63 := Nat.and_le_right
    refine bt_of ?_ (by omega)
    rw [Int32.toBitVec_and, BitVec.toNat_and]
    rfl
  have le : (xJ x).toBitVec.toNat &&& 63 ≤ 63 := Nat.and_le_right
  rw [h]
  omega
abbrev QL : xe_Q := fun v _ _ => v = some (.int 1)
set_option maxRecDepth 100000 in
theorem lw_loop (hL : L ≤ 2560) : ∀ (r n : Nat) (b : Int) (d : xh_D) (e : xd_E) (kc ks : Nat), L ≤ n + 5 * r → n ≤ 2565 → (0 ≤ b ∧ b ≤ 720 * (512 - (r : Int))) → r ≤ 512 → r ≤ kc → 6 * r ≤ ks → Inv iR b d e → sS xs d → zB 200 xm_law QL L kc ks 13 [.ref 0, .ref 1, .ref 146, .ref 177, .int (xJ (n : Int)), .double 0, .double 0] [] d e := by
  have out : ∀ (n : Nat) (d : xh_D) (e : xd_E) (kc ks : Nat), zB 200 xm_law QL L kc ks 1051 [.ref 0, .ref 1, .ref 146, .ref 177, .int (xJ (n : Int)), .double 0, .double 0] [] d e := fun n d e kc ks => zb_push rfl (xe_Ev_step ⟨_, rfl, _, rfl, Or.inr rfl, rfl⟩)
  intro r
  induction r with
  | zero =>
    intro n b d e kc ks h1 h2 _ _ _ _ hI hS
    refine zb_iload (x := (n : Int)) rfl rfl (zb_aload (x := 0) rfl rfl (zb_alen rfl (zb_push rfl (zb_isub rfl (zb_icmp_gt (j := 1051) rfl rfl (by omega) (by omega) (fun _ => out n d e kc ks) (fun z => by omega))))))
  | succ r ih =>
    intro n b d e kc ks h1 h2 h3 h4 h5 h6 hI hS
    refine zb_iload (x := (n : Int)) rfl rfl (zb_aload (x := 0) rfl rfl (zb_alen rfl (zb_push rfl (zb_isub rfl (zb_icmp_gt (j := 1051) rfl rfl (by omega) (by omega) (fun _ => out n d e kc ks) (fun z => ?_))))))
    have hn : n + 5 ≤ L ∧ L ≤ 2560 := by omega
    have nx : ∀ kc' ks', r ≤ kc' → 6 * r ≤ ks' → nxt L xs QL b kc' ks' n := fun kc' ks' g1 g2 d2 e2 dl2 hle hI2 hS2 => by
      refine zb_forget hle (zb_iinc (x := (n : Int)) rfl rfl rfl rfl (zb_goto (j := 13) rfl rfl ?_))
      have := ih (n + 5) (b + 720) d2 e2 kc' ks' (by omega) (by omega) (by omega) (by omega) g1 g2 hI2 hS2
      rw [show ((n + 5 : Nat) : Int) = (n : Int) + 5 by omega] at this
      exact this
    have n1 := nx kc ks (by omega) (by omega)
    have n2 := nx (kc - 1) (ks - 6) (by omega) (by omega)
    have hk : 1 ≤ kc ∧ 6 ≤ ks := by omega
    have hb : b < 1000000 := by omega
    refine zb_aload (x := 0) rfl rfl (zb_iload (x := (n : Int)) rfl rfl (zb_iald0 rfl hS (by omega) (zb_push rfl (zb_iand rfl (zb_table rfl and_63 (fun _ => n1 d e _ (by simp [xe_le]) (Inv_mono (by omega) hI) hS) (fun k ek hk55 => ?_))))))
    have : k = 0 ∨ k = 1 ∨ k = 2 ∨ k = 3 ∨ k = 4 ∨ k = 5 ∨ k = 6 ∨ k = 7 ∨ k = 8 ∨ k = 9 ∨ k = 10 ∨ k = 11 ∨ k = 12 ∨ k = 13 ∨ k = 14 ∨ k = 15 ∨ k = 16 ∨ k = 17 ∨ k = 18 ∨ k = 19 ∨ k = 20 ∨ k = 21 ∨ k = 22 ∨ k = 23 ∨ k = 24 ∨ k = 25 ∨ k = 26 ∨ k = 27 ∨ k = 28 ∨ k = 29 ∨ k = 30 ∨ k = 31 ∨ k = 32 ∨ k = 33 ∨ k = 34 ∨ k = 35 ∨ k = 36 ∨ k = 37 ∨ k = 38 ∨ k = 39 ∨ k = 40 ∨ k = 41 ∨ k = 42 ∨ k = 43 ∨ k = 44 ∨ k = 45 ∨ k = 46 ∨ k = 47 ∨ k = 48 ∨ k = 49 ∨ k = 50 ∨ k = 51 ∨ k = 52 ∨ k = 53 ∨ k = 54 ∨ k = 55 := by omega
    clear ek hk55
    rcases this with rfl | rfl | rfl | rfl | rfl | rfl | rfl | rfl | rfl | rfl | rfl | rfl | rfl | rfl | rfl | rfl | rfl | rfl | rfl | rfl | rfl | rfl | rfl | rfl | rfl | rfl | rfl | rfl | rfl | rfl | rfl | rfl | rfl | rfl | rfl | rfl | rfl | rfl | rfl | rfl | rfl | rfl | rfl | rfl | rfl | rfl | rfl | rfl | rfl | rfl | rfl | rfl | rfl | rfl | rfl | rfl
    · exact ⟨25, rfl, cs_0 hn hb hI hS n1⟩
    · exact ⟨42, rfl, cs_1 hn hb hI hS n1⟩
    · exact ⟨59, rfl, cs_2 hn hb hI hS n1⟩
    · exact ⟨66, rfl, cs_3 hn hb hI hS n1⟩
    · exact ⟨83, rfl, cs_4 hn hb hI hS n1⟩
    · exact ⟨100, rfl, cs_5 hn hb hI hS n1⟩
    · exact ⟨107, rfl, cs_6 hn hb hk hI hS n2⟩
    · exact ⟨152, rfl, cs_7 hn hb hI hS n1⟩
    · exact ⟨179, rfl, cs_8 hn hb hI hS n1⟩
    · exact ⟨206, rfl, cs_9 hn hb hI hS n1⟩
    · exact ⟨243, rfl, cs_10 hn hb hI hS n1⟩
    · exact ⟨290, rfl, cs_11 hn hb hk hI hS n2⟩
    · exact ⟨335, rfl, cs_12 hn hb hI hS n1⟩
    · exact ⟨352, rfl, cs_13 hn hb hI hS n1⟩
    · exact ⟨369, rfl, cs_14 hn hb hI hS n1⟩
    · exact ⟨376, rfl, cs_15 hn hb hI hS n1⟩
    · exact ⟨383, rfl, cs_16 hn hb hI hS n1⟩
    · exact ⟨400, rfl, cs_17 hn hb hI hS n1⟩
    · exact ⟨407, rfl, cs_18 hn hb hI hS n1⟩
    · exact ⟨414, rfl, cs_19 hn hb hI hS n1⟩
    · exact ⟨441, rfl, cs_20 hn hb hI hS n1⟩
    · exact ⟨458, rfl, cs_21 hn hb hI hS n1⟩
    · exact ⟨475, rfl, cs_22 hn hb hI hS n1⟩
    · exact ⟨502, rfl, cs_23 hn hb hI hS n1⟩
    · exact ⟨529, rfl, cs_24 hn hb hI hS n1⟩
    · exact ⟨536, rfl, cs_25 hn hb hI hS n1⟩
    · exact ⟨553, rfl, cs_26 hn hb hI hS n1⟩
    · exact ⟨560, rfl, cs_27 hn hb hI hS n1⟩
    · exact ⟨567, rfl, cs_28 hn hb hI hS n1⟩
    · exact ⟨574, rfl, cs_29 hn hb hI hS n1⟩
    · exact ⟨581, rfl, cs_30 hn hb hI hS n1⟩
    · exact ⟨598, rfl, cs_31 hn hb hI hS n1⟩
    · exact ⟨605, rfl, cs_32 hn hb hk hI hS n2⟩
    · exact ⟨650, rfl, cs_33 hn hb hI hS n1⟩
    · exact ⟨687, rfl, cs_34 hn hb hI hS n1⟩
    · exact ⟨724, rfl, cs_35 hn hb hI hS n1⟩
    · exact ⟨731, rfl, cs_36 hn hb hI hS n1⟩
    · exact ⟨738, rfl, cs_37 hn hb hI hS n1⟩
    · exact ⟨745, rfl, cs_38 hn hb hI hS n1⟩
    · exact ⟨752, rfl, cs_39 hn hb hI hS n1⟩
    · exact ⟨769, rfl, cs_40 hn hb hI hS n1⟩
    · exact ⟨796, rfl, cs_41 hn hb hI hS n1⟩
    · exact ⟨803, rfl, cs_42 hn hb hI hS n1⟩
    · exact ⟨810, rfl, cs_43 hn hb hI hS n1⟩
    · exact ⟨817, rfl, cs_44 hn hb hI hS n1⟩
    · exact ⟨824, rfl, cs_45 hn hb hI hS n1⟩
    · exact ⟨851, rfl, cs_46 hn hb hI hS n1⟩
    · exact ⟨858, rfl, cs_47 hn hb hI hS n1⟩
    · exact ⟨875, rfl, cs_48 hn hb hI hS n1⟩
    · exact ⟨882, rfl, cs_49 hn hb hI hS n1⟩
    · exact ⟨909, rfl, cs_50 hn hb hI hS n1⟩
    · exact ⟨946, rfl, cs_51 hn hb hI hS n1⟩
    · exact ⟨963, rfl, cs_52 hn hb hI hS n1⟩
    · exact ⟨980, rfl, cs_53 hn hb hI hS n1⟩
    · exact ⟨997, rfl, cs_54 hn hb hI hS n1⟩
    · exact ⟨1014, rfl, cs_55 hn hb hk hI hS n2⟩
/-- all cells when the making is done -/
def d0I (xs : Nat → Int32) : xh_D := fun p i => (x0 xs p i.toNat).toInt
theorem d0_m : xh_m (d0I xs) = x0 xs := by
  funext p i
  unfold xh_m d0I
  rw [Int.toNat_natCast, xJ_toInt]
theorem d0_z {p : Nat} (h : ¬ p = 0 ∧ ¬ p = 7 ∧ ¬ p = 26 ∧ ¬ p = 111) (i : Int) : d0I xs p i = 0 := by
  unfold d0I
  rw [x0_z h]
  rfl
theorem d0_7 {i : Int} (h : 0 ≤ i ∧ i < 81) : d0I xs 7 i = 1 := by
  unfold d0I
  show ((if i.toNat < 81 then (1 : Int32) else 0)).toInt = 1
  rw [if_pos (by omega)]
  rfl
theorem d0_26 {i : Int} (h : 0 ≤ i ∧ i < 2) : d0I xs 26 i = -1 := by
  unfold d0I
  show ((if i.toNat < 2 then (-1 : Int32) else 0)).toInt = -1
  rw [if_pos (by omega)]
  rfl
theorem d0_111 : d0I xs 111 6 = 0 := rfl
theorem Inv_0 : Inv iR 0 (d0I xs) (fun _ _ => 0) := by
  have z := fun (p : Nat) (h : ¬ p = 0 ∧ ¬ p = 7 ∧ ¬ p = 26 ∧ ¬ p = 111) (i : Int) => d0_z (xs := xs) h i
  have z6 := z 6 (by decide)
  have z2 := z 2 (by decide)
  have z4 := z 4 (by decide)
  have z8 := z 8 (by decide)
  have z146 := z 146 (by decide)
  have z11 := z 11 (by decide)
  have z147 := z 147 (by decide)
  refine ⟨?_, ?_, ?_, fun i a c => ?_, ?_, ?_, fun i a c => ?_, ?_, ?_, ?_, ?_, ?_⟩
  · unfold iP; rw [z6, z146, z146]; decide
  · refine ⟨⟨by rw [z2]; decide, fun i a c => by rw [z2] at c; omega⟩, by rw [z146, z2], fun i a c => by rw [z2] at c; omega⟩
  · refine ⟨by rw [z4]; decide, by rw [z146, z4], fun i a c => by rw [z4] at c; omega⟩
  · rw [z6, d0_7 ⟨a, c⟩, z8]
    exact ⟨by decide, by decide, fun w => by omega, fun _ => rfl, fun w => by omega, fun _ => rfl⟩
  · unfold iS
    rw [z6, z11]
    refine ⟨fun p a c => by omega, fun p k a c => by omega, fun i a c => by rw [z 15 (by decide)]; decide, fun i a c => z 15 (by decide) i, by decide, z147 81, by rw [z147]; decide, fun j p _ _ c => by omega⟩
  · refine ⟨by rw [z 23 (by decide)]; decide, by rw [z 23 (by decide)]; decide, by rw [z146, z 23 (by decide)], fun k a c => by rw [z 23 (by decide)] at c; omega⟩
  · exact Or.inl ⟨z 175 (by decide) i, d0_26 ⟨a, c⟩⟩
  · rw [d0_111, z146]; exact iR_0
  · refine ⟨by rw [z 127 (by decide)]; decide, by rw [z146, z 127 (by decide)], fun i a c => by rw [z 127 (by decide)] at c; omega⟩
  · refine ⟨by rw [z 136 (by decide)]; decide, by rw [z146, z 136 (by decide)], fun i a c => by rw [z 136 (by decide)] at c; omega⟩
  · refine ⟨by rw [z 142 (by decide)]; decide, by rw [z146, z 142 (by decide)], fun i a c => by rw [z 142 (by decide)] at c; omega⟩
  · exact ⟨z 172 (by decide) 0, fun i _ _ => z 156 (by decide) i⟩
/-- from its entry the law comes to an end with 1 -/
theorem lw_all (hL : L ≤ 2560) : xe_Ev xm_T (xe_Call xm_T 200) xm_law QL 0 (xe_entry 7 [.ref 0]) [] 601024 7293034 1 (xe_M0 L xs) := by
  refine lw_make (D := 197) ?_
  rw [← d0_m]
  exact lw_loop hL 512 0 0 (d0I xs) (fun _ _ => 0) 600600 7280000 (by omega) (by omega) (by decide) (by decide) (by decide) (by decide) Inv_0 (fun i => by
    show xJ ((x0 xs 0 (i : Int).toNat).toInt) = xs i
    rw [xJ_toInt, Int.toNat_natCast]
    rfl)
end LEN
