/-! The class: elements of packed vectors; the field. -/
theorem p16 (k : Nat) : (2 : Nat) ^ (4 * k) = 16 ^ k := by rw [Nat.pow_mul]
theorem c_element (M : Mo) {f : Nat → Int} (hf : d16 f) {i : Nat} (hi : i < 12) : PI 120 [(1, hx f 12), (0, (i : Int))] M (f i) := by
  refine Cl.intro (L := [(1, hx f 12), (9, 0), (0, (i : Int))]) (rcv_s ow_120.1) (by unfold entl; rw [mx_120]; rfl) (by rw [mx_120]; exact Nat.le_of_ble_eq_true rfl) rfl ?_
  have hr := hx_12 hf
  have e1 : (44 : Int) - 4 * i = ((4 * (11 - i) : Nat) : Int) := by omega
  have hr2 := hx_rng hf (12 - (11 - i))
  have h16 : (16 : Nat) ^ (12 - (11 - i)) ≤ 16 ^ 12 := Nat.pow_le_pow_right (by decide) (by omega)
  have h12 : (16 : Nat) ^ 12 < 2 ^ 63 := by decide
  obtain ⟨z, hz⟩ : ∃ z : Nat, hx f (12 - (11 - i)) = z := ⟨(hx f (12 - (11 - i))).toNat, by omega⟩
  have hfi : hx f (12 - (11 - i)) = 16 * hx f i + f i := by rw [show 12 - (11 - i) = i + 1 by omega]; rfl
  have h1 := hf i
  refine r_lload_n d_120_0 rfl ?_
  refine r_bipush d_120_1 rfl ?_
  refine r_iconst d_120_3 rfl ?_
  refine r_iload_n d_120_4 rfl ?_
  refine r_imul d_120_5 (by omega) ?_
  refine r_isub d_120_6 (by omega) ?_
  rw [e1]
  refine r_lushr d_120_7 (hx_shr hf (k := 11 - i) (by omega)) ?_
  refine r_l2iw d_120_8 ?_
  rw [hz]
  refine r_bipush d_120_9 rfl ?_
  refine r_iand d_120_11 (l2i15 (by omega)) ?_
  refine r_iret d_120_12 rt_120 ?_
  refine ⟨?_, rfl⟩
  congr 2
  omega
theorem c_unit (M : Mo) {i : Nat} (hi : i < 12) : PL 121 [(0, (i : Int))] M (16 ^ (11 - i)) := by
  refine Cl.intro (L := [(0, (i : Int))]) (rcv_s ow_121.1) (by unfold entl; rw [mx_121]; rfl) (by rw [mx_121]; exact Nat.le_of_ble_eq_true rfl) rfl ?_
  have e1 : (44 : Int) - 4 * i = ((4 * (11 - i) : Nat) : Int) := by omega
  have h16 : (16 : Nat) ^ (11 - i) ≤ 16 ^ 11 := Nat.pow_le_pow_right (by decide) (by omega)
  have h12 : (16 : Nat) ^ 11 < 2 ^ 63 := by decide
  have hs := lshl_ok (n := 1) (k := 4 * (11 - i)) (by omega) (by rw [p16]; omega)
  rw [p16, Nat.one_mul, Int.natCast_pow] at hs
  refine r_lconst d_121_0 rfl ?_
  refine r_bipush d_121_1 rfl ?_
  refine r_iconst d_121_3 rfl ?_
  refine r_iload_n d_121_4 rfl ?_
  refine r_imul d_121_5 (by omega) ?_
  refine r_isub d_121_6 (by omega) ?_
  rw [e1]
  refine r_lshl d_121_7 hs ?_
  refine r_lret d_121_8 rt_121 ?_
  exact ⟨rfl, rfl⟩
theorem hx_z6 {f : Nat → Int} (hf : d16 f) : hx f 6 = 0 ↔ ∀ i, i < 6 → f i = 0 := by
  constructor
  · intro h i hi
    have hz : d16 (fun _ => 0) := fun i => ⟨Int.le_refl _, show (0 : Int) < 16 by decide⟩
    exact hx_inj hf hz (n := 6) (by rw [hx_zero]; exact h) i hi
  · intro h
    rw [hx_congr (g := fun _ => 0) h, hx_zero]
theorem c_isZero (M : Mo) {f : Nat → Int} (hf : d16 f) : PI 122 [(1, hx f 12)] M (ifp (∀ i, i < 6 → f i = 0) 1 0) := by
  refine Cl.intro (L := [(1, hx f 12), (9, 0)]) (rcv_s ow_122.1) (by unfold entl; rw [mx_122]; rfl) (by rw [mx_122]; exact Nat.le_of_ble_eq_true rfl) rfl ?_
  have hs := hx_shr hf (k := 6) (by omega)
  refine r_lload_n d_122_0 rfl ?_
  refine r_bipush d_122_1 rfl ?_
  refine r_lushr d_122_3 hs ?_
  refine r_lconst d_122_4 rfl ?_
  refine r_lcmp d_122_5 ?_
  have h6 := hx_z6 hf
  by_cases h : ∀ i, i < 6 → f i = 0
  · rw [show 12 - 6 = 6 from rfl, h6.mpr h]
    refine r_if_ne (t := 13) d_122_6 rfl (fun hz => absurd hz (by decide)) (fun _ => ?_)
    refine r_iconst d_122_9 rfl ?_
    refine r_goto (t := 14) d_122_10 rfl ?_
    refine r_zret d_122_14 rt_122 (by omega) ?_
    exact ⟨by rw [ifp_t h], rfl⟩
  · have hne : ¬ hx f (12 - 6) = 0 := fun q => h (h6.mp q)
    refine r_if_ne (t := 13) d_122_6 rfl (fun _ => ?_) (fun hz => absurd (by split <;> (try split) <;> omega) hz)
    refine r_iconst d_122_13 rfl ?_
    refine r_zret d_122_14 rt_122 (by omega) ?_
    exact ⟨by rw [ifp_f h], rfl⟩
theorem c_firstPlace (M : Mo) {f : Nat → Int} (hf : d16 f) {i : Nat} (h1 : i ≤ 12) (h2 : ∀ j, j < i → f j = 0) (h3 : i < 12 → f i ≠ 0) : PI 123 [(1, hx f 12)] M (i : Int) := by
  refine Cl.intro (L := [(1, hx f 12), (9, 0), (9, 0)]) (rcv_s ow_123.1) (by unfold entl; rw [mx_123]; rfl) (by rw [mx_123]; exact Nat.le_of_ble_eq_true rfl) rfl ?_
  refine r_iconst d_123_0 rfl ?_
  refine r_istore_n d_123_1 rfl (stl_3_2 rfl rfl) ?_
  refine dn_ind (R := fun k => Rn 123 2 [(1, hx f 12), (9, 0), (0, k)] [] M _) (lo := 0) (n := (i : Int)) ?_ ?_ 0 (by omega) (by omega)
  · by_cases h12 : i = 12
    · refine r_iload_n d_123_2 rfl ?_
      refine r_bipush d_123_3 rfl ?_
      refine r_icmp_ge (t := 22) d_123_5 rfl (fun _ => ?_) (fun hz => absurd (by omega) hz)
      refine r_iload_n d_123_22 rfl ?_
      refine r_iret d_123_23 rt_123 ?_
      exact ⟨rfl, rfl⟩
    · have h4 := h3 (by omega)
      refine r_iload_n d_123_2 rfl ?_
      refine r_bipush d_123_3 rfl ?_
      refine r_icmp_ge (t := 22) d_123_5 rfl (fun hz => absurd hz (by omega)) (fun _ => ?_)
      refine r_lload_n d_123_8 rfl ?_
      refine r_iload_n d_123_9 rfl ?_
      refine r_callsp d_123_10 q_123_258 rfl rfl (c_element M hf (by omega)) ?_
      refine r_if_ne (t := 22) d_123_13 rfl (fun _ => ?_) (fun hz => absurd h4 hz)
      refine r_iload_n d_123_22 rfl ?_
      refine r_iret d_123_23 rt_123 ?_
      exact ⟨rfl, rfl⟩
  · intro k k1 k2 ih
    obtain ⟨kn, rfl⟩ : ∃ kn : Nat, k = kn := ⟨k.toNat, by omega⟩
    have h4 := h2 kn (by omega)
    refine r_iload_n d_123_2 rfl ?_
    refine r_bipush d_123_3 rfl ?_
    refine r_icmp_ge (t := 22) d_123_5 rfl (fun hz => absurd hz (by omega)) (fun _ => ?_)
    refine r_lload_n d_123_8 rfl ?_
    refine r_iload_n d_123_9 rfl ?_
    refine r_callsp d_123_10 q_123_258 rfl rfl (c_element M hf (by omega)) ?_
    rw [h4]
    refine r_if_ne (t := 22) d_123_13 rfl (fun hz => absurd hz (by decide)) (fun _ => ?_)
    refine r_iinc d_123_16 rfl (by omega) (stl_3_2 rfl rfl) ?_
    refine r_goto (t := 2) d_123_19 rfl ?_
    exact ih
theorem j_compare (M : Mo) (x y : Int) : PI 215 [(0, x), (0, y)] M (if x < y then -1 else if x = y then 0 else 1) := by
  refine Cl.intro (L := [(0, x), (0, y)]) (rcv_s ow_215.1) (by unfold entl; rw [mx_215]; rfl) (by rw [mx_215]; exact Nat.le_of_ble_eq_true rfl) rfl ?_
  refine r_iload_n d_215_0 rfl ?_
  refine r_iload_n d_215_1 rfl ?_
  refine r_icmp_ge (t := 9) d_215_2 rfl (fun h => ?_) (fun h => ?_)
  · refine r_iload_n d_215_9 rfl ?_
    refine r_iload_n d_215_10 rfl ?_
    refine r_icmp_ne (t := 18) d_215_11 rfl (fun h2 => ?_) (fun h2 => ?_)
    · refine r_iconst d_215_18 rfl ?_
      refine r_iret d_215_19 rt_215 ?_
      exact ⟨by rw [if_neg (by omega), if_neg h2], rfl⟩
    · refine r_iconst d_215_14 rfl ?_
      refine r_goto (t := 19) d_215_15 rfl ?_
      refine r_iret d_215_19 rt_215 ?_
      exact ⟨by rw [if_neg (by omega), if_pos (by omega)], rfl⟩
  · refine r_iconst d_215_5 rfl ?_
    refine r_goto (t := 19) d_215_6 rfl ?_
    refine r_iret d_215_19 rt_215 ?_
    exact ⟨by rw [if_pos (by omega)], rfl⟩
theorem j_lcompare (M : Mo) (x y : Int) : PI 217 [(1, x), (1, y)] M (if x < y then -1 else if x = y then 0 else 1) := by
  refine Cl.intro (L := [(1, x), (9, 0), (1, y), (9, 0)]) (rcv_s ow_217.1) (by unfold entl; rw [mx_217]; rfl) (by rw [mx_217]; exact Nat.le_of_ble_eq_true rfl) rfl ?_
  refine r_lload_n d_217_0 rfl ?_
  refine r_lload_n d_217_1 rfl ?_
  refine r_lcmp d_217_2 ?_
  rcases Int.lt_trichotomy x y with h | h | h
  · rw [if_neg (by omega), if_neg (by omega)]
    refine r_if_ge (t := 10) d_217_3 rfl (fun hz => absurd hz (by decide)) (fun _ => ?_)
    refine r_iconst d_217_6 rfl ?_
    refine r_goto (t := 21) d_217_7 rfl ?_
    refine r_iret d_217_21 rt_217 ?_
    exact ⟨by rw [if_pos h], rfl⟩
  · rw [if_neg (by omega), if_pos h]
    refine r_if_ge (t := 10) d_217_3 rfl (fun _ => ?_) (fun hz => absurd (by decide) hz)
    refine r_lload_n d_217_10 rfl ?_
    refine r_lload_n d_217_11 rfl ?_
    refine r_lcmp d_217_12 ?_
    rw [if_neg (by omega), if_pos h]
    refine r_if_ne (t := 20) d_217_13 rfl (fun hz => absurd hz (by decide)) (fun _ => ?_)
    refine r_iconst d_217_16 rfl ?_
    refine r_goto (t := 21) d_217_17 rfl ?_
    refine r_iret d_217_21 rt_217 ?_
    exact ⟨by rw [if_neg (by omega), if_pos h], rfl⟩
  · rw [if_pos (by omega)]
    refine r_if_ge (t := 10) d_217_3 rfl (fun _ => ?_) (fun hz => absurd (by decide) hz)
    refine r_lload_n d_217_10 rfl ?_
    refine r_lload_n d_217_11 rfl ?_
    refine r_lcmp d_217_12 ?_
    rw [if_pos (by omega)]
    refine r_if_ne (t := 20) d_217_13 rfl (fun _ => ?_) (fun hz => absurd (by decide) hz)
    refine r_iconst d_217_20 rfl ?_
    refine r_iret d_217_21 rt_217 ?_
    exact ⟨by rw [if_neg (by omega), if_neg (by omega)], rfl⟩
theorem j_max (M : Mo) (x y : Int) : PI 219 [(0, x), (0, y)] M (if x < y then y else x) := by
  refine Cl.intro (L := [(0, x), (0, y)]) (rcv_s ow_219.1) (by unfold entl; rw [mx_219]; rfl) (by rw [mx_219]; exact Nat.le_of_ble_eq_true rfl) rfl ?_
  refine r_iload_n d_219_0 rfl ?_
  refine r_iload_n d_219_1 rfl ?_
  refine r_icmp_lt (t := 9) d_219_2 rfl (fun h => ?_) (fun h => ?_)
  · refine r_iload_n d_219_9 rfl ?_
    refine r_iret d_219_10 rt_219 ?_
    exact ⟨by rw [if_pos h], rfl⟩
  · refine r_iload_n d_219_5 rfl ?_
    refine r_goto (t := 10) d_219_6 rfl ?_
    refine r_iret d_219_10 rt_219 ?_
    exact ⟨by rw [if_neg h], rfl⟩
theorem j_min (M : Mo) (x y : Int) : PI 220 [(0, x), (0, y)] M (if y < x then y else x) := by
  refine Cl.intro (L := [(0, x), (0, y)]) (rcv_s ow_220.1) (by unfold entl; rw [mx_220]; rfl) (by rw [mx_220]; exact Nat.le_of_ble_eq_true rfl) rfl ?_
  refine r_iload_n d_220_0 rfl ?_
  refine r_iload_n d_220_1 rfl ?_
  refine r_icmp_gt (t := 9) d_220_2 rfl (fun h => ?_) (fun h => ?_)
  · refine r_iload_n d_220_9 rfl ?_
    refine r_iret d_220_10 rt_220 ?_
    exact ⟨by rw [if_pos h], rfl⟩
  · refine r_iload_n d_220_5 rfl ?_
    refine r_goto (t := 10) d_220_6 rfl ?_
    refine r_iret d_220_10 rt_220 ?_
    exact ⟨by rw [if_neg h], rfl⟩
theorem xor_neg {x y : Int} (hx : -2147483648 ≤ x ∧ x < 2147483648) (hy : 0 ≤ y ∧ y < 2147483648) : (Int32.ofInt x ^^^ Int32.ofInt y).toInt < 0 ↔ x < 0 := by
  have h1 : ∀ z : Int32, z.toBitVec.msb = decide (z.toInt < 0) := fun z => BitVec.msb_eq_toInt
  have h2 := h1 (Int32.ofInt x ^^^ Int32.ofInt y)
  rw [Int32.toBitVec_xor, BitVec.msb_xor, h1, h1, i32_of hx, i32_of (by omega)] at h2
  rw [decide_eq_false (show ¬ y < 0 by omega), Bool.xor_false] at h2
  constructor
  · intro h
    rw [decide_eq_true h] at h2
    exact of_decide_eq_true h2
  · intro h
    rw [decide_eq_true h] at h2
    exact of_decide_eq_true h2.symm
theorem j_floorMod (M : Mo) {x y : Int} (hx : -2147483648 ≤ x ∧ x < 2147483648) (hy : y = 2 ∨ y = 3) : PI 218 [(0, x), (0, y)] M (x % y) := by
  refine Cl.intro (L := [(0, x), (0, y), (9, 0)]) (rcv_s ow_218.1) (by unfold entl; rw [mx_218]; rfl) (by rw [mx_218]; exact Nat.le_of_ble_eq_true rfl) rfl ?_
  have hn := xor_neg hx (y := y) (by omega)
  have hm := Int.mul_tdiv_add_tmod x y
  have hlt := Int.tmod_lt_of_pos x (show 0 < y by omega)
  refine r_iload_n d_218_0 rfl ?_
  refine r_iload_n d_218_1 rfl ?_
  refine r_irem d_218_2 (by omega) (by omega) ?_
  refine r_istore_n d_218_3 rfl (stl_3_2 rfl rfl) ?_
  refine r_iload_n d_218_4 rfl ?_
  refine r_iload_n d_218_5 rfl ?_
  refine r_ixor d_218_6 rfl ?_
  refine r_if_ge (t := 18) d_218_7 rfl (fun h => ?_) (fun h => ?_)
  · have h0 : 0 ≤ x := by omega
    refine r_iload_n d_218_18 rfl ?_
    refine r_iret d_218_19 rt_218 ?_
    exact ⟨by rw [Int.tmod_eq_emod_of_nonneg h0], rfl⟩
  · have h0 : x < 0 := by omega
    obtain ⟨u, rfl⟩ : ∃ u, x = -u := ⟨-x, by omega⟩
    rw [Int.neg_tmod, Int.tmod_eq_emod_of_nonneg (by omega)]
    refine r_iload_n d_218_10 rfl ?_
    refine r_if_eq (t := 18) d_218_11 rfl (fun h3 => ?_) (fun h3 => ?_)
    · refine r_iload_n d_218_18 rfl ?_
      refine r_iret d_218_19 rt_218 ?_
      refine ⟨?_, rfl⟩
      congr 2
      rcases hy with rfl | rfl <;> omega
    · refine r_iload_n d_218_14 rfl ?_
      refine r_iload_n d_218_15 rfl ?_
      refine r_iadd d_218_16 (by rcases hy with rfl | rfl <;> omega) ?_
      refine r_iret d_218_17 rt_218 ?_
      refine ⟨?_, rfl⟩
      congr 2
      rcases hy with rfl | rfl <;> omega
theorem c_largest (M : Mo) {p : Int} (hp : M 1 0 = p) : PI 26 [(2, 1)] M (if p = 2 then 6 else 5) := by
  refine Cl.intro (L := [(2, 1)]) (rcv_v ow_26.2.1 sh_1) (by unfold entl; rw [mx_26]; rfl) (by rw [mx_26]; exact Nat.le_of_ble_eq_true rfl) rfl ?_
  refine r_aload_n d_26_0 rfl (by omega) ?_
  refine r_getfv (ki := 0) d_26_1 q_26_9 rfl sh_1 hp ?_
  refine r_iconst d_26_4 rfl ?_
  refine r_icmp_ne (t := 13) d_26_5 rfl (fun h => ?_) (fun h => ?_)
  · refine r_iconst d_26_13 rfl ?_
    refine r_iret d_26_14 rt_26 ?_
    exact ⟨by rw [if_neg h], rfl⟩
  · refine r_bipush d_26_8 rfl ?_
    refine r_goto (t := 14) d_26_10 rfl ?_
    refine r_iret d_26_14 rt_26 ?_
    exact ⟨by rw [if_pos (by omega)], rfl⟩
theorem c_modulo (M : Mo) {p : Int} (hp : M 1 0 = p) (h23 : p23 p) {x : Int} (hx : -2147483648 ≤ x ∧ x < 2147483648) : PI 27 [(2, 1), (0, x)] M (x % p) := by
  refine Cl.intro (L := [(2, 1), (0, x)]) (rcv_v ow_27.2.1 sh_1) (by unfold entl; rw [mx_27]; rfl) (by rw [mx_27]; exact Nat.le_of_ble_eq_true rfl) rfl ?_
  have h23' : p = 2 ∨ p = 3 := h23
  refine r_aload_n d_27_0 rfl (by omega) ?_
  refine r_getfv (ki := 0) d_27_1 q_27_9 rfl sh_1 hp ?_
  refine r_iconst d_27_4 rfl ?_
  refine r_icmp_ne (t := 16) d_27_5 rfl (fun h => ?_) (fun h => ?_)
  · refine r_iload_n d_27_16 rfl ?_
    refine r_iconst d_27_17 rfl ?_
    refine r_callsp d_27_18 q_27_15 rfl rfl (j_floorMod M hx (Or.inr rfl)) ?_
    refine r_iret d_27_21 rt_27 ?_
    exact ⟨by rw [show p = 3 by omega], rfl⟩
  · refine r_iload_n d_27_8 rfl ?_
    refine r_iconst d_27_9 rfl ?_
    refine r_callsp d_27_10 q_27_15 rfl rfl (j_floorMod M hx (Or.inl rfl)) ?_
    refine r_goto (t := 21) d_27_13 rfl ?_
    refine r_iret d_27_21 rt_27 ?_
    exact ⟨by rw [show p = 2 by omega], rfl⟩
theorem c_negative (M : Mo) {p : Int} (hp : M 1 0 = p) (h23 : p23 p) {c : Int} (hc : 0 ≤ c ∧ c < p) : PI 28 [(2, 1), (0, c)] M (if c = 0 then 0 else p - c) := by
  refine Cl.intro (L := [(2, 1), (0, c)]) (rcv_v ow_28.2.1 sh_1) (by unfold entl; rw [mx_28]; rfl) (by rw [mx_28]; exact Nat.le_of_ble_eq_true rfl) rfl ?_
  have hb := h23.b
  refine r_iload_n d_28_0 rfl ?_
  refine r_if_ne (t := 8) d_28_1 rfl (fun h => ?_) (fun h => ?_)
  · refine r_aload_n d_28_8 rfl (by omega) ?_
    refine r_getfv (ki := 0) d_28_9 q_28_9 rfl sh_1 hp ?_
    refine r_iload_n d_28_12 rfl ?_
    refine r_isub d_28_13 (by omega) ?_
    refine r_iret d_28_14 rt_28 ?_
    exact ⟨by rw [if_neg h], rfl⟩
  · refine r_iconst d_28_4 rfl ?_
    refine r_goto (t := 14) d_28_5 rfl ?_
    refine r_iret d_28_14 rt_28 ?_
    exact ⟨by rw [if_pos (by omega)], rfl⟩
theorem c_power (M : Mo) {p : Int} (hp : M 1 0 = p) (h23 : p23 p) (n : Int) (hn : 0 ≤ n ∧ n ≤ 6) : PI 29 [(2, 1), (0, n)] M (p ^ n.toNat) := by
  refine Cl.intro (L := [(2, 1), (0, n), (9, 0), (9, 0)]) (rcv_v ow_29.2.1 sh_1) (by unfold entl; rw [mx_29]; rfl) (by rw [mx_29]; exact Nat.le_of_ble_eq_true rfl) rfl ?_
  refine r_iconst d_29_0 rfl ?_
  refine r_istore_n d_29_1 rfl (stl_4_2 rfl rfl) ?_
  refine r_iconst d_29_2 rfl ?_
  refine r_istore_n d_29_3 rfl (stl_4_3 rfl rfl) ?_
  refine dn_ind (R := fun i => ∀ v, v = p ^ i.toNat → Rn 29 4 [(2, 1), (0, n), (0, v), (0, i)] [] M _) (lo := 0) (n := n) ?_ ?_ 0 (by omega) (by omega) 1 (Int.pow_zero p).symm
  · intro v hv
    refine r_iload_n d_29_4 rfl ?_
    refine r_iload_n d_29_5 rfl ?_
    refine r_icmp_ge (t := 22) d_29_6 rfl (fun _ => ?_) (fun hz => absurd (by omega) hz)
    refine r_iload_n d_29_22 rfl ?_
    refine r_iret d_29_23 rt_29 ?_
    exact ⟨by rw [hv], rfl⟩
  · intro i h1 h2 ih v hv
    have hb := h23.b
    have h3 := pw_6 h23 (n := i.toNat) (by omega)
    have h4 := pw_pos h23 i.toNat
    subst hv
    refine r_iload_n d_29_4 rfl ?_
    refine r_iload_n d_29_5 rfl ?_
    refine r_icmp_ge (t := 22) d_29_6 rfl (fun hz => absurd hz (by omega)) (fun _ => ?_)
    refine r_iload_n d_29_9 rfl ?_
    refine r_aload_n d_29_10 rfl (by omega) ?_
    refine r_getfv (ki := 0) d_29_11 q_29_9 rfl sh_1 hp ?_
    refine r_imul d_29_14 (mr (a := 729) (b := 3) (by omega) (by omega) (by decide)) ?_
    refine r_istore_n d_29_15 rfl (stl_4_2 rfl rfl) ?_
    refine r_iinc d_29_16 rfl (by omega) (stl_4_3 rfl rfl) ?_
    refine r_goto (t := 4) d_29_19 rfl ?_
    exact ih _ (by rw [show (i + 1).toNat = i.toNat + 1 by omega, Int.pow_succ])
