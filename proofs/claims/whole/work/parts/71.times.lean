/-! The class: products of modules; sequences, comparisons. -/
section
variable {e : Nat}
def mulK (m : Nat) (A B : Nat → Nat → Nat → Kf e) (g i j : Nat) : Kf e := A g (i / m) (j / m) * B g (i % m) (j % m)
/-- a row of a product of which the first q blocks are there -/
def mrw (m : Nat) (A B : Nat → Nat → Nat → Kf e) (g i q : Nat) : Vc e := fun j => if j < m * q then mulK m A B g i j else 0
theorem c_addsBlock (he : e ≤ 1) {M : Mo} (hp : M 1 0 = pI e) {a b : Int} (ha : shp S0 a = (0, 3)) (hb : shp S0 b = (0, 3)) (hab : a ≠ b) {n m : Nat} {A B : Nat → Nat → Nat → Kf e} (hB : AA e M b m B) (hnm : n * m ≤ 6) {g i q : Nat} (hg : g < 2) (hi : i < n) (hq : q < n) {c : Int} (hc : c = vl (A g i q)) (hr : ∀ j : Nat, j < m → M (a + 1) (6 * g + (m * i + j)) = pv (mrw m A B g (m * i + j) q)) : CV 11 [(2, a), (2, b), (0, (g : Int)), (0, (i : Int)), (0, (q : Int)), (0, c)] M (fun M' => (∀ x y : Int, ¬ (x = a + 1 ∧ 6 * (g : Int) + (m : Int) * i ≤ y ∧ y < 6 * (g : Int) + (m : Int) * i + m) → M' x y = M x y) ∧ ∀ j : Nat, j < m → M' (a + 1) (6 * g + (m * i + j)) = pv (mrw m A B g (m * i + j) (q + 1))) := by
  refine Cl.intro (L := [(2, a), (2, b), (0, (g : Int)), (0, (i : Int)), (0, (q : Int)), (0, c), (9, 0), (9, 0)]) (rcv_v ow_11.2.1 ha) (by unfold entl; rw [mx_11]; rfl) (by rw [mx_11]; exact Nat.le_of_ble_eq_true rfl) rfl ?_
  have ha0 := shA_pos ha
  have hb0 := shA_pos hb
  have hAA := shA_AA ha hb
  have ha1 := shA_1 ha
  have hm6 := hB.n6
  have hvb := vl_b he (A g i q)
  have hmi : m * i + m ≤ 6 := by
    have h1 := Nat.mul_le_mul_left m (show i + 1 ≤ n by omega)
    rw [Nat.mul_add, Nat.mul_one, Nat.mul_comm m n] at h1
    omega
  have hmq : m * q + m ≤ 6 := by
    have h1 := Nat.mul_le_mul_left m (show q + 1 ≤ n by omega)
    rw [Nat.mul_add, Nat.mul_one, Nat.mul_comm m n] at h1
    omega
  have emi : ((m * i : Nat) : Int) = (m : Int) * i := Int.natCast_mul m i
  have emq : ((m * q : Nat) : Int) = (m : Int) * q := Int.natCast_mul m q
  refine r_iconst d_11_0 rfl ?_
  refine r_istore d_11_1 rfl (stl_8_6 rfl rfl) ?_
  refine dn_ind (R := fun j => ∀ (M1 : Mo) (y : AV), (∀ x y : Int, ¬ (x = a + 1 ∧ 6 * (g : Int) + (m : Int) * i ≤ y ∧ y < 6 * (g : Int) + (m : Int) * i + j) → M1 x y = M x y) → (∀ k : Nat, (k : Int) < j → k < m → M1 (a + 1) (6 * g + (m * i + k)) = pv (mrw m A B g (m * i + k) (q + 1))) → Rn 11 3 [(2, a), (2, b), (0, (g : Int)), (0, (i : Int)), (0, (q : Int)), (0, c), (0, j), y] [] M1 _) (lo := 0) (n := m) ?_ ?_ 0 (by omega) (by omega) M (9, 0) (fun x y h => rfl) (fun k h1 h2 => by omega)
  · intro M1 y hF h1
    have hB1 : M1 b 1 = m := (hF _ _ (by omega)).trans hB.1
    refine r_iload d_11_3 rfl ?_
    refine r_aload_n d_11_5 rfl (by omega) ?_
    refine r_getfv (ki := 1) d_11_6 q_11_9 rfl hb hB1 ?_
    refine r_icmp_ge (t := 79) d_11_9 rfl (fun _ => ?_) (fun hz => absurd (by omega) hz)
    refine r_vret d_11_79 rt_11 ?_
    exact ⟨rfl, hF, fun j hj => h1 j (by omega) hj⟩
  · intro j j1 j2 ih M1 y hF h1
    obtain ⟨k, rfl⟩ : ∃ k : Nat, j = k := ⟨j.toNat, by omega⟩
    have hB1 : M1 b 1 = m := (hF _ _ (by omega)).trans hB.1
    have hp1 : M1 1 0 = pI e := (hF _ _ (by omega)).trans hp
    have hbr : M1 (b + 1) (6 * g + k) = pv (rv m B g k) := (hF _ _ (by omega)).trans (hB.2.2 g k hg (by omega))
    have har : M1 (a + 1) (6 * (g : Int) + (m : Int) * i + k) = pv (mrw m A B g (m * i + k) q) := by
      have := hr k (by omega)
      rw [← Int.add_assoc] at this
      exact (hF _ _ (by omega)).trans this
    have hsh := hx_shr (dv he (rv m B g k)) (k := m * q) (by omega)
    rw [← hx_mv (by omega)] at hsh
    have esh : hx (fun t => if t < m * q then 0 else vl (rv m B g k (t - m * q))) 12 = pv (fun t => if t < m * q then (0 : Kf e) else rv m B g k (t - m * q)) := by
      refine hx_congr (fun t _ => ?_)
      dsimp only
      by_cases z : t < m * q
      · rw [if_pos z, if_pos z, vl_0]
      · rw [if_neg z, if_neg z]
    rw [esh] at hsh
    have hpt := c_plusTimes he M1 hp1 (mrw m A B g (m * i + k) q) (fun t => if t < m * q then (0 : Kf e) else rv m B g k (t - m * q)) (c := c) (by omega)
    have enew : lc (mrw m A B g (m * i + k) q) (kI e c) (fun t => if t < m * q then (0 : Kf e) else rv m B g k (t - m * q)) = mrw m A B g (m * i + k) (q + 1) := by
      have hdk : (m * i + k) / m = i := by rw [Nat.mul_add_div (by omega), Nat.div_eq_of_lt (by omega)]; omega
      have hmk : (m * i + k) % m = k := by rw [Nat.mul_add_mod, Nat.mod_eq_of_lt (by omega)]
      have hmq1 : m * (q + 1) = m * q + m := by rw [Nat.mul_add, Nat.mul_one]
      funext t
      unfold lc mrw
      dsimp only
      rw [hmq1]
      by_cases z : t < m * q
      · rw [if_pos z, if_pos z, if_pos (by omega)]
        grind
      · rw [if_neg z, if_neg z]
        unfold rv
        by_cases z2 : t < m * q + m
        · obtain ⟨r, rfl⟩ : ∃ r, t = m * q + r := ⟨t - m * q, by omega⟩
          have hdr : (m * q + r) / m = q := by rw [Nat.mul_add_div (by omega), Nat.div_eq_of_lt (by omega)]; omega
          have hmr : (m * q + r) % m = r := by rw [Nat.mul_add_mod, Nat.mod_eq_of_lt (by omega)]
          rw [if_pos z2, if_pos (show k < m ∧ m * q + r - m * q < m by omega), show m * q + r - m * q = r by omega, hc, kI_vl]
          unfold mulK
          rw [hdk, hmk, hdr, hmr]
          grind
        · rw [if_neg z2, if_neg (show ¬ (k < m ∧ t - m * q < m) by omega)]
          grind
    rw [enew] at hpt
    refine r_iload d_11_3 rfl ?_
    refine r_aload_n d_11_5 rfl (by omega) ?_
    refine r_getfv (ki := 1) d_11_6 q_11_9 rfl hb hB1 ?_
    refine r_icmp_ge (t := 79) d_11_9 rfl (fun hz => absurd hz (by omega)) (fun _ => ?_)
    have hmi2 : (m : Int) * i ≤ 6 := by omega
    have hmi3 : 0 ≤ (m : Int) * i := by omega
    refine r_bipush d_11_12 rfl ?_
    refine r_iload_n d_11_14 rfl ?_
    refine r_imul d_11_15 (by omega) ?_
    refine r_aload_n d_11_16 rfl (by omega) ?_
    refine r_getfv (ki := 1) d_11_17 q_11_9 rfl hb hB1 ?_
    refine r_iload_n d_11_20 rfl ?_
    refine r_imul d_11_21 (by omega) ?_
    refine r_iadd d_11_22 (by omega) ?_
    refine r_iload d_11_23 rfl ?_
    refine r_iadd d_11_25 (by omega) ?_
    refine r_istore d_11_26 rfl (stl_8_7 rfl rfl) ?_
    refine r_aload_n d_11_28 rfl (by omega) ?_
    refine r_getc (ki := 2) d_11_29 q_11_15 rfl ha (fxA2 ha) (by omega) ?_
    refine r_iload d_11_32 rfl ?_
    refine r_aload_n d_11_34 rfl (by omega) ?_
    refine r_getc (ki := 0) d_11_35 q_11_19 rfl ha (fxA0 ha) (by omega) ?_
    refine r_aload_n d_11_38 rfl (by omega) ?_
    refine r_getc (ki := 2) d_11_39 q_11_15 rfl ha (fxA2 ha) (by omega) ?_
    refine r_iload d_11_42 rfl ?_
    refine r_laloadv d_11_44 (shA1 ha) (by omega) (by omega) har ?_
    refine r_iload d_11_45 rfl ?_
    refine r_aload_n d_11_47 rfl (by omega) ?_
    refine r_getc (ki := 2) d_11_48 q_11_15 rfl hb (fxA2 hb) (by omega) ?_
    refine r_bipush d_11_51 rfl ?_
    refine r_iload_n d_11_53 rfl ?_
    refine r_imul d_11_54 (by omega) ?_
    refine r_iload d_11_55 rfl ?_
    refine r_iadd d_11_57 (by omega) ?_
    refine r_laloadv d_11_58 (shA1 hb) (by omega) (by omega) hbr ?_
    refine r_iconst d_11_59 rfl ?_
    refine r_aload_n d_11_60 rfl (by omega) ?_
    refine r_getfv (ki := 1) d_11_61 q_11_9 rfl hb hB1 ?_
    refine r_imul d_11_64 (by omega) ?_
    refine r_iload d_11_65 rfl ?_
    refine r_imul d_11_67 (by rw [Int.mul_assoc, ← emq]; omega) ?_
    rw [show (4 : Int) * m * q = ((4 * (m * q) : Nat) : Int) by rw [Int.natCast_mul, emq, Int.mul_assoc]; rfl]
    refine r_lushr d_11_68 hsh ?_
    refine r_callvl d_11_69 q_11_37 rfl rfl hpt ?_
    refine r_lastore d_11_72 (shA1 ha) (by omega) (by omega) ?_
    refine r_iinc d_11_73 rfl (by omega) (stl_8_6 rfl rfl) ?_
    refine r_goto (t := 3) d_11_76 rfl ?_
    refine ih _ _ (fun x y hn => ?_) (fun k' h3 h4 => ?_)
    · rw [uq_ne (by omega)]
      exact hF x y (by omega)
    · by_cases z : k' = k
      · subst z
        rw [← Int.add_assoc, uq_eq]
      · rw [uq_ne (by omega)]
        exact h1 k' (by omega) h4
theorem c_multiplies (he : e ≤ 1) {M : Mo} (hp : M 1 0 = pI e) {a b c : Int} (ha : shp S0 a = (0, 3)) (hb : shp S0 b = (0, 3)) (hc : shp S0 c = (0, 3)) (hab : a ≠ b) (hac : a ≠ c) {n m : Nat} {A B : Nat → Nat → Nat → Kf e} (hA : AA e M b n A) (hB : AA e M c m B) (hnm : nb e (n * m)) (hm1 : 1 ≤ m) : CV 10 [(2, a), (2, b), (2, c)] M (fun M' => Fr (WA a) M M' ∧ AA e M' a (n * m) (mulK m A B)) := by
  refine Cl.intro (L := [(2, a), (2, b), (2, c), (9, 0), (9, 0), (9, 0)]) (rcv_v ow_10.2.1 ha) (by unfold entl; rw [mx_10]; rfl) (by rw [mx_10]; exact Nat.le_of_ble_eq_true rfl) rfl ?_
  have ha0 := shA_pos ha
  have hb0 := shA_pos hb
  have hc0 := shA_pos hc
  have ha1 := shA_1 ha
  have h6 : n * m ≤ 6 := by unfold nb at hnm; omega
  have enm : ((n * m : Nat) : Int) = (n : Int) * m := Int.natCast_mul n m
  have hn6 := hA.n6
  have hm6 := hB.n6
  refine r_aload_n d_10_0 rfl (by omega) ?_
  refine r_aload_n d_10_1 rfl (by omega) ?_
  refine r_getfv (ki := 1) d_10_2 q_10_9 rfl hb hA.1 ?_
  refine r_aload_n d_10_5 rfl (by omega) ?_
  refine r_getfv (ki := 1) d_10_6 q_10_9 rfl hc hB.1 ?_
  refine r_imul d_10_9 (by omega) ?_
  refine r_callvr d_10_10 q_10_61 rfl rfl (c_empties M ha) (fun M1 hM1 => ?_)
  obtain ⟨hF1, hs1, hz1⟩ := hM1
  refine r_iconst d_10_13 rfl ?_
  refine r_istore_n d_10_14 rfl (stl_6_3 rfl rfl) ?_
  refine dn_ind (R := fun g => ∀ (M1 : Mo) (y z : AV), Fr (WA a) M M1 → M1 a 1 = (n : Int) * m → (∀ g' i' : Nat, g' < 2 → i' < 6 → M1 (a + 1) (6 * g' + i') = pv (if (g' : Int) < g ∧ i' < n * m then mrw m A B g' i' n else z0)) → Rn 10 15 [(2, a), (2, b), (2, c), (0, g), y, z] [] M1 _) (lo := 0) (n := 2) ?_ ?_ 0 (by omega) (by omega) M1 (9, 0) (9, 0) hF1 hs1 (fun g' i' h1 h2 => by rw [if_neg (by omega), pv_z0]; exact hz1 _ (by omega) (by omega))
  · intro M1 y z hF hs hf
    refine r_iload_n d_10_15 rfl ?_
    refine r_iconst d_10_16 rfl ?_
    refine r_icmp_ge (t := 81) d_10_17 rfl (fun _ => ?_) (fun hz => absurd (by omega) hz)
    refine r_vret d_10_81 rt_10 ?_
    refine ⟨rfl, hF, ⟨by rw [hs, enm], hnm, fun g i hg hi => ?_⟩⟩
    rw [hf g i hg hi]
    refine pv_congr (fun j _ => ?_)
    unfold rv
    by_cases q : i < n * m
    · rw [if_pos ⟨by omega, q⟩]
      unfold mrw
      rw [Nat.mul_comm m n]
      by_cases q2 : j < n * m
      · rw [if_pos q2, if_pos ⟨q, q2⟩]
      · rw [if_neg q2, if_neg (fun z => q2 z.2)]
    · rw [if_neg (fun z => q z.2), if_neg (fun z => q z.1)]
      rfl
  · intro g g1 g2 ihg M1 y z hF hs hf
    obtain ⟨gn, rfl⟩ : ∃ gn : Nat, g = gn := ⟨g.toNat, by omega⟩
    refine r_iload_n d_10_15 rfl ?_
    refine r_iconst d_10_16 rfl ?_
    refine r_icmp_ge (t := 81) d_10_17 rfl (fun hz => absurd hz (by omega)) (fun _ => ?_)
    refine r_iconst d_10_20 rfl ?_
    refine r_istore d_10_21 rfl (stl_6_4 rfl rfl) ?_
    refine dn_ind (R := fun i => ∀ (M1 : Mo) (z : AV), Fr (WA a) M M1 → M1 a 1 = (n : Int) * m → (∀ g' i' : Nat, g' < 2 → i' < 6 → M1 (a + 1) (6 * g' + i') = pv (if ((g' : Int) < gn ∨ g' = gn ∧ i' < m * i.toNat) ∧ i' < n * m then mrw m A B g' i' n else z0)) → Rn 10 23 [(2, a), (2, b), (2, c), (0, (gn : Int)), (0, i), z] [] M1 _) (lo := 0) (n := n) ?_ ?_ 0 (by omega) (by omega) M1 z hF hs (fun g' i' h1 h2 => by
      rw [hf g' i' h1 h2]
      by_cases q : (g' : Int) < gn ∧ i' < n * m
      · rw [if_pos q, if_pos ⟨Or.inl q.1, q.2⟩]
      · rw [if_neg q, if_neg]
        rintro ⟨z1 | ⟨-, z1⟩, z2⟩
        · exact q ⟨z1, z2⟩
        · have : i' < m * 0 := z1
          omega)
    · intro M1 z hF hs hf
      have hA1 := WA_A ha hb hab hF hA
      refine r_iload d_10_23 rfl ?_
      refine r_aload_n d_10_25 rfl (by omega) ?_
      refine r_getfv (ki := 1) d_10_26 q_10_9 rfl hb hA1.1 ?_
      refine r_icmp_ge (t := 75) d_10_29 rfl (fun _ => ?_) (fun hz => absurd (by omega) hz)
      refine r_iinc d_10_75 rfl (by omega) (stl_6_3 rfl rfl) ?_
      refine r_goto (t := 15) d_10_78 rfl ?_
      refine ihg M1 _ _ hF hs (fun g' i' h1 h2 => ?_)
      rw [hf g' i' h1 h2, show ((n : Int)).toNat = n by omega, Nat.mul_comm m n]
      by_cases q : ((g' : Int) < gn ∨ g' = gn ∧ i' < n * m) ∧ i' < n * m
      · rw [if_pos q, if_pos (by omega)]
      · rw [if_neg q, if_neg (by omega)]
    · intro i i1 i2 ihi M1 z hF hs hf
      obtain ⟨k, rfl⟩ : ∃ k : Nat, i = k := ⟨i.toNat, by omega⟩
      rw [show ((k : Int)).toNat = k by omega] at hf
      rw [show ((k : Int) + 1).toNat = k + 1 by omega] at ihi
      have hA1 := WA_A ha hb hab hF hA
      have hmk : m * k + m ≤ n * m := by
        have h1 := Nat.mul_le_mul_left m (show k + 1 ≤ n by omega)
        rw [Nat.mul_add, Nat.mul_one, Nat.mul_comm m n] at h1
        exact h1
      have emk : ((m * k : Nat) : Int) = (m : Int) * k := Int.natCast_mul m k
      refine r_iload d_10_23 rfl ?_
      refine r_aload_n d_10_25 rfl (by omega) ?_
      refine r_getfv (ki := 1) d_10_26 q_10_9 rfl hb hA1.1 ?_
      refine r_icmp_ge (t := 75) d_10_29 rfl (fun hz => absurd hz (by omega)) (fun _ => ?_)
      refine r_iconst d_10_32 rfl ?_
      refine r_istore d_10_33 rfl (stl_6_5 rfl rfl) ?_
      refine dn_ind (R := fun q => ∀ (M1 : Mo), Fr (WA a) M M1 → M1 a 1 = (n : Int) * m → (∀ g' i' : Nat, g' < 2 → i' < 6 → M1 (a + 1) (6 * g' + i') = pv (if ((g' : Int) < gn ∨ g' = gn ∧ i' < m * k) ∧ i' < n * m then mrw m A B g' i' n else if g' = gn ∧ m * k ≤ i' ∧ i' < m * k + m then mrw m A B g' i' q.toNat else z0)) → Rn 10 35 [(2, a), (2, b), (2, c), (0, (gn : Int)), (0, (k : Int)), (0, q)] [] M1 _) (lo := 0) (n := n) ?_ ?_ 0 (by omega) (by omega) M1 hF hs (fun g' i' h1 h2 => by
        rw [hf g' i' h1 h2]
        by_cases q : ((g' : Int) < gn ∨ g' = gn ∧ i' < m * k) ∧ i' < n * m
        · rw [if_pos q, if_pos q]
        · rw [if_neg q, if_neg q]
          by_cases q2 : g' = gn ∧ m * k ≤ i' ∧ i' < m * k + m
          · rw [if_pos q2]
            refine pv_congr (fun j _ => ?_)
            unfold mrw
            rw [if_neg (show ¬ j < m * Int.toNat 0 by show ¬ j < m * 0; omega)]
            rfl
          · rw [if_neg q2])
      · intro M1 hF hs hf
        have hA1 := WA_A ha hb hab hF hA
        refine r_iload d_10_35 rfl ?_
        refine r_aload_n d_10_37 rfl (by omega) ?_
        refine r_getfv (ki := 1) d_10_38 q_10_9 rfl hb hA1.1 ?_
        refine r_icmp_ge (t := 69) d_10_41 rfl (fun _ => ?_) (fun hz => absurd (by omega) hz)
        refine r_iinc d_10_69 rfl (by omega) (stl_6_4 rfl rfl) ?_
        refine r_goto (t := 23) d_10_72 rfl ?_
        refine ihi M1 _ hF hs (fun g' i' h1 h2 => ?_)
        rw [hf g' i' h1 h2, show ((n : Int)).toNat = n by omega, Nat.mul_add, Nat.mul_one]
        by_cases q : ((g' : Int) < gn ∨ g' = gn ∧ i' < m * k) ∧ i' < n * m
        · rw [if_pos q, if_pos (by omega)]
        · rw [if_neg q]
          by_cases q2 : g' = gn ∧ m * k ≤ i' ∧ i' < m * k + m
          · rw [if_pos q2, if_pos (by omega)]
          · rw [if_neg q2, if_neg (by omega)]
      · intro q q1 q2 ihq M1 hF hs hf
        obtain ⟨l, rfl⟩ : ∃ l : Nat, q = l := ⟨q.toNat, by omega⟩
        rw [show ((l : Int)).toNat = l by omega] at hf
        rw [show ((l : Int) + 1).toNat = l + 1 by omega] at ihq
        have hA1 := WA_A ha hb hab hF hA
        have hB1 := WA_A ha hc hac hF hB
        have hp1 := WA_p ha hF hp
        have hen := c_entry he hb hA1 (g := gn) (i := k) (j := l) (by omega) (by omega) (by omega)
        have hblk := c_addsBlock he hp1 ha hc hac (n := n) (A := A) hB1 h6 (g := gn) (i := k) (q := l) (by omega) (by omega) (by omega) (c := vl (A gn k l)) rfl (fun j hj => by
          have h3 := hf gn (m * k + j) (by omega) (by omega)
          rw [if_neg (by omega), if_pos ⟨rfl, by omega, by omega⟩] at h3
          rw [← h3]
          congr 1)
        refine r_iload d_10_35 rfl ?_
        refine r_aload_n d_10_37 rfl (by omega) ?_
        refine r_getfv (ki := 1) d_10_38 q_10_9 rfl hb hA1.1 ?_
        refine r_icmp_ge (t := 69) d_10_41 rfl (fun hz => absurd hz (by omega)) (fun _ => ?_)
        refine r_aload_n d_10_44 rfl (by omega) ?_
        refine r_aload_n d_10_45 rfl (by omega) ?_
        refine r_iload_n d_10_46 rfl ?_
        refine r_iload d_10_47 rfl ?_
        refine r_iload d_10_49 rfl ?_
        refine r_aload_n d_10_51 rfl (by omega) ?_
        refine r_iload_n d_10_52 rfl ?_
        refine r_iload d_10_53 rfl ?_
        refine r_iload d_10_55 rfl ?_
        refine r_callvp d_10_57 q_10_65 rfl rfl hen ?_
        refine r_callvr d_10_60 q_10_69 rfl rfl (hblk) (fun M2 hM2 => ?_)
        obtain ⟨hF2, hr2⟩ := hM2
        refine r_iinc d_10_63 rfl (by omega) (stl_6_5 rfl rfl) ?_
        refine r_goto (t := 35) d_10_66 rfl ?_
        refine ihq M2 (fun x y hn => ?_) ?_ (fun g' i' h1 h2 => ?_)
        · have hxa : x ≠ a + 1 := fun z => hn (Or.inr z)
          rw [hF2 x y (fun z => hxa z.1)]
          exact hF x y hn
        · rw [hF2 _ _ (by omega)]
          exact hs
        · by_cases z : g' = gn ∧ m * k ≤ i' ∧ i' < m * k + m
          · rw [if_neg (by omega), if_pos z]
            obtain ⟨j, rfl⟩ : ∃ j, i' = m * k + j := ⟨i' - m * k, by omega⟩
            have h3 := hr2 j (by omega)
            rw [z.1, ← h3]
            congr 1
          · rw [hF2 _ _ (by omega), hf g' i' h1 h2, if_neg z]
            by_cases z2 : ((g' : Int) < gn ∨ g' = gn ∧ i' < m * k) ∧ i' < n * m
            · rw [if_pos z2, if_pos z2]
            · rw [if_neg z2, if_neg z2, if_neg z]
end
