/-! The class: another basis, differences, sequences of entries, digests. -/
section
variable {e : Nat}
theorem kI_mod (x : Int) : kI e (x % pI e) = kI e x := by
  apply vl_inj
  rw [vl_kI, vl_kI, Int.emod_emod]
theorem kI_mul (x y : Int) : kI e (x * y) = kI e x * kI e y := by
  apply vl_inj
  rw [vl_mul, vl_kI, vl_kI, vl_kI, ← Int.mul_emod]
theorem kI_add (x y : Int) : kI e (x + y) = kI e x + kI e y := by
  apply vl_inj
  rw [vl_add, vl_kI, vl_kI, vl_kI, ← Int.add_emod]
theorem kI_0 : kI e 0 = 0 := by
  apply vl_inj
  rw [vl_kI, vl_0, Int.zero_emod]
theorem kI_ng (x : Int) : kI e (-x) = -(kI e x) := by
  have h : kI e x + kI e (-x) = 0 := by
    rw [← kI_add, show x + -x = 0 by omega, kI_0]
  have h2 : kI e (-x) = -(kI e x) + (kI e x + kI e (-x)) := by grind
  rw [h2, h]
  grind
theorem pv_un {i : Nat} (hi : i < 12) : pv (un i : Vc e) = 16 ^ (11 - i) := by
  have h := dg12 1 hi
  rw [Int.one_mul] at h
  rw [h]
  refine hx_congr (fun j _ => ?_)
  unfold un dgt
  by_cases q : j = i
  · rw [if_pos q, if_pos q, vl_1]
  · rw [if_neg q, if_neg q, vl_0]
def setR (A : Nat → Nat → Nat → Kf e) (g h : Nat) (w : Vc e) (g' h' q : Nat) : Kf e := if g' = g ∧ h' = h then w q else A g' h' q
theorem AA.row {M : Mo} {a : Int} {n : Nat} {A : Nat → Nat → Nat → Kf e} (hA : AA e M a n A) {g h : Nat} (hg : g < 2) (hh : h < n) {w : Vc e} (hw : sup n w) : AA e (up2 M (a + 1) (6 * g + h) (pv w)) a n (setR A g h w) := by
  have h6 := hA.n6
  refine ⟨by rw [uq_ne (by omega)]; exact hA.1, hA.2.1, fun g' i' h1 h2 => ?_⟩
  by_cases q : g' = g ∧ i' = h
  · obtain ⟨rfl, rfl⟩ := q
    rw [uq_eq]
    refine pv_congr (fun j' _ => ?_)
    unfold rv setR
    by_cases q : j' < n
    · rw [if_pos ⟨hh, q⟩, if_pos ⟨rfl, rfl⟩]
    · rw [if_neg (fun z => q z.2), hw j' (by omega)]
  · rw [uq_ne (by omega), hA.2.2 g' i' h1 h2]
    refine pv_congr (fun j' _ => ?_)
    unfold rv setR
    rw [if_neg q]
def trA (A : Nat → Nat → Nat → Kf e) (i j : Nat) (c : Kf e) (g h q : Nat) : Kf e := A g h q + if h = i then c * A g j q else 0
def trK (A : Nat → Nat → Nat → Kf e) (i j : Nat) (c : Kf e) (g h q : Nat) : Kf e := trA A i j c g h q + if q = j then -(c * trA A i j c g h i) else 0
theorem c_changesBasis (he : e ≤ 1) {M : Mo} (hp : M 1 0 = pI e) {a : Int} (ha : shp S0 a = (0, 3)) {n : Nat} {A : Nat → Nat → Nat → Kf e} (hA : AA e M a n A) {i j : Nat} {c : Int} (hi : i < n) (hj : j < n) (hij : i ≠ j) (hc : 0 ≤ c ∧ c ≤ pI e - 1) : CV 7 [(2, a), (0, (i : Int)), (0, (j : Int)), (0, c)] M (fun M' => Fr (WA a) M M' ∧ AA e M' a n (trK A i j (kI e c))) := by
  refine Cl.intro (L := [(2, a), (0, (i : Int)), (0, (j : Int)), (0, c), (9, 0), (9, 0), (9, 0), (9, 0)]) (rcv_v ow_7.2.1 ha) (by unfold entl; rw [mx_7]; rfl) (by rw [mx_7]; exact Nat.le_of_ble_eq_true rfl) rfl ?_
  have ha0 := shA_pos ha
  have h6 := hA.n6
  have h23 := pI23 he
  have hb := h23.b
  refine r_iconst d_7_0 rfl ?_
  refine r_istore d_7_1 rfl (stl_8_4 rfl rfl) ?_
  refine dn_ind (R := fun g => ∀ (M1 : Mo) (B : Nat → Nat → Nat → Kf e) (x y z : AV), Fr (WA a) M M1 → AA e M1 a n B → (∀ g' h q, g' < 2 → h < n → q < n → B g' h q = if (g' : Int) < g then trK A i j (kI e c) g' h q else A g' h q) → Rn 7 3 [(2, a), (0, (i : Int)), (0, (j : Int)), (0, c), (0, g), x, y, z] [] M1 _) (lo := 0) (n := 2) ?_ ?_ 0 (by omega) (by omega) M A (9, 0) (9, 0) (9, 0) Fr.refl hA (fun g' h q _ _ _ => by rw [if_neg (by omega)])
  · intro M1 B x y z hF hB hf
    refine r_iload d_7_3 rfl ?_
    refine r_iconst d_7_5 rfl ?_
    refine r_icmp_ge (t := 134) d_7_6 rfl (fun _ => ?_) (fun hz => absurd (by omega) hz)
    refine r_vret d_7_134 rt_7 ?_
    exact ⟨rfl, hF, hB.congr (fun g i j h1 h2 h3 => by rw [hf g i j h1 h2 h3, if_pos (by omega)])⟩
  · intro g g1 g2 ihg M1 B x y z hF hB hf
    obtain ⟨gn, rfl⟩ : ∃ gn : Nat, g = gn := ⟨g.toNat, by omega⟩
    have hp1 := WA_p ha hF hp
    have hri := hB.2.2 gn i (by omega) (by omega)
    have hrj := hB.2.2 gn j (by omega) (by omega)
    have hpt := c_plusTimes he M1 hp1 (rv n B gn i) (rv n B gn j) (c := c) (by omega)
    refine r_iload d_7_3 rfl ?_
    refine r_iconst d_7_5 rfl ?_
    refine r_icmp_ge (t := 134) d_7_6 rfl (fun hz => absurd hz (by omega)) (fun _ => ?_)
    refine r_bipush d_7_9 rfl ?_
    refine r_iload d_7_11 rfl ?_
    refine r_imul d_7_13 (by omega) ?_
    refine r_istore d_7_14 rfl (stl_8_5 rfl rfl) ?_
    refine r_aload_n d_7_16 rfl (by omega) ?_
    refine r_getc (ki := 2) d_7_17 q_7_15 rfl ha (fxA2 ha) (by omega) ?_
    refine r_iload d_7_20 rfl ?_
    refine r_iload_n d_7_22 rfl ?_
    refine r_iadd d_7_23 (by omega) ?_
    refine r_aload_n d_7_24 rfl (by omega) ?_
    refine r_getc (ki := 0) d_7_25 q_7_19 rfl ha (fxA0 ha) (by omega) ?_
    refine r_aload_n d_7_28 rfl (by omega) ?_
    refine r_getc (ki := 2) d_7_29 q_7_15 rfl ha (fxA2 ha) (by omega) ?_
    refine r_iload d_7_32 rfl ?_
    refine r_iload_n d_7_34 rfl ?_
    refine r_iadd d_7_35 (by omega) ?_
    refine r_laloadv d_7_36 (shA1 ha) (by omega) (by omega) hri ?_
    refine r_iload_n d_7_37 rfl ?_
    refine r_aload_n d_7_38 rfl (by omega) ?_
    refine r_getc (ki := 2) d_7_39 q_7_15 rfl ha (fxA2 ha) (by omega) ?_
    refine r_iload d_7_42 rfl ?_
    refine r_iload_n d_7_44 rfl ?_
    refine r_iadd d_7_45 (by omega) ?_
    refine r_laloadv d_7_46 (shA1 ha) (by omega) (by omega) hrj ?_
    refine r_callvl d_7_47 q_7_37 rfl rfl hpt ?_
    refine r_lastore d_7_50 (shA1 ha) (by omega) (by omega) ?_
    have hB2 := hB.row (g := gn) (h := i) (by omega) hi (w := lc (rv n B gn i) (kI e c) (rv n B gn j)) (sup_lc rv_sup rv_sup)
    have hF2 := WA_up hF (6 * gn + i) (pv (lc (rv n B gn i) (kI e c) (rv n B gn j)))
    have hf2 : ∀ g' h q, g' < 2 → h < n → q < n → setR B gn i (lc (rv n B gn i) (kI e c) (rv n B gn j)) g' h q = if (g' : Int) < gn then trK A i j (kI e c) g' h q else if g' = gn then trA A i j (kI e c) g' h q else A g' h q := by
      intro g' h q a1 a2 a3
      unfold setR
      by_cases q1 : g' = gn
      · rw [if_neg (show ¬ ((g' : Int) < gn) by omega), if_pos q1, q1]
        unfold trA
        by_cases q2 : h = i
        · rw [if_pos (show gn = gn ∧ h = i from ⟨rfl, q2⟩), if_pos q2, q2]
          unfold lc rv
          rw [if_pos ⟨hi, a3⟩, if_pos ⟨hj, a3⟩, hf gn i q (by omega) hi a3, hf gn j q (by omega) hj a3, if_neg (by omega), if_neg (by omega)]
        · rw [if_neg (show ¬ (gn = gn ∧ h = i) from fun z => q2 z.2), if_neg q2, hf gn h q (by omega) a2 a3, if_neg (by omega)]
          grind
      · rw [if_neg (fun z => q1 z.1), hf g' h q a1 a2 a3]
        by_cases q3 : (g' : Int) < gn
        · rw [if_pos q3, if_pos q3]
        · rw [if_neg q3, if_neg q3, if_neg q1]
    refine r_iconst d_7_51 rfl ?_
    refine r_istore d_7_52 rfl (stl_8_6 rfl rfl) ?_
    refine dn_ind (R := fun h => ∀ (M1 : Mo) (B : Nat → Nat → Nat → Kf e) (z : AV), Fr (WA a) M M1 → AA e M1 a n B → (∀ g' h' q, g' < 2 → h' < n → q < n → B g' h' q = if (g' : Int) < gn then trK A i j (kI e c) g' h' q else if g' = gn then (if (h' : Int) < h then trK A i j (kI e c) g' h' q else trA A i j (kI e c) g' h' q) else A g' h' q) → Rn 7 54 [(2, a), (0, (i : Int)), (0, (j : Int)), (0, c), (0, (gn : Int)), (0, 6 * (gn : Int)), (0, h), z] [] M1 _) (lo := 0) (n := n) ?_ ?_ 0 (by omega) (by omega) _ _ z hF2 hB2 (fun g' h' q a1 a2 a3 => by
      rw [hf2 g' h' q a1 a2 a3]
      by_cases q3 : (g' : Int) < gn
      · rw [if_pos q3, if_pos q3]
      · rw [if_neg q3, if_neg q3]
        by_cases q4 : g' = gn
        · rw [if_pos q4, if_pos q4, if_neg (by omega)]
        · rw [if_neg q4, if_neg q4])
    · intro M1 B z hF hB hf
      refine r_iload d_7_54 rfl ?_
      refine r_aload_n d_7_56 rfl (by omega) ?_
      refine r_getfv (ki := 1) d_7_57 q_7_9 rfl ha hB.1 ?_
      refine r_icmp_ge (t := 128) d_7_60 rfl (fun _ => ?_) (fun hz => absurd (by omega) hz)
      refine r_iinc d_7_128 rfl (by omega) (stl_8_4 rfl rfl) ?_
      refine r_goto (t := 3) d_7_131 rfl ?_
      refine ihg M1 B _ _ _ hF hB (fun g' h' q a1 a2 a3 => ?_)
      rw [hf g' h' q a1 a2 a3]
      by_cases q3 : (g' : Int) < gn
      · rw [if_pos q3, if_pos (by omega)]
      · rw [if_neg q3]
        by_cases q4 : g' = gn
        · rw [if_pos q4, if_pos (by omega), if_pos (by omega)]
        · rw [if_neg q4, if_neg (by omega)]
    · intro h h1 h2 ihh M1 B z hF hB hf
      obtain ⟨k, rfl⟩ : ∃ k : Nat, h = k := ⟨h.toNat, by omega⟩
      have hp1 := WA_p ha hF hp
      have hrow := hB.2.2 gn k (by omega) (by omega)
      have hel := c_elemV he M1 (rv n B gn k) (i := i) (by omega)
      have hvb := vl_b he (rv n B gn k i)
      have hmb := mb (x := c) (y := vl (rv n B gn k i)) (a := 2) (b := 2) (by omega) hvb
      have eneg : -c * vl (rv n B gn k i) = -(c * vl (rv n B gn k i)) := by rw [Int.neg_mul]
      have hmod := c_modulo M1 hp1 h23 (x := -c * vl (rv n B gn k i)) (by omega)
      have hmr := emb (x := -c * vl (rv n B gn k i)) h23
      have hu := c_unit M1 (i := j) (by omega)
      rw [← pv_un (e := e) (by omega)] at hu
      have hpt := c_plusTimes he M1 hp1 (rv n B gn k) (un j) (c := -c * vl (rv n B gn k i) % pI e) (by omega)
      refine r_iload d_7_54 rfl ?_
      refine r_aload_n d_7_56 rfl (by omega) ?_
      refine r_getfv (ki := 1) d_7_57 q_7_9 rfl ha hB.1 ?_
      refine r_icmp_ge (t := 128) d_7_60 rfl (fun hz => absurd hz (by omega)) (fun _ => ?_)
      refine r_aload_n d_7_63 rfl (by omega) ?_
      refine r_getc (ki := 0) d_7_64 q_7_19 rfl ha (fxA0 ha) (by omega) ?_
      refine r_iload_n d_7_67 rfl ?_
      refine r_ineg d_7_68 (by omega) ?_
      refine r_aload_n d_7_69 rfl (by omega) ?_
      refine r_getc (ki := 2) d_7_70 q_7_15 rfl ha (fxA2 ha) (by omega) ?_
      refine r_iload d_7_73 rfl ?_
      refine r_iload d_7_75 rfl ?_
      refine r_iadd d_7_77 (by omega) ?_
      refine r_laloadv d_7_78 (shA1 ha) (by omega) (by omega) hrow ?_
      refine r_iload_n d_7_79 rfl ?_
      refine r_callsp d_7_80 q_7_29 rfl rfl hel ?_
      refine r_imul d_7_83 (by omega) ?_
      refine r_callvp d_7_84 q_7_49 rfl rfl hmod ?_
      refine r_istore d_7_87 rfl (stl_8_7 rfl rfl) ?_
      refine r_aload_n d_7_89 rfl (by omega) ?_
      refine r_getc (ki := 2) d_7_90 q_7_15 rfl ha (fxA2 ha) (by omega) ?_
      refine r_iload d_7_93 rfl ?_
      refine r_iload d_7_95 rfl ?_
      refine r_iadd d_7_97 (by omega) ?_
      refine r_aload_n d_7_98 rfl (by omega) ?_
      refine r_getc (ki := 0) d_7_99 q_7_19 rfl ha (fxA0 ha) (by omega) ?_
      refine r_aload_n d_7_102 rfl (by omega) ?_
      refine r_getc (ki := 2) d_7_103 q_7_15 rfl ha (fxA2 ha) (by omega) ?_
      refine r_iload d_7_106 rfl ?_
      refine r_iload d_7_108 rfl ?_
      refine r_iadd d_7_110 (by omega) ?_
      refine r_laloadv d_7_111 (shA1 ha) (by omega) (by omega) hrow ?_
      refine r_iload d_7_112 rfl ?_
      refine r_iload_n d_7_114 rfl ?_
      refine r_callsl d_7_115 q_7_33 rfl rfl hu ?_
      refine r_callvl d_7_118 q_7_37 rfl rfl hpt ?_
      refine r_lastore d_7_121 (shA1 ha) (by omega) (by omega) ?_
      refine r_iinc d_7_122 rfl (by omega) (stl_8_6 rfl rfl) ?_
      refine r_goto (t := 54) d_7_125 rfl ?_
      have hus : sup n (un j : Vc e) := un_sup hj
      refine ihh _ _ _ (WA_up hF _ _) (hB.row (g := gn) (h := k) (by omega) (by omega) (sup_lc rv_sup hus)) (fun g' h' q a1 a2 a3 => ?_)
      unfold setR
      by_cases q1 : g' = gn ∧ h' = k
      · obtain ⟨rfl, rfl⟩ := q1
        rw [if_pos ⟨rfl, rfl⟩, if_neg (by omega), if_pos rfl, if_pos (by omega)]
        have e1 : ∀ q, q < n → rv n B g' h' q = trA A i j (kI e c) g' h' q := fun q hq => by
          unfold rv
          rw [if_pos ⟨a2, hq⟩, hf g' h' q a1 a2 hq, if_neg (by omega), if_pos rfl, if_neg (by omega)]
        unfold lc trK
        rw [e1 q a3, e1 i hi, kI_mod, Int.neg_mul, kI_ng, kI_mul, kI_vl]
        unfold un
        by_cases q2 : q = j
        · rw [if_pos q2, if_pos q2]
          grind
        · rw [if_neg q2, if_neg q2]
          grind
      · rw [if_neg q1, hf g' h' q a1 a2 a3]
        by_cases q3 : (g' : Int) < gn
        · rw [if_pos q3, if_pos q3]
        · rw [if_neg q3, if_neg q3]
          by_cases q4 : g' = gn
          · rw [if_pos q4, if_pos q4]
            by_cases q5 : (h' : Int) < k
            · rw [if_pos q5, if_pos (by omega)]
            · rw [if_neg q5, if_neg (by omega)]
          · rw [if_neg q4, if_neg q4]
/-- the entries in their sequence -/
def sqA (n : Nat) (A : Nat → Nat → Nat → Kf e) (c : Nat) : Int := vl (A (c / (n * n)) (c % (n * n) / n) (c % (n * n) % n))
theorem ixd {n g i j : Nat} (hi : i < n) (hj : j < n) : (g * (n * n) + i * n + j) / (n * n) = g ∧ (g * (n * n) + i * n + j) % (n * n) / n = i ∧ (g * (n * n) + i * n + j) % (n * n) % n = j := by
  have a1 : i * n + j < n * n := by
    have := Nat.mul_le_mul_right n (show i + 1 ≤ n by omega)
    rw [Nat.add_mul] at this
    omega
  have e1 : g * (n * n) + i * n + j = (i * n + j) + (n * n) * g := by rw [Nat.mul_comm (n * n)]; omega
  have h0 : 0 < n * n := by omega
  have e2 : i * n + j = j + n * i := by rw [Nat.mul_comm n]; omega
  rw [e1, Nat.add_mul_div_left _ _ h0, Nat.add_mul_mod_self_left, Nat.div_eq_of_lt a1, Nat.mod_eq_of_lt a1, e2, Nat.add_mul_div_left _ _ (by omega), Nat.add_mul_mod_self_left, Nat.div_eq_of_lt hj, Nat.mod_eq_of_lt hj]
  omega
theorem sqA_at {n : Nat} {A : Nat → Nat → Nat → Kf e} {g i j : Nat} (hi : i < n) (hj : j < n) : sqA n A (g * (n * n) + i * n + j) = vl (A g i j) := by
  obtain ⟨h1, h2, h3⟩ := ixd (g := g) hi hj
  unfold sqA
  rw [h1, h2, h3]
theorem ixs {n c : Nat} (hc : c < 2 * (n * n)) : ∃ g i j, g < 2 ∧ i < n ∧ j < n ∧ c = g * (n * n) + i * n + j := by
  have h0 : 0 < n * n := by omega
  have hn : 0 < n := Nat.pos_of_mul_pos_right h0
  refine ⟨c / (n * n), c % (n * n) / n, c % (n * n) % n, Nat.div_lt_of_lt_mul (by rw [Nat.mul_comm]; exact hc), Nat.div_lt_of_lt_mul (Nat.mod_lt _ h0), Nat.mod_lt _ hn, ?_⟩
  have h1 := Nat.div_add_mod c (n * n)
  have h2 := Nat.div_add_mod (c % (n * n)) n
  rw [Nat.mul_comm (c / (n * n)), Nat.mul_comm (c % (n * n) / n)]
  omega
theorem c_rowOnto (he : e ≤ 1) (M : Mo) (s : Int) (w : Vc e) {n : Nat} (hn : n ≤ 6) : PL 124 [(1, s), (1, pv w), (0, (n : Int))] M (fd (fun j => vl (w j)) s n) := by
  refine Cl.intro (L := [(1, s), (9, 0), (1, pv w), (9, 0), (0, (n : Int)), (9, 0), (9, 0), (9, 0)]) (rcv_s ow_124.1) (by unfold entl; rw [mx_124]; rfl) (by rw [mx_124]; exact Nat.le_of_ble_eq_true rfl) rfl ?_
  refine r_lload_n d_124_0 rfl ?_
  refine r_lstore d_124_1 rfl (stw_8_5 rfl rfl) ?_
  refine r_iconst d_124_3 rfl ?_
  refine r_istore d_124_4 rfl (stl_8_7 rfl rfl) ?_
  refine dn_ind (R := fun j => ∀ h : Int, h = fd (fun j => vl (w j)) s j.toNat → Rn 124 6 [(1, s), (9, 0), (1, pv w), (9, 0), (0, (n : Int)), (1, h), (9, 0), (0, j)] [] M _) (lo := 0) (n := n) ?_ ?_ 0 (by omega) (by omega) s rfl
  · intro h hh
    refine r_iload d_124_6 rfl ?_
    refine r_iload d_124_8 rfl ?_
    refine r_icmp_ge (t := 35) d_124_10 rfl (fun _ => ?_) (fun hz => absurd (by omega) hz)
    refine r_lload d_124_35 rfl ?_
    refine r_lret d_124_37 rt_124 ?_
    exact ⟨by rw [hh]; rfl, rfl⟩
  · intro j j1 j2 ih h hh
    obtain ⟨k, rfl⟩ : ∃ k : Nat, j = k := ⟨j.toNat, by omega⟩
    rw [show ((k : Int)).toNat = k by omega] at hh
    rw [show ((k : Int) + 1).toNat = k + 1 by omega] at ih
    refine r_iload d_124_6 rfl ?_
    refine r_iload d_124_8 rfl ?_
    refine r_icmp_ge (t := 35) d_124_10 rfl (fun hz => absurd hz (by omega)) (fun _ => ?_)
    refine r_ldc2_w d_124_13 q_124_292 ?_
    refine r_lload d_124_16 rfl ?_
    refine r_lmulw d_124_18 ?_
    refine r_lload_n d_124_19 rfl ?_
    refine r_iload d_124_20 rfl ?_
    refine r_callsp d_124_22 q_124_258 rfl rfl (c_elemV he M w (by omega)) ?_
    refine r_i2l d_124_25 ?_
    refine r_laddw d_124_26 ?_
    refine r_lstore d_124_27 rfl (stw_8_5 rfl rfl) ?_
    refine r_iinc d_124_29 rfl (by omega) (stl_8_7 rfl rfl) ?_
    refine r_goto (t := 6) d_124_32 rfl ?_
    exact ih _ (by rw [hh]; rfl)
theorem fd_add (f : Nat → Int) (h : Int) (m : Nat) : ∀ k : Nat, fd f h (m + k) = fd (fun j => f (m + j)) (fd f h m) k
  | 0 => rfl
  | k + 1 => by
    show dgs (fd f h (m + k)) (f (m + k)) = dgs (fd (fun j => f (m + j)) (fd f h m) k) (f (m + k))
    rw [fd_add f h m k]
theorem fd_congr {f g : Nat → Int} {h : Int} : ∀ {m : Nat}, (∀ i, i < m → f i = g i) → fd f h m = fd g h m
  | 0, _ => rfl
  | m + 1, q => by
    show dgs (fd f h m) (f m) = dgs (fd g h m) (g m)
    rw [fd_congr (fun i hi => q i (by omega)), q m (by omega)]
theorem c_digestOnto (he : e ≤ 1) {M : Mo} {a : Int} (ha : shp S0 a = (0, 3)) {n : Nat} {A : Nat → Nat → Nat → Kf e} (hA : AA e M a n A) (s : Int) : PL 17 [(2, a), (1, s)] M (fd (sqA n A) (dgs s n) (2 * (n * n))) := by
  refine Cl.intro (L := [(2, a), (1, s), (9, 0), (9, 0), (9, 0), (9, 0), (9, 0)]) (rcv_v ow_17.2.1 ha) (by unfold entl; rw [mx_17]; rfl) (by rw [mx_17]; exact Nat.le_of_ble_eq_true rfl) rfl ?_
  have ha0 := shA_pos ha
  have h6 := hA.n6
  refine r_ldc2_w d_17_0 q_17_106 ?_
  refine r_lload_n d_17_3 rfl ?_
  refine r_lmulw d_17_4 ?_
  refine r_aload_n d_17_5 rfl (by omega) ?_
  refine r_getfv (ki := 1) d_17_6 q_17_9 rfl ha hA.1 ?_
  refine r_i2l d_17_9 ?_
  refine r_laddw d_17_10 ?_
  refine r_lstore_n d_17_11 rfl (stw_7_3 rfl rfl) ?_
  refine r_iconst d_17_12 rfl ?_
  refine r_istore d_17_13 rfl (stl_7_5 rfl rfl) ?_
  refine dn_ind (R := fun g => ∀ (h : Int) (y : AV), h = fd (sqA n A) (dgs s n) (g.toNat * (n * n)) → Rn 17 15 [(2, a), (1, s), (9, 0), (1, h), (9, 0), (0, g), y] [] M _) (lo := 0) (n := 2) ?_ ?_ 0 (by omega) (by omega) (dgs s n) (9, 0) (by show _ = fd _ _ (0 * (n * n)); rw [Nat.zero_mul]; rfl)
  · intro h y hh
    refine r_iload d_17_15 rfl ?_
    refine r_iconst d_17_17 rfl ?_
    refine r_icmp_ge (t := 67) d_17_18 rfl (fun _ => ?_) (fun hz => absurd (by omega) hz)
    refine r_lload_n d_17_67 rfl ?_
    refine r_lret d_17_68 rt_17 ?_
    exact ⟨by rw [hh]; rfl, rfl⟩
  · intro g g1 g2 ihg h y hh
    obtain ⟨gn, rfl⟩ : ∃ gn : Nat, g = gn := ⟨g.toNat, by omega⟩
    rw [show ((gn : Int)).toNat = gn by omega] at hh
    rw [show ((gn : Int) + 1).toNat = gn + 1 by omega] at ihg
    refine r_iload d_17_15 rfl ?_
    refine r_iconst d_17_17 rfl ?_
    refine r_icmp_ge (t := 67) d_17_18 rfl (fun hz => absurd hz (by omega)) (fun _ => ?_)
    refine r_iconst d_17_21 rfl ?_
    refine r_istore d_17_22 rfl (stl_7_6 rfl rfl) ?_
    refine dn_ind (R := fun i => ∀ (h : Int), h = fd (sqA n A) (dgs s n) (gn * (n * n) + i.toNat * n) → Rn 17 24 [(2, a), (1, s), (9, 0), (1, h), (9, 0), (0, (gn : Int)), (0, i)] [] M _) (lo := 0) (n := n) ?_ ?_ 0 (by omega) (by omega) h (by rw [hh]; show _ = fd _ _ (gn * (n * n) + 0 * n); rw [Nat.zero_mul]; rfl)
    · intro h hh
      rw [show ((n : Int)).toNat = n by omega] at hh
      refine r_iload d_17_24 rfl ?_
      refine r_aload_n d_17_26 rfl (by omega) ?_
      refine r_getfv (ki := 1) d_17_27 q_17_9 rfl ha hA.1 ?_
      refine r_icmp_ge (t := 61) d_17_30 rfl (fun _ => ?_) (fun hz => absurd (by omega) hz)
      refine r_iinc d_17_61 rfl (by omega) (stl_7_5 rfl rfl) ?_
      refine r_goto (t := 15) d_17_64 rfl ?_
      refine ihg _ _ ?_
      rw [hh, Nat.add_mul, Nat.one_mul]
    · intro i i1 i2 ihi h hh
      obtain ⟨k, rfl⟩ : ∃ k : Nat, i = k := ⟨i.toNat, by omega⟩
      rw [show ((k : Int)).toNat = k by omega] at hh
      rw [show ((k : Int) + 1).toNat = k + 1 by omega] at ihi
      have hrow := hA.2.2 gn k (by omega) (by omega)
      refine r_iload d_17_24 rfl ?_
      refine r_aload_n d_17_26 rfl (by omega) ?_
      refine r_getfv (ki := 1) d_17_27 q_17_9 rfl ha hA.1 ?_
      refine r_icmp_ge (t := 61) d_17_30 rfl (fun hz => absurd hz (by omega)) (fun _ => ?_)
      refine r_lload_n d_17_33 rfl ?_
      refine r_aload_n d_17_34 rfl (by omega) ?_
      refine r_getc (ki := 2) d_17_35 q_17_15 rfl ha (fxA2 ha) (by omega) ?_
      refine r_bipush d_17_38 rfl ?_
      refine r_iload d_17_40 rfl ?_
      refine r_imul d_17_42 (by omega) ?_
      refine r_iload d_17_43 rfl ?_
      refine r_iadd d_17_45 (by omega) ?_
      refine r_laloadv d_17_46 (shA1 ha) (by omega) (by omega) hrow ?_
      refine r_aload_n d_17_47 rfl (by omega) ?_
      refine r_getfv (ki := 1) d_17_48 q_17_9 rfl ha hA.1 ?_
      refine r_callsl d_17_51 q_17_108 rfl rfl (c_rowOnto he M h (rv n A gn k) (by omega)) ?_
      refine r_lstore_n d_17_54 rfl (stw_7_3 rfl rfl) ?_
      refine r_iinc d_17_55 rfl (by omega) (stl_7_6 rfl rfl) ?_
      refine r_goto (t := 24) d_17_58 rfl ?_
      refine ihi _ ?_
      have e1 : gn * (n * n) + (k + 1) * n = gn * (n * n) + k * n + n := by rw [Nat.add_mul, Nat.one_mul, Nat.add_assoc]
      rw [e1, fd_add, ← hh]
      refine fd_congr (fun j hj => ?_)
      rw [sqA_at (by omega) hj]
      unfold rv
      rw [if_pos ⟨by omega, hj⟩]
end
