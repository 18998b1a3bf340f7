/-! The class: duals, random entries, another basis, differences. -/
section
variable {e : Nat}
def flA (n : Nat) (F B : Nat → Nat → Nat → Kf e) (g i j : Nat) : Prop := ∀ g' i' j' : Nat, g' < 2 → i' < n → j' < n → (g' < g ∨ g' = g ∧ (i' < i ∨ i' = i ∧ j' < j)) → B g' i' j' = F g' i' j'
theorem flA.put {n : Nat} {F B : Nat → Nat → Nat → Kf e} {g i j : Nat} (h : flA n F B g i j) : flA n F (setA B g i j (F g i j)) g i (j + 1) := by
  intro g' i' j' h1 h2 h3 h4
  unfold setA
  by_cases q : g' = g ∧ i' = i ∧ j' = j
  · rw [if_pos q, q.1, q.2.1, q.2.2]
  · rw [if_neg q]
    exact h g' i' j' h1 h2 h3 (by omega)
theorem flA.ni {n : Nat} {F B : Nat → Nat → Nat → Kf e} {g i : Nat} (h : flA n F B g i n) : flA n F B g (i + 1) 0 := fun g' i' j' h1 h2 h3 h4 => h g' i' j' h1 h2 h3 (by omega)
theorem flA.ng {n : Nat} {F B : Nat → Nat → Nat → Kf e} {g : Nat} (h : flA n F B g n 0) : flA n F B (g + 1) 0 0 := fun g' i' j' h1 h2 h3 h4 => h g' i' j' h1 h2 h3 (by omega)
theorem flA.start {n : Nat} {F B : Nat → Nat → Nat → Kf e} : flA n F B 0 0 0 := fun g' i' j' h1 h2 h3 h4 => by omega
theorem flA.fin {n : Nat} {F B : Nat → Nat → Nat → Kf e} (h : flA n F B 2 0 0) {g i j : Nat} (hg : g < 2) (hi : i < n) (hj : j < n) : B g i j = F g i j := h g i j hg hi hj (by omega)
theorem WA_up {a : Int} {M M1 : Mo} (hF : Fr (WA a) M M1) (i v : Int) : Fr (WA a) M (up2 M1 (a + 1) i v) := fun x y hn => by
  have : x ≠ a + 1 := fun q => hn (Or.inr q)
  rw [uq_ne (Or.inl this)]
  exact hF x y hn
theorem c_transposes (he : e ≤ 1) {M : Mo} {a b : Int} (ha : shp S0 a = (0, 3)) (hb : shp S0 b = (0, 3)) (hne : a ≠ b) {n : Nat} {A : Nat → Nat → Nat → Kf e} (hA : AA e M b n A) : CV 12 [(2, a), (2, b)] M (fun M' => Fr (WA a) M M' ∧ AA e M' a n (fun g i j => A g j i)) := by
  refine Cl.intro (L := [(2, a), (2, b), (9, 0), (9, 0), (9, 0)]) (rcv_v ow_12.2.1 ha) (by unfold entl; rw [mx_12]; rfl) (by rw [mx_12]; exact Nat.le_of_ble_eq_true rfl) rfl ?_
  have ha0 := shA_pos ha
  have hb0 := shA_pos hb
  have h6 := hA.n6
  refine r_aload_n d_12_0 rfl (by omega) ?_
  refine r_aload_n d_12_1 rfl (by omega) ?_
  refine r_getfv (ki := 1) d_12_2 q_12_9 rfl hb hA.1 ?_
  refine r_callvr d_12_5 q_12_61 rfl rfl (c_empties M ha) (fun M1 hM1 => ?_)
  obtain ⟨hF1, hs1, hz1⟩ := hM1
  refine r_iconst d_12_8 rfl ?_
  refine r_istore_n d_12_9 rfl (stl_5_2 rfl rfl) ?_
  refine dn_ind (R := fun g => ∀ (M1 : Mo) (B : Nat → Nat → Nat → Kf e) (y z : AV), Fr (WA a) M M1 → AA e M1 a n B → flA n (fun g i j => A g j i) B g.toNat 0 0 → Rn 12 10 [(2, a), (2, b), (0, g), y, z] [] M1 _) (lo := 0) (n := 2) ?_ ?_ 0 (by omega) (by omega) M1 _ (9, 0) (9, 0) hF1 (AA.zero hA.2.1 hs1 hz1) flA.start
  · intro M1 B y z hF hB hf
    refine r_iload_n d_12_10 rfl ?_
    refine r_iconst d_12_11 rfl ?_
    refine r_icmp_ge (t := 71) d_12_12 rfl (fun _ => ?_) (fun hz => absurd (by omega) hz)
    refine r_vret d_12_71 rt_12 ?_
    exact ⟨rfl, hF, hB.congr (fun g i j h1 h2 h3 => hf.fin h1 h2 h3)⟩
  · intro g g1 g2 ihg M1 B y z hF hB hf
    obtain ⟨gn, rfl⟩ : ∃ gn : Nat, g = gn := ⟨g.toNat, by omega⟩
    rw [show ((gn : Int)).toNat = gn by omega] at hf
    rw [show ((gn : Int) + 1).toNat = gn + 1 by omega] at ihg
    refine r_iload_n d_12_10 rfl ?_
    refine r_iconst d_12_11 rfl ?_
    refine r_icmp_ge (t := 71) d_12_12 rfl (fun hz => absurd hz (by omega)) (fun _ => ?_)
    refine r_iconst d_12_15 rfl ?_
    refine r_istore_n d_12_16 rfl (stl_5_3 rfl rfl) ?_
    refine dn_ind (R := fun i => ∀ (M1 : Mo) (B : Nat → Nat → Nat → Kf e) (z : AV), Fr (WA a) M M1 → AA e M1 a n B → flA n (fun g i j => A g j i) B gn i.toNat 0 → Rn 12 17 [(2, a), (2, b), (0, (gn : Int)), (0, i), z] [] M1 _) (lo := 0) (n := n) ?_ ?_ 0 (by omega) (by omega) M1 B z hF hB hf
    · intro M1 B z hF hB hf
      rw [show ((n : Int)).toNat = n by omega] at hf
      refine r_iload_n d_12_17 rfl ?_
      refine r_aload_n d_12_18 rfl (by omega) ?_
      refine r_getfv (ki := 1) d_12_19 q_12_9 rfl ha hB.1 ?_
      refine r_icmp_ge (t := 65) d_12_22 rfl (fun _ => ?_) (fun hz => absurd (by omega) hz)
      refine r_iinc d_12_65 rfl (by omega) (stl_5_2 rfl rfl) ?_
      refine r_goto (t := 10) d_12_68 rfl ?_
      exact ihg M1 B _ _ hF hB hf.ng
    · intro i i1 i2 ihi M1 B z hF hB hf
      obtain ⟨k, rfl⟩ : ∃ k : Nat, i = k := ⟨i.toNat, by omega⟩
      rw [show ((k : Int)).toNat = k by omega] at hf
      rw [show ((k : Int) + 1).toNat = k + 1 by omega] at ihi
      refine r_iload_n d_12_17 rfl ?_
      refine r_aload_n d_12_18 rfl (by omega) ?_
      refine r_getfv (ki := 1) d_12_19 q_12_9 rfl ha hB.1 ?_
      refine r_icmp_ge (t := 65) d_12_22 rfl (fun hz => absurd hz (by omega)) (fun _ => ?_)
      refine r_iconst d_12_25 rfl ?_
      refine r_istore d_12_26 rfl (stl_5_4 rfl rfl) ?_
      refine dn_ind (R := fun j => ∀ (M1 : Mo) (B : Nat → Nat → Nat → Kf e), Fr (WA a) M M1 → AA e M1 a n B → flA n (fun g i j => A g j i) B gn k j.toNat → Rn 12 28 [(2, a), (2, b), (0, (gn : Int)), (0, (k : Int)), (0, j)] [] M1 _) (lo := 0) (n := n) ?_ ?_ 0 (by omega) (by omega) M1 B hF hB hf
      · intro M1 B hF hB hf
        rw [show ((n : Int)).toNat = n by omega] at hf
        refine r_iload d_12_28 rfl ?_
        refine r_aload_n d_12_30 rfl (by omega) ?_
        refine r_getfv (ki := 1) d_12_31 q_12_9 rfl ha hB.1 ?_
        refine r_icmp_ge (t := 59) d_12_34 rfl (fun _ => ?_) (fun hz => absurd (by omega) hz)
        refine r_iinc d_12_59 rfl (by omega) (stl_5_3 rfl rfl) ?_
        refine r_goto (t := 17) d_12_62 rfl ?_
        exact ihi M1 B _ hF hB hf.ni
      · intro j j1 j2 ihj M1 B hF hB hf
        obtain ⟨l, rfl⟩ : ∃ l : Nat, j = l := ⟨j.toNat, by omega⟩
        rw [show ((l : Int)).toNat = l by omega] at hf
        rw [show ((l : Int) + 1).toNat = l + 1 by omega] at ihj
        have hA1 := WA_A ha hb hne hF hA
        have hen := c_entry he hb hA1 (g := gn) (i := l) (j := k) (by omega) (by omega) (by omega)
        have hpu := c_puts he M1 ha (g := gn) (i := k) (j := l) (by omega) (by omega) (by omega) (hB.2.2 gn k (by omega) (by omega)) (c := A gn l k) rfl
        refine r_iload d_12_28 rfl ?_
        refine r_aload_n d_12_30 rfl (by omega) ?_
        refine r_getfv (ki := 1) d_12_31 q_12_9 rfl ha hB.1 ?_
        refine r_icmp_ge (t := 59) d_12_34 rfl (fun hz => absurd hz (by omega)) (fun _ => ?_)
        refine r_aload_n d_12_37 rfl (by omega) ?_
        refine r_iload_n d_12_38 rfl ?_
        refine r_iload_n d_12_39 rfl ?_
        refine r_iload d_12_40 rfl ?_
        refine r_aload_n d_12_42 rfl (by omega) ?_
        refine r_iload_n d_12_43 rfl ?_
        refine r_iload d_12_44 rfl ?_
        refine r_iload_n d_12_46 rfl ?_
        refine r_callvp d_12_47 q_12_65 rfl rfl hen ?_
        refine r_callvv d_12_50 q_12_53 rfl rfl hpu ?_
        refine r_iinc d_12_53 rfl (by omega) (stl_5_4 rfl rfl) ?_
        refine r_goto (t := 28) d_12_56 rfl ?_
        exact ihj _ _ (WA_up hF _ _) (hB.put (by omega) (by omega) (by omega) _) hf.put
theorem and31 {x : Int} (h0 : 0 ≤ x) (h1 : x < 9223372036854775808) : (Int64.ofInt x &&& Int64.ofInt 2147483647).toInt = x % 2147483648 := by
  obtain ⟨n, rfl⟩ : ∃ n : Nat, x = n := ⟨x.toNat, by omega⟩
  have h := land_ok (a := n) (b := 2 ^ 31 - 1) (by omega) (by decide)
  rw [Nat.and_two_pow_sub_one_eq_mod] at h
  refine Eq.trans h ?_
  omega
theorem shr16 {x : Int} (h0 : 0 ≤ x) (h1 : x < 9223372036854775808) : ((Int64.ofInt x).toUInt64 >>> ((Int32.ofInt 16).toInt64.toUInt64 &&& Int64.toUInt64 63)).toInt64.toInt = x / 65536 := by
  obtain ⟨n, rfl⟩ : ∃ n : Nat, x = n := ⟨x.toNat, by omega⟩
  have h := lushr_ok (n := n) (k := 16) (by omega) (by omega)
  refine Eq.trans h ?_
  omega
theorem ixb {n g i j : Nat} (hg : g < 2) (hi : i < n) (hj : j < n) : g * (n * n) + i * n + j < 2 * (n * n) := by
  have a1 : i * n + n ≤ n * n := by
    have := Nat.mul_le_mul_right n (show i + 1 ≤ n by omega)
    rw [Nat.add_mul] at this
    omega
  have a2 : g * (n * n) ≤ 1 * (n * n) := Nat.mul_le_mul_right _ (by omega)
  omega
theorem c_fills (he : e ≤ 1) {M : Mo} (hp : M 1 0 = pI e) {a : Int} (ha : shp S0 a = (0, 3)) {n : Nat} {A : Nat → Nat → Nat → Kf e} (hA : AA e M a n A) {x0 : Int} (hx : 0 ≤ x0 ∧ x0 ≤ 999999) : CI 6 [(2, a), (0, x0)] M (fun z M' => z = sm (fun c => nz (drw (pI e) x0 c)) (2 * (n * n)) ∧ Fr (WA a) M M' ∧ AA e M' a n (fun g i j => kI e (drE (pI e) x0 n g i j))) := by
  refine Cl.intro (L := [(2, a), (0, x0), (9, 0), (9, 0), (9, 0), (9, 0), (9, 0), (9, 0), (9, 0)]) (rcv_v ow_6.2.1 ha) (by unfold entl; rw [mx_6]; rfl) (by rw [mx_6]; exact Nat.le_of_ble_eq_true rfl) rfl ?_
  have ha0 := shA_pos ha
  have h6 := hA.n6
  have h23 := pI23 he
  have hb := h23.b
  have hnn : n * n ≤ 6 * 6 := Nat.mul_le_mul h6 h6
  refine r_iload_n d_6_0 rfl ?_
  refine r_i2l d_6_1 ?_
  refine r_lstore_n d_6_2 rfl (stw_9_2 rfl rfl) ?_
  refine r_iconst d_6_3 rfl ?_
  refine r_istore d_6_4 rfl (stl_9_4 rfl rfl) ?_
  refine r_iconst d_6_6 rfl ?_
  refine r_istore d_6_7 rfl (stl_9_5 rfl rfl) ?_
  refine dn_ind (R := fun g => ∀ (M1 : Mo) (B : Nat → Nat → Nat → Kf e) (t : Int) (x y z : AV) (w : Int), Fr (WA a) M M1 → AA e M1 a n B → flA n (fun g i j => kI e (drE (pI e) x0 n g i j)) B g.toNat 0 0 → t = lcg x0 (g.toNat * (n * n)) → w = sm (fun c => nz (drw (pI e) x0 c)) (g.toNat * (n * n)) → Rn 6 9 [(2, a), (0, x0), (1, t), (9, 0), (0, w), (0, g), x, y, z] [] M1 _) (lo := 0) (n := 2) ?_ ?_ 0 (by omega) (by omega) M A x0 (9, 0) (9, 0) (9, 0) 0 Fr.refl hA flA.start (by show x0 = lcg x0 (0 * (n * n)); rw [Nat.zero_mul]; rfl) (by show (0 : Int) = sm _ (0 * (n * n)); rw [Nat.zero_mul]; rfl)
  · intro M1 B t x y z w hF hB hf ht hw
    refine r_iload d_6_9 rfl ?_
    refine r_iconst d_6_11 rfl ?_
    refine r_icmp_ge (t := 112) d_6_12 rfl (fun _ => ?_) (fun hz => absurd (by omega) hz)
    refine r_iload d_6_112 rfl ?_
    refine r_iret d_6_114 rt_6 ?_
    exact ⟨_, rfl, hw, hF, hB.congr (fun g i j h1 h2 h3 => hf.fin h1 h2 h3)⟩
  · intro g g1 g2 ihg M1 B t x y z w hF hB hf ht hw
    obtain ⟨gn, rfl⟩ : ∃ gn : Nat, g = gn := ⟨g.toNat, by omega⟩
    rw [show ((gn : Int)).toNat = gn by omega] at hf ht hw
    rw [show ((gn : Int) + 1).toNat = gn + 1 by omega] at ihg
    refine r_iload d_6_9 rfl ?_
    refine r_iconst d_6_11 rfl ?_
    refine r_icmp_ge (t := 112) d_6_12 rfl (fun hz => absurd hz (by omega)) (fun _ => ?_)
    refine r_iconst d_6_15 rfl ?_
    refine r_istore d_6_16 rfl (stl_9_6 rfl rfl) ?_
    refine dn_ind (R := fun i => ∀ (M1 : Mo) (B : Nat → Nat → Nat → Kf e) (t : Int) (y z : AV) (w : Int), Fr (WA a) M M1 → AA e M1 a n B → flA n (fun g i j => kI e (drE (pI e) x0 n g i j)) B gn i.toNat 0 → t = lcg x0 (gn * (n * n) + i.toNat * n) → w = sm (fun c => nz (drw (pI e) x0 c)) (gn * (n * n) + i.toNat * n) → Rn 6 18 [(2, a), (0, x0), (1, t), (9, 0), (0, w), (0, (gn : Int)), (0, i), y, z] [] M1 _) (lo := 0) (n := n) ?_ ?_ 0 (by omega) (by omega) M1 B t y z w hF hB hf (by rw [ht]; show _ = lcg x0 (gn * (n * n) + 0 * n); rw [Nat.zero_mul]; rfl) (by rw [hw]; show _ = sm _ (gn * (n * n) + 0 * n); rw [Nat.zero_mul]; rfl)
    · intro M1 B t y z w hF hB hf ht hw
      rw [show ((n : Int)).toNat = n by omega] at hf ht hw
      refine r_iload d_6_18 rfl ?_
      refine r_aload_n d_6_20 rfl (by omega) ?_
      refine r_getfv (ki := 1) d_6_21 q_6_9 rfl ha hB.1 ?_
      refine r_icmp_ge (t := 106) d_6_24 rfl (fun _ => ?_) (fun hz => absurd (by omega) hz)
      refine r_iinc d_6_106 rfl (by omega) (stl_9_5 rfl rfl) ?_
      refine r_goto (t := 9) d_6_109 rfl ?_
      have e1 : (gn + 1) * (n * n) = gn * (n * n) + n * n := by rw [Nat.add_mul, Nat.one_mul]
      refine ihg M1 B _ _ _ _ _ hF hB hf.ng ?_ ?_
      · rw [e1]; exact ht
      · rw [e1]; exact hw
    · intro i i1 i2 ihi M1 B t y z w hF hB hf ht hw
      obtain ⟨k, rfl⟩ : ∃ k : Nat, i = k := ⟨i.toNat, by omega⟩
      rw [show ((k : Int)).toNat = k by omega] at hf ht hw
      rw [show ((k : Int) + 1).toNat = k + 1 by omega] at ihi
      refine r_iload d_6_18 rfl ?_
      refine r_aload_n d_6_20 rfl (by omega) ?_
      refine r_getfv (ki := 1) d_6_21 q_6_9 rfl ha hB.1 ?_
      refine r_icmp_ge (t := 106) d_6_24 rfl (fun hz => absurd hz (by omega)) (fun _ => ?_)
      refine r_iconst d_6_27 rfl ?_
      refine r_istore d_6_28 rfl (stl_9_7 rfl rfl) ?_
      refine dn_ind (R := fun j => ∀ (M1 : Mo) (B : Nat → Nat → Nat → Kf e) (t : Int) (z : AV) (w : Int), Fr (WA a) M M1 → AA e M1 a n B → flA n (fun g i j => kI e (drE (pI e) x0 n g i j)) B gn k j.toNat → t = lcg x0 (gn * (n * n) + k * n + j.toNat) → w = sm (fun c => nz (drw (pI e) x0 c)) (gn * (n * n) + k * n + j.toNat) → Rn 6 30 [(2, a), (0, x0), (1, t), (9, 0), (0, w), (0, (gn : Int)), (0, (k : Int)), (0, j), z] [] M1 _) (lo := 0) (n := n) ?_ ?_ 0 (by omega) (by omega) M1 B t z w hF hB hf ht hw
      · intro M1 B t z w hF hB hf ht hw
        rw [show ((n : Int)).toNat = n by omega] at hf ht hw
        refine r_iload d_6_30 rfl ?_
        refine r_aload_n d_6_32 rfl (by omega) ?_
        refine r_getfv (ki := 1) d_6_33 q_6_9 rfl ha hB.1 ?_
        refine r_icmp_ge (t := 100) d_6_36 rfl (fun _ => ?_) (fun hz => absurd (by omega) hz)
        refine r_iinc d_6_100 rfl (by omega) (stl_9_6 rfl rfl) ?_
        refine r_goto (t := 18) d_6_103 rfl ?_
        have e1 : gn * (n * n) + (k + 1) * n = gn * (n * n) + k * n + n := by rw [Nat.add_mul, Nat.one_mul, Nat.add_assoc]
        refine ihi M1 B _ _ _ _ hF hB hf.ni ?_ ?_
        · rw [e1]; exact ht
        · rw [e1]; exact hw
      · intro j j1 j2 ihj M1 B t z w hF hB hf ht hw
        obtain ⟨l, rfl⟩ : ∃ l : Nat, j = l := ⟨j.toNat, by omega⟩
        rw [show ((l : Int)).toNat = l by omega] at hf ht hw
        rw [show ((l : Int) + 1).toNat = l + 1 by omega] at ihj
        have hp1 := WA_p ha hF hp
        have hcb := ixb (n := n) (g := gn) (i := k) (j := l) (by omega) (by omega) (by omega)
        generalize hcc : gn * (n * n) + k * n + l = cc at ht hw hcb
        have hlr := lcg_rng hx cc
        rw [← ht] at hlr
        have hl2 : (t * 1103515245 + 12345) % 2147483648 = lcg x0 (cc + 1) := by rw [ht]; rfl
        have hlr2 := lcg_rng hx (cc + 1)
        have hdr : lcg x0 (cc + 1) / 65536 % pI e = drw (pI e) x0 cc := rfl
        have hdr2 : drE (pI e) x0 n gn k l = drw (pI e) x0 cc := by unfold drE; rw [hcc]
        have hvr := emb (x := lcg x0 (cc + 1) / 65536) h23
        have hvk : drw (pI e) x0 cc = vl (kI e (drE (pI e) x0 n gn k l)) := by
          rw [hdr2, vl_kI]
          exact (Int.emod_eq_of_lt (by rw [← hdr]; omega) (by rw [← hdr]; omega)).symm
        have hpu := c_puts he M1 ha (g := gn) (i := k) (j := l) (by omega) (by omega) (by omega) (hB.2.2 gn k (by omega) (by omega)) hvk
        have hsm := sm_nz (f := drw (pI e) x0) cc
        rw [← hw] at hsm
        have hnew := hf.put
        refine r_iload d_6_30 rfl ?_
        refine r_aload_n d_6_32 rfl (by omega) ?_
        refine r_getfv (ki := 1) d_6_33 q_6_9 rfl ha hB.1 ?_
        refine r_icmp_ge (t := 100) d_6_36 rfl (fun hz => absurd hz (by omega)) (fun _ => ?_)
        refine r_lload_n d_6_39 rfl ?_
        refine r_ldc2_w d_6_40 q_6_43 ?_
        refine r_lmul d_6_43 (by omega) ?_
        refine r_ldc2_w d_6_44 q_6_45 ?_
        refine r_ladd d_6_47 (by omega) ?_
        refine r_ldc2_w d_6_48 q_6_47 ?_
        refine r_land d_6_51 (and31 (by omega) (by omega)) ?_
        rw [hl2]
        refine r_lstore_n d_6_52 rfl (stw_9_2 rfl rfl) ?_
        refine r_aload_n d_6_53 rfl (by omega) ?_
        refine r_getc (ki := 0) d_6_54 q_6_19 rfl ha (fxA0 ha) (by omega) ?_
        refine r_lload_n d_6_57 rfl ?_
        refine r_bipush d_6_58 rfl ?_
        refine r_lushr d_6_60 (shr16 (by omega) (by omega)) ?_
        refine r_l2i d_6_61 (by omega) ?_
        refine r_callvp d_6_62 q_6_49 rfl rfl (c_modulo M1 hp1 h23 (by omega)) ?_
        rw [hdr]
        refine r_istore d_6_65 rfl (stl_9_8 rfl rfl) ?_
        refine r_aload_n d_6_67 rfl (by omega) ?_
        refine r_iload d_6_68 rfl ?_
        refine r_iload d_6_70 rfl ?_
        refine r_iload d_6_72 rfl ?_
        refine r_iload d_6_74 rfl ?_
        refine r_callvv d_6_76 q_6_53 rfl rfl hpu ?_
        refine r_iload d_6_79 rfl ?_
        refine r_iload d_6_81 rfl ?_
        have hs2 : sm (fun c => nz (drw (pI e) x0 c)) (cc + 1) = w + nz (drw (pI e) x0 cc) := by rw [hw]; rfl
        refine r_if_ne (t := 90) d_6_83 rfl (fun hz => ?_) (fun hz => ?_)
        · have e1 : nz (drw (pI e) x0 cc) = 1 := if_neg hz
          rw [e1] at hs2
          refine r_iconst d_6_90 rfl ?_
          refine r_iadd d_6_91 (by omega) ?_
          refine r_istore d_6_92 rfl (stl_9_4 rfl rfl) ?_
          refine r_iinc d_6_94 rfl (by omega) (stl_9_7 rfl rfl) ?_
          refine r_goto (t := 30) d_6_97 rfl ?_
          refine ihj _ _ _ _ _ (WA_up hF _ _) (hB.put (by omega) (by omega) (by omega) _) hnew ?_ ?_
          · rw [← hcc]; rfl
          · rw [← Nat.add_assoc, hcc, hs2]
        · have e1 : nz (drw (pI e) x0 cc) = 0 := if_pos (by omega)
          rw [e1] at hs2
          refine r_iconst d_6_86 rfl ?_
          refine r_goto (t := 91) d_6_87 rfl ?_
          refine r_iadd d_6_91 (by omega) ?_
          refine r_istore d_6_92 rfl (stl_9_4 rfl rfl) ?_
          refine r_iinc d_6_94 rfl (by omega) (stl_9_7 rfl rfl) ?_
          refine r_goto (t := 30) d_6_97 rfl ?_
          refine ihj _ _ _ _ _ (WA_up hF _ _) (hB.put (by omega) (by omega) (by omega) _) hnew ?_ ?_
          · rw [← hcc]; rfl
          · rw [← Nat.add_assoc, hcc, hs2]
end
