/-! The class: spaces. -/
def bc1 (x : Nat) : Nat := x / 2 &&& 5
def bc2 (x : Nat) : Nat := x - bc1 x
theorem bc_1 : ∀ x : Fin 16, ((Int32.ofInt (x.val : Int)).toUInt32 >>> ((Int32.ofInt 1).toUInt32 &&& Int32.toUInt32 31)).toInt32.toInt = ((x.val / 2 : Nat) : Int) := by decide +kernel
theorem bc_2 : ∀ x : Fin 16, (Int32.ofInt ((x.val / 2 : Nat) : Int) &&& Int32.ofInt 1431655765).toInt = (bc1 x.val : Int) := by decide +kernel
theorem bc_3 : ∀ x : Fin 16, (x.val : Int) - (bc1 x.val : Int) = (bc2 x.val : Int) ∧ bc2 x.val < 16 := by decide +kernel
theorem bc_4 : ∀ x : Fin 16, (Int32.ofInt (x.val : Int) &&& Int32.ofInt 858993459).toInt = ((x.val % 4 : Nat) : Int) := by decide +kernel
theorem bc_5 : ∀ x : Fin 16, ((Int32.ofInt (x.val : Int)).toUInt32 >>> ((Int32.ofInt 2).toUInt32 &&& Int32.toUInt32 31)).toInt32.toInt = ((x.val / 4 : Nat) : Int) := by decide +kernel
theorem bc_6 : ∀ x : Fin 16, (Int32.ofInt ((x.val / 4 : Nat) : Int) &&& Int32.ofInt 858993459).toInt = ((x.val / 4 : Nat) : Int) := by decide +kernel
theorem bc_7 : ∀ x : Fin 16, ((bc2 x.val % 4 : Nat) : Int) + ((bc2 x.val / 4 : Nat) : Int) = (pcn x.val 4 : Int) ∧ pcn x.val 4 < 5 := by decide +kernel
theorem bc_8 : ∀ x : Fin 5, ((Int32.ofInt (x.val : Int)).toUInt32 >>> ((Int32.ofInt 4).toUInt32 &&& Int32.toUInt32 31)).toInt32.toInt = 0 ∧ ((Int32.ofInt (x.val : Int)).toUInt32 >>> ((Int32.ofInt 8).toUInt32 &&& Int32.toUInt32 31)).toInt32.toInt = 0 ∧ ((Int32.ofInt (x.val : Int)).toUInt32 >>> ((Int32.ofInt 16).toUInt32 &&& Int32.toUInt32 31)).toInt32.toInt = 0 ∧ (Int32.ofInt (x.val : Int) &&& Int32.ofInt 252645135).toInt = x.val ∧ (Int32.ofInt (x.val : Int) &&& Int32.ofInt 63).toInt = x.val := by decide +kernel
theorem bc_9 : ∀ n : Fin 5, ∀ x : Fin 16, x.val < 2 ^ n.val → pcn x.val 4 = pcn x.val n.val := by decide +kernel
theorem j_bitCount (M : Mo) {x n : Nat} (hn : n ≤ 4) (hx : x < 2 ^ n) : PI 216 [(0, (x : Int))] M (pcn x n : Nat) := by
  have h16 := p2_16 hn
  have hx16 : x < 16 := by omega
  have e9 : pcn x 4 = pcn x n := bc_9 ⟨n, by omega⟩ ⟨x, hx16⟩ hx
  rw [← e9]
  have e1 : ((Int32.ofInt (x : Int)).toUInt32 >>> ((Int32.ofInt 1).toUInt32 &&& Int32.toUInt32 31)).toInt32.toInt = ((x / 2 : Nat) : Int) := bc_1 ⟨x, hx16⟩
  have e2 : (Int32.ofInt ((x / 2 : Nat) : Int) &&& Int32.ofInt 1431655765).toInt = (bc1 x : Int) := bc_2 ⟨x, hx16⟩
  have e3 : (x : Int) - (bc1 x : Int) = (bc2 x : Int) ∧ bc2 x < 16 := bc_3 ⟨x, hx16⟩
  have e4 : (Int32.ofInt (bc2 x : Int) &&& Int32.ofInt 858993459).toInt = ((bc2 x % 4 : Nat) : Int) := bc_4 ⟨bc2 x, e3.2⟩
  have e5 : ((Int32.ofInt (bc2 x : Int)).toUInt32 >>> ((Int32.ofInt 2).toUInt32 &&& Int32.toUInt32 31)).toInt32.toInt = ((bc2 x / 4 : Nat) : Int) := bc_5 ⟨bc2 x, e3.2⟩
  have e6 : (Int32.ofInt ((bc2 x / 4 : Nat) : Int) &&& Int32.ofInt 858993459).toInt = ((bc2 x / 4 : Nat) : Int) := bc_6 ⟨bc2 x, e3.2⟩
  have e7 : ((bc2 x % 4 : Nat) : Int) + ((bc2 x / 4 : Nat) : Int) = (pcn x 4 : Int) ∧ pcn x 4 < 5 := bc_7 ⟨x, hx16⟩
  obtain ⟨f1, f2, f3, f4, f5⟩ := bc_8 ⟨pcn x 4, e7.2⟩
  refine Cl.intro (L := [(0, (x : Int))]) (rcv_s ow_216.1) (by unfold entl; rw [mx_216]; rfl) (by rw [mx_216]; exact Nat.le_of_ble_eq_true rfl) rfl ?_
  refine r_iload_n d_216_0 rfl ?_
  refine r_iload_n d_216_1 rfl ?_
  refine r_iconst d_216_2 rfl ?_
  refine r_iushr d_216_3 e1 ?_
  refine r_ldc_w (c := 0) d_216_4 q_216_265 ?_
  refine r_iand d_216_7 e2 ?_
  refine r_isub d_216_8 (by omega) ?_
  rw [e3.1]
  refine r_istore_n d_216_9 rfl (stl_1_0 rfl) ?_
  refine r_iload_n d_216_10 rfl ?_
  refine r_ldc_w (c := 0) d_216_11 q_216_266 ?_
  refine r_iand d_216_14 e4 ?_
  refine r_iload_n d_216_15 rfl ?_
  refine r_iconst d_216_16 rfl ?_
  refine r_iushr d_216_17 e5 ?_
  refine r_ldc_w (c := 0) d_216_18 q_216_266 ?_
  refine r_iand d_216_21 e6 ?_
  refine r_iadd d_216_22 (by omega) ?_
  rw [e7.1]
  refine r_istore_n d_216_23 rfl (stl_1_0 rfl) ?_
  refine r_iload_n d_216_24 rfl ?_
  refine r_iload_n d_216_25 rfl ?_
  refine r_iconst d_216_26 rfl ?_
  refine r_iushr d_216_27 f1 ?_
  refine r_iadd d_216_28 (by omega) ?_
  rw [Int.add_zero]
  refine r_ldc_w (c := 0) d_216_29 q_216_267 ?_
  refine r_iand d_216_32 f4 ?_
  refine r_istore_n d_216_33 rfl (stl_1_0 rfl) ?_
  refine r_iload_n d_216_34 rfl ?_
  refine r_iload_n d_216_35 rfl ?_
  refine r_bipush d_216_36 rfl ?_
  refine r_iushr d_216_38 f2 ?_
  refine r_iadd d_216_39 (by omega) ?_
  rw [Int.add_zero]
  refine r_istore_n d_216_40 rfl (stl_1_0 rfl) ?_
  refine r_iload_n d_216_41 rfl ?_
  refine r_iload_n d_216_42 rfl ?_
  refine r_bipush d_216_43 rfl ?_
  refine r_iushr d_216_45 f3 ?_
  refine r_iadd d_216_46 (by omega) ?_
  rw [Int.add_zero]
  refine r_istore_n d_216_47 rfl (stl_1_0 rfl) ?_
  refine r_iload_n d_216_48 rfl ?_
  refine r_bipush d_216_49 rfl ?_
  refine r_iand d_216_51 f5 ?_
  refine r_iret d_216_52 rt_216 ?_
  exact ⟨rfl, rfl⟩
theorem c_isPivot (M : Mo) {P i : Nat} (hP : P < 64) (hi : i < 8) : PI 119 [(0, (P : Int)), (0, (i : Int))] M (bt P i : Nat) := by
  have hb := bt_01 P i
  refine Cl.intro (L := [(0, (P : Int)), (0, (i : Int))]) (rcv_s ow_119.1) (by unfold entl; rw [mx_119]; rfl) (by rw [mx_119]; exact Nat.le_of_ble_eq_true rfl) rfl ?_
  refine r_iload_n d_119_0 rfl ?_
  refine r_iload_n d_119_1 rfl ?_
  refine r_ishr d_119_2 (shr_ok (by omega) (by omega)) ?_
  refine r_iconst d_119_3 rfl ?_
  refine r_iand d_119_4 (bitv (by omega)) ?_
  refine r_iconst d_119_5 rfl ?_
  refine r_icmp_ne (t := 13) d_119_6 rfl (fun h => ?_) (fun h => ?_)
  · refine r_iconst d_119_13 rfl ?_
    refine r_zret d_119_14 rt_119 (by omega) ?_
    exact ⟨by rw [show bt P i = 0 by omega]; rfl, rfl⟩
  · refine r_iconst d_119_9 rfl ?_
    refine r_goto (t := 14) d_119_10 rfl ?_
    refine r_zret d_119_14 rt_119 (by omega) ?_
    exact ⟨by rw [show bt P i = 1 by omega]; rfl, rfl⟩
theorem c_freePlaces (M : Mo) {P n : Nat} (hP : P < 16) (hn : n ≤ 4) : PI 118 [(0, (n : Int)), (0, (P : Int))] M (ix0 P n n : Nat) := by
  have h4 := ix0_4 hP hn
  refine Cl.intro (L := [(0, (n : Int)), (0, (P : Int)), (9, 0), (9, 0), (9, 0)]) (rcv_s ow_118.1) (by unfold entl; rw [mx_118]; rfl) (by rw [mx_118]; exact Nat.le_of_ble_eq_true rfl) rfl ?_
  refine r_iconst d_118_0 rfl ?_
  refine r_istore_n d_118_1 rfl (stl_5_2 rfl rfl) ?_
  refine r_iconst d_118_2 rfl ?_
  refine r_istore_n d_118_3 rfl (stl_5_3 rfl rfl) ?_
  refine dn_ind (R := fun f => ∀ (s : Int) (y : AV), s = (ix0 P n f.toNat : Nat) → Rn 118 4 [(0, (n : Int)), (0, (P : Int)), (0, s), (0, f), y] [] M _) (lo := 0) (n := n) ?_ ?_ 0 (by omega) (by omega) 0 (9, 0) rfl
  · intro s y hs
    refine r_iload_n d_118_4 rfl ?_
    refine r_iload_n d_118_5 rfl ?_
    refine r_icmp_ge (t := 52) d_118_6 rfl (fun _ => ?_) (fun hz => absurd (by omega) hz)
    refine r_iload_n d_118_52 rfl ?_
    refine r_iret d_118_53 rt_118 ?_
    exact ⟨by rw [hs]; rfl, rfl⟩
  · intro f f1 f2 ih s y hs
    obtain ⟨k, rfl⟩ : ∃ k : Nat, f = k := ⟨f.toNat, by omega⟩
    rw [show ((k : Int)).toNat = k by omega] at hs
    rw [show ((k : Int) + 1).toNat = k + 1 by omega] at ih
    have hk1 := ix0_mono (P := P) (n := n) (i := k + 1) (j := n) (by omega)
    have hk2 : ix0 P n (k + 1) = ix0 P n k + if bt P k = 1 then cf P k n else 0 := rfl
    have hb := bt_01 P k
    refine r_iload_n d_118_4 rfl ?_
    refine r_iload_n d_118_5 rfl ?_
    refine r_icmp_ge (t := 52) d_118_6 rfl (fun hz => absurd hz (by omega)) (fun _ => ?_)
    refine r_iload_n d_118_9 rfl ?_
    refine r_iconst d_118_10 rfl ?_
    refine r_iadd d_118_11 (by omega) ?_
    refine r_istore d_118_12 rfl (stl_5_4 rfl rfl) ?_
    refine dn_ind (R := fun j => ∀ s : Int, s = ((ix0 P n k + if bt P k = 1 then cf P k j.toNat else 0 : Nat) : Int) → Rn 118 14 [(0, (n : Int)), (0, (P : Int)), (0, s), (0, (k : Int)), (0, j)] [] M _) (lo := (k : Int) + 1) (n := n) ?_ ?_ ((k : Int) + 1) (by omega) (by omega) s ?_
    · intro s hs
      rw [show ((n : Int)).toNat = n by omega] at hs
      refine r_iload d_118_14 rfl ?_
      refine r_iload_n d_118_16 rfl ?_
      refine r_icmp_ge (t := 46) d_118_17 rfl (fun _ => ?_) (fun hz => absurd (by omega) hz)
      refine r_iinc d_118_46 rfl (by omega) (stl_5_3 rfl rfl) ?_
      refine r_goto (t := 4) d_118_49 rfl ?_
      exact ih _ _ hs
    · intro j j1 j2 ihj s hs
      obtain ⟨l, rfl⟩ : ∃ l : Nat, j = l := ⟨j.toNat, by omega⟩
      rw [show ((l : Int)).toNat = l by omega] at hs
      rw [show ((l : Int) + 1).toNat = l + 1 by omega] at ihj
      have hc1 := cf_mono (P := P) (f := k) (i := l) (j := n) (by omega)
      have hc2 : cf P k (l + 1) = cf P k l + if k < l ∧ bt P l = 0 then 1 else 0 := rfl
      have hb2 := bt_01 P l
      refine r_iload d_118_14 rfl ?_
      refine r_iload_n d_118_16 rfl ?_
      refine r_icmp_ge (t := 46) d_118_17 rfl (fun hz => absurd hz (by omega)) (fun _ => ?_)
      refine r_iload_n d_118_20 rfl ?_
      refine r_iload_n d_118_21 rfl ?_
      refine r_callsp d_118_22 q_118_321 rfl rfl (c_isPivot M (by omega) (by omega)) ?_
      refine r_if_eq (t := 40) d_118_25 rfl (fun h1 => ?_) (fun h1 => ?_)
      · rw [if_neg (by omega)] at hs
        refine r_iinc d_118_40 rfl (by omega) (stl_5_4 rfl rfl) ?_
        refine r_goto (t := 14) d_118_43 rfl ?_
        exact ihj _ (by rw [if_neg (by omega)]; omega)
      · rw [if_pos (by omega)] at hs hk2
        refine r_iload_n d_118_28 rfl ?_
        refine r_iload d_118_29 rfl ?_
        refine r_callsp d_118_31 q_118_321 rfl rfl (c_isPivot M (by omega) (by omega)) ?_
        refine r_if_ne (t := 40) d_118_34 rfl (fun h2 => ?_) (fun h2 => ?_)
        · rw [if_neg (by omega)] at hc2
          refine r_iinc d_118_40 rfl (by omega) (stl_5_4 rfl rfl) ?_
          refine r_goto (t := 14) d_118_43 rfl ?_
          exact ihj _ (by rw [if_pos (by omega)]; omega)
        · rw [if_pos (by omega)] at hc2
          refine r_iinc d_118_37 rfl (by omega) (stl_5_2 rfl rfl) ?_
          refine r_iinc d_118_40 rfl (by omega) (stl_5_4 rfl rfl) ?_
          refine r_goto (t := 14) d_118_43 rfl ?_
          exact ihj _ (by rw [if_pos (by omega)]; omega)
    · rw [hs, cf_lo (by omega)]
      split <;> omega
section
variable {e : Nat}
theorem Sub.up {n m : Nat} {S : Vc e → Prop} (h : Sub n S) (hn : n ≤ m) : Sub m S := ⟨h.1, h.2.1, fun w hw => sup_le (h.2.2 w hw) hn⟩
def ctv (j : Nat) (w : Vc e) : Vc e := fun i => if i < j then w i else 0
theorem c_sfills (he : e ≤ 1) {M : Mo} (hp : M 1 0 = pI e) {a : Int} (ha : shp S0 a = (7, 5)) {P n : Nat} (hP : P < 16) (hn : n ≤ 4) {c : Int} (hc : 0 ≤ c ∧ c < 100000) : CV 62 [(2, a), (0, (n : Int)), (0, (P : Int)), (0, c)] M (fun M' => Fr (WP a) M M' ∧ SC M' a n (fS e n P c)) := by
  have ha0 := shS_pos ha
  have ha1 := shS_1 ha
  have h4 := ix0_4 hP hn
  refine Cl.intro (L := [(2, a), (0, (n : Int)), (0, (P : Int)), (0, c), (9, 0), (9, 0), (9, 0), (9, 0), (9, 0)]) (rcv_v ow_62.2.1 ha) (by unfold entl; rw [mx_62]; rfl) (by rw [mx_62]; exact Nat.le_of_ble_eq_true rfl) rfl ?_
  refine r_aload_n d_62_0 rfl (by omega) ?_
  refine r_iload_n d_62_1 rfl ?_
  refine r_callvr d_62_2 q_62_73 rfl rfl (c_sempties (e := e) M ha (by omega)) (fun M1 hM1 => ?_)
  obtain ⟨hF1, hT1⟩ := hM1
  have hp1 := WP_p ha hF1 hp
  have hd1 : M1 a 2 = 0 := hT1.2.1
  have hr1 : ∀ i : Nat, i < 6 → M1 (a + 1) i = 0 := fun i hi => by
    rw [hT1.1.2.2.1 i hi]
    have : cr (spn ([] : List (Vc e))) i = z0 := ifp_f Lp_nil
    rw [this, pv_z0]
  refine r_aload_n d_62_5 rfl (by omega) ?_
  refine r_getc (ki := 0) d_62_6 q_62_25 rfl ha (fxS0 ha) (by omega) ?_
  refine r_iload_n d_62_9 rfl ?_
  refine r_bipush d_62_10 rfl ?_
  refine r_callvl d_62_12 q_62_77 rfl rfl (c_vector he M1 hp1 (by omega) (show 6 ≤ 6 by omega)) ?_
  refine r_lstore d_62_15 rfl (stw_9_4 rfl rfl) ?_
  refine r_iconst d_62_17 rfl ?_
  refine r_istore d_62_18 rfl (stl_9_6 rfl rfl) ?_
  refine r_iconst d_62_20 rfl ?_
  refine r_istore d_62_21 rfl (stl_9_7 rfl rfl) ?_
  refine dn_ind (R := fun i => ∀ (M2 : Mo) (q : Int) (y : AV), Fr (WP a) M M2 → M2 a 1 = n → M2 a 2 = (pcn P i.toNat : Nat) → q = (ix0 P n i.toNat : Nat) → (∀ k : Nat, k < 6 → M2 (a + 1) k = pv (if (k : Int) < i ∧ bt P k = 1 then frw e n P c k else z0)) → Rn 62 23 [(2, a), (0, (n : Int)), (0, (P : Int)), (0, c), (1, pv (toV e 6 c)), (9, 0), (0, q), (0, i), y] [] M2 _) (lo := 0) (n := n) ?_ ?_ 0 (by omega) (by omega) M1 0 (9, 0) hF1 hT1.1.1 hd1 rfl (fun k hk => by rw [if_neg (by omega), pv_z0]; exact hr1 k hk)
  · intro M2 q y hF hn2 hd2 hq hr
    refine r_iload d_62_23 rfl ?_
    refine r_iload_n d_62_25 rfl ?_
    refine r_icmp_ge (t := 120) d_62_26 rfl (fun _ => ?_) (fun hz => absurd (by omega) hz)
    refine r_vret d_62_120 rt_62 ?_
    refine ⟨rfl, hF, hn2, by omega, fun k hk => ?_, fS_sub.up (by omega), fun i hi => (fS_Lp.mp hi).1⟩
    rw [hr k hk, fS_cr he]
    by_cases z : k < n ∧ bt P k = 1
    · rw [if_pos z, if_pos ⟨by omega, z.2⟩]
    · rw [if_neg z, if_neg (fun z2 => z ⟨by omega, z2.2⟩)]
  · intro i i1 i2 ih M2 q y hF hn2 hd2 hq hr
    obtain ⟨k, rfl⟩ : ∃ k : Nat, i = k := ⟨i.toNat, by omega⟩
    rw [show ((k : Int)).toNat = k by omega] at hd2 hq
    rw [show ((k : Int) + 1).toNat = k + 1 by omega] at ih
    have hk1 := ix0_mono (P := P) (n := n) (i := k + 1) (j := n) (by omega)
    have hk2 : ix0 P n (k + 1) = ix0 P n k + if bt P k = 1 then cf P k n else 0 := rfl
    have hpk : pcn P (k + 1) = pcn P k + bt P k := rfl
    have hpl := pcn_le (P := P) k
    have hb := bt_01 P k
    refine r_iload d_62_23 rfl ?_
    refine r_iload_n d_62_25 rfl ?_
    refine r_icmp_ge (t := 120) d_62_26 rfl (fun hz => absurd hz (by omega)) (fun _ => ?_)
    refine r_iload_n d_62_29 rfl ?_
    refine r_iload d_62_30 rfl ?_
    refine r_callsp d_62_32 q_62_97 rfl rfl (c_isPivot M2 (by omega) (by omega)) ?_
    refine r_if_eq (t := 114) d_62_35 rfl (fun h0 => ?_) (fun h0 => ?_)
    · rw [if_neg (by omega)] at hk2
      refine r_iinc d_62_114 rfl (by omega) (stl_9_7 rfl rfl) ?_
      refine r_goto (t := 23) d_62_117 rfl ?_
      refine ih M2 _ _ hF hn2 (by rw [hpk, hd2]; omega) (by rw [hk2, hq]; omega) (fun k' hk' => ?_)
      rw [hr k' hk']
      by_cases z : (k' : Int) < k ∧ bt P k' = 1
      · rw [if_pos z, if_pos ⟨by omega, z.2⟩]
      · rw [if_neg z, if_neg]
        rintro ⟨z1, z2⟩
        by_cases z3 : k' = k
        · rw [z3] at z2
          omega
        · exact z ⟨by omega, z2⟩
    · have hb1 : bt P k = 1 := by omega
      rw [if_pos hb1] at hk2
      have hun := c_unit M2 (i := k) (by omega)
      rw [← pv_un (e := e) (by omega)] at hun
      refine r_aload_n d_62_38 rfl (by omega) ?_
      refine r_getc (ki := 3) d_62_39 q_62_18 rfl ha (fxS3 ha) (by omega) ?_
      refine r_iload d_62_42 rfl ?_
      refine r_iload d_62_44 rfl ?_
      refine r_callsl d_62_46 q_62_89 rfl rfl hun ?_
      refine r_lastore d_62_49 (shS1 ha) (by omega) (by omega) ?_
      refine r_aload_n d_62_50 rfl (by omega) ?_
      refine r_dup d_62_51 rfl ?_
      refine r_getfv (ki := 2) d_62_52 q_62_15 rfl ha ((uq_ne (by omega)).trans hd2) ?_
      refine r_iconst d_62_55 rfl ?_
      refine r_iadd d_62_56 (by omega) ?_
      refine r_putf (ki := 2) d_62_57 q_62_15 rfl ha (fxS2 ha) ?_
      refine r_iload d_62_60 rfl ?_
      refine r_iconst d_62_62 rfl ?_
      refine r_iadd d_62_63 (by omega) ?_
      refine r_istore d_62_64 rfl (stl_9_8 rfl rfl) ?_
      have hF3 : ∀ z w : Int, Fr (WP a) M (up2 (up2 M2 (a + 1) (k : Int) z) a 2 w) := fun z w x y hx => by
        unfold WP at hx
        rw [uq_ne (by omega), uq_ne (by omega)]
        exact hF x y (by unfold WP; omega)
      refine dn_ind (R := fun j => ∀ (M3 : Mo) (q : Int), Fr (WP a) M M3 → M3 a 1 = n → M3 a 2 = ((pcn P k + 1 : Nat) : Int) → q = ((ix0 P n k + cf P k j.toNat : Nat) : Int) → (∀ k' : Nat, k' < 6 → M3 (a + 1) k' = pv (if k' = k then ctv j.toNat (frw e n P c k) else if (k' : Int) < k ∧ bt P k' = 1 then frw e n P c k' else z0)) → Rn 62 66 [(2, a), (0, (n : Int)), (0, (P : Int)), (0, c), (1, pv (toV e 6 c)), (9, 0), (0, q), (0, (k : Int)), (0, j)] [] M3 _) (lo := (k : Int) + 1) (n := n) ?_ ?_ ((k : Int) + 1) (by omega) (by omega) _ q (hF3 _ _) ?_ ?_ ?_ ?_
      · intro M3 q hF hn3 hd3 hq hr
        rw [show ((n : Int)).toNat = n by omega] at hq hr
        refine r_iload d_62_66 rfl ?_
        refine r_iload_n d_62_68 rfl ?_
        refine r_icmp_ge (t := 114) d_62_69 rfl (fun _ => ?_) (fun hz => absurd (by omega) hz)
        refine r_iinc d_62_114 rfl (by omega) (stl_9_7 rfl rfl) ?_
        refine r_goto (t := 23) d_62_117 rfl ?_
        refine ih M3 _ _ hF hn3 (by rw [hpk, hb1]; exact hd3) (by rw [hk2]; exact hq) (fun k' hk' => ?_)
        rw [hr k' hk']
        by_cases z : k' = k
        · rw [if_pos z, if_pos ⟨by omega, by rw [z]; exact hb1⟩, z]
          refine pv_congr (fun t _ => ?_)
          unfold ctv
          by_cases z2 : t < n
          · rw [if_pos z2]
          · rw [if_neg z2, frw_sup (by omega) t (by omega)]
        · rw [if_neg z]
          by_cases z2 : (k' : Int) < k ∧ bt P k' = 1
          · rw [if_pos z2, if_pos ⟨by omega, z2.2⟩]
          · rw [if_neg z2, if_neg (fun z3 => z2 ⟨by omega, z3.2⟩)]
      · intro j j1 j2 ihj M3 q hF hn3 hd3 hq hr
        obtain ⟨m, rfl⟩ : ∃ m : Nat, j = m := ⟨j.toNat, by omega⟩
        rw [show ((m : Int)).toNat = m by omega] at hq hr
        rw [show ((m : Int) + 1).toNat = m + 1 by omega] at ihj
        have hbm := bt_01 P m
        have hc1 := cf_mono (P := P) (f := k) (i := m + 1) (j := n) (by omega)
        have hc2 : cf P k (m + 1) = cf P k m + if k < m ∧ bt P m = 0 then 1 else 0 := rfl
        refine r_iload d_62_66 rfl ?_
        refine r_iload_n d_62_68 rfl ?_
        refine r_icmp_ge (t := 114) d_62_69 rfl (fun hz => absurd hz (by omega)) (fun _ => ?_)
        refine r_iload_n d_62_72 rfl ?_
        refine r_iload d_62_73 rfl ?_
        refine r_callsp d_62_75 q_62_97 rfl rfl (c_isPivot M3 (by omega) (by omega)) ?_
        refine r_if_ne (t := 108) d_62_78 rfl (fun h2 => ?_) (fun h2 => ?_)
        · rw [if_neg (by omega)] at hc2
          have e0 : frw e n P c k m = 0 := by
            unfold frw
            rw [if_neg (by omega), if_neg (by omega)]
          refine r_iinc d_62_108 rfl (by omega) (stl_9_8 rfl rfl) ?_
          refine r_goto (t := 66) d_62_111 rfl ?_
          refine ihj M3 _ hF hn3 hd3 (by rw [hc2, hq]; omega) (fun k' hk' => ?_)
          rw [hr k' hk']
          by_cases z : k' = k
          · rw [if_pos z, if_pos z]
            refine pv_congr (fun t _ => ?_)
            unfold ctv
            by_cases z2 : t < m
            · rw [if_pos z2, if_pos (by omega)]
            · rw [if_neg z2]
              by_cases z3 : t = m
              · rw [if_pos (by omega), z3, e0]
              · rw [if_neg (by omega)]
          · rw [if_neg z, if_neg z]
        · rw [if_pos (by omega)] at hc2
          have hix : ix0 P n k + cf P k m < 6 := by omega
          have e0 : frw e n P c k m = toV e 6 c (ix0 P n k + cf P k m) := by
            unfold frw toV
            rw [if_neg (by omega), if_pos (by omega), if_pos hix]
          have hrk := hr k (by omega)
          rw [if_pos rfl] at hrk
          have hel := c_elemV he M3 (toV e 6 c) (i := ix0 P n k + cf P k m) (by omega)
          rw [← hq, ← e0] at hel
          have hvb := vl_b he (frw e n P c k m)
          have hdr := hx_12 (dgt_d (i := m) (c := vl (frw e n P c k m)) (by omega))
          have hor := hx_or (dv he (ctv m (frw e n P c k))) (dgt_d (i := m) (c := vl (frw e n P c k m)) (by omega)) (fun t _ => by
            unfold dgt
            by_cases z : t = m
            · refine Or.inl ?_
              unfold ctv
              rw [if_neg (by omega)]
              rfl
            · exact Or.inr (if_neg z))
          have hnew : hx (fun t => vl (ctv m (frw e n P c k) t) + dgt m (vl (frw e n P c k m)) t) 12 = pv (ctv (m + 1) (frw e n P c k)) := by
            refine hx_congr (fun t _ => ?_)
            unfold dgt ctv
            by_cases z : t = m
            · rw [if_pos z, if_neg (by omega), if_pos (by omega), z, vl_0]
              omega
            · rw [if_neg z]
              by_cases z2 : t < m
              · rw [if_pos z2, if_pos (by omega)]
                omega
              · rw [if_neg z2, if_neg (by omega)]
                rfl
          refine r_aload_n d_62_81 rfl (by omega) ?_
          refine r_getc (ki := 3) d_62_82 q_62_18 rfl ha (fxS3 ha) (by omega) ?_
          refine r_iload d_62_85 rfl ?_
          refine r_dup2 d_62_87 rfl ?_
          refine r_laloadv d_62_88 (shS1 ha) (by omega) (by omega) hrk ?_
          refine r_lload d_62_89 rfl ?_
          refine r_iload d_62_91 rfl ?_
          refine r_callsp d_62_93 q_62_35 rfl rfl hel ?_
          refine r_i2l d_62_96 ?_
          refine r_iload d_62_97 rfl ?_
          refine r_callsl d_62_99 q_62_89 rfl rfl (c_unit M3 (by omega)) ?_
          refine r_lmul d_62_102 (by rw [dg12 _ (by omega)]; omega) ?_
          rw [dg12 _ (by omega)]
          refine r_lor d_62_103 hor ?_
          rw [hnew]
          refine r_lastore d_62_104 (shS1 ha) (by omega) (by omega) ?_
          refine r_iinc d_62_105 rfl (by omega) (stl_9_6 rfl rfl) ?_
          refine r_iinc d_62_108 rfl (by omega) (stl_9_8 rfl rfl) ?_
          refine r_goto (t := 66) d_62_111 rfl ?_
          refine ihj _ _ (fun x y hx => ?_) ?_ ?_ (by rw [hc2, hq]; omega) (fun k' hk' => ?_)
          · unfold WP at hx
            rw [uq_ne (by omega)]
            exact hF x y (by unfold WP; omega)
          · rw [uq_ne (by omega)]
            exact hn3
          · rw [uq_ne (by omega)]
            exact hd3
          · by_cases z : k' = k
            · rw [z, uq_eq, if_pos rfl]
            · rw [uq_ne (by omega), hr k' hk', if_neg z, if_neg z]
      · rw [uq_ne (by omega), uq_ne (by omega)]
        exact hn2
      · rw [uq_eq]
        omega
      · rw [show ((k : Int) + 1).toNat = k + 1 by omega, cf_lo (by omega), hq]
        omega
      · intro k' hk'
        by_cases z : k' = k
        · rw [z, if_pos rfl, uq_ne (by omega), uq_eq, show ((k : Int) + 1).toNat = k + 1 by omega]
          refine pv_congr (fun t _ => ?_)
          unfold ctv
          by_cases z2 : t < k
          · rw [if_pos (by omega), frw_fp.2 t z2]
            unfold un
            rw [if_neg (by omega)]
          · by_cases z3 : t = k
            · rw [if_pos (by omega), z3]
              unfold un frw
              rw [if_pos rfl, if_pos rfl]
            · rw [if_neg (by omega)]
              unfold un
              rw [if_neg z3]
        · rw [if_neg z, uq_ne (by omega), uq_ne (by omega)]
          exact hr k' hk'
theorem c_isInvariant (he : e ≤ 1) {M : Mo} (hp : M 1 0 = pI e) {a b : Int} (ha : shp S0 a = (7, 5)) (hb : shp S0 b = (0, 3)) {n : Nat} {A : Nat → Nat → Nat → Kf e} (hA : AA e M b n A) {P : Nat} {c : Int} (hS : SC M a n (fS e n P c)) : PI 63 [(2, a), (2, b)] M (ifp (kin n A P c) 1 0) := by
  have ha0 := shS_pos ha
  have hb0 := shA_pos hb
  have h6 := hS.2.1
  have hsub : Sub n (fS e n P c) := fS_sub
  have hL : ∀ i, Lp (fS e n P c) i → i < n := fun i hi => (fS_Lp.mp hi).1
  have hzero : ∀ x : Vc e, sup n x → ((∀ i, i < 6 → vl (rd n (fS e n P c) x i) = 0) ↔ fS e n P c x) := fun x hx => by
    rw [← rd_z0 he hsub hL]
    have hs : sup n (rd n (fS e n P c) x) := rds_sup he hsub hx n
    constructor
    · intro h
      exact sup_ext hs sup_z0 (fun i hi => vl_eq0.mp (h i (by omega)))
    · intro h i _
      rw [h]
      rfl
  refine Cl.intro (L := [(2, a), (2, b), (9, 0), (9, 0)]) (rcv_v ow_63.2.1 ha) (by unfold entl; rw [mx_63]; rfl) (by rw [mx_63]; exact Nat.le_of_ble_eq_true rfl) rfl ?_
  refine r_iconst d_63_0 rfl ?_
  refine r_istore_n d_63_1 rfl (stl_4_2 rfl rfl) ?_
  refine dn_ind (R := fun i => ∀ y : AV, (∀ i' : Nat, (i' : Int) < i → i' < n → bt P i' = 1 → ∀ g, g < 2 → fS e n P c (mv n (A g) (frw e n P c i'))) → Rn 63 2 [(2, a), (2, b), (0, i), y] [] M _) (lo := 0) (n := n) ?_ ?_ 0 (by omega) (by omega) (9, 0) (fun i' z _ _ _ _ => by omega)
  · intro y hk
    refine r_iload_n d_63_2 rfl ?_
    refine r_aload_n d_63_3 rfl (by omega) ?_
    refine r_getfv (ki := 1) d_63_4 q_63_9 rfl ha hS.1 ?_
    refine r_icmp_ge (t := 52) d_63_7 rfl (fun _ => ?_) (fun hz => absurd (by omega) hz)
    refine r_iconst d_63_52 rfl ?_
    refine r_zret d_63_53 rt_63 (by omega) ?_
    have hkin : kin n A P c := fun f h1 h2 g h3 => hk f (by omega) h1 h2 g h3
    exact ⟨by rw [ifp_t hkin], rfl⟩
  · intro i i1 i2 ih y hk
    obtain ⟨k, rfl⟩ : ∃ k : Nat, i = k := ⟨i.toNat, by omega⟩
    have hrow := hS.2.2.1 k (by omega)
    refine r_iload_n d_63_2 rfl ?_
    refine r_aload_n d_63_3 rfl (by omega) ?_
    refine r_getfv (ki := 1) d_63_4 q_63_9 rfl ha hS.1 ?_
    refine r_icmp_ge (t := 52) d_63_7 rfl (fun hz => absurd hz (by omega)) (fun _ => ?_)
    refine r_iconst d_63_10 rfl ?_
    refine r_istore_n d_63_11 rfl (stl_4_3 rfl rfl) ?_
    refine dn_ind (R := fun g => (∀ g' : Nat, (g' : Int) < g → fS e n P c (mv n (A g') (cr (fS e n P c) k))) → Rn 63 12 [(2, a), (2, b), (0, (k : Int)), (0, g)] [] M _) (lo := 0) (n := 2) ?_ ?_ 0 (by omega) (by omega) (fun g' z => by omega)
    · intro hg
      refine r_iload_n d_63_12 rfl ?_
      refine r_iconst d_63_13 rfl ?_
      refine r_icmp_ge (t := 46) d_63_14 rfl (fun _ => ?_) (fun hz => absurd (by omega) hz)
      refine r_iinc d_63_46 rfl (by omega) (stl_4_2 rfl rfl) ?_
      refine r_goto (t := 2) d_63_49 rfl ?_
      refine ih _ (fun i' z1 z2 z3 g z4 => ?_)
      by_cases z : i' = k
      · subst z
        have h1 := hg g (by omega)
        rw [fS_cr he, if_pos ⟨z2, z3⟩] at h1
        exact h1
      · exact hk i' (by omega) z2 z3 g z4
    · intro g g1 g2 ihg hg
      obtain ⟨gn, rfl⟩ : ∃ gn : Nat, g = gn := ⟨g.toNat, by omega⟩
      have him := c_image he hp hb hA (g := gn) (by omega) (cr (fS e n P c) k)
      have hrd := c_reduced he hp ha hS (mv n (A gn) (cr (fS e n P c) k))
      have hiz := c_isZero M (dv he (rd n (fS e n P c) (mv n (A gn) (cr (fS e n P c) k))))
      have hz := hzero (mv n (A gn) (cr (fS e n P c) k)) sup_mv
      refine r_iload_n d_63_12 rfl ?_
      refine r_iconst d_63_13 rfl ?_
      refine r_icmp_ge (t := 46) d_63_14 rfl (fun hz => absurd hz (by omega)) (fun _ => ?_)
      refine r_aload_n d_63_17 rfl (by omega) ?_
      refine r_aload_n d_63_18 rfl (by omega) ?_
      refine r_iload_n d_63_19 rfl ?_
      refine r_aload_n d_63_20 rfl (by omega) ?_
      refine r_getc (ki := 3) d_63_21 q_63_18 rfl ha (fxS3 ha) (by omega) ?_
      refine r_iload_n d_63_24 rfl ?_
      refine r_laloadv d_63_25 (shS1 ha) (by omega) (by omega) hrow ?_
      refine r_callvl d_63_26 q_63_57 rfl rfl him ?_
      refine r_callvl d_63_29 q_63_49 rfl rfl hrd ?_
      refine r_callsp d_63_32 q_63_93 rfl rfl hiz ?_
      by_cases q : fS e n P c (mv n (A gn) (cr (fS e n P c) k))
      · rw [ifp_t (hz.mpr q)]
        refine r_if_ne (t := 40) d_63_35 rfl (fun _ => ?_) (fun hz => absurd (by decide) hz)
        refine r_iinc d_63_40 rfl (by omega) (stl_4_3 rfl rfl) ?_
        refine r_goto (t := 12) d_63_43 rfl ?_
        refine ihg (fun g' z => ?_)
        by_cases z2 : g' = gn
        · rw [z2]; exact q
        · exact hg g' (by omega)
      · rw [ifp_f (fun z => q (hz.mp z))]
        refine r_if_ne (t := 40) d_63_35 rfl (fun hz => absurd hz (fun z => z rfl)) (fun _ => ?_)
        refine r_iconst d_63_38 rfl ?_
        refine r_zret d_63_39 rt_63 (by omega) ?_
        refine ⟨?_, rfl⟩
        rw [ifp_f]
        intro z
        apply q
        rw [fS_cr he]
        by_cases z2 : k < n ∧ bt P k = 1
        · rw [if_pos z2]
          exact z k z2.1 z2.2 gn (by omega)
        · rw [if_neg z2, mv_z0]
          exact hsub.1
theorem c_invariantSpaces (he : e ≤ 1) {M : Mo} (hp : M 1 0 = pI e) {b : Int} (hb : shp S0 b = (0, 3)) {n : Nat} {A : Nat → Nat → Nat → Kf e} (hA : AA e M b n A) {P : Nat} (hP : P < 16) (hn : n ≤ 4) : CI 117 [(2, 0), (2, b), (0, (P : Int))] M (fun z M' => z = spcI n A P ∧ Fr (WP 5) M M') := by
  have hb0 := shA_pos hb
  have h23 := pI23 he
  have hi4 := ix0_4 hP hn
  have hpw := c_power M hp h23 (ix0 P n n : Nat) (by omega)
  rw [show ((ix0 P n n : Nat) : Int).toNat = ix0 P n n by omega] at hpw
  have hpp := pw_pos h23 (ix0 P n n)
  have hp4 := pw_le h23 hi4
  have hp81 : pI e ^ 4 ≤ 81 := by rcases h23 with h | h <;> rw [h] <;> decide
  refine Cl.intro (L := [(2, 0), (2, b), (0, (P : Int)), (9, 0), (9, 0), (9, 0)]) (rcv_v ow_117.2.1 sh_0) (by unfold entl; rw [mx_117]; rfl) (by rw [mx_117]; exact Nat.le_of_ble_eq_true rfl) rfl ?_
  refine r_aload_n d_117_0 rfl (by omega) ?_
  refine r_getc (ki := 0) d_117_1 q_117_10 rfl sh_0 fx_0_0 (by omega) ?_
  refine r_aload_n d_117_4 rfl (by omega) ?_
  refine r_getfv (ki := 1) d_117_5 q_117_149 rfl hb hA.1 ?_
  refine r_iload_n d_117_8 rfl ?_
  refine r_callsp d_117_9 q_117_310 rfl rfl (c_freePlaces M hP hn) ?_
  refine r_callvp d_117_12 q_117_302 rfl rfl hpw ?_
  refine r_istore_n d_117_15 rfl (stl_6_3 rfl rfl) ?_
  refine r_iconst d_117_16 rfl ?_
  refine r_istore d_117_17 rfl (stl_6_4 rfl rfl) ?_
  refine r_iconst d_117_19 rfl ?_
  refine r_istore d_117_20 rfl (stl_6_5 rfl rfl) ?_
  refine dn_ind (R := fun c => ∀ (M1 : Mo) (t : Int), Fr (WP 5) M M1 → t = sm (fun c => ifp (kin n A P c) (1 : Int) 0) c.toNat → Rn 117 22 [(2, 0), (2, b), (0, (P : Int)), (0, pI e ^ ix0 P n n), (0, t), (0, c)] [] M1 _) (lo := 0) (n := pI e ^ ix0 P n n) ?_ ?_ 0 (by omega) (by omega) M 0 Fr.refl rfl
  · intro M1 t hF ht
    refine r_iload d_117_22 rfl ?_
    refine r_iload_n d_117_24 rfl ?_
    refine r_icmp_ge (t := 62) d_117_25 rfl (fun _ => ?_) (fun hz => absurd (by omega) hz)
    refine r_iload d_117_62 rfl ?_
    refine r_iret d_117_64 rt_117 ?_
    exact ⟨_, rfl, ht, hF⟩
  · intro c c1 c2 ih M1 t hF ht
    have hr := spcI_rng (e := e) he (A := A) hP hn c.toNat (by omega)
    rw [← ht] at hr
    have hct : ((c.toNat : Nat) : Int) = c := by omega
    have hstep : sm (fun c => ifp (kin n A P c) (1 : Int) 0) (c + 1).toNat = t + ifp (kin n A P c) 1 0 := by
      rw [show (c + 1).toNat = c.toNat + 1 by omega, ht]
      show _ + ifp (kin n A P ((c.toNat : Nat) : Int)) 1 0 = _
      rw [hct]
    have hA1 := WP_A sh_5 hb hF hA
    have hp1 := WP_p sh_5 hF hp
    refine r_iload d_117_22 rfl ?_
    refine r_iload_n d_117_24 rfl ?_
    refine r_icmp_ge (t := 62) d_117_25 rfl (fun hz => absurd hz (by omega)) (fun _ => ?_)
    refine r_aload_n d_117_28 rfl (by omega) ?_
    refine r_getc (ki := 3) d_117_29 q_117_32 rfl sh_0 fx_0_3 (by omega) ?_
    refine r_aload_n d_117_32 rfl (by omega) ?_
    refine r_getfv (ki := 1) d_117_33 q_117_149 rfl hb hA1.1 ?_
    refine r_iload_n d_117_36 rfl ?_
    refine r_iload d_117_37 rfl ?_
    refine r_callvr d_117_39 q_117_314 rfl rfl (c_sfills he hp1 sh_5 hP hn (by omega)) (fun M2 hM2 => ?_)
    obtain ⟨hF2, hS2⟩ := hM2
    have hA2 := WP_A sh_5 hb hF2 hA1
    have hp2 := WP_p sh_5 hF2 hp1
    have hF3 := hF.trans hF2 (fun _ _ q => q) (fun _ _ q => q) (R := WP 5)
    refine r_aload_n d_117_42 rfl (by omega) ?_
    refine r_getc (ki := 3) d_117_43 q_117_32 rfl sh_0 fx_0_3 (by omega) ?_
    refine r_aload_n d_117_46 rfl (by omega) ?_
    refine r_callvp d_117_47 q_117_317 rfl rfl (c_isInvariant he hp2 sh_5 hb hA2 hS2) ?_
    by_cases q : kin n A P c
    · rw [ifp_t q] at hstep ⊢
      refine r_if_eq (t := 56) d_117_50 rfl (fun hz => absurd hz (by decide)) (fun _ => ?_)
      refine r_iinc d_117_53 rfl (by omega) (stl_6_4 rfl rfl) ?_
      refine r_iinc d_117_56 rfl (by omega) (stl_6_5 rfl rfl) ?_
      refine r_goto (t := 22) d_117_59 rfl ?_
      exact ih M2 _ hF3 hstep.symm
    · rw [ifp_f q] at hstep ⊢
      refine r_if_eq (t := 56) d_117_50 rfl (fun _ => ?_) (fun hz => absurd rfl hz)
      refine r_iinc d_117_56 rfl (by omega) (stl_6_5 rfl rfl) ?_
      refine r_goto (t := 22) d_117_59 rfl ?_
      exact ih M2 _ hF3 (by rw [hstep]; omega)
end
theorem c_spaces_bad (M : Mo) (hb : cbC M) {k d : Int} (h : ¬ ((0 ≤ k ∧ k ≤ 3) ∧ 0 ≤ d ∧ d ≤ 6)) : PJ 97 [(2, 0), (0, k), (0, d)] M (-2) (up2 M 0 11 (M 0 11 + 1)) := by
  have hbad := c_fails_b M hb
  refine Cl.intro (L := [(2, 0), (0, k), (0, d), (9, 0), (9, 0), (9, 0)]) (rcv_v ow_97.2.1 sh_0) (by unfold entl; rw [mx_97]; rfl) (by rw [mx_97]; exact Nat.le_of_ble_eq_true rfl) rfl ?_
  have key : Rn 97 18 [(2, 0), (0, k), (0, d), (9, 0), (9, 0), (9, 0)] [] M (fun v M' => v = some (0, -2) ∧ M' = up2 M 0 11 (M 0 11 + 1)) := by
    refine r_aload_n d_97_18 rfl (by omega) ?_
    refine r_bipush d_97_19 rfl ?_
    refine r_callvj d_97_21 q_97_91 rfl rfl hbad ?_
    refine r_iret d_97_24 rt_97 ?_
    exact ⟨rfl, rfl⟩
  refine r_aload_n d_97_0 rfl (by omega) ?_
  refine r_iload_n d_97_1 rfl ?_
  refine r_callvp d_97_2 q_97_106 rfl rfl (c_isModule M k) ?_
  by_cases hk : 0 ≤ k ∧ k ≤ 3
  · rw [if_pos hk]
    refine r_if_eq (t := 18) d_97_5 rfl (fun hz => absurd hz (by decide)) (fun _ => ?_)
    refine r_iload_n d_97_8 rfl ?_
    refine r_if_lt (t := 18) d_97_9 rfl (fun h1 => ?_) (fun h1 => ?_)
    · exact key
    · refine r_iload_n d_97_12 rfl ?_
      refine r_bipush d_97_13 rfl ?_
      refine r_icmp_le (t := 25) d_97_15 rfl (fun hz => absurd hz (by omega)) (fun _ => ?_)
      exact key
  · rw [if_neg hk]
    refine r_if_eq (t := 18) d_97_5 rfl (fun _ => ?_) (fun hz => absurd rfl hz)
    exact key
theorem c_spaces_no (M : Mo) (hb : cbC M) {s : Sst} (hc : cuC M s) {k : Nat} {d : Int} (hk : k < 4) (hd : 0 ≤ d ∧ d ≤ 6) (h4 : 4 < s.2.1 k) : PJ 97 [(2, 0), (0, (k : Int)), (0, d)] M (-3) (up2 M 0 12 (M 0 12 + 1)) := by
  have hno := c_fails_n M hb
  refine Cl.intro (L := [(2, 0), (0, (k : Int)), (0, d), (9, 0), (9, 0), (9, 0)]) (rcv_v ow_97.2.1 sh_0) (by unfold entl; rw [mx_97]; rfl) (by rw [mx_97]; exact Nat.le_of_ble_eq_true rfl) rfl ?_
  refine r_aload_n d_97_0 rfl (by omega) ?_
  refine r_iload_n d_97_1 rfl ?_
  refine r_callvp d_97_2 q_97_106 rfl rfl (c_isModule M k) ?_
  rw [if_pos (by omega)]
  refine r_if_eq (t := 18) d_97_5 rfl (fun hz => absurd hz (by decide)) (fun _ => ?_)
  refine r_iload_n d_97_8 rfl ?_
  refine r_if_lt (t := 18) d_97_9 rfl (fun hz => absurd hz (by omega)) (fun _ => ?_)
  refine r_iload_n d_97_12 rfl ?_
  refine r_bipush d_97_13 rfl ?_
  refine r_icmp_le (t := 25) d_97_15 rfl (fun _ => ?_) (fun hz => absurd (by omega) hz)
  refine r_aload_n d_97_25 rfl (by omega) ?_
  refine r_getc (ki := 1) d_97_26 q_97_18 rfl sh_0 fx_0_1 (by omega) ?_
  refine r_iload_n d_97_29 rfl ?_
  refine r_aaloadc d_97_30 sh_2 (by decide) (by omega) (by omega) (fxM (by omega) (by omega)) (by omega) ?_
  refine r_getfv (ki := 1) d_97_31 q_97_149 rfl (shM hk) (hc.2 k hk).1 ?_
  refine r_istore_n d_97_34 rfl (stl_6_3 rfl rfl) ?_
  refine r_iload_n d_97_35 rfl ?_
  refine r_iconst d_97_36 rfl ?_
  refine r_icmp_le (t := 47) d_97_37 rfl (fun hz => absurd hz (by omega)) (fun _ => ?_)
  refine r_aload_n d_97_40 rfl (by omega) ?_
  refine r_bipush d_97_41 rfl ?_
  refine r_callvj d_97_43 q_97_91 rfl rfl hno ?_
  refine r_iret d_97_46 rt_97 ?_
  exact ⟨rfl, rfl⟩
theorem c_spaces {M : Mo} {s : Sst} (hv : vs s) (hc : cuC M s) {k : Nat} {d : Int} (hk : k < 4) (hd : 0 ≤ d ∧ d ≤ 6) (h4 : s.2.1 k ≤ 4) : CI 97 [(2, 0), (0, (k : Int)), (0, d)] M (fun z M' => z = spcN (s.2.1 k) (mdA s k) d ∧ Fr WX M M') := by
  have h16 := p2_16 h4
  have hA := hc.2 k hk
  generalize hn : s.2.1 k = n at h4 h16 hA
  refine Cl.intro (L := [(2, 0), (0, (k : Int)), (0, d), (9, 0), (9, 0), (9, 0)]) (rcv_v ow_97.2.1 sh_0) (by unfold entl; rw [mx_97]; rfl) (by rw [mx_97]; exact Nat.le_of_ble_eq_true rfl) rfl ?_
  refine r_aload_n d_97_0 rfl (by omega) ?_
  refine r_iload_n d_97_1 rfl ?_
  refine r_callvp d_97_2 q_97_106 rfl rfl (c_isModule M k) ?_
  rw [if_pos (by omega)]
  refine r_if_eq (t := 18) d_97_5 rfl (fun hz => absurd hz (by decide)) (fun _ => ?_)
  refine r_iload_n d_97_8 rfl ?_
  refine r_if_lt (t := 18) d_97_9 rfl (fun hz => absurd hz (by omega)) (fun _ => ?_)
  refine r_iload_n d_97_12 rfl ?_
  refine r_bipush d_97_13 rfl ?_
  refine r_icmp_le (t := 25) d_97_15 rfl (fun _ => ?_) (fun hz => absurd (by omega) hz)
  refine r_aload_n d_97_25 rfl (by omega) ?_
  refine r_getc (ki := 1) d_97_26 q_97_18 rfl sh_0 fx_0_1 (by omega) ?_
  refine r_iload_n d_97_29 rfl ?_
  refine r_aaloadc d_97_30 sh_2 (by decide) (by omega) (by omega) (fxM (by omega) (by omega)) (by omega) ?_
  refine r_getfv (ki := 1) d_97_31 q_97_149 rfl (shM hk) hA.1 ?_
  refine r_istore_n d_97_34 rfl (stl_6_3 rfl rfl) ?_
  refine r_iload_n d_97_35 rfl ?_
  refine r_iconst d_97_36 rfl ?_
  refine r_icmp_le (t := 47) d_97_37 rfl (fun _ => ?_) (fun hz => absurd (by omega) hz)
  refine r_iconst d_97_47 rfl ?_
  refine r_istore d_97_48 rfl (stl_6_4 rfl rfl) ?_
  refine r_iconst d_97_50 rfl ?_
  refine r_istore d_97_51 rfl (stl_6_5 rfl rfl) ?_
  refine dn_ind (R := fun q => ∀ (M1 : Mo) (t : Int), Fr (WP 5) M M1 → t = sm (fun P => if (pcn P n : Int) = d then spcI n (mdA s k) P else 0) q.toNat → 0 ≤ t ∧ t ≤ 81 * q → Rn 97 53 [(2, 0), (0, (k : Int)), (0, d), (0, (n : Int)), (0, t), (0, q)] [] M1 _) (lo := 0) (n := ((2 ^ n : Nat) : Int)) ?_ ?_ 0 (by omega) (Int.natCast_nonneg _) M 0 Fr.refl rfl (by omega)
  · intro M1 t hF ht hbt
    rw [show (((2 ^ n : Nat) : Int)).toNat = 2 ^ n by omega] at ht
    refine r_iload d_97_53 rfl ?_
    refine r_iconst d_97_55 rfl ?_
    refine r_iload_n d_97_56 rfl ?_
    refine r_ishl d_97_57 (shl_ok (by omega)) ?_
    refine r_icmp_ge (t := 93) d_97_58 rfl (fun _ => ?_) (fun hz => absurd (by omega) hz)
    refine r_iload d_97_93 rfl ?_
    refine r_iret d_97_95 rt_97 ?_
    exact ⟨_, rfl, ht, hF.mono (fun _ _ q => WP_X q)⟩
  · intro q q1 q2 ih M1 t hF ht hbt
    obtain ⟨P, rfl⟩ : ∃ P : Nat, q = P := ⟨q.toNat, by omega⟩
    rw [show ((P : Int)).toNat = P by omega] at ht
    rw [show ((P : Int) + 1).toNat = P + 1 by omega] at ih
    have hP2 : P < 2 ^ n := by omega
    have hP16 : P < 16 := by omega
    have hr := spcI_rng (e := s.1) hv.1 (A := mdA s k) hP16 h4 _ (Nat.le_refl _)
    have hstep : sm (fun P => if (pcn P n : Int) = d then spcI n (mdA s k) P else 0) (P + 1) = t + (if (pcn P n : Int) = d then spcI n (mdA s k) P else 0) := by
      rw [ht]
      rfl
    refine r_iload d_97_53 rfl ?_
    refine r_iconst d_97_55 rfl ?_
    refine r_iload_n d_97_56 rfl ?_
    refine r_ishl d_97_57 (shl_ok (by omega)) ?_
    refine r_icmp_ge (t := 93) d_97_58 rfl (fun hz => absurd hz (by omega)) (fun _ => ?_)
    refine r_iload d_97_61 rfl ?_
    refine r_callsp d_97_63 q_97_231 rfl rfl (j_bitCount M1 h4 hP2) ?_
    refine r_iload_n d_97_66 rfl ?_
    refine r_icmp_ne (t := 87) d_97_67 rfl (fun hne => ?_) (fun hne => ?_)
    · rw [if_neg hne] at hstep
      refine r_iinc d_97_87 rfl (by omega) (stl_6_5 rfl rfl) ?_
      refine r_goto (t := 53) d_97_90 rfl ?_
      exact ih M1 _ hF (by rw [hstep]; omega) (by omega)
    · rw [if_pos (by omega)] at hstep
      have hA1 := WP_A sh_5 (shM hk) hF hA
      have hp1 := WP_p sh_5 hF hc.1
      refine r_iload d_97_70 rfl ?_
      refine r_aload_n d_97_72 rfl (by omega) ?_
      refine r_aload_n d_97_73 rfl (by omega) ?_
      refine r_getc (ki := 1) d_97_74 q_97_18 rfl sh_0 fx_0_1 (by omega) ?_
      refine r_iload_n d_97_77 rfl ?_
      refine r_aaloadc d_97_78 sh_2 (by decide) (by omega) (by omega) (fxM (by omega) (by omega)) (by omega) ?_
      refine r_iload d_97_79 rfl ?_
      refine r_callvi d_97_81 q_97_236 rfl rfl (c_invariantSpaces hv.1 hp1 (shM hk) hA1 hP16 h4) (fun x M2 hM2 => ?_)
      obtain ⟨hx, hF2⟩ := hM2
      have hx2 : 0 ≤ x ∧ x ≤ 81 := by
        have : x = sm (fun c => ifp (kin n (mdA s k) P c) (1 : Int) 0) (pI s.1 ^ ix0 P n n).toNat := hx
        omega
      refine r_iadd d_97_84 (by omega) ?_
      refine r_istore d_97_85 rfl (stl_6_4 rfl rfl) ?_
      refine r_iinc d_97_87 rfl (by omega) (stl_6_5 rfl rfl) ?_
      refine r_goto (t := 53) d_97_90 rfl ?_
      exact ih M2 _ (hF.trans hF2 (fun _ _ q => q) (fun _ _ q => q)) (by rw [hstep, hx]) (by omega)
