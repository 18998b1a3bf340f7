/-! The class: nulls. -/
theorem c_smallestNumber {e n : Nat} (he : e ≤ 1) {M : Mo} (hp : M 1 0 = pI e) {a : Int} (ha : shp S0 a = (7, 5)) {N : List (Vc e)} (hN : ST M a n N) (hNs : ∀ x ∈ N, sup n x) {W : Nat → Vc e} (hW : ∀ v, spn N v ↔ nsp n W v) : CI 61 [(2, a)] M (fun z M' => nlP n W 0 z ∧ M' = M) := by
  have ha0 := shS_pos ha
  have h6 := hN.1.2.1
  have h23 := pI23 he
  have hpn := pw_6 h23 h6
  have hp0 := pw_pos h23 n
  have hsub : Sub n (spn N) := spn_sub hNs
  have hL : ∀ i, Lp (spn N) i → i < n := fun i hi => Lp_lt hsub hi
  refine Cl.intro (L := [(2, a), (9, 0), (9, 0)]) (rcv_v ow_61.2.1 ha) (by unfold entl; rw [mx_61]; rfl) (by rw [mx_61]; exact Nat.le_of_ble_eq_true rfl) rfl ?_
  refine r_aload_n d_61_0 rfl (by omega) ?_
  refine r_getfv (ki := 2) d_61_1 q_61_15 rfl ha hN.2.1 ?_
  refine r_if_ne (t := 9) d_61_4 rfl (fun hd => ?_) (fun hd => ?_)
  · have hpw := c_power M hp h23 (n : Int) (by omega)
    rw [show ((n : Int)).toNat = n by omega] at hpw
    refine r_aload_n d_61_9 rfl (by omega) ?_
    refine r_getc (ki := 0) d_61_10 q_61_25 rfl ha (fxS0 ha) (by omega) ?_
    refine r_aload_n d_61_13 rfl (by omega) ?_
    refine r_getfv (ki := 1) d_61_14 q_61_9 rfl ha hN.1.1 ?_
    refine r_callvp d_61_17 q_61_70 rfl rfl hpw ?_
    refine r_istore_n d_61_20 rfl (stl_3_1 rfl rfl) ?_
    refine r_iconst d_61_21 rfl ?_
    refine r_istore_n d_61_22 rfl (stl_3_2 rfl rfl) ?_
    refine dn_ind (R := fun u => (∀ u' : Int, 0 < u' → u' < u → ¬ nsp n W (toV e n u')) → Rn 61 23 [(2, a), (0, pI e ^ n), (0, u)] [] M _) (lo := 1) (n := pI e ^ n) ?_ ?_ 1 (by omega) (by omega) (fun u' z1 z2 => by omega)
    · intro hno
      refine r_iload_n d_61_23 rfl ?_
      refine r_iload_n d_61_24 rfl ?_
      refine r_icmp_ge (t := 58) d_61_25 rfl (fun _ => ?_) (fun hz => absurd (by omega) hz)
      refine r_iconst d_61_58 rfl ?_
      refine r_iret d_61_59 rt_61 ?_
      exact ⟨_, rfl, Or.inl ⟨rfl, fun u u1 _ u2 => hno u u1 u2⟩, rfl⟩
    · intro u u1 u2 ih hno
      have hrs : sup n (rd n (spn N) (toV e n u)) := rds_sup he hsub toV_sup n
      have hz : (∀ i, i < 6 → vl (rd n (spn N) (toV e n u) i) = 0) ↔ nsp n W (toV e n u) := by
        rw [← hW, ← rd_z0 he hsub hL]
        constructor
        · intro h
          exact sup_ext hrs sup_z0 (fun i hi => vl_eq0.mp (h i (by omega)))
        · intro h i _
          rw [h]
          rfl
      refine r_iload_n d_61_23 rfl ?_
      refine r_iload_n d_61_24 rfl ?_
      refine r_icmp_ge (t := 58) d_61_25 rfl (fun hz => absurd hz (by omega)) (fun _ => ?_)
      refine r_aload_n d_61_28 rfl (by omega) ?_
      refine r_aload_n d_61_29 rfl (by omega) ?_
      refine r_getc (ki := 0) d_61_30 q_61_25 rfl ha (fxS0 ha) (by omega) ?_
      refine r_iload_n d_61_33 rfl ?_
      refine r_aload_n d_61_34 rfl (by omega) ?_
      refine r_getfv (ki := 1) d_61_35 q_61_9 rfl ha hN.1.1 ?_
      refine r_callvl d_61_38 q_61_77 rfl rfl (c_vector he M hp (by omega) h6) ?_
      refine r_callvl d_61_41 q_61_49 rfl rfl (c_reduced he hp ha hN.1 _) ?_
      refine r_callsp d_61_44 q_61_93 rfl rfl (c_isZero M (dv he _)) ?_
      by_cases q : nsp n W (toV e n u)
      · rw [ifp_t (hz.mpr q)]
        refine r_if_eq (t := 52) d_61_47 rfl (fun hz => absurd hz (by decide)) (fun _ => ?_)
        refine r_iload_n d_61_50 rfl ?_
        refine r_iret d_61_51 rt_61 ?_
        exact ⟨_, rfl, Or.inr ⟨by omega, by omega, u2, q, fun u' z1 _ z2 => hno u' z1 z2⟩, rfl⟩
      · rw [ifp_f (fun z => q (hz.mp z))]
        refine r_if_eq (t := 52) d_61_47 rfl (fun _ => ?_) (fun hz => absurd rfl hz)
        refine r_iinc d_61_52 rfl (by omega) (stl_3_2 rfl rfl) ?_
        refine r_goto (t := 23) d_61_55 rfl ?_
        refine ih (fun u' z1 z2 => ?_)
        by_cases z : u' = u
        · rw [z]
          exact q
        · exact hno u' z1 (by omega)
  · refine r_iconst d_61_7 rfl ?_
    refine r_iret d_61_8 rt_61 ?_
    refine ⟨_, rfl, Or.inl ⟨rfl, fun u u1 _ u2 q => ?_⟩, rfl⟩
    have h0 : N = [] := List.eq_nil_of_length_eq_zero (by omega)
    have h1 := (hW _).mpr q
    rw [h0] at h1
    exact toV_ne he (by omega) u2 h1
theorem nulP_eq {e n : Nat} (he : e ≤ 1) {A : Nat → Nat → Nat → Kf e} {W : Nat → Vc e} {x y z : Int} (hx : 0 ≤ x ∧ x ≤ 2) (hy : nulP n A W x y) (hz : nulP n A W x z) : y = z := by
  rcases (show x = 0 ∨ x = 1 ∨ x = 2 by omega) with h | h | h
  · obtain ⟨d1, e1, a1, b1⟩ := hy.1 h
    obtain ⟨d2, e2, a2, b2⟩ := hz.1 h
    have hd : d1 = d2 := by
      rcases Nat.lt_trichotomy d1 d2 with q | q | q
      · have := b2 d1 q
        omega
      · exact q
      · have := b1 d2 q
        omega
    omega
  · have h1 := hy.2.1 h
    have h2 := hz.2.1 h
    rcases h1 with ⟨a1, a2⟩ | ⟨a1, a2, a3, a4, a5⟩
    · rcases h2 with ⟨b1, b2⟩ | ⟨b1, b2, b3, b4, b5⟩
      · omega
      · exact absurd b4 (a2 z b1 b2 b3)
    · rcases h2 with ⟨b1, b2⟩ | ⟨b1, b2, b3, b4, b5⟩
      · exact absurd a4 (b2 y a1 a2 a3)
      · rcases Int.lt_trichotomy y z with q | q | q
        · exact absurd a4 (b5 y a1 a2 q)
        · exact q
        · exact absurd b4 (a5 z b1 b2 q)
  · rw [hy.2.2 h, hz.2.2 h]
theorem c_nulls_bad (M : Mo) (hb : cbC M) {k x : Int} (h : ¬ ((0 ≤ k ∧ k ≤ 3) ∧ 0 ≤ x ∧ x ≤ 2)) : PJ 102 [(2, 0), (0, k), (0, x)] M (-2) (up2 M 0 11 (M 0 11 + 1)) := by
  have hbad := c_fails_b M hb
  refine Cl.intro (L := [(2, 0), (0, k), (0, x)]) (rcv_v ow_102.2.1 sh_0) (by unfold entl; rw [mx_102]; rfl) (by rw [mx_102]; exact Nat.le_of_ble_eq_true rfl) rfl ?_
  have key : Rn 102 17 [(2, 0), (0, k), (0, x)] [] M (fun v M' => v = some (0, -2) ∧ M' = up2 M 0 11 (M 0 11 + 1)) := by
    refine r_aload_n d_102_17 rfl (by omega) ?_
    refine r_bipush d_102_18 rfl ?_
    refine r_callvj d_102_20 q_102_91 rfl rfl hbad ?_
    refine r_iret d_102_23 rt_102 ?_
    exact ⟨rfl, rfl⟩
  refine r_aload_n d_102_0 rfl (by omega) ?_
  refine r_iload_n d_102_1 rfl ?_
  refine r_callvp d_102_2 q_102_106 rfl rfl (c_isModule M k) ?_
  by_cases hk : 0 ≤ k ∧ k ≤ 3
  · rw [if_pos hk]
    refine r_if_eq (t := 17) d_102_5 rfl (fun hz => absurd hz (by decide)) (fun _ => ?_)
    refine r_iload_n d_102_8 rfl ?_
    refine r_if_lt (t := 17) d_102_9 rfl (fun h1 => ?_) (fun h1 => ?_)
    · exact key
    · refine r_iload_n d_102_12 rfl ?_
      refine r_iconst d_102_13 rfl ?_
      refine r_icmp_le (t := 24) d_102_14 rfl (fun hz => absurd hz (by omega)) (fun _ => ?_)
      exact key
  · rw [if_neg hk]
    refine r_if_eq (t := 17) d_102_5 rfl (fun _ => ?_) (fun hz => absurd rfl hz)
    exact key
theorem pw_lt {e : Nat} (he : e ≤ 1) {a b : Nat} (h : a < b) : pI e ^ a < pI e ^ b := by
  have h23 := pI23 he
  have hb := h23.b
  have h1 := pw_le h23 (show a + 1 ≤ b by omega)
  have h2 := pw_pos h23 a
  rw [Int.pow_succ] at h1
  have h3 : pI e ^ a * 2 ≤ pI e ^ a * pI e := Int.mul_le_mul_of_nonneg_left hb.1 (by omega)
  omega
theorem c_nulls {M : Mo} {s : Sst} (hv : vs s) (hc : cuC M s) {l : Nat} {w : Nat → Int} (hw : WdC M l w) {k : Nat} {x : Int} (hk : k < 4) (hx : 0 ≤ x ∧ x ≤ 2) : CI 102 [(2, 0), (0, (k : Int)), (0, x)] M (fun z M' => nulP (s.2.1 k) (mdA s k) (wrow (s.2.1 k) (mdA s k) w l) x z ∧ Fr WX M M') := by
  have h6 := vs_6 hv hk
  refine Cl.intro (L := [(2, 0), (0, (k : Int)), (0, x)]) (rcv_v ow_102.2.1 sh_0) (by unfold entl; rw [mx_102]; rfl) (by rw [mx_102]; exact Nat.le_of_ble_eq_true rfl) rfl ?_
  refine r_aload_n d_102_0 rfl (by omega) ?_
  refine r_iload_n d_102_1 rfl ?_
  refine r_callvp d_102_2 q_102_106 rfl rfl (c_isModule M k) ?_
  rw [if_pos (by omega)]
  refine r_if_eq (t := 17) d_102_5 rfl (fun hz => absurd hz (by decide)) (fun _ => ?_)
  refine r_iload_n d_102_8 rfl ?_
  refine r_if_lt (t := 17) d_102_9 rfl (fun hz => absurd hz (by omega)) (fun _ => ?_)
  refine r_iload_n d_102_12 rfl ?_
  refine r_iconst d_102_13 rfl ?_
  refine r_icmp_le (t := 24) d_102_14 rfl (fun _ => ?_) (fun hz => absurd (by omega) hz)
  refine r_aload_n d_102_24 rfl (by omega) ?_
  refine r_getc (ki := 5) d_102_25 q_102_46 rfl sh_0 fx_0_5 (by omega) ?_
  refine r_aload_n d_102_28 rfl (by omega) ?_
  refine r_getc (ki := 1) d_102_29 q_102_18 rfl sh_0 fx_0_1 (by omega) ?_
  refine r_iload_n d_102_32 rfl ?_
  refine r_aaloadc d_102_33 sh_2 (by decide) (by omega) (by omega) (fxM (by omega) (by omega)) (by omega) ?_
  refine r_aload_n d_102_34 rfl (by omega) ?_
  refine r_getc (ki := 3) d_102_35 q_102_32 rfl sh_0 fx_0_3 (by omega) ?_
  refine r_callvr d_102_38 q_102_261 rfl rfl (c_findsNulls hv.1 hc.1 (shM hk) (hc.2 k hk) hw (fun x y z1 z2 => by unfold WA at z1; unfold WP at z2; omega)) (fun M1 hM1 => ?_)
  obtain ⟨hF, N, hN, hNs, hNe⟩ := hM1
  have hG : Good (s.2.1 k) N := hN.sub hNs
  have hFX : Fr WX M M1 := hF.mono (fun x y q => by unfold WP at q; unfold WX; omega)
  have hc1 : cuC M1 s := hc.fr hFX (fun x y q => by unfold WX at q; omega)
  refine r_iload_n d_102_41 rfl ?_
  rcases (show x = 0 ∨ x = 1 ∨ x = 2 by omega) with rfl | rfl | rfl
  · refine r_lookup (t := 68) d_102_42 rfl rfl rfl ?_
    refine r_aload_n d_102_68 rfl (by omega) ?_
    refine r_getc (ki := 3) d_102_69 q_102_32 rfl sh_0 fx_0_3 (by omega) ?_
    refine r_getfv (ki := 2) d_102_72 q_102_176 rfl sh_5 hN.2.1 ?_
    refine r_iret d_102_75 rt_102 ?_
    refine ⟨_, rfl, ⟨fun _ => ⟨N.length, rfl, ?_, fun d' hd' => ?_⟩, fun q => absurd q (by decide), fun q => absurd q (by decide)⟩, hFX⟩
    · rw [nsC_pow hv.1 hG hNe]
      exact Int.le_refl _
    · rw [nsC_pow hv.1 hG hNe]
      exact pw_lt hv.1 hd'
  · refine r_lookup (t := 76) d_102_42 rfl rfl rfl ?_
    refine r_aload_n d_102_76 rfl (by omega) ?_
    refine r_getc (ki := 3) d_102_77 q_102_32 rfl sh_0 fx_0_3 (by omega) ?_
    refine r_callvi d_102_80 q_102_264 rfl rfl (c_smallestNumber hv.1 hc1.1 sh_5 hN hNs hNe) (fun x M2 hM2 => ?_)
    obtain ⟨hz, rfl⟩ := hM2
    refine r_iret d_102_83 rt_102 ?_
    exact ⟨_, rfl, ⟨fun q => absurd q (by decide), fun _ => hz, fun q => absurd q (by decide)⟩, hFX⟩
  · refine r_lookup (t := 84) d_102_42 rfl rfl rfl ?_
    refine r_aload_n d_102_84 rfl (by omega) ?_
    refine r_getc (ki := 3) d_102_85 q_102_32 rfl sh_0 fx_0_3 (by omega) ?_
    refine r_aload_n d_102_88 rfl (by omega) ?_
    refine r_getc (ki := 1) d_102_89 q_102_18 rfl sh_0 fx_0_1 (by omega) ?_
    refine r_iload_n d_102_92 rfl ?_
    refine r_aaloadc d_102_93 sh_2 (by decide) (by omega) (by omega) (fxM (by omega) (by omega)) (by omega) ?_
    refine r_callvr d_102_94 q_102_267 rfl rfl (c_spins hv.1 hc1.1 sh_5 (shM hk) (hc1.2 k hk) hN hNs) (fun M2 hM2 => ?_)
    obtain ⟨hF2, hT2⟩ := hM2
    refine r_aload_n d_102_97 rfl (by omega) ?_
    refine r_getc (ki := 3) d_102_98 q_102_32 rfl sh_0 fx_0_3 (by omega) ?_
    refine r_getfv (ki := 2) d_102_101 q_102_176 rfl sh_5 hT2.2.1 ?_
    refine r_iret d_102_104 rt_102 ?_
    refine ⟨_, rfl, ⟨fun q => absurd q (by decide), fun q => absurd q (by decide), fun _ => ?_⟩, hFX.trans hF2 (fun _ _ q => q) (fun _ _ q => WP_X q)⟩
    rw [nsT_len hv.1 h6 hG hNe]
