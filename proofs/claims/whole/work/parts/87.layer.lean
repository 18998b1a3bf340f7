/-! The class: layers. -/
def WLa (x _ : Int) : Prop := 172 ≤ x ∧ x ≤ 185
theorem c_layerOf {e : Nat} (he : e ≤ 1) {M : Mo} (hp : M 1 0 = pI e) {a : Int} (ha : shp S0 a = (0, 3)) {n : Nat} {A : Nat → Nat → Nat → Kf e} (hA : AA e M a n A) {i : Int} (hi : 0 ≤ i ∧ i < 2147483648) : CI 47 [(2, 171), (2, a), (0, i)] M (fun z M' => z = lay 7 n A i.toNat ∧ Fr WLa M M') := by
  have ha0 := shA_pos ha
  refine Cl.intro (L := [(2, 171), (2, a), (0, i), (9, 0)]) (rcv_v ow_47.2.1 sh_171) (by unfold entl; rw [mx_47]; rfl) (by rw [mx_47]; exact Nat.le_of_ble_eq_true rfl) rfl ?_
  refine r_aload_n d_47_0 rfl (by omega) ?_
  refine r_getc (ki := 1) d_47_1 q_47_24 rfl sh_171 fx_171_1 (by omega) ?_
  refine r_aload_n d_47_4 rfl (by omega) ?_
  refine r_callvr d_47_5 q_47_44 rfl rfl (c_copies M sh_173 ha) (fun M1 hM1 => ?_)
  obtain ⟨hF1, hz1, hr1⟩ := hM1
  have hA1 := hA.copy hz1 hr1
  refine r_iconst d_47_8 rfl ?_
  refine r_istore_n d_47_9 rfl (stl_4_3 rfl rfl) ?_
  refine dn_ind (R := fun k => ∀ (M1 : Mo) (n1 : Nat) (A1 : Nat → Nat → Nat → Kf e), Fr WLa M M1 → AA e M1 173 n1 A1 → (n1 : Int) + k ≤ 6 → k ≤ i → lay 7 n A i.toNat = lay (7 - k.toNat) n1 A1 (i.toNat - k.toNat) → Rn 47 10 [(2, 171), (2, a), (0, i), (0, k)] [] M1 _) (lo := 0) (n := 6) ?_ ?_ 0 (by omega) (by omega) M1 n A (hF1.mono (fun x y q => by unfold WA at q; unfold WLa; omega)) hA1 (by have := hA.n6; omega) hi.1 rfl
  · intro M1 n1 A1 hF h1 h2 h3 h4
    have hn0 : n1 = 0 := by omega
    subst hn0
    have e1 : lay 7 n A i.toNat = -1 := by
      rw [h4]
      show lay 1 0 A1 (i.toNat - 6) = -1
      unfold lay
      rw [if_pos rfl]
    rw [e1]
    refine r_iload_n d_47_10 rfl ?_
    refine r_bipush d_47_11 rfl ?_
    refine r_icmp_ge (t := 79) d_47_13 rfl (fun _ => ?_) (fun hz => absurd (by omega) hz)
    refine r_iconst d_47_79 rfl ?_
    refine r_iret d_47_80 rt_47 ?_
    exact ⟨_, rfl, rfl, hF⟩
  · intro k k1 k2 ih M1 n1 A1 hF h1 h2 h3 h4
    obtain ⟨j, rfl⟩ : ∃ j : Nat, k = j := ⟨k.toNat, by omega⟩
    rw [show ((j : Int)).toNat = j by omega, show 7 - j = (6 - j) + 1 by omega] at h4
    rw [show ((j : Int) + 1).toNat = j + 1 by omega] at ih
    have h5 : lay ((6 - j) + 1) n1 A1 (i.toNat - j) = if n1 = 0 then (-1 : Int) else if i.toNat - j = 0 then (((scL n1 A1).length : Nat) : Int) else lay (6 - j) (n1 - (scL n1 A1).length) (rst n1 A1 (spn (scL n1 A1))) (i.toNat - j - 1) := rfl
    rw [h5] at h4
    refine r_iload_n d_47_10 rfl ?_
    refine r_bipush d_47_11 rfl ?_
    refine r_icmp_ge (t := 79) d_47_13 rfl (fun hz => absurd hz (by omega)) (fun _ => ?_)
    refine r_aload_n d_47_16 rfl (by omega) ?_
    refine r_getc (ki := 1) d_47_17 q_47_24 rfl sh_171 fx_171_1 (by omega) ?_
    refine r_getfv (ki := 1) d_47_20 q_47_48 rfl sh_173 h1.1 ?_
    refine r_if_le (t := 79) d_47_23 rfl (fun hle => ?_) (fun hle => ?_)
    · rw [if_pos (by omega)] at h4
      rw [h4]
      refine r_iconst d_47_79 rfl ?_
      refine r_iret d_47_80 rt_47 ?_
      exact ⟨_, rfl, rfl, hF⟩
    · rw [if_neg (by omega)] at h4
      have hp1 : M1 1 0 = pI e := (hF 1 0 (by unfold WLa; omega)).trans hp
      refine r_aload_n d_47_26 rfl (by omega) ?_
      refine r_callvr d_47_27 q_47_52 rfl rfl (c_findsDimensions he hp1 h1) (fun M2 hM2 => ?_)
      obtain ⟨hF2, hd2⟩ := hM2
      have hA2 : AA e M2 173 n1 A1 := h1.fr hF2 (fun x y z1 z2 => by unfold WA at z1; unfold WP at z2; omega)
      have hp2 : M2 1 0 = pI e := (hF2 1 0 (by unfold WP; omega)).trans hp1
      refine r_aload_n d_47_30 rfl (by omega) ?_
      refine r_callvr d_47_31 q_47_55 rfl rfl (c_findsSocle he hp2 hA2 hd2) (fun M3 hM3 => ?_)
      obtain ⟨hF3, T, hT, hTs, hTe⟩ := hM3
      have hA3 : AA e M3 173 n1 A1 := hA2.fr hF3 (fun x y z1 z2 => by unfold WA at z1; unfold WSo WP at z2; omega)
      have hp3 : M3 1 0 = pI e := (hF3 1 0 (by unfold WSo WP; omega)).trans hp2
      have hFa : Fr WLa M M3 := (hF.trans hF2 (fun _ _ q => q) (fun x y q => by unfold WP at q; unfold WLa; omega)).trans hF3 (fun _ _ q => q) (fun x y q => by unfold WSo WP at q; unfold WLa; omega)
      have hse : spn T = spn (scL n1 A1) := funext (fun w => propext (hTe w))
      have hlen : T.length = (scL n1 A1).length := by
        rw [hT.dim, hse]
        exact (scT_good he _).2
      have hpos : 1 ≤ (scL n1 A1).length := scT_pos he h1.n6 (by omega)
      refine r_iload_n d_47_34 rfl ?_
      refine r_iload_n d_47_35 rfl ?_
      refine r_icmp_ne (t := 47) d_47_36 rfl (fun hne => ?_) (fun hne => ?_)
      · rw [if_neg (by omega)] at h4
        refine r_aload_n d_47_47 rfl (by omega) ?_
        refine r_getc (ki := 2) d_47_48 q_47_28 rfl sh_171 fx_171_2 (by omega) ?_
        refine r_aload_n d_47_51 rfl (by omega) ?_
        refine r_getc (ki := 1) d_47_52 q_47_24 rfl sh_171 fx_171_1 (by omega) ?_
        refine r_aload_n d_47_55 rfl (by omega) ?_
        refine r_getc (ki := 3) d_47_56 q_47_34 rfl sh_171 fx_171_3 (by omega) ?_
        refine r_callvr d_47_59 q_47_61 rfl rfl (c_divides he hp3 sh_175 sh_173 sh_177 (by omega) hA3 hT hTs) (fun M4 hM4 => ?_)
        obtain ⟨hF4, hA4⟩ := hM4
        rw [hse, hlen] at hA4
        refine r_aload_n d_47_62 rfl (by omega) ?_
        refine r_getc (ki := 1) d_47_63 q_47_24 rfl sh_171 fx_171_1 (by omega) ?_
        refine r_aload_n d_47_66 rfl (by omega) ?_
        refine r_getc (ki := 2) d_47_67 q_47_28 rfl sh_171 fx_171_2 (by omega) ?_
        refine r_callvr d_47_70 q_47_44 rfl rfl (c_copies M4 sh_173 sh_175) (fun M5 hM5 => ?_)
        obtain ⟨hF5, hz5, hr5⟩ := hM5
        have hA5 := hA4.copy hz5 hr5
        refine r_iinc d_47_73 rfl (by omega) (stl_4_3 rfl rfl) ?_
        refine r_goto (t := 10) d_47_76 rfl ?_
        refine ih M5 _ _ ((hFa.trans hF4 (fun _ _ q => q) (fun x y q => by unfold WA at q; unfold WLa; omega)).trans hF5 (fun _ _ q => q) (fun x y q => by unfold WA at q; unfold WLa; omega)) hA5 (by omega) (by omega) ?_
        rw [h4, show 7 - (j + 1) = 6 - j by omega, show i.toNat - (j + 1) = i.toNat - j - 1 by omega]
      · rw [if_pos (by omega)] at h4
        rw [h4]
        refine r_aload_n d_47_39 rfl (by omega) ?_
        refine r_getc (ki := 3) d_47_40 q_47_34 rfl sh_171 fx_171_3 (by omega) ?_
        refine r_getfv (ki := 2) d_47_43 q_47_58 rfl sh_177 hT.2.1 ?_
        refine r_iret d_47_46 rt_47 ?_
        exact ⟨_, rfl, by rw [hlen], hFa⟩
theorem c_layer_bad (M : Mo) (hb : cbC M) {k i : Int} (h : ¬ ((0 ≤ k ∧ k ≤ 3) ∧ 0 ≤ i)) : PJ 96 [(2, 0), (0, k), (0, i)] M (-2) (up2 M 0 11 (M 0 11 + 1)) := by
  have hbad := c_fails_b M hb
  refine Cl.intro (L := [(2, 0), (0, k), (0, i)]) (rcv_v ow_96.2.1 sh_0) (by unfold entl; rw [mx_96]; rfl) (by rw [mx_96]; exact Nat.le_of_ble_eq_true rfl) rfl ?_
  have key : Rn 96 12 [(2, 0), (0, k), (0, i)] [] M (fun v M' => v = some (0, -2) ∧ M' = up2 M 0 11 (M 0 11 + 1)) := by
    refine r_aload_n d_96_12 rfl (by omega) ?_
    refine r_bipush d_96_13 rfl ?_
    refine r_callvj d_96_15 q_96_91 rfl rfl hbad ?_
    refine r_iret d_96_18 rt_96 ?_
    exact ⟨rfl, rfl⟩
  refine r_aload_n d_96_0 rfl (by omega) ?_
  refine r_iload_n d_96_1 rfl ?_
  refine r_callvp d_96_2 q_96_106 rfl rfl (c_isModule M k) ?_
  by_cases hk : 0 ≤ k ∧ k ≤ 3
  · rw [if_pos hk]
    refine r_if_eq (t := 12) d_96_5 rfl (fun hz => absurd hz (by decide)) (fun _ => ?_)
    refine r_iload_n d_96_8 rfl ?_
    refine r_if_ge (t := 19) d_96_9 rfl (fun hz => absurd hz (fun q => h ⟨hk, q⟩)) (fun _ => ?_)
    exact key
  · rw [if_neg hk]
    refine r_if_eq (t := 12) d_96_5 rfl (fun _ => ?_) (fun hz => absurd rfl hz)
    exact key
theorem c_layer {M : Mo} {s : Sst} (hv : vs s) (hc : cuC M s) {k : Nat} {i : Int} (hk : k < 4) (hi : 0 ≤ i ∧ i < 2147483648) : CI 96 [(2, 0), (0, (k : Int)), (0, i)] M (fun z M' => z = lay 7 (s.2.1 k) (mdA s k) i.toNat ∧ Fr WX M M') := by
  refine Cl.intro (L := [(2, 0), (0, (k : Int)), (0, i)]) (rcv_v ow_96.2.1 sh_0) (by unfold entl; rw [mx_96]; rfl) (by rw [mx_96]; exact Nat.le_of_ble_eq_true rfl) rfl ?_
  refine r_aload_n d_96_0 rfl (by omega) ?_
  refine r_iload_n d_96_1 rfl ?_
  refine r_callvp d_96_2 q_96_106 rfl rfl (c_isModule M k) ?_
  rw [if_pos (by omega)]
  refine r_if_eq (t := 12) d_96_5 rfl (fun hz => absurd hz (by decide)) (fun _ => ?_)
  refine r_iload_n d_96_8 rfl ?_
  refine r_if_ge (t := 19) d_96_9 rfl (fun _ => ?_) (fun hz => absurd hi.1 hz)
  refine r_aload_n d_96_19 rfl (by omega) ?_
  refine r_getc (ki := 9) d_96_20 q_96_70 rfl sh_0 fx_0_9 (by omega) ?_
  refine r_aload_n d_96_23 rfl (by omega) ?_
  refine r_getc (ki := 1) d_96_24 q_96_18 rfl sh_0 fx_0_1 (by omega) ?_
  refine r_iload_n d_96_27 rfl ?_
  refine r_aaloadc d_96_28 sh_2 (by decide) (by omega) (by omega) (fxM (by omega) (by omega)) (by omega) ?_
  refine r_iload_n d_96_29 rfl ?_
  refine r_callvi d_96_30 q_96_227 rfl rfl (c_layerOf hv.1 hc.1 (shM hk) (hc.2 k hk) hi) (fun x M1 hM1 => ?_)
  obtain ⟨hz, hF⟩ := hM1
  refine r_iret d_96_33 rt_96 ?_
  exact ⟨_, rfl, hz, hF.mono (fun x y q => by unfold WLa at q; unfold WX; omega)⟩
