/-! The class: adds, times, over, parts, rests, size, at, moved, spun, row, back. -/
theorem c_adds_bad (M : Mo) (hb : cbC M) {k x y : Int} (h : ¬ ((0 ≤ k ∧ k ≤ 3) ∧ (0 ≤ x ∧ x ≤ 3) ∧ 0 ≤ y ∧ y ≤ 3)) : PJ 79 [(2, 0), (0, k), (0, x), (0, y)] M (-2) (up2 M 0 11 (M 0 11 + 1)) := by
  have hbad := c_fails_b M hb
  refine Cl.intro (L := [(2, 0), (0, k), (0, x), (0, y)]) (rcv_v ow_79.2.1 sh_0) (by unfold entl; rw [mx_79]; rfl) (by rw [mx_79]; exact Nat.le_of_ble_eq_true rfl) rfl ?_
  have key : Rn 79 24 [(2, 0), (0, k), (0, x), (0, y)] [] M (fun v M' => v = some (0, -2) ∧ M' = up2 M 0 11 (M 0 11 + 1)) := by
    refine r_aload_n d_79_24 rfl (by omega) ?_
    refine r_bipush d_79_25 rfl ?_
    refine r_callvj d_79_27 q_79_91 rfl rfl hbad ?_
    refine r_iret d_79_30 rt_79 ?_
    exact ⟨rfl, rfl⟩
  refine r_aload_n d_79_0 rfl (by omega) ?_
  refine r_iload_n d_79_1 rfl ?_
  refine r_callvp d_79_2 q_79_106 rfl rfl (c_isModule M k) ?_
  by_cases h1 : 0 ≤ k ∧ k ≤ 3
  · rw [if_pos h1]
    refine r_if_eq (t := 24) d_79_5 rfl (fun hz => absurd hz (by decide)) (fun _ => ?_)
    refine r_aload_n d_79_8 rfl (by omega) ?_
    refine r_iload_n d_79_9 rfl ?_
    refine r_callvp d_79_10 q_79_106 rfl rfl (c_isModule M x) ?_
    by_cases h2 : 0 ≤ x ∧ x ≤ 3
    · rw [if_pos h2]
      refine r_if_eq (t := 24) d_79_13 rfl (fun hz => absurd hz (by decide)) (fun _ => ?_)
      refine r_aload_n d_79_16 rfl (by omega) ?_
      refine r_iload_n d_79_17 rfl ?_
      refine r_callvp d_79_18 q_79_106 rfl rfl (c_isModule M y) ?_
      rw [if_neg (fun q => h ⟨h1, h2, q⟩)]
      refine r_if_ne (t := 31) d_79_21 rfl (fun hz => absurd hz (fun q => q rfl)) (fun _ => ?_)
      exact key
    · rw [if_neg h2]
      refine r_if_eq (t := 24) d_79_13 rfl (fun _ => ?_) (fun hz => absurd rfl hz)
      exact key
  · rw [if_neg h1]
    refine r_if_eq (t := 24) d_79_5 rfl (fun _ => ?_) (fun hz => absurd rfl hz)
    exact key
theorem c_adds_no (M : Mo) (hb : cbC M) {s : Sst} (hv : vs s) (hc : cuC M s) {k x y : Nat} (hk : k < 4) (hx : x < 4) (hy : y < 4) (h : ¬ nb s.1 (s.2.1 x + s.2.1 y)) : PJ 79 [(2, 0), (0, (k : Int)), (0, (x : Int)), (0, (y : Int))] M (-3) (up2 M 0 12 (M 0 12 + 1)) := by
  have hno := c_fails_n M hb
  unfold nb at h
  have h6x := vs_6 hv hx
  have h6y := vs_6 hv hy
  have hxA := hc.2 x hx
  have hyA := hc.2 y hy
  refine Cl.intro (L := [(2, 0), (0, (k : Int)), (0, (x : Int)), (0, (y : Int))]) (rcv_v ow_79.2.1 sh_0) (by unfold entl; rw [mx_79]; rfl) (by rw [mx_79]; exact Nat.le_of_ble_eq_true rfl) rfl ?_
  refine r_aload_n d_79_0 rfl (by omega) ?_
  refine r_iload_n d_79_1 rfl ?_
  refine r_callvp d_79_2 q_79_106 rfl rfl (c_isModule M k) ?_
  rw [if_pos (by omega)]
  refine r_if_eq (t := 24) d_79_5 rfl (fun hz => absurd hz (by decide)) (fun _ => ?_)
  refine r_aload_n d_79_8 rfl (by omega) ?_
  refine r_iload_n d_79_9 rfl ?_
  refine r_callvp d_79_10 q_79_106 rfl rfl (c_isModule M x) ?_
  rw [if_pos (by omega)]
  refine r_if_eq (t := 24) d_79_13 rfl (fun hz => absurd hz (by decide)) (fun _ => ?_)
  refine r_aload_n d_79_16 rfl (by omega) ?_
  refine r_iload_n d_79_17 rfl ?_
  refine r_callvp d_79_18 q_79_106 rfl rfl (c_isModule M y) ?_
  rw [if_pos (by omega)]
  refine r_if_ne (t := 31) d_79_21 rfl (fun _ => ?_) (fun hz => absurd (by decide) hz)
  refine r_aload_n d_79_31 rfl (by omega) ?_
  refine r_getc (ki := 1) d_79_32 q_79_18 rfl sh_0 fx_0_1 (by omega) ?_
  refine r_iload_n d_79_35 rfl ?_
  refine r_aaloadc d_79_36 sh_2 (by decide) (by omega) (by omega) (fxM (by omega) (by omega)) (by omega) ?_
  refine r_getfv (ki := 1) d_79_37 q_79_149 rfl (shM hx) hxA.1 ?_
  refine r_aload_n d_79_40 rfl (by omega) ?_
  refine r_getc (ki := 1) d_79_41 q_79_18 rfl sh_0 fx_0_1 (by omega) ?_
  refine r_iload_n d_79_44 rfl ?_
  refine r_aaloadc d_79_45 sh_2 (by decide) (by omega) (by omega) (fxM (by omega) (by omega)) (by omega) ?_
  refine r_getfv (ki := 1) d_79_46 q_79_149 rfl (shM hy) hyA.1 ?_
  refine r_iadd d_79_49 (by omega) ?_
  refine r_aload_n d_79_50 rfl (by omega) ?_
  refine r_getc (ki := 0) d_79_51 q_79_10 rfl sh_0 fx_0_0 (by omega) ?_
  refine r_callvp d_79_54 q_79_110 rfl rfl (c_lim hv hc) ?_
  refine r_icmp_le (t := 67) d_79_57 rfl (fun hz => absurd hz (by omega)) (fun _ => ?_)
  refine r_aload_n d_79_60 rfl (by omega) ?_
  refine r_bipush d_79_61 rfl ?_
  refine r_callvj d_79_63 q_79_91 rfl rfl hno ?_
  refine r_iret d_79_66 rt_79 ?_
  exact ⟨rfl, rfl⟩
theorem c_adds {M : Mo} {s : Sst} {H : List Sst} (hv : vs s) (hc : cuC M s) (hH : hiC M H) {k x y : Nat} (hk : k < 4) (hx : x < 4) (hy : y < 4) (h : nb s.1 (s.2.1 x + s.2.1 y)) : CI 79 [(2, 0), (0, (k : Int)), (0, (x : Int)), (0, (y : Int))] M (fun z M' => z = ((s.2.1 x + s.2.1 y : Nat) : Int) ∧ chC M M' (setm s k (s.2.1 x + s.2.1 y) (addE (s.2.1 x) (s.2.2 x) (s.2.2 y))) (psh H s)) := by
  have hnb : s.2.1 x + s.2.1 y + s.1 ≤ 6 := h
  have h6x := vs_6 hv hx
  have h6y := vs_6 hv hy
  have hxA := hc.2 x hx
  have hyA := hc.2 y hy
  refine Cl.intro (L := [(2, 0), (0, (k : Int)), (0, (x : Int)), (0, (y : Int))]) (rcv_v ow_79.2.1 sh_0) (by unfold entl; rw [mx_79]; rfl) (by rw [mx_79]; exact Nat.le_of_ble_eq_true rfl) rfl ?_
  refine r_aload_n d_79_0 rfl (by omega) ?_
  refine r_iload_n d_79_1 rfl ?_
  refine r_callvp d_79_2 q_79_106 rfl rfl (c_isModule M k) ?_
  rw [if_pos (by omega)]
  refine r_if_eq (t := 24) d_79_5 rfl (fun hz => absurd hz (by decide)) (fun _ => ?_)
  refine r_aload_n d_79_8 rfl (by omega) ?_
  refine r_iload_n d_79_9 rfl ?_
  refine r_callvp d_79_10 q_79_106 rfl rfl (c_isModule M x) ?_
  rw [if_pos (by omega)]
  refine r_if_eq (t := 24) d_79_13 rfl (fun hz => absurd hz (by decide)) (fun _ => ?_)
  refine r_aload_n d_79_16 rfl (by omega) ?_
  refine r_iload_n d_79_17 rfl ?_
  refine r_callvp d_79_18 q_79_106 rfl rfl (c_isModule M y) ?_
  rw [if_pos (by omega)]
  refine r_if_ne (t := 31) d_79_21 rfl (fun _ => ?_) (fun hz => absurd (by decide) hz)
  refine r_aload_n d_79_31 rfl (by omega) ?_
  refine r_getc (ki := 1) d_79_32 q_79_18 rfl sh_0 fx_0_1 (by omega) ?_
  refine r_iload_n d_79_35 rfl ?_
  refine r_aaloadc d_79_36 sh_2 (by decide) (by omega) (by omega) (fxM (by omega) (by omega)) (by omega) ?_
  refine r_getfv (ki := 1) d_79_37 q_79_149 rfl (shM hx) hxA.1 ?_
  refine r_aload_n d_79_40 rfl (by omega) ?_
  refine r_getc (ki := 1) d_79_41 q_79_18 rfl sh_0 fx_0_1 (by omega) ?_
  refine r_iload_n d_79_44 rfl ?_
  refine r_aaloadc d_79_45 sh_2 (by decide) (by omega) (by omega) (fxM (by omega) (by omega)) (by omega) ?_
  refine r_getfv (ki := 1) d_79_46 q_79_149 rfl (shM hy) hyA.1 ?_
  refine r_iadd d_79_49 (by omega) ?_
  refine r_aload_n d_79_50 rfl (by omega) ?_
  refine r_getc (ki := 0) d_79_51 q_79_10 rfl sh_0 fx_0_0 (by omega) ?_
  refine r_callvp d_79_54 q_79_110 rfl rfl (c_lim hv hc) ?_
  refine r_icmp_le (t := 67) d_79_57 rfl (fun _ => ?_) (fun hz => absurd (by omega) hz)
  refine r_aload_n d_79_67 rfl (by omega) ?_
  refine r_getc (ki := 2) d_79_68 q_79_25 rfl sh_0 fx_0_2 (by omega) ?_
  refine r_aload_n d_79_71 rfl (by omega) ?_
  refine r_getc (ki := 1) d_79_72 q_79_18 rfl sh_0 fx_0_1 (by omega) ?_
  refine r_iload_n d_79_75 rfl ?_
  refine r_aaloadc d_79_76 sh_2 (by decide) (by omega) (by omega) (fxM (by omega) (by omega)) (by omega) ?_
  refine r_aload_n d_79_77 rfl (by omega) ?_
  refine r_getc (ki := 1) d_79_78 q_79_18 rfl sh_0 fx_0_1 (by omega) ?_
  refine r_iload_n d_79_81 rfl ?_
  refine r_aaloadc d_79_82 sh_2 (by decide) (by omega) (by omega) (fxM (by omega) (by omega)) (by omega) ?_
  refine r_callvr d_79_83 q_79_152 rfl rfl (c_joins hv.1 sh_3 (shM hx) (shM hy) (by omega) (by omega) hxA hyA h) (fun M1 hM1 => ?_)
  obtain ⟨hF1, hA1⟩ := hM1
  have hc1 : cuC M1 s := hc.fr hF1 (fun x y q => by unfold WA at q; omega)
  have hH1 : hiC M1 H := hH.fr hF1 (fun x y q => by unfold WA at q; omega)
  have hA2 : AA s.1 M1 3 (s.2.1 x + s.2.1 y) (fun g i j => kI s.1 (addE (s.2.1 x) (s.2.2 x) (s.2.2 y) g i j)) := hA1.congr (fun g i j _ _ _ => by
    unfold addK addE mdA
    by_cases q : i < s.2.1 x ∧ j < s.2.1 x
    · rw [if_pos q, if_pos q]
    · rw [if_neg q, if_neg q]
      by_cases q2 : s.2.1 x ≤ i ∧ s.2.1 x ≤ j
      · rw [if_pos q2, if_pos q2]
      · rw [if_neg q2, if_neg q2, kI_0])
  refine r_aload_n d_79_86 rfl (by omega) ?_
  refine r_iload_n d_79_87 rfl ?_
  refine r_callvi d_79_88 q_79_156 rfl rfl (c_changesTo hv hc1 hH1 hk hA2) (fun x M2 hM2 => ?_)
  obtain ⟨rfl, hF2, hc2, hH2⟩ := hM2
  refine r_iret d_79_91 rt_79 ?_
  refine ⟨_, rfl, rfl, fun a b hn => ?_, hc2, hH2⟩
  rw [hF2 a b hn]
  exact hF1 a b (fun q => hn (by unfold WA at q; unfold WZ WX; omega))
theorem c_times_bad (M : Mo) (hb : cbC M) {k x y : Int} (h : ¬ ((0 ≤ k ∧ k ≤ 3) ∧ (0 ≤ x ∧ x ≤ 3) ∧ 0 ≤ y ∧ y ≤ 3)) : PJ 80 [(2, 0), (0, k), (0, x), (0, y)] M (-2) (up2 M 0 11 (M 0 11 + 1)) := by
  have hbad := c_fails_b M hb
  refine Cl.intro (L := [(2, 0), (0, k), (0, x), (0, y)]) (rcv_v ow_80.2.1 sh_0) (by unfold entl; rw [mx_80]; rfl) (by rw [mx_80]; exact Nat.le_of_ble_eq_true rfl) rfl ?_
  have key : Rn 80 24 [(2, 0), (0, k), (0, x), (0, y)] [] M (fun v M' => v = some (0, -2) ∧ M' = up2 M 0 11 (M 0 11 + 1)) := by
    refine r_aload_n d_80_24 rfl (by omega) ?_
    refine r_bipush d_80_25 rfl ?_
    refine r_callvj d_80_27 q_80_91 rfl rfl hbad ?_
    refine r_iret d_80_30 rt_80 ?_
    exact ⟨rfl, rfl⟩
  refine r_aload_n d_80_0 rfl (by omega) ?_
  refine r_iload_n d_80_1 rfl ?_
  refine r_callvp d_80_2 q_80_106 rfl rfl (c_isModule M k) ?_
  by_cases h1 : 0 ≤ k ∧ k ≤ 3
  · rw [if_pos h1]
    refine r_if_eq (t := 24) d_80_5 rfl (fun hz => absurd hz (by decide)) (fun _ => ?_)
    refine r_aload_n d_80_8 rfl (by omega) ?_
    refine r_iload_n d_80_9 rfl ?_
    refine r_callvp d_80_10 q_80_106 rfl rfl (c_isModule M x) ?_
    by_cases h2 : 0 ≤ x ∧ x ≤ 3
    · rw [if_pos h2]
      refine r_if_eq (t := 24) d_80_13 rfl (fun hz => absurd hz (by decide)) (fun _ => ?_)
      refine r_aload_n d_80_16 rfl (by omega) ?_
      refine r_iload_n d_80_17 rfl ?_
      refine r_callvp d_80_18 q_80_106 rfl rfl (c_isModule M y) ?_
      rw [if_neg (fun q => h ⟨h1, h2, q⟩)]
      refine r_if_ne (t := 31) d_80_21 rfl (fun hz => absurd hz (fun q => q rfl)) (fun _ => ?_)
      exact key
    · rw [if_neg h2]
      refine r_if_eq (t := 24) d_80_13 rfl (fun _ => ?_) (fun hz => absurd rfl hz)
      exact key
  · rw [if_neg h1]
    refine r_if_eq (t := 24) d_80_5 rfl (fun _ => ?_) (fun hz => absurd rfl hz)
    exact key
theorem c_times_no (M : Mo) (hb : cbC M) {s : Sst} (hv : vs s) (hc : cuC M s) {k x y : Nat} (hk : k < 4) (hx : x < 4) (hy : y < 4) (h : ¬ nb s.1 (s.2.1 x * s.2.1 y)) : PJ 80 [(2, 0), (0, (k : Int)), (0, (x : Int)), (0, (y : Int))] M (-3) (up2 M 0 12 (M 0 12 + 1)) := by
  have hno := c_fails_n M hb
  unfold nb at h
  have h6x := vs_6 hv hx
  have h6y := vs_6 hv hy
  have hmul : s.2.1 x * s.2.1 y ≤ 6 * 6 := Nat.mul_le_mul h6x h6y
  have emul : ((s.2.1 x * s.2.1 y : Nat) : Int) = (s.2.1 x : Int) * s.2.1 y := Int.natCast_mul _ _
  have hxA := hc.2 x hx
  have hyA := hc.2 y hy
  refine Cl.intro (L := [(2, 0), (0, (k : Int)), (0, (x : Int)), (0, (y : Int))]) (rcv_v ow_80.2.1 sh_0) (by unfold entl; rw [mx_80]; rfl) (by rw [mx_80]; exact Nat.le_of_ble_eq_true rfl) rfl ?_
  refine r_aload_n d_80_0 rfl (by omega) ?_
  refine r_iload_n d_80_1 rfl ?_
  refine r_callvp d_80_2 q_80_106 rfl rfl (c_isModule M k) ?_
  rw [if_pos (by omega)]
  refine r_if_eq (t := 24) d_80_5 rfl (fun hz => absurd hz (by decide)) (fun _ => ?_)
  refine r_aload_n d_80_8 rfl (by omega) ?_
  refine r_iload_n d_80_9 rfl ?_
  refine r_callvp d_80_10 q_80_106 rfl rfl (c_isModule M x) ?_
  rw [if_pos (by omega)]
  refine r_if_eq (t := 24) d_80_13 rfl (fun hz => absurd hz (by decide)) (fun _ => ?_)
  refine r_aload_n d_80_16 rfl (by omega) ?_
  refine r_iload_n d_80_17 rfl ?_
  refine r_callvp d_80_18 q_80_106 rfl rfl (c_isModule M y) ?_
  rw [if_pos (by omega)]
  refine r_if_ne (t := 31) d_80_21 rfl (fun _ => ?_) (fun hz => absurd (by decide) hz)
  refine r_aload_n d_80_31 rfl (by omega) ?_
  refine r_getc (ki := 1) d_80_32 q_80_18 rfl sh_0 fx_0_1 (by omega) ?_
  refine r_iload_n d_80_35 rfl ?_
  refine r_aaloadc d_80_36 sh_2 (by decide) (by omega) (by omega) (fxM (by omega) (by omega)) (by omega) ?_
  refine r_getfv (ki := 1) d_80_37 q_80_149 rfl (shM hx) hxA.1 ?_
  refine r_aload_n d_80_40 rfl (by omega) ?_
  refine r_getc (ki := 1) d_80_41 q_80_18 rfl sh_0 fx_0_1 (by omega) ?_
  refine r_iload_n d_80_44 rfl ?_
  refine r_aaloadc d_80_45 sh_2 (by decide) (by omega) (by omega) (fxM (by omega) (by omega)) (by omega) ?_
  refine r_getfv (ki := 1) d_80_46 q_80_149 rfl (shM hy) hyA.1 ?_
  refine r_imul d_80_49 (by omega) ?_
  refine r_aload_n d_80_50 rfl (by omega) ?_
  refine r_getc (ki := 0) d_80_51 q_80_10 rfl sh_0 fx_0_0 (by omega) ?_
  refine r_callvp d_80_54 q_80_110 rfl rfl (c_lim hv hc) ?_
  refine r_icmp_le (t := 67) d_80_57 rfl (fun hz => absurd hz (by omega)) (fun _ => ?_)
  refine r_aload_n d_80_60 rfl (by omega) ?_
  refine r_bipush d_80_61 rfl ?_
  refine r_callvj d_80_63 q_80_91 rfl rfl hno ?_
  refine r_iret d_80_66 rt_80 ?_
  exact ⟨rfl, rfl⟩
theorem c_times {M : Mo} {s : Sst} {H : List Sst} (hv : vs s) (hc : cuC M s) (hH : hiC M H) {k x y : Nat} (hk : k < 4) (hx : x < 4) (hy : y < 4) (h : nb s.1 (s.2.1 x * s.2.1 y)) : CI 80 [(2, 0), (0, (k : Int)), (0, (x : Int)), (0, (y : Int))] M (fun z M' => z = ((s.2.1 x * s.2.1 y : Nat) : Int) ∧ chC M M' (setm s k (s.2.1 x * s.2.1 y) (mulE (pI s.1) (s.2.1 y) (s.2.2 x) (s.2.2 y))) (psh H s)) := by
  have hnb : s.2.1 x * s.2.1 y + s.1 ≤ 6 := h
  have h6x := vs_6 hv hx
  have h6y := vs_6 hv hy
  have hmul : s.2.1 x * s.2.1 y ≤ 6 * 6 := Nat.mul_le_mul h6x h6y
  have emul : ((s.2.1 x * s.2.1 y : Nat) : Int) = (s.2.1 x : Int) * s.2.1 y := Int.natCast_mul _ _
  have hxA := hc.2 x hx
  have hyA := hc.2 y hy
  refine Cl.intro (L := [(2, 0), (0, (k : Int)), (0, (x : Int)), (0, (y : Int))]) (rcv_v ow_80.2.1 sh_0) (by unfold entl; rw [mx_80]; rfl) (by rw [mx_80]; exact Nat.le_of_ble_eq_true rfl) rfl ?_
  refine r_aload_n d_80_0 rfl (by omega) ?_
  refine r_iload_n d_80_1 rfl ?_
  refine r_callvp d_80_2 q_80_106 rfl rfl (c_isModule M k) ?_
  rw [if_pos (by omega)]
  refine r_if_eq (t := 24) d_80_5 rfl (fun hz => absurd hz (by decide)) (fun _ => ?_)
  refine r_aload_n d_80_8 rfl (by omega) ?_
  refine r_iload_n d_80_9 rfl ?_
  refine r_callvp d_80_10 q_80_106 rfl rfl (c_isModule M x) ?_
  rw [if_pos (by omega)]
  refine r_if_eq (t := 24) d_80_13 rfl (fun hz => absurd hz (by decide)) (fun _ => ?_)
  refine r_aload_n d_80_16 rfl (by omega) ?_
  refine r_iload_n d_80_17 rfl ?_
  refine r_callvp d_80_18 q_80_106 rfl rfl (c_isModule M y) ?_
  rw [if_pos (by omega)]
  refine r_if_ne (t := 31) d_80_21 rfl (fun _ => ?_) (fun hz => absurd (by decide) hz)
  refine r_aload_n d_80_31 rfl (by omega) ?_
  refine r_getc (ki := 1) d_80_32 q_80_18 rfl sh_0 fx_0_1 (by omega) ?_
  refine r_iload_n d_80_35 rfl ?_
  refine r_aaloadc d_80_36 sh_2 (by decide) (by omega) (by omega) (fxM (by omega) (by omega)) (by omega) ?_
  refine r_getfv (ki := 1) d_80_37 q_80_149 rfl (shM hx) hxA.1 ?_
  refine r_aload_n d_80_40 rfl (by omega) ?_
  refine r_getc (ki := 1) d_80_41 q_80_18 rfl sh_0 fx_0_1 (by omega) ?_
  refine r_iload_n d_80_44 rfl ?_
  refine r_aaloadc d_80_45 sh_2 (by decide) (by omega) (by omega) (fxM (by omega) (by omega)) (by omega) ?_
  refine r_getfv (ki := 1) d_80_46 q_80_149 rfl (shM hy) hyA.1 ?_
  refine r_imul d_80_49 (by omega) ?_
  refine r_aload_n d_80_50 rfl (by omega) ?_
  refine r_getc (ki := 0) d_80_51 q_80_10 rfl sh_0 fx_0_0 (by omega) ?_
  refine r_callvp d_80_54 q_80_110 rfl rfl (c_lim hv hc) ?_
  refine r_icmp_le (t := 67) d_80_57 rfl (fun _ => ?_) (fun hz => absurd (by omega) hz)
  refine r_aload_n d_80_67 rfl (by omega) ?_
  refine r_getc (ki := 2) d_80_68 q_80_25 rfl sh_0 fx_0_2 (by omega) ?_
  refine r_aload_n d_80_71 rfl (by omega) ?_
  refine r_getc (ki := 1) d_80_72 q_80_18 rfl sh_0 fx_0_1 (by omega) ?_
  refine r_iload_n d_80_75 rfl ?_
  refine r_aaloadc d_80_76 sh_2 (by decide) (by omega) (by omega) (fxM (by omega) (by omega)) (by omega) ?_
  refine r_aload_n d_80_77 rfl (by omega) ?_
  refine r_getc (ki := 1) d_80_78 q_80_18 rfl sh_0 fx_0_1 (by omega) ?_
  refine r_iload_n d_80_81 rfl ?_
  refine r_aaloadc d_80_82 sh_2 (by decide) (by omega) (by omega) (fxM (by omega) (by omega)) (by omega) ?_
  refine r_callvr d_80_83 q_80_159 rfl rfl (c_multiplies hv.1 hc.1 sh_3 (shM hx) (shM hy) (by omega) (by omega) hxA hyA h (hv.2 y hy).1) (fun M1 hM1 => ?_)
  obtain ⟨hF1, hA1⟩ := hM1
  have hc1 : cuC M1 s := hc.fr hF1 (fun x y q => by unfold WA at q; omega)
  have hH1 : hiC M1 H := hH.fr hF1 (fun x y q => by unfold WA at q; omega)
  have hA2 : AA s.1 M1 3 (s.2.1 x * s.2.1 y) (fun g i j => kI s.1 (mulE (pI s.1) (s.2.1 y) (s.2.2 x) (s.2.2 y) g i j)) := hA1.congr (fun g i j _ _ _ => by
    unfold mulK mulE mdA
    rw [kI_mod, kI_mul])
  refine r_aload_n d_80_86 rfl (by omega) ?_
  refine r_iload_n d_80_87 rfl ?_
  refine r_callvi d_80_88 q_80_156 rfl rfl (c_changesTo hv hc1 hH1 hk hA2) (fun x M2 hM2 => ?_)
  obtain ⟨rfl, hF2, hc2, hH2⟩ := hM2
  refine r_iret d_80_91 rt_80 ?_
  refine ⟨_, rfl, rfl, fun a b hn => ?_, hc2, hH2⟩
  rw [hF2 a b hn]
  exact hF1 a b (fun q => hn (by unfold WA at q; unfold WZ WX; omega))
theorem c_over_bad (M : Mo) (hb : cbC M) {k x : Int} (h : ¬ ((0 ≤ k ∧ k ≤ 3) ∧ 0 ≤ x ∧ x ≤ 3)) : PJ 81 [(2, 0), (0, k), (0, x)] M (-2) (up2 M 0 11 (M 0 11 + 1)) := by
  have hbad := c_fails_b M hb
  refine Cl.intro (L := [(2, 0), (0, k), (0, x)]) (rcv_v ow_81.2.1 sh_0) (by unfold entl; rw [mx_81]; rfl) (by rw [mx_81]; exact Nat.le_of_ble_eq_true rfl) rfl ?_
  have key : Rn 81 16 [(2, 0), (0, k), (0, x)] [] M (fun v M' => v = some (0, -2) ∧ M' = up2 M 0 11 (M 0 11 + 1)) := by
    refine r_aload_n d_81_16 rfl (by omega) ?_
    refine r_bipush d_81_17 rfl ?_
    refine r_callvj d_81_19 q_81_91 rfl rfl hbad ?_
    refine r_iret d_81_22 rt_81 ?_
    exact ⟨rfl, rfl⟩
  refine r_aload_n d_81_0 rfl (by omega) ?_
  refine r_iload_n d_81_1 rfl ?_
  refine r_callvp d_81_2 q_81_106 rfl rfl (c_isModule M k) ?_
  by_cases h1 : 0 ≤ k ∧ k ≤ 3
  · rw [if_pos h1]
    refine r_if_eq (t := 16) d_81_5 rfl (fun hz => absurd hz (by decide)) (fun _ => ?_)
    refine r_aload_n d_81_8 rfl (by omega) ?_
    refine r_iload_n d_81_9 rfl ?_
    refine r_callvp d_81_10 q_81_106 rfl rfl (c_isModule M x) ?_
    rw [if_neg (fun q => h ⟨h1, q⟩)]
    refine r_if_ne (t := 23) d_81_13 rfl (fun hz => absurd hz (fun q => q rfl)) (fun _ => ?_)
    exact key
  · rw [if_neg h1]
    refine r_if_eq (t := 16) d_81_5 rfl (fun _ => ?_) (fun hz => absurd rfl hz)
    exact key
theorem c_over {M : Mo} {s : Sst} {H : List Sst} (hv : vs s) (hc : cuC M s) (hH : hiC M H) {k x : Nat} (hk : k < 4) (hx : x < 4) : CI 81 [(2, 0), (0, (k : Int)), (0, (x : Int))] M (fun z M' => z = s.2.1 x ∧ chC M M' (setm s k (s.2.1 x) (fun g i j => s.2.2 x g j i)) (psh H s)) := by
  have hxA := hc.2 x hx
  refine Cl.intro (L := [(2, 0), (0, (k : Int)), (0, (x : Int))]) (rcv_v ow_81.2.1 sh_0) (by unfold entl; rw [mx_81]; rfl) (by rw [mx_81]; exact Nat.le_of_ble_eq_true rfl) rfl ?_
  refine r_aload_n d_81_0 rfl (by omega) ?_
  refine r_iload_n d_81_1 rfl ?_
  refine r_callvp d_81_2 q_81_106 rfl rfl (c_isModule M k) ?_
  rw [if_pos (by omega)]
  refine r_if_eq (t := 16) d_81_5 rfl (fun hz => absurd hz (by decide)) (fun _ => ?_)
  refine r_aload_n d_81_8 rfl (by omega) ?_
  refine r_iload_n d_81_9 rfl ?_
  refine r_callvp d_81_10 q_81_106 rfl rfl (c_isModule M x) ?_
  rw [if_pos (by omega)]
  refine r_if_ne (t := 23) d_81_13 rfl (fun _ => ?_) (fun hz => absurd (by decide) hz)
  refine r_aload_n d_81_23 rfl (by omega) ?_
  refine r_getc (ki := 2) d_81_24 q_81_25 rfl sh_0 fx_0_2 (by omega) ?_
  refine r_aload_n d_81_27 rfl (by omega) ?_
  refine r_getc (ki := 1) d_81_28 q_81_18 rfl sh_0 fx_0_1 (by omega) ?_
  refine r_iload_n d_81_31 rfl ?_
  refine r_aaloadc d_81_32 sh_2 (by decide) (by omega) (by omega) (fxM (by omega) (by omega)) (by omega) ?_
  refine r_callvr d_81_33 q_81_162 rfl rfl (c_transposes hv.1 sh_3 (shM hx) (by omega) hxA) (fun M1 hM1 => ?_)
  obtain ⟨hF1, hA1⟩ := hM1
  have hc1 : cuC M1 s := hc.fr hF1 (fun x y q => by unfold WA at q; omega)
  have hH1 : hiC M1 H := hH.fr hF1 (fun x y q => by unfold WA at q; omega)
  refine r_aload_n d_81_36 rfl (by omega) ?_
  refine r_iload_n d_81_37 rfl ?_
  refine r_callvi d_81_38 q_81_156 rfl rfl (c_changesTo hv hc1 hH1 hk (E := fun g i j => s.2.2 x g j i) hA1) (fun x M2 hM2 => ?_)
  obtain ⟨rfl, hF2, hc2, hH2⟩ := hM2
  refine r_iret d_81_41 rt_81 ?_
  refine ⟨_, rfl, rfl, fun a b hn => ?_, hc2, hH2⟩
  rw [hF2 a b hn]
  exact hF1 a b (fun q => hn (by unfold WA at q; unfold WZ WX; omega))
theorem c_cspins {M : Mo} {s : Sst} (hv : vs s) (hc : cuC M s) {k : Nat} {v : Int} (hk : k < 4) (h0 : 0 ≤ v) (h1 : v < pI s.1 ^ s.2.1 k) : CV 116 [(2, 0), (0, (k : Int)), (0, v)] M (fun M' => Fr (WP 5) M M' ∧ ST M' 5 (s.2.1 k) (spT s k v) ∧ ∀ x ∈ spT s k v, sup (s.2.1 k) x) := by
  have hA := hc.2 k hk
  have h6 := vs_6 hv hk
  have hpw := pw_6 (pI23 hv.1) h6
  refine Cl.intro (L := [(2, 0), (0, (k : Int)), (0, v), (9, 0)]) (rcv_v ow_116.2.1 sh_0) (by unfold entl; rw [mx_116]; rfl) (by rw [mx_116]; exact Nat.le_of_ble_eq_true rfl) rfl ?_
  refine r_aload_n d_116_0 rfl (by omega) ?_
  refine r_getc (ki := 1) d_116_1 q_116_18 rfl sh_0 fx_0_1 (by omega) ?_
  refine r_iload_n d_116_4 rfl ?_
  refine r_aaloadc d_116_5 sh_2 (by decide) (by omega) (by omega) (fxM (by omega) (by omega)) (by omega) ?_
  refine r_getfv (ki := 1) d_116_6 q_116_149 rfl (shM hk) hA.1 ?_
  refine r_istore_n d_116_9 rfl (stl_4_3 rfl rfl) ?_
  refine r_aload_n d_116_10 rfl (by omega) ?_
  refine r_getc (ki := 3) d_116_11 q_116_32 rfl sh_0 fx_0_3 (by omega) ?_
  refine r_iload_n d_116_14 rfl ?_
  refine r_callvr d_116_15 q_116_305 rfl rfl (c_sempties (e := s.1) M sh_5 h6) (fun M1 hM1 => ?_)
  obtain ⟨hF1, hT1⟩ := hM1
  have hp1 := WP_p sh_5 hF1 hc.1
  refine r_aload_n d_116_18 rfl (by omega) ?_
  refine r_getc (ki := 3) d_116_19 q_116_32 rfl sh_0 fx_0_3 (by omega) ?_
  refine r_aload_n d_116_22 rfl (by omega) ?_
  refine r_getc (ki := 0) d_116_23 q_116_10 rfl sh_0 fx_0_0 (by omega) ?_
  refine r_iload_n d_116_26 rfl ?_
  refine r_iload_n d_116_27 rfl ?_
  refine r_callvl d_116_28 q_116_185 rfl rfl (c_vector hv.1 M1 hp1 (by omega) h6) ?_
  refine r_callvr d_116_31 q_116_306 rfl rfl (c_takesP hv.1 hp1 sh_5 hT1 (fun x hx => absurd hx List.not_mem_nil) toV_sup) (fun M2 hM2 => ?_)
  obtain ⟨hF2, hT2⟩ := hM2
  have hp2 := WP_p sh_5 hF2 hp1
  have hA2 := WP_A sh_5 (shM hk) hF2 (WP_A sh_5 (shM hk) hF1 hA)
  have hs2 : ∀ x ∈ addv [] (toV s.1 (s.2.1 k) v), sup (s.2.1 k) x := addv_sup (fun x hx => absurd hx List.not_mem_nil) toV_sup
  refine r_aload_n d_116_34 rfl (by omega) ?_
  refine r_getc (ki := 3) d_116_35 q_116_32 rfl sh_0 fx_0_3 (by omega) ?_
  refine r_aload_n d_116_38 rfl (by omega) ?_
  refine r_getc (ki := 1) d_116_39 q_116_18 rfl sh_0 fx_0_1 (by omega) ?_
  refine r_iload_n d_116_42 rfl ?_
  refine r_aaloadc d_116_43 sh_2 (by decide) (by omega) (by omega) (fxM (by omega) (by omega)) (by omega) ?_
  refine r_callvr d_116_44 q_116_267 rfl rfl (c_spins hv.1 hp2 sh_5 (shM hk) hA2 hT2 hs2) (fun M3 hM3 => ?_)
  obtain ⟨hF3, hT3⟩ := hM3
  refine r_vret d_116_47 rt_116 ?_
  have e1 : spT s k v = sps (s.2.1 k) (mdA s k) 0 20 (addv [] (toV s.1 (s.2.1 k) v)) 0 := spin_nil
  rw [← e1] at hT3
  refine ⟨rfl, (hF1.trans hF2 (fun _ _ q => q) (fun _ _ q => q)).trans hF3 (fun _ _ q => q) (fun _ _ q => q), hT3, ?_⟩
  have hg : Good (s.2.1 k) (spT s k v) := spin_good hv.1 Good.nil toV_sup
  exact hg.1
theorem WP_c {M M1 : Mo} {s : Sst} (hF : Fr (WP 5) M M1) (hc : cuC M s) : cuC M1 s := hc.fr hF (fun x y q => by unfold WP at q; omega)
theorem WP_h {M M1 : Mo} {H : List Sst} (hF : Fr (WP 5) M M1) (hc : hiC M H) : hiC M1 H := hc.fr hF (fun x y q => by unfold WP at q; omega)
theorem WP_X {x y : Int} (q : WP 5 x y) : WX x y := by unfold WP at q; unfold WX; omega
theorem c_parts_bad (M : Mo) (hb : cbC M) {s : Sst} (hv : vs s) (hc : cuC M s) {k x v : Int} (h : ¬ ((0 ≤ k ∧ k ≤ 3) ∧ okV s x v)) : PJ 82 [(2, 0), (0, k), (0, x), (0, v)] M (-2) (up2 M 0 11 (M 0 11 + 1)) := by
  have hbad := c_fails_b M hb
  refine Cl.intro (L := [(2, 0), (0, k), (0, x), (0, v)]) (rcv_v ow_82.2.1 sh_0) (by unfold entl; rw [mx_82]; rfl) (by rw [mx_82]; exact Nat.le_of_ble_eq_true rfl) rfl ?_
  have key : Rn 82 17 [(2, 0), (0, k), (0, x), (0, v)] [] M (fun v M' => v = some (0, -2) ∧ M' = up2 M 0 11 (M 0 11 + 1)) := by
    refine r_aload_n d_82_17 rfl (by omega) ?_
    refine r_bipush d_82_18 rfl ?_
    refine r_callvj d_82_20 q_82_91 rfl rfl hbad ?_
    refine r_iret d_82_23 rt_82 ?_
    exact ⟨rfl, rfl⟩
  refine r_aload_n d_82_0 rfl (by omega) ?_
  refine r_iload_n d_82_1 rfl ?_
  refine r_callvp d_82_2 q_82_106 rfl rfl (c_isModule M k) ?_
  by_cases h1 : 0 ≤ k ∧ k ≤ 3
  · rw [if_pos h1]
    refine r_if_eq (t := 17) d_82_5 rfl (fun hz => absurd hz (by decide)) (fun _ => ?_)
    refine r_aload_n d_82_8 rfl (by omega) ?_
    refine r_iload_n d_82_9 rfl ?_
    refine r_iload_n d_82_10 rfl ?_
    refine r_callvp d_82_11 q_82_165 rfl rfl (c_isVector hv hc x v) ?_
    rw [ifp_f (fun q => h ⟨h1, q⟩)]
    refine r_if_ne (t := 24) d_82_14 rfl (fun hz => absurd hz (fun q => q rfl)) (fun _ => ?_)
    exact key
  · rw [if_neg h1]
    refine r_if_eq (t := 17) d_82_5 rfl (fun _ => ?_) (fun hz => absurd rfl hz)
    exact key
theorem c_rests_bad (M : Mo) (hb : cbC M) {s : Sst} (hv : vs s) (hc : cuC M s) {k x v : Int} (h : ¬ ((0 ≤ k ∧ k ≤ 3) ∧ okV s x v)) : PJ 83 [(2, 0), (0, k), (0, x), (0, v)] M (-2) (up2 M 0 11 (M 0 11 + 1)) := by
  have hbad := c_fails_b M hb
  refine Cl.intro (L := [(2, 0), (0, k), (0, x), (0, v)]) (rcv_v ow_83.2.1 sh_0) (by unfold entl; rw [mx_83]; rfl) (by rw [mx_83]; exact Nat.le_of_ble_eq_true rfl) rfl ?_
  have key : Rn 83 17 [(2, 0), (0, k), (0, x), (0, v)] [] M (fun v M' => v = some (0, -2) ∧ M' = up2 M 0 11 (M 0 11 + 1)) := by
    refine r_aload_n d_83_17 rfl (by omega) ?_
    refine r_bipush d_83_18 rfl ?_
    refine r_callvj d_83_20 q_83_91 rfl rfl hbad ?_
    refine r_iret d_83_23 rt_83 ?_
    exact ⟨rfl, rfl⟩
  refine r_aload_n d_83_0 rfl (by omega) ?_
  refine r_iload_n d_83_1 rfl ?_
  refine r_callvp d_83_2 q_83_106 rfl rfl (c_isModule M k) ?_
  by_cases h1 : 0 ≤ k ∧ k ≤ 3
  · rw [if_pos h1]
    refine r_if_eq (t := 17) d_83_5 rfl (fun hz => absurd hz (by decide)) (fun _ => ?_)
    refine r_aload_n d_83_8 rfl (by omega) ?_
    refine r_iload_n d_83_9 rfl ?_
    refine r_iload_n d_83_10 rfl ?_
    refine r_callvp d_83_11 q_83_165 rfl rfl (c_isVector hv hc x v) ?_
    rw [ifp_f (fun q => h ⟨h1, q⟩)]
    refine r_if_ne (t := 24) d_83_14 rfl (fun hz => absurd hz (fun q => q rfl)) (fun _ => ?_)
    exact key
  · rw [if_neg h1]
    refine r_if_eq (t := 17) d_83_5 rfl (fun _ => ?_) (fun hz => absurd rfl hz)
    exact key
theorem okV_n {s : Sst} {x : Nat} {v : Int} (hx : x < 4) (h0 : 0 ≤ v) (h1 : v < pI s.1 ^ s.2.1 x) : okV s (x : Int) v := by
  unfold okV
  rw [show ((x : Int)).toNat = x by omega]
  exact ⟨by omega, h0, h1⟩
theorem c_parts_no (M : Mo) (hb : cbC M) {s : Sst} (hv : vs s) (hc : cuC M s) {k x : Nat} (hk : k < 4) (hx : x < 4) : PJ 82 [(2, 0), (0, (k : Int)), (0, (x : Int)), (0, 0)] M (-3) (up2 M 0 12 (M 0 12 + 1)) := by
  have hno := c_fails_n M hb
  refine Cl.intro (L := [(2, 0), (0, (k : Int)), (0, (x : Int)), (0, 0)]) (rcv_v ow_82.2.1 sh_0) (by unfold entl; rw [mx_82]; rfl) (by rw [mx_82]; exact Nat.le_of_ble_eq_true rfl) rfl ?_
  refine r_aload_n d_82_0 rfl (by omega) ?_
  refine r_iload_n d_82_1 rfl ?_
  refine r_callvp d_82_2 q_82_106 rfl rfl (c_isModule M k) ?_
  rw [if_pos (by omega)]
  refine r_if_eq (t := 17) d_82_5 rfl (fun hz => absurd hz (by decide)) (fun _ => ?_)
  refine r_aload_n d_82_8 rfl (by omega) ?_
  refine r_iload_n d_82_9 rfl ?_
  refine r_iload_n d_82_10 rfl ?_
  refine r_callvp d_82_11 q_82_165 rfl rfl (c_isVector hv hc x 0) ?_
  rw [ifp_t (okV_n hx (by omega) (by have := pw_pos (pI23 hv.1) (s.2.1 x); omega))]
  refine r_if_ne (t := 24) d_82_14 rfl (fun _ => ?_) (fun hz => absurd (by decide) hz)
  refine r_iload_n d_82_24 rfl ?_
  refine r_if_ne (t := 35) d_82_25 rfl (fun hz => absurd hz (fun q => q rfl)) (fun _ => ?_)
  refine r_aload_n d_82_28 rfl (by omega) ?_
  refine r_bipush d_82_29 rfl ?_
  refine r_callvj d_82_31 q_82_91 rfl rfl hno ?_
  refine r_iret d_82_34 rt_82 ?_
  exact ⟨rfl, rfl⟩
theorem c_parts {M : Mo} {s : Sst} {H : List Sst} (hv : vs s) (hc : cuC M s) (hH : hiC M H) {k x : Nat} {v : Int} (hk : k < 4) (hx : x < 4) (h0 : 0 < v) (h1 : v < pI s.1 ^ s.2.1 x) : CI 82 [(2, 0), (0, (k : Int)), (0, (x : Int)), (0, v)] M (fun z M' => z = ((spT s x v).length : Nat) ∧ chC M M' (setm s k (spT s x v).length (fun g i j => vl (prt (s.2.1 x) (mdA s x) (spn (spT s x v)) g i j))) (psh H s)) := by
  refine Cl.intro (L := [(2, 0), (0, (k : Int)), (0, (x : Int)), (0, v)]) (rcv_v ow_82.2.1 sh_0) (by unfold entl; rw [mx_82]; rfl) (by rw [mx_82]; exact Nat.le_of_ble_eq_true rfl) rfl ?_
  refine r_aload_n d_82_0 rfl (by omega) ?_
  refine r_iload_n d_82_1 rfl ?_
  refine r_callvp d_82_2 q_82_106 rfl rfl (c_isModule M k) ?_
  rw [if_pos (by omega)]
  refine r_if_eq (t := 17) d_82_5 rfl (fun hz => absurd hz (by decide)) (fun _ => ?_)
  refine r_aload_n d_82_8 rfl (by omega) ?_
  refine r_iload_n d_82_9 rfl ?_
  refine r_iload_n d_82_10 rfl ?_
  refine r_callvp d_82_11 q_82_165 rfl rfl (c_isVector hv hc x v) ?_
  rw [ifp_t (okV_n hx (by omega) h1)]
  refine r_if_ne (t := 24) d_82_14 rfl (fun _ => ?_) (fun hz => absurd (by decide) hz)
  refine r_iload_n d_82_24 rfl ?_
  refine r_if_ne (t := 35) d_82_25 rfl (fun _ => ?_) (fun hz => absurd (by omega) hz)
  refine r_aload_n d_82_35 rfl (by omega) ?_
  refine r_iload_n d_82_36 rfl ?_
  refine r_iload_n d_82_37 rfl ?_
  refine r_callvr d_82_38 q_82_168 rfl rfl (c_cspins hv hc hx (by omega) h1) (fun M1 hM1 => ?_)
  obtain ⟨hF1, hT1, hs1⟩ := hM1
  have hc1 := WP_c hF1 hc
  have hH1 := WP_h hF1 hH
  refine r_aload_n d_82_41 rfl (by omega) ?_
  refine r_getc (ki := 2) d_82_42 q_82_25 rfl sh_0 fx_0_2 (by omega) ?_
  refine r_aload_n d_82_45 rfl (by omega) ?_
  refine r_getc (ki := 1) d_82_46 q_82_18 rfl sh_0 fx_0_1 (by omega) ?_
  refine r_iload_n d_82_49 rfl ?_
  refine r_aaloadc d_82_50 sh_2 (by decide) (by omega) (by omega) (fxM (by omega) (by omega)) (by omega) ?_
  refine r_aload_n d_82_51 rfl (by omega) ?_
  refine r_getc (ki := 3) d_82_52 q_82_32 rfl sh_0 fx_0_3 (by omega) ?_
  refine r_callvr d_82_55 q_82_172 rfl rfl (c_restricts hv.1 hc1.1 sh_3 (shM hx) sh_5 (by omega) (hc1.2 x hx) hT1) (fun M2 hM2 => ?_)
  obtain ⟨hF2, hA2⟩ := hM2
  have hc2 : cuC M2 s := hc1.fr hF2 (fun x y q => by unfold WA at q; omega)
  have hH2 : hiC M2 H := hH1.fr hF2 (fun x y q => by unfold WA at q; omega)
  refine r_aload_n d_82_58 rfl (by omega) ?_
  refine r_iload_n d_82_59 rfl ?_
  refine r_callvi d_82_60 q_82_156 rfl rfl (c_changesTo hv hc2 hH2 hk (E := fun g i j => vl (prt (s.2.1 x) (mdA s x) (spn (spT s x v)) g i j)) (hA2.congr (fun g i j _ _ _ => (kI_vl _).symm))) (fun x M3 hM3 => ?_)
  obtain ⟨rfl, hF3, hc3, hH3⟩ := hM3
  refine r_iret d_82_63 rt_82 ?_
  refine ⟨_, rfl, rfl, fun a b hn => ?_, hc3, hH3⟩
  rw [hF3 a b hn, hF2 a b (fun q => hn (by unfold WA at q; unfold WZ WX; omega))]
  exact hF1 a b (fun q => hn (Or.inl (WP_X q)))
theorem c_rests_no {M : Mo} (hb : cbC M) {s : Sst} (hv : vs s) (hc : cuC M s) {k x : Nat} {v : Int} (hk : k < 4) (hx : x < 4) (h0 : 0 ≤ v) (h1 : v < pI s.1 ^ s.2.1 x) (hd : (spT s x v).length = s.2.1 x) : CI 83 [(2, 0), (0, (k : Int)), (0, (x : Int)), (0, v)] M (fun z M' => z = -3 ∧ ∃ M1, Fr WX M M1 ∧ M' = up2 M1 0 12 (M 0 12 + 1)) := by
  refine Cl.intro (L := [(2, 0), (0, (k : Int)), (0, (x : Int)), (0, v)]) (rcv_v ow_83.2.1 sh_0) (by unfold entl; rw [mx_83]; rfl) (by rw [mx_83]; exact Nat.le_of_ble_eq_true rfl) rfl ?_
  refine r_aload_n d_83_0 rfl (by omega) ?_
  refine r_iload_n d_83_1 rfl ?_
  refine r_callvp d_83_2 q_83_106 rfl rfl (c_isModule M k) ?_
  rw [if_pos (by omega)]
  refine r_if_eq (t := 17) d_83_5 rfl (fun hz => absurd hz (by decide)) (fun _ => ?_)
  refine r_aload_n d_83_8 rfl (by omega) ?_
  refine r_iload_n d_83_9 rfl ?_
  refine r_iload_n d_83_10 rfl ?_
  refine r_callvp d_83_11 q_83_165 rfl rfl (c_isVector hv hc x v) ?_
  rw [ifp_t (okV_n hx (by omega) h1)]
  refine r_if_ne (t := 24) d_83_14 rfl (fun _ => ?_) (fun hz => absurd (by decide) hz)
  refine r_aload_n d_83_24 rfl (by omega) ?_
  refine r_iload_n d_83_25 rfl ?_
  refine r_iload_n d_83_26 rfl ?_
  refine r_callvr d_83_27 q_83_168 rfl rfl (c_cspins hv hc hx (by omega) h1) (fun M1 hM1 => ?_)
  obtain ⟨hF1, hT1, hs1⟩ := hM1
  have hc1 := WP_c hF1 hc
  have e12 : M1 0 12 = M 0 12 := hF1 _ _ (by unfold WP; omega)
  have hb1 : cbC M1 := fun i i1 i2 => by rw [hF1 _ _ (by unfold WP; omega)]; exact hb i i1 i2
  have hno := c_fails_n M1 hb1
  rw [e12] at hno
  refine r_aload_n d_83_30 rfl (by omega) ?_
  refine r_getc (ki := 3) d_83_31 q_83_32 rfl sh_0 fx_0_3 (by omega) ?_
  refine r_getfv (ki := 2) d_83_34 q_83_176 rfl sh_5 hT1.2.1 ?_
  refine r_aload_n d_83_37 rfl (by omega) ?_
  refine r_getc (ki := 1) d_83_38 q_83_18 rfl sh_0 fx_0_1 (by omega) ?_
  refine r_iload_n d_83_41 rfl ?_
  refine r_aaloadc d_83_42 sh_2 (by decide) (by omega) (by omega) (fxM (by omega) (by omega)) (by omega) ?_
  refine r_getfv (ki := 1) d_83_43 q_83_149 rfl (shM hx) (hc1.2 x hx).1 ?_
  refine r_icmp_ne (t := 56) d_83_46 rfl (fun hz => absurd hz (by omega)) (fun _ => ?_)
  refine r_aload_n d_83_49 rfl (by omega) ?_
  refine r_bipush d_83_50 rfl ?_
  refine r_callvj d_83_52 q_83_91 rfl rfl hno ?_
  refine r_iret d_83_55 rt_83 ?_
  exact ⟨_, rfl, rfl, M1, hF1.mono (fun _ _ q => WP_X q), rfl⟩
theorem c_rests {M : Mo} {s : Sst} {H : List Sst} (hv : vs s) (hc : cuC M s) (hH : hiC M H) {k x : Nat} {v : Int} (hk : k < 4) (hx : x < 4) (h0 : 0 ≤ v) (h1 : v < pI s.1 ^ s.2.1 x) (hd : (spT s x v).length ≠ s.2.1 x) : CI 83 [(2, 0), (0, (k : Int)), (0, (x : Int)), (0, v)] M (fun z M' => z = ((s.2.1 x - (spT s x v).length : Nat) : Int) ∧ chC M M' (setm s k (s.2.1 x - (spT s x v).length) (fun g i j => vl (rst (s.2.1 x) (mdA s x) (spn (spT s x v)) g i j))) (psh H s)) := by
  refine Cl.intro (L := [(2, 0), (0, (k : Int)), (0, (x : Int)), (0, v)]) (rcv_v ow_83.2.1 sh_0) (by unfold entl; rw [mx_83]; rfl) (by rw [mx_83]; exact Nat.le_of_ble_eq_true rfl) rfl ?_
  refine r_aload_n d_83_0 rfl (by omega) ?_
  refine r_iload_n d_83_1 rfl ?_
  refine r_callvp d_83_2 q_83_106 rfl rfl (c_isModule M k) ?_
  rw [if_pos (by omega)]
  refine r_if_eq (t := 17) d_83_5 rfl (fun hz => absurd hz (by decide)) (fun _ => ?_)
  refine r_aload_n d_83_8 rfl (by omega) ?_
  refine r_iload_n d_83_9 rfl ?_
  refine r_iload_n d_83_10 rfl ?_
  refine r_callvp d_83_11 q_83_165 rfl rfl (c_isVector hv hc x v) ?_
  rw [ifp_t (okV_n hx (by omega) h1)]
  refine r_if_ne (t := 24) d_83_14 rfl (fun _ => ?_) (fun hz => absurd (by decide) hz)
  refine r_aload_n d_83_24 rfl (by omega) ?_
  refine r_iload_n d_83_25 rfl ?_
  refine r_iload_n d_83_26 rfl ?_
  refine r_callvr d_83_27 q_83_168 rfl rfl (c_cspins hv hc hx (by omega) h1) (fun M1 hM1 => ?_)
  obtain ⟨hF1, hT1, hs1⟩ := hM1
  have hc1 := WP_c hF1 hc
  have hH1 := WP_h hF1 hH
  refine r_aload_n d_83_30 rfl (by omega) ?_
  refine r_getc (ki := 3) d_83_31 q_83_32 rfl sh_0 fx_0_3 (by omega) ?_
  refine r_getfv (ki := 2) d_83_34 q_83_176 rfl sh_5 hT1.2.1 ?_
  refine r_aload_n d_83_37 rfl (by omega) ?_
  refine r_getc (ki := 1) d_83_38 q_83_18 rfl sh_0 fx_0_1 (by omega) ?_
  refine r_iload_n d_83_41 rfl ?_
  refine r_aaloadc d_83_42 sh_2 (by decide) (by omega) (by omega) (fxM (by omega) (by omega)) (by omega) ?_
  refine r_getfv (ki := 1) d_83_43 q_83_149 rfl (shM hx) (hc1.2 x hx).1 ?_
  refine r_icmp_ne (t := 56) d_83_46 rfl (fun _ => ?_) (fun hz => absurd (by omega) hz)
  refine r_aload_n d_83_56 rfl (by omega) ?_
  refine r_getc (ki := 2) d_83_57 q_83_25 rfl sh_0 fx_0_2 (by omega) ?_
  refine r_aload_n d_83_60 rfl (by omega) ?_
  refine r_getc (ki := 1) d_83_61 q_83_18 rfl sh_0 fx_0_1 (by omega) ?_
  refine r_iload_n d_83_64 rfl ?_
  refine r_aaloadc d_83_65 sh_2 (by decide) (by omega) (by omega) (fxM (by omega) (by omega)) (by omega) ?_
  refine r_aload_n d_83_66 rfl (by omega) ?_
  refine r_getc (ki := 3) d_83_67 q_83_32 rfl sh_0 fx_0_3 (by omega) ?_
  refine r_callvr d_83_70 q_83_179 rfl rfl (c_divides hv.1 hc1.1 sh_3 (shM hx) sh_5 (by omega) (hc1.2 x hx) hT1 hs1) (fun M2 hM2 => ?_)
  obtain ⟨hF2, hA2⟩ := hM2
  have hc2 : cuC M2 s := hc1.fr hF2 (fun x y q => by unfold WA at q; omega)
  have hH2 : hiC M2 H := hH1.fr hF2 (fun x y q => by unfold WA at q; omega)
  refine r_aload_n d_83_73 rfl (by omega) ?_
  refine r_iload_n d_83_74 rfl ?_
  refine r_callvi d_83_75 q_83_156 rfl rfl (c_changesTo hv hc2 hH2 hk (E := fun g i j => vl (rst (s.2.1 x) (mdA s x) (spn (spT s x v)) g i j)) (hA2.congr (fun g i j _ _ _ => (kI_vl _).symm))) (fun x M3 hM3 => ?_)
  obtain ⟨rfl, hF3, hc3, hH3⟩ := hM3
  refine r_iret d_83_78 rt_83 ?_
  refine ⟨_, rfl, rfl, fun a b hn => ?_, hc3, hH3⟩
  rw [hF3 a b hn, hF2 a b (fun q => hn (by unfold WA at q; unfold WZ WX; omega))]
  exact hF1 a b (fun q => hn (Or.inl (WP_X q)))
theorem c_size_bad (M : Mo) (hb : cbC M) {k : Int} (h : ¬ (0 ≤ k ∧ k ≤ 3)) : PJ 84 [(2, 0), (0, k)] M (-2) (up2 M 0 11 (M 0 11 + 1)) := by
  have hbad := c_fails_b M hb
  refine Cl.intro (L := [(2, 0), (0, k)]) (rcv_v ow_84.2.1 sh_0) (by unfold entl; rw [mx_84]; rfl) (by rw [mx_84]; exact Nat.le_of_ble_eq_true rfl) rfl ?_
  refine r_aload_n d_84_0 rfl (by omega) ?_
  refine r_iload_n d_84_1 rfl ?_
  refine r_callvp d_84_2 q_84_106 rfl rfl (c_isModule M k) ?_
  rw [if_neg h]
  refine r_if_eq (t := 20) d_84_5 rfl (fun _ => ?_) (fun hz => absurd rfl hz)
  refine r_aload_n d_84_20 rfl (by omega) ?_
  refine r_bipush d_84_21 rfl ?_
  refine r_callvj d_84_23 q_84_91 rfl rfl hbad ?_
  refine r_iret d_84_26 rt_84 ?_
  exact ⟨rfl, rfl⟩
theorem c_size {M : Mo} {s : Sst} (hc : cuC M s) {k : Nat} (hk : k < 4) : PI 84 [(2, 0), (0, (k : Int))] M (s.2.1 k) := by
  refine Cl.intro (L := [(2, 0), (0, (k : Int))]) (rcv_v ow_84.2.1 sh_0) (by unfold entl; rw [mx_84]; rfl) (by rw [mx_84]; exact Nat.le_of_ble_eq_true rfl) rfl ?_
  refine r_aload_n d_84_0 rfl (by omega) ?_
  refine r_iload_n d_84_1 rfl ?_
  refine r_callvp d_84_2 q_84_106 rfl rfl (c_isModule M k) ?_
  rw [if_pos (by omega)]
  refine r_if_eq (t := 20) d_84_5 rfl (fun hz => absurd hz (by decide)) (fun _ => ?_)
  refine r_aload_n d_84_8 rfl (by omega) ?_
  refine r_getc (ki := 1) d_84_9 q_84_18 rfl sh_0 fx_0_1 (by omega) ?_
  refine r_iload_n d_84_12 rfl ?_
  refine r_aaloadc d_84_13 sh_2 (by decide) (by omega) (by omega) (fxM (by omega) (by omega)) (by omega) ?_
  refine r_getfv (ki := 1) d_84_14 q_84_149 rfl (shM hk) (hc.2 k hk).1 ?_
  refine r_goto (t := 26) d_84_17 rfl ?_
  refine r_iret d_84_26 rt_84 ?_
  exact ⟨rfl, rfl⟩
theorem c_at_bad (M : Mo) (hb : cbC M) {s : Sst} (hc : cuC M s) {k g i j : Int} (h : ¬ okE s k g i j) : PJ 85 [(2, 0), (0, k), (0, g), (0, i), (0, j)] M (-2) (up2 M 0 11 (M 0 11 + 1)) := by
  have hbad := c_fails_b M hb
  refine Cl.intro (L := [(2, 0), (0, k), (0, g), (0, i), (0, j)]) (rcv_v ow_85.2.1 sh_0) (by unfold entl; rw [mx_85]; rfl) (by rw [mx_85]; exact Nat.le_of_ble_eq_true rfl) rfl ?_
  refine r_aload_n d_85_0 rfl (by omega) ?_
  refine r_iload_n d_85_1 rfl ?_
  refine r_iload_n d_85_2 rfl ?_
  refine r_iload_n d_85_3 rfl ?_
  refine r_iload d_85_4 rfl ?_
  refine r_callvp d_85_6 q_85_114 rfl rfl (c_isEntry hc k g i j) ?_
  rw [ifp_f h]
  refine r_if_eq (t := 28) d_85_9 rfl (fun _ => ?_) (fun hz => absurd rfl hz)
  refine r_aload_n d_85_28 rfl (by omega) ?_
  refine r_bipush d_85_29 rfl ?_
  refine r_callvj d_85_31 q_85_91 rfl rfl hbad ?_
  refine r_iret d_85_34 rt_85 ?_
  exact ⟨rfl, rfl⟩
theorem c_at {M : Mo} {s : Sst} (hv : vs s) (hc : cuC M s) {k g i j : Nat} (hk : k < 4) (hg : g < 2) (hi : i < s.2.1 k) (hj : j < s.2.1 k) : PI 85 [(2, 0), (0, (k : Int)), (0, (g : Int)), (0, (i : Int)), (0, (j : Int))] M (s.2.2 k g i j) := by
  have hok : okE s k g i j := by
    unfold okE
    rw [show ((k : Int)).toNat = k by omega]
    omega
  have hen := c_entry hv.1 (shM hk) (hc.2 k hk) hg hi hj
  rw [md_vl hv hk hg hi hj] at hen
  refine Cl.intro (L := [(2, 0), (0, (k : Int)), (0, (g : Int)), (0, (i : Int)), (0, (j : Int))]) (rcv_v ow_85.2.1 sh_0) (by unfold entl; rw [mx_85]; rfl) (by rw [mx_85]; exact Nat.le_of_ble_eq_true rfl) rfl ?_
  refine r_aload_n d_85_0 rfl (by omega) ?_
  refine r_iload_n d_85_1 rfl ?_
  refine r_iload_n d_85_2 rfl ?_
  refine r_iload_n d_85_3 rfl ?_
  refine r_iload d_85_4 rfl ?_
  refine r_callvp d_85_6 q_85_114 rfl rfl (c_isEntry hc k g i j) ?_
  rw [ifp_t hok]
  refine r_if_eq (t := 28) d_85_9 rfl (fun hz => absurd hz (by decide)) (fun _ => ?_)
  refine r_aload_n d_85_12 rfl (by omega) ?_
  refine r_getc (ki := 1) d_85_13 q_85_18 rfl sh_0 fx_0_1 (by omega) ?_
  refine r_iload_n d_85_16 rfl ?_
  refine r_aaloadc d_85_17 sh_2 (by decide) (by omega) (by omega) (fxM (by omega) (by omega)) (by omega) ?_
  refine r_iload_n d_85_18 rfl ?_
  refine r_iload_n d_85_19 rfl ?_
  refine r_iload d_85_20 rfl ?_
  refine r_callvp d_85_22 q_85_121 rfl rfl hen ?_
  refine r_goto (t := 34) d_85_25 rfl ?_
  refine r_iret d_85_34 rt_85 ?_
  exact ⟨rfl, rfl⟩
theorem c_moved_bad (M : Mo) (hb : cbC M) {s : Sst} (hv : vs s) (hc : cuC M s) {k g v : Int} (h : ¬ ((0 ≤ g ∧ g ≤ 1) ∧ okV s k v)) : PJ 86 [(2, 0), (0, k), (0, g), (0, v)] M (-2) (up2 M 0 11 (M 0 11 + 1)) := by
  have hbad := c_fails_b M hb
  refine Cl.intro (L := [(2, 0), (0, k), (0, g), (0, v), (9, 0)]) (rcv_v ow_86.2.1 sh_0) (by unfold entl; rw [mx_86]; rfl) (by rw [mx_86]; exact Nat.le_of_ble_eq_true rfl) rfl ?_
  have key : Rn 86 17 [(2, 0), (0, k), (0, g), (0, v), (9, 0)] [] M (fun v M' => v = some (0, -2) ∧ M' = up2 M 0 11 (M 0 11 + 1)) := by
    refine r_aload_n d_86_17 rfl (by omega) ?_
    refine r_bipush d_86_18 rfl ?_
    refine r_callvj d_86_20 q_86_91 rfl rfl hbad ?_
    refine r_iret d_86_23 rt_86 ?_
    exact ⟨rfl, rfl⟩
  refine r_aload_n d_86_0 rfl (by omega) ?_
  refine r_iload_n d_86_1 rfl ?_
  refine r_callvp d_86_2 q_86_182 rfl rfl (c_isMatrix M g) ?_
  by_cases h1 : 0 ≤ g ∧ g ≤ 1
  · rw [if_pos h1]
    refine r_if_eq (t := 17) d_86_5 rfl (fun hz => absurd hz (by decide)) (fun _ => ?_)
    refine r_aload_n d_86_8 rfl (by omega) ?_
    refine r_iload_n d_86_9 rfl ?_
    refine r_iload_n d_86_10 rfl ?_
    refine r_callvp d_86_11 q_86_165 rfl rfl (c_isVector hv hc k v) ?_
    rw [ifp_f (fun q => h ⟨h1, q⟩)]
    refine r_if_ne (t := 24) d_86_14 rfl (fun hz => absurd hz (fun q => q rfl)) (fun _ => ?_)
    exact key
  · rw [if_neg h1]
    refine r_if_eq (t := 17) d_86_5 rfl (fun _ => ?_) (fun hz => absurd rfl hz)
    exact key
theorem c_moved {M : Mo} {s : Sst} (hv : vs s) (hc : cuC M s) {k g : Nat} {v : Int} (hk : k < 4) (hg : g < 2) (h0 : 0 ≤ v) (h1 : v < pI s.1 ^ s.2.1 k) : PI 86 [(2, 0), (0, (k : Int)), (0, (g : Int)), (0, v)] M (num (s.2.1 k) (mv (s.2.1 k) (mdA s k g) (toV s.1 (s.2.1 k) v))) := by
  have hA := hc.2 k hk
  have h6 := vs_6 hv hk
  have hpw := pw_6 (pI23 hv.1) h6
  refine Cl.intro (L := [(2, 0), (0, (k : Int)), (0, (g : Int)), (0, v), (9, 0)]) (rcv_v ow_86.2.1 sh_0) (by unfold entl; rw [mx_86]; rfl) (by rw [mx_86]; exact Nat.le_of_ble_eq_true rfl) rfl ?_
  refine r_aload_n d_86_0 rfl (by omega) ?_
  refine r_iload_n d_86_1 rfl ?_
  refine r_callvp d_86_2 q_86_182 rfl rfl (c_isMatrix M g) ?_
  rw [if_pos (by omega)]
  refine r_if_eq (t := 17) d_86_5 rfl (fun hz => absurd hz (by decide)) (fun _ => ?_)
  refine r_aload_n d_86_8 rfl (by omega) ?_
  refine r_iload_n d_86_9 rfl ?_
  refine r_iload_n d_86_10 rfl ?_
  refine r_callvp d_86_11 q_86_165 rfl rfl (c_isVector hv hc k v) ?_
  rw [ifp_t (okV_n hk h0 h1)]
  refine r_if_ne (t := 24) d_86_14 rfl (fun _ => ?_) (fun hz => absurd (by decide) hz)
  refine r_aload_n d_86_24 rfl (by omega) ?_
  refine r_getc (ki := 1) d_86_25 q_86_18 rfl sh_0 fx_0_1 (by omega) ?_
  refine r_iload_n d_86_28 rfl ?_
  refine r_aaloadc d_86_29 sh_2 (by decide) (by omega) (by omega) (fxM (by omega) (by omega)) (by omega) ?_
  refine r_getfv (ki := 1) d_86_30 q_86_149 rfl (shM hk) hA.1 ?_
  refine r_istore d_86_33 rfl (stl_5_4 rfl rfl) ?_
  refine r_aload_n d_86_35 rfl (by omega) ?_
  refine r_getc (ki := 0) d_86_36 q_86_10 rfl sh_0 fx_0_0 (by omega) ?_
  refine r_aload_n d_86_39 rfl (by omega) ?_
  refine r_getc (ki := 1) d_86_40 q_86_18 rfl sh_0 fx_0_1 (by omega) ?_
  refine r_iload_n d_86_43 rfl ?_
  refine r_aaloadc d_86_44 sh_2 (by decide) (by omega) (by omega) (fxM (by omega) (by omega)) (by omega) ?_
  refine r_iload_n d_86_45 rfl ?_
  refine r_aload_n d_86_46 rfl (by omega) ?_
  refine r_getc (ki := 0) d_86_47 q_86_10 rfl sh_0 fx_0_0 (by omega) ?_
  refine r_iload_n d_86_50 rfl ?_
  refine r_iload d_86_51 rfl ?_
  refine r_callvl d_86_53 q_86_185 rfl rfl (c_vector hv.1 M hc.1 (by omega) h6) ?_
  refine r_callvl d_86_56 q_86_189 rfl rfl (c_image hv.1 hc.1 (shM hk) hA hg _) ?_
  refine r_iload d_86_59 rfl ?_
  refine r_callvp d_86_61 q_86_193 rfl rfl (c_number hv.1 M hc.1 _ h6) ?_
  refine r_iret d_86_64 rt_86 ?_
  exact ⟨rfl, rfl⟩
theorem c_spun_bad (M : Mo) (hb : cbC M) {s : Sst} (hv : vs s) (hc : cuC M s) {k v : Int} (h : ¬ okV s k v) : PJ 87 [(2, 0), (0, k), (0, v)] M (-2) (up2 M 0 11 (M 0 11 + 1)) := by
  have hbad := c_fails_b M hb
  refine Cl.intro (L := [(2, 0), (0, k), (0, v)]) (rcv_v ow_87.2.1 sh_0) (by unfold entl; rw [mx_87]; rfl) (by rw [mx_87]; exact Nat.le_of_ble_eq_true rfl) rfl ?_
  refine r_aload_n d_87_0 rfl (by omega) ?_
  refine r_iload_n d_87_1 rfl ?_
  refine r_iload_n d_87_2 rfl ?_
  refine r_callvp d_87_3 q_87_165 rfl rfl (c_isVector hv hc k v) ?_
  rw [ifp_f h]
  refine r_if_ne (t := 16) d_87_6 rfl (fun hz => absurd hz (fun q => q rfl)) (fun _ => ?_)
  refine r_aload_n d_87_9 rfl (by omega) ?_
  refine r_bipush d_87_10 rfl ?_
  refine r_callvj d_87_12 q_87_91 rfl rfl hbad ?_
  refine r_iret d_87_15 rt_87 ?_
  exact ⟨rfl, rfl⟩
theorem c_spun {M : Mo} {s : Sst} (hv : vs s) (hc : cuC M s) {k : Nat} {v : Int} (hk : k < 4) (h0 : 0 ≤ v) (h1 : v < pI s.1 ^ s.2.1 k) : CI 87 [(2, 0), (0, (k : Int)), (0, v)] M (fun z M' => z = ((spT s k v).length : Nat) ∧ Fr WX M M') := by
  refine Cl.intro (L := [(2, 0), (0, (k : Int)), (0, v)]) (rcv_v ow_87.2.1 sh_0) (by unfold entl; rw [mx_87]; rfl) (by rw [mx_87]; exact Nat.le_of_ble_eq_true rfl) rfl ?_
  refine r_aload_n d_87_0 rfl (by omega) ?_
  refine r_iload_n d_87_1 rfl ?_
  refine r_iload_n d_87_2 rfl ?_
  refine r_callvp d_87_3 q_87_165 rfl rfl (c_isVector hv hc k v) ?_
  rw [ifp_t (okV_n hk h0 h1)]
  refine r_if_ne (t := 16) d_87_6 rfl (fun _ => ?_) (fun hz => absurd (by decide) hz)
  refine r_aload_n d_87_16 rfl (by omega) ?_
  refine r_iload_n d_87_17 rfl ?_
  refine r_iload_n d_87_18 rfl ?_
  refine r_callvr d_87_19 q_87_168 rfl rfl (c_cspins hv hc hk h0 h1) (fun M1 hM1 => ?_)
  obtain ⟨hF1, hT1, hs1⟩ := hM1
  refine r_aload_n d_87_22 rfl (by omega) ?_
  refine r_getc (ki := 3) d_87_23 q_87_32 rfl sh_0 fx_0_3 (by omega) ?_
  refine r_getfv (ki := 2) d_87_26 q_87_176 rfl sh_5 hT1.2.1 ?_
  refine r_iret d_87_29 rt_87 ?_
  exact ⟨_, rfl, rfl, hF1.mono (fun _ _ q => WP_X q)⟩
theorem c_row_bad (M : Mo) (hb : cbC M) {s : Sst} (hv : vs s) (hc : cuC M s) {k v i : Int} (h : ¬ (okV s k v ∧ 0 ≤ i)) : PJ 88 [(2, 0), (0, k), (0, v), (0, i)] M (-2) (up2 M 0 11 (M 0 11 + 1)) := by
  have hbad := c_fails_b M hb
  refine Cl.intro (L := [(2, 0), (0, k), (0, v), (0, i)]) (rcv_v ow_88.2.1 sh_0) (by unfold entl; rw [mx_88]; rfl) (by rw [mx_88]; exact Nat.le_of_ble_eq_true rfl) rfl ?_
  have key : Rn 88 13 [(2, 0), (0, k), (0, v), (0, i)] [] M (fun v M' => v = some (0, -2) ∧ M' = up2 M 0 11 (M 0 11 + 1)) := by
    refine r_aload_n d_88_13 rfl (by omega) ?_
    refine r_bipush d_88_14 rfl ?_
    refine r_callvj d_88_16 q_88_91 rfl rfl hbad ?_
    refine r_iret d_88_19 rt_88 ?_
    exact ⟨rfl, rfl⟩
  refine r_aload_n d_88_0 rfl (by omega) ?_
  refine r_iload_n d_88_1 rfl ?_
  refine r_iload_n d_88_2 rfl ?_
  refine r_callvp d_88_3 q_88_165 rfl rfl (c_isVector hv hc k v) ?_
  by_cases h1 : okV s k v
  · rw [ifp_t h1]
    refine r_if_eq (t := 13) d_88_6 rfl (fun hz => absurd hz (by decide)) (fun _ => ?_)
    refine r_iload_n d_88_9 rfl ?_
    refine r_if_ge (t := 20) d_88_10 rfl (fun hz => absurd hz (fun q => h ⟨h1, q⟩)) (fun _ => ?_)
    exact key
  · rw [ifp_f h1]
    refine r_if_eq (t := 13) d_88_6 rfl (fun _ => ?_) (fun hz => absurd rfl hz)
    exact key
theorem c_row {M : Mo} {s : Sst} (hv : vs s) (hc : cuC M s) {k : Nat} {v i : Int} (hk : k < 4) (h0 : 0 ≤ v) (h1 : v < pI s.1 ^ s.2.1 k) (hi : 0 ≤ i) : CI 88 [(2, 0), (0, (k : Int)), (0, v), (0, i)] M (fun z M' => z = rowA (s.2.1 k) (spT s k v) i ∧ Fr WX M M') := by
  have h6 := vs_6 hv hk
  refine Cl.intro (L := [(2, 0), (0, (k : Int)), (0, v), (0, i)]) (rcv_v ow_88.2.1 sh_0) (by unfold entl; rw [mx_88]; rfl) (by rw [mx_88]; exact Nat.le_of_ble_eq_true rfl) rfl ?_
  refine r_aload_n d_88_0 rfl (by omega) ?_
  refine r_iload_n d_88_1 rfl ?_
  refine r_iload_n d_88_2 rfl ?_
  refine r_callvp d_88_3 q_88_165 rfl rfl (c_isVector hv hc k v) ?_
  rw [ifp_t (okV_n hk h0 h1)]
  refine r_if_eq (t := 13) d_88_6 rfl (fun hz => absurd hz (by decide)) (fun _ => ?_)
  refine r_iload_n d_88_9 rfl ?_
  refine r_if_ge (t := 20) d_88_10 rfl (fun _ => ?_) (fun hz => absurd (by omega) hz)
  refine r_aload_n d_88_20 rfl (by omega) ?_
  refine r_iload_n d_88_21 rfl ?_
  refine r_iload_n d_88_22 rfl ?_
  refine r_callvr d_88_23 q_88_168 rfl rfl (c_cspins hv hc hk h0 h1) (fun M1 hM1 => ?_)
  obtain ⟨hF1, hT1, hs1⟩ := hM1
  have hc1 := WP_c hF1 hc
  have hdim := hT1.dim
  refine r_iload_n d_88_26 rfl ?_
  refine r_aload_n d_88_27 rfl (by omega) ?_
  refine r_getc (ki := 3) d_88_28 q_88_32 rfl sh_0 fx_0_3 (by omega) ?_
  refine r_getfv (ki := 2) d_88_31 q_88_176 rfl sh_5 hT1.2.1 ?_
  refine r_icmp_ge (t := 64) d_88_34 rfl (fun hge => ?_) (fun hge => ?_)
  · refine r_iconst d_88_64 rfl ?_
    refine r_iret d_88_65 rt_88 ?_
    refine ⟨_, rfl, ?_, hF1.mono (fun _ _ q => WP_X q)⟩
    unfold rowA
    rw [if_neg (by omega)]
  · obtain ⟨d, rfl⟩ : ∃ d : Nat, i = d := ⟨i.toNat, by omega⟩
    have hbv := c_basisVector hv.1 sh_5 hT1.1 (d := d) (show d < dm (s.2.1 k) (spn (spT s k v)) by omega)
    refine r_aload_n d_88_37 rfl (by omega) ?_
    refine r_getc (ki := 0) d_88_38 q_88_10 rfl sh_0 fx_0_0 (by omega) ?_
    refine r_aload_n d_88_41 rfl (by omega) ?_
    refine r_getc (ki := 3) d_88_42 q_88_32 rfl sh_0 fx_0_3 (by omega) ?_
    refine r_iload_n d_88_45 rfl ?_
    refine r_callvl d_88_46 q_88_197 rfl rfl hbv ?_
    refine r_aload_n d_88_49 rfl (by omega) ?_
    refine r_getc (ki := 1) d_88_50 q_88_18 rfl sh_0 fx_0_1 (by omega) ?_
    refine r_iload_n d_88_53 rfl ?_
    refine r_aaloadc d_88_54 sh_2 (by decide) (by omega) (by omega) (fxM (by omega) (by omega)) (by omega) ?_
    refine r_getfv (ki := 1) d_88_55 q_88_149 rfl (shM hk) (hc1.2 k hk).1 ?_
    refine r_callvp d_88_58 q_88_193 rfl rfl (c_number hv.1 M1 hc1.1 _ h6) ?_
    refine r_goto (t := 65) d_88_61 rfl ?_
    refine r_iret d_88_65 rt_88 ?_
    refine ⟨_, rfl, ?_, hF1.mono (fun _ _ q => WP_X q)⟩
    unfold rowA
    rw [if_pos (by omega), show ((d : Int)).toNat = d by omega]
theorem c_back_no (M : Mo) (hb : cbC M) (hH : hiC M []) : PJ 104 [(2, 0)] M (-3) (up2 M 0 12 (M 0 12 + 1)) := by
  have hno := c_fails_n M hb
  obtain ⟨q, h1, h2, h3, h4⟩ := hH
  have h3 : M 8 1 = 0 := h3
  refine Cl.intro (L := [(2, 0)]) (rcv_v ow_104.2.1 sh_0) (by unfold entl; rw [mx_104]; rfl) (by rw [mx_104]; exact Nat.le_of_ble_eq_true rfl) rfl ?_
  refine r_aload_n d_104_0 rfl (by omega) ?_
  refine r_getc (ki := 4) d_104_1 q_104_39 rfl sh_0 fx_0_4 (by omega) ?_
  refine r_getfv (ki := 1) d_104_4 q_104_283 rfl sh_8 h3 ?_
  refine r_if_ne (t := 17) d_104_7 rfl (fun hz => absurd hz (fun q => q rfl)) (fun _ => ?_)
  refine r_aload_n d_104_10 rfl (by omega) ?_
  refine r_bipush d_104_11 rfl ?_
  refine r_callvj d_104_13 q_104_91 rfl rfl hno ?_
  refine r_iret d_104_16 rt_104 ?_
  exact ⟨rfl, rfl⟩
theorem c_back {M : Mo} {H : List Sst} {s : Sst} (hH : hiC M (H ++ [s])) : CI 104 [(2, 0)] M (fun z M' => z = H.length ∧ chC M M' s H) := by
  have h3 : M 8 1 = ((H ++ [s]).length : Nat) := hH.choose_spec.2.2.1
  rw [List.length_append, List.length_singleton] at h3
  refine Cl.intro (L := [(2, 0)]) (rcv_v ow_104.2.1 sh_0) (by unfold entl; rw [mx_104]; rfl) (by rw [mx_104]; exact Nat.le_of_ble_eq_true rfl) rfl ?_
  refine r_aload_n d_104_0 rfl (by omega) ?_
  refine r_getc (ki := 4) d_104_1 q_104_39 rfl sh_0 fx_0_4 (by omega) ?_
  refine r_getfv (ki := 1) d_104_4 q_104_283 rfl sh_8 h3 ?_
  refine r_if_ne (t := 17) d_104_7 rfl (fun _ => ?_) (fun hz => absurd (by omega) hz)
  refine r_aload_n d_104_17 rfl (by omega) ?_
  refine r_getc (ki := 4) d_104_18 q_104_39 rfl sh_0 fx_0_4 (by omega) ?_
  refine r_aload_n d_104_21 rfl (by omega) ?_
  refine r_getc (ki := 1) d_104_22 q_104_18 rfl sh_0 fx_0_1 (by omega) ?_
  refine r_callvr d_104_25 q_104_284 rfl rfl (c_restores hH) (fun M1 hM1 => ?_)
  obtain ⟨hF1, hc1, hH1⟩ := hM1
  have h5 : M1 8 1 = (H.length : Nat) := hH1.choose_spec.2.2.1
  refine r_aload_n d_104_28 rfl (by omega) ?_
  refine r_getc (ki := 4) d_104_29 q_104_39 rfl sh_0 fx_0_4 (by omega) ?_
  refine r_getfv (ki := 1) d_104_32 q_104_283 rfl sh_8 h5 ?_
  refine r_iret d_104_35 rt_104 ?_
  exact ⟨_, rfl, rfl, hF1.mono (fun x y q => by unfold WR8 at q; unfold WZ WH; omega), hc1, hH1⟩
