/-! The class: factors, factor, telling, common. -/
section
def rfs (M : Mo) : Prop := (∃ r, rfI M 81 r) ∧ ∃ r, rfI M 106 r
def WXf (x y : Int) : Prop := WX x y ∨ x = 82 ∨ x = 107
theorem rfI.fr {M M1 : Mo} {a : Int} {r : Nat → Int} {P : Int → Int → Prop} (h : rfI M a r) (hF : Fr P M M1) (hP : ∀ y, ¬ P (a + 1) y) : rfI M1 a r := ⟨fun k hk => ⟨(hF _ _ (hP _)).trans (h.1 k hk).1, (h.1 k hk).2⟩, h.2⟩
theorem rfs.fr {M M1 : Mo} {P : Int → Int → Prop} (h : rfs M) (hF : Fr P M M1) (hP : ∀ y, ¬ P 82 y ∧ ¬ P 107 y) : rfs M1 := ⟨⟨_, h.1.choose_spec.fr hF (fun y => (hP y).1)⟩, ⟨_, h.2.choose_spec.fr hF (fun y => (hP y).2)⟩⟩
theorem WFd_X {a x y : Int} (ha : a = 81 ∨ a = 106) (h : WFd a x y) : WXf x y := by
  unfold WFd at h
  unfold WXf WX
  omega
theorem rng_gt {α : Type} {f : Nat → α} {d : α} {p i : Nat} (h : i < p) : ((List.range p).map f).getD i d = f i := by
  rw [List.getD_eq_getElem?_getD, List.getElem?_map, List.getElem?_range h]
  rfl
theorem fx_81_1 : fx 81 1 = some 82 := by decide +kernel
theorem fxF81 : shp S0 81 = (1, 8) := by decide +kernel
theorem fxF106 : shp S0 106 = (1, 8) := by decide +kernel
theorem c_factors_bad (M : Mo) (hb : cbC M) {k : Int} (h : ¬ (0 ≤ k ∧ k ≤ 3)) : PJ 91 [(2, 0), (0, k)] M (-2) (up2 M 0 11 (M 0 11 + 1)) := by
  have hbad := c_fails_b M hb
  refine Cl.intro (L := [(2, 0), (0, k)]) (rcv_v ow_91.2.1 sh_0) (by unfold entl; rw [mx_91]; rfl) (by rw [mx_91]; exact Nat.le_of_ble_eq_true rfl) rfl ?_
  refine r_aload_n d_91_0 rfl (by omega) ?_
  refine r_iload_n d_91_1 rfl ?_
  refine r_callvp d_91_2 q_91_106 rfl rfl (c_isModule M k) ?_
  rw [if_neg h]
  refine r_if_ne (t := 15) d_91_5 rfl (fun hz => absurd hz (fun q => q rfl)) (fun _ => ?_)
  refine r_aload_n d_91_8 rfl (by omega) ?_
  refine r_bipush d_91_9 rfl ?_
  refine r_callvj d_91_11 q_91_91 rfl rfl hbad ?_
  refine r_iret d_91_14 rt_91 ?_
  exact ⟨rfl, rfl⟩
theorem c_factors {M : Mo} {s : Sst} (hv : vs s) (hc : cuC M s) (hr : rfs M) {k : Nat} (hk : k < 4) : CI 91 [(2, 0), (0, (k : Int))] M (fun z M' => facP (s.2.1 k) (mdA s k) z ∧ Fr WXf M M' ∧ rfs M') := by
  obtain ⟨⟨r, hr1⟩, r2, hr2⟩ := hr
  refine Cl.intro (L := [(2, 0), (0, (k : Int))]) (rcv_v ow_91.2.1 sh_0) (by unfold entl; rw [mx_91]; rfl) (by rw [mx_91]; exact Nat.le_of_ble_eq_true rfl) rfl ?_
  refine r_aload_n d_91_0 rfl (by omega) ?_
  refine r_iload_n d_91_1 rfl ?_
  refine r_callvp d_91_2 q_91_106 rfl rfl (c_isModule M k) ?_
  rw [if_pos (by omega)]
  refine r_if_ne (t := 15) d_91_5 rfl (fun _ => ?_) (fun hz => absurd (by decide) hz)
  refine r_aload_n d_91_15 rfl (by omega) ?_
  refine r_getc (ki := 6) d_91_16 q_91_53 rfl sh_0 fx_0_6 (by omega) ?_
  refine r_aload_n d_91_19 rfl (by omega) ?_
  refine r_getc (ki := 1) d_91_20 q_91_18 rfl sh_0 fx_0_1 (by omega) ?_
  refine r_iload_n d_91_23 rfl ?_
  refine r_aaloadc d_91_24 sh_2 (by decide) (by omega) (by omega) (fxM (by omega) (by omega)) (by omega) ?_
  refine r_callvr d_91_25 q_91_204 rfl rfl (c_finds hv.1 hc.1 fxF81 (shM hk) hr1 (vs_6 hv hk) (hc.2 k hk)) (fun M1 hM1 => ?_)
  obtain ⟨hF, p, r', sz, Tm, p6, hcnt, hri, hf, hS⟩ := hM1
  refine r_aload_n d_91_28 rfl (by omega) ?_
  refine r_getc (ki := 6) d_91_29 q_91_53 rfl sh_0 fx_0_6 (by omega) ?_
  refine r_getfv (ki := 2) d_91_32 q_91_207 rfl sh_81 hcnt ?_
  refine r_iret d_91_35 rt_91 ?_
  exact ⟨_, rfl, ⟨_, hS, by rw [List.length_map, List.length_range]⟩, hF.mono (fun x y q => WFd_X (Or.inl rfl) q), ⟨_, hri⟩, ⟨_, hr2.fr hF (fun y q => by unfold WFd at q; omega)⟩⟩
theorem c_factor_bad (M : Mo) (hb : cbC M) {k i w : Int} (h : ¬ ((0 ≤ k ∧ k ≤ 3) ∧ 0 ≤ i ∧ 0 ≤ w ∧ w ≤ 3)) : PJ 92 [(2, 0), (0, k), (0, i), (0, w)] M (-2) (up2 M 0 11 (M 0 11 + 1)) := by
  have hbad := c_fails_b M hb
  refine Cl.intro (L := [(2, 0), (0, k), (0, i), (0, w), (9, 0)]) (rcv_v ow_92.2.1 sh_0) (by unfold entl; rw [mx_92]; rfl) (by rw [mx_92]; exact Nat.le_of_ble_eq_true rfl) rfl ?_
  have key : Rn 92 21 [(2, 0), (0, k), (0, i), (0, w), (9, 0)] [] M (fun v M' => v = some (0, -2) ∧ M' = up2 M 0 11 (M 0 11 + 1)) := by
    refine r_aload_n d_92_21 rfl (by omega) ?_
    refine r_bipush d_92_22 rfl ?_
    refine r_callvj d_92_24 q_92_91 rfl rfl hbad ?_
    refine r_iret d_92_27 rt_92 ?_
    exact ⟨rfl, rfl⟩
  refine r_aload_n d_92_0 rfl (by omega) ?_
  refine r_iload_n d_92_1 rfl ?_
  refine r_callvp d_92_2 q_92_106 rfl rfl (c_isModule M k) ?_
  by_cases hk : 0 ≤ k ∧ k ≤ 3
  · rw [if_pos hk]
    refine r_if_eq (t := 21) d_92_5 rfl (fun hz => absurd hz (by decide)) (fun _ => ?_)
    refine r_iload_n d_92_8 rfl ?_
    by_cases h2 : i < 0
    · refine r_if_lt (t := 21) d_92_9 rfl (fun _ => ?_) (fun hz => absurd h2 hz)
      exact key
    · refine r_if_lt (t := 21) d_92_9 rfl (fun hz => absurd hz h2) (fun _ => ?_)
      refine r_iload_n d_92_12 rfl ?_
      by_cases h3 : w < 0
      · refine r_if_lt (t := 21) d_92_13 rfl (fun _ => ?_) (fun hz => absurd h3 hz)
        exact key
      · refine r_if_lt (t := 21) d_92_13 rfl (fun hz => absurd hz h3) (fun _ => ?_)
        refine r_iload_n d_92_16 rfl ?_
        refine r_iconst d_92_17 rfl ?_
        refine r_icmp_le (t := 28) d_92_18 rfl (fun hz => absurd hz (by omega)) (fun _ => ?_)
        exact key
  · rw [if_neg hk]
    refine r_if_eq (t := 21) d_92_5 rfl (fun _ => ?_) (fun hz => absurd rfl hz)
    exact key
theorem c_factor {M : Mo} {s : Sst} (hv : vs s) (hc : cuC M s) (hr : rfs M) {k i w : Nat} (hk : k < 4) (hw : w < 4) : CI 92 [(2, 0), (0, (k : Int)), (0, (i : Int)), (0, (w : Int))] M (fun z M' => facV (s.2.1 k) (mdA s k) i w z ∧ Fr WXf M M' ∧ rfs M') := by
  obtain ⟨⟨r, hr1⟩, r2, hr2⟩ := hr
  refine Cl.intro (L := [(2, 0), (0, (k : Int)), (0, (i : Int)), (0, (w : Int)), (9, 0)]) (rcv_v ow_92.2.1 sh_0) (by unfold entl; rw [mx_92]; rfl) (by rw [mx_92]; exact Nat.le_of_ble_eq_true rfl) rfl ?_
  refine r_aload_n d_92_0 rfl (by omega) ?_
  refine r_iload_n d_92_1 rfl ?_
  refine r_callvp d_92_2 q_92_106 rfl rfl (c_isModule M k) ?_
  rw [if_pos (by omega)]
  refine r_if_eq (t := 21) d_92_5 rfl (fun hz => absurd hz (by decide)) (fun _ => ?_)
  refine r_iload_n d_92_8 rfl ?_
  refine r_if_lt (t := 21) d_92_9 rfl (fun hz => absurd hz (by omega)) (fun _ => ?_)
  refine r_iload_n d_92_12 rfl ?_
  refine r_if_lt (t := 21) d_92_13 rfl (fun hz => absurd hz (by omega)) (fun _ => ?_)
  refine r_iload_n d_92_16 rfl ?_
  refine r_iconst d_92_17 rfl ?_
  refine r_icmp_le (t := 28) d_92_18 rfl (fun _ => ?_) (fun hz => absurd (by omega) hz)
  refine r_aload_n d_92_28 rfl (by omega) ?_
  refine r_getc (ki := 6) d_92_29 q_92_53 rfl sh_0 fx_0_6 (by omega) ?_
  refine r_aload_n d_92_32 rfl (by omega) ?_
  refine r_getc (ki := 1) d_92_33 q_92_18 rfl sh_0 fx_0_1 (by omega) ?_
  refine r_iload_n d_92_36 rfl ?_
  refine r_aaloadc d_92_37 sh_2 (by decide) (by omega) (by omega) (fxM (by omega) (by omega)) (by omega) ?_
  refine r_callvr d_92_38 q_92_204 rfl rfl (c_finds hv.1 hc.1 fxF81 (shM hk) hr1 (vs_6 hv hk) (hc.2 k hk)) (fun M1 hM1 => ?_)
  obtain ⟨hF, p, r', sz, Tm, p6, hcnt, hri, hf, hS⟩ := hM1
  have hc1 : cuC M1 s := hc.fr hF (fun x y q => by unfold WFd at q; omega)
  have hl : ((List.range p).map (tyF sz Tm)).length = p := by rw [List.length_map, List.length_range]
  have hr21 := hr2.fr hF (fun y q => by unfold WFd at q; omega)
  have hFx : Fr WXf M M1 := hF.mono (fun x y q => WFd_X (Or.inl rfl) q)
  refine r_iload_n d_92_41 rfl ?_
  refine r_aload_n d_92_42 rfl (by omega) ?_
  refine r_getc (ki := 6) d_92_43 q_92_53 rfl sh_0 fx_0_6 (by omega) ?_
  refine r_getfv (ki := 2) d_92_46 q_92_207 rfl sh_81 hcnt ?_
  by_cases hip : i < p
  · refine r_icmp_lt (t := 54) d_92_49 rfl (fun _ => ?_) (fun hz => absurd (by omega) hz)
    refine r_aload_n d_92_54 rfl (by omega) ?_
    refine r_getc (ki := 6) d_92_55 q_92_53 rfl sh_0 fx_0_6 (by omega) ?_
    refine r_getc (ki := 1) d_92_58 q_92_210 rfl sh_81 fx_81_1 (by omega) ?_
    refine r_iload_n d_92_61 rfl ?_
    have hi6 := hri.1 i (by omega)
    have e1 : M1 82 (i : Int) = r' i := hi6.1
    refine r_aaload d_92_62 (shF1 fxF81) (by decide) (by omega) (by omega) (by show 0 ≤ M1 82 _; rw [e1]; omega) ?_
    show Rn 92 _ _ [(2, M1 82 (i : Int))] _ _
    rw [e1]
    obtain ⟨q1, q2, q3⟩ := hf i hip
    have hsi := hi6.2.1
    have hfin : ∀ (z : Int) (M3 : Mo), Fr WHm M1 M3 → ((w = 0 → z = sz i) ∧ (w = 1 → z = cnY ((List.range p).map (tyF sz Tm)) (ty (sz i) (sqA (sz i) (Tm i)))) ∧ (w = 2 → z = wys (sz i) (sz i) (Tm i) (Tm i)) ∧ (w = 3 → z = wys (sz i) (s.2.1 k) (Tm i) (mdA s k))) → facV (s.2.1 k) (mdA s k) i w z ∧ Fr WXf M M3 ∧ rfs M3 := fun z M3 hF3 hz => ⟨⟨_, hS, Or.inr ⟨by rw [hl]; exact hip, sz i, Tm i, sqA (sz i) (Tm i), q2, q3, by rw [rng_gt hip]; rfl, hz⟩⟩, hFx.trans hF3 (fun x y q => q) (fun x y q => by unfold WHm at q; unfold WXf WX; omega), ⟨_, hri.fr hF3 (fun y q => by unfold WHm at q; omega)⟩, ⟨_, hr21.fr hF3 (fun y q => by unfold WHm at q; omega)⟩⟩
    have hWr : ∀ x y, WHm x y → ¬ WA (r' i) x y := fun x y h1 h2 => by
      unfold WHm at h1
      unfold WA at h2
      omega
    refine r_astore d_92_63 (by omega) rfl (stl_5_4 rfl rfl) ?_
    refine r_iload_n d_92_65 rfl ?_
    rcases (show w = 0 ∨ w = 1 ∨ w = 2 ∨ w = 3 by omega) with q | q | q | q
    · subst q
      refine r_tabin (t := 92) d_92_66 (by omega) rfl rfl ?_
      refine r_aload d_92_92 rfl (by omega) ?_
      refine r_getf (ki := 1) d_92_94 q_92_149 rfl hsi ?_
      refine r_iret d_92_97 rt_92 ?_
      exact ⟨_, rfl, hfin _ M1 Fr.refl ⟨fun _ => q1.1, fun z => by omega, fun z => by omega, fun z => by omega⟩⟩
    · subst q
      refine r_tabin (t := 98) d_92_66 (by omega) rfl rfl ?_
      have hcn := c_countOf hv.1 fxF81 hsi p6 hcnt (r := r') (fun k hk => ⟨(hri.1 k hk).1, (hri.1 k hk).2.1⟩) (sz := sz) (Tm := Tm) (fun k hk => (hf k hk).1) q1
      refine r_aload_n d_92_98 rfl (by omega) ?_
      refine r_getc (ki := 6) d_92_99 q_92_53 rfl sh_0 fx_0_6 (by omega) ?_
      refine r_aload d_92_102 rfl (by omega) ?_
      refine r_callvp d_92_104 q_92_213 rfl rfl hcn ?_
      refine r_iret d_92_107 rt_92 ?_
      exact ⟨_, rfl, hfin _ M1 Fr.refl ⟨fun z => by omega, fun _ => rfl, fun z => by omega, fun z => by omega⟩⟩
    · subst q
      refine r_tabin (t := 108) d_92_66 (by omega) rfl rfl ?_
      refine r_aload_n d_92_108 rfl (by omega) ?_
      refine r_getc (ki := 8) d_92_109 q_92_63 rfl sh_0 fx_0_8 (by omega) ?_
      refine r_aload d_92_112 rfl (by omega) ?_
      refine r_aload d_92_114 rfl (by omega) ?_
      refine r_callvi d_92_116 q_92_216 rfl rfl (c_dimension hv.1 hc1.1 hsi hsi q1 q1 (fun a b h => ⟨hWr a b h, hWr a b h⟩)) (fun x M3 hM3 => ?_)
      refine r_iret d_92_119 rt_92 ?_
      exact ⟨_, rfl, hfin _ M3 hM3.2 ⟨fun z => by omega, fun z => by omega, fun _ => hM3.1, fun z => by omega⟩⟩
    · subst q
      refine r_tabout (t := 120) d_92_66 (by omega) rfl ?_
      refine r_aload_n d_92_120 rfl (by omega) ?_
      refine r_getc (ki := 8) d_92_121 q_92_63 rfl sh_0 fx_0_8 (by omega) ?_
      refine r_aload d_92_124 rfl (by omega) ?_
      refine r_aload_n d_92_126 rfl (by omega) ?_
      refine r_getc (ki := 1) d_92_127 q_92_18 rfl sh_0 fx_0_1 (by omega) ?_
      refine r_iload_n d_92_130 rfl ?_
      refine r_aaloadc d_92_131 sh_2 (by decide) (by omega) (by omega) (fxM (by omega) (by omega)) (by omega) ?_
      refine r_callvi d_92_132 q_92_216 rfl rfl (c_dimension hv.1 hc1.1 hsi (shM hk) q1 (hc1.2 k hk) (fun a b h => ⟨hWr a b h, WHm_M hk a b h⟩)) (fun x M3 hM3 => ?_)
      refine r_iret d_92_135 rt_92 ?_
      exact ⟨_, rfl, hfin _ M3 hM3.2 ⟨fun z => by omega, fun z => by omega, fun z => by omega, fun _ => hM3.1⟩⟩
  · refine r_icmp_lt (t := 54) d_92_49 rfl (fun hz => absurd hz (by omega)) (fun _ => ?_)
    refine r_iconst d_92_52 rfl ?_
    refine r_iret d_92_53 rt_92 ?_
    exact ⟨_, rfl, ⟨_, hS, Or.inl ⟨by rw [hl]; omega, rfl⟩⟩, hFx, ⟨_, hri⟩, ⟨_, hr21⟩⟩
theorem c_telling_bad (M : Mo) (hb : cbC M) {k i j : Int} (h : ¬ ((0 ≤ k ∧ k ≤ 3) ∧ 0 ≤ i ∧ 0 ≤ j)) : PJ 93 [(2, 0), (0, k), (0, i), (0, j)] M (-2) (up2 M 0 11 (M 0 11 + 1)) := by
  have hbad := c_fails_b M hb
  refine Cl.intro (L := [(2, 0), (0, k), (0, i), (0, j)]) (rcv_v ow_93.2.1 sh_0) (by unfold entl; rw [mx_93]; rfl) (by rw [mx_93]; exact Nat.le_of_ble_eq_true rfl) rfl ?_
  have key : Rn 93 16 [(2, 0), (0, k), (0, i), (0, j)] [] M (fun v M' => v = some (0, -2) ∧ M' = up2 M 0 11 (M 0 11 + 1)) := by
    refine r_aload_n d_93_16 rfl (by omega) ?_
    refine r_bipush d_93_17 rfl ?_
    refine r_callvj d_93_19 q_93_91 rfl rfl hbad ?_
    refine r_iret d_93_22 rt_93 ?_
    exact ⟨rfl, rfl⟩
  refine r_aload_n d_93_0 rfl (by omega) ?_
  refine r_iload_n d_93_1 rfl ?_
  refine r_callvp d_93_2 q_93_106 rfl rfl (c_isModule M k) ?_
  by_cases hk : 0 ≤ k ∧ k ≤ 3
  · rw [if_pos hk]
    refine r_if_eq (t := 16) d_93_5 rfl (fun hz => absurd hz (by decide)) (fun _ => ?_)
    refine r_iload_n d_93_8 rfl ?_
    by_cases h2 : i < 0
    · refine r_if_lt (t := 16) d_93_9 rfl (fun _ => ?_) (fun hz => absurd h2 hz)
      exact key
    · refine r_if_lt (t := 16) d_93_9 rfl (fun hz => absurd hz h2) (fun _ => ?_)
      refine r_iload_n d_93_12 rfl ?_
      refine r_if_ge (t := 23) d_93_13 rfl (fun hz => absurd hz (fun q => h ⟨hk, by omega, q⟩)) (fun _ => ?_)
      exact key
  · rw [if_neg hk]
    refine r_if_eq (t := 16) d_93_5 rfl (fun _ => ?_) (fun hz => absurd rfl hz)
    exact key
theorem c_telling {M : Mo} {s : Sst} (hv : vs s) (hc : cuC M s) (hr : rfs M) {k i : Nat} {j : Int} (hk : k < 4) (hj : 0 ≤ j) (hj2 : j < 2147483648) : CI 93 [(2, 0), (0, (k : Int)), (0, (i : Int)), (0, j)] M (fun z M' => telV (s.2.1 k) (mdA s k) i j z ∧ Fr WXf M M' ∧ rfs M') := by
  obtain ⟨⟨r, hr1⟩, r2, hr2⟩ := hr
  refine Cl.intro (L := [(2, 0), (0, (k : Int)), (0, (i : Int)), (0, j)]) (rcv_v ow_93.2.1 sh_0) (by unfold entl; rw [mx_93]; rfl) (by rw [mx_93]; exact Nat.le_of_ble_eq_true rfl) rfl ?_
  refine r_aload_n d_93_0 rfl (by omega) ?_
  refine r_iload_n d_93_1 rfl ?_
  refine r_callvp d_93_2 q_93_106 rfl rfl (c_isModule M k) ?_
  rw [if_pos (by omega)]
  refine r_if_eq (t := 16) d_93_5 rfl (fun hz => absurd hz (by decide)) (fun _ => ?_)
  refine r_iload_n d_93_8 rfl ?_
  refine r_if_lt (t := 16) d_93_9 rfl (fun hz => absurd hz (by omega)) (fun _ => ?_)
  refine r_iload_n d_93_12 rfl ?_
  refine r_if_ge (t := 23) d_93_13 rfl (fun _ => ?_) (fun hz => absurd hj hz)
  refine r_aload_n d_93_23 rfl (by omega) ?_
  refine r_getc (ki := 6) d_93_24 q_93_53 rfl sh_0 fx_0_6 (by omega) ?_
  refine r_aload_n d_93_27 rfl (by omega) ?_
  refine r_getc (ki := 1) d_93_28 q_93_18 rfl sh_0 fx_0_1 (by omega) ?_
  refine r_iload_n d_93_31 rfl ?_
  refine r_aaloadc d_93_32 sh_2 (by decide) (by omega) (by omega) (fxM (by omega) (by omega)) (by omega) ?_
  refine r_callvr d_93_33 q_93_204 rfl rfl (c_finds hv.1 hc.1 fxF81 (shM hk) hr1 (vs_6 hv hk) (hc.2 k hk)) (fun M1 hM1 => ?_)
  obtain ⟨hF, p, r', sz, Tm, p6, hcnt, hri, hf, hS⟩ := hM1
  have hl : ((List.range p).map (tyF sz Tm)).length = p := by rw [List.length_map, List.length_range]
  refine r_iload_n d_93_36 rfl ?_
  refine r_aload_n d_93_37 rfl (by omega) ?_
  refine r_getc (ki := 6) d_93_38 q_93_53 rfl sh_0 fx_0_6 (by omega) ?_
  refine r_getfv (ki := 2) d_93_41 q_93_207 rfl sh_81 hcnt ?_
  by_cases hip : i < p
  · refine r_icmp_lt (t := 49) d_93_44 rfl (fun _ => ?_) (fun hz => absurd (by omega) hz)
    refine r_aload_n d_93_49 rfl (by omega) ?_
    refine r_getc (ki := 6) d_93_50 q_93_53 rfl sh_0 fx_0_6 (by omega) ?_
    refine r_getc (ki := 1) d_93_53 q_93_210 rfl sh_81 fx_81_1 (by omega) ?_
    refine r_iload_n d_93_56 rfl ?_
    have hi6 := hri.1 i (by omega)
    have e1 : M1 82 (i : Int) = r' i := hi6.1
    refine r_aaload d_93_57 (shF1 fxF81) (by decide) (by omega) (by omega) (by show 0 ≤ M1 82 _; rw [e1]; omega) ?_
    show Rn 93 _ _ [(2, M1 82 (i : Int))] _ _
    rw [e1]
    obtain ⟨q1, q2, q3⟩ := hf i hip
    have hent := c_entryInSequence hv.1 hi6.2.1 q1 q2.1 (j := j.toNat) (by omega)
    rw [show ((j.toNat : Nat) : Int) = j by omega] at hent
    refine r_iload_n d_93_58 rfl ?_
    refine r_callvp d_93_59 q_93_220 rfl rfl hent ?_
    refine r_iret d_93_62 rt_93 ?_
    refine ⟨_, rfl, ⟨_, hS, Or.inr ⟨by rw [hl]; exact hip, sz i, sqA (sz i) (Tm i), by rw [rng_gt hip]; rfl, ?_⟩⟩, hF.mono (fun x y q => WFd_X (Or.inl rfl) q), ⟨_, hri⟩, ⟨_, hr2.fr hF (fun y q => by unfold WFd at q; omega)⟩⟩
    by_cases w : j.toNat < 2 * (sz i * sz i)
    · rw [if_pos w, if_pos (by omega)]
    · rw [if_neg w, if_neg (by omega)]
  · refine r_icmp_lt (t := 49) d_93_44 rfl (fun hz => absurd hz (by omega)) (fun _ => ?_)
    refine r_iconst d_93_47 rfl ?_
    refine r_iret d_93_48 rt_93 ?_
    exact ⟨_, rfl, ⟨_, hS, Or.inl ⟨by rw [hl]; omega, rfl⟩⟩, hF.mono (fun x y q => WFd_X (Or.inl rfl) q), ⟨_, hri⟩, ⟨_, hr2.fr hF (fun y q => by unfold WFd at q; omega)⟩⟩
theorem c_common_bad (M : Mo) (hb : cbC M) {k x : Int} (h : ¬ ((0 ≤ k ∧ k ≤ 3) ∧ 0 ≤ x ∧ x ≤ 3)) : PJ 94 [(2, 0), (0, k), (0, x)] M (-2) (up2 M 0 11 (M 0 11 + 1)) := by
  have hbad := c_fails_b M hb
  refine Cl.intro (L := [(2, 0), (0, k), (0, x)]) (rcv_v ow_94.2.1 sh_0) (by unfold entl; rw [mx_94]; rfl) (by rw [mx_94]; exact Nat.le_of_ble_eq_true rfl) rfl ?_
  have key : Rn 94 16 [(2, 0), (0, k), (0, x)] [] M (fun v M' => v = some (0, -2) ∧ M' = up2 M 0 11 (M 0 11 + 1)) := by
    refine r_aload_n d_94_16 rfl (by omega) ?_
    refine r_bipush d_94_17 rfl ?_
    refine r_callvj d_94_19 q_94_91 rfl rfl hbad ?_
    refine r_iret d_94_22 rt_94 ?_
    exact ⟨rfl, rfl⟩
  refine r_aload_n d_94_0 rfl (by omega) ?_
  refine r_iload_n d_94_1 rfl ?_
  refine r_callvp d_94_2 q_94_106 rfl rfl (c_isModule M k) ?_
  by_cases h1 : 0 ≤ k ∧ k ≤ 3
  · rw [if_pos h1]
    refine r_if_eq (t := 16) d_94_5 rfl (fun hz => absurd hz (by decide)) (fun _ => ?_)
    refine r_aload_n d_94_8 rfl (by omega) ?_
    refine r_iload_n d_94_9 rfl ?_
    refine r_callvp d_94_10 q_94_106 rfl rfl (c_isModule M x) ?_
    rw [if_neg (fun q => h ⟨h1, q⟩)]
    refine r_if_ne (t := 23) d_94_13 rfl (fun hz => absurd hz (fun q => q rfl)) (fun _ => ?_)
    exact key
  · rw [if_neg h1]
    refine r_if_eq (t := 16) d_94_5 rfl (fun _ => ?_) (fun hz => absurd rfl hz)
    exact key
theorem c_common {M : Mo} {s : Sst} (hv : vs s) (hc : cuC M s) (hr : rfs M) {x y : Nat} (hx : x < 4) (hy : y < 4) : CI 94 [(2, 0), (0, (x : Int)), (0, (y : Int))] M (fun z M' => comP (s.2.1 x) (mdA s x) (s.2.1 y) (mdA s y) z ∧ Fr WXf M M' ∧ rfs M') := by
  obtain ⟨⟨r, hr1⟩, r2, hr2⟩ := hr
  refine Cl.intro (L := [(2, 0), (0, (x : Int)), (0, (y : Int))]) (rcv_v ow_94.2.1 sh_0) (by unfold entl; rw [mx_94]; rfl) (by rw [mx_94]; exact Nat.le_of_ble_eq_true rfl) rfl ?_
  refine r_aload_n d_94_0 rfl (by omega) ?_
  refine r_iload_n d_94_1 rfl ?_
  refine r_callvp d_94_2 q_94_106 rfl rfl (c_isModule M x) ?_
  rw [if_pos (by omega)]
  refine r_if_eq (t := 16) d_94_5 rfl (fun hz => absurd hz (by decide)) (fun _ => ?_)
  refine r_aload_n d_94_8 rfl (by omega) ?_
  refine r_iload_n d_94_9 rfl ?_
  refine r_callvp d_94_10 q_94_106 rfl rfl (c_isModule M y) ?_
  rw [if_pos (by omega)]
  refine r_if_ne (t := 23) d_94_13 rfl (fun _ => ?_) (fun hz => absurd (by decide) hz)
  refine r_aload_n d_94_23 rfl (by omega) ?_
  refine r_getc (ki := 6) d_94_24 q_94_53 rfl sh_0 fx_0_6 (by omega) ?_
  refine r_aload_n d_94_27 rfl (by omega) ?_
  refine r_getc (ki := 1) d_94_28 q_94_18 rfl sh_0 fx_0_1 (by omega) ?_
  refine r_iload_n d_94_31 rfl ?_
  refine r_aaloadc d_94_32 sh_2 (by decide) (by omega) (by omega) (fxM (by omega) (by omega)) (by omega) ?_
  refine r_callvr d_94_33 q_94_204 rfl rfl (c_finds hv.1 hc.1 fxF81 (shM hx) hr1 (vs_6 hv hx) (hc.2 x hx)) (fun M1 hM1 => ?_)
  obtain ⟨hF, p, r', sz, Tm, p6, hcnt, hri, hf, hS⟩ := hM1
  have hc1 : cuC M1 s := hc.fr hF (fun x y q => by unfold WFd at q; omega)
  refine r_aload_n d_94_36 rfl (by omega) ?_
  refine r_getc (ki := 7) d_94_37 q_94_57 rfl sh_0 fx_0_7 (by omega) ?_
  refine r_aload_n d_94_40 rfl (by omega) ?_
  refine r_getc (ki := 1) d_94_41 q_94_18 rfl sh_0 fx_0_1 (by omega) ?_
  refine r_iload_n d_94_44 rfl ?_
  refine r_aaloadc d_94_45 sh_2 (by decide) (by omega) (by omega) (fxM (by omega) (by omega)) (by omega) ?_
  refine r_callvr d_94_46 q_94_204 rfl rfl (c_finds hv.1 hc1.1 fxF106 (shM hy) (hr2.fr hF (fun y q => by unfold WFd at q; omega)) (vs_6 hv hy) (hc1.2 y hy)) (fun M2 hM2 => ?_)
  obtain ⟨hF2, p', r1', sz', Tm', p6', hcnt', hri', hf', hS'⟩ := hM2
  have hri2 := hri.fr hF2 (fun y q => by unfold WFd at q; omega)
  have hcnt2 : M2 81 2 = p := (hF2 _ _ (by unfold WFd; omega)).trans hcnt
  have hsh := c_sharedWith hv.1 fxF81 fxF106 p6 p6' hcnt2 hcnt' (r := r') (r' := r1') (fun k hk => ⟨(hri2.1 k hk).1, (hri2.1 k hk).2.1⟩) (fun k hk => ⟨(hri'.1 k hk).1, (hri'.1 k hk).2.1⟩) (sz := sz) (sz' := sz') (Tm := Tm) (Tm' := Tm') (fun k hk => (hf k hk).1.fr hF2 (fun x y q1 q2 => by
    have := hri.1 k (by omega)
    unfold WFd at q2
    unfold WA at q1
    omega)) (fun k hk => (hf' k hk).1)
  refine r_aload_n d_94_49 rfl (by omega) ?_
  refine r_getc (ki := 6) d_94_50 q_94_53 rfl sh_0 fx_0_6 (by omega) ?_
  refine r_aload_n d_94_53 rfl (by omega) ?_
  refine r_getc (ki := 7) d_94_54 q_94_57 rfl sh_0 fx_0_7 (by omega) ?_
  refine r_callvp d_94_57 q_94_223 rfl rfl hsh ?_
  refine r_iret d_94_60 rt_94 ?_
  exact ⟨_, rfl, shQ_com hS hS', hF.trans hF2 (fun x y q => WFd_X (Or.inl rfl) q) (fun x y q => WFd_X (Or.inr rfl) q), ⟨_, hri2⟩, ⟨_, hri'⟩⟩
end
