/-! The model: factor, telling. -/
theorem m_factor_bad (M : Mo) (hb : cb M) {k i w : Int} (h : ¬ ((0 ≤ k ∧ k ≤ 3) ∧ 0 ≤ i ∧ 0 ≤ w ∧ w ≤ 3)) : PJ 181 [(2, 217), (0, k), (0, i), (0, w)] M (-2) (up2 M 218 0 (M 218 0 + 1)) := by
  refine Cl.intro (L := [(2, 217), (0, k), (0, i), (0, w), (9, 0)]) (rcv_v ow_181.2.1 sh_217) (by unfold entl; rw [mx_181]; rfl) (by rw [mx_181]; exact Nat.le_of_ble_eq_true rfl) rfl ?_
  have hbad := m_bad M (hb 0 (by omega) (by omega))
  have hend : Rn 181 20 [(2, 217), (0, k), (0, i), (0, w), (9, 0)] [] M (fun v M' => v = some (0, -2) ∧ M' = up2 M 218 0 (M 218 0 + 1)) := by
    refine r_aload_n d_181_20 rfl (by omega) ?_
    refine r_callvj d_181_21 q_181_172 rfl rfl hbad ?_
    refine r_iret d_181_24 rt_181 ?_
    exact ⟨rfl, rfl⟩
  refine r_iload_n d_181_0 rfl ?_
  refine r_callsp d_181_1 q_181_178 rfl rfl (m_isModule M k) ?_
  by_cases q1 : 0 ≤ k ∧ k ≤ 3
  · rw [if_pos q1]
    refine r_if_eq (t := 20) d_181_4 rfl (fun hz => absurd hz (by decide)) (fun _ => ?_)
    refine r_iload_n d_181_7 rfl ?_
    by_cases q2 : 0 ≤ i
    · refine r_if_lt (t := 20) d_181_8 rfl (fun hz => absurd hz (by omega)) (fun _ => ?_)
      refine r_iload_n d_181_11 rfl ?_
      refine r_iconst d_181_12 rfl ?_
      refine r_iconst d_181_13 rfl ?_
      refine r_callsp d_181_14 q_181_118 rfl rfl (m_in M w 0 3) ?_
      rw [if_neg (by omega)]
      refine r_if_ne (t := 25) d_181_17 rfl (fun hz => absurd hz (fun z => z rfl)) (fun _ => ?_)
      exact hend
    · refine r_if_lt (t := 20) d_181_8 rfl (fun _ => ?_) (fun hz => absurd (by omega) hz)
      exact hend
  · rw [if_neg q1]
    refine r_if_eq (t := 20) d_181_4 rfl (fun _ => ?_) (fun hz => absurd rfl hz)
    exact hend
theorem cu.wcu {M M' : Mo} {s : Sst} (hv : vs s) (h : cu M s) (hF : Fr WCu M M') : cu M' s := by
  refine ⟨(hF _ _ (by unfold WCu W1; omega)).trans h.1, fun k hk => ⟨(hF _ _ (by unfold WCu W1; omega)).trans (h.2 k hk).1, fun g i j a1 a2 a3 => ?_⟩⟩
  have h6 := vs_6 hv hk
  rw [hF _ _ (by unfold WCu W1; omega)]
  exact (h.2 k hk).2 g i j a1 a2 a3
theorem m_factor {M : Mo} {s : Sst} (hv : vs s) (hc : cu M s) {k i w : Nat} (hk : k < 4) (hw : w < 4) (hct : M 217 5 = k → CT M (s.2.1 k) (mdA s k)) : CI 181 [(2, 217), (0, (k : Int)), (0, (i : Int)), (0, (w : Int))] M (fun z M' => facV (s.2.1 k) (mdA s k) i w z ∧ Fr WCu M M' ∧ M' 217 5 = k ∧ CT M' (s.2.1 k) (mdA s k)) := by
  refine Cl.intro (L := [(2, 217), (0, (k : Int)), (0, (i : Int)), (0, (w : Int)), (9, 0)]) (rcv_v ow_181.2.1 sh_217) (by unfold entl; rw [mx_181]; rfl) (by rw [mx_181]; exact Nat.le_of_ble_eq_true rfl) rfl ?_
  refine r_iload_n d_181_0 rfl ?_
  refine r_callsp d_181_1 q_181_178 rfl rfl (m_isModule M k) ?_
  rw [if_pos (by omega)]
  refine r_if_eq (t := 20) d_181_4 rfl (fun hz => absurd hz (by decide)) (fun _ => ?_)
  refine r_iload_n d_181_7 rfl ?_
  refine r_if_lt (t := 20) d_181_8 rfl (fun hz => absurd hz (by omega)) (fun _ => ?_)
  refine r_iload_n d_181_11 rfl ?_
  refine r_iconst d_181_12 rfl ?_
  refine r_iconst d_181_13 rfl ?_
  refine r_callsp d_181_14 q_181_118 rfl rfl (m_in M w 0 3) ?_
  rw [if_pos (by omega)]
  refine r_if_ne (t := 25) d_181_17 rfl (fun _ => ?_) (fun hz => absurd (by decide) hz)
  refine r_aload_n d_181_25 rfl (by omega) ?_
  refine r_iload_n d_181_26 rfl ?_
  refine r_callvr d_181_27 q_181_238 rfl rfl (m_cutsA hv hc hk hct) (fun M2 hM2 => ?_)
  obtain ⟨hF, h5, hCT⟩ := hM2
  have hCT2 := hCT
  have hc2 := hc.wcu hv hF
  obtain ⟨p, sz, B, F, O, h1, h2, h3, h4, g5, g6, g7, g8⟩ := hCT
  obtain ⟨k1, k2, k3⟩ := srtL_of g5 g6 g8
  refine r_iload_n d_181_30 rfl ?_
  refine r_aload_n d_181_31 rfl (by omega) ?_
  refine r_getfv (ki := 16) d_181_32 q_181_226 rfl sh_217 h3 ?_
  by_cases hip : i < p
  · obtain ⟨hbp, hget⟩ := k3 i hip
    have hor := g7 i hip
    have hB := h4 _ hbp
    have hb6 := hB.2.1.2.1
    have hfin : ∀ (z : Int) (M3 : Mo), Fr W1 M2 M3 → ((w = 0 → z = sz (O.getD i 0)) ∧ (w = 1 → z = cnY (O.map (fun b => ty (sz b) (F b))) (ty (sz (O.getD i 0)) (F (O.getD i 0)))) ∧ (w = 2 → z = wys (sz (O.getD i 0)) (sz (O.getD i 0)) (B (O.getD i 0)) (B (O.getD i 0))) ∧ (w = 3 → z = wys (sz (O.getD i 0)) (s.2.1 k) (B (O.getD i 0)) (mdA s k))) → facV (s.2.1 k) (mdA s k) i w z ∧ Fr WCu M M3 ∧ M3 217 5 = k ∧ CT M3 (s.2.1 k) (mdA s k) := fun z M3 hF3 hz => by
      refine ⟨⟨_, k1, Or.inr ⟨by omega, sz (O.getD i 0), B (O.getD i 0), F (O.getD i 0), hB.2.1, hB.2.2.1, hget, hz⟩⟩, hF.trans hF3 (fun x y q => q) (fun x y q => Or.inl q), (hF3 _ _ (by unfold W1; omega)).trans h5, hCT2.fr hF3 (fun x y q => q)⟩
    refine r_icmp_lt (t := 40) d_181_35 rfl (fun _ => ?_) (fun hz => absurd (by omega) hz)
    refine r_iconst d_181_40 rfl ?_
    refine r_aload_n d_181_41 rfl (by omega) ?_
    refine r_getc (ki := 18) d_181_42 q_181_56 rfl sh_217 fx_217_18 (by omega) ?_
    refine r_iload_n d_181_45 rfl ?_
    refine r_ialoadv d_181_46 sh_231 (by omega) (by omega) hor ?_
    refine r_iadd d_181_47 (by omega) ?_
    refine r_istore d_181_48 rfl (stl_5_4 rfl rfl) ?_
    refine r_iload_n d_181_50 rfl ?_
    rcases (show w = 0 ∨ w = 1 ∨ w = 2 ∨ w = 3 by omega) with q | q | q | q
    · subst q
      refine r_tabin (t := 76) d_181_51 (by omega) rfl rfl ?_
      refine r_aload_n d_181_76 rfl (by omega) ?_
      refine r_getc (ki := 2) d_181_77 q_181_17 rfl sh_217 fx_217_2 (by omega) ?_
      refine r_iload d_181_80 rfl ?_
      refine r_ialoadv d_181_82 sh_219 (by omega) (by omega) hB.1.1 ?_
      refine r_iret d_181_83 rt_181 ?_
      exact ⟨_, rfl, hfin _ M2 Fr.refl ⟨fun _ => rfl, fun z => by omega, fun z => by omega, fun z => by omega⟩⟩
    · subst q
      refine r_tabin (t := 84) d_181_51 (by omega) rfl rfl ?_
      have hal := m_alikeTo (M := M2) (sz := sz) (F := F) h2 h3 (fun b hb => ⟨(h4 b hb).2.1.2.1, (h4 b hb).1.1⟩) (fun b hb => (h4 b hb).2.2.2) hbp
      refine r_aload_n d_181_84 rfl (by omega) ?_
      refine r_aload_n d_181_85 rfl (by omega) ?_
      refine r_getc (ki := 18) d_181_86 q_181_56 rfl sh_217 fx_217_18 (by omega) ?_
      refine r_iload_n d_181_89 rfl ?_
      refine r_ialoadv d_181_90 sh_231 (by omega) (by omega) hor ?_
      refine r_callvp d_181_91 q_181_241 rfl rfl hal ?_
      refine r_iret d_181_94 rt_181 ?_
      refine ⟨_, rfl, hfin _ M2 Fr.refl ⟨fun z => by omega, fun _ => ?_, fun z => by omega, fun z => by omega⟩⟩
      unfold cnY
      rw [(g5.map (fun b => ty (sz b) (F b))).countP_eq]
    · subst q
      refine r_tabin (t := 95) d_181_51 (by omega) rfl rfl ?_
      refine r_aload_n d_181_95 rfl (by omega) ?_
      refine r_iload d_181_96 rfl ?_
      refine r_iload d_181_98 rfl ?_
      refine r_callvi d_181_100 q_181_244 rfl rfl (m_waysOf hv.1 M2 hc2.1 (by omega) (by omega) hB.1 hB.1 hB.2.1.1) (fun x M3 hM3 => ?_)
      refine r_iret d_181_103 rt_181 ?_
      exact ⟨_, rfl, hfin _ M3 hM3.2 ⟨fun z => by omega, fun z => by omega, fun _ => hM3.1, fun z => by omega⟩⟩
    · subst q
      refine r_tabout (t := 104) d_181_51 (by omega) rfl ?_
      refine r_aload_n d_181_104 rfl (by omega) ?_
      refine r_iload d_181_105 rfl ?_
      refine r_iload_n d_181_107 rfl ?_
      refine r_callvi d_181_108 q_181_244 rfl rfl (m_waysOf hv.1 M2 hc2.1 (by omega) (by omega) hB.1 (hc2.MM hv hk) (hv.2 k hk).1) (fun x M3 hM3 => ?_)
      refine r_iret d_181_111 rt_181 ?_
      exact ⟨_, rfl, hfin _ M3 hM3.2 ⟨fun z => by omega, fun z => by omega, fun z => by omega, fun _ => hM3.1⟩⟩
  · refine r_icmp_lt (t := 40) d_181_35 rfl (fun hz => absurd hz (by omega)) (fun _ => ?_)
    refine r_iconst d_181_38 rfl ?_
    refine r_iret d_181_39 rt_181 ?_
    exact ⟨_, rfl, ⟨_, k1, Or.inl ⟨by omega, rfl⟩⟩, hF, h5, hCT2⟩
theorem m_telling_bad (M : Mo) (hb : cb M) {k i j : Int} (h : ¬ ((0 ≤ k ∧ k ≤ 3) ∧ 0 ≤ i ∧ 0 ≤ j)) : PJ 182 [(2, 217), (0, k), (0, i), (0, j)] M (-2) (up2 M 218 0 (M 218 0 + 1)) := by
  refine Cl.intro (L := [(2, 217), (0, k), (0, i), (0, j), (9, 0)]) (rcv_v ow_182.2.1 sh_217) (by unfold entl; rw [mx_182]; rfl) (by rw [mx_182]; exact Nat.le_of_ble_eq_true rfl) rfl ?_
  have hbad := m_bad M (hb 0 (by omega) (by omega))
  have hend : Rn 182 15 [(2, 217), (0, k), (0, i), (0, j), (9, 0)] [] M (fun v M' => v = some (0, -2) ∧ M' = up2 M 218 0 (M 218 0 + 1)) := by
    refine r_aload_n d_182_15 rfl (by omega) ?_
    refine r_callvj d_182_16 q_182_172 rfl rfl hbad ?_
    refine r_iret d_182_19 rt_182 ?_
    exact ⟨rfl, rfl⟩
  refine r_iload_n d_182_0 rfl ?_
  refine r_callsp d_182_1 q_182_178 rfl rfl (m_isModule M k) ?_
  by_cases q1 : 0 ≤ k ∧ k ≤ 3
  · rw [if_pos q1]
    refine r_if_eq (t := 15) d_182_4 rfl (fun hz => absurd hz (by decide)) (fun _ => ?_)
    refine r_iload_n d_182_7 rfl ?_
    by_cases q2 : 0 ≤ i
    · refine r_if_lt (t := 15) d_182_8 rfl (fun hz => absurd hz (by omega)) (fun _ => ?_)
      refine r_iload_n d_182_11 rfl ?_
      refine r_if_ge (t := 20) d_182_12 rfl (fun hz => absurd hz (by omega)) (fun _ => ?_)
      exact hend
    · refine r_if_lt (t := 15) d_182_8 rfl (fun _ => ?_) (fun hz => absurd (by omega) hz)
      exact hend
  · rw [if_neg q1]
    refine r_if_eq (t := 15) d_182_4 rfl (fun _ => ?_) (fun hz => absurd rfl hz)
    exact hend
theorem m_telling {M : Mo} {s : Sst} (hv : vs s) (hc : cu M s) {k i : Nat} {j : Int} (hk : k < 4) (hj : 0 ≤ j) (hct : M 217 5 = k → CT M (s.2.1 k) (mdA s k)) : CI 182 [(2, 217), (0, (k : Int)), (0, (i : Int)), (0, j)] M (fun z M' => telV (s.2.1 k) (mdA s k) i j z ∧ Fr WCu M M' ∧ M' 217 5 = k ∧ CT M' (s.2.1 k) (mdA s k)) := by
  refine Cl.intro (L := [(2, 217), (0, (k : Int)), (0, (i : Int)), (0, j), (9, 0)]) (rcv_v ow_182.2.1 sh_217) (by unfold entl; rw [mx_182]; rfl) (by rw [mx_182]; exact Nat.le_of_ble_eq_true rfl) rfl ?_
  refine r_iload_n d_182_0 rfl ?_
  refine r_callsp d_182_1 q_182_178 rfl rfl (m_isModule M k) ?_
  rw [if_pos (by omega)]
  refine r_if_eq (t := 15) d_182_4 rfl (fun hz => absurd hz (by decide)) (fun _ => ?_)
  refine r_iload_n d_182_7 rfl ?_
  refine r_if_lt (t := 15) d_182_8 rfl (fun hz => absurd hz (by omega)) (fun _ => ?_)
  refine r_iload_n d_182_11 rfl ?_
  refine r_if_ge (t := 20) d_182_12 rfl (fun _ => ?_) (fun hz => absurd (by omega) hz)
  refine r_aload_n d_182_20 rfl (by omega) ?_
  refine r_iload_n d_182_21 rfl ?_
  refine r_callvr d_182_22 q_182_238 rfl rfl (m_cutsA hv hc hk hct) (fun M2 hM2 => ?_)
  obtain ⟨hF, h5, hCT⟩ := hM2
  have hCT2 := hCT
  obtain ⟨p, sz, B, F, O, h1, h2, h3, h4, g5, g6, g7, g8⟩ := hCT
  obtain ⟨k1, k2, k3⟩ := srtL_of g5 g6 g8
  refine r_iload_n d_182_25 rfl ?_
  refine r_aload_n d_182_26 rfl (by omega) ?_
  refine r_getfv (ki := 16) d_182_27 q_182_226 rfl sh_217 h3 ?_
  by_cases hip : i < p
  · obtain ⟨hbp, hget⟩ := k3 i hip
    have hor := g7 i hip
    have hB := h4 _ hbp
    have hb6 := hB.2.1.2.1
    generalize O.getD i 0 = b at *
    have h2nn : 2 * (sz b : Int) * (sz b : Int) = 2 * ((sz b : Int) * sz b) := Int.mul_assoc _ _ _
    have hnn : (sz b : Int) * (sz b : Int) = ((sz b * sz b : Nat) : Int) := (Int.natCast_mul _ _).symm
    refine r_icmp_lt (t := 35) d_182_30 rfl (fun _ => ?_) (fun hz => absurd (by omega) hz)
    refine r_aload_n d_182_35 rfl (by omega) ?_
    refine r_getc (ki := 2) d_182_36 q_182_17 rfl sh_217 fx_217_2 (by omega) ?_
    refine r_iconst d_182_39 rfl ?_
    refine r_aload_n d_182_40 rfl (by omega) ?_
    refine r_getc (ki := 18) d_182_41 q_182_56 rfl sh_217 fx_217_18 (by omega) ?_
    refine r_iload_n d_182_44 rfl ?_
    refine r_ialoadv d_182_45 sh_231 (by omega) (by omega) hor ?_
    refine r_iadd d_182_46 (by omega) ?_
    refine r_ialoadv d_182_47 sh_219 (by omega) (by omega) hB.1.1 ?_
    refine r_istore d_182_48 rfl (stl_5_4 rfl rfl) ?_
    refine r_iload_n d_182_50 rfl ?_
    refine r_iconst d_182_51 rfl ?_
    refine r_iload d_182_52 rfl ?_
    refine r_imul d_182_54 (by omega) ?_
    refine r_iload d_182_55 rfl ?_
    refine r_imul d_182_57 (mr (a := 12) (b := 6) (by omega) (by omega) (by decide)) ?_
    rw [h2nn]
    by_cases q : j < 2 * ((sz b : Int) * sz b)
    · have hcell := (hB.2.2.2 j.toNat (by omega)).1
      rw [show ((j.toNat : Nat) : Int) = j by omega] at hcell
      have h36 : sz b * sz b ≤ 36 := Nat.mul_le_mul hb6 hb6
      refine r_icmp_ge (t := 80) d_182_58 rfl (fun hz => absurd hz (by omega)) (fun _ => ?_)
      refine r_aload_n d_182_61 rfl (by omega) ?_
      refine r_getc (ki := 17) d_182_62 q_182_53 rfl sh_217 fx_217_17 (by omega) ?_
      refine r_bipush d_182_65 rfl ?_
      refine r_aload_n d_182_67 rfl (by omega) ?_
      refine r_getc (ki := 18) d_182_68 q_182_56 rfl sh_217 fx_217_18 (by omega) ?_
      refine r_iload_n d_182_71 rfl ?_
      refine r_ialoadv d_182_72 sh_231 (by omega) (by omega) hor ?_
      refine r_imul d_182_73 (by omega) ?_
      refine r_iload_n d_182_74 rfl ?_
      refine r_iadd d_182_75 (by omega) ?_
      refine r_ialoadv d_182_76 sh_230 (by omega) (by omega) hcell ?_
      refine r_goto (t := 81) d_182_77 rfl ?_
      refine r_iret d_182_81 rt_182 ?_
      exact ⟨_, rfl, ⟨_, k1, Or.inr ⟨by omega, sz b, F b, hget, by rw [if_pos q]⟩⟩, hF, h5, hCT2⟩
    · refine r_icmp_ge (t := 80) d_182_58 rfl (fun _ => ?_) (fun hz => absurd (by omega) hz)
      refine r_iconst d_182_80 rfl ?_
      refine r_iret d_182_81 rt_182 ?_
      exact ⟨_, rfl, ⟨_, k1, Or.inr ⟨by omega, sz b, F b, hget, by rw [if_neg q]⟩⟩, hF, h5, hCT2⟩
  · refine r_icmp_lt (t := 35) d_182_30 rfl (fun hz => absurd hz (by omega)) (fun _ => ?_)
    refine r_iconst d_182_33 rfl ?_
    refine r_iret d_182_34 rt_182 ?_
    exact ⟨_, rfl, ⟨_, k1, Or.inl ⟨by omega, rfl⟩⟩, hF, h5, hCT2⟩
