/-! The model: common. -/
theorem m_common {M : Mo} {s : Sst} (hv : vs s) (hc : cu M s) {x y : Nat} (hx : x < 4) (hy : y < 4) (hct : ∀ k : Nat, k < 4 → M 217 5 = k → CT M (s.2.1 k) (mdA s k)) : CI 184 [(2, 217), (0, (x : Int)), (0, (y : Int))] M (fun z M' => comP (s.2.1 x) (mdA s x) (s.2.1 y) (mdA s y) z ∧ Fr WCm M M' ∧ M' 217 5 = y ∧ CT M' (s.2.1 y) (mdA s y)) := by
  refine Cl.intro (L := [(2, 217), (0, (x : Int)), (0, (y : Int)), (9, 0), (9, 0), (9, 0), (9, 0)]) (rcv_v ow_184.2.1 sh_217) (by unfold entl; rw [mx_184]; rfl) (by rw [mx_184]; exact Nat.le_of_ble_eq_true rfl) rfl ?_
  refine r_iload_n d_184_0 rfl ?_
  refine r_callsp d_184_1 q_184_178 rfl rfl (m_isModule M x) ?_
  rw [if_pos (by omega)]
  refine r_if_eq (t := 14) d_184_4 rfl (fun hz => absurd hz (by decide)) (fun _ => ?_)
  refine r_iload_n d_184_7 rfl ?_
  refine r_callsp d_184_8 q_184_178 rfl rfl (m_isModule M y) ?_
  rw [if_pos (by omega)]
  refine r_if_ne (t := 19) d_184_11 rfl (fun _ => ?_) (fun hz => absurd (by decide) hz)
  refine r_aload_n d_184_19 rfl (by omega) ?_
  refine r_iload_n d_184_20 rfl ?_
  refine r_callvr d_184_21 q_184_238 rfl rfl (m_cutsA hv hc hx (hct x hx)) (fun M2 hM2 => ?_)
  obtain ⟨hF2, h52, hCT⟩ := hM2
  have hCT2 := hCT
  have hc2 := hc.wcu hv hF2
  obtain ⟨p, sz, B, F, O, h1, h2, h3, h4, g5, g6, g7, g8⟩ := hCT
  obtain ⟨k1, -, -⟩ := srtL_of g5 g6 g8
  have hSt : ∀ t, (O.map (fun b => ty (sz b) (F b))).count t = cXn (fun b => ty (sz b) (F b)) p t := fun t => by
    rw [(g5.map (fun b => ty (sz b) (F b))).count_eq]
    exact ct_rng
  refine r_aload_n d_184_24 rfl (by omega) ?_
  refine r_aload_n d_184_25 rfl (by omega) ?_
  refine r_getfv (ki := 16) d_184_26 q_184_226 rfl sh_217 h3 ?_
  refine r_putf (ki := 21) d_184_29 q_184_247 rfl sh_217 fx_217_21 ?_
  refine r_iconst d_184_32 rfl ?_
  refine r_istore_n d_184_33 rfl (stl_7_3 rfl rfl) ?_
  refine dn_ind (R := fun b => ∀ (M1 : Mo) (y4 : AV), Fr WEl M2 M1 → M1 217 21 = p → (∀ b' : Nat, (b' : Int) < b → M1 234 b' = sz b' ∧ M1 236 b' = 0 ∧ ∀ c : Int, 0 ≤ c → c < 72 → M1 235 (72 * b' + c) = M2 230 (72 * b' + c)) → (y4 = (9, 0) ∨ ∃ z, y4 = (0, z)) → Rn 184 34 [(2, 217), (0, (x : Int)), (0, (y : Int)), (0, b), y4, (9, 0), (9, 0)] [] M1 _) (lo := 0) (n := (p : Int)) ?_ ?_ 0 (by omega) (by omega) (up2 M2 217 21 p) (9, 0) (fun a c h => uq_ne (by unfold WEl at h; omega)) uq_eq (fun b' h => by omega) (Or.inl rfl)
  · intro M1 y4 hF1 hmany hall hy4
    have hpc : M1 217 16 = p := (hF1 _ _ (by unfold WEl; omega)).trans h3
    refine r_iload_n d_184_34 rfl ?_
    refine r_aload_n d_184_35 rfl (by omega) ?_
    refine r_getfv (ki := 16) d_184_36 q_184_226 rfl sh_217 hpc ?_
    refine r_icmp_ge (t := 109) d_184_39 rfl (fun _ => ?_) (fun hz => absurd (by omega) hz)
    refine r_aload_n d_184_109 rfl (by omega) ?_
    refine r_iload_n d_184_110 rfl ?_
    have hc1 : cu M1 s := by
      refine ⟨(hF1 _ _ (by unfold WEl; omega)).trans hc2.1, fun k hk => ⟨(hF1 _ _ (by unfold WEl; omega)).trans (hc2.2 k hk).1, fun g i j a1 a2 a3 => ?_⟩⟩
      rw [hF1 _ _ (by unfold WEl; omega)]
      exact (hc2.2 k hk).2 g i j a1 a2 a3
    have hcty : M1 217 5 = y → CT M1 (s.2.1 y) (mdA s y) := fun hq => by
      have h51 : M1 217 5 = x := (hF1 _ _ (by unfold WEl; omega)).trans h52
      have hxy : x = y := by omega
      subst hxy
      exact hCT2.fr2 hF1 (fun a b q => by unfold WEl at q; omega)
    refine r_callvr d_184_111 q_184_238 rfl rfl (m_cutsA hv hc1 hy hcty) (fun M4 hM4 => ?_)
    obtain ⟨hF4, h54, hCT4⟩ := hM4
    refine cm_match (p := p) (sz := sz) (F := F) ((hF2.trans hF1 (R := WCm) (fun a b q => Or.inl q) (fun a b q => Or.inr q)).trans hF4 (fun a b q => q) (fun a b q => Or.inl q)) h54 hCT4 k1 h2 hSt (fun b hb => (h4 b hb).2.1.2.1) ((hF4 _ _ (by unfold WCu W1; omega)).trans hmany) (fun b hb => ⟨(hF4 _ _ (by unfold WCu W1; omega)).trans (hall b (by omega)).1, fun c hc => ?_⟩) (fun b hb => (hF4 _ _ (by unfold WCu W1; omega)).trans (hall b (by omega)).2.1) (Or.inr ⟨_, rfl⟩) hy4 rfl rfl
    have h36 : sz b * sz b ≤ 36 := Nat.mul_le_mul (h4 b hb).2.1.2.1 (h4 b hb).2.1.2.1
    rw [hF4 _ _ (by unfold WCu W1; omega), (hall b (by omega)).2.2 c (by omega) (by omega)]
    exact ((h4 b hb).2.2.2 c hc).1
  · intro b b1 b2 ih M1 y4 hF1 hmany hall hy4
    have hb : ((b.toNat : Nat) : Int) = b := by omega
    have hpc : M1 217 16 = p := (hF1 _ _ (by unfold WEl; omega)).trans h3
    have hszb : M1 219 (4 + b) = sz b.toNat := by
      have := (h4 b.toNat (by omega)).1.1
      rw [hb] at this
      exact (hF1 _ _ (by unfold WEl; omega)).trans this
    refine r_iload_n d_184_34 rfl ?_
    refine r_aload_n d_184_35 rfl (by omega) ?_
    refine r_getfv (ki := 16) d_184_36 q_184_226 rfl sh_217 hpc ?_
    refine r_icmp_ge (t := 109) d_184_39 rfl (fun hz => absurd hz (by omega)) (fun _ => ?_)
    refine r_aload_n d_184_42 rfl (by omega) ?_
    refine r_getc (ki := 22) d_184_43 q_184_65 rfl sh_217 fx_217_22 (by omega) ?_
    refine r_iload_n d_184_46 rfl ?_
    refine r_aload_n d_184_47 rfl (by omega) ?_
    refine r_getc (ki := 2) d_184_48 q_184_17 rfl sh_217 fx_217_2 (by omega) ?_
    refine r_iconst d_184_51 rfl ?_
    refine r_iload_n d_184_52 rfl ?_
    refine r_iadd d_184_53 (by omega) ?_
    refine r_ialoadv d_184_54 sh_219 (by omega) (by omega) hszb ?_
    refine r_iastore d_184_55 sh_234 (by omega) (by omega) ?_
    refine r_aload_n d_184_56 rfl (by omega) ?_
    refine r_getc (ki := 24) d_184_57 q_184_71 rfl sh_217 fx_217_24 (by omega) ?_
    refine r_iload_n d_184_60 rfl ?_
    refine r_iconst d_184_61 rfl ?_
    refine r_iastore d_184_62 sh_236 (by omega) (by omega) ?_
    have hst : ∀ (M0 : Mo) , Fr WEl M2 M0 → M0 217 21 = p → (∀ b' : Nat, (b' : Int) < b → M0 234 b' = sz b' ∧ M0 236 b' = 0 ∧ ∀ c : Int, 0 ≤ c → c < 72 → M0 235 (72 * b' + c) = M2 230 (72 * b' + c)) → M0 234 b = sz b.toNat → M0 236 b = 0 → Rn 184 66 [(2, 217), (0, (x : Int)), (0, (y : Int)), (0, b), (0, 0), (9, 0), (9, 0)] [] M0 (cmQ M s x y) := by
      intro M0 hF0 hm0 ha0 hs0 hz0
      refine dn_ind (R := fun c => ∀ M5 : Mo, Fr WEl M2 M5 → M5 217 21 = p → (∀ b' : Nat, (b' : Int) < b → M5 234 b' = sz b' ∧ M5 236 b' = 0 ∧ ∀ c : Int, 0 ≤ c → c < 72 → M5 235 (72 * b' + c) = M2 230 (72 * b' + c)) → M5 234 b = sz b.toNat → M5 236 b = 0 → (∀ c' : Int, 0 ≤ c' → c' < c → M5 235 (72 * b + c') = M2 230 (72 * b + c')) → Rn 184 66 [(2, 217), (0, (x : Int)), (0, (y : Int)), (0, b), (0, c), (9, 0), (9, 0)] [] M5 _) (lo := 0) (n := 72) ?_ ?_ 0 (by omega) (by omega) M0 hF0 hm0 ha0 hs0 hz0 (fun c' u1 u2 => by omega)
      · intro M5 hF5 hm5 ha5 hs5 hz5 hc5
        refine r_iload d_184_66 rfl ?_
        refine r_bipush d_184_68 rfl ?_
        refine r_icmp_ge (t := 103) d_184_70 rfl (fun _ => ?_) (fun hz => absurd (by omega) hz)
        refine r_iinc d_184_103 rfl (by omega) (stl_7_3 rfl rfl) ?_
        refine r_goto (t := 34) d_184_106 rfl ?_
        refine ih M5 _ hF5 hm5 (fun b' hb' => ?_) (Or.inr ⟨_, rfl⟩)
        by_cases w : b' = b.toNat
        · subst w
          rw [hb]
          exact ⟨hs5, hz5, hc5⟩
        · exact ha5 b' (by omega)
      · intro c c1 c2 ihc M5 hF5 hm5 ha5 hs5 hz5 hc5
        have hcell : M5 230 (72 * b + c) = M2 230 (72 * b + c) := hF5 _ _ (by unfold WEl; omega)
        refine r_iload d_184_66 rfl ?_
        refine r_bipush d_184_68 rfl ?_
        refine r_icmp_ge (t := 103) d_184_70 rfl (fun hz => absurd hz (by omega)) (fun _ => ?_)
        refine r_aload_n d_184_73 rfl (by omega) ?_
        refine r_getc (ki := 23) d_184_74 q_184_68 rfl sh_217 fx_217_23 (by omega) ?_
        refine r_bipush d_184_77 rfl ?_
        refine r_iload_n d_184_79 rfl ?_
        refine r_imul d_184_80 (by omega) ?_
        refine r_iload d_184_81 rfl ?_
        refine r_iadd d_184_83 (by omega) ?_
        refine r_aload_n d_184_84 rfl (by omega) ?_
        refine r_getc (ki := 17) d_184_85 q_184_53 rfl sh_217 fx_217_17 (by omega) ?_
        refine r_bipush d_184_88 rfl ?_
        refine r_iload_n d_184_90 rfl ?_
        refine r_imul d_184_91 (by omega) ?_
        refine r_iload d_184_92 rfl ?_
        refine r_iadd d_184_94 (by omega) ?_
        refine r_ialoadv d_184_95 sh_230 (by omega) (by omega) hcell ?_
        refine r_iastore d_184_96 sh_235 (by omega) (by omega) ?_
        refine r_iinc d_184_97 rfl (by omega) (stl_7_4 rfl rfl) ?_
        refine r_goto (t := 66) d_184_100 rfl ?_
        refine ihc _ (fun a d h => ?_) ?_ (fun b' hb' => ⟨?_, ?_, fun c' u1 u2 => ?_⟩) ?_ ?_ (fun c' u1 u2 => ?_)
        · rw [uq_ne (by unfold WEl at h; omega)]
          exact hF5 a d h
        · rw [uq_ne (by omega)]
          exact hm5
        · rw [uq_ne (by omega)]
          exact (ha5 b' hb').1
        · rw [uq_ne (by omega)]
          exact (ha5 b' hb').2.1
        · rw [uq_ne (by omega)]
          exact (ha5 b' hb').2.2 c' u1 u2
        · rw [uq_ne (by omega)]
          exact hs5
        · rw [uq_ne (by omega)]
          exact hz5
        · by_cases w : c' = c
          · rw [w, uq_eq]
          · rw [uq_ne (by omega)]
            exact hc5 c' u1 (by omega)
    have hfin : Rn 184 66 [(2, 217), (0, (x : Int)), (0, (y : Int)), (0, b), (0, 0), (9, 0), (9, 0)] [] (up2 (up2 M1 234 b (sz b.toNat)) 236 b 0) (cmQ M s x y) := by
      refine hst _ (fun a d h => ?_) ?_ (fun b' hb' => ⟨?_, ?_, fun c' u1 u2 => ?_⟩) ?_ uq_eq
      · rw [uq_ne (by unfold WEl at h; omega), uq_ne (by unfold WEl at h; omega)]
        exact hF1 a d h
      · rw [uq_ne (by omega), uq_ne (by omega)]
        exact hmany
      · rw [uq_ne (by omega), uq_ne (by omega)]
        exact (hall b' hb').1
      · rw [uq_ne (by omega), uq_ne (by omega)]
        exact (hall b' hb').2.1
      · rw [uq_ne (by omega), uq_ne (by omega)]
        exact (hall b' hb').2.2 c' u1 u2
      · rw [uq_ne (by omega), uq_eq]
    rcases hy4 with rfl | ⟨z4, rfl⟩
    · refine r_iconst d_184_63 rfl ?_
      refine r_istore d_184_64 rfl (stl_7_4 rfl rfl) ?_
      exact hfin
    · refine r_iconst d_184_63 rfl ?_
      refine r_istore d_184_64 rfl (stl_7_4 rfl rfl) ?_
      exact hfin
