/-! The model: sizes, over, adds, times. -/
theorem pI_lim {e : Nat} (he : e ≤ 1) : (if pI e = 2 then (6 : Int) else 5) = 6 - e := by
  unfold pI
  rcases (show e = 0 ∨ e = 1 by omega) with rfl | rfl <;> rfl
def cb (M : Mo) : Prop := ∀ i : Int, 0 ≤ i → i < 3 → -1 ≤ M 218 i ∧ M 218 i < 2000000000
theorem m_sizes_bad (M : Mo) (hb : cb M) {s : Sst} (hv : vs s) (hc : cu M s) {k n : Int} (h : ¬ ((0 ≤ k ∧ k ≤ 3) ∧ 1 ≤ n ∧ n ≤ 6 - s.1)) : PJ 154 [(2, 217), (0, k), (0, n)] M (-2) (up2 M 218 0 (M 218 0 + 1)) := by
  refine Cl.intro (L := [(2, 217), (0, k), (0, n)]) (rcv_v ow_154.2.1 sh_217) (by unfold entl; rw [mx_154]; rfl) (by rw [mx_154]; exact Nat.le_of_ble_eq_true rfl) rfl ?_
  have hbad := m_bad M (hb 0 (by omega) (by omega))
  refine r_iload_n d_154_0 rfl ?_
  refine r_callsp d_154_1 q_154_178 rfl rfl (m_isModule M k) ?_
  by_cases hk : 0 ≤ k ∧ k ≤ 3
  · rw [if_pos hk]
    have hlim := m_limit M hc.1
    rw [pI_lim hv.1] at hlim
    refine r_if_eq (t := 19) d_154_4 rfl (fun hz => absurd hz (by decide)) (fun _ => ?_)
    refine r_iload_n d_154_7 rfl ?_
    refine r_iconst d_154_8 rfl ?_
    refine r_aload_n d_154_9 rfl (by omega) ?_
    refine r_callvp d_154_10 q_154_182 rfl rfl hlim ?_
    refine r_callsp d_154_13 q_154_118 rfl rfl (m_in M n 1 _) ?_
    rw [if_neg (fun q => h ⟨hk, q⟩)]
    refine r_if_ne (t := 24) d_154_16 rfl (fun hz => absurd hz (by decide)) (fun _ => ?_)
    refine r_aload_n d_154_19 rfl (by omega) ?_
    refine r_callvj d_154_20 q_154_172 rfl rfl hbad ?_
    refine r_iret d_154_23 rt_154 ?_
    exact ⟨rfl, rfl⟩
  · rw [if_neg hk]
    refine r_if_eq (t := 19) d_154_4 rfl (fun _ => ?_) (fun hz => absurd (by decide) hz)
    refine r_aload_n d_154_19 rfl (by omega) ?_
    refine r_callvj d_154_20 q_154_172 rfl rfl hbad ?_
    refine r_iret d_154_23 rt_154 ?_
    exact ⟨rfl, rfl⟩
theorem m_sizes {M : Mo} {s : Sst} {H : List Sst} (hv : vs s) (hc : cu M s) (hH : hi M H) {k n : Nat} (hk : k < 4) (hn : 1 ≤ n ∧ nb s.1 n) : CI 154 [(2, 217), (0, (k : Int)), (0, (n : Int))] M (fun z M' => z = n ∧ chg M M' (setm s k n (fun _ _ _ => 0)) (psh H s)) := by
  refine Cl.intro (L := [(2, 217), (0, (k : Int)), (0, (n : Int))]) (rcv_v ow_154.2.1 sh_217) (by unfold entl; rw [mx_154]; rfl) (by rw [mx_154]; exact Nat.le_of_ble_eq_true rfl) rfl ?_
  have hn2 := hn.2
  unfold nb at hn2
  have hlim := m_limit M hc.1
  rw [pI_lim hv.1] at hlim
  refine r_iload_n d_154_0 rfl ?_
  refine r_callsp d_154_1 q_154_178 rfl rfl (m_isModule M k) ?_
  rw [if_pos (by omega)]
  refine r_if_eq (t := 19) d_154_4 rfl (fun hz => absurd hz (by decide)) (fun _ => ?_)
  refine r_iload_n d_154_7 rfl ?_
  refine r_iconst d_154_8 rfl ?_
  refine r_aload_n d_154_9 rfl (by omega) ?_
  refine r_callvp d_154_10 q_154_182 rfl rfl hlim ?_
  refine r_callsp d_154_13 q_154_118 rfl rfl (m_in M n 1 _) ?_
  rw [if_pos (by omega)]
  refine r_if_ne (t := 24) d_154_16 rfl (fun _ => ?_) (fun hz => absurd (by decide) hz)
  refine r_aload_n d_154_24 rfl (by omega) ?_
  refine r_callvr d_154_25 q_154_175 rfl rfl (m_leavesState M hv hc hH) (fun M1 hM1 => ?_)
  obtain ⟨hF1, h5, hH1⟩ := hM1
  refine r_aload_n d_154_28 rfl (by omega) ?_
  refine r_callvr d_154_29 q_154_156 rfl rfl (m_clearsFresh M1) (fun M2 hM2 => ?_)
  obtain ⟨f, rfl, hf⟩ := hM2
  refine r_aload_n d_154_32 rfl (by omega) ?_
  refine r_iload_n d_154_33 rfl ?_
  refine r_iload_n d_154_34 rfl ?_
  refine r_callvr d_154_35 q_154_159 rfl rfl (m_takesFresh (sr M1 221 f) (k := k) (n := n) (by omega)) (fun M3 hM3 => ?_)
  obtain ⟨hF3, hs3, hc3⟩ := hM3
  refine r_iload_n d_154_38 rfl ?_
  refine r_iret d_154_39 rt_154 ?_
  refine ⟨_, rfl, rfl, chg_fin hv hc hk (by omega) hF1 h5 hH1 (P := fun x _ => x = 221) (sr_fr (fun _ => rfl)) (fun x y q => Or.inl (Or.inr (Or.inl (by omega)))) hF3 hs3 hc3 (fun g i j a1 a2 a3 => ?_)⟩
  rw [sr_eq]
  exact hf _ (by omega) (by omega)
theorem m_over_bad (M : Mo) (hb : cb M) {k x : Int} (h : ¬ ((0 ≤ k ∧ k ≤ 3) ∧ 0 ≤ x ∧ x ≤ 3)) : PJ 161 [(2, 217), (0, k), (0, x)] M (-2) (up2 M 218 0 (M 218 0 + 1)) := by
  refine Cl.intro (L := [(2, 217), (0, k), (0, x), (9, 0), (9, 0), (9, 0), (9, 0)]) (rcv_v ow_161.2.1 sh_217) (by unfold entl; rw [mx_161]; rfl) (by rw [mx_161]; exact Nat.le_of_ble_eq_true rfl) rfl ?_
  have hbad := m_bad M (hb 0 (by omega) (by omega))
  refine r_iload_n d_161_0 rfl ?_
  refine r_callsp d_161_1 q_161_178 rfl rfl (m_isModule M k) ?_
  by_cases hk : 0 ≤ k ∧ k ≤ 3
  · rw [if_pos hk]
    refine r_if_eq (t := 14) d_161_4 rfl (fun hz => absurd hz (by decide)) (fun _ => ?_)
    refine r_iload_n d_161_7 rfl ?_
    refine r_callsp d_161_8 q_161_178 rfl rfl (m_isModule M x) ?_
    rw [if_neg (fun q => h ⟨hk, q⟩)]
    refine r_if_ne (t := 19) d_161_11 rfl (fun hz => absurd hz (by decide)) (fun _ => ?_)
    refine r_aload_n d_161_14 rfl (by omega) ?_
    refine r_callvj d_161_15 q_161_172 rfl rfl hbad ?_
    refine r_iret d_161_18 rt_161 ?_
    exact ⟨rfl, rfl⟩
  · rw [if_neg hk]
    refine r_if_eq (t := 14) d_161_4 rfl (fun _ => ?_) (fun hz => absurd (by decide) hz)
    refine r_aload_n d_161_14 rfl (by omega) ?_
    refine r_callvj d_161_15 q_161_172 rfl rfl hbad ?_
    refine r_iret d_161_18 rt_161 ?_
    exact ⟨rfl, rfl⟩
theorem m_over {M : Mo} {s : Sst} {H : List Sst} (hv : vs s) (hc : cu M s) (hH : hi M H) {k x : Nat} (hk : k < 4) (hx : x < 4) : CI 161 [(2, 217), (0, (k : Int)), (0, (x : Int))] M (fun z M' => z = s.2.1 x ∧ chg M M' (setm s k (s.2.1 x) (fun g i j => s.2.2 x g j i)) (psh H s)) := by
  refine Cl.intro (L := [(2, 217), (0, (k : Int)), (0, (x : Int)), (9, 0), (9, 0), (9, 0), (9, 0)]) (rcv_v ow_161.2.1 sh_217) (by unfold entl; rw [mx_161]; rfl) (by rw [mx_161]; exact Nat.le_of_ble_eq_true rfl) rfl ?_
  have hn6 := vs_6 hv hx
  refine r_iload_n d_161_0 rfl ?_
  refine r_callsp d_161_1 q_161_178 rfl rfl (m_isModule M k) ?_
  rw [if_pos (by omega)]
  refine r_if_eq (t := 14) d_161_4 rfl (fun hz => absurd hz (by decide)) (fun _ => ?_)
  refine r_iload_n d_161_7 rfl ?_
  refine r_callsp d_161_8 q_161_178 rfl rfl (m_isModule M x) ?_
  rw [if_pos (by omega)]
  refine r_if_ne (t := 19) d_161_11 rfl (fun _ => ?_) (fun hz => absurd (by decide) hz)
  refine r_aload_n d_161_19 rfl (by omega) ?_
  refine r_callvr d_161_20 q_161_175 rfl rfl (m_leavesState M hv hc hH) (fun M1 hM1 => ?_)
  obtain ⟨hF1, h5, hH1⟩ := hM1
  have hc1 : cu M1 s := cu.fr hv hc hF1 (fun x y q => by unfold WL at q; omega)
  refine r_aload_n d_161_23 rfl (by omega) ?_
  refine r_callvr d_161_24 q_161_156 rfl rfl (m_clearsFresh M1) (fun M2 hM2 => ?_)
  obtain ⟨f0, rfl, hf0⟩ := hM2
  generalize hnn : s.2.1 x = n at *
  have hsz : sr M1 221 f0 219 x = n := by rw [sr_ne _ _ (by decide), (hc1.2 x hx).1, hnn]
  refine r_aload_n d_161_27 rfl (by omega) ?_
  refine r_getc (ki := 2) d_161_28 q_161_17 rfl sh_217 fx_217_2 (by omega) ?_
  refine r_iload_n d_161_31 rfl ?_
  refine r_ialoadv d_161_32 sh_219 (by omega) (by omega) hsz ?_
  refine r_istore_n d_161_33 rfl (stl_7_3 rfl rfl) ?_
  refine r_iconst d_161_34 rfl ?_
  refine r_istore d_161_35 rfl (stl_7_4 rfl rfl) ?_
  refine dn_ind (R := fun g => ∀ f y1 y2, fil n (fun g i j => s.2.2 x g j i) f g 0 0 → Rn 161 37 [(2, 217), (0, (k : Int)), (0, (x : Int)), (0, (n : Int)), (0, g), y1, y2] [] (sr M1 221 f) _) (lo := 0) (n := 2) ?_ ?_ 0 (by omega) (by omega) f0 _ _ fil.start
  · intro f y1 y2 hf
    refine r_iload d_161_37 rfl ?_
    refine r_iconst d_161_39 rfl ?_
    refine r_icmp_ge (t := 109) d_161_40 rfl (fun _ => ?_) (fun hz => absurd (by omega) hz)
    refine r_aload_n d_161_109 rfl (by omega) ?_
    refine r_iload_n d_161_110 rfl ?_
    refine r_iload_n d_161_111 rfl ?_
    refine r_callvr d_161_112 q_161_159 rfl rfl (m_takesFresh (sr M1 221 f) (k := k) (n := n) (by omega)) (fun M3 hM3 => ?_)
    obtain ⟨hF3, hs3, hc3⟩ := hM3
    refine r_iload_n d_161_115 rfl ?_
    refine r_iret d_161_116 rt_161 ?_
    refine ⟨_, rfl, rfl, chg_fin hv hc hk hn6 hF1 h5 hH1 (P := fun x _ => x = 221) (sr_fr (fun _ => rfl)) (fun x y q => Or.inl (Or.inr (Or.inl (by omega)))) hF3 hs3 hc3 (fun g i j a1 a2 a3 => ?_)⟩
    rw [sr_eq]
    exact hf.fin a1 a2 a3
  · intro g g1 g2 ih f y1 y2 hf
    refine r_iload d_161_37 rfl ?_
    refine r_iconst d_161_39 rfl ?_
    refine r_icmp_ge (t := 109) d_161_40 rfl (fun hz => absurd hz (by omega)) (fun _ => ?_)
    refine r_iconst d_161_43 rfl ?_
    refine r_istore d_161_44 rfl (stl_7_5 rfl rfl) ?_
    refine dn_ind (R := fun i => ∀ f y2, fil n (fun g i j => s.2.2 x g j i) f g i 0 → Rn 161 46 [(2, 217), (0, (k : Int)), (0, (x : Int)), (0, (n : Int)), (0, g), (0, i), y2] [] (sr M1 221 f) _) (lo := 0) (n := (n : Int)) ?_ ?_ 0 (by omega) (by omega) f _ hf
    · intro f y2 hf
      refine r_iload d_161_46 rfl ?_
      refine r_iload_n d_161_48 rfl ?_
      refine r_icmp_ge (t := 103) d_161_49 rfl (fun _ => ?_) (fun hz => absurd (by omega) hz)
      refine r_iinc d_161_103 rfl (by omega) (stl_7_4 rfl rfl) ?_
      refine r_goto (t := 37) d_161_106 rfl ?_
      exact ih _ _ _ (hf.ng (Int.le_refl _))
    · intro i i1 i2 ih2 f y2 hf
      refine r_iload d_161_46 rfl ?_
      refine r_iload_n d_161_48 rfl ?_
      refine r_icmp_ge (t := 103) d_161_49 rfl (fun hz => absurd hz (by omega)) (fun _ => ?_)
      refine r_iconst d_161_52 rfl ?_
      refine r_istore d_161_53 rfl (stl_7_6 rfl rfl) ?_
      refine dn_ind (R := fun j => ∀ f, fil n (fun g i j => s.2.2 x g j i) f g i j → Rn 161 55 [(2, 217), (0, (k : Int)), (0, (x : Int)), (0, (n : Int)), (0, g), (0, i), (0, j)] [] (sr M1 221 f) _) (lo := 0) (n := (n : Int)) ?_ ?_ 0 (by omega) (by omega) f hf
      · intro f hf
        refine r_iload d_161_55 rfl ?_
        refine r_iload_n d_161_57 rfl ?_
        refine r_icmp_ge (t := 97) d_161_58 rfl (fun _ => ?_) (fun hz => absurd (by omega) hz)
        refine r_iinc d_161_97 rfl (by omega) (stl_7_5 rfl rfl) ?_
        refine r_goto (t := 46) d_161_100 rfl ?_
        exact ih2 _ _ (hf.ni (Int.le_refl _))
      · intro j j1 j2 ih3 f hf
        have hcell : sr M1 221 f 220 (72 * (x : Int) + 36 * g + 6 * j + i) = s.2.2 x g.toNat j.toNat i.toNat := by
          rw [sr_ne _ _ (by decide)]
          have := (hc1.2 x hx).2 g.toNat j.toNat i.toNat (by omega) (by omega) (by omega)
          rw [show ((g.toNat : Nat) : Int) = g by omega, show ((j.toNat : Nat) : Int) = j by omega, show ((i.toNat : Nat) : Int) = i by omega] at this
          exact this
        refine r_iload d_161_55 rfl ?_
        refine r_iload_n d_161_57 rfl ?_
        refine r_icmp_ge (t := 97) d_161_58 rfl (fun hz => absurd hz (by omega)) (fun _ => ?_)
        refine r_aload_n d_161_61 rfl (by omega) ?_
        refine r_getc (ki := 4) d_161_62 q_161_23 rfl sh_217 fx_217_4 (by omega) ?_
        refine r_iconst d_161_65 rfl ?_
        refine r_iload d_161_66 rfl ?_
        refine r_iload d_161_68 rfl ?_
        refine r_iload d_161_70 rfl ?_
        refine r_callsp d_161_72 q_161_114 rfl rfl (m_cell _ 0 g i j (by omega) (by omega) (by omega) (by omega)) ?_
        refine r_aload_n d_161_75 rfl (by omega) ?_
        refine r_getc (ki := 3) d_161_76 q_161_20 rfl sh_217 fx_217_3 (by omega) ?_
        refine r_iload_n d_161_79 rfl ?_
        refine r_iload d_161_80 rfl ?_
        refine r_iload d_161_82 rfl ?_
        refine r_iload d_161_84 rfl ?_
        refine r_callsp d_161_86 q_161_114 rfl rfl (m_cell _ x g j i (by omega) (by omega) (by omega) (by omega)) ?_
        refine r_ialoadv d_161_89 sh_220 (by omega) (by omega) hcell ?_
        refine r_iastore d_161_90 sh_221 (by omega) (by omega) ?_
        rw [up_sr]
        refine r_iinc d_161_91 rfl (by omega) (stl_7_6 rfl rfl) ?_
        refine r_goto (t := 55) d_161_94 rfl ?_
        exact ih3 _ (hf.put hn6 (gn := g.toNat) (i2 := i.toNat) (j2 := j.toNat) (by omega) (by omega) (by omega) (by omega) (by omega) rfl (by omega))
