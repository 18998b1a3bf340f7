/-! The model: adds, times. -/
theorem m_adds_bad (M : Mo) (hb : cb M) {k x y : Int} (h : ¬ ((0 ≤ k ∧ k ≤ 3) ∧ (0 ≤ x ∧ x ≤ 3) ∧ 0 ≤ y ∧ y ≤ 3)) : PJ 159 [(2, 217), (0, k), (0, x), (0, y)] M (-2) (up2 M 218 0 (M 218 0 + 1)) := by
  refine Cl.intro (L := [(2, 217), (0, k), (0, x), (0, y), (9, 0), (9, 0), (9, 0), (9, 0), (9, 0), (9, 0), (9, 0)]) (rcv_v ow_159.2.1 sh_217) (by unfold entl; rw [mx_159]; rfl) (by rw [mx_159]; exact Nat.le_of_ble_eq_true rfl) rfl ?_
  have hbad := m_bad M (hb 0 (by omega) (by omega))
  refine r_iload_n d_159_0 rfl ?_
  refine r_callsp d_159_1 q_159_178 rfl rfl (m_isModule M k) ?_
  by_cases hk : 0 ≤ k ∧ k ≤ 3
  · rw [if_pos hk]
    refine r_if_eq (t := 21) d_159_4 rfl (fun hz => absurd hz (by decide)) (fun _ => ?_)
    refine r_iload_n d_159_7 rfl ?_
    refine r_callsp d_159_8 q_159_178 rfl rfl (m_isModule M x) ?_
    by_cases hx : 0 ≤ x ∧ x ≤ 3
    · rw [if_pos hx]
      refine r_if_eq (t := 21) d_159_11 rfl (fun hz => absurd hz (by decide)) (fun _ => ?_)
      refine r_iload_n d_159_14 rfl ?_
      refine r_callsp d_159_15 q_159_178 rfl rfl (m_isModule M y) ?_
      rw [if_neg (fun q => h ⟨hk, hx, q⟩)]
      refine r_if_ne (t := 26) d_159_18 rfl (fun hz => absurd hz (by decide)) (fun _ => ?_)
      refine r_aload_n d_159_21 rfl (by omega) ?_
      refine r_callvj d_159_22 q_159_172 rfl rfl hbad ?_
      refine r_iret d_159_25 rt_159 ?_
      exact ⟨rfl, rfl⟩
    · rw [if_neg hx]
      refine r_if_eq (t := 21) d_159_11 rfl (fun _ => ?_) (fun hz => absurd (by decide) hz)
      refine r_aload_n d_159_21 rfl (by omega) ?_
      refine r_callvj d_159_22 q_159_172 rfl rfl hbad ?_
      refine r_iret d_159_25 rt_159 ?_
      exact ⟨rfl, rfl⟩
  · rw [if_neg hk]
    refine r_if_eq (t := 21) d_159_4 rfl (fun _ => ?_) (fun hz => absurd (by decide) hz)
    refine r_aload_n d_159_21 rfl (by omega) ?_
    refine r_callvj d_159_22 q_159_172 rfl rfl hbad ?_
    refine r_iret d_159_25 rt_159 ?_
    exact ⟨rfl, rfl⟩
theorem m_adds_no (M : Mo) (hb : cb M) {s : Sst} (hv : vs s) (hc : cu M s) {k x y : Nat} (hk : k < 4) (hx : x < 4) (hy : y < 4) (h : ¬ nb s.1 (s.2.1 x + s.2.1 y)) : PJ 159 [(2, 217), (0, (k : Int)), (0, (x : Int)), (0, (y : Int))] M (-3) (up2 M 218 1 (M 218 1 + 1)) := by
  refine Cl.intro (L := [(2, 217), (0, (k : Int)), (0, (x : Int)), (0, (y : Int)), (9, 0), (9, 0), (9, 0), (9, 0), (9, 0), (9, 0), (9, 0)]) (rcv_v ow_159.2.1 sh_217) (by unfold entl; rw [mx_159]; rfl) (by rw [mx_159]; exact Nat.le_of_ble_eq_true rfl) rfl ?_
  have hno := m_no M (hb 1 (by omega) (by omega))
  have hx6 := vs_6 hv hx
  have hy6 := vs_6 hv hy
  have hlim := m_limit M hc.1
  rw [pI_lim hv.1] at hlim
  unfold nb at h
  have he := hv.1
  refine r_iload_n d_159_0 rfl ?_
  refine r_callsp d_159_1 q_159_178 rfl rfl (m_isModule M k) ?_
  rw [if_pos (by omega)]
  refine r_if_eq (t := 21) d_159_4 rfl (fun hz => absurd hz (by decide)) (fun _ => ?_)
  refine r_iload_n d_159_7 rfl ?_
  refine r_callsp d_159_8 q_159_178 rfl rfl (m_isModule M x) ?_
  rw [if_pos (by omega)]
  refine r_if_eq (t := 21) d_159_11 rfl (fun hz => absurd hz (by decide)) (fun _ => ?_)
  refine r_iload_n d_159_14 rfl ?_
  refine r_callsp d_159_15 q_159_178 rfl rfl (m_isModule M y) ?_
  rw [if_pos (by omega)]
  refine r_if_ne (t := 26) d_159_18 rfl (fun _ => ?_) (fun hz => absurd (by decide) hz)
  refine r_aload_n d_159_26 rfl (by omega) ?_
  refine r_getc (ki := 2) d_159_27 q_159_17 rfl sh_217 fx_217_2 (by omega) ?_
  refine r_iload_n d_159_30 rfl ?_
  refine r_ialoadv d_159_31 sh_219 (by omega) (by omega) (hc.2 x hx).1 ?_
  refine r_aload_n d_159_32 rfl (by omega) ?_
  refine r_getc (ki := 2) d_159_33 q_159_17 rfl sh_217 fx_217_2 (by omega) ?_
  refine r_iload_n d_159_36 rfl ?_
  refine r_ialoadv d_159_37 sh_219 (by omega) (by omega) (hc.2 y hy).1 ?_
  refine r_iadd d_159_38 (by omega) ?_
  refine r_istore d_159_39 rfl (stl_11_4 rfl rfl) ?_
  refine r_iload d_159_41 rfl ?_
  refine r_aload_n d_159_43 rfl (by omega) ?_
  refine r_callvp d_159_44 q_159_182 rfl rfl hlim ?_
  refine r_icmp_le (t := 55) d_159_47 rfl (fun hz => absurd hz (by omega)) (fun _ => ?_)
  refine r_aload_n d_159_50 rfl (by omega) ?_
  refine r_callvj d_159_51 q_159_168 rfl rfl hno ?_
  refine r_iret d_159_54 rt_159 ?_
  exact ⟨rfl, rfl⟩
def addE (m : Nat) (X Y : Nat → Nat → Nat → Int) (g i j : Nat) : Int := if i < m ∧ j < m then X g i j else if m ≤ i ∧ m ≤ j then Y g (i - m) (j - m) else 0
theorem m_adds {M : Mo} {s : Sst} {H : List Sst} (hv : vs s) (hc : cu M s) (hH : hi M H) {k x y : Nat} (hk : k < 4) (hx : x < 4) (hy : y < 4) (h : nb s.1 (s.2.1 x + s.2.1 y)) : CI 159 [(2, 217), (0, (k : Int)), (0, (x : Int)), (0, (y : Int))] M (fun z M' => z = ((s.2.1 x + s.2.1 y : Nat) : Int) ∧ chg M M' (setm s k (s.2.1 x + s.2.1 y) (addE (s.2.1 x) (s.2.2 x) (s.2.2 y))) (psh H s)) := by
  refine Cl.intro (L := [(2, 217), (0, (k : Int)), (0, (x : Int)), (0, (y : Int)), (9, 0), (9, 0), (9, 0), (9, 0), (9, 0), (9, 0), (9, 0)]) (rcv_v ow_159.2.1 sh_217) (by unfold entl; rw [mx_159]; rfl) (by rw [mx_159]; exact Nat.le_of_ble_eq_true rfl) rfl ?_
  have hx6 := vs_6 hv hx
  have hy6 := vs_6 hv hy
  have hlim := m_limit M hc.1
  rw [pI_lim hv.1] at hlim
  have h6 := h
  unfold nb at h6
  have he := hv.1
  refine r_iload_n d_159_0 rfl ?_
  refine r_callsp d_159_1 q_159_178 rfl rfl (m_isModule M k) ?_
  rw [if_pos (by omega)]
  refine r_if_eq (t := 21) d_159_4 rfl (fun hz => absurd hz (by decide)) (fun _ => ?_)
  refine r_iload_n d_159_7 rfl ?_
  refine r_callsp d_159_8 q_159_178 rfl rfl (m_isModule M x) ?_
  rw [if_pos (by omega)]
  refine r_if_eq (t := 21) d_159_11 rfl (fun hz => absurd hz (by decide)) (fun _ => ?_)
  refine r_iload_n d_159_14 rfl ?_
  refine r_callsp d_159_15 q_159_178 rfl rfl (m_isModule M y) ?_
  rw [if_pos (by omega)]
  refine r_if_ne (t := 26) d_159_18 rfl (fun _ => ?_) (fun hz => absurd (by decide) hz)
  refine r_aload_n d_159_26 rfl (by omega) ?_
  refine r_getc (ki := 2) d_159_27 q_159_17 rfl sh_217 fx_217_2 (by omega) ?_
  refine r_iload_n d_159_30 rfl ?_
  refine r_ialoadv d_159_31 sh_219 (by omega) (by omega) (hc.2 x hx).1 ?_
  refine r_aload_n d_159_32 rfl (by omega) ?_
  refine r_getc (ki := 2) d_159_33 q_159_17 rfl sh_217 fx_217_2 (by omega) ?_
  refine r_iload_n d_159_36 rfl ?_
  refine r_ialoadv d_159_37 sh_219 (by omega) (by omega) (hc.2 y hy).1 ?_
  refine r_iadd d_159_38 (by omega) ?_
  refine r_istore d_159_39 rfl (stl_11_4 rfl rfl) ?_
  refine r_iload d_159_41 rfl ?_
  refine r_aload_n d_159_43 rfl (by omega) ?_
  refine r_callvp d_159_44 q_159_182 rfl rfl hlim ?_
  refine r_icmp_le (t := 55) d_159_47 rfl (fun _ => ?_) (fun hz => absurd (by omega) hz)
  refine r_aload_n d_159_55 rfl (by omega) ?_
  refine r_callvr d_159_56 q_159_175 rfl rfl (m_leavesState M hv hc hH) (fun M1 hM1 => ?_)
  obtain ⟨hF1, h5, hH1⟩ := hM1
  have hc1 : cu M1 s := cu.fr hv hc hF1 (fun x y q => by unfold WL at q; omega)
  refine r_aload_n d_159_59 rfl (by omega) ?_
  refine r_callvr d_159_60 q_159_156 rfl rfl (m_clearsFresh M1) (fun M2 hM2 => ?_)
  obtain ⟨f0, rfl, hf0⟩ := hM2
  have hcx := hc1.2 x hx
  have hcy := hc1.2 y hy
  generalize s.2.1 x = m at *
  generalize s.2.1 y = m2 at *
  have hsz : sr M1 221 f0 219 x = m := by rw [sr_ne _ _ (by decide), hcx.1]
  refine r_aload_n d_159_63 rfl (by omega) ?_
  refine r_getc (ki := 2) d_159_64 q_159_17 rfl sh_217 fx_217_2 (by omega) ?_
  refine r_iload_n d_159_67 rfl ?_
  refine r_ialoadv d_159_68 sh_219 (by omega) (by omega) hsz ?_
  refine r_istore d_159_69 rfl (stl_11_5 rfl rfl) ?_
  refine r_iconst d_159_71 rfl ?_
  refine r_istore d_159_72 rfl (stl_11_6 rfl rfl) ?_
  rw [show (m : Int) + (m2 : Int) = ((m + m2 : Nat) : Int) by omega]
  have hnb6 : m + m2 ≤ 6 := by omega
  refine dn_ind (R := fun g => ∀ f y1 y2 y3 y4, fil (m + m2) (addE m (s.2.2 x) (s.2.2 y)) f g 0 0 → Rn 159 74 [(2, 217), (0, (k : Int)), (0, (x : Int)), (0, (y : Int)), (0, ((m + m2 : Nat) : Int)), (0, (m : Int)), (0, g), y1, y2, y3, y4] [] (sr M1 221 f) _) (lo := 0) (n := 2) ?_ ?_ 0 (by omega) (by omega) f0 _ _ _ _ fil.start
  · intro f y1 y2 y3 y4 hf
    refine r_iload d_159_74 rfl ?_
    refine r_iconst d_159_76 rfl ?_
    refine r_icmp_ge (t := 228) d_159_77 rfl (fun _ => ?_) (fun hz => absurd (by omega) hz)
    refine r_aload_n d_159_228 rfl (by omega) ?_
    refine r_iload_n d_159_229 rfl ?_
    refine r_iload d_159_230 rfl ?_
    refine r_callvr d_159_232 q_159_159 rfl rfl (m_takesFresh (sr M1 221 f) (k := k) (n := ((m + m2 : Nat) : Int)) (by omega)) (fun M3 hM3 => ?_)
    obtain ⟨hF3, hs3, hc3⟩ := hM3
    refine r_iload d_159_235 rfl ?_
    refine r_iret d_159_237 rt_159 ?_
    refine ⟨_, rfl, rfl, chg_fin hv hc hk hnb6 hF1 h5 hH1 (P := fun x _ => x = 221) (sr_fr (fun _ => rfl)) (fun x y q => Or.inl (Or.inr (Or.inl (by omega)))) hF3 hs3 hc3 (fun g i j a1 a2 a3 => ?_)⟩
    rw [sr_eq]
    exact hf.fin a1 a2 a3
  · intro g g1 g2 ih f y1 y2 y3 y4 hf
    refine r_iload d_159_74 rfl ?_
    refine r_iconst d_159_76 rfl ?_
    refine r_icmp_ge (t := 228) d_159_77 rfl (fun hz => absurd hz (by omega)) (fun _ => ?_)
    refine r_iconst d_159_80 rfl ?_
    refine r_istore d_159_81 rfl (stl_11_7 rfl rfl) ?_
    refine dn_ind (R := fun i => ∀ f y2 y3 y4, fil (m + m2) (addE m (s.2.2 x) (s.2.2 y)) f g i 0 → Rn 159 83 [(2, 217), (0, (k : Int)), (0, (x : Int)), (0, (y : Int)), (0, ((m + m2 : Nat) : Int)), (0, (m : Int)), (0, g), (0, i), y2, y3, y4] [] (sr M1 221 f) _) (lo := 0) (n := ((m + m2 : Nat) : Int)) ?_ ?_ 0 (by omega) (by omega) f _ _ _ hf
    · intro f y2 y3 y4 hf
      refine r_iload d_159_83 rfl ?_
      refine r_iload d_159_85 rfl ?_
      refine r_icmp_ge (t := 222) d_159_87 rfl (fun _ => ?_) (fun hz => absurd (by omega) hz)
      refine r_iinc d_159_222 rfl (by omega) (stl_11_6 rfl rfl) ?_
      refine r_goto (t := 74) d_159_225 rfl ?_
      exact ih _ _ _ _ _ (hf.ng (Int.le_refl _))
    · intro i i1 i2 ih2 f y2 y3 y4 hf
      refine r_iload d_159_83 rfl ?_
      refine r_iload d_159_85 rfl ?_
      refine r_icmp_ge (t := 222) d_159_87 rfl (fun hz => absurd hz (by omega)) (fun _ => ?_)
      refine r_iconst d_159_90 rfl ?_
      refine r_istore d_159_91 rfl (stl_11_8 rfl rfl) ?_
      refine dn_ind (R := fun j => ∀ f y3 y4, fil (m + m2) (addE m (s.2.2 x) (s.2.2 y)) f g i j → Rn 159 93 [(2, 217), (0, (k : Int)), (0, (x : Int)), (0, (y : Int)), (0, ((m + m2 : Nat) : Int)), (0, (m : Int)), (0, g), (0, i), (0, j), y3, y4] [] (sr M1 221 f) _) (lo := 0) (n := ((m + m2 : Nat) : Int)) ?_ ?_ 0 (by omega) (by omega) f _ _ hf
      · intro f y3 y4 hf
        refine r_iload d_159_93 rfl ?_
        refine r_iload d_159_95 rfl ?_
        refine r_icmp_ge (t := 216) d_159_97 rfl (fun _ => ?_) (fun hz => absurd (by omega) hz)
        refine r_iinc d_159_216 rfl (by omega) (stl_11_7 rfl rfl) ?_
        refine r_goto (t := 83) d_159_219 rfl ?_
        exact ih2 _ _ _ _ (hf.ni (Int.le_refl _))
      · intro j j1 j2 ih3 f y3 y4 hf
        have fin : ∀ (v : Int) (y3 y4 : AV), v = addE m (s.2.2 x) (s.2.2 y) g.toNat i.toNat j.toNat → Rn 159 209 [(2, 217), (0, (k : Int)), (0, (x : Int)), (0, (y : Int)), (0, ((m + m2 : Nat) : Int)), (0, (m : Int)), (0, g), (0, i), (0, j), y3, y4] [(0, v), (0, 72 * 0 + 36 * g + 6 * i + j), (2, 221)] (sr M1 221 f) (fun v M' => ∃ z, v = some (0, z) ∧ z = ((m + m2 : Nat) : Int) ∧ chg M M' (setm s k (m + m2) (addE m (s.2.2 x) (s.2.2 y))) (psh H s)) := by
          intro v y3 y4 hvv
          refine r_iastore d_159_209 sh_221 (by omega) (by omega) ?_
          rw [up_sr]
          refine r_iinc d_159_210 rfl (by omega) (stl_11_8 rfl rfl) ?_
          refine r_goto (t := 93) d_159_213 rfl ?_
          exact ih3 _ _ _ (hf.put hnb6 (gn := g.toNat) (i2 := i.toNat) (j2 := j.toNat) (by omega) (by omega) (by omega) (by omega) (by omega) hvv (by omega))
        have hcl := m_cell (sr M1 221 f) 0 g i j (by omega) (by omega) (by omega) (by omega)
        refine r_iload d_159_93 rfl ?_
        refine r_iload d_159_95 rfl ?_
        refine r_icmp_ge (t := 216) d_159_97 rfl (fun hz => absurd hz (by omega)) (fun _ => ?_)
        by_cases hi : i < m
        · refine r_iload d_159_100 rfl ?_
          refine r_iload d_159_102 rfl ?_
          refine r_icmp_ge (t := 118) d_159_104 rfl (fun hz => absurd hz (by omega)) (fun _ => ?_)
          by_cases hj : j < m
          · have hcell : sr M1 221 f 220 (72 * (x : Int) + 36 * g + 6 * i + j) = addE m (s.2.2 x) (s.2.2 y) g.toNat i.toNat j.toNat := by
              rw [sr_ne _ _ (by decide)]
              have := hcx.2 g.toNat i.toNat j.toNat (by omega) (by omega) (by omega)
              rw [show ((g.toNat : Nat) : Int) = g by omega, show ((j.toNat : Nat) : Int) = j by omega, show ((i.toNat : Nat) : Int) = i by omega] at this
              rw [this]
              unfold addE
              rw [if_pos (by omega)]
            refine r_iload d_159_107 rfl ?_
            refine r_iload d_159_109 rfl ?_
            refine r_icmp_ge (t := 118) d_159_111 rfl (fun hz => absurd hz (by omega)) (fun _ => ?_)
            refine r_iconst d_159_114 rfl ?_
            refine r_goto (t := 119) d_159_115 rfl ?_
            refine r_istore d_159_119 rfl (stl_11_9 rfl rfl) ?_
            refine r_iload d_159_121 rfl ?_
            refine r_iload d_159_123 rfl ?_
            refine r_icmp_lt (t := 139) d_159_125 rfl (fun _ => ?_) (fun hz => absurd (by omega) hz)
            refine r_iconst d_159_139 rfl ?_
            refine r_istore d_159_140 rfl (stl_11_10 rfl rfl) ?_
            refine r_aload_n d_159_142 rfl (by omega) ?_
            refine r_getc (ki := 4) d_159_143 q_159_23 rfl sh_217 fx_217_4 (by omega) ?_
            refine r_iconst d_159_146 rfl ?_
            refine r_iload d_159_147 rfl ?_
            refine r_iload d_159_149 rfl ?_
            refine r_iload d_159_151 rfl ?_
            refine r_callsp d_159_153 q_159_114 rfl rfl hcl ?_
            refine r_iload d_159_156 rfl ?_
            refine r_if_eq (t := 179) d_159_158 rfl (fun hz => absurd hz (by decide)) (fun _ => ?_)
            refine r_aload_n d_159_161 rfl (by omega) ?_
            refine r_getc (ki := 3) d_159_162 q_159_20 rfl sh_217 fx_217_3 (by omega) ?_
            refine r_iload_n d_159_165 rfl ?_
            refine r_iload d_159_166 rfl ?_
            refine r_iload d_159_168 rfl ?_
            refine r_iload d_159_170 rfl ?_
            refine r_callsp d_159_172 q_159_114 rfl rfl (m_cell _ x g i j (by omega) (by omega) (by omega) (by omega)) ?_
            refine r_ialoadv d_159_175 sh_220 (by omega) (by omega) hcell ?_
            refine r_goto (t := 209) d_159_176 rfl ?_
            exact fin _ _ _ rfl
          · refine r_iload d_159_107 rfl ?_
            refine r_iload d_159_109 rfl ?_
            refine r_icmp_ge (t := 118) d_159_111 rfl (fun _ => ?_) (fun hz => absurd (by omega) hz)
            refine r_iconst d_159_118 rfl ?_
            refine r_istore d_159_119 rfl (stl_11_9 rfl rfl) ?_
            refine r_iload d_159_121 rfl ?_
            refine r_iload d_159_123 rfl ?_
            refine r_icmp_lt (t := 139) d_159_125 rfl (fun _ => ?_) (fun hz => absurd (by omega) hz)
            refine r_iconst d_159_139 rfl ?_
            refine r_istore d_159_140 rfl (stl_11_10 rfl rfl) ?_
            refine r_aload_n d_159_142 rfl (by omega) ?_
            refine r_getc (ki := 4) d_159_143 q_159_23 rfl sh_217 fx_217_4 (by omega) ?_
            refine r_iconst d_159_146 rfl ?_
            refine r_iload d_159_147 rfl ?_
            refine r_iload d_159_149 rfl ?_
            refine r_iload d_159_151 rfl ?_
            refine r_callsp d_159_153 q_159_114 rfl rfl hcl ?_
            refine r_iload d_159_156 rfl ?_
            refine r_if_eq (t := 179) d_159_158 rfl (fun _ => ?_) (fun hz => absurd (by decide) hz)
            refine r_iload d_159_179 rfl ?_
            refine r_if_eq (t := 208) d_159_181 rfl (fun _ => ?_) (fun hz => absurd (by decide) hz)
            refine r_iconst d_159_208 rfl ?_
            refine fin _ _ _ ?_
            unfold addE
            rw [if_neg (by omega), if_neg (by omega)]
        · refine r_iload d_159_100 rfl ?_
          refine r_iload d_159_102 rfl ?_
          refine r_icmp_ge (t := 118) d_159_104 rfl (fun _ => ?_) (fun hz => absurd (by omega) hz)
          refine r_iconst d_159_118 rfl ?_
          refine r_istore d_159_119 rfl (stl_11_9 rfl rfl) ?_
          refine r_iload d_159_121 rfl ?_
          refine r_iload d_159_123 rfl ?_
          refine r_icmp_lt (t := 139) d_159_125 rfl (fun hz => absurd hz (by omega)) (fun _ => ?_)
          by_cases hj : j < m
          · refine r_iload d_159_128 rfl ?_
            refine r_iload d_159_130 rfl ?_
            refine r_icmp_lt (t := 139) d_159_132 rfl (fun _ => ?_) (fun hz => absurd (by omega) hz)
            refine r_iconst d_159_139 rfl ?_
            refine r_istore d_159_140 rfl (stl_11_10 rfl rfl) ?_
            refine r_aload_n d_159_142 rfl (by omega) ?_
            refine r_getc (ki := 4) d_159_143 q_159_23 rfl sh_217 fx_217_4 (by omega) ?_
            refine r_iconst d_159_146 rfl ?_
            refine r_iload d_159_147 rfl ?_
            refine r_iload d_159_149 rfl ?_
            refine r_iload d_159_151 rfl ?_
            refine r_callsp d_159_153 q_159_114 rfl rfl hcl ?_
            refine r_iload d_159_156 rfl ?_
            refine r_if_eq (t := 179) d_159_158 rfl (fun _ => ?_) (fun hz => absurd (by decide) hz)
            refine r_iload d_159_179 rfl ?_
            refine r_if_eq (t := 208) d_159_181 rfl (fun _ => ?_) (fun hz => absurd (by decide) hz)
            refine r_iconst d_159_208 rfl ?_
            refine fin _ _ _ ?_
            unfold addE
            rw [if_neg (by omega), if_neg (by omega)]
          · have hcell : sr M1 221 f 220 (72 * (y : Int) + 36 * g + 6 * (i - m) + (j - m)) = addE m (s.2.2 x) (s.2.2 y) g.toNat i.toNat j.toNat := by
              rw [sr_ne _ _ (by decide)]
              have := hcy.2 g.toNat (i.toNat - m) (j.toNat - m) (by omega) (by omega) (by omega)
              rw [show ((g.toNat : Nat) : Int) = g by omega, show ((j.toNat - m : Nat) : Int) = j - m by omega, show ((i.toNat - m : Nat) : Int) = i - m by omega] at this
              rw [this]
              unfold addE
              rw [if_neg (by omega), if_pos (by omega)]
            refine r_iload d_159_128 rfl ?_
            refine r_iload d_159_130 rfl ?_
            refine r_icmp_lt (t := 139) d_159_132 rfl (fun hz => absurd hz (by omega)) (fun _ => ?_)
            refine r_iconst d_159_135 rfl ?_
            refine r_goto (t := 140) d_159_136 rfl ?_
            refine r_istore d_159_140 rfl (stl_11_10 rfl rfl) ?_
            refine r_aload_n d_159_142 rfl (by omega) ?_
            refine r_getc (ki := 4) d_159_143 q_159_23 rfl sh_217 fx_217_4 (by omega) ?_
            refine r_iconst d_159_146 rfl ?_
            refine r_iload d_159_147 rfl ?_
            refine r_iload d_159_149 rfl ?_
            refine r_iload d_159_151 rfl ?_
            refine r_callsp d_159_153 q_159_114 rfl rfl hcl ?_
            refine r_iload d_159_156 rfl ?_
            refine r_if_eq (t := 179) d_159_158 rfl (fun _ => ?_) (fun hz => absurd (by decide) hz)
            refine r_iload d_159_179 rfl ?_
            refine r_if_eq (t := 208) d_159_181 rfl (fun hz => absurd hz (by decide)) (fun _ => ?_)
            refine r_aload_n d_159_184 rfl (by omega) ?_
            refine r_getc (ki := 3) d_159_185 q_159_20 rfl sh_217 fx_217_3 (by omega) ?_
            refine r_iload_n d_159_188 rfl ?_
            refine r_iload d_159_189 rfl ?_
            refine r_iload d_159_191 rfl ?_
            refine r_iload d_159_193 rfl ?_
            refine r_isub d_159_195 (by omega) ?_
            refine r_iload d_159_196 rfl ?_
            refine r_iload d_159_198 rfl ?_
            refine r_isub d_159_200 (by omega) ?_
            refine r_callsp d_159_201 q_159_114 rfl rfl (m_cell _ y g (i - m) (j - m) (by omega) (by omega) (by omega) (by omega)) ?_
            refine r_ialoadv d_159_204 sh_220 (by omega) (by omega) hcell ?_
            refine r_goto (t := 209) d_159_205 rfl ?_
            exact fin _ _ _ rfl
theorem m_times_bad (M : Mo) (hb : cb M) {k x y : Int} (h : ¬ ((0 ≤ k ∧ k ≤ 3) ∧ (0 ≤ x ∧ x ≤ 3) ∧ 0 ≤ y ∧ y ≤ 3)) : PJ 160 [(2, 217), (0, k), (0, x), (0, y)] M (-2) (up2 M 218 0 (M 218 0 + 1)) := by
  refine Cl.intro (L := [(2, 217), (0, k), (0, x), (0, y), (9, 0), (9, 0), (9, 0), (9, 0), (9, 0), (9, 0)]) (rcv_v ow_160.2.1 sh_217) (by unfold entl; rw [mx_160]; rfl) (by rw [mx_160]; exact Nat.le_of_ble_eq_true rfl) rfl ?_
  have hbad := m_bad M (hb 0 (by omega) (by omega))
  refine r_iload_n d_160_0 rfl ?_
  refine r_callsp d_160_1 q_160_178 rfl rfl (m_isModule M k) ?_
  by_cases hk : 0 ≤ k ∧ k ≤ 3
  · rw [if_pos hk]
    refine r_if_eq (t := 21) d_160_4 rfl (fun hz => absurd hz (by decide)) (fun _ => ?_)
    refine r_iload_n d_160_7 rfl ?_
    refine r_callsp d_160_8 q_160_178 rfl rfl (m_isModule M x) ?_
    by_cases hx : 0 ≤ x ∧ x ≤ 3
    · rw [if_pos hx]
      refine r_if_eq (t := 21) d_160_11 rfl (fun hz => absurd hz (by decide)) (fun _ => ?_)
      refine r_iload_n d_160_14 rfl ?_
      refine r_callsp d_160_15 q_160_178 rfl rfl (m_isModule M y) ?_
      rw [if_neg (fun q => h ⟨hk, hx, q⟩)]
      refine r_if_ne (t := 26) d_160_18 rfl (fun hz => absurd hz (by decide)) (fun _ => ?_)
      refine r_aload_n d_160_21 rfl (by omega) ?_
      refine r_callvj d_160_22 q_160_172 rfl rfl hbad ?_
      refine r_iret d_160_25 rt_160 ?_
      exact ⟨rfl, rfl⟩
    · rw [if_neg hx]
      refine r_if_eq (t := 21) d_160_11 rfl (fun _ => ?_) (fun hz => absurd (by decide) hz)
      refine r_aload_n d_160_21 rfl (by omega) ?_
      refine r_callvj d_160_22 q_160_172 rfl rfl hbad ?_
      refine r_iret d_160_25 rt_160 ?_
      exact ⟨rfl, rfl⟩
  · rw [if_neg hk]
    refine r_if_eq (t := 21) d_160_4 rfl (fun _ => ?_) (fun hz => absurd (by decide) hz)
    refine r_aload_n d_160_21 rfl (by omega) ?_
    refine r_callvj d_160_22 q_160_172 rfl rfl hbad ?_
    refine r_iret d_160_25 rt_160 ?_
    exact ⟨rfl, rfl⟩
theorem m_times_no (M : Mo) (hb : cb M) {s : Sst} (hv : vs s) (hc : cu M s) {k x y : Nat} (hk : k < 4) (hx : x < 4) (hy : y < 4) (h : ¬ nb s.1 (s.2.1 x * s.2.1 y)) : PJ 160 [(2, 217), (0, (k : Int)), (0, (x : Int)), (0, (y : Int))] M (-3) (up2 M 218 1 (M 218 1 + 1)) := by
  refine Cl.intro (L := [(2, 217), (0, (k : Int)), (0, (x : Int)), (0, (y : Int)), (9, 0), (9, 0), (9, 0), (9, 0), (9, 0), (9, 0)]) (rcv_v ow_160.2.1 sh_217) (by unfold entl; rw [mx_160]; rfl) (by rw [mx_160]; exact Nat.le_of_ble_eq_true rfl) rfl ?_
  have hno := m_no M (hb 1 (by omega) (by omega))
  have hx6 := vs_6 hv hx
  have hy6 := vs_6 hv hy
  have hlim := m_limit M hc.1
  rw [pI_lim hv.1] at hlim
  unfold nb at h
  have he := hv.1
  refine r_iload_n d_160_0 rfl ?_
  refine r_callsp d_160_1 q_160_178 rfl rfl (m_isModule M k) ?_
  rw [if_pos (by omega)]
  refine r_if_eq (t := 21) d_160_4 rfl (fun hz => absurd hz (by decide)) (fun _ => ?_)
  refine r_iload_n d_160_7 rfl ?_
  refine r_callsp d_160_8 q_160_178 rfl rfl (m_isModule M x) ?_
  rw [if_pos (by omega)]
  refine r_if_eq (t := 21) d_160_11 rfl (fun hz => absurd hz (by decide)) (fun _ => ?_)
  refine r_iload_n d_160_14 rfl ?_
  refine r_callsp d_160_15 q_160_178 rfl rfl (m_isModule M y) ?_
  rw [if_pos (by omega)]
  refine r_if_ne (t := 26) d_160_18 rfl (fun _ => ?_) (fun hz => absurd (by decide) hz)
  refine r_aload_n d_160_26 rfl (by omega) ?_
  refine r_getc (ki := 2) d_160_27 q_160_17 rfl sh_217 fx_217_2 (by omega) ?_
  refine r_iload_n d_160_30 rfl ?_
  refine r_ialoadv d_160_31 sh_219 (by omega) (by omega) (hc.2 x hx).1 ?_
  refine r_aload_n d_160_32 rfl (by omega) ?_
  refine r_getc (ki := 2) d_160_33 q_160_17 rfl sh_217 fx_217_2 (by omega) ?_
  refine r_iload_n d_160_36 rfl ?_
  refine r_ialoadv d_160_37 sh_219 (by omega) (by omega) (hc.2 y hy).1 ?_
  refine r_imul d_160_38 (mr (a := 6) (b := 6) (by omega) (by omega) (by decide)) ?_
  rw [← Int.natCast_mul]
  refine r_istore d_160_39 rfl (stl_10_4 rfl rfl) ?_
  refine r_iload d_160_41 rfl ?_
  refine r_aload_n d_160_43 rfl (by omega) ?_
  refine r_callvp d_160_44 q_160_182 rfl rfl hlim ?_
  refine r_icmp_le (t := 55) d_160_47 rfl (fun hz => absurd hz (by omega)) (fun _ => ?_)
  refine r_aload_n d_160_50 rfl (by omega) ?_
  refine r_callvj d_160_51 q_160_168 rfl rfl hno ?_
  refine r_iret d_160_54 rt_160 ?_
  exact ⟨rfl, rfl⟩
def mulE (p : Int) (m : Nat) (X Y : Nat → Nat → Nat → Int) (g i j : Nat) : Int := X g (i / m) (j / m) * Y g (i % m) (j % m) % p
theorem m_times {M : Mo} {s : Sst} {H : List Sst} (hv : vs s) (hc : cu M s) (hH : hi M H) {k x y : Nat} (hk : k < 4) (hx : x < 4) (hy : y < 4) (h : nb s.1 (s.2.1 x * s.2.1 y)) : CI 160 [(2, 217), (0, (k : Int)), (0, (x : Int)), (0, (y : Int))] M (fun z M' => z = ((s.2.1 x * s.2.1 y : Nat) : Int) ∧ chg M M' (setm s k (s.2.1 x * s.2.1 y) (mulE (pI s.1) (s.2.1 y) (s.2.2 x) (s.2.2 y))) (psh H s)) := by
  refine Cl.intro (L := [(2, 217), (0, (k : Int)), (0, (x : Int)), (0, (y : Int)), (9, 0), (9, 0), (9, 0), (9, 0), (9, 0), (9, 0)]) (rcv_v ow_160.2.1 sh_217) (by unfold entl; rw [mx_160]; rfl) (by rw [mx_160]; exact Nat.le_of_ble_eq_true rfl) rfl ?_
  have hx6 := vs_6 hv hx
  have hy6 := vs_6 hv hy
  have hlim := m_limit M hc.1
  rw [pI_lim hv.1] at hlim
  have h6 := h
  unfold nb at h6
  have he := hv.1
  have hpb := (pI23 he).b
  refine r_iload_n d_160_0 rfl ?_
  refine r_callsp d_160_1 q_160_178 rfl rfl (m_isModule M k) ?_
  rw [if_pos (by omega)]
  refine r_if_eq (t := 21) d_160_4 rfl (fun hz => absurd hz (by decide)) (fun _ => ?_)
  refine r_iload_n d_160_7 rfl ?_
  refine r_callsp d_160_8 q_160_178 rfl rfl (m_isModule M x) ?_
  rw [if_pos (by omega)]
  refine r_if_eq (t := 21) d_160_11 rfl (fun hz => absurd hz (by decide)) (fun _ => ?_)
  refine r_iload_n d_160_14 rfl ?_
  refine r_callsp d_160_15 q_160_178 rfl rfl (m_isModule M y) ?_
  rw [if_pos (by omega)]
  refine r_if_ne (t := 26) d_160_18 rfl (fun _ => ?_) (fun hz => absurd (by decide) hz)
  refine r_aload_n d_160_26 rfl (by omega) ?_
  refine r_getc (ki := 2) d_160_27 q_160_17 rfl sh_217 fx_217_2 (by omega) ?_
  refine r_iload_n d_160_30 rfl ?_
  refine r_ialoadv d_160_31 sh_219 (by omega) (by omega) (hc.2 x hx).1 ?_
  refine r_aload_n d_160_32 rfl (by omega) ?_
  refine r_getc (ki := 2) d_160_33 q_160_17 rfl sh_217 fx_217_2 (by omega) ?_
  refine r_iload_n d_160_36 rfl ?_
  refine r_ialoadv d_160_37 sh_219 (by omega) (by omega) (hc.2 y hy).1 ?_
  refine r_imul d_160_38 (mr (a := 6) (b := 6) (by omega) (by omega) (by decide)) ?_
  rw [← Int.natCast_mul]
  refine r_istore d_160_39 rfl (stl_10_4 rfl rfl) ?_
  refine r_iload d_160_41 rfl ?_
  refine r_aload_n d_160_43 rfl (by omega) ?_
  refine r_callvp d_160_44 q_160_182 rfl rfl hlim ?_
  refine r_icmp_le (t := 55) d_160_47 rfl (fun _ => ?_) (fun hz => absurd (by omega) hz)
  refine r_aload_n d_160_55 rfl (by omega) ?_
  refine r_callvr d_160_56 q_160_175 rfl rfl (m_leavesState M hv hc hH) (fun M1 hM1 => ?_)
  obtain ⟨hF1, h5, hH1⟩ := hM1
  have hc1 : cu M1 s := cu.fr hv hc hF1 (fun x y q => by unfold WL at q; omega)
  refine r_aload_n d_160_59 rfl (by omega) ?_
  refine r_callvr d_160_60 q_160_156 rfl rfl (m_clearsFresh M1) (fun M2 hM2 => ?_)
  obtain ⟨f0, rfl, hf0⟩ := hM2
  have hcx := hc1.2 x hx
  have hcy := hc1.2 y hy
  have hvx := hv.2 x hx
  have hvy := hv.2 y hy
  have hpp : ∀ f, sr M1 221 f 217 1 = pI s.1 := fun f => by rw [sr_ne _ _ (by decide)]; exact hc1.1
  generalize s.2.1 x = m at *
  generalize s.2.1 y = m2 at *
  have hsz : sr M1 221 f0 219 y = m2 := by rw [sr_ne _ _ (by decide), hcy.1]
  have hm2 : 0 < m2 := hvy.1
  have hnb6 : m * m2 ≤ 6 := by omega
  have hdv : ∀ i : Int, 0 ≤ i → i < ((m * m2 : Nat) : Int) → ∃ a b : Nat, i / (m2 : Int) = a ∧ i % (m2 : Int) = b ∧ a < m ∧ b < m2 ∧ i.toNat / m2 = a ∧ i.toNat % m2 = b := by
    intro i i1 i2
    refine ⟨i.toNat / m2, i.toNat % m2, ?_, ?_, ?_, Nat.mod_lt _ hm2, rfl, rfl⟩
    · rw [Int.natCast_ediv, show ((i.toNat : Nat) : Int) = i by omega]
    · rw [Int.natCast_emod, show ((i.toNat : Nat) : Int) = i by omega]
    · exact Nat.div_lt_of_lt_mul (by rw [Nat.mul_comm]; omega)
  refine r_aload_n d_160_63 rfl (by omega) ?_
  refine r_getc (ki := 2) d_160_64 q_160_17 rfl sh_217 fx_217_2 (by omega) ?_
  refine r_iload_n d_160_67 rfl ?_
  refine r_ialoadv d_160_68 sh_219 (by omega) (by omega) hsz ?_
  refine r_istore d_160_69 rfl (stl_10_5 rfl rfl) ?_
  refine r_iconst d_160_71 rfl ?_
  refine r_istore d_160_72 rfl (stl_10_6 rfl rfl) ?_
  generalize hN : m * m2 = N at *
  refine dn_ind (R := fun g => ∀ f y1 y2 y3, fil N (mulE (pI s.1) m2 (s.2.2 x) (s.2.2 y)) f g 0 0 → Rn 160 74 [(2, 217), (0, (k : Int)), (0, (x : Int)), (0, (y : Int)), (0, (N : Int)), (0, (m2 : Int)), (0, g), y1, y2, y3] [] (sr M1 221 f) _) (lo := 0) (n := 2) ?_ ?_ 0 (by omega) (by omega) f0 _ _ _ fil.start
  · intro f y1 y2 y3 hf
    refine r_iload d_160_74 rfl ?_
    refine r_iconst d_160_76 rfl ?_
    refine r_icmp_ge (t := 185) d_160_77 rfl (fun _ => ?_) (fun hz => absurd (by omega) hz)
    refine r_aload_n d_160_185 rfl (by omega) ?_
    refine r_iload_n d_160_186 rfl ?_
    refine r_iload d_160_187 rfl ?_
    refine r_callvr d_160_189 q_160_159 rfl rfl (m_takesFresh (sr M1 221 f) (k := k) (n := (N : Int)) (by omega)) (fun M3 hM3 => ?_)
    obtain ⟨hF3, hs3, hc3⟩ := hM3
    refine r_iload d_160_192 rfl ?_
    refine r_iret d_160_194 rt_160 ?_
    refine ⟨_, rfl, rfl, chg_fin hv hc hk hnb6 hF1 h5 hH1 (P := fun x _ => x = 221) (sr_fr (fun _ => rfl)) (fun x y q => Or.inl (Or.inr (Or.inl (by omega)))) hF3 hs3 hc3 (fun g i j a1 a2 a3 => ?_)⟩
    rw [sr_eq]
    exact hf.fin a1 a2 a3
  · intro g g1 g2 ih f y1 y2 y3 hf
    refine r_iload d_160_74 rfl ?_
    refine r_iconst d_160_76 rfl ?_
    refine r_icmp_ge (t := 185) d_160_77 rfl (fun hz => absurd hz (by omega)) (fun _ => ?_)
    refine r_iconst d_160_80 rfl ?_
    refine r_istore d_160_81 rfl (stl_10_7 rfl rfl) ?_
    refine dn_ind (R := fun i => ∀ f y2 y3, fil N (mulE (pI s.1) m2 (s.2.2 x) (s.2.2 y)) f g i 0 → Rn 160 83 [(2, 217), (0, (k : Int)), (0, (x : Int)), (0, (y : Int)), (0, (N : Int)), (0, (m2 : Int)), (0, g), (0, i), y2, y3] [] (sr M1 221 f) _) (lo := 0) (n := (N : Int)) ?_ ?_ 0 (by omega) (by omega) f _ _ hf
    · intro f y2 y3 hf
      refine r_iload d_160_83 rfl ?_
      refine r_iload d_160_85 rfl ?_
      refine r_icmp_ge (t := 179) d_160_87 rfl (fun _ => ?_) (fun hz => absurd (by omega) hz)
      refine r_iinc d_160_179 rfl (by omega) (stl_10_6 rfl rfl) ?_
      refine r_goto (t := 74) d_160_182 rfl ?_
      exact ih _ _ _ _ (hf.ng (Int.le_refl _))
    · intro i i1 i2 ih2 f y2 y3 hf
      refine r_iload d_160_83 rfl ?_
      refine r_iload d_160_85 rfl ?_
      refine r_icmp_ge (t := 179) d_160_87 rfl (fun hz => absurd hz (by omega)) (fun _ => ?_)
      refine r_iconst d_160_90 rfl ?_
      refine r_istore d_160_91 rfl (stl_10_8 rfl rfl) ?_
      refine dn_ind (R := fun j => ∀ f y3, fil N (mulE (pI s.1) m2 (s.2.2 x) (s.2.2 y)) f g i j → Rn 160 93 [(2, 217), (0, (k : Int)), (0, (x : Int)), (0, (y : Int)), (0, (N : Int)), (0, (m2 : Int)), (0, g), (0, i), (0, j), y3] [] (sr M1 221 f) _) (lo := 0) (n := (N : Int)) ?_ ?_ 0 (by omega) (by omega) f _ hf
      · intro f y3 hf
        refine r_iload d_160_93 rfl ?_
        refine r_iload d_160_95 rfl ?_
        refine r_icmp_ge (t := 173) d_160_97 rfl (fun _ => ?_) (fun hz => absurd (by omega) hz)
        refine r_iinc d_160_173 rfl (by omega) (stl_10_7 rfl rfl) ?_
        refine r_goto (t := 83) d_160_176 rfl ?_
        exact ih2 _ _ _ (hf.ni (Int.le_refl _))
      · intro j j1 j2 ih3 f y3 hf
        obtain ⟨a, b, a1, b1, a2, b2, a3, b3⟩ := hdv i i1 i2
        obtain ⟨c, d, c1, d1, c2, d2, c3, d3⟩ := hdv j j1 j2
        have hX : sr M1 221 f 220 (72 * (x : Int) + 36 * g + 6 * (a : Int) + (c : Int)) = s.2.2 x g.toNat a c := by
          rw [sr_ne _ _ (by decide)]
          have := hcx.2 g.toNat a c (by omega) (by omega) (by omega)
          rw [show ((g.toNat : Nat) : Int) = g by omega] at this
          exact this
        have hY : sr M1 221 f 220 (72 * (y : Int) + 36 * g + 6 * (b : Int) + (d : Int)) = s.2.2 y g.toNat b d := by
          rw [sr_ne _ _ (by decide)]
          have := hcy.2 g.toNat b d (by omega) (by omega) (by omega)
          rw [show ((g.toNat : Nat) : Int) = g by omega] at this
          exact this
        have hXr := hvx.2.2 g.toNat a c (by omega) (by omega) (by omega)
        have hYr := hvy.2.2 g.toNat b d (by omega) (by omega) (by omega)
        have hmb := mb (a := 2) (b := 2) (x := s.2.2 x g.toNat a c) (y := s.2.2 y g.toNat b d) (by omega) (by omega)
        refine r_iload d_160_93 rfl ?_
        refine r_iload d_160_95 rfl ?_
        refine r_icmp_ge (t := 173) d_160_97 rfl (fun hz => absurd hz (by omega)) (fun _ => ?_)
        refine r_aload_n d_160_100 rfl (by omega) ?_
        refine r_getc (ki := 3) d_160_101 q_160_20 rfl sh_217 fx_217_3 (by omega) ?_
        refine r_iload_n d_160_104 rfl ?_
        refine r_iload d_160_105 rfl ?_
        refine r_iload d_160_107 rfl ?_
        refine r_iload d_160_109 rfl ?_
        refine r_idivn d_160_111 (by omega) (by omega) ?_
        refine r_iload d_160_112 rfl ?_
        refine r_iload d_160_114 rfl ?_
        refine r_idivn d_160_116 (by omega) (by omega) ?_
        rw [a1, c1]
        refine r_callsp d_160_117 q_160_114 rfl rfl (m_cell _ x g a c (by omega) (by omega) (by omega) (by omega)) ?_
        refine r_ialoadv d_160_120 sh_220 (by omega) (by omega) hX ?_
        refine r_aload_n d_160_121 rfl (by omega) ?_
        refine r_getc (ki := 3) d_160_122 q_160_20 rfl sh_217 fx_217_3 (by omega) ?_
        refine r_iload_n d_160_125 rfl ?_
        refine r_iload d_160_126 rfl ?_
        refine r_iload d_160_128 rfl ?_
        refine r_iload d_160_130 rfl ?_
        refine r_iremn d_160_132 (by omega) (by omega) ?_
        refine r_iload d_160_133 rfl ?_
        refine r_iload d_160_135 rfl ?_
        refine r_iremn d_160_137 (by omega) (by omega) ?_
        rw [b1, d1]
        refine r_callsp d_160_138 q_160_114 rfl rfl (m_cell _ y g b d (by omega) (by omega) (by omega) (by omega)) ?_
        refine r_ialoadv d_160_141 sh_220 (by omega) (by omega) hY ?_
        refine r_imul d_160_142 (by omega) ?_
        refine r_istore d_160_143 rfl (stl_10_9 rfl rfl) ?_
        refine r_aload_n d_160_145 rfl (by omega) ?_
        refine r_getc (ki := 4) d_160_146 q_160_23 rfl sh_217 fx_217_4 (by omega) ?_
        refine r_iconst d_160_149 rfl ?_
        refine r_iload d_160_150 rfl ?_
        refine r_iload d_160_152 rfl ?_
        refine r_iload d_160_154 rfl ?_
        refine r_callsp d_160_156 q_160_114 rfl rfl (m_cell _ 0 g i j (by omega) (by omega) (by omega) (by omega)) ?_
        refine r_iload d_160_159 rfl ?_
        refine r_aload_n d_160_161 rfl (by omega) ?_
        refine r_getfv (ki := 1) d_160_162 q_160_13 rfl sh_217 (hpp f) ?_
        refine r_iremn d_160_165 (by omega) (by omega) ?_
        refine r_iastore d_160_166 sh_221 (by omega) (by omega) ?_
        rw [up_sr]
        refine r_iinc d_160_167 rfl (by omega) (stl_10_8 rfl rfl) ?_
        refine r_goto (t := 93) d_160_170 rfl ?_
        refine ih3 _ _ (hf.put hnb6 (gn := g.toNat) (i2 := i.toNat) (j2 := j.toNat) (by omega) (by omega) (by omega) (by omega) (by omega) ?_ (by omega))
        unfold mulE
        rw [a3, b3, c3, d3]
