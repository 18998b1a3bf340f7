/-! The model: small methods. -/
theorem m_in (M : Mo) (v lo hi : Int) : PI 129 [(0, v), (0, lo), (0, hi)] M (if lo ≤ v ∧ v ≤ hi then 1 else 0) := by
  refine Cl.intro (L := [(0, v), (0, lo), (0, hi)]) (rcv_s ow_129.1) (by unfold entl; rw [mx_129]; rfl) (by rw [mx_129]; exact Nat.le_of_ble_eq_true rfl) rfl ?_
  refine r_iload_n d_129_0 rfl ?_
  refine r_iload_n d_129_1 rfl ?_
  refine r_icmp_lt (t := 14) d_129_2 rfl (fun h => ?_) (fun h => ?_)
  · refine r_iconst d_129_14 rfl ?_
    refine r_zret d_129_15 rt_129 (by omega) ?_
    exact ⟨by rw [if_neg (by omega)], rfl⟩
  · refine r_iload_n d_129_5 rfl ?_
    refine r_iload_n d_129_6 rfl ?_
    refine r_icmp_gt (t := 14) d_129_7 rfl (fun h => ?_) (fun h => ?_)
    · refine r_iconst d_129_14 rfl ?_
      refine r_zret d_129_15 rt_129 (by omega) ?_
      exact ⟨by rw [if_neg (by omega)], rfl⟩
    · refine r_iconst d_129_10 rfl ?_
      refine r_goto (t := 15) d_129_11 rfl ?_
      refine r_zret d_129_15 rt_129 (by omega) ?_
      exact ⟨by rw [if_pos (by omega)], rfl⟩
theorem m_bad (M : Mo) (h : -1 ≤ M 218 0 ∧ M 218 0 < 2000000000) : PJ 126 [(2, 217)] M (-2) (up2 M 218 0 (M 218 0 + 1)) := by
  refine Cl.intro (L := [(2, 217)]) (rcv_v ow_126.2.1 sh_217) (by unfold entl; rw [mx_126]; rfl) (by rw [mx_126]; exact Nat.le_of_ble_eq_true rfl) rfl ?_
  refine r_aload_n d_126_0 rfl (by omega) ?_
  refine r_getc (ki := 0) d_126_1 q_126_7 rfl sh_217 fx_217_0 (by omega) ?_
  refine r_iconst d_126_4 rfl ?_
  refine r_dup2 d_126_5 rfl ?_
  refine r_iaload d_126_6 sh_218 (by omega) (by omega) ?_
  refine r_iconst d_126_7 rfl ?_
  refine r_iadd d_126_8 (by omega) ?_
  refine r_iastore d_126_9 sh_218 (by omega) (by omega) ?_
  refine r_bipush d_126_10 rfl ?_
  refine r_iret d_126_12 rt_126 ?_
  exact ⟨rfl, rfl⟩
theorem m_limit (M : Mo) {p : Int} (hp : M 217 1 = p) : PI 130 [(2, 217)] M (if p = 2 then 6 else 5) := by
  refine Cl.intro (L := [(2, 217)]) (rcv_v ow_130.2.1 sh_217) (by unfold entl; rw [mx_130]; rfl) (by rw [mx_130]; exact Nat.le_of_ble_eq_true rfl) rfl ?_
  refine r_aload_n d_130_0 rfl (by omega) ?_
  refine r_getfv (ki := 1) d_130_1 q_130_13 rfl sh_217 hp ?_
  refine r_iconst d_130_4 rfl ?_
  refine r_icmp_ne (t := 13) d_130_5 rfl (fun h => ?_) (fun h => ?_)
  · refine r_iconst d_130_13 rfl ?_
    refine r_iret d_130_14 rt_130 ?_
    exact ⟨by rw [if_neg h], rfl⟩
  · refine r_bipush d_130_8 rfl ?_
    refine r_goto (t := 14) d_130_10 rfl ?_
    refine r_iret d_130_14 rt_130 ?_
    exact ⟨by rw [if_pos (by omega)], rfl⟩
theorem m_power (M : Mo) {p : Int} (hp : M 217 1 = p) (h23 : p23 p) (n : Int) (hn : 0 ≤ n ∧ n ≤ 6) : PI 131 [(2, 217), (0, n)] M (p ^ n.toNat) := by
  refine Cl.intro (L := [(2, 217), (0, n), (9, 0), (9, 0)]) (rcv_v ow_131.2.1 sh_217) (by unfold entl; rw [mx_131]; rfl) (by rw [mx_131]; exact Nat.le_of_ble_eq_true rfl) rfl ?_
  refine r_iconst d_131_0 rfl ?_
  refine r_istore_n d_131_1 rfl (stl_4_2 rfl rfl) ?_
  refine r_iconst d_131_2 rfl ?_
  refine r_istore_n d_131_3 rfl (stl_4_3 rfl rfl) ?_
  refine dn_ind (R := fun i => ∀ v, v = p ^ i.toNat → Rn 131 4 [(2, 217), (0, n), (0, v), (0, i)] [] M _) (lo := 0) (n := n) ?_ ?_ 0 (by omega) (by omega) 1 (Int.pow_zero p).symm
  · intro v hv
    refine r_iload_n d_131_4 rfl ?_
    refine r_iload_n d_131_5 rfl ?_
    refine r_icmp_ge (t := 22) d_131_6 rfl (fun _ => ?_) (fun hz => absurd (by omega) hz)
    refine r_iload_n d_131_22 rfl ?_
    refine r_iret d_131_23 rt_131 ?_
    exact ⟨by rw [hv], rfl⟩
  · intro i h1 h2 ih v hv
    have hb := h23.b
    have h3 := pw_6 h23 (n := i.toNat) (by omega)
    have h4 := pw_pos h23 i.toNat
    subst hv
    refine r_iload_n d_131_4 rfl ?_
    refine r_iload_n d_131_5 rfl ?_
    refine r_icmp_ge (t := 22) d_131_6 rfl (fun hz => absurd hz (by omega)) (fun _ => ?_)
    refine r_iload_n d_131_9 rfl ?_
    refine r_aload_n d_131_10 rfl (by omega) ?_
    refine r_getfv (ki := 1) d_131_11 q_131_13 rfl sh_217 hp ?_
    refine r_imul d_131_14 (mr (a := 729) (b := 3) (by omega) (by omega) (by decide)) ?_
    refine r_istore_n d_131_15 rfl (stl_4_2 rfl rfl) ?_
    refine r_iinc d_131_16 rfl (by omega) (stl_4_3 rfl rfl) ?_
    refine r_goto (t := 4) d_131_19 rfl ?_
    exact ih _ (by rw [show (i + 1).toNat = i.toNat + 1 by omega, Int.pow_succ])
theorem m_figure (M : Mo) {p : Int} (hp : M 217 1 = p) (h23 : p23 p) (v i : Int) (hv : 0 ≤ v ∧ v < 2147483648) (hi : 0 ≤ i ∧ i ≤ 6) : PI 132 [(2, 217), (0, v), (0, i)] M (dg p v i.toNat) := by
  refine Cl.intro (L := [(2, 217), (0, v), (0, i)]) (rcv_v ow_132.2.1 sh_217) (by unfold entl; rw [mx_132]; rfl) (by rw [mx_132]; exact Nat.le_of_ble_eq_true rfl) rfl ?_
  have hb := h23.b
  have h3 := pw_6 h23 (n := i.toNat) (by omega)
  have h4 := pw_pos h23 i.toNat
  have h5 := Int.ediv_nonneg hv.1 (by omega : 0 ≤ p ^ i.toNat)
  have h6 := Int.ediv_le_self (p ^ i.toNat) hv.1
  refine r_iload_n d_132_0 rfl ?_
  refine r_aload_n d_132_1 rfl (by omega) ?_
  refine r_iload_n d_132_2 rfl ?_
  refine r_callvp d_132_3 q_132_110 rfl rfl (m_power M hp h23 i hi) ?_
  refine r_idivn d_132_6 (by omega) (by omega) ?_
  refine r_aload_n d_132_7 rfl (by omega) ?_
  refine r_getfv (ki := 1) d_132_8 q_132_13 rfl sh_217 hp ?_
  refine r_iremn d_132_11 (by omega) (by omega) ?_
  refine r_iret d_132_12 rt_132 ?_
  exact ⟨rfl, rfl⟩
theorem m_cell (M : Mo) (k g i j : Int) (hk : 0 ≤ k ∧ k ≤ 100) (hg : 0 ≤ g ∧ g ≤ 100) (hi : 0 ≤ i ∧ i ≤ 100) (hj : 0 ≤ j ∧ j ≤ 1000) : PI 133 [(0, k), (0, g), (0, i), (0, j)] M (72 * k + 36 * g + 6 * i + j) := by
  refine Cl.intro (L := [(0, k), (0, g), (0, i), (0, j)]) (rcv_s ow_133.1) (by unfold entl; rw [mx_133]; rfl) (by rw [mx_133]; exact Nat.le_of_ble_eq_true rfl) rfl ?_
  refine r_bipush d_133_0 rfl ?_
  refine r_iload_n d_133_2 rfl ?_
  refine r_imul d_133_3 (by omega) ?_
  refine r_bipush d_133_4 rfl ?_
  refine r_iload_n d_133_6 rfl ?_
  refine r_imul d_133_7 (by omega) ?_
  refine r_iadd d_133_8 (by omega) ?_
  refine r_bipush d_133_9 rfl ?_
  refine r_iload_n d_133_11 rfl ?_
  refine r_imul d_133_12 (by omega) ?_
  refine r_iadd d_133_13 (by omega) ?_
  refine r_iload_n d_133_14 rfl ?_
  refine r_iadd d_133_15 (by omega) ?_
  refine r_iret d_133_16 rt_133 ?_
  exact ⟨rfl, rfl⟩
theorem m_isModule (M : Mo) (k : Int) : PI 138 [(0, k)] M (if 0 ≤ k ∧ k ≤ 3 then 1 else 0) := by
  refine Cl.intro (L := [(0, k)]) (rcv_s ow_138.1) (by unfold entl; rw [mx_138]; rfl) (by rw [mx_138]; exact Nat.le_of_ble_eq_true rfl) rfl ?_
  refine r_iload_n d_138_0 rfl ?_
  refine r_iconst d_138_1 rfl ?_
  refine r_iconst d_138_2 rfl ?_
  refine r_callsp d_138_3 q_138_118 rfl rfl (m_in M k 0 3) ?_
  refine r_zret d_138_6 rt_138 (by split <;> omega) ?_
  exact ⟨rfl, rfl⟩
theorem m_isPlace (M : Mo) (k i : Int) {n : Int} (hk : 0 ≤ k ∧ k ≤ 10) (hn : M 219 k = n) (h6 : 0 ≤ n ∧ n ≤ 6) : PI 139 [(2, 217), (0, k), (0, i)] M (if 0 ≤ i ∧ i < n then 1 else 0) := by
  refine Cl.intro (L := [(2, 217), (0, k), (0, i)]) (rcv_v ow_139.2.1 sh_217) (by unfold entl; rw [mx_139]; rfl) (by rw [mx_139]; exact Nat.le_of_ble_eq_true rfl) rfl ?_
  refine r_iload_n d_139_0 rfl ?_
  refine r_iconst d_139_1 rfl ?_
  refine r_aload_n d_139_2 rfl (by omega) ?_
  refine r_getc (ki := 2) d_139_3 q_139_17 rfl sh_217 fx_217_2 (by omega) ?_
  refine r_iload_n d_139_6 rfl ?_
  refine r_ialoadv d_139_7 sh_219 (by omega) (by omega) hn ?_
  refine r_iconst d_139_8 rfl ?_
  refine r_isub d_139_9 (by omega) ?_
  refine r_callsp d_139_10 q_139_118 rfl rfl (m_in M i 0 (n - 1)) ?_
  refine r_zret d_139_13 rt_139 (by split <;> omega) ?_
  refine ⟨?_, rfl⟩
  congr 2
  by_cases h : 0 ≤ i ∧ i < n
  · rw [if_pos h, if_pos (by omega)]
  · rw [if_neg h, if_neg (by omega)]
theorem m_isVector (M : Mo) {p : Int} (hp : M 217 1 = p) (h23 : p23 p) (k v : Int) {n : Int} (hk : 0 ≤ k ∧ k ≤ 10) (hn : M 219 k = n) (h6 : 0 ≤ n ∧ n ≤ 6) : PI 140 [(2, 217), (0, k), (0, v)] M (if 0 ≤ v ∧ v < p ^ n.toNat then 1 else 0) := by
  refine Cl.intro (L := [(2, 217), (0, k), (0, v)]) (rcv_v ow_140.2.1 sh_217) (by unfold entl; rw [mx_140]; rfl) (by rw [mx_140]; exact Nat.le_of_ble_eq_true rfl) rfl ?_
  have h3 := pw_6 h23 (n := n.toNat) (by omega)
  have h4 := pw_pos h23 n.toNat
  refine r_iload_n d_140_0 rfl ?_
  refine r_iconst d_140_1 rfl ?_
  refine r_aload_n d_140_2 rfl (by omega) ?_
  refine r_aload_n d_140_3 rfl (by omega) ?_
  refine r_getc (ki := 2) d_140_4 q_140_17 rfl sh_217 fx_217_2 (by omega) ?_
  refine r_iload_n d_140_7 rfl ?_
  refine r_ialoadv d_140_8 sh_219 (by omega) (by omega) hn ?_
  refine r_callvp d_140_9 q_140_110 rfl rfl (m_power M hp h23 n h6) ?_
  refine r_iconst d_140_12 rfl ?_
  refine r_isub d_140_13 (by omega) ?_
  refine r_callsp d_140_14 q_140_118 rfl rfl (m_in M v 0 (p ^ n.toNat - 1)) ?_
  refine r_zret d_140_17 rt_140 (by split <;> omega) ?_
  refine ⟨?_, rfl⟩
  congr 2
  by_cases h : 0 ≤ v ∧ v < p ^ n.toNat
  · rw [if_pos h, if_pos (by omega)]
  · rw [if_neg h, if_neg (by omega)]
theorem m_plus (M : Mo) {p : Int} (hp : M 217 1 = p) (h23 : p23 p) (v w c : Int) (hv : 0 ≤ v ∧ v < 2147483648) (hw : 0 ≤ w ∧ w < 2147483648) (hc : 0 ≤ c ∧ c ≤ 3) : PI 134 [(2, 217), (0, v), (0, w), (0, c)] M (nu p (fun i => (dg p v i + c * dg p w i) % p) 6) := by
  refine Cl.intro (L := [(2, 217), (0, v), (0, w), (0, c), (9, 0), (9, 0), (9, 0), (9, 0)]) (rcv_v ow_134.2.1 sh_217) (by unfold entl; rw [mx_134]; rfl) (by rw [mx_134]; exact Nat.le_of_ble_eq_true rfl) rfl ?_
  have hb := h23.b
  refine r_iconst d_134_0 rfl ?_
  refine r_istore d_134_1 rfl (stl_8_4 rfl rfl) ?_
  refine r_iconst d_134_3 rfl ?_
  refine r_istore d_134_4 rfl (stl_8_5 rfl rfl) ?_
  refine r_iconst d_134_6 rfl ?_
  refine r_istore d_134_7 rfl (stl_8_6 rfl rfl) ?_
  refine dn_ind (R := fun i => ∀ s u y, s = nu p (fun i => (dg p v i + c * dg p w i) % p) i.toNat → u = p ^ i.toNat → Rn 134 9 [(2, 217), (0, v), (0, w), (0, c), (0, s), (0, u), (0, i), y] [] M _) (lo := 0) (n := 6) ?_ ?_ 0 (by omega) (by omega) 0 1 (9, 0) rfl (Int.pow_zero p).symm
  · intro s u y hs hu
    refine r_iload d_134_9 rfl ?_
    refine r_bipush d_134_11 rfl ?_
    refine r_icmp_ge (t := 69) d_134_13 rfl (fun _ => ?_) (fun hz => absurd (by omega) hz)
    refine r_iload d_134_69 rfl ?_
    refine r_iret d_134_71 rt_134 ?_
    exact ⟨by rw [hs]; rfl, rfl⟩
  · intro i h1 h2 ih s u y hs hu
    have h3 := pw_6 h23 (n := i.toNat) (by omega)
    have h4 := pw_pos h23 i.toNat
    have hs2 := nu_rng h23 (d := fun i => (dg p v i + c * dg p w i) % p) (n := i.toNat) (fun j _ => emb h23)
    rw [← hs] at hs2
    rw [← hu] at h3 h4 hs2
    have a1 := Int.ediv_nonneg hv.1 (by omega : 0 ≤ u)
    have a2 := Int.ediv_le_self u hv.1
    have a3 := Int.ediv_nonneg hw.1 (by omega : 0 ≤ u)
    have a4 := Int.ediv_le_self u hw.1
    have a5 := emb (x := v / u) h23
    have a6 := emb (x := w / u) h23
    have a7 := mb (x := c) (y := w / u % p) (a := 3) (b := 2) hc (by omega)
    have a8 := emb (x := v / u % p + c * (w / u % p)) h23
    have a9 := mb (x := (v / u % p + c * (w / u % p)) % p) (y := u) (a := 2) (b := 729) (by omega) (by omega)
    refine r_iload d_134_9 rfl ?_
    refine r_bipush d_134_11 rfl ?_
    refine r_icmp_ge (t := 69) d_134_13 rfl (fun hz => absurd hz (by omega)) (fun _ => ?_)
    refine r_iload_n d_134_16 rfl ?_
    refine r_iload d_134_17 rfl ?_
    refine r_idivn d_134_19 (by omega) (by omega) ?_
    refine r_aload_n d_134_20 rfl (by omega) ?_
    refine r_getfv (ki := 1) d_134_21 q_134_13 rfl sh_217 hp ?_
    refine r_iremn d_134_24 (by omega) (by omega) ?_
    refine r_iload_n d_134_25 rfl ?_
    refine r_iload_n d_134_26 rfl ?_
    refine r_iload d_134_27 rfl ?_
    refine r_idivn d_134_29 (by omega) (by omega) ?_
    refine r_aload_n d_134_30 rfl (by omega) ?_
    refine r_getfv (ki := 1) d_134_31 q_134_13 rfl sh_217 hp ?_
    refine r_iremn d_134_34 (by omega) (by omega) ?_
    refine r_imul d_134_35 (by omega) ?_
    refine r_iadd d_134_36 (by omega) ?_
    refine r_istore d_134_37 rfl (stl_8_7 rfl rfl) ?_
    refine r_iload d_134_39 rfl ?_
    refine r_iload d_134_41 rfl ?_
    refine r_aload_n d_134_43 rfl (by omega) ?_
    refine r_getfv (ki := 1) d_134_44 q_134_13 rfl sh_217 hp ?_
    refine r_iremn d_134_47 (by omega) (by omega) ?_
    refine r_iload d_134_48 rfl ?_
    refine r_imul d_134_50 (by omega) ?_
    refine r_iadd d_134_51 (by omega) ?_
    refine r_istore d_134_52 rfl (stl_8_4 rfl rfl) ?_
    refine r_iload d_134_54 rfl ?_
    refine r_aload_n d_134_56 rfl (by omega) ?_
    refine r_getfv (ki := 1) d_134_57 q_134_13 rfl sh_217 hp ?_
    refine r_imul d_134_60 (mr (a := 729) (b := 3) (by omega) (by omega) (by decide)) ?_
    refine r_istore d_134_61 rfl (stl_8_5 rfl rfl) ?_
    refine r_iinc d_134_63 rfl (by omega) (stl_8_6 rfl rfl) ?_
    refine r_goto (t := 9) d_134_66 rfl ?_
    refine ih _ _ _ ?_ ?_
    · rw [show (i + 1).toNat = i.toNat + 1 by omega, hs, hu]
      rfl
    · rw [show (i + 1).toNat = i.toNat + 1 by omega, hu, Int.pow_succ]
