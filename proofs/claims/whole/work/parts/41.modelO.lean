/-! The model: splitter, simple, least. -/
noncomputable def sl {e : Nat} (n : Nat) (A : Nat → Nat → Nat → Kf e) (v : Int) : Nat := (spin n A [] (toV e n v)).length
theorem sl_le {e n : Nat} (he : e ≤ 1) {A : Nat → Nat → Nat → Kf e} {v : Int} : sl n A v ≤ n := (spin_good he Good.nil toV_sup).len
def splP {e : Nat} (n : Nat) (A : Nat → Nat → Nat → Kf e) (z : Int) : Prop := (z = -1 ∧ ∀ v : Int, 1 ≤ v → v < pI e ^ n → sl n A v = n) ∨ (1 ≤ z ∧ z < pI e ^ n ∧ sl n A z < n ∧ ∀ v : Int, 1 ≤ v → v < z → sl n A v = n)
theorem m_spinV {e : Nat} (he : e ≤ 1) (M : Mo) (hp : M 217 1 = pI e) {k : Int} {n : Nat} {A : Nat → Nat → Nat → Kf e} (hk : 0 ≤ k ∧ k ≤ 10) (hM : MM e M k n A) {v : Int} (h0 : 0 ≤ v) (h1 : v < pI e ^ n) : CV 144 [(2, 217), (0, k), (0, v)] M (fun M' => Fr W1 M M' ∧ SP n M' (spin n A [] (toV e n v))) := by
  have h := m_spinsF he M hp hk hM (v := toV e n v) toV_sup
  rw [num_toV he h0 h1] at h
  exact h
theorem MM.w1 {e : Nat} {M M1 : Mo} {k : Int} {n : Nat} {A : Nat → Nat → Nat → Kf e} (h : MM e M k n A) (hF : Fr W1 M M1) : MM e M1 k n A := h.fr hF (fun x y q1 q2 => by unfold WK at q1; unfold W1 at q2; omega)
theorem m_splitter {e : Nat} (he : e ≤ 1) (M : Mo) (hp : M 217 1 = pI e) {k : Int} {n : Nat} {A : Nat → Nat → Nat → Kf e} (hk : 0 ≤ k ∧ k ≤ 10) (hM : MM e M k n A) : CI 169 [(2, 217), (0, k)] M (fun z M' => splP n A z ∧ Fr W1 M M') := by
  refine Cl.intro (L := [(2, 217), (0, k), (9, 0), (9, 0)]) (rcv_v ow_169.2.1 sh_217) (by unfold entl; rw [mx_169]; rfl) (by rw [mx_169]; exact Nat.le_of_ble_eq_true rfl) rfl ?_
  have h23 := pI23 he
  have hn6 : n ≤ 6 := by have := hM.2.1; unfold nb at this; omega
  have h243 := pw_243 he hM.2.1
  have hp1 := pw_pos h23 n
  refine r_aload_n d_169_0 rfl (by omega) ?_
  refine r_aload_n d_169_1 rfl (by omega) ?_
  refine r_getc (ki := 2) d_169_2 q_169_17 rfl sh_217 fx_217_2 (by omega) ?_
  refine r_iload_n d_169_5 rfl ?_
  refine r_ialoadv d_169_6 sh_219 (by omega) (by omega) hM.1 ?_
  refine r_callvp d_169_7 q_169_110 rfl rfl (by have := m_power M hp h23 (n : Int) (by omega); rw [Int.toNat_natCast] at this; exact this) ?_
  refine r_istore_n d_169_10 rfl (stl_4_2 rfl rfl) ?_
  refine r_iconst d_169_11 rfl ?_
  refine r_istore_n d_169_12 rfl (stl_4_3 rfl rfl) ?_
  refine dn_ind (R := fun v => ∀ M1 : Mo, Fr W1 M M1 → (∀ u : Int, 1 ≤ u → u < v → sl n A u = n) → Rn 169 13 [(2, 217), (0, k), (0, pI e ^ n), (0, v)] [] M1 _) (lo := 1) (n := pI e ^ n) ?_ ?_ 1 (by omega) (by omega) M Fr.refl (fun u h1 h2 => by omega)
  · intro M1 hF hu
    refine r_iload_n d_169_13 rfl ?_
    refine r_iload_n d_169_14 rfl ?_
    refine r_icmp_ge (t := 45) d_169_15 rfl (fun _ => ?_) (fun hz => absurd (by omega) hz)
    refine r_iconst d_169_45 rfl ?_
    refine r_iret d_169_46 rt_169 ?_
    exact ⟨_, rfl, Or.inl ⟨rfl, hu⟩, hF⟩
  · intro v v1 v2 ih M1 hF hu
    have hM1 := hM.w1 hF
    have hp1' : M1 217 1 = pI e := (hF _ _ (by unfold W1; omega)).trans hp
    refine r_iload_n d_169_13 rfl ?_
    refine r_iload_n d_169_14 rfl ?_
    refine r_icmp_ge (t := 45) d_169_15 rfl (fun hz => absurd hz (by omega)) (fun _ => ?_)
    refine r_aload_n d_169_18 rfl (by omega) ?_
    refine r_iload_n d_169_19 rfl ?_
    refine r_iload_n d_169_20 rfl ?_
    refine r_callvr d_169_21 q_169_205 rfl rfl (m_spinV he M1 hp1' hk hM1 (by omega) v2) (fun M2 hM2 => ?_)
    obtain ⟨hF2, hSP⟩ := hM2
    have hM2 := hM1.w1 hF2
    have hF12 : Fr W1 M M2 := hF.trans hF2 (fun x y q => q) (fun x y q => q)
    have hsl : M2 217 7 = (sl n A v : Nat) := hSP.1
    refine r_aload_n d_169_24 rfl (by omega) ?_
    refine r_getfv (ki := 7) d_169_25 q_169_122 rfl sh_217 hsl ?_
    refine r_aload_n d_169_28 rfl (by omega) ?_
    refine r_getc (ki := 2) d_169_29 q_169_17 rfl sh_217 fx_217_2 (by omega) ?_
    refine r_iload_n d_169_32 rfl ?_
    refine r_ialoadv d_169_33 sh_219 (by omega) (by omega) hM2.1 ?_
    by_cases hlt : sl n A v < n
    · refine r_icmp_ge (t := 39) d_169_34 rfl (fun hz => absurd hz (by omega)) (fun _ => ?_)
      refine r_iload_n d_169_37 rfl ?_
      refine r_iret d_169_38 rt_169 ?_
      exact ⟨_, rfl, Or.inr ⟨v1, v2, hlt, hu⟩, hF12⟩
    · have hle := sl_le he (n := n) (A := A) (v := v)
      refine r_icmp_ge (t := 39) d_169_34 rfl (fun _ => ?_) (fun hz => absurd (by omega) hz)
      refine r_iinc d_169_39 rfl (by omega) (stl_4_3 rfl rfl) ?_
      refine r_goto (t := 13) d_169_42 rfl ?_
      refine ih M2 hF12 (fun u h1 h2 => ?_)
      by_cases huv : u = v
      · rw [huv]
        omega
      · exact hu u h1 (by omega)
theorem m_simple_bad (M : Mo) (hb : cb M) {k : Int} (h : ¬ (0 ≤ k ∧ k ≤ 3)) : PJ 170 [(2, 217), (0, k)] M (-2) (up2 M 218 0 (M 218 0 + 1)) := by
  refine Cl.intro (L := [(2, 217), (0, k)]) (rcv_v ow_170.2.1 sh_217) (by unfold entl; rw [mx_170]; rfl) (by rw [mx_170]; exact Nat.le_of_ble_eq_true rfl) rfl ?_
  have hbad := m_bad M (hb 0 (by omega) (by omega))
  refine r_iload_n d_170_0 rfl ?_
  refine r_callsp d_170_1 q_170_178 rfl rfl (m_isModule M k) ?_
  rw [if_neg h]
  refine r_if_ne (t := 12) d_170_4 rfl (fun hz => absurd hz (by decide)) (fun _ => ?_)
  refine r_aload_n d_170_7 rfl (by omega) ?_
  refine r_callvj d_170_8 q_170_172 rfl rfl hbad ?_
  refine r_iret d_170_11 rt_170 ?_
  exact ⟨rfl, rfl⟩
def isSim {e : Nat} (n : Nat) (A : Nat → Nat → Nat → Kf e) : Prop := ∀ v : Int, 1 ≤ v → v < pI e ^ n → sl n A v = n
theorem m_simple {M : Mo} {s : Sst} (hv : vs s) (hc : cu M s) {k : Nat} (hk : k < 4) : CI 170 [(2, 217), (0, (k : Int))] M (fun z M' => z = ifp (isSim (s.2.1 k) (mdA s k)) 1 0 ∧ Fr W1 M M') := by
  refine Cl.intro (L := [(2, 217), (0, (k : Int))]) (rcv_v ow_170.2.1 sh_217) (by unfold entl; rw [mx_170]; rfl) (by rw [mx_170]; exact Nat.le_of_ble_eq_true rfl) rfl ?_
  refine r_iload_n d_170_0 rfl ?_
  refine r_callsp d_170_1 q_170_178 rfl rfl (m_isModule M k) ?_
  rw [if_pos (by omega)]
  refine r_if_ne (t := 12) d_170_4 rfl (fun _ => ?_) (fun hz => absurd (by decide) hz)
  refine r_aload_n d_170_12 rfl (by omega) ?_
  refine r_iload_n d_170_13 rfl ?_
  refine r_callvi d_170_14 q_170_214 rfl rfl (m_splitter hv.1 M hc.1 (k := k) (by omega) (hc.MM hv hk)) (fun x M1 hM1 => ?_)
  obtain ⟨hz, hF⟩ := hM1
  rcases hz with ⟨rfl, hz⟩ | ⟨z1, z2, z3, z4⟩
  · refine r_iconst d_170_17 rfl ?_
    refine r_icmp_ne (t := 25) d_170_18 rfl (fun hz => absurd hz (by decide)) (fun _ => ?_)
    refine r_iconst d_170_21 rfl ?_
    refine r_goto (t := 26) d_170_22 rfl ?_
    refine r_iret d_170_26 rt_170 ?_
    exact ⟨_, rfl, (ifp_t hz).symm, hF⟩
  · refine r_iconst d_170_17 rfl ?_
    refine r_icmp_ne (t := 25) d_170_18 rfl (fun _ => ?_) (fun hz => absurd (by omega) hz)
    refine r_iconst d_170_25 rfl ?_
    refine r_iret d_170_26 rt_170 ?_
    refine ⟨_, rfl, (ifp_f (fun q => ?_)).symm, hF⟩
    have := q x z1 z2
    exact absurd this (Nat.ne_of_lt z3)
theorem m_least_bad (M : Mo) (hb : cb M) {k : Int} (h : ¬ (0 ≤ k ∧ k ≤ 3)) : PJ 171 [(2, 217), (0, k)] M (-2) (up2 M 218 0 (M 218 0 + 1)) := by
  refine Cl.intro (L := [(2, 217), (0, k), (9, 0), (9, 0), (9, 0)]) (rcv_v ow_171.2.1 sh_217) (by unfold entl; rw [mx_171]; rfl) (by rw [mx_171]; exact Nat.le_of_ble_eq_true rfl) rfl ?_
  have hbad := m_bad M (hb 0 (by omega) (by omega))
  refine r_iload_n d_171_0 rfl ?_
  refine r_callsp d_171_1 q_171_178 rfl rfl (m_isModule M k) ?_
  rw [if_neg h]
  refine r_if_ne (t := 12) d_171_4 rfl (fun hz => absurd hz (by decide)) (fun _ => ?_)
  refine r_aload_n d_171_7 rfl (by omega) ?_
  refine r_callvj d_171_8 q_171_172 rfl rfl hbad ?_
  refine r_iret d_171_11 rt_171 ?_
  exact ⟨rfl, rfl⟩
def leaP {e : Nat} (n : Nat) (A : Nat → Nat → Nat → Kf e) (z : Int) : Prop := z ≤ n ∧ (∀ v : Int, 1 ≤ v → v < pI e ^ n → z ≤ sl n A v) ∧ (z = n ∨ ∃ v : Int, 1 ≤ v ∧ v < pI e ^ n ∧ z = sl n A v)
theorem m_least {M : Mo} {s : Sst} (hv : vs s) (hc : cu M s) {k : Nat} (hk : k < 4) : CI 171 [(2, 217), (0, (k : Int))] M (fun z M' => leaP (s.2.1 k) (mdA s k) z ∧ Fr W1 M M') := by
  refine Cl.intro (L := [(2, 217), (0, (k : Int)), (9, 0), (9, 0), (9, 0)]) (rcv_v ow_171.2.1 sh_217) (by unfold entl; rw [mx_171]; rfl) (by rw [mx_171]; exact Nat.le_of_ble_eq_true rfl) rfl ?_
  have he := hv.1
  have h23 := pI23 he
  have hMM : MM s.1 M k (s.2.1 k) (mdA s k) := hc.MM hv hk
  have hn6 := vs_6 hv hk
  generalize mdA s k = A at *
  generalize s.2.1 k = n at *
  have h243 := pw_243 he hMM.2.1
  have hp1 := pw_pos h23 n
  refine r_iload_n d_171_0 rfl ?_
  refine r_callsp d_171_1 q_171_178 rfl rfl (m_isModule M k) ?_
  rw [if_pos (by omega)]
  refine r_if_ne (t := 12) d_171_4 rfl (fun _ => ?_) (fun hz => absurd (by decide) hz)
  refine r_aload_n d_171_12 rfl (by omega) ?_
  refine r_aload_n d_171_13 rfl (by omega) ?_
  refine r_getc (ki := 2) d_171_14 q_171_17 rfl sh_217 fx_217_2 (by omega) ?_
  refine r_iload_n d_171_17 rfl ?_
  refine r_ialoadv d_171_18 sh_219 (by omega) (by omega) hMM.1 ?_
  refine r_callvp d_171_19 q_171_110 rfl rfl (by have := m_power M hc.1 h23 (n : Int) (by omega); rw [Int.toNat_natCast] at this; exact this) ?_
  refine r_istore_n d_171_22 rfl (stl_5_2 rfl rfl) ?_
  refine r_aload_n d_171_23 rfl (by omega) ?_
  refine r_getc (ki := 2) d_171_24 q_171_17 rfl sh_217 fx_217_2 (by omega) ?_
  refine r_iload_n d_171_27 rfl ?_
  refine r_ialoadv d_171_28 sh_219 (by omega) (by omega) hMM.1 ?_
  refine r_istore_n d_171_29 rfl (stl_5_3 rfl rfl) ?_
  refine r_iconst d_171_30 rfl ?_
  refine r_istore d_171_31 rfl (stl_5_4 rfl rfl) ?_
  refine dn_ind (R := fun v => ∀ (M1 : Mo) (z : Int), Fr W1 M M1 → z ≤ n → (∀ u : Int, 1 ≤ u → u < v → z ≤ sl n A u) → (z = n ∨ ∃ u : Int, 1 ≤ u ∧ u < pI s.1 ^ n ∧ z = sl n A u) → Rn 171 33 [(2, 217), (0, (k : Int)), (0, pI s.1 ^ n), (0, z), (0, v)] [] M1 _) (lo := 1) (n := pI s.1 ^ n) ?_ ?_ 1 (by omega) (by omega) M n Fr.refl (Int.le_refl _) (fun u h1 h2 => by omega) (Or.inl rfl)
  · intro M1 z hF h1 h2 h3
    refine r_iload d_171_33 rfl ?_
    refine r_iload_n d_171_35 rfl ?_
    refine r_icmp_ge (t := 69) d_171_36 rfl (fun _ => ?_) (fun hz => absurd (by omega) hz)
    refine r_iload_n d_171_69 rfl ?_
    refine r_iret d_171_70 rt_171 ?_
    exact ⟨_, rfl, ⟨h1, h2, h3⟩, hF⟩
  · intro v v1 v2 ih M1 z hF h1 h2 h3
    have hM1 := hMM.w1 hF
    have hp1' : M1 217 1 = pI s.1 := (hF _ _ (by unfold W1; omega)).trans hc.1
    refine r_iload d_171_33 rfl ?_
    refine r_iload_n d_171_35 rfl ?_
    refine r_icmp_ge (t := 69) d_171_36 rfl (fun hz => absurd hz (by omega)) (fun _ => ?_)
    refine r_aload_n d_171_39 rfl (by omega) ?_
    refine r_iload_n d_171_40 rfl ?_
    refine r_iload d_171_41 rfl ?_
    refine r_callvr d_171_43 q_171_205 rfl rfl (m_spinV he M1 hp1' (k := k) (by omega) hM1 (by omega) v2) (fun M2 hM2 => ?_)
    obtain ⟨hF2, hSP⟩ := hM2
    have hF12 : Fr W1 M M2 := hF.trans hF2 (fun x y q => q) (fun x y q => q)
    have hsl : M2 217 7 = (sl n A v : Nat) := hSP.1
    have hle := sl_le he (n := n) (A := A) (v := v)
    refine r_aload_n d_171_46 rfl (by omega) ?_
    refine r_getfv (ki := 7) d_171_47 q_171_122 rfl sh_217 hsl ?_
    refine r_iload_n d_171_50 rfl ?_
    by_cases hlt : (sl n A v : Int) < z
    · refine r_icmp_ge (t := 61) d_171_51 rfl (fun hz => absurd hz (by omega)) (fun _ => ?_)
      refine r_aload_n d_171_54 rfl (by omega) ?_
      refine r_getfv (ki := 7) d_171_55 q_171_122 rfl sh_217 hsl ?_
      refine r_goto (t := 62) d_171_58 rfl ?_
      refine r_istore_n d_171_62 rfl (stl_5_3 rfl rfl) ?_
      refine r_iinc d_171_63 rfl (by omega) (stl_5_4 rfl rfl) ?_
      refine r_goto (t := 33) d_171_66 rfl ?_
      refine ih M2 _ hF12 (by omega) (fun u q1 q2 => ?_) (Or.inr ⟨v, v1, v2, rfl⟩)
      by_cases huv : u = v
      · rw [huv]
        exact Int.le_refl _
      · have := h2 u q1 (by omega)
        omega
    · refine r_icmp_ge (t := 61) d_171_51 rfl (fun _ => ?_) (fun hz => absurd (by omega) hz)
      refine r_iload_n d_171_61 rfl ?_
      refine r_istore_n d_171_62 rfl (stl_5_3 rfl rfl) ?_
      refine r_iinc d_171_63 rfl (by omega) (stl_5_4 rfl rfl) ?_
      refine r_goto (t := 33) d_171_66 rfl ?_
      refine ih M2 _ hF12 h1 (fun u q1 q2 => ?_) h3
      by_cases huv : u = v
      · rw [huv]
        omega
      · exact h2 u q1 (by omega)
