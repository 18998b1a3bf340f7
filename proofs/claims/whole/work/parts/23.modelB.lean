/-! The model: vectors, and spaces as sets of their vectors. -/
def nb (e n : Nat) : Prop := n + e ≤ 6
theorem pw_243 {e n : Nat} (he : e ≤ 1) (hn : nb e n) : pI e ^ n ≤ 243 := by
  unfold nb at hn
  rcases (show e = 0 ∨ e = 1 by omega) with rfl | rfl
  · have h1 := pw_le (pI23 he) (show n ≤ 6 by omega)
    have h2 : pI 0 ^ 6 ≤ 243 := by decide
    omega
  · have h1 := pw_le (pI23 he) (show n ≤ 5 by omega)
    have h2 : pI 1 ^ 5 ≤ 243 := by decide
    omega
/-- module k of the model: its size, its matrices -/
def MM (e : Nat) (M : Mo) (k : Int) (n : Nat) (A : Nat → Nat → Nat → Kf e) : Prop := M 219 k = n ∧ nb e n ∧ ∀ g i j : Nat, g < 2 → i < n → j < n → M 220 (72 * k + 36 * g + 6 * i + j) = vl (A g i j)
theorem vl_b {e : Nat} (he : e ≤ 1) (x : Kf e) : 0 ≤ vl x ∧ vl x ≤ 2 := by
  have := vl_rng x
  unfold pI at this
  omega
theorem m_moves {e : Nat} (he : e ≤ 1) (M : Mo) (hp : M 217 1 = pI e) {k : Int} {n : Nat} {A : Nat → Nat → Nat → Kf e} (hk : 0 ≤ k ∧ k ≤ 10) (hM : MM e M k n A) {g : Int} {gn : Nat} (hg : g = gn) (hg2 : gn < 2) (w : Vc e) : PI 135 [(2, 217), (0, k), (0, g), (0, num n w)] M (num n (mv n (A gn) w)) := by
  refine Cl.intro (L := [(2, 217), (0, k), (0, g), (0, num n w), (9, 0), (9, 0), (9, 0), (9, 0), (9, 0), (9, 0), (9, 0)]) (rcv_v ow_135.2.1 sh_217) (by unfold entl; rw [mx_135]; rfl) (by rw [mx_135]; exact Nat.le_of_ble_eq_true rfl) rfl ?_
  have h23 := pI23 he
  have hb := h23.b
  obtain ⟨hn, hnb, hA⟩ := hM
  have hn6 : n ≤ 6 := by unfold nb at hnb; omega
  have hw := num_rng he n w
  have hpw := pw_243 he hnb
  generalize hv : num n w = v at hw
  refine r_aload_n d_135_0 rfl (by omega) ?_
  refine r_getc (ki := 2) d_135_1 q_135_17 rfl sh_217 fx_217_2 (by omega) ?_
  refine r_iload_n d_135_4 rfl ?_
  refine r_ialoadv d_135_5 sh_219 (by omega) (by omega) hn ?_
  refine r_istore d_135_6 rfl (stl_11_4 rfl rfl) ?_
  refine r_iconst d_135_8 rfl ?_
  refine r_istore d_135_9 rfl (stl_11_5 rfl rfl) ?_
  refine r_iconst d_135_11 rfl ?_
  refine r_istore d_135_12 rfl (stl_11_6 rfl rfl) ?_
  refine r_iconst d_135_14 rfl ?_
  refine r_istore d_135_15 rfl (stl_11_7 rfl rfl) ?_
  refine dn_ind (R := fun j => ∀ s u y z t, s = nu (pI e) (fun i => vl (mv n (A gn) w i)) j.toNat → u = pI e ^ j.toNat → Rn 135 17 [(2, 217), (0, k), (0, g), (0, v), (0, n), (0, s), (0, u), (0, j), y, z, t] [] M _) (lo := 0) (n := n) ?_ ?_ 0 (by omega) (by omega) 0 1 (9, 0) (9, 0) (9, 0) rfl (Int.pow_zero _).symm
  · intro s u y z t hs hu
    refine r_iload d_135_17 rfl ?_
    refine r_iload d_135_19 rfl ?_
    refine r_icmp_ge (t := 112) d_135_21 rfl (fun _ => ?_) (fun hz => absurd (by omega) hz)
    refine r_iload d_135_112 rfl ?_
    refine r_iret d_135_114 rt_135 ?_
    exact ⟨by rw [hs]; rfl, rfl⟩
  · intro j h1 h2 ih s u y z t hs hu
    have hjn : j.toNat < n := by omega
    have h3 := pw_6 h23 (n := j.toNat) (by omega)
    have h4 := pw_pos h23 j.toNat
    have hs2 := nu_rng h23 (d := fun i => vl (mv n (A gn) w i)) (n := j.toNat) (fun i _ => vl_rng _)
    rw [← hs] at hs2
    rw [← hu] at h3 h4 hs2
    refine r_iload d_135_17 rfl ?_
    refine r_iload d_135_19 rfl ?_
    refine r_icmp_ge (t := 112) d_135_21 rfl (fun hz => absurd hz (by omega)) (fun _ => ?_)
    refine r_iconst d_135_24 rfl ?_
    refine r_istore d_135_25 rfl (stl_11_8 rfl rfl) ?_
    refine r_iload_n d_135_27 rfl ?_
    refine r_istore d_135_28 rfl (stl_11_9 rfl rfl) ?_
    refine r_iconst d_135_30 rfl ?_
    refine r_istore d_135_31 rfl (stl_11_10 rfl rfl) ?_
    refine dn_ind (R := fun i => ∀ x q, x = sm (fun i => vl (w i) * vl (A gn i j.toNat)) i.toNat → 0 ≤ x ∧ x ≤ 4 * i → q = v / pI e ^ i.toNat → Rn 135 33 [(2, 217), (0, k), (0, g), (0, v), (0, n), (0, s), (0, u), (0, j), (0, x), (0, q), (0, i)] [] M _) (lo := 0) (n := n) ?_ ?_ 0 (by omega) (by omega) 0 v rfl (by omega) (by rw [show Int.toNat 0 = 0 from rfl, Int.pow_zero, Int.ediv_one])
    · intro x q hx hxb hq
      have hxm : x % pI e = vl (mv n (A gn) w j.toNat) := by
        unfold mv
        rw [if_pos hjn, vl_sK (g := fun i => vl (w i) * vl (A gn i j.toNat)) (fun i _ => vl_mul _ _), hx]
        rfl
      have a1 := vl_b he (mv n (A gn) w j.toNat)
      have a2 := mb (x := vl (mv n (A gn) w j.toNat)) (y := u) (a := 2) (b := 729) a1 (by omega)
      refine r_iload d_135_33 rfl ?_
      refine r_iload d_135_35 rfl ?_
      refine r_icmp_ge (t := 82) d_135_37 rfl (fun _ => ?_) (fun hz => absurd (by omega) hz)
      refine r_iload d_135_82 rfl ?_
      refine r_iload d_135_84 rfl ?_
      refine r_aload_n d_135_86 rfl (by omega) ?_
      refine r_getfv (ki := 1) d_135_87 q_135_13 rfl sh_217 hp ?_
      refine r_iremn d_135_90 (by omega) (by omega) ?_
      rw [hxm]
      refine r_iload d_135_91 rfl ?_
      refine r_imul d_135_93 (by omega) ?_
      refine r_iadd d_135_94 (by omega) ?_
      refine r_istore d_135_95 rfl (stl_11_5 rfl rfl) ?_
      refine r_iload d_135_97 rfl ?_
      refine r_aload_n d_135_99 rfl (by omega) ?_
      refine r_getfv (ki := 1) d_135_100 q_135_13 rfl sh_217 hp ?_
      refine r_imul d_135_103 (mr (a := 729) (b := 3) (by omega) (by omega) (by decide)) ?_
      refine r_istore d_135_104 rfl (stl_11_6 rfl rfl) ?_
      refine r_iinc d_135_106 rfl (by omega) (stl_11_7 rfl rfl) ?_
      refine r_goto (t := 17) d_135_109 rfl ?_
      refine ih _ _ _ _ _ ?_ ?_
      · rw [show (j + 1).toNat = j.toNat + 1 by omega, hs, hu]
        rfl
      · rw [show (j + 1).toNat = j.toNat + 1 by omega, hu, Int.pow_succ]
    · intro i i1 i2 ih2 x q hx hxb hq
      have hin : i.toNat < n := by omega
      have b1 := pw_pos h23 i.toNat
      have b2 := Int.ediv_nonneg hw.1 (by omega : 0 ≤ pI e ^ i.toNat)
      have b3 := Int.ediv_le_self (pI e ^ i.toNat) hw.1
      rw [← hq] at b2 b3
      have hqm : q % pI e = vl (w i.toNat) := by
        rw [hq, ← dg_num he w hin, hv]
        rfl
      have a1 := vl_b he (w i.toNat)
      have a2 := vl_b he (A gn i.toNat j.toNat)
      have a3 := mb a1 a2
      have hcell : M 220 (72 * k + 36 * g + 6 * i + j) = vl (A gn i.toNat j.toNat) := by
        have := hA gn i.toNat j.toNat hg2 hin hjn
        rw [show ((i.toNat : Nat) : Int) = i by omega, show ((j.toNat : Nat) : Int) = j by omega, ← hg] at this
        exact this
      refine r_iload d_135_33 rfl ?_
      refine r_iload d_135_35 rfl ?_
      refine r_icmp_ge (t := 82) d_135_37 rfl (fun hz => absurd hz (by omega)) (fun _ => ?_)
      refine r_iload d_135_40 rfl ?_
      refine r_iload d_135_42 rfl ?_
      refine r_aload_n d_135_44 rfl (by omega) ?_
      refine r_getfv (ki := 1) d_135_45 q_135_13 rfl sh_217 hp ?_
      refine r_iremn d_135_48 (by omega) (by omega) ?_
      rw [hqm]
      refine r_aload_n d_135_49 rfl (by omega) ?_
      refine r_getc (ki := 3) d_135_50 q_135_20 rfl sh_217 fx_217_3 (by omega) ?_
      refine r_iload_n d_135_53 rfl ?_
      refine r_iload_n d_135_54 rfl ?_
      refine r_iload d_135_55 rfl ?_
      refine r_iload d_135_57 rfl ?_
      refine r_callsp d_135_59 q_135_114 rfl rfl (m_cell M k g i j (by omega) (by omega) (by omega) (by omega)) ?_
      refine r_ialoadv d_135_62 sh_220 (by omega) (by omega) hcell ?_
      refine r_imul d_135_63 (by omega) ?_
      refine r_iadd d_135_64 (by omega) ?_
      refine r_istore d_135_65 rfl (stl_11_8 rfl rfl) ?_
      refine r_iload d_135_67 rfl ?_
      refine r_aload_n d_135_69 rfl (by omega) ?_
      refine r_getfv (ki := 1) d_135_70 q_135_13 rfl sh_217 hp ?_
      refine r_idivn d_135_73 (by omega) (by omega) ?_
      refine r_istore d_135_74 rfl (stl_11_9 rfl rfl) ?_
      refine r_iinc d_135_76 rfl (by omega) (stl_11_10 rfl rfl) ?_
      refine r_goto (t := 33) d_135_79 rfl ?_
      refine ih2 _ _ ?_ (by omega) ?_
      · rw [show (i + 1).toNat = i.toNat + 1 by omega, hx]
        rfl
      · rw [show (i + 1).toNat = i.toNat + 1 by omega, ediv_pw h23, hq]
theorem m_plusK {e : Nat} (he : e ≤ 1) (M : Mo) (hp : M 217 1 = pI e) {n : Nat} (hn : nb e n) {u w : Vc e} (hu : sup n u) (hw : sup n w) {c : Int} (hc : 0 ≤ c ∧ c ≤ 3) : PI 134 [(2, 217), (0, num n u), (0, num n w), (0, c)] M (num n (lc u (kI e c) w)) := by
  have h23 := pI23 he
  have h243 := pw_243 he hn
  have hu2 := num_rng he n u
  have hw2 := num_rng he n w
  have h := m_plus M hp h23 (num n u) (num n w) c (by omega) (by omega) hc
  have hn6 : n ≤ 6 := by unfold nb at hn; omega
  have e1 : nu (pI e) (fun i => (dg (pI e) (num n u) i + c * dg (pI e) (num n w) i) % pI e) 6 = num n (lc u (kI e c) w) := by
    rw [← num_ext (sup_lc hu hw) hn6, ← num_ext hu hn6, ← num_ext hw hn6]
    unfold num
    apply nu_congr
    intro i hi
    have d1 : dg (pI e) (nu (pI e) (fun i => vl (u i)) 6) i = vl (u i) := dg_num he u hi
    have d2 : dg (pI e) (nu (pI e) (fun i => vl (w i)) 6) i = vl (w i) := dg_num he w hi
    rw [d1, d2]
    unfold lc
    have h9 : c % pI e * vl (w i) % pI e = c * vl (w i) % pI e := by rw [Int.mul_emod, Int.emod_emod, ← Int.mul_emod]
    rw [vl_add, vl_mul, vl_kI, h9, Int.add_emod_emod]
  rw [e1] at h
  exact h
theorem m_nothing (M : Mo) : CV 141 [(2, 217)] M (fun M' => ∃ h, M' = MS M 0 h (M 223) (M 224) ∧ h 0 = 1 ∧ ∀ v : Int, 0 < v → v < 243 → h v = 0) := by
  refine Cl.intro (L := [(2, 217), (9, 0)]) (rcv_v ow_141.2.1 sh_217) (by unfold entl; rw [mx_141]; rfl) (by rw [mx_141]; exact Nat.le_of_ble_eq_true rfl) rfl ?_
  refine r_iconst d_141_0 rfl ?_
  refine r_istore_n d_141_1 rfl (stl_2_1 rfl rfl) ?_
  refine dn_ind (R := fun i => ∀ h, (∀ v : Int, 0 ≤ v → v < i → h v = 0) → Rn 141 2 [(2, 217), (0, i)] [] (MS M (M 217 7) h (M 223) (M 224)) _) (lo := 0) (n := 243) ?_ ?_ 0 (by omega) (by omega) (M 222) (fun v h1 h2 => by omega) |> (fun k => by rw [MS_self] at k; exact k)
  · intro h hh
    refine r_iload_n d_141_2 rfl ?_
    refine r_sipush d_141_3 rfl ?_
    refine r_icmp_ge (t := 22) d_141_6 rfl (fun _ => ?_) (fun hz => absurd (by omega) hz)
    refine r_aload_n d_141_22 rfl (by omega) ?_
    refine r_getc (ki := 6) d_141_23 q_141_29 rfl sh_217 fx_217_6 (by omega) ?_
    refine r_iconst d_141_26 rfl ?_
    refine r_iconst d_141_27 rfl ?_
    refine r_iastore d_141_28 sh_222 (by omega) (by omega) ?_
    rw [MS_uh]
    refine r_aload_n d_141_29 rfl (by omega) ?_
    refine r_iconst d_141_30 rfl ?_
    refine r_putf (ki := 7) d_141_31 q_141_122 rfl sh_217 fx_217_7 ?_
    rw [MS_ud]
    refine r_vret d_141_34 rt_141 ?_
    exact ⟨rfl, _, rfl, u1_eq _ _ _, fun v h1 h2 => by rw [u1_ne _ _ (by omega)]; exact hh v (by omega) h2⟩
  · intro i h1 h2 ih h hh
    refine r_iload_n d_141_2 rfl ?_
    refine r_sipush d_141_3 rfl ?_
    refine r_icmp_ge (t := 22) d_141_6 rfl (fun hz => absurd hz (by omega)) (fun _ => ?_)
    refine r_aload_n d_141_9 rfl (by omega) ?_
    refine r_getc (ki := 6) d_141_10 q_141_29 rfl sh_217 fx_217_6 (by omega) ?_
    refine r_iload_n d_141_13 rfl ?_
    refine r_iconst d_141_14 rfl ?_
    refine r_iastore d_141_15 sh_222 (by omega) (by omega) ?_
    rw [MS_uh]
    refine r_iinc d_141_16 rfl (by omega) (stl_2_1 rfl rfl) ?_
    refine r_goto (t := 2) d_141_19 rfl ?_
    refine ih _ (fun v h3 h4 => ?_)
    by_cases hv : v = i
    · rw [hv, u1_eq]
    · rw [u1_ne _ _ hv]
      exact hh v h3 (by omega)
