/-! The model: the socle. -/
theorem m_spinVS {e : Nat} (he : e ≤ 1) (M : Mo) (hp : M 217 1 = pI e) {k : Int} {n : Nat} {A : Nat → Nat → Nat → Kf e} (hk : 0 ≤ k ∧ k ≤ 10) (hM : MM e M k n A) {v : Int} (h0 : 0 ≤ v) (h1 : v < pI e ^ n) : CV 144 [(2, 217), (0, k), (0, v)] M (fun M' => Fr WS M M' ∧ SP n M' (spin n A [] (toV e n v))) := by
  have h := m_spins he M hp hk hM (v := toV e n v) toV_sup
  rw [num_toV he h0 h1] at h
  refine Cl.mono h (fun v M' h => ⟨h.1, ?_⟩)
  obtain ⟨-, h', t', w', rfl, g1, g2⟩ := h
  refine ⟨MS_frS, MS_d, fun j hj => ?_, fun w hw => ?_⟩
  · rw [MS_t]
    exact g1 j hj
  · rw [MS_h]
    exact g2 w hw
theorem m_joinF {e : Nat} (he : e ≤ 1) (M : Mo) (hp : M 217 1 = pI e) {n : Nat} (hn : nb e n) {T : List (Vc e)} (hG : Good n T) (hT : SP n M T) {x : Vc e} (hx : sup n x) (hxS : ¬ spn T x) : CV 142 [(2, 217), (0, num n x), (0, (n : Int))] M (fun M' => Fr WS M M' ∧ SP n M' (T ++ [x])) := by
  have hlt := hG.len' he hx hxS
  have hn6 : n ≤ 6 := by unfold nb at hn; omega
  have hd := hT.1
  have h := m_joins he M hp hn (d := M 217 7) (h := M 222) (t := M 223) (w := M 224) (by omega) hG.sub hx hxS hT.2.2
  rw [MS_self] at h
  refine Cl.mono h (fun v M' h => ⟨h.1, ?_⟩)
  obtain ⟨-, h', rfl, g2⟩ := h
  refine ⟨MS_frS, ?_, ?_, fun w hw => ?_⟩
  · rw [MS_d, hd, List.length_append]
    simp
  · have e1 : MS M (M 217 7 + 1) h' (u1 (M 223) (M 217 7) (num n x)) (M 224) 223 = u1 (M 223) (T.length : Int) (num n x) := funext (fun y => by rw [MS_t, hd])
    rw [e1]
    exact hT.2.1.app x
  · rw [MS_h, spn_app]
    exact g2 w hw
theorem m_isByEach {e : Nat} (he : e ≤ 1) (M : Mo) {n : Nat} (hn : nb e n) {A : Nat → Nat → Nat → Kf e} {S : Vc e → Prop} (hh : hs n (M 222) S) (hdp : ∀ w : Int, 1 ≤ w → w < pI e ^ n → M 240 w = (sl n A w : Nat)) {d : Nat} (hd : M 217 7 = d) : PI 189 [(2, 217), (0, pI e ^ n)] M (ifp (∀ w : Int, 1 ≤ w → w < pI e ^ n → S (toV e n w) → sl n A w = d) 1 0) := by
  refine Cl.intro (L := [(2, 217), (0, pI e ^ n), (9, 0), (9, 0)]) (rcv_v ow_189.2.1 sh_217) (by unfold entl; rw [mx_189]; rfl) (by rw [mx_189]; exact Nat.le_of_ble_eq_true rfl) rfl ?_
  have h243 := pw_243 he hn
  have hp1 := pw_pos (pI23 he) n
  refine r_iconst d_189_0 rfl ?_
  refine r_istore_n d_189_1 rfl (stl_4_2 rfl rfl) ?_
  refine r_iconst d_189_2 rfl ?_
  refine r_istore_n d_189_3 rfl (stl_4_3 rfl rfl) ?_
  refine dn_ind (R := fun v => ∀ z : Int, ((∀ w : Int, 1 ≤ w → w < v → S (toV e n w) → sl n A w = d) → z = 1) → (¬ (∀ w : Int, 1 ≤ w → w < v → S (toV e n w) → sl n A w = d) → z = 0) → Rn 189 4 [(2, 217), (0, pI e ^ n), (0, z), (0, v)] [] M _) (lo := 1) (n := pI e ^ n) ?_ ?_ 1 (by omega) (by omega) 1 (fun _ => rfl) (fun q => absurd (fun w h1 h2 => by omega) q)
  · intro z h1 h0
    have hz : z = ifp (∀ w : Int, 1 ≤ w → w < pI e ^ n → S (toV e n w) → sl n A w = d) 1 0 ∧ (z = 0 ∨ z = 1) := by
      by_cases hq : ∀ w : Int, 1 ≤ w → w < pI e ^ n → S (toV e n w) → sl n A w = d
      · rw [ifp_t hq]
        exact ⟨h1 hq, Or.inr (h1 hq)⟩
      · rw [ifp_f hq]
        exact ⟨h0 hq, Or.inl (h0 hq)⟩
    refine r_iload_n d_189_4 rfl ?_
    refine r_iload_n d_189_5 rfl ?_
    refine r_icmp_ge (t := 47) d_189_6 rfl (fun _ => ?_) (fun hz => absurd (by omega) hz)
    refine r_iload_n d_189_47 rfl ?_
    refine r_zret d_189_48 rt_189 hz.2 ?_
    exact ⟨by rw [hz.1], rfl⟩
  · intro v v1 v2 ih z h1 h0
    have hu : num n (toV e n v) = v := num_toV he (by omega) v2
    have hhv := hh _ (toV_sup (e := e) (n := n) (v := v))
    rw [hu] at hhv
    refine r_iload_n d_189_4 rfl ?_
    refine r_iload_n d_189_5 rfl ?_
    refine r_icmp_ge (t := 47) d_189_6 rfl (fun hz => absurd hz (by omega)) (fun _ => ?_)
    by_cases hq : ∀ w : Int, 1 ≤ w → w < v → S (toV e n w) → sl n A w = d
    · have hnext : (S (toV e n v) → sl n A v = d) → ∀ w : Int, 1 ≤ w → w < v + 1 → S (toV e n w) → sl n A w = d := fun p w q1 q2 q3 => by
        by_cases hwv : w = v
        · rw [hwv] at q3 ⊢
          exact p q3
        · exact hq w q1 (by omega) q3
      rw [h1 hq]
      refine r_iload_n d_189_9 rfl ?_
      refine r_if_eq (t := 39) d_189_10 rfl (fun hz => absurd hz (by decide)) (fun _ => ?_)
      by_cases hS : S (toV e n v)
      · refine r_aload_n d_189_13 rfl (by omega) ?_
        refine r_getc (ki := 6) d_189_14 q_189_29 rfl sh_217 fx_217_6 (by omega) ?_
        refine r_iload_n d_189_17 rfl ?_
        refine r_ialoadv d_189_18 sh_222 (by omega) (by omega) (hhv.1 hS) ?_
        refine r_if_eq (t := 35) d_189_19 rfl (fun hz => absurd hz (by decide)) (fun _ => ?_)
        refine r_aload_n d_189_22 rfl (by omega) ?_
        refine r_getc (ki := 28) d_189_23 q_189_83 rfl sh_217 fx_217_28 (by omega) ?_
        refine r_iload_n d_189_26 rfl ?_
        refine r_ialoadv d_189_27 sh_240 (by omega) (by omega) (hdp v v1 v2) ?_
        refine r_aload_n d_189_28 rfl (by omega) ?_
        refine r_getfv (ki := 7) d_189_29 q_189_122 rfl sh_217 hd ?_
        by_cases hsd : sl n A v = d
        · refine r_icmp_ne (t := 39) d_189_32 rfl (fun hz => absurd hz (by omega)) (fun _ => ?_)
          refine r_iconst d_189_35 rfl ?_
          refine r_goto (t := 40) d_189_36 rfl ?_
          refine r_istore_n d_189_40 rfl (stl_4_2 rfl rfl) ?_
          refine r_iinc d_189_41 rfl (by omega) (stl_4_3 rfl rfl) ?_
          refine r_goto (t := 4) d_189_44 rfl ?_
          exact ih 1 (fun _ => rfl) (fun q2 => absurd (hnext (fun _ => hsd)) q2)
        · refine r_icmp_ne (t := 39) d_189_32 rfl (fun _ => ?_) (fun hz => absurd (by omega) hz)
          refine r_iconst d_189_39 rfl ?_
          refine r_istore_n d_189_40 rfl (stl_4_2 rfl rfl) ?_
          refine r_iinc d_189_41 rfl (by omega) (stl_4_3 rfl rfl) ?_
          refine r_goto (t := 4) d_189_44 rfl ?_
          exact ih 0 (fun q2 => absurd (q2 v v1 (by omega) hS) hsd) (fun _ => rfl)
      · refine r_aload_n d_189_13 rfl (by omega) ?_
        refine r_getc (ki := 6) d_189_14 q_189_29 rfl sh_217 fx_217_6 (by omega) ?_
        refine r_iload_n d_189_17 rfl ?_
        refine r_ialoadv d_189_18 sh_222 (by omega) (by omega) (hhv.2 hS) ?_
        refine r_if_eq (t := 35) d_189_19 rfl (fun _ => ?_) (fun hz => absurd (by decide) hz)
        refine r_iconst d_189_35 rfl ?_
        refine r_goto (t := 40) d_189_36 rfl ?_
        refine r_istore_n d_189_40 rfl (stl_4_2 rfl rfl) ?_
        refine r_iinc d_189_41 rfl (by omega) (stl_4_3 rfl rfl) ?_
        refine r_goto (t := 4) d_189_44 rfl ?_
        exact ih 1 (fun _ => rfl) (fun q2 => absurd (hnext (fun p => absurd p hS)) q2)
    · rw [h0 hq]
      refine r_iload_n d_189_9 rfl ?_
      refine r_if_eq (t := 39) d_189_10 rfl (fun _ => ?_) (fun hz => absurd (by decide) hz)
      refine r_iconst d_189_39 rfl ?_
      refine r_istore_n d_189_40 rfl (stl_4_2 rfl rfl) ?_
      refine r_iinc d_189_41 rfl (by omega) (stl_4_3 rfl rfl) ?_
      refine r_goto (t := 4) d_189_44 rfl ?_
      exact ih 0 (fun q2 => absurd (fun w q3 q4 => q2 w q3 (by omega)) hq) (fun _ => rfl)
/-- a vector whose spun space is spun by each of its vectors -/
def smp {e : Nat} (n : Nat) (A : Nat → Nat → Nat → Kf e) (v : Int) : Prop := ∀ w : Int, 1 ≤ w → w < pI e ^ n → spn (spin n A [] (toV e n v)) (toV e n w) → sl n A w = sl n A v
noncomputable def scT {e : Nat} (n : Nat) (A : Nat → Nat → Nat → Kf e) : Nat → List (Vc e)
  | 0 => []
  | m + 1 => ifp (smp n A ((m : Int) + 1)) (addv (scT n A m) (toV e n ((m : Int) + 1))) (scT n A m)
theorem scT_good {e n : Nat} (he : e ≤ 1) {A : Nat → Nat → Nat → Kf e} : ∀ m : Nat, Good n (scT n A m)
  | 0 => Good.nil
  | m + 1 => by
    unfold scT
    by_cases h : smp n A ((m : Int) + 1)
    · rw [ifp_t h]
      exact (scT_good he m).add he toV_sup
    · rw [ifp_f h]
      exact scT_good he m
def WQ (x y : Int) : Prop := WS x y ∨ x = 240 ∨ x = 241
theorem m_findsSocle {e : Nat} (he : e ≤ 1) (M : Mo) (hp : M 217 1 = pI e) {n : Nat} {A : Nat → Nat → Nat → Kf e} (hM : MM e M 10 n A) : CV 190 [(2, 217)] M (fun M' => Fr WQ M M' ∧ SP n M' (scT n A (pI e ^ n - 1).toNat)) := by
  refine Cl.intro (L := [(2, 217), (9, 0), (9, 0), (9, 0)]) (rcv_v ow_190.2.1 sh_217) (by unfold entl; rw [mx_190]; rfl) (by rw [mx_190]; exact Nat.le_of_ble_eq_true rfl) rfl ?_
  have h23 := pI23 he
  have hnb := hM.2.1
  have hn6 : n ≤ 6 := by unfold nb at hnb; omega
  have h243 := pw_243 he hnb
  have hp1 := pw_pos h23 n
  have hMf : ∀ {M1 : Mo}, Fr WQ M M1 → MM e M1 10 n A := fun hF => hM.fr hF (fun x y q1 q2 => by unfold WK at q1; unfold WQ WS at q2; omega)
  have hpf : ∀ {M1 : Mo}, Fr WQ M M1 → M1 217 1 = pI e := fun hF => (hF _ _ (by unfold WQ WS; omega)).trans hp
  refine r_aload_n d_190_0 rfl (by omega) ?_
  refine r_getc (ki := 2) d_190_1 q_190_17 rfl sh_217 fx_217_2 (by omega) ?_
  refine r_bipush d_190_4 rfl ?_
  refine r_ialoadv d_190_6 sh_219 (by omega) (by omega) hM.1 ?_
  refine r_istore_n d_190_7 rfl (stl_4_1 rfl rfl) ?_
  refine r_aload_n d_190_8 rfl (by omega) ?_
  refine r_iload_n d_190_9 rfl ?_
  refine r_callvp d_190_10 q_190_110 rfl rfl (by have := m_power M hp h23 (n : Int) (by omega); rw [Int.toNat_natCast] at this; exact this) ?_
  refine r_istore_n d_190_13 rfl (stl_4_2 rfl rfl) ?_
  refine r_iconst d_190_14 rfl ?_
  refine r_istore_n d_190_15 rfl (stl_4_3 rfl rfl) ?_
  refine dn_ind (R := fun v => ∀ M1 : Mo, Fr WQ M M1 → (∀ w : Int, 1 ≤ w → w < v → M1 240 w = (sl n A w : Nat)) → Rn 190 16 [(2, 217), (0, (n : Int)), (0, pI e ^ n), (0, v)] [] M1 _) (lo := 1) (n := pI e ^ n) ?_ ?_ 1 (by omega) (by omega) M Fr.refl (fun w h1 h2 => by omega)
  · intro M1 hF hdp
    refine r_iload_n d_190_16 rfl ?_
    refine r_iload_n d_190_17 rfl ?_
    refine r_icmp_ge (t := 44) d_190_18 rfl (fun _ => ?_) (fun hz => absurd (by omega) hz)
    refine r_iconst d_190_44 rfl ?_
    refine r_istore_n d_190_45 rfl (stl_4_3 rfl rfl) ?_
    refine dn_ind (R := fun v => ∀ M1 : Mo, Fr WQ M M1 → (∀ w : Int, 1 ≤ w → w < pI e ^ n → M1 240 w = (sl n A w : Nat)) → (∀ w : Int, 1 ≤ w → w < v → M1 241 w = ifp (smp n A w) 1 0) → Rn 190 46 [(2, 217), (0, (n : Int)), (0, pI e ^ n), (0, v)] [] M1 _) (lo := 1) (n := pI e ^ n) ?_ ?_ 1 (by omega) (by omega) M1 hF hdp (fun w h1 h2 => by omega)
    · intro M1 hF hdp hsm
      refine r_iload_n d_190_46 rfl ?_
      refine r_iload_n d_190_47 rfl ?_
      refine r_icmp_ge (t := 83) d_190_48 rfl (fun _ => ?_) (fun hz => absurd (by omega) hz)
      refine r_aload_n d_190_83 rfl (by omega) ?_
      refine r_callvr d_190_84 q_190_136 rfl rfl (m_nothingF he M1 hnb) (fun M2 hM2 => ?_)
      obtain ⟨hF2, hSP2⟩ := hM2
      refine r_iconst d_190_87 rfl ?_
      refine r_istore_n d_190_88 rfl (stl_4_3 rfl rfl) ?_
      refine dn_ind (R := fun v => ∀ M2 : Mo, Fr WQ M M2 → (∀ w : Int, 1 ≤ w → w < pI e ^ n → M2 241 w = ifp (smp n A w) 1 0) → SP n M2 (scT n A (v - 1).toNat) → Rn 190 89 [(2, 217), (0, (n : Int)), (0, pI e ^ n), (0, v)] [] M2 _) (lo := 1) (n := pI e ^ n) ?_ ?_ 1 (by omega) (by omega) M2 (hF.trans hF2 (fun x y q => q) (fun x y q => Or.inl q)) (fun w h1 h2 => by rw [hF2 _ _ (by unfold WS; omega)]; exact hsm w h1 h2) hSP2
      · intro M2 hF hsm hSP
        refine r_iload_n d_190_89 rfl ?_
        refine r_iload_n d_190_90 rfl ?_
        refine r_icmp_ge (t := 125) d_190_91 rfl (fun _ => ?_) (fun hz => absurd (by omega) hz)
        refine r_vret d_190_125 rt_190 ?_
        exact ⟨rfl, hF, hSP⟩
      · intro v v1 v2 ih M2 hF hsm hSP
        have hu : num n (toV e n v) = v := num_toV he (by omega) v2
        have hG := scT_good he (n := n) (A := A) (v - 1).toNat
        have hhv := hSP.2.2 _ (toV_sup (e := e) (n := n) (v := v))
        rw [hu] at hhv
        have hsc : scT n A (v + 1 - 1).toNat = ifp (smp n A v) (addv (scT n A (v - 1).toNat) (toV e n v)) (scT n A (v - 1).toNat) := by
          rw [show (v + 1 - 1).toNat = (v - 1).toNat + 1 by omega]
          conv => lhs; unfold scT
          rw [show (((v - 1).toNat : Nat) : Int) + 1 = v by omega]
        refine r_iload_n d_190_89 rfl ?_
        refine r_iload_n d_190_90 rfl ?_
        refine r_icmp_ge (t := 125) d_190_91 rfl (fun hz => absurd hz (by omega)) (fun _ => ?_)
        by_cases hs : smp n A v
        · rw [ifp_t hs] at hsc
          refine r_aload_n d_190_94 rfl (by omega) ?_
          refine r_getc (ki := 29) d_190_95 q_190_86 rfl sh_217 fx_217_29 (by omega) ?_
          refine r_iload_n d_190_98 rfl ?_
          refine r_ialoadv d_190_99 sh_241 (by omega) (by omega) ((hsm v v1 v2).trans (ifp_t hs)) ?_
          refine r_iconst d_190_100 rfl ?_
          refine r_icmp_ne (t := 119) d_190_101 rfl (fun hz => absurd hz (by decide)) (fun _ => ?_)
          by_cases hS : spn (scT n A (v - 1).toNat) (toV e n v)
          · refine r_aload_n d_190_104 rfl (by omega) ?_
            refine r_getc (ki := 6) d_190_105 q_190_29 rfl sh_217 fx_217_6 (by omega) ?_
            refine r_iload_n d_190_108 rfl ?_
            refine r_ialoadv d_190_109 sh_222 (by omega) (by omega) (hhv.1 hS) ?_
            refine r_if_ne (t := 119) d_190_110 rfl (fun _ => ?_) (fun hz => absurd (by decide) hz)
            refine r_iinc d_190_119 rfl (by omega) (stl_4_3 rfl rfl) ?_
            refine r_goto (t := 89) d_190_122 rfl ?_
            refine ih M2 hF hsm ?_
            rw [hsc]
            unfold addv
            rw [ifp_t hS]
            exact hSP
          · have hj := m_joinF he M2 (hpf hF) hnb hG hSP toV_sup hS
            rw [hu] at hj
            refine r_aload_n d_190_104 rfl (by omega) ?_
            refine r_getc (ki := 6) d_190_105 q_190_29 rfl sh_217 fx_217_6 (by omega) ?_
            refine r_iload_n d_190_108 rfl ?_
            refine r_ialoadv d_190_109 sh_222 (by omega) (by omega) (hhv.2 hS) ?_
            refine r_if_ne (t := 119) d_190_110 rfl (fun hz => absurd hz (by decide)) (fun _ => ?_)
            refine r_aload_n d_190_113 rfl (by omega) ?_
            refine r_iload_n d_190_114 rfl ?_
            refine r_iload_n d_190_115 rfl ?_
            refine r_callvr d_190_116 q_190_129 rfl rfl (hj) (fun M3 hM3 => ?_)
            obtain ⟨hF3, hSP3⟩ := hM3
            refine r_iinc d_190_119 rfl (by omega) (stl_4_3 rfl rfl) ?_
            refine r_goto (t := 89) d_190_122 rfl ?_
            refine ih M3 (hF.trans hF3 (fun x y q => q) (fun x y q => Or.inl q)) (fun w h1 h2 => by rw [hF3 _ _ (by unfold WS; omega)]; exact hsm w h1 h2) ?_
            rw [hsc]
            unfold addv
            rw [ifp_f hS]
            exact hSP3
        · rw [ifp_f hs] at hsc
          refine r_aload_n d_190_94 rfl (by omega) ?_
          refine r_getc (ki := 29) d_190_95 q_190_86 rfl sh_217 fx_217_29 (by omega) ?_
          refine r_iload_n d_190_98 rfl ?_
          refine r_ialoadv d_190_99 sh_241 (by omega) (by omega) ((hsm v v1 v2).trans (ifp_f hs)) ?_
          refine r_iconst d_190_100 rfl ?_
          refine r_icmp_ne (t := 119) d_190_101 rfl (fun _ => ?_) (fun hz => absurd (by decide) hz)
          refine r_iinc d_190_119 rfl (by omega) (stl_4_3 rfl rfl) ?_
          refine r_goto (t := 89) d_190_122 rfl ?_
          refine ih M2 hF hsm ?_
          rw [hsc]
          exact hSP
    · intro v v1 v2 ih M1 hF hdp hsm
      refine r_iload_n d_190_46 rfl ?_
      refine r_iload_n d_190_47 rfl ?_
      refine r_icmp_ge (t := 83) d_190_48 rfl (fun hz => absurd hz (by omega)) (fun _ => ?_)
      refine r_aload_n d_190_51 rfl (by omega) ?_
      refine r_bipush d_190_52 rfl ?_
      refine r_iload_n d_190_54 rfl ?_
      refine r_callvr d_190_55 q_190_205 rfl rfl (m_spinVS he M1 (hpf hF) (k := 10) (by omega) (hMf hF) (by omega) v2) (fun M2 hM2 => ?_)
      obtain ⟨hF2, hSP2⟩ := hM2
      have hdp2 : ∀ w : Int, 1 ≤ w → w < pI e ^ n → M2 240 w = (sl n A w : Nat) := fun w h1 h2 => by rw [hF2 _ _ (by unfold WS; omega)]; exact hdp w h1 h2
      have hbe := m_isByEach he M2 hnb (A := A) hSP2.2.2 hdp2 (d := sl n A v) hSP2.1
      have hF12 : Fr WQ M M2 := hF.trans hF2 (fun x y q => q) (fun x y q => Or.inl q)
      refine r_aload_n d_190_58 rfl (by omega) ?_
      refine r_getc (ki := 29) d_190_59 q_190_86 rfl sh_217 fx_217_29 (by omega) ?_
      refine r_iload_n d_190_62 rfl ?_
      refine r_aload_n d_190_63 rfl (by omega) ?_
      refine r_iload_n d_190_64 rfl ?_
      refine r_callvp d_190_65 q_190_260 rfl rfl hbe ?_
      have cont : ∀ z : Int, z = ifp (smp n A v) 1 0 → Rn 190 76 [(2, 217), (0, (n : Int)), (0, pI e ^ n), (0, v)] [(0, z), (0, v), (2, 241)] M2 (fun v M' => v = none ∧ Fr WQ M M' ∧ SP n M' (scT n A (pI e ^ n - 1).toNat)) := by
        intro z hz
        refine r_iastore d_190_76 sh_241 (by omega) (by omega) ?_
        refine r_iinc d_190_77 rfl (by omega) (stl_4_3 rfl rfl) ?_
        refine r_goto (t := 46) d_190_80 rfl ?_
        refine ih _ (hF12.trans (Q := WQ) (Fr.up (Or.inr (Or.inr rfl))) (fun x y q => q) (fun x y q => q)) (fun w h1 h2 => ?_) (fun w h1 h2 => ?_)
        · rw [← hdp2 w h1 h2]
          simp [up2]
        · by_cases hwv : w = v
          · rw [hwv, ← hz]
            simp [up2]
          · have : up2 M2 241 v z 241 w = M2 241 w := by simp [up2, hwv]
            rw [this, hF2 _ _ (by unfold WS; omega)]
            exact hsm w h1 (by omega)
      by_cases hs : smp n A v
      · rw [ifp_t (show ∀ w : Int, 1 ≤ w → w < pI e ^ n → spn (spin n A [] (toV e n v)) (toV e n w) → sl n A w = sl n A v from hs)]
        refine r_if_eq (t := 75) d_190_68 rfl (fun hz => absurd hz (by decide)) (fun _ => ?_)
        refine r_iconst d_190_71 rfl ?_
        refine r_goto (t := 76) d_190_72 rfl ?_
        exact cont 1 (ifp_t hs).symm
      · rw [ifp_f (show ¬ ∀ w : Int, 1 ≤ w → w < pI e ^ n → spn (spin n A [] (toV e n v)) (toV e n w) → sl n A w = sl n A v from hs)]
        refine r_if_eq (t := 75) d_190_68 rfl (fun _ => ?_) (fun hz => absurd (by decide) hz)
        refine r_iconst d_190_75 rfl ?_
        exact cont 0 (ifp_f hs).symm
  · intro v v1 v2 ih M1 hF hdp
    refine r_iload_n d_190_16 rfl ?_
    refine r_iload_n d_190_17 rfl ?_
    refine r_icmp_ge (t := 44) d_190_18 rfl (fun hz => absurd hz (by omega)) (fun _ => ?_)
    refine r_aload_n d_190_21 rfl (by omega) ?_
    refine r_bipush d_190_22 rfl ?_
    refine r_iload_n d_190_24 rfl ?_
    refine r_callvr d_190_25 q_190_205 rfl rfl (m_spinVS he M1 (hpf hF) (k := 10) (by omega) (hMf hF) (by omega) v2) (fun M2 hM2 => ?_)
    obtain ⟨hF2, hSP2⟩ := hM2
    have hsl : M2 217 7 = (sl n A v : Nat) := hSP2.1
    refine r_aload_n d_190_28 rfl (by omega) ?_
    refine r_getc (ki := 28) d_190_29 q_190_83 rfl sh_217 fx_217_28 (by omega) ?_
    refine r_iload_n d_190_32 rfl ?_
    refine r_aload_n d_190_33 rfl (by omega) ?_
    refine r_getfv (ki := 7) d_190_34 q_190_122 rfl sh_217 hsl ?_
    refine r_iastore d_190_37 sh_240 (by omega) (by omega) ?_
    refine r_iinc d_190_38 rfl (by omega) (stl_4_3 rfl rfl) ?_
    refine r_goto (t := 16) d_190_41 rfl ?_
    refine ih _ ((hF.trans hF2 (fun x y q => q) (fun x y q => Or.inl q)).trans (Q := WQ) (Fr.up (Or.inr (Or.inl rfl))) (fun x y q => q) (fun x y q => q)) (fun w h1 h2 => ?_)
    by_cases hwv : w = v
    · rw [hwv]
      simp [up2]
    · have : up2 M2 240 v (sl n A v : Nat) 240 w = M2 240 w := by simp [up2, hwv]
      rw [this, hF2 _ _ (by unfold WS; omega)]
      exact hdp w h1 (by omega)
