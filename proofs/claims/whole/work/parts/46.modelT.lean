/-! The model: nulls, told, digest. -/
def WS (x y : Int) : Prop := (x = 217 ∧ y = 7) ∨ (222 ≤ x ∧ x ≤ 224)
theorem MS_frS {M : Mo} {d : Int} {h t w : Int → Int} : Fr WS M (MS M d h t w) := fun x y hn => by
  unfold WS at hn
  by_cases h1 : x = 217
  · subst h1
    exact MS_217 (by omega)
  · exact MS_o (by omega)
theorem WS_W1 {x y : Int} (h : WS x y) : W1 x y := by
  unfold WS at h
  unfold W1
  omega
theorem m_spinsOnG {e : Nat} (he : e ≤ 1) (M : Mo) (hp : M 217 1 = pI e) {k : Int} {n : Nat} {A : Nat → Nat → Nat → Kf e} (hk : 0 ≤ k ∧ k ≤ 10) (hM : MM e M k n A) {T : List (Vc e)} (hG : Good n T) (hT : SP n M T) {v : Int} (h0 : 0 ≤ v) (h1 : v < pI e ^ n) : CV 143 [(2, 217), (0, k), (0, v)] M (fun M' => Fr WS M M' ∧ SP n M' (spin n A T (toV e n v))) := by
  have h := m_spinsOn he M hp hk hM hG (h := M 222) (t := M 223) (w := M 224) hT.2.1 hT.2.2 (v := toV e n v) toV_sup
  rw [← hT.1, MS_self, num_toV he h0 h1] at h
  refine Cl.mono h (fun v M' h => ⟨h.1, ?_⟩)
  obtain ⟨-, h', t', w', rfl, g1, g2⟩ := h
  refine ⟨MS_frS, MS_d, fun j hj => ?_, fun w hw => ?_⟩
  · rw [MS_t]
    exact g1 j hj
  · rw [MS_h]
    exact g2 w hw
theorem m_nothingF {e : Nat} (he : e ≤ 1) (M : Mo) {n : Nat} (hn : nb e n) : CV 141 [(2, 217)] M (fun M' => Fr WS M M' ∧ SP n M' ([] : List (Vc e))) := by
  have h243 := pw_243 he hn
  refine Cl.mono (m_nothing M) (fun v M' h => ⟨h.1, ?_⟩)
  obtain ⟨-, h', rfl, g1, g2⟩ := h
  refine ⟨MS_frS, MS_d, fun j hj => absurd hj (Nat.not_lt_zero j), fun w hw => ?_⟩
  rw [MS_h]
  have hr := num_rng he n w
  refine ⟨fun q => ?_, fun q => ?_⟩
  · have : w = z0 := q
    rw [(num_eq0 he hw).mpr this]
    exact g1
  · have : num n w ≠ 0 := fun q2 => q ((num_eq0 he hw).mp q2)
    exact g2 _ (by omega) (by omega)
theorem m_nulls {M : Mo} {s : Sst} (hv : vs s) (hc : cu M s) {l : Nat} {w : Nat → Int} (hw : Wd M l w) {k : Nat} {x : Int} (hk : k < 4) (hx : 0 ≤ x ∧ x ≤ 2) : CI 207 [(2, 217), (0, (k : Int)), (0, x)] M (fun z M' => nulP (s.2.1 k) (mdA s k) (wrow (s.2.1 k) (mdA s k) w l) x z ∧ Fr W1 M M') := by
  refine Cl.intro (L := [(2, 217), (0, (k : Int)), (0, x), (9, 0), (9, 0), (9, 0), (9, 0), (9, 0)]) (rcv_v ow_207.2.1 sh_217) (by unfold entl; rw [mx_207]; rfl) (by rw [mx_207]; exact Nat.le_of_ble_eq_true rfl) rfl ?_
  have he := hv.1
  have h23 := pI23 he
  have hMM : MM s.1 M k (s.2.1 k) (mdA s k) := hc.MM hv hk
  have hn6 := vs_6 hv hk
  have hp0 := hc.1
  generalize mdA s k = A at *
  generalize s.2.1 k = n at *
  have hnb := hMM.2.1
  have h243 := pw_243 he hnb
  have hp1 := pw_pos h23 n
  refine r_iload_n d_207_0 rfl ?_
  refine r_callsp d_207_1 q_207_178 rfl rfl (m_isModule M k) ?_
  rw [if_pos (by omega)]
  refine r_if_eq (t := 16) d_207_4 rfl (fun hz => absurd hz (by decide)) (fun _ => ?_)
  refine r_iload_n d_207_7 rfl ?_
  refine r_iconst d_207_8 rfl ?_
  refine r_iconst d_207_9 rfl ?_
  refine r_callsp d_207_10 q_207_118 rfl rfl (m_in M x 0 2) ?_
  rw [if_pos hx]
  refine r_if_ne (t := 21) d_207_13 rfl (fun _ => ?_) (fun hz => absurd (by decide) hz)
  refine r_aload_n d_207_21 rfl (by omega) ?_
  refine r_iload_n d_207_22 rfl ?_
  refine r_callvr d_207_23 q_207_297 rfl rfl (m_tellsWord he M hp0 (k := k) (by omega) hMM hw) (fun M1 hM1 => ?_)
  obtain ⟨hF1, hr1⟩ := hM1
  generalize wrow n A w l = W at *
  have hM1 := hMM.w1 hF1
  have hp1' : M1 217 1 = pI s.1 := (hF1 _ _ (by unfold W1; omega)).trans hp0
  refine r_aload_n d_207_26 rfl (by omega) ?_
  refine r_getc (ki := 2) d_207_27 q_207_17 rfl sh_217 fx_217_2 (by omega) ?_
  refine r_iload_n d_207_30 rfl ?_
  refine r_ialoadv d_207_31 sh_219 (by omega) (by omega) hM1.1 ?_
  refine r_istore_n d_207_32 rfl (stl_8_3 rfl rfl) ?_
  refine r_aload_n d_207_33 rfl (by omega) ?_
  refine r_iload_n d_207_34 rfl ?_
  refine r_callvp d_207_35 q_207_110 rfl rfl (by have := m_power M1 hp1' h23 (n : Int) (by omega); rw [Int.toNat_natCast] at this; exact this) ?_
  refine r_istore d_207_38 rfl (stl_8_4 rfl rfl) ?_
  refine r_iconst d_207_40 rfl ?_
  refine r_istore d_207_41 rfl (stl_8_5 rfl rfl) ?_
  refine r_iconst d_207_43 rfl ?_
  refine r_istore d_207_44 rfl (stl_8_6 rfl rfl) ?_
  refine r_aload_n d_207_46 rfl (by omega) ?_
  refine r_callvr d_207_47 q_207_136 rfl rfl (m_nothingF he M1 hnb) (fun M2 hM2 => ?_)
  obtain ⟨hF2, hSP2⟩ := hM2
  refine r_iload d_207_50 rfl ?_
  refine r_iconst d_207_52 rfl ?_
  refine r_isub d_207_53 (by omega) ?_
  refine r_istore d_207_54 rfl (stl_8_7 rfl rfl) ?_
  generalize hall : pI s.1 ^ n = all at *
  have hloop := up_ind (R := fun v => ∀ (M2 : Mo) (z : Int), Fr WS M1 M2 → SP n M2 (nsT n A W (all - 1 - v).toNat) → nlP n W (v + 1) z → Rn 207 56 [(2, 217), (0, (k : Int)), (0, x), (0, (n : Int)), (0, all), (0, (nsC n W (all - 1 - v).toNat : Nat)), (0, z), (0, v)] [] M2 (fun v M' => ∃ z, v = some (0, z) ∧ nulP n A W x z ∧ Fr W1 M M')) (lo := -1) (hi := all - 1) ?_ ?_ (all - 1) (by omega) (by omega) M2 (-1) hF2 (by rw [show (all - 1 - (all - 1)).toNat = 0 by omega]; exact hSP2) (Or.inl ⟨rfl, fun u q1 q2 q3 => by omega⟩)
  · rw [show (all - 1 - (all - 1)).toNat = 0 by omega] at hloop
    exact hloop
  · intro M2 z hF hSP hz
    rw [show all - 1 - (-1) = all by omega] at hSP ⊢
    have hmle := nsC_le (n := n) (W := W) all.toNat
    have hp2 : M2 217 1 = pI s.1 := (hF _ _ (by unfold WS; omega)).trans hp1'
    have hFF : Fr W1 M M2 := hF1.trans hF (fun x y q => q) (fun x y q => WS_W1 q)
    have hsp := hSP.1
    have hexit : ∀ d : Nat, (nsC n W all.toNat : Int) ≤ pI s.1 ^ d → (∀ d' : Nat, d' < d → pI s.1 ^ d' < (nsC n W all.toNat : Int)) → Rn 207 121 [(2, 217), (0, (k : Int)), (0, x), (0, (n : Int)), (0, all), (0, (nsC n W all.toNat : Nat)), (0, z), (0, (d : Int))] [] M2 (fun v M' => ∃ z, v = some (0, z) ∧ nulP n A W x z ∧ Fr W1 M M') := by
      intro d d1 d2
      by_cases hx0 : x = 0
      · refine r_iload_n d_207_121 rfl ?_
        refine r_if_ne (t := 130) d_207_122 rfl (fun hz => absurd hz (by omega)) (fun _ => ?_)
        refine r_iload d_207_125 rfl ?_
        refine r_goto (t := 144) d_207_127 rfl ?_
        refine r_iret d_207_144 rt_207 ?_
        refine ⟨_, rfl, ⟨fun _ => ⟨d, rfl, ?_, ?_⟩, fun q => by omega, fun q => by omega⟩, hFF⟩
        · rw [hall]
          exact d1
        · rw [hall]
          exact d2
      · by_cases hx1 : x = 1
        · refine r_iload_n d_207_121 rfl ?_
          refine r_if_ne (t := 130) d_207_122 rfl (fun _ => ?_) (fun hz => absurd hx0 hz)
          refine r_iload_n d_207_130 rfl ?_
          refine r_iconst d_207_131 rfl ?_
          refine r_icmp_ne (t := 140) d_207_132 rfl (fun hz => absurd hz (by omega)) (fun _ => ?_)
          refine r_iload d_207_135 rfl ?_
          refine r_goto (t := 144) d_207_137 rfl ?_
          refine r_iret d_207_144 rt_207 ?_
          refine ⟨_, rfl, ⟨fun q => by omega, fun _ => ?_, fun q => by omega⟩, hFF⟩
          rw [show (-1 : Int) + 1 = 0 by omega] at hz
          exact hz
        · refine r_iload_n d_207_121 rfl ?_
          refine r_if_ne (t := 130) d_207_122 rfl (fun _ => ?_) (fun hz => absurd hx0 hz)
          refine r_iload_n d_207_130 rfl ?_
          refine r_iconst d_207_131 rfl ?_
          refine r_icmp_ne (t := 140) d_207_132 rfl (fun _ => ?_) (fun hz => absurd hx1 hz)
          refine r_aload_n d_207_140 rfl (by omega) ?_
          refine r_getfv (ki := 7) d_207_141 q_207_122 rfl sh_217 hsp ?_
          refine r_iret d_207_144 rt_207 ?_
          refine ⟨_, rfl, ⟨fun q => by omega, fun q => by omega, fun _ => ?_⟩, hFF⟩
          rw [hall]
    refine r_iload d_207_56 rfl ?_
    refine r_if_lt (t := 101) d_207_58 rfl (fun _ => ?_) (fun hz => absurd (by omega) hz)
    refine r_iconst d_207_101 rfl ?_
    refine r_istore d_207_102 rfl (stl_8_7 rfl rfl) ?_
    refine dn_ind (R := fun d => (∀ d' : Nat, (d' : Int) < d → pI s.1 ^ d' < (nsC n W all.toNat : Int)) → Rn 207 104 [(2, 217), (0, (k : Int)), (0, x), (0, (n : Int)), (0, all), (0, (nsC n W all.toNat : Nat)), (0, z), (0, d)] [] M2 _) (lo := 0) (n := (n : Int)) ?_ ?_ 0 (by omega) (by omega) (fun d' h => by omega)
    · intro hd
      refine r_aload_n d_207_104 rfl (by omega) ?_
      refine r_iload d_207_105 rfl ?_
      refine r_callvp d_207_107 q_207_110 rfl rfl (m_power M2 hp2 h23 (n : Int) (by omega)) ?_
      refine r_iload d_207_110 rfl ?_
      rw [Int.toNat_natCast, hall]
      refine r_icmp_ge (t := 121) d_207_112 rfl (fun _ => ?_) (fun hz => absurd (by omega) hz)
      exact hexit n (by rw [hall]; omega) (fun d' h => hd d' (by omega))
    · intro d d1 d2 ih hd
      refine r_aload_n d_207_104 rfl (by omega) ?_
      refine r_iload d_207_105 rfl ?_
      refine r_callvp d_207_107 q_207_110 rfl rfl (m_power M2 hp2 h23 d (by omega)) ?_
      refine r_iload d_207_110 rfl ?_
      by_cases hq : (nsC n W all.toNat : Int) ≤ pI s.1 ^ d.toNat
      · refine r_icmp_ge (t := 121) d_207_112 rfl (fun _ => ?_) (fun hz => absurd (by omega) hz)
        have := hexit d.toNat hq (fun d' h => hd d' (by omega))
        rw [show ((d.toNat : Nat) : Int) = d by omega] at this
        exact this
      · refine r_icmp_ge (t := 121) d_207_112 rfl (fun hz => absurd hz (by omega)) (fun _ => ?_)
        refine r_iinc d_207_115 rfl (by omega) (stl_8_7 rfl rfl) ?_
        refine r_goto (t := 104) d_207_118 rfl ?_
        refine ih (fun d' h => ?_)
        by_cases hdd : (d' : Int) = d
        · rw [show d' = d.toNat by omega]
          omega
        · exact hd d' (by omega)
  · intro v v1 v2 ih M2 z hF hSP hz
    have hm2 := hM1.fr hF (fun x y q1 q2 => by unfold WK at q1; unfold WS at q2; omega)
    have hp2 : M2 217 1 = pI s.1 := (hF _ _ (by unfold WS; omega)).trans hp1'
    have hr2 := hr1.fr hF (fun y q => by unfold WS at q; omega)
    have hu : num n (toV s.1 n v) = v := num_toV he (by omega) (by omega)
    have hmle := nsC_le (n := n) (W := W) (all - 1 - v).toNat
    have hin := m_isNull he M2 hp2 hnb hr2 (v := toV s.1 n v) toV_sup
    rw [hu] at hin
    have hsuc : (all - 1 - (v - 1)).toNat = (all - 1 - v).toNat + 1 := by omega
    have hidx : pI s.1 ^ n - 1 - ((all - 1 - v).toNat : Nat) = v := by omega
    have hT : nsT n A W (all - 1 - (v - 1)).toNat = ifp (nsp n W (toV s.1 n v)) (spin n A (nsT n A W (all - 1 - v).toNat) (toV s.1 n v)) (nsT n A W (all - 1 - v).toNat) := by
      rw [hsuc]
      conv => lhs; unfold nsT
      rw [hidx]
    have hC : nsC n W (all - 1 - (v - 1)).toNat = nsC n W (all - 1 - v).toNat + ifp (nsp n W (toV s.1 n v)) 1 0 := by
      rw [hsuc]
      conv => lhs; unfold nsC
      rw [hidx]
    refine r_iload d_207_56 rfl ?_
    refine r_if_lt (t := 101) d_207_58 rfl (fun hz => absurd hz (by omega)) (fun _ => ?_)
    refine r_aload_n d_207_61 rfl (by omega) ?_
    refine r_iload d_207_62 rfl ?_
    refine r_iload_n d_207_64 rfl ?_
    refine r_callvp d_207_65 q_207_300 rfl rfl hin ?_
    by_cases hq : nsp n W (toV s.1 n v)
    · rw [ifp_t hq] at hT hC
      rw [ifp_t hq]
      refine r_if_eq (t := 95) d_207_68 rfl (fun hz => absurd hz (by decide)) (fun _ => ?_)
      refine r_iinc d_207_71 rfl (by omega) (stl_8_5 rfl rfl) ?_
      have cont : ∀ z' : Int, nlP n W v z' → Rn 207 88 [(2, 217), (0, (k : Int)), (0, x), (0, (n : Int)), (0, all), (0, (nsC n W (all - 1 - v).toNat : Nat) + 1), (0, z'), (0, v)] [] M2 (fun v M' => ∃ z, v = some (0, z) ∧ nulP n A W x z ∧ Fr W1 M M') := by
        intro z' hz'
        refine r_aload_n d_207_88 rfl (by omega) ?_
        refine r_iload_n d_207_89 rfl ?_
        refine r_iload d_207_90 rfl ?_
        refine r_callvr d_207_92 q_207_139 rfl rfl (m_spinsOnG he M2 hp2 (k := k) (by omega) hm2 (nsT_good he _) hSP (v := v) (by omega) (by omega)) (fun M3 hM3 => ?_)
        obtain ⟨hF3, hSP3⟩ := hM3
        refine r_iinc d_207_95 rfl (by omega) (stl_8_7 rfl rfl) ?_
        refine r_goto (t := 56) d_207_98 rfl ?_
        have := ih M3 z' (hF.trans hF3 (fun x y q => q) (fun x y q => q)) (by rw [hT]; exact hSP3) (by rw [show v - 1 + 1 = v by omega]; exact hz')
        rw [hC] at this
        exact this
      by_cases hv0 : 0 < v
      · refine r_iload d_207_74 rfl ?_
        refine r_if_le (t := 84) d_207_76 rfl (fun hz => absurd hz (by omega)) (fun _ => ?_)
        refine r_iload d_207_79 rfl ?_
        refine r_goto (t := 86) d_207_81 rfl ?_
        refine r_istore d_207_86 rfl (stl_8_6 rfl rfl) ?_
        exact cont v (Or.inr ⟨hv0, Int.le_refl _, by omega, hq, fun u q1 q2 q3 => by omega⟩)
      · refine r_iload d_207_74 rfl ?_
        refine r_if_le (t := 84) d_207_76 rfl (fun _ => ?_) (fun hz => absurd (by omega) hz)
        refine r_iload d_207_84 rfl ?_
        refine r_istore d_207_86 rfl (stl_8_6 rfl rfl) ?_
        refine cont z ?_
        rcases hz with ⟨q1, q2⟩ | ⟨q1, q2, q3, q4, q5⟩
        · exact Or.inl ⟨q1, fun u p1 p2 p3 => q2 u p1 (by omega) p3⟩
        · exact Or.inr ⟨q1, by omega, q3, q4, fun u p1 p2 p3 => q5 u p1 (by omega) p3⟩
    · rw [ifp_f hq] at hT hC
      rw [ifp_f hq]
      refine r_if_eq (t := 95) d_207_68 rfl (fun _ => ?_) (fun hz => absurd (by decide) hz)
      refine r_iinc d_207_95 rfl (by omega) (stl_8_7 rfl rfl) ?_
      refine r_goto (t := 56) d_207_98 rfl ?_
      have hz' : nlP n W v z := by
        rcases hz with ⟨q1, q2⟩ | ⟨q1, q2, q3, q4, q5⟩
        · refine Or.inl ⟨q1, fun u p1 p2 p3 => ?_⟩
          by_cases huv : u = v
          · rw [huv]
            exact hq
          · exact q2 u p1 (by omega) p3
        · refine Or.inr ⟨q1, by omega, q3, q4, fun u p1 p2 p3 => ?_⟩
          by_cases huv : u = v
          · rw [huv]
            exact hq
          · exact q5 u p1 (by omega) p3
      have := ih M2 z hF (by rw [hT]; exact hSP) (by rw [show v - 1 + 1 = v by omega]; exact hz')
      rw [hC] at this
      exact this
