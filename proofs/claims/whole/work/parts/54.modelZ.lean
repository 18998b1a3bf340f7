/-! The model: layers. -/
noncomputable def scL {e : Nat} (n : Nat) (A : Nat → Nat → Nat → Kf e) : List (Vc e) := scT n A (pI e ^ n - 1).toNat
noncomputable def lay {e : Nat} : Nat → Nat → (Nat → Nat → Nat → Kf e) → Nat → Int
  | 0, _, _, _ => -1
  | f + 1, n, A, i => if n = 0 then -1 else if i = 0 then ((scL n A).length : Nat) else lay f (n - (scL n A).length) (rst n A (spn (scL n A))) (i - 1)
def WY (x y : Int) : Prop := W1 x y ∨ WK 10 x y
theorem m_layer_bad (M : Mo) (hb : cb M) {k i : Int} (h : ¬ ((0 ≤ k ∧ k ≤ 3) ∧ 0 ≤ i)) : PJ 191 [(2, 217), (0, k), (0, i)] M (-2) (up2 M 218 0 (M 218 0 + 1)) := by
  refine Cl.intro (L := [(2, 217), (0, k), (0, i), (9, 0)]) (rcv_v ow_191.2.1 sh_217) (by unfold entl; rw [mx_191]; rfl) (by rw [mx_191]; exact Nat.le_of_ble_eq_true rfl) rfl ?_
  have hbad := m_bad M (hb 0 (by omega) (by omega))
  refine r_iload_n d_191_0 rfl ?_
  refine r_callsp d_191_1 q_191_178 rfl rfl (m_isModule M k) ?_
  by_cases hk : 0 ≤ k ∧ k ≤ 3
  · rw [if_pos hk]
    have hi : ¬ 0 ≤ i := fun q => h ⟨hk, q⟩
    refine r_if_eq (t := 11) d_191_4 rfl (fun hz => absurd hz (by decide)) (fun _ => ?_)
    refine r_iload_n d_191_7 rfl ?_
    refine r_if_ge (t := 16) d_191_8 rfl (fun hz => absurd hz (by omega)) (fun _ => ?_)
    refine r_aload_n d_191_11 rfl (by omega) ?_
    refine r_callvj d_191_12 q_191_172 rfl rfl hbad ?_
    refine r_iret d_191_15 rt_191 ?_
    exact ⟨rfl, rfl⟩
  · rw [if_neg hk]
    refine r_if_eq (t := 11) d_191_4 rfl (fun _ => ?_) (fun hz => absurd (by decide) hz)
    refine r_aload_n d_191_11 rfl (by omega) ?_
    refine r_callvj d_191_12 q_191_172 rfl rfl hbad ?_
    refine r_iret d_191_15 rt_191 ?_
    exact ⟨rfl, rfl⟩
theorem m_layer {M : Mo} {s : Sst} (hv : vs s) (hc : cu M s) {k : Nat} {i : Int} (hk : k < 4) (hi : 0 ≤ i) : CI 191 [(2, 217), (0, (k : Int)), (0, i)] M (fun z M' => z = lay 7 (s.2.1 k) (mdA s k) i.toNat ∧ Fr WY M M') := by
  refine Cl.intro (L := [(2, 217), (0, (k : Int)), (0, i), (9, 0)]) (rcv_v ow_191.2.1 sh_217) (by unfold entl; rw [mx_191]; rfl) (by rw [mx_191]; exact Nat.le_of_ble_eq_true rfl) rfl ?_
  have he := hv.1
  have h6 := vs_6 hv hk
  have hMM : MM s.1 M k (s.2.1 k) (mdA s k) := hc.MM hv hk
  have main : ∀ (f n : Nat) (A : Nat → Nat → Nat → Kf s.1) (M1 : Mo) (a : Int), n < f → MM s.1 M1 10 n A → Fr WY M M1 → 0 ≤ a → a ≤ i → a + n ≤ 6 → Rn 191 61 [(2, 217), (0, (k : Int)), (0, i), (0, a)] [] M1 (fun v M' => ∃ z, v = some (0, z) ∧ z = lay f n A (i - a).toNat ∧ Fr WY M M') := by
    intro f
    induction f with
    | zero => intro n A M1 a h; omega
    | succ f ih =>
      intro n A M1 a hnf hM1 hF h0 h1 h2
      have hp1 : M1 217 1 = pI s.1 := (hF _ _ (by unfold WY W1 WK; omega)).trans hc.1
      have hnb := hM1.2.1
      have hn6 : n ≤ 6 := by unfold nb at hnb; omega
      refine r_aload_n d_191_61 rfl (by omega) ?_
      refine r_getc (ki := 2) d_191_62 q_191_17 rfl sh_217 fx_217_2 (by omega) ?_
      refine r_bipush d_191_65 rfl ?_
      refine r_ialoadv d_191_67 sh_219 (by omega) (by omega) hM1.1 ?_
      by_cases hn0 : n = 0
      · refine r_if_le (t := 99) d_191_68 rfl (fun _ => ?_) (fun hz => absurd (by omega) hz)
        refine r_iconst d_191_99 rfl ?_
        refine r_iret d_191_100 rt_191 ?_
        refine ⟨_, rfl, ?_, hF⟩
        unfold lay
        rw [if_pos hn0]
      · have hpos : 1 ≤ (scL n A).length := scT_pos he hn6 (by omega)
        have hG : Good n (scL n A) := scT_good he _
        have hle := hG.len
        refine r_if_le (t := 99) d_191_68 rfl (fun hz => absurd hz (by omega)) (fun _ => ?_)
        refine r_aload_n d_191_71 rfl (by omega) ?_
        refine r_callvr d_191_72 q_191_263 rfl rfl (m_findsSocle he M1 hp1 hM1) (fun M2 hM2 => ?_)
        obtain ⟨hF2, hSP⟩ := hM2
        have hsp : M2 217 7 = (scL n A).length := hSP.1
        have hF12 : Fr WY M M2 := hF.trans hF2 (fun x y q => q) (fun x y q => Or.inl (by unfold WQ WS at q; unfold W1; omega))
        have hp2 : M2 217 1 = pI s.1 := (hF12 _ _ (by unfold WY W1 WK; omega)).trans hc.1
        have hM2 : MM s.1 M2 10 n A := hM1.fr hF2 (fun x y q1 q2 => by unfold WK at q1; unfold WQ WS at q2; omega)
        by_cases hai : a = i
        · refine r_iload_n d_191_75 rfl ?_
          refine r_iload_n d_191_76 rfl ?_
          refine r_icmp_ne (t := 85) d_191_77 rfl (fun hz => absurd hz (by omega)) (fun _ => ?_)
          refine r_aload_n d_191_80 rfl (by omega) ?_
          refine r_getfv (ki := 7) d_191_81 q_191_122 rfl sh_217 hsp ?_
          refine r_iret d_191_84 rt_191 ?_
          refine ⟨_, rfl, ?_, hF12⟩
          unfold lay
          rw [if_neg hn0, if_pos (by omega)]
        · refine r_iload_n d_191_75 rfl ?_
          refine r_iload_n d_191_76 rfl ?_
          refine r_icmp_ne (t := 85) d_191_77 rfl (fun _ => ?_) (fun hz => absurd hai hz)
          refine r_aload_n d_191_85 rfl (by omega) ?_
          refine r_bipush d_191_86 rfl ?_
          refine r_bipush d_191_88 rfl ?_
          refine r_callvr d_191_90 q_191_211 rfl rfl (m_tellsRest he M2 hp2 (k := 10) (k2 := 10) (by omega) (by omega) hM2 hG.sub hSP.2.2 (hsp.trans (by rw [hG.2]))) (fun M3 hM3 => ?_)
          obtain ⟨hF3, hM3⟩ := hM3
          rw [hG.2] at hM3
          refine r_iinc d_191_93 rfl (by omega) (stl_4_3 rfl rfl) ?_
          refine r_goto (t := 61) d_191_96 rfl ?_
          have hnext := ih (n - (scL n A).length) (rst n A (spn (scL n A))) M3 (a + 1) (by omega) hM3 (hF12.trans hF3 (fun x y q => q) (fun x y q => q.elim (fun q => Or.inl (by unfold WF at q; unfold W1; omega)) Or.inr)) (by omega) (by omega) (by omega)
          have hl : lay (f + 1) n A (i - a).toNat = lay f (n - (scL n A).length) (rst n A (spn (scL n A))) (i - (a + 1)).toNat := by
            conv => lhs; unfold lay
            rw [if_neg hn0, if_neg (by omega), show (i - a).toNat - 1 = (i - (a + 1)).toNat by omega]
          rw [hl]
          exact hnext
  refine r_iload_n d_191_0 rfl ?_
  refine r_callsp d_191_1 q_191_178 rfl rfl (m_isModule M k) ?_
  rw [if_pos (by omega)]
  refine r_if_eq (t := 11) d_191_4 rfl (fun hz => absurd hz (by decide)) (fun _ => ?_)
  refine r_iload_n d_191_7 rfl ?_
  refine r_if_ge (t := 16) d_191_8 rfl (fun _ => ?_) (fun hz => absurd hi hz)
  refine r_iconst d_191_16 rfl ?_
  refine r_istore_n d_191_17 rfl (stl_4_3 rfl rfl) ?_
  refine dn_ind (R := fun c => ∀ f : Int → Int, (∀ c' : Int, 0 ≤ c' → c' < c → f c' = M 220 (72 * k + c')) → Rn 191 18 [(2, 217), (0, (k : Int)), (0, i), (0, c)] [] (sr M 221 f) _) (lo := 0) (n := 72) ?_ ?_ 0 (by omega) (by omega) (M 221) (fun c' h1 h2 => by omega) |> (fun k => by rw [sr_self] at k; exact k)
  · intro f hf
    have hsz : sr M 221 f 219 k = (s.2.1 k : Nat) := by rw [sr_ne _ _ (by decide)]; exact (hc.2 k hk).1
    refine r_iload_n d_191_18 rfl ?_
    refine r_bipush d_191_19 rfl ?_
    refine r_icmp_ge (t := 47) d_191_21 rfl (fun _ => ?_) (fun hz => absurd (by omega) hz)
    refine r_aload_n d_191_47 rfl (by omega) ?_
    refine r_bipush d_191_48 rfl ?_
    refine r_aload_n d_191_50 rfl (by omega) ?_
    refine r_getc (ki := 2) d_191_51 q_191_17 rfl sh_217 fx_217_2 (by omega) ?_
    refine r_iload_n d_191_54 rfl ?_
    refine r_ialoadv d_191_55 sh_219 (by omega) (by omega) hsz ?_
    refine r_callvr d_191_56 q_191_159 rfl rfl (m_takesFresh (sr M 221 f) (k := 10) (n := (s.2.1 k : Nat)) (by omega)) (fun M2 hM2 => ?_)
    obtain ⟨hF2, hs2, hc2⟩ := hM2
    have hM2 : MM s.1 M2 10 (s.2.1 k) (mdA s k) := takes_MM hs2 hc2 (hv.2 k hk).2.1 (fun g i j a1 a2 a3 => by
      rw [sr_eq, hf _ (by omega) (by omega)]
      have := hMM.2.2 g i j a1 a2 a3
      rw [← this]
      congr 1
      omega)
    have hFF : Fr WY M M2 := (sr_fr (P := WY) (fun y => Or.inl (Or.inr (Or.inl (by omega))))).trans hF2 (fun x y q => q) (fun x y q => Or.inr q)
    refine r_iconst d_191_59 rfl ?_
    refine r_istore_n d_191_60 rfl (stl_4_3 rfl rfl) ?_
    have := main 7 (s.2.1 k) (mdA s k) M2 0 (by omega) hM2 hFF (by omega) hi (by omega)
    rw [Int.sub_zero] at this
    exact this
  · intro c c1 c2 ih f hf
    refine r_iload_n d_191_18 rfl ?_
    refine r_bipush d_191_19 rfl ?_
    refine r_icmp_ge (t := 47) d_191_21 rfl (fun hz => absurd hz (by omega)) (fun _ => ?_)
    refine r_aload_n d_191_24 rfl (by omega) ?_
    refine r_getc (ki := 4) d_191_25 q_191_23 rfl sh_217 fx_217_4 (by omega) ?_
    refine r_iload_n d_191_28 rfl ?_
    refine r_aload_n d_191_29 rfl (by omega) ?_
    refine r_getc (ki := 3) d_191_30 q_191_20 rfl sh_217 fx_217_3 (by omega) ?_
    refine r_bipush d_191_33 rfl ?_
    refine r_iload_n d_191_35 rfl ?_
    refine r_imul d_191_36 (by omega) ?_
    refine r_iload_n d_191_37 rfl ?_
    refine r_iadd d_191_38 (by omega) ?_
    refine r_ialoadv d_191_39 sh_220 (by omega) (by omega) (congrFun (sr_ne _ _ (by decide)) _) ?_
    refine r_iastore d_191_40 sh_221 (by omega) (by omega) ?_
    rw [up_sr]
    refine r_iinc d_191_41 rfl (by omega) (stl_4_3 rfl rfl) ?_
    refine r_goto (t := 18) d_191_44 rfl ?_
    refine ih _ (fun c' h1 h2 => ?_)
    by_cases hcc : c' = c
    · rw [hcc, u1_eq]
    · rw [u1_ne _ _ hcc]
      exact hf c' h1 (by omega)
