/-! The model: spaces. -/
theorem bitv {P i : Nat} (hP : P < 64) : (Int32.ofInt ((P / 2 ^ i : Nat) : Int) &&& Int32.ofInt 1).toInt = (bt P i : Int) := by
  have : P / 2 ^ i ≤ P := Nat.div_le_self _ _
  exact and1_ok (x := P / 2 ^ i) (by omega)
theorem m_freeOf (M : Mo) {P n : Nat} (hP : P < 16) (hn : n ≤ 4) : PI 193 [(2, 217), (0, (P : Int)), (0, (n : Int))] M (ix0 P n n : Nat) := by
  have h4 := ix0_4 hP hn
  refine Cl.intro (L := [(2, 217), (0, (P : Int)), (0, (n : Int)), (9, 0), (9, 0), (9, 0)]) (rcv_v ow_193.2.1 sh_217) (by unfold entl; rw [mx_193]; rfl) (by rw [mx_193]; exact Nat.le_of_ble_eq_true rfl) rfl ?_
  refine r_iconst d_193_0 rfl ?_
  refine r_istore_n d_193_1 rfl (stl_6_3 rfl rfl) ?_
  refine r_iconst d_193_2 rfl ?_
  refine r_istore d_193_3 rfl (stl_6_4 rfl rfl) ?_
  refine dn_ind (R := fun f => ∀ (s : Int) (y : AV), s = (ix0 P n f.toNat : Nat) → Rn 193 5 [(2, 217), (0, (P : Int)), (0, (n : Int)), (0, s), (0, f), y] [] M _) (lo := 0) (n := n) ?_ ?_ 0 (by omega) (by omega) 0 (9, 0) rfl
  · intro s y hs
    refine r_iload d_193_5 rfl ?_
    refine r_iload_n d_193_7 rfl ?_
    refine r_icmp_ge (t := 62) d_193_8 rfl (fun _ => ?_) (fun hz => absurd (by omega) hz)
    refine r_iload_n d_193_62 rfl ?_
    refine r_iret d_193_63 rt_193 ?_
    exact ⟨by rw [hs]; rfl, rfl⟩
  · intro f f1 f2 ih s y hs
    obtain ⟨k, rfl⟩ : ∃ k : Nat, f = k := ⟨f.toNat, by omega⟩
    rw [show ((k : Int)).toNat = k by omega] at hs
    rw [show ((k : Int) + 1).toNat = k + 1 by omega] at ih
    have hk1 := ix0_mono (P := P) (n := n) (i := k + 1) (j := n) (by omega)
    have hk2 : ix0 P n (k + 1) = ix0 P n k + if bt P k = 1 then cf P k n else 0 := rfl
    have hb := bt_01 P k
    refine r_iload d_193_5 rfl ?_
    refine r_iload_n d_193_7 rfl ?_
    refine r_icmp_ge (t := 62) d_193_8 rfl (fun hz => absurd hz (by omega)) (fun _ => ?_)
    refine r_iload d_193_11 rfl ?_
    refine r_iconst d_193_13 rfl ?_
    refine r_iadd d_193_14 (by omega) ?_
    refine r_istore d_193_15 rfl (stl_6_5 rfl rfl) ?_
    refine dn_ind (R := fun j => ∀ s : Int, s = ((ix0 P n k + if bt P k = 1 then cf P k j.toNat else 0 : Nat) : Int) → Rn 193 17 [(2, 217), (0, (P : Int)), (0, (n : Int)), (0, s), (0, (k : Int)), (0, j)] [] M _) (lo := (k : Int) + 1) (n := n) ?_ ?_ ((k : Int) + 1) (by omega) (by omega) s ?_
    · intro s hs
      rw [show ((n : Int)).toNat = n by omega] at hs
      refine r_iload d_193_17 rfl ?_
      refine r_iload_n d_193_19 rfl ?_
      refine r_icmp_ge (t := 56) d_193_20 rfl (fun _ => ?_) (fun hz => absurd (by omega) hz)
      refine r_iinc d_193_56 rfl (by omega) (stl_6_4 rfl rfl) ?_
      refine r_goto (t := 5) d_193_59 rfl ?_
      exact ih _ _ hs
    · intro j j1 j2 ihj s hs
      obtain ⟨l, rfl⟩ : ∃ l : Nat, j = l := ⟨j.toNat, by omega⟩
      rw [show ((l : Int)).toNat = l by omega] at hs
      rw [show ((l : Int) + 1).toNat = l + 1 by omega] at ihj
      have hc1 := cf_mono (P := P) (f := k) (i := l) (j := n) (by omega)
      have hc2 : cf P k (l + 1) = cf P k l + if k < l ∧ bt P l = 0 then 1 else 0 := rfl
      have hb2 := bt_01 P l
      refine r_iload d_193_17 rfl ?_
      refine r_iload_n d_193_19 rfl ?_
      refine r_icmp_ge (t := 56) d_193_20 rfl (fun hz => absurd hz (by omega)) (fun _ => ?_)
      refine r_iload_n d_193_23 rfl ?_
      refine r_iload_n d_193_24 rfl ?_
      refine r_iload d_193_25 rfl ?_
      refine r_ishr d_193_27 (shr_ok (by omega) (by omega)) ?_
      refine r_iconst d_193_28 rfl ?_
      refine r_iand d_193_29 (bitv (by omega)) ?_
      refine r_iconst d_193_30 rfl ?_
      refine r_icmp_ne (t := 47) d_193_31 rfl (fun h1 => ?_) (fun h1 => ?_)
      · rw [if_neg (by omega)] at hs
        refine r_iconst d_193_47 rfl ?_
        refine r_iadd d_193_48 (by omega) ?_
        refine r_istore_n d_193_49 rfl (stl_6_3 rfl rfl) ?_
        refine r_iinc d_193_50 rfl (by omega) (stl_6_5 rfl rfl) ?_
        refine r_goto (t := 17) d_193_53 rfl ?_
        exact ihj _ (by rw [if_neg (by omega)]; omega)
      · rw [if_pos (by omega)] at hs hk2
        refine r_iload_n d_193_34 rfl ?_
        refine r_iload d_193_35 rfl ?_
        refine r_ishr d_193_37 (shr_ok (by omega) (by omega)) ?_
        refine r_iconst d_193_38 rfl ?_
        refine r_iand d_193_39 (bitv (by omega)) ?_
        refine r_if_ne (t := 47) d_193_40 rfl (fun h2 => ?_) (fun h2 => ?_)
        · rw [if_neg (by omega)] at hc2
          refine r_iconst d_193_47 rfl ?_
          refine r_iadd d_193_48 (by omega) ?_
          refine r_istore_n d_193_49 rfl (stl_6_3 rfl rfl) ?_
          refine r_iinc d_193_50 rfl (by omega) (stl_6_5 rfl rfl) ?_
          refine r_goto (t := 17) d_193_53 rfl ?_
          exact ihj _ (by rw [if_pos (by omega)]; omega)
        · rw [if_pos (by omega)] at hc2
          refine r_iconst d_193_43 rfl ?_
          refine r_goto (t := 48) d_193_44 rfl ?_
          refine r_iadd d_193_48 (by omega) ?_
          refine r_istore_n d_193_49 rfl (stl_6_3 rfl rfl) ?_
          refine r_iinc d_193_50 rfl (by omega) (stl_6_5 rfl rfl) ?_
          refine r_goto (t := 17) d_193_53 rfl ?_
          exact ihj _ (by rw [if_pos (by omega)]; omega)
    · rw [hs, cf_lo (by omega)]
      split <;> omega
def W3 (x y : Int) : Prop := (x = 217 ∧ y = 7) ∨ x = 226 ∨ x = 227
theorem num_z {e n : Nat} {w : Vc e} (h : ∀ i, i < n → w i = 0) : num n w = 0 := by
  have : num n w = num n (z0 : Vc e) := by
    unfold num
    exact nu_congr (fun i hi => by rw [h i hi]; rfl)
  rw [this]
  have h2 := num_ext (e := e) (n := 0) (m := n) (w := z0) (fun i _ => rfl) (by omega)
  rw [h2]
  rfl
theorem m_tellsRows {e : Nat} (he : e ≤ 1) (M : Mo) (hp : M 217 1 = pI e) {P n : Nat} (hP : P < 16) (hn : n ≤ 4) {c : Int} (hc : 0 ≤ c ∧ c < 100000) : CV 192 [(2, 217), (0, (P : Int)), (0, c), (0, (n : Int))] M (fun M' => Fr W3 M M' ∧ M' 217 7 = (pcn P n : Nat) ∧ ∀ f : Nat, f < n → bt P f = 1 → M' 226 (pcn P f : Nat) = num n (frw e n P c f) ∧ M' 227 (pcn P f : Nat) = f) := by
  have h23 := pI23 he
  have hb := h23.b
  have h4 := ix0_4 hP hn
  have hp0 : ∀ k : Nat, 0 ≤ c / pI e ^ k ∧ c / pI e ^ k < 100000 := fun k => by
    have a1 := pw_pos h23 k
    have a2 := Int.ediv_nonneg hc.1 (by omega : 0 ≤ pI e ^ k)
    have a3 := Int.ediv_le_self (pI e ^ k) hc.1
    omega
  refine Cl.intro (L := [(2, 217), (0, (P : Int)), (0, c), (0, (n : Int)), (9, 0), (9, 0), (9, 0), (9, 0)]) (rcv_v ow_192.2.1 sh_217) (by unfold entl; rw [mx_192]; rfl) (by rw [mx_192]; exact Nat.le_of_ble_eq_true rfl) rfl ?_
  refine r_iload_n d_192_0 rfl ?_
  refine r_istore d_192_1 rfl (stl_8_4 rfl rfl) ?_
  refine r_aload_n d_192_3 rfl (by omega) ?_
  refine r_iconst d_192_4 rfl ?_
  refine r_putf (ki := 7) d_192_5 q_192_122 rfl sh_217 fx_217_7 ?_
  refine r_iconst d_192_8 rfl ?_
  refine r_istore d_192_9 rfl (stl_8_5 rfl rfl) ?_
  refine dn_ind (R := fun f => ∀ (M1 : Mo) (l : Int) (y z : AV), Fr W3 M M1 → l = c / pI e ^ ix0 P n f.toNat → M1 217 7 = (pcn P f.toNat : Nat) → (∀ f' : Nat, (f' : Int) < f → f' < n → bt P f' = 1 → M1 226 (pcn P f' : Nat) = num n (frw e n P c f') ∧ M1 227 (pcn P f' : Nat) = f') → Rn 192 11 [(2, 217), (0, (P : Int)), (0, c), (0, (n : Int)), (0, l), (0, f), y, z] [] M1 _) (lo := 0) (n := n) ?_ ?_ 0 (by omega) (by omega) (up2 M 217 7 0) c (9, 0) (9, 0) (fun x y hx => uq_ne (by unfold W3 at hx; omega)) (by show c = c / pI e ^ 0; rw [Int.pow_zero, Int.ediv_one]) uq_eq (fun f' z _ _ => by omega)
  · intro M1 l y z hF hl hd hr
    rw [show ((n : Int)).toNat = n by omega] at hd
    refine r_iload d_192_11 rfl ?_
    refine r_iload_n d_192_13 rfl ?_
    refine r_icmp_ge (t := 128) d_192_14 rfl (fun _ => ?_) (fun hz => absurd (by omega) hz)
    refine r_vret d_192_128 rt_192 ?_
    exact ⟨rfl, hF, hd, fun f h1 h2 => hr f (by omega) h1 h2⟩
  · intro f f1 f2 ih M1 l y z hF hl hd hr
    obtain ⟨k, rfl⟩ : ∃ k : Nat, f = k := ⟨f.toNat, by omega⟩
    rw [show ((k : Int)).toNat = k by omega] at hl hd
    rw [show ((k : Int) + 1).toNat = k + 1 by omega] at ih
    have hp1 : M1 217 1 = pI e := (hF _ _ (by unfold W3; omega)).trans hp
    have hbk := bt_01 P k
    have hk2 : ix0 P n (k + 1) = ix0 P n k + if bt P k = 1 then cf P k n else 0 := rfl
    have hpk : pcn P (k + 1) = pcn P k + bt P k := rfl
    have hpl := pcn_le (P := P) k
    have hl0 := hp0 (ix0 P n k)
    refine r_iload d_192_11 rfl ?_
    refine r_iload_n d_192_13 rfl ?_
    refine r_icmp_ge (t := 128) d_192_14 rfl (fun hz => absurd hz (by omega)) (fun _ => ?_)
    refine r_iload_n d_192_17 rfl ?_
    refine r_iload d_192_18 rfl ?_
    refine r_ishr d_192_20 (shr_ok (by omega) (by omega)) ?_
    refine r_iconst d_192_21 rfl ?_
    refine r_iand d_192_22 (bitv (by omega)) ?_
    refine r_iconst d_192_23 rfl ?_
    refine r_icmp_ne (t := 122) d_192_24 rfl (fun h1 => ?_) (fun h1 => ?_)
    · rw [if_neg (by omega)] at hk2
      refine r_iinc d_192_122 rfl (by omega) (stl_8_5 rfl rfl) ?_
      refine r_goto (t := 11) d_192_125 rfl ?_
      refine ih M1 _ _ _ hF (by rw [hk2, Nat.add_zero]; exact hl) (by rw [hpk, hd]; omega) (fun f' z1 z2 z3 => hr f' ?_ z2 z3)
      by_cases q : (f' : Int) < k
      · exact q
      · exfalso
        have : f' = k := by omega
        rw [this] at z3
        omega
    · have hb1 : bt P k = 1 := by omega
      rw [if_pos hb1] at hk2
      have hpw := m_power M1 hp1 h23 (k : Int) (by omega)
      rw [show ((k : Int)).toNat = k by omega] at hpw
      refine r_aload_n d_192_27 rfl (by omega) ?_
      refine r_iload d_192_28 rfl ?_
      refine r_callvp d_192_30 q_192_110 rfl rfl hpw ?_
      refine r_istore d_192_33 rfl (stl_8_6 rfl rfl) ?_
      refine r_iload d_192_35 rfl ?_
      refine r_iconst d_192_37 rfl ?_
      refine r_iadd d_192_38 (by omega) ?_
      refine r_istore d_192_39 rfl (stl_8_7 rfl rfl) ?_
      refine dn_ind (R := fun j => ∀ (l v : Int), l = c / pI e ^ (ix0 P n k + cf P k j.toNat) → v = num j.toNat (frw e n P c k) → Rn 192 41 [(2, 217), (0, (P : Int)), (0, c), (0, (n : Int)), (0, l), (0, (k : Int)), (0, v), (0, j)] [] M1 _) (lo := (k : Int) + 1) (n := n) ?_ ?_ ((k : Int) + 1) (by omega) (by omega) l (pI e ^ k) ?_ ?_
      · intro l v hl hv
        rw [show ((n : Int)).toNat = n by omega] at hl hv
        have hd2 : ∀ x i v, x = 226 ∨ x = 227 → up2 M1 x i v 217 7 = (pcn P k : Nat) := fun x i v hx => by rw [uq_ne (by omega)]; exact hd
        refine r_iload d_192_41 rfl ?_
        refine r_iload_n d_192_43 rfl ?_
        refine r_icmp_ge (t := 90) d_192_44 rfl (fun _ => ?_) (fun hz => absurd (by omega) hz)
        refine r_aload_n d_192_90 rfl (by omega) ?_
        refine r_getc (ki := 11) d_192_91 q_192_41 rfl sh_217 fx_217_11 (by omega) ?_
        refine r_aload_n d_192_94 rfl (by omega) ?_
        refine r_getfv (ki := 7) d_192_95 q_192_122 rfl sh_217 hd ?_
        refine r_iload d_192_98 rfl ?_
        refine r_iastore d_192_100 sh_226 (by omega) (by omega) ?_
        refine r_aload_n d_192_101 rfl (by omega) ?_
        refine r_getc (ki := 12) d_192_102 q_192_44 rfl sh_217 fx_217_12 (by omega) ?_
        refine r_aload_n d_192_105 rfl (by omega) ?_
        refine r_getfv (ki := 7) d_192_106 q_192_122 rfl sh_217 ((uq_ne (by omega)).trans hd) ?_
        refine r_iload d_192_109 rfl ?_
        refine r_iastore d_192_111 sh_227 (by omega) (by omega) ?_
        refine r_aload_n d_192_112 rfl (by omega) ?_
        refine r_dup d_192_113 rfl ?_
        refine r_getfv (ki := 7) d_192_114 q_192_122 rfl sh_217 ((uq_ne (by omega)).trans ((uq_ne (by omega)).trans hd)) ?_
        refine r_iconst d_192_117 rfl ?_
        refine r_iadd d_192_118 (by omega) ?_
        refine r_putf (ki := 7) d_192_119 q_192_122 rfl sh_217 fx_217_7 ?_
        refine r_iinc d_192_122 rfl (by omega) (stl_8_5 rfl rfl) ?_
        refine r_goto (t := 11) d_192_125 rfl ?_
        refine ih _ _ _ _ (fun x y hx => ?_) (by rw [hk2]; exact hl) (by rw [uq_eq, hpk, hb1]; omega) (fun f' z1 z2 z3 => ?_)
        · unfold W3 at hx
          rw [uq_ne (by omega), uq_ne (by omega), uq_ne (by omega)]
          exact hF x y (by unfold W3; omega)
        · by_cases hk : f' = k
          · subst hk
            refine ⟨?_, ?_⟩
            · rw [uq_ne (by omega), uq_ne (by omega), uq_eq, hv]
            · rw [uq_ne (by omega), uq_eq]
          · have hlt : pcn P f' < pcn P k := by
              have hstep : pcn P (f' + 1) = pcn P f' + bt P f' := rfl
              have hmono : ∀ {a b : Nat}, a ≤ b → pcn P a ≤ pcn P b := by
                intro a b
                induction b with
                | zero => intro h; rw [Nat.le_zero.mp h]; exact Nat.le_refl _
                | succ b ihb =>
                  intro h
                  by_cases q : a = b + 1
                  · rw [q]; exact Nat.le_refl _
                  · have := ihb (by omega)
                    show pcn P a ≤ pcn P b + bt P b
                    omega
              have := hmono (show f' + 1 ≤ k by omega)
              omega
            rw [uq_ne (by omega), uq_ne (by omega), uq_ne (by omega), uq_ne (by omega), uq_ne (by omega), uq_ne (by omega)]
            exact hr f' (by omega) z2 z3
      · intro j j1 j2 ihj l v hl hv
        obtain ⟨m, rfl⟩ : ∃ m : Nat, j = m := ⟨j.toNat, by omega⟩
        rw [show ((m : Int)).toNat = m by omega] at hl hv
        rw [show ((m : Int) + 1).toNat = m + 1 by omega] at ihj
        have hbm := bt_01 P m
        have hc2 : cf P k (m + 1) = cf P k m + if k < m ∧ bt P m = 0 then 1 else 0 := rfl
        have hnr := num_rng he m (frw e n P c k)
        have hm6 := pw_6 h23 (n := m) (by omega)
        have hm0 := pw_pos h23 m
        have hns : num (m + 1) (frw e n P c k) = num m (frw e n P c k) + vl (frw e n P c k m) * pI e ^ m := rfl
        have hl1 := hp0 (ix0 P n k + cf P k m)
        refine r_iload d_192_41 rfl ?_
        refine r_iload_n d_192_43 rfl ?_
        refine r_icmp_ge (t := 90) d_192_44 rfl (fun hz => absurd hz (by omega)) (fun _ => ?_)
        refine r_iload_n d_192_47 rfl ?_
        refine r_iload d_192_48 rfl ?_
        refine r_ishr d_192_50 (shr_ok (by omega) (by omega)) ?_
        refine r_iconst d_192_51 rfl ?_
        refine r_iand d_192_52 (bitv (by omega)) ?_
        refine r_if_ne (t := 84) d_192_53 rfl (fun h2 => ?_) (fun h2 => ?_)
        · rw [if_neg (by omega)] at hc2
          have e0 : frw e n P c k m = 0 := by
            unfold frw
            rw [if_neg (by omega), if_neg (by omega)]
          refine r_iinc d_192_84 rfl (by omega) (stl_8_7 rfl rfl) ?_
          refine r_goto (t := 41) d_192_87 rfl ?_
          refine ihj _ _ (by rw [hc2, Nat.add_zero]; exact hl) ?_
          rw [hns, e0, vl_0, hv]
          omega
        · rw [if_pos (by omega)] at hc2
          have e0 : vl (frw e n P c k m) = l % pI e := by
            unfold frw
            rw [if_neg (by omega), if_pos (by omega), vl_kI]
            unfold dg
            rw [Int.emod_emod, ← hl]
          have hem := emb (x := l) h23
          have hpw2 := m_power M1 hp1 h23 (m : Int) (by omega)
          rw [show ((m : Int)).toNat = m by omega] at hpw2
          have hmb := mb (x := l % pI e) (y := pI e ^ m) (a := 2) (b := 729) (by omega) (by omega)
          refine r_iload d_192_56 rfl ?_
          refine r_iload d_192_58 rfl ?_
          refine r_aload_n d_192_60 rfl (by omega) ?_
          refine r_getfv (ki := 1) d_192_61 q_192_13 rfl sh_217 hp1 ?_
          refine r_iremn d_192_64 (by omega) (by omega) ?_
          refine r_aload_n d_192_65 rfl (by omega) ?_
          refine r_iload d_192_66 rfl ?_
          refine r_callvp d_192_68 q_192_110 rfl rfl hpw2 ?_
          refine r_imul d_192_71 (by omega) ?_
          refine r_iadd d_192_72 (by omega) ?_
          refine r_istore d_192_73 rfl (stl_8_6 rfl rfl) ?_
          refine r_iload d_192_75 rfl ?_
          refine r_aload_n d_192_77 rfl (by omega) ?_
          refine r_getfv (ki := 1) d_192_78 q_192_13 rfl sh_217 hp1 ?_
          refine r_idivn d_192_81 (by omega) (by omega) ?_
          refine r_istore d_192_82 rfl (stl_8_4 rfl rfl) ?_
          refine r_iinc d_192_84 rfl (by omega) (stl_8_7 rfl rfl) ?_
          refine r_goto (t := 41) d_192_87 rfl ?_
          refine ihj _ _ ?_ ?_
          · rw [hc2, ← Nat.add_assoc, ediv_pw h23, ← hl]
          · rw [hns, e0, hv]
      · rw [show ((k : Int) + 1).toNat = k + 1 by omega, cf_lo (by omega), Nat.add_zero]
        exact hl
      · rw [show ((k : Int) + 1).toNat = k + 1 by omega]
        show _ = num k (frw e n P c k) + vl (frw e n P c k k) * pI e ^ k
        have e0 : frw e n P c k k = 1 := by
          unfold frw
          rw [if_pos rfl]
        rw [num_z (fun i hi => frw_fp.2 i hi), e0, vl_1]
        omega
theorem m_without2 {e : Nat} (he : e ≤ 1) (M : Mo) (hp : M 217 1 = pI e) {n : Nat} (hnb : nb e n) {S : Vc e → Prop} (hS : Sub n S) (hR : ∀ d : Nat, d < dm n S → M 226 d = num n (crow S (pl (Lp S) d)) ∧ M 227 d = (pl (Lp S) d : Nat)) (hd : M 217 7 = dm n S) {v : Vc e} (hv : sup n v) : PI 149 [(2, 217), (0, num n v)] M (num n (wo n S v)) := by
  refine Cl.intro (L := [(2, 217), (0, num n v), (9, 0), (9, 0), (9, 0)]) (rcv_v ow_149.2.1 sh_217) (by unfold entl; rw [mx_149]; rfl) (by rw [mx_149]; exact Nat.le_of_ble_eq_true rfl) rfl ?_
  have hn6 : n ≤ 6 := by unfold nb at hnb; omega
  have hdn := dm_le (n := n) S
  have hb := (pI23 he).b
  refine r_iload_n d_149_0 rfl ?_
  refine r_istore_n d_149_1 rfl (stl_5_2 rfl rfl) ?_
  refine r_iconst d_149_2 rfl ?_
  refine r_istore_n d_149_3 rfl (stl_5_3 rfl rfl) ?_
  refine dn_ind (R := fun r => ∀ y, Rn 149 4 [(2, 217), (0, num n v), (0, num n (wos S v r.toNat)), (0, r), y] [] M _) (lo := 0) (n := (dm n S : Int)) ?_ ?_ 0 (by omega) (by omega) _
  · intro y
    refine r_iload_n d_149_4 rfl ?_
    refine r_aload_n d_149_5 rfl (by omega) ?_
    refine r_getfv (ki := 7) d_149_6 q_149_122 rfl sh_217 hd ?_
    refine r_icmp_ge (t := 50) d_149_9 rfl (fun _ => ?_) (fun hz => absurd (by omega) hz)
    refine r_iload_n d_149_50 rfl ?_
    refine r_iret d_149_51 rt_149 ?_
    exact ⟨rfl, rfl⟩
  · intro r r1 r2 ih y
    have hri := hR r.toNat (by omega)
    rw [show ((r.toNat : Nat) : Int) = r by omega] at hri
    have hL := (pl_spec (show r.toNat < dm n S by omega)).1
    have hpl : pl (Lp S) r.toNat < n := pl_lt (show r.toNat < dm n S by omega)
    have hvr := vl_rng (v (pl (Lp S) r.toNat))
    have hpk := m_plusK he M hp hnb (wos_sup he hS hv (r := r.toNat) (by omega)) (crow_sup he hS hL) (c := pI e - vl (v (pl (Lp S) r.toNat))) (by omega)
    rw [kI_neg] at hpk
    refine r_iload_n d_149_4 rfl ?_
    refine r_aload_n d_149_5 rfl (by omega) ?_
    refine r_getfv (ki := 7) d_149_6 q_149_122 rfl sh_217 hd ?_
    refine r_icmp_ge (t := 50) d_149_9 rfl (fun hz => absurd hz (by omega)) (fun _ => ?_)
    refine r_aload_n d_149_12 rfl (by omega) ?_
    refine r_iload_n d_149_13 rfl ?_
    refine r_aload_n d_149_14 rfl (by omega) ?_
    refine r_getc (ki := 12) d_149_15 q_149_44 rfl sh_217 fx_217_12 (by omega) ?_
    refine r_iload_n d_149_18 rfl ?_
    refine r_ialoadv d_149_19 sh_227 (by omega) (by omega) hri.2 ?_
    refine r_callvp d_149_20 q_149_142 rfl rfl (m_figK he M hp hnb v rfl hpl) ?_
    refine r_istore d_149_23 rfl (stl_5_4 rfl rfl) ?_
    refine r_aload_n d_149_25 rfl (by omega) ?_
    refine r_iload_n d_149_26 rfl ?_
    refine r_aload_n d_149_27 rfl (by omega) ?_
    refine r_getc (ki := 11) d_149_28 q_149_41 rfl sh_217 fx_217_11 (by omega) ?_
    refine r_iload_n d_149_31 rfl ?_
    refine r_ialoadv d_149_32 sh_226 (by omega) (by omega) hri.1 ?_
    refine r_aload_n d_149_33 rfl (by omega) ?_
    refine r_getfv (ki := 1) d_149_34 q_149_13 rfl sh_217 hp ?_
    refine r_iload d_149_37 rfl ?_
    refine r_isub d_149_39 (by omega) ?_
    refine r_callvp d_149_40 q_149_125 rfl rfl hpk ?_
    refine r_istore_n d_149_43 rfl (stl_5_2 rfl rfl) ?_
    refine r_iinc d_149_44 rfl (by omega) (stl_5_3 rfl rfl) ?_
    refine r_goto (t := 4) d_149_47 rfl ?_
    have k3 := ih (0, vl (v (pl (Lp S) r.toNat)))
    rw [show (r + 1).toNat = r.toNat + 1 by omega] at k3
    exact k3
theorem m_areKept {e : Nat} (he : e ≤ 1) {M : Mo} (hp : M 217 1 = pI e) {k : Int} {n : Nat} {A : Nat → Nat → Nat → Kf e} (hk : 0 ≤ k ∧ k ≤ 10) (hM : MM e M k n A) {P : Nat} {c : Int} (hd : M 217 7 = (pcn P n : Nat)) (hr : ∀ f : Nat, f < n → bt P f = 1 → M 226 (pcn P f : Nat) = num n (frw e n P c f) ∧ M 227 (pcn P f : Nat) = f) : PI 194 [(2, 217), (0, k)] M (ifp (kin n A P c) 1 0) := by
  have hnb := hM.2.1
  have hn6 : n ≤ 6 := by unfold nb at hnb; omega
  have hpl := pcn_le (P := P) n
  have hdm : dm n (fS e n P c) = pcn P n := fS_dm
  have hsub : Sub n (fS e n P c) := fS_sub
  have hR : ∀ d : Nat, d < dm n (fS e n P c) → M 226 d = num n (crow (fS e n P c) (pl (Lp (fS e n P c)) d)) ∧ M 227 d = (pl (Lp (fS e n P c)) d : Nat) := fun d hd2 => by
    obtain ⟨p1, p2⟩ := pl_spec (P := Lp (fS e n P c)) (n := n) hd2
    obtain ⟨q1, q2⟩ := fS_Lp.mp p1
    have h1 := hr _ q1 q2
    rw [← fS_cnt (e := e) (c := c) (Nat.le_of_lt q1), p2] at h1
    rw [fS_crow he q1 q2]
    exact h1
  have hone : ∀ d : Nat, d < pcn P n → ∀ g : Nat, g < 2 → PI 149 [(2, 217), (0, num n (mv n (A g) (crow (fS e n P c) (pl (Lp (fS e n P c)) d))))] M (num n (wo n (fS e n P c) (mv n (A g) (crow (fS e n P c) (pl (Lp (fS e n P c)) d))))) := fun d hd2 g hg => m_without2 he M hp hnb hsub hR (by rw [hd, hdm]) sup_mv
  have hzero : ∀ x : Vc e, sup n x → (num n (wo n (fS e n P c) x) = 0 ↔ fS e n P c x) := fun x hx => by
    rw [wo_rd he hsub, num_eq0 he (show sup n (rd n (fS e n P c) x) from rds_sup he hsub hx n)]
    exact rd_z0 he hsub (fun i hi => Lp_lt hsub hi)
  refine Cl.intro (L := [(2, 217), (0, k), (9, 0), (9, 0)]) (rcv_v ow_194.2.1 sh_217) (by unfold entl; rw [mx_194]; rfl) (by rw [mx_194]; exact Nat.le_of_ble_eq_true rfl) rfl ?_
  refine r_iconst d_194_0 rfl ?_
  refine r_istore_n d_194_1 rfl (stl_4_2 rfl rfl) ?_
  refine r_iconst d_194_2 rfl ?_
  refine r_istore_n d_194_3 rfl (stl_4_3 rfl rfl) ?_
  refine dn_ind (R := fun t => ∀ b : Int, b = ifp (∀ t' : Nat, (t' : Int) < t → fS e n P c (mv n (A (t' % 2)) (crow (fS e n P c) (pl (Lp (fS e n P c)) (t' / 2))))) 1 0 → Rn 194 4 [(2, 217), (0, k), (0, b), (0, t)] [] M _) (lo := 0) (n := 2 * (pcn P n : Nat)) ?_ ?_ 0 (by omega) (by omega) 1 ?_
  · intro b hb
    have e1 : b = ifp (kin n A P c) 1 0 := by
      rw [hb]
      by_cases q : kin n A P c
      · rw [ifp_t q, ifp_t]
        intro t' ht'
        obtain ⟨p1, p2⟩ := pl_spec (P := Lp (fS e n P c)) (n := n) (d := t' / 2) (show t' / 2 < dm n (fS e n P c) by omega)
        obtain ⟨q1, q2⟩ := fS_Lp.mp p1
        rw [fS_crow he q1 q2]
        exact q _ q1 q2 _ (Nat.mod_lt _ (by omega))
      · rw [ifp_f q, ifp_f]
        intro z
        apply q
        intro f hf hb2 g hg
        have hL : Lp (fS e n P c) f := fS_Lp.mpr ⟨hf, hb2⟩
        have hc := cnt_lt (P := Lp (fS e n P c)) hf hL
        have hc2 : cnt (Lp (fS e n P c)) n = pcn P n := hdm
        have h1 := z (2 * cnt (Lp (fS e n P c)) f + g) (by omega)
        rw [show (2 * cnt (Lp (fS e n P c)) f + g) % 2 = g by omega, show (2 * cnt (Lp (fS e n P c)) f + g) / 2 = cnt (Lp (fS e n P c)) f by omega, pl_cnt hL, fS_crow he hf hb2] at h1
        exact h1
    have hb01 : b = 0 ∨ b = 1 := by
      rw [hb]
      by_cases q : (∀ t' : Nat, (t' : Int) < 2 * ((pcn P n : Nat) : Int) → fS e n P c (mv n (A (t' % 2)) (crow (fS e n P c) (pl (Lp (fS e n P c)) (t' / 2)))))
      · rw [ifp_t q]; exact Or.inr rfl
      · rw [ifp_f q]; exact Or.inl rfl
    refine r_iload_n d_194_4 rfl ?_
    refine r_iconst d_194_5 rfl ?_
    refine r_aload_n d_194_6 rfl (by omega) ?_
    refine r_getfv (ki := 7) d_194_7 q_194_122 rfl sh_217 hd ?_
    refine r_imul d_194_10 (by omega) ?_
    refine r_icmp_ge (t := 53) d_194_11 rfl (fun _ => ?_) (fun hz => absurd (by omega) hz)
    refine r_iload_n d_194_53 rfl ?_
    refine r_zret d_194_54 rt_194 hb01 ?_
    exact ⟨by rw [e1], rfl⟩
  · intro t t1 t2 ih b hb
    obtain ⟨m, rfl⟩ : ∃ m : Nat, t = m := ⟨t.toNat, by omega⟩
    have hrow := (hR (m / 2) (by omega)).1
    rw [show (((m / 2 : Nat)) : Int) = (m : Int) / 2 by omega] at hrow
    have hmv := m_moves he M hp hk hM (g := (m : Int) % 2) (gn := m % 2) (by omega) (Nat.mod_lt _ (by omega)) (crow (fS e n P c) (pl (Lp (fS e n P c)) (m / 2)))
    have hw := hone (m / 2) (by omega) (m % 2) (Nat.mod_lt _ (by omega))
    have hz := hzero _ (sup_mv (n := n) (A := A (m % 2)) (v := crow (fS e n P c) (pl (Lp (fS e n P c)) (m / 2))))
    have hsplit : (∀ t' : Nat, (t' : Int) < (m : Int) + 1 → fS e n P c (mv n (A (t' % 2)) (crow (fS e n P c) (pl (Lp (fS e n P c)) (t' / 2))))) ↔ (∀ t' : Nat, (t' : Int) < (m : Int) → fS e n P c (mv n (A (t' % 2)) (crow (fS e n P c) (pl (Lp (fS e n P c)) (t' / 2))))) ∧ fS e n P c (mv n (A (m % 2)) (crow (fS e n P c) (pl (Lp (fS e n P c)) (m / 2)))) := by
      constructor
      · intro h
        exact ⟨fun t' h2 => h t' (by omega), h m (by omega)⟩
      · rintro ⟨h1, h2⟩ t' h3
        by_cases q : t' = m
        · rw [q]; exact h2
        · exact h1 t' (by omega)
    refine r_iload_n d_194_4 rfl ?_
    refine r_iconst d_194_5 rfl ?_
    refine r_aload_n d_194_6 rfl (by omega) ?_
    refine r_getfv (ki := 7) d_194_7 q_194_122 rfl sh_217 hd ?_
    refine r_imul d_194_10 (by omega) ?_
    refine r_icmp_ge (t := 53) d_194_11 rfl (fun hz => absurd hz (by omega)) (fun _ => ?_)
    by_cases q : ∀ t' : Nat, (t' : Int) < (m : Int) → fS e n P c (mv n (A (t' % 2)) (crow (fS e n P c) (pl (Lp (fS e n P c)) (t' / 2))))
    · rw [ifp_t q] at hb
      subst hb
      refine r_iload_n d_194_14 rfl ?_
      refine r_if_eq (t := 45) d_194_15 rfl (fun hz => absurd hz (by decide)) (fun _ => ?_)
      refine r_aload_n d_194_18 rfl (by omega) ?_
      refine r_aload_n d_194_19 rfl (by omega) ?_
      refine r_iload_n d_194_20 rfl ?_
      refine r_iload_n d_194_21 rfl ?_
      refine r_iconst d_194_22 rfl ?_
      refine r_iremn d_194_23 (by omega) (by omega) ?_
      refine r_aload_n d_194_24 rfl (by omega) ?_
      refine r_getc (ki := 11) d_194_25 q_194_41 rfl sh_217 fx_217_11 (by omega) ?_
      refine r_iload_n d_194_28 rfl ?_
      refine r_iconst d_194_29 rfl ?_
      refine r_idivn d_194_30 (by omega) (by omega) ?_
      refine r_ialoadv d_194_31 sh_226 (by omega) (by omega) hrow ?_
      refine r_callvp d_194_32 q_194_133 rfl rfl hmv ?_
      refine r_callvp d_194_35 q_194_162 rfl rfl hw ?_
      refine r_if_ne (t := 45) d_194_38 rfl (fun h0 => ?_) (fun h0 => ?_)
      · refine r_iconst d_194_45 rfl ?_
        refine r_istore_n d_194_46 rfl (stl_4_2 rfl rfl) ?_
        refine r_iinc d_194_47 rfl (by omega) (stl_4_3 rfl rfl) ?_
        refine r_goto (t := 4) d_194_50 rfl ?_
        exact ih _ (by rw [ifp_f (fun z => h0 (hz.mpr (hsplit.mp z).2))])
      · refine r_iconst d_194_41 rfl ?_
        refine r_goto (t := 46) d_194_42 rfl ?_
        refine r_istore_n d_194_46 rfl (stl_4_2 rfl rfl) ?_
        refine r_iinc d_194_47 rfl (by omega) (stl_4_3 rfl rfl) ?_
        refine r_goto (t := 4) d_194_50 rfl ?_
        exact ih _ (by rw [ifp_t (hsplit.mpr ⟨q, hz.mp (by omega)⟩)])
    · rw [ifp_f q] at hb
      subst hb
      refine r_iload_n d_194_14 rfl ?_
      refine r_if_eq (t := 45) d_194_15 rfl (fun _ => ?_) (fun hz => absurd rfl hz)
      refine r_iconst d_194_45 rfl ?_
      refine r_istore_n d_194_46 rfl (stl_4_2 rfl rfl) ?_
      refine r_iinc d_194_47 rfl (by omega) (stl_4_3 rfl rfl) ?_
      refine r_goto (t := 4) d_194_50 rfl ?_
      exact ih _ (by rw [ifp_f (fun z => q (hsplit.mp z).1)])
  · rw [ifp_t (fun t' h => by omega)]
theorem m_spaces_bad (M : Mo) (hb : cb M) {k d : Int} (h : ¬ ((0 ≤ k ∧ k ≤ 3) ∧ 0 ≤ d ∧ d ≤ 6)) : PJ 195 [(2, 217), (0, k), (0, d)] M (-2) (up2 M 218 0 (M 218 0 + 1)) := by
  have hbad := m_bad M (hb 0 (by omega) (by omega))
  refine Cl.intro (L := [(2, 217), (0, k), (0, d), (9, 0), (9, 0), (9, 0), (9, 0), (9, 0)]) (rcv_v ow_195.2.1 sh_217) (by unfold entl; rw [mx_195]; rfl) (by rw [mx_195]; exact Nat.le_of_ble_eq_true rfl) rfl ?_
  have key : Rn 195 17 [(2, 217), (0, k), (0, d), (9, 0), (9, 0), (9, 0), (9, 0), (9, 0)] [] M (fun v M' => v = some (0, -2) ∧ M' = up2 M 218 0 (M 218 0 + 1)) := by
    refine r_aload_n d_195_17 rfl (by omega) ?_
    refine r_callvj d_195_18 q_195_172 rfl rfl hbad ?_
    refine r_iret d_195_21 rt_195 ?_
    exact ⟨rfl, rfl⟩
  refine r_iload_n d_195_0 rfl ?_
  refine r_callsp d_195_1 q_195_178 rfl rfl (m_isModule M k) ?_
  by_cases hk : 0 ≤ k ∧ k ≤ 3
  · rw [if_pos hk]
    refine r_if_eq (t := 17) d_195_4 rfl (fun hz => absurd hz (by decide)) (fun _ => ?_)
    refine r_iload_n d_195_7 rfl ?_
    refine r_iconst d_195_8 rfl ?_
    refine r_bipush d_195_9 rfl ?_
    refine r_callsp d_195_11 q_195_118 rfl rfl (m_in M d 0 6) ?_
    rw [if_neg (fun q => h ⟨hk, q⟩)]
    refine r_if_ne (t := 22) d_195_14 rfl (fun hz => absurd hz (fun q => q rfl)) (fun _ => ?_)
    exact key
  · rw [if_neg hk]
    refine r_if_eq (t := 17) d_195_4 rfl (fun _ => ?_) (fun hz => absurd rfl hz)
    exact key
theorem m_spaces_no (M : Mo) (hb : cb M) {s : Sst} (hc : cu M s) {k : Nat} {d : Int} (hk : k < 4) (hd : 0 ≤ d ∧ d ≤ 6) (h4 : 4 < s.2.1 k) : PJ 195 [(2, 217), (0, (k : Int)), (0, d)] M (-3) (up2 M 218 1 (M 218 1 + 1)) := by
  have hno := m_no M (hb 1 (by omega) (by omega))
  refine Cl.intro (L := [(2, 217), (0, (k : Int)), (0, d), (9, 0), (9, 0), (9, 0), (9, 0), (9, 0)]) (rcv_v ow_195.2.1 sh_217) (by unfold entl; rw [mx_195]; rfl) (by rw [mx_195]; exact Nat.le_of_ble_eq_true rfl) rfl ?_
  refine r_iload_n d_195_0 rfl ?_
  refine r_callsp d_195_1 q_195_178 rfl rfl (m_isModule M k) ?_
  rw [if_pos (by omega)]
  refine r_if_eq (t := 17) d_195_4 rfl (fun hz => absurd hz (by decide)) (fun _ => ?_)
  refine r_iload_n d_195_7 rfl ?_
  refine r_iconst d_195_8 rfl ?_
  refine r_bipush d_195_9 rfl ?_
  refine r_callsp d_195_11 q_195_118 rfl rfl (m_in M d 0 6) ?_
  rw [if_pos hd]
  refine r_if_ne (t := 22) d_195_14 rfl (fun _ => ?_) (fun hz => absurd (by decide) hz)
  refine r_aload_n d_195_22 rfl (by omega) ?_
  refine r_getc (ki := 2) d_195_23 q_195_17 rfl sh_217 fx_217_2 (by omega) ?_
  refine r_iload_n d_195_26 rfl ?_
  refine r_ialoadv d_195_27 sh_219 (by omega) (by omega) (hc.2 k hk).1 ?_
  refine r_istore_n d_195_28 rfl (stl_8_3 rfl rfl) ?_
  refine r_iload_n d_195_29 rfl ?_
  refine r_iconst d_195_30 rfl ?_
  refine r_icmp_le (t := 39) d_195_31 rfl (fun hz => absurd hz (by omega)) (fun _ => ?_)
  refine r_aload_n d_195_34 rfl (by omega) ?_
  refine r_callvj d_195_35 q_195_168 rfl rfl hno ?_
  refine r_iret d_195_38 rt_195 ?_
  exact ⟨rfl, rfl⟩
theorem p2_16 {n : Nat} (hn : n ≤ 4) : 2 ^ n ≤ 16 := by
  have := Nat.pow_le_pow_right (show 0 < 2 by decide) hn
  omega
theorem m_spaces {M : Mo} {s : Sst} (hv : vs s) (hc : cu M s) {k : Nat} {d : Int} (hk : k < 4) (hd : 0 ≤ d ∧ d ≤ 6) (h4 : s.2.1 k ≤ 4) : CI 195 [(2, 217), (0, (k : Int)), (0, d)] M (fun z M' => z = spcN (s.2.1 k) (mdA s k) d ∧ Fr W1 M M') := by
  have h23 := pI23 hv.1
  have hb := h23.b
  have h16 := p2_16 h4
  generalize hn : s.2.1 k = n at h4 h16
  have hM : MM s.1 M k n (mdA s k) := by
    have := hc.MM hv hk
    rw [hn] at this
    exact this
  have hW : ∀ x y, W3 x y → W1 x y := fun x y q => by unfold W3 at q; unfold W1; omega
  refine Cl.intro (L := [(2, 217), (0, (k : Int)), (0, d), (9, 0), (9, 0), (9, 0), (9, 0), (9, 0)]) (rcv_v ow_195.2.1 sh_217) (by unfold entl; rw [mx_195]; rfl) (by rw [mx_195]; exact Nat.le_of_ble_eq_true rfl) rfl ?_
  refine r_iload_n d_195_0 rfl ?_
  refine r_callsp d_195_1 q_195_178 rfl rfl (m_isModule M k) ?_
  rw [if_pos (by omega)]
  refine r_if_eq (t := 17) d_195_4 rfl (fun hz => absurd hz (by decide)) (fun _ => ?_)
  refine r_iload_n d_195_7 rfl ?_
  refine r_iconst d_195_8 rfl ?_
  refine r_bipush d_195_9 rfl ?_
  refine r_callsp d_195_11 q_195_118 rfl rfl (m_in M d 0 6) ?_
  rw [if_pos hd]
  refine r_if_ne (t := 22) d_195_14 rfl (fun _ => ?_) (fun hz => absurd (by decide) hz)
  refine r_aload_n d_195_22 rfl (by omega) ?_
  refine r_getc (ki := 2) d_195_23 q_195_17 rfl sh_217 fx_217_2 (by omega) ?_
  refine r_iload_n d_195_26 rfl ?_
  refine r_ialoadv d_195_27 sh_219 (by omega) (by omega) hM.1 ?_
  refine r_istore_n d_195_28 rfl (stl_8_3 rfl rfl) ?_
  refine r_iload_n d_195_29 rfl ?_
  refine r_iconst d_195_30 rfl ?_
  refine r_icmp_le (t := 39) d_195_31 rfl (fun _ => ?_) (fun hz => absurd (by omega) hz)
  refine r_iconst d_195_39 rfl ?_
  refine r_istore d_195_40 rfl (stl_8_4 rfl rfl) ?_
  refine r_iconst d_195_42 rfl ?_
  refine r_istore d_195_43 rfl (stl_8_5 rfl rfl) ?_
  refine dn_ind (R := fun q => ∀ (M1 : Mo) (t : Int) (y z : AV), Fr W3 M M1 → t = sm (fun P => if (pcn P n : Int) = d then spcI n (mdA s k) P else 0) q.toNat → 0 ≤ t ∧ t ≤ 81 * q → Rn 195 45 [(2, 217), (0, (k : Int)), (0, d), (0, (n : Int)), (0, t), (0, q), y, z] [] M1 _) (lo := 0) (n := ((2 ^ n : Nat) : Int)) ?_ ?_ 0 (by omega) (Int.natCast_nonneg _) M 0 (9, 0) (9, 0) Fr.refl rfl (by omega)
  · intro M1 t y z hF ht hbt
    rw [show (((2 ^ n : Nat) : Int)).toNat = 2 ^ n by omega] at ht
    refine r_iload d_195_45 rfl ?_
    refine r_iconst d_195_47 rfl ?_
    refine r_iload_n d_195_48 rfl ?_
    refine r_ishl d_195_49 (shl_ok (by omega)) ?_
    refine r_icmp_ge (t := 123) d_195_50 rfl (fun _ => ?_) (fun hz => absurd (by omega) hz)
    refine r_iload d_195_123 rfl ?_
    refine r_iret d_195_125 rt_195 ?_
    exact ⟨_, rfl, ht, hF.mono hW⟩
  · intro q q1 q2 ih M1 t y z hF ht hbt
    obtain ⟨P, rfl⟩ : ∃ P : Nat, q = P := ⟨q.toNat, by omega⟩
    rw [show ((P : Int)).toNat = P by omega] at ht
    rw [show ((P : Int) + 1).toNat = P + 1 by omega] at ih
    have hP16 : P < 16 := by omega
    have hp1 : M1 217 1 = pI s.1 := (hF _ _ (by unfold W3; omega)).trans hc.1
    have hi4 := ix0_4 hP16 h4
    have hpw := m_power M1 hp1 h23 (ix0 P n n : Nat) (by omega)
    rw [show ((ix0 P n n : Nat) : Int).toNat = ix0 P n n by omega] at hpw
    have hpp := pw_pos h23 (ix0 P n n)
    have hp4 := pw_le h23 hi4
    have hp81 : pI s.1 ^ 4 ≤ 81 := by rcases h23 with h | h <;> rw [h] <;> decide
    refine r_iload d_195_45 rfl ?_
    refine r_iconst d_195_47 rfl ?_
    refine r_iload_n d_195_48 rfl ?_
    refine r_ishl d_195_49 (shl_ok (by omega)) ?_
    refine r_icmp_ge (t := 123) d_195_50 rfl (fun hz => absurd hz (by omega)) (fun _ => ?_)
    refine r_aload_n d_195_53 rfl (by omega) ?_
    refine r_aload_n d_195_54 rfl (by omega) ?_
    refine r_iload d_195_55 rfl ?_
    refine r_iload_n d_195_57 rfl ?_
    refine r_callvp d_195_58 q_195_266 rfl rfl (m_freeOf M1 hP16 h4) ?_
    refine r_callvp d_195_61 q_195_110 rfl rfl hpw ?_
    refine r_istore d_195_64 rfl (stl_8_6 rfl rfl) ?_
    refine r_iconst d_195_66 rfl ?_
    refine r_istore d_195_67 rfl (stl_8_7 rfl rfl) ?_
    refine dn_ind (R := fun c => ∀ (M1 : Mo) (t' : Int), Fr W3 M M1 → t' = t + (if (pcn P n : Int) = d then sm (fun c => ifp (kin n (mdA s k) P c) (1 : Int) 0) c.toNat else 0) → Rn 195 69 [(2, 217), (0, (k : Int)), (0, d), (0, (n : Int)), (0, t'), (0, (P : Int)), (0, pI s.1 ^ ix0 P n n), (0, c)] [] M1 _) (lo := 0) (n := pI s.1 ^ ix0 P n n) ?_ ?_ 0 (by omega) (by omega) M1 t hF (by rw [show sm (fun c => ifp (kin n (mdA s k) P c) (1 : Int) 0) (Int.toNat 0) = 0 from rfl]; split <;> omega)
    · intro M1 t' hF ht'
      have hr := spcI_rng (e := s.1) hv.1 (A := mdA s k) hP16 h4 _ (Nat.le_refl _)
      refine r_iload d_195_69 rfl ?_
      refine r_iload d_195_71 rfl ?_
      refine r_icmp_ge (t := 117) d_195_73 rfl (fun _ => ?_) (fun hz => absurd (by omega) hz)
      refine r_iinc d_195_117 rfl (by omega) (stl_8_5 rfl rfl) ?_
      refine r_goto (t := 45) d_195_120 rfl ?_
      refine ih M1 t' _ _ hF ?_ ?_
      · rw [ht', ht]
        rfl
      · rw [ht']
        split <;> omega
    · intro c c1 c2 ihc M1 t' hF ht'
      have hp1 : M1 217 1 = pI s.1 := (hF _ _ (by unfold W3; omega)).trans hc.1
      have hr := spcI_rng (e := s.1) hv.1 (A := mdA s k) hP16 h4 c.toNat (by omega)
      have hct : ((c.toNat : Nat) : Int) = c := by omega
      have hstep : sm (fun c => ifp (kin n (mdA s k) P c) (1 : Int) 0) (c + 1).toNat = sm (fun c => ifp (kin n (mdA s k) P c) (1 : Int) 0) c.toNat + ifp (kin n (mdA s k) P c) 1 0 := by
        rw [show (c + 1).toNat = c.toNat + 1 by omega]
        show _ + ifp (kin n (mdA s k) P ((c.toNat : Nat) : Int)) 1 0 = _
        rw [hct]
      have ht0 : 0 ≤ t' ∧ t' < 100000 := by
        rw [ht']
        split <;> omega
      refine r_iload d_195_69 rfl ?_
      refine r_iload d_195_71 rfl ?_
      refine r_icmp_ge (t := 117) d_195_73 rfl (fun hz => absurd hz (by omega)) (fun _ => ?_)
      refine r_aload_n d_195_76 rfl (by omega) ?_
      refine r_iload d_195_77 rfl ?_
      refine r_iload d_195_79 rfl ?_
      refine r_iload_n d_195_81 rfl ?_
      refine r_callvr d_195_82 q_195_269 rfl rfl (m_tellsRows hv.1 M1 hp1 hP16 h4 (by omega)) (fun M2 hM2 => ?_)
      obtain ⟨hF2, hd2, hr2⟩ := hM2
      have hF3 : Fr W3 M M2 := hF.trans hF2 (fun _ _ q => q) (fun _ _ q => q)
      refine r_iload d_195_85 rfl ?_
      refine r_aload_n d_195_87 rfl (by omega) ?_
      refine r_getfv (ki := 7) d_195_88 q_195_122 rfl sh_217 hd2 ?_
      refine r_iload_n d_195_91 rfl ?_
      refine r_icmp_ne (t := 107) d_195_92 rfl (fun hne => ?_) (fun hne => ?_)
      · refine r_iconst d_195_107 rfl ?_
        refine r_iadd d_195_108 (by omega) ?_
        refine r_istore d_195_109 rfl (stl_8_4 rfl rfl) ?_
        refine r_iinc d_195_111 rfl (by omega) (stl_8_7 rfl rfl) ?_
        refine r_goto (t := 69) d_195_114 rfl ?_
        refine ihc M2 _ hF3 ?_
        rw [ht', if_neg hne, if_neg hne]
        omega
      · have hp2 : M2 217 1 = pI s.1 := (hF2 _ _ (by unfold W3; omega)).trans hp1
        have hM2' : MM s.1 M2 k n (mdA s k) := hM.fr hF3 (fun x y h1 h2 => by unfold WK at h1; unfold W3 at h2; omega)
        have hak := m_areKept hv.1 hp2 (k := (k : Int)) (by omega) hM2' hd2 hr2
        rw [if_pos (by omega)] at ht'
        rw [if_pos (by omega)] at ihc
        refine r_aload_n d_195_95 rfl (by omega) ?_
        refine r_iload_n d_195_96 rfl ?_
        refine r_callvp d_195_97 q_195_273 rfl rfl hak ?_
        by_cases hq : kin n (mdA s k) P c
        · rw [ifp_t hq] at hstep ⊢
          refine r_if_eq (t := 107) d_195_100 rfl (fun hz => absurd hz (by decide)) (fun _ => ?_)
          refine r_iconst d_195_103 rfl ?_
          refine r_goto (t := 108) d_195_104 rfl ?_
          refine r_iadd d_195_108 (by omega) ?_
          refine r_istore d_195_109 rfl (stl_8_4 rfl rfl) ?_
          refine r_iinc d_195_111 rfl (by omega) (stl_8_7 rfl rfl) ?_
          refine r_goto (t := 69) d_195_114 rfl ?_
          exact ihc M2 _ hF3 (by rw [ht', hstep]; omega)
        · rw [ifp_f hq] at hstep ⊢
          refine r_if_eq (t := 107) d_195_100 rfl (fun _ => ?_) (fun hz => absurd rfl hz)
          refine r_iconst d_195_107 rfl ?_
          refine r_iadd d_195_108 (by omega) ?_
          refine r_istore d_195_109 rfl (stl_8_4 rfl rfl) ?_
          refine r_iinc d_195_111 rfl (by omega) (stl_8_7 rfl rfl) ?_
          refine r_goto (t := 69) d_195_114 rfl ?_
          exact ihc M2 _ hF3 (by rw [ht', hstep]; omega)
