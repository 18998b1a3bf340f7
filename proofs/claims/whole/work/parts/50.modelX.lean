/-! The model: ways. -/
/-- the equations of homomorphisms, in their order -/
def eqT {e : Nat} (n m : Nat) (X Y : Nat → Nat → Nat → Kf e) : Nat → List (Vc e)
  | 0 => []
  | t + 1 => eqT n m X Y t ++ [eqV n m X Y (t / (n * m)) (t % (n * m) / m) (t % (n * m) % m)]
theorem eqT_sub {e n m : Nat} {X Y : Nat → Nat → Nat → Kf e} : ∀ t : Nat, Sub (n * m) (spn (eqT n m X Y t))
  | 0 => Sub.zero
  | t + 1 => by
    unfold eqT
    rw [spn_app]
    exact ext_sub (eqT_sub t) eqV_sup
noncomputable def wys {e : Nat} (n m : Nat) (X Y : Nat → Nat → Nat → Kf e) : Int := ((n * m : Nat) : Int) - (dm (n * m) (spn (eqT n m X Y (2 * (n * m)))) : Nat)
theorem ext_mem {e n : Nat} {S : Vc e → Prop} {x : Vc e} (hS : Sub n S) (hx : S x) : ext S x = S := funext (fun _ => propext (ext_in hS hx))
theorem m_waysOf {e : Nat} (he : e ≤ 1) (M : Mo) (hp : M 217 1 = pI e) {x y : Int} {n m : Nat} {X Y : Nat → Nat → Nat → Kf e} (hx : 0 ≤ x ∧ x ≤ 10) (hy : 0 ≤ y ∧ y ≤ 10) (hX : MM e M x n X) (hY : MM e M y m Y) (hm : 1 ≤ m) : CI 187 [(2, 217), (0, x), (0, y)] M (fun z M' => z = wys n m X Y ∧ Fr W1 M M') := by
  refine Cl.intro (L := [(2, 217), (0, x), (0, y), (9, 0), (9, 0), (9, 0), (9, 0)]) (rcv_v ow_187.2.1 sh_217) (by unfold entl; rw [mx_187]; rfl) (by rw [mx_187]; exact Nat.le_of_ble_eq_true rfl) rfl ?_
  have hn6 : n ≤ 6 := by have := hX.2.1; unfold nb at this; omega
  have hm6 : m ≤ 6 := by have := hY.2.1; unfold nb at this; omega
  have hnm : (n : Int) * (m : Int) = ((n * m : Nat) : Int) := (Int.natCast_mul n m).symm
  have h36 : n * m ≤ 36 := Nat.mul_le_mul hn6 hm6
  refine r_aload_n d_187_0 rfl (by omega) ?_
  refine r_getc (ki := 2) d_187_1 q_187_17 rfl sh_217 fx_217_2 (by omega) ?_
  refine r_iload_n d_187_4 rfl ?_
  refine r_ialoadv d_187_5 sh_219 (by omega) (by omega) hX.1 ?_
  refine r_aload_n d_187_6 rfl (by omega) ?_
  refine r_getc (ki := 2) d_187_7 q_187_17 rfl sh_217 fx_217_2 (by omega) ?_
  refine r_iload_n d_187_10 rfl ?_
  refine r_ialoadv d_187_11 sh_219 (by omega) (by omega) hY.1 ?_
  refine r_imul d_187_12 (mr (a := 6) (b := 6) (by omega) (by omega) (by decide)) ?_
  rw [hnm]
  refine r_istore_n d_187_13 rfl (stl_7_3 rfl rfl) ?_
  refine r_iconst d_187_14 rfl ?_
  refine r_istore d_187_15 rfl (stl_7_4 rfl rfl) ?_
  refine r_iconst d_187_17 rfl ?_
  refine r_istore d_187_18 rfl (stl_7_5 rfl rfl) ?_
  have hself := NE_self M
  refine dn_ind (R := fun c => ∀ D : Int → Int, (∀ c' : Int, 0 ≤ c' → c' < c → D c' = 0) → Rn 187 20 [(2, 217), (0, x), (0, y), (0, ((n * m : Nat) : Int)), (0, 0), (0, c), (9, 0)] [] (NE M (M 237) (M 238) D) _) (lo := 0) (n := 36) ?_ ?_ 0 (by omega) (by omega) (M 239) (fun c' h1 h2 => by omega) |> (fun k => by rw [hself] at k; exact k)
  · intro D hD
    have hL0 : LDs (n * m) (spn (eqT n m X Y 0)) (M 238) D := fun c hc => by
      refine ⟨fun q => ?_, fun _ => hD c (by omega) (by omega)⟩
      obtain ⟨w, hw, hf⟩ := q
      have : w = z0 := hw
      rw [this] at hf
      exact absurd rfl hf.1
    have hYs : ∀ a b c, NE M a b c 219 y = m := fun a b c => (NE_o ⟨by decide, by decide, by decide⟩).trans hY.1
    refine r_iload d_187_20 rfl ?_
    refine r_bipush d_187_22 rfl ?_
    refine r_icmp_ge (t := 41) d_187_24 rfl (fun _ => ?_) (fun hz => absurd (by omega) hz)
    refine r_iconst d_187_41 rfl ?_
    refine r_istore d_187_42 rfl (stl_7_5 rfl rfl) ?_
    have hd0 : (dm (n * m) (spn (eqT n m X Y 0)) : Nat) = 0 := dm_zero
    refine dn_ind (R := fun g => ∀ (q L D : Int → Int) (y6 : AV), LDs (n * m) (spn (eqT n m X Y (g.toNat * (n * m)))) L D → Rn 187 44 [(2, 217), (0, x), (0, y), (0, ((n * m : Nat) : Int)), (0, (dm (n * m) (spn (eqT n m X Y (g.toNat * (n * m)))) : Nat)), (0, g), y6] [] (NE M q L D) _) (lo := 0) (n := 2) ?_ ?_ 0 (by omega) (by omega) (M 237) (M 238) D _ (by rw [show Int.toNat 0 = 0 from rfl, Nat.zero_mul]; exact hL0) |> (fun k => by rw [show Int.toNat 0 = 0 from rfl, Nat.zero_mul, hd0] at k; exact k)
    · intro q L D y6 hL
      have hdl := dm_le (n := n * m) (spn (eqT n m X Y (2 * (n * m))))
      rw [show Int.toNat 2 = 2 from rfl]
      refine r_iload d_187_44 rfl ?_
      refine r_iconst d_187_46 rfl ?_
      refine r_icmp_ge (t := 115) d_187_47 rfl (fun _ => ?_) (fun hz => absurd (by omega) hz)
      refine r_iload_n d_187_115 rfl ?_
      refine r_iload d_187_116 rfl ?_
      refine r_isub d_187_118 (by omega) ?_
      refine r_iret d_187_119 rt_187 ?_
      exact ⟨_, rfl, rfl, NE_fr⟩
    · intro g g1 g2 ih q L D y6 hL
      refine r_iload d_187_44 rfl ?_
      refine r_iconst d_187_46 rfl ?_
      refine r_icmp_ge (t := 115) d_187_47 rfl (fun hz => absurd hz (by omega)) (fun _ => ?_)
      refine r_iconst d_187_50 rfl ?_
      refine r_istore d_187_51 rfl (stl_7_6 rfl rfl) ?_
      refine dn_ind (R := fun a => ∀ (q L D : Int → Int), LDs (n * m) (spn (eqT n m X Y (g.toNat * (n * m) + a.toNat))) L D → Rn 187 53 [(2, 217), (0, x), (0, y), (0, ((n * m : Nat) : Int)), (0, (dm (n * m) (spn (eqT n m X Y (g.toNat * (n * m) + a.toNat))) : Nat)), (0, g), (0, a)] [] (NE M q L D) _) (lo := 0) (n := ((n * m : Nat) : Int)) ?_ ?_ 0 (by omega) (by omega) q L D hL
      · intro q L D hL
        have e3 : g.toNat * (n * m) + ((n * m : Nat) : Int).toNat = (g + 1).toNat * (n * m) := by
          rw [Int.toNat_natCast, show (g + 1).toNat = g.toNat + 1 by omega, Nat.add_mul, Nat.one_mul]
        rw [e3] at hL ⊢
        refine r_iload d_187_53 rfl ?_
        refine r_iload_n d_187_55 rfl ?_
        refine r_icmp_ge (t := 109) d_187_56 rfl (fun _ => ?_) (fun hz => absurd (by omega) hz)
        refine r_iinc d_187_109 rfl (by omega) (stl_7_5 rfl rfl) ?_
        refine r_goto (t := 44) d_187_112 rfl ?_
        exact ih _ _ _ _ hL
      · intro a a1 a2 ih2 q L D hL
        have hpos : 0 < n * m := by omega
        have hac : ((a.toNat : Nat) : Int) = a := by omega
        have hai : a.toNat / m < n := Nat.div_lt_of_lt_mul (by rw [Nat.mul_comm]; omega)
        have haj : a.toNat % m < m := Nat.mod_lt _ hm
        have d1 : a / (m : Int) = ((a.toNat / m : Nat) : Int) := by rw [Int.natCast_ediv, hac]
        have d2 : a % (m : Int) = ((a.toNat % m : Nat) : Int) := by rw [Int.natCast_emod, hac]
        have hgt : (g.toNat * (n * m) + a.toNat) / (n * m) = g.toNat := by
          rw [Nat.mul_comm, Nat.mul_add_div hpos, Nat.div_eq_of_lt (by omega), Nat.add_zero]
        have hgr : (g.toNat * (n * m) + a.toNat) % (n * m) = a.toNat := by
          rw [Nat.mul_comm, Nat.mul_add_mod, Nat.mod_eq_of_lt (by omega)]
        have hsuc : eqT n m X Y (g.toNat * (n * m) + (a + 1).toNat) = eqT n m X Y (g.toNat * (n * m) + a.toNat) ++ [eqV n m X Y g.toNat (a.toNat / m) (a.toNat % m)] := by
          rw [show g.toNat * (n * m) + (a + 1).toNat = (g.toNat * (n * m) + a.toNat) + 1 by omega]
          conv => lhs; unfold eqT
          rw [hgt, hgr]
        have hS := eqT_sub (n := n) (m := m) (X := X) (Y := Y) (g.toNat * (n * m) + a.toNat)
        have ih3 := ih2
        rw [hsuc, spn_app] at ih3
        have hdl := dm_le (n := n * m) (spn (eqT n m X Y (g.toNat * (n * m) + a.toNat)))
        generalize spn (eqT n m X Y (g.toNat * (n * m) + a.toNat)) = S at *
        have hte := m_tellsEquation he M hp hx hy hX hY (g := g.toNat) (i := a.toNat / m) (j := a.toNat % m) (by omega) hai haj (q := q) (L := L) (D := D)
        rw [show ((g.toNat : Nat) : Int) = g by omega] at hte
        refine r_iload d_187_53 rfl ?_
        refine r_iload_n d_187_55 rfl ?_
        refine r_icmp_ge (t := 109) d_187_56 rfl (fun hz => absurd hz (by omega)) (fun _ => ?_)
        refine r_aload_n d_187_59 rfl (by omega) ?_
        refine r_iload_n d_187_60 rfl ?_
        refine r_iload_n d_187_61 rfl ?_
        refine r_iload d_187_62 rfl ?_
        refine r_iload d_187_64 rfl ?_
        refine r_aload_n d_187_66 rfl (by omega) ?_
        refine r_getc (ki := 2) d_187_67 q_187_17 rfl sh_217 fx_217_2 (by omega) ?_
        refine r_iload_n d_187_70 rfl ?_
        refine r_ialoadv d_187_71 sh_219 (by omega) (by omega) (hYs _ _ _) ?_
        refine r_idivn d_187_72 (by omega) (by omega) ?_
        rw [d1]
        refine r_iload d_187_73 rfl ?_
        refine r_aload_n d_187_75 rfl (by omega) ?_
        refine r_getc (ki := 2) d_187_76 q_187_17 rfl sh_217 fx_217_2 (by omega) ?_
        refine r_iload_n d_187_79 rfl ?_
        refine r_ialoadv d_187_80 sh_219 (by omega) (by omega) (hYs _ _ _) ?_
        refine r_iremn d_187_81 (by omega) (by omega) ?_
        rw [d2]
        refine r_callvr d_187_82 q_187_253 rfl rfl (hte) (fun M2 hM2 => ?_)
        obtain ⟨q2, rfl, hq2⟩ := hM2
        refine r_iload d_187_85 rfl ?_
        refine r_aload_n d_187_87 rfl (by omega) ?_
        refine r_iload_n d_187_88 rfl ?_
        refine r_callvi d_187_89 q_187_257 rfl rfl (m_isNew he M hp h36 hS hL eqV_sup hq2) (fun x M3 hM3 => ?_)
        rcases hM3 with ⟨rfl, h1, q3, rfl⟩ | ⟨rfl, h1, q3, L3, D3, rfl, hL3⟩
        · rw [ext_mem hS h1] at ih3
          refine r_if_eq (t := 99) d_187_92 rfl (fun _ => ?_) (fun hz => absurd (by decide) hz)
          refine r_iconst d_187_99 rfl ?_
          refine r_iadd d_187_100 (by omega) ?_
          refine r_istore d_187_101 rfl (stl_7_4 rfl rfl) ?_
          refine r_iinc d_187_103 rfl (by omega) (stl_7_6 rfl rfl) ?_
          refine r_goto (t := 53) d_187_106 rfl ?_
          rw [Int.add_zero]
          exact ih3 _ _ _ hL
        · rw [dm_ext he hS eqV_sup h1] at ih3
          refine r_if_eq (t := 99) d_187_92 rfl (fun hz => absurd hz (by decide)) (fun _ => ?_)
          refine r_iconst d_187_95 rfl ?_
          refine r_goto (t := 100) d_187_96 rfl ?_
          refine r_iadd d_187_100 (by omega) ?_
          refine r_istore d_187_101 rfl (stl_7_4 rfl rfl) ?_
          refine r_iinc d_187_103 rfl (by omega) (stl_7_6 rfl rfl) ?_
          refine r_goto (t := 53) d_187_106 rfl ?_
          exact ih3 _ _ _ hL3
  · intro c c1 c2 ih D hD
    refine r_iload d_187_20 rfl ?_
    refine r_bipush d_187_22 rfl ?_
    refine r_icmp_ge (t := 41) d_187_24 rfl (fun hz => absurd hz (by omega)) (fun _ => ?_)
    refine r_aload_n d_187_27 rfl (by omega) ?_
    refine r_getc (ki := 27) d_187_28 q_187_80 rfl sh_217 fx_217_27 (by omega) ?_
    refine r_iload d_187_31 rfl ?_
    refine r_iconst d_187_33 rfl ?_
    refine r_iastore d_187_34 sh_239 (by omega) (by omega) ?_
    rw [NE_uc]
    refine r_iinc d_187_35 rfl (by omega) (stl_7_5 rfl rfl) ?_
    refine r_goto (t := 20) d_187_38 rfl ?_
    refine ih _ (fun c' h1 h2 => ?_)
    by_cases hc : c' = c
    · rw [hc, u1_eq]
    · rw [u1_ne _ _ hc]
      exact hD c' h1 (by omega)
theorem m_ways_bad (M : Mo) (hb : cb M) {k x : Int} (h : ¬ ((0 ≤ k ∧ k ≤ 3) ∧ 0 ≤ x ∧ x ≤ 3)) : PJ 188 [(2, 217), (0, k), (0, x)] M (-2) (up2 M 218 0 (M 218 0 + 1)) := by
  refine Cl.intro (L := [(2, 217), (0, k), (0, x)]) (rcv_v ow_188.2.1 sh_217) (by unfold entl; rw [mx_188]; rfl) (by rw [mx_188]; exact Nat.le_of_ble_eq_true rfl) rfl ?_
  have hbad := m_bad M (hb 0 (by omega) (by omega))
  refine r_iload_n d_188_0 rfl ?_
  refine r_callsp d_188_1 q_188_178 rfl rfl (m_isModule M k) ?_
  by_cases hk : 0 ≤ k ∧ k ≤ 3
  · rw [if_pos hk]
    refine r_if_eq (t := 14) d_188_4 rfl (fun hz => absurd hz (by decide)) (fun _ => ?_)
    refine r_iload_n d_188_7 rfl ?_
    refine r_callsp d_188_8 q_188_178 rfl rfl (m_isModule M x) ?_
    rw [if_neg (fun q => h ⟨hk, q⟩)]
    refine r_if_ne (t := 19) d_188_11 rfl (fun hz => absurd hz (by decide)) (fun _ => ?_)
    refine r_aload_n d_188_14 rfl (by omega) ?_
    refine r_callvj d_188_15 q_188_172 rfl rfl hbad ?_
    refine r_iret d_188_18 rt_188 ?_
    exact ⟨rfl, rfl⟩
  · rw [if_neg hk]
    refine r_if_eq (t := 14) d_188_4 rfl (fun _ => ?_) (fun hz => absurd (by decide) hz)
    refine r_aload_n d_188_14 rfl (by omega) ?_
    refine r_callvj d_188_15 q_188_172 rfl rfl hbad ?_
    refine r_iret d_188_18 rt_188 ?_
    exact ⟨rfl, rfl⟩
theorem m_ways {M : Mo} {s : Sst} (hv : vs s) (hc : cu M s) {x y : Nat} (hx : x < 4) (hy : y < 4) : CI 188 [(2, 217), (0, (x : Int)), (0, (y : Int))] M (fun z M' => z = wys (s.2.1 x) (s.2.1 y) (mdA s x) (mdA s y) ∧ Fr W1 M M') := by
  refine Cl.intro (L := [(2, 217), (0, (x : Int)), (0, (y : Int))]) (rcv_v ow_188.2.1 sh_217) (by unfold entl; rw [mx_188]; rfl) (by rw [mx_188]; exact Nat.le_of_ble_eq_true rfl) rfl ?_
  refine r_iload_n d_188_0 rfl ?_
  refine r_callsp d_188_1 q_188_178 rfl rfl (m_isModule M x) ?_
  rw [if_pos (by omega)]
  refine r_if_eq (t := 14) d_188_4 rfl (fun hz => absurd hz (by decide)) (fun _ => ?_)
  refine r_iload_n d_188_7 rfl ?_
  refine r_callsp d_188_8 q_188_178 rfl rfl (m_isModule M y) ?_
  rw [if_pos (by omega)]
  refine r_if_ne (t := 19) d_188_11 rfl (fun _ => ?_) (fun hz => absurd (by decide) hz)
  refine r_aload_n d_188_19 rfl (by omega) ?_
  refine r_iload_n d_188_20 rfl ?_
  refine r_iload_n d_188_21 rfl ?_
  refine r_callvi d_188_22 q_188_244 rfl rfl (m_waysOf hv.1 M hc.1 (x := x) (y := y) (by omega) (by omega) (hc.MM hv hx) (hc.MM hv hy) (hv.2 y hy).1) (fun x M1 hM1 => ?_)
  obtain ⟨hz, hF⟩ := hM1
  refine r_iret d_188_25 rt_188 ?_
  exact ⟨_, rfl, hz, hF⟩
