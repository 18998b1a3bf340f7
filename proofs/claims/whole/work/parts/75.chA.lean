/-! The class: begins, sizes, sets, draws, turns. -/
theorem c_lim {M : Mo} {s : Sst} (hv : vs s) (hc : cuC M s) : PI 26 [(2, 1)] M (6 - (s.1 : Int)) := by
  have h := c_largest M hc.1
  have h1 := hv.1
  have e1 : (if pI s.1 = 2 then (6 : Int) else 5) = 6 - (s.1 : Int) := by
    unfold pI
    by_cases q : s.1 = 0
    · rw [if_pos (by omega)]
      omega
    · rw [if_neg (by omega)]
      omega
  rw [e1] at h
  exact h
theorem md_vl {s : Sst} (hv : vs s) {k g i j : Nat} (hk : k < 4) (hg : g < 2) (hi : i < s.2.1 k) (hj : j < s.2.1 k) : vl (mdA s k g i j) = s.2.2 k g i j := by
  unfold mdA
  rw [vl_kI]
  have := (hv.2 k hk).2.2 g i j hg hi hj
  exact Int.emod_eq_of_lt this.1 (by omega)
theorem c_begins_bad (M : Mo) (hb : cbC M) {q : Int} (h : ¬ (2 ≤ q ∧ q ≤ 3)) : PJ 74 [(2, 0), (0, q)] M (-2) (up2 M 0 11 (M 0 11 + 1)) := by
  have hbad := c_fails_b M hb
  refine Cl.intro (L := [(2, 0), (0, q), (9, 0)]) (rcv_v ow_74.2.1 sh_0) (by unfold entl; rw [mx_74]; rfl) (by rw [mx_74]; exact Nat.le_of_ble_eq_true rfl) rfl ?_
  refine r_iload_n d_74_0 rfl ?_
  refine r_iconst d_74_1 rfl ?_
  refine r_icmp_eq (t := 17) d_74_2 rfl (fun hz => absurd hz (by omega)) (fun _ => ?_)
  refine r_iload_n d_74_5 rfl ?_
  refine r_iconst d_74_6 rfl ?_
  refine r_icmp_eq (t := 17) d_74_7 rfl (fun hz => absurd hz (by omega)) (fun _ => ?_)
  refine r_aload_n d_74_10 rfl (by omega) ?_
  refine r_bipush d_74_11 rfl ?_
  refine r_callvj d_74_13 q_74_91 rfl rfl hbad ?_
  refine r_iret d_74_16 rt_74 ?_
  exact ⟨rfl, rfl⟩
theorem c_begins {M : Mo} {s : Sst} {H : List Sst} (hv : vs s) (hc : cuC M s) (hH : hiC M H) {q : Int} {e : Nat} (hq : q = pI e) (he : e ≤ 1) : CI 74 [(2, 0), (0, q)] M (fun z M' => z = q ∧ chC M M' (s11 e) (psh H s)) := by
  have hpe : pI e = (e : Int) + 2 := rfl
  refine Cl.intro (L := [(2, 0), (0, q), (9, 0)]) (rcv_v ow_74.2.1 sh_0) (by unfold entl; rw [mx_74]; rfl) (by rw [mx_74]; exact Nat.le_of_ble_eq_true rfl) rfl ?_
  have key : Rn 74 17 [(2, 0), (0, q), (9, 0)] [] M (fun v M' => ∃ x, v = some (0, x) ∧ x = q ∧ chC M M' (s11 e) (psh H s)) := by
    refine r_aload_n d_74_17 rfl (by omega) ?_
    refine r_getc (ki := 4) d_74_18 q_74_39 rfl sh_0 fx_0_4 (by omega) ?_
    refine r_aload_n d_74_21 rfl (by omega) ?_
    refine r_getc (ki := 1) d_74_22 q_74_18 rfl sh_0 fx_0_1 (by omega) ?_
    refine r_callvr d_74_25 q_74_95 rfl rfl (c_keeps hv hc hH) (fun M1 hM1 => ?_)
    obtain ⟨hF1, hH1⟩ := hM1
    refine r_aload_n d_74_28 rfl (by omega) ?_
    refine r_getc (ki := 0) d_74_29 q_74_10 rfl sh_0 fx_0_0 (by omega) ?_
    refine r_iload_n d_74_32 rfl ?_
    refine r_putf (ki := 0) d_74_33 q_74_99 rfl sh_1 fx_1_0 ?_
    refine r_iconst d_74_36 rfl ?_
    refine r_istore_n d_74_37 rfl (stl_3_2 rfl rfl) ?_
    refine dn_ind (R := fun k => ∀ (M2 : Mo), Fr (fun x y => (x = 1 ∧ y = 0) ∨ (209 ≤ x ∧ x ≤ 216)) M1 M2 → M2 1 0 = q → (∀ k' : Nat, (k' : Int) < k → k' < 4 → AA e M2 (209 + 2 * k') 1 (fun _ _ _ => 0)) → Rn 74 38 [(2, 0), (0, q), (0, k)] [] M2 _) (lo := 0) (n := 4) ?_ ?_ 0 (by omega) (by omega) (up2 M1 1 0 q) (fun x y hn => uq_ne (by omega)) uq_eq (fun k' z _ => by omega)
    · intro M2 hF hp hA
      refine r_iload_n d_74_38 rfl ?_
      refine r_iconst d_74_39 rfl ?_
      refine r_icmp_ge (t := 59) d_74_40 rfl (fun _ => ?_) (fun hz => absurd (by omega) hz)
      refine r_iload_n d_74_59 rfl ?_
      refine r_iret d_74_60 rt_74 ?_
      refine ⟨_, rfl, rfl, fun x y hn => ?_, ⟨hp.trans hq, fun k hk => ?_⟩, hH1.fr hF (fun x y z => by omega)⟩
      · unfold WZ at hn
        rw [hF x y (fun z => hn (by omega))]
        exact hF1 x y (fun z => hn (Or.inr (Or.inl z)))
      · refine AA.congr (e := e) (hA k (by omega) hk) (fun g i j _ _ _ => ?_)
        show (0 : Kf e) = kI e 0
        rw [kI_0]
    · intro k k1 k2 ih M2 hF hp hA
      obtain ⟨l, rfl⟩ : ∃ l : Nat, k = l := ⟨k.toNat, by omega⟩
      refine r_iload_n d_74_38 rfl ?_
      refine r_iconst d_74_39 rfl ?_
      refine r_icmp_ge (t := 59) d_74_40 rfl (fun hz => absurd hz (by omega)) (fun _ => ?_)
      refine r_aload_n d_74_43 rfl (by omega) ?_
      refine r_getc (ki := 1) d_74_44 q_74_18 rfl sh_0 fx_0_1 (by omega) ?_
      refine r_iload_n d_74_47 rfl ?_
      refine r_aaloadc d_74_48 sh_2 (by decide) (by omega) (by omega) (fxM (by omega) (by omega)) (by omega) ?_
      refine r_iconst d_74_49 rfl ?_
      refine r_callvr d_74_50 q_74_102 rfl rfl (c_empties M2 (shM (show l < 4 by omega))) (fun M3 hM3 => ?_)
      obtain ⟨hF2, hz, hr⟩ := hM3
      refine r_iinc d_74_53 rfl (by omega) (stl_3_2 rfl rfl) ?_
      refine r_goto (t := 38) d_74_56 rfl ?_
      refine ih M3 (fun x y hn => ?_) ?_ (fun k' z1 z2 => ?_)
      · rw [hF2 x y (by unfold WA; omega)]
        exact hF x y hn
      · rw [hF2 _ _ (by unfold WA; omega)]
        exact hp
      · by_cases hk : k' = l
        · subst hk
          exact AA.zero (by unfold nb; omega) hz hr
        · exact (hA k' (by omega) z2).fr hF2 (fun x y z3 z4 => by unfold WA at z3 z4; omega)
  refine r_iload_n d_74_0 rfl ?_
  refine r_iconst d_74_1 rfl ?_
  refine r_icmp_eq (t := 17) d_74_2 rfl (fun h1 => ?_) (fun h1 => ?_)
  · exact key
  · refine r_iload_n d_74_5 rfl ?_
    refine r_iconst d_74_6 rfl ?_
    refine r_icmp_eq (t := 17) d_74_7 rfl (fun h2 => ?_) (fun h2 => ?_)
    · exact key
    · exfalso
      omega
theorem c_sizes_bad (M : Mo) (hb : cbC M) {s : Sst} (hv : vs s) (hc : cuC M s) {k n : Int} (h : ¬ ((0 ≤ k ∧ k ≤ 3) ∧ 1 ≤ n ∧ n ≤ 6 - s.1)) : PJ 75 [(2, 0), (0, k), (0, n)] M (-2) (up2 M 0 11 (M 0 11 + 1)) := by
  have hbad := c_fails_b M hb
  refine Cl.intro (L := [(2, 0), (0, k), (0, n)]) (rcv_v ow_75.2.1 sh_0) (by unfold entl; rw [mx_75]; rfl) (by rw [mx_75]; exact Nat.le_of_ble_eq_true rfl) rfl ?_
  have key : Rn 75 24 [(2, 0), (0, k), (0, n)] [] M (fun v M' => v = some (0, -2) ∧ M' = up2 M 0 11 (M 0 11 + 1)) := by
    refine r_aload_n d_75_24 rfl (by omega) ?_
    refine r_bipush d_75_25 rfl ?_
    refine r_callvj d_75_27 q_75_91 rfl rfl hbad ?_
    refine r_iret d_75_30 rt_75 ?_
    exact ⟨rfl, rfl⟩
  refine r_aload_n d_75_0 rfl (by omega) ?_
  refine r_iload_n d_75_1 rfl ?_
  refine r_callvp d_75_2 q_75_106 rfl rfl (c_isModule M k) ?_
  by_cases hk : 0 ≤ k ∧ k ≤ 3
  · rw [if_pos hk]
    refine r_if_eq (t := 24) d_75_5 rfl (fun hz => absurd hz (by decide)) (fun _ => ?_)
    refine r_iload_n d_75_8 rfl ?_
    refine r_iconst d_75_9 rfl ?_
    refine r_icmp_lt (t := 24) d_75_10 rfl (fun h1 => ?_) (fun h1 => ?_)
    · exact key
    · refine r_iload_n d_75_13 rfl ?_
      refine r_aload_n d_75_14 rfl (by omega) ?_
      refine r_getc (ki := 0) d_75_15 q_75_10 rfl sh_0 fx_0_0 (by omega) ?_
      refine r_callvp d_75_18 q_75_110 rfl rfl (c_lim hv hc) ?_
      refine r_icmp_le (t := 31) d_75_21 rfl (fun hz => absurd hz (by omega)) (fun _ => ?_)
      exact key
  · rw [if_neg hk]
    refine r_if_eq (t := 24) d_75_5 rfl (fun _ => ?_) (fun hz => absurd rfl hz)
    exact key
theorem c_sizes {M : Mo} {s : Sst} {H : List Sst} (hv : vs s) (hc : cuC M s) (hH : hiC M H) {k n : Nat} (hk : k < 4) (hn : 1 ≤ n ∧ nb s.1 n) : CI 75 [(2, 0), (0, (k : Int)), (0, (n : Int))] M (fun z M' => z = n ∧ chC M M' (setm s k n (fun _ _ _ => 0)) (psh H s)) := by
  have hnb := hn.2
  unfold nb at hnb
  refine Cl.intro (L := [(2, 0), (0, (k : Int)), (0, (n : Int))]) (rcv_v ow_75.2.1 sh_0) (by unfold entl; rw [mx_75]; rfl) (by rw [mx_75]; exact Nat.le_of_ble_eq_true rfl) rfl ?_
  refine r_aload_n d_75_0 rfl (by omega) ?_
  refine r_iload_n d_75_1 rfl ?_
  refine r_callvp d_75_2 q_75_106 rfl rfl (c_isModule M k) ?_
  rw [if_pos (by omega)]
  refine r_if_eq (t := 24) d_75_5 rfl (fun hz => absurd hz (by decide)) (fun _ => ?_)
  refine r_iload_n d_75_8 rfl ?_
  refine r_iconst d_75_9 rfl ?_
  refine r_icmp_lt (t := 24) d_75_10 rfl (fun hz => absurd hz (by omega)) (fun _ => ?_)
  refine r_iload_n d_75_13 rfl ?_
  refine r_aload_n d_75_14 rfl (by omega) ?_
  refine r_getc (ki := 0) d_75_15 q_75_10 rfl sh_0 fx_0_0 (by omega) ?_
  refine r_callvp d_75_18 q_75_110 rfl rfl (c_lim hv hc) ?_
  refine r_icmp_le (t := 31) d_75_21 rfl (fun _ => ?_) (fun hz => absurd (by omega) hz)
  refine r_aload_n d_75_31 rfl (by omega) ?_
  refine r_getc (ki := 4) d_75_32 q_75_39 rfl sh_0 fx_0_4 (by omega) ?_
  refine r_aload_n d_75_35 rfl (by omega) ?_
  refine r_getc (ki := 1) d_75_36 q_75_18 rfl sh_0 fx_0_1 (by omega) ?_
  refine r_callvr d_75_39 q_75_95 rfl rfl (c_keeps hv hc hH) (fun M1 hM1 => ?_)
  obtain ⟨hF1, hH1⟩ := hM1
  have hc1 : cuC M1 s := hc.fr hF1 (fun x y q => by unfold WH at q; omega)
  refine r_aload_n d_75_42 rfl (by omega) ?_
  refine r_getc (ki := 1) d_75_43 q_75_18 rfl sh_0 fx_0_1 (by omega) ?_
  refine r_iload_n d_75_46 rfl ?_
  refine r_aaloadc d_75_47 sh_2 (by decide) (by omega) (by omega) (fxM (by omega) (by omega)) (by omega) ?_
  refine r_iload_n d_75_48 rfl ?_
  refine r_callvr d_75_49 q_75_102 rfl rfl (c_empties M1 (shM hk)) (fun M2 hM2 => ?_)
  obtain ⟨hF2, hz, hr⟩ := hM2
  refine r_iload_n d_75_52 rfl ?_
  refine r_iret d_75_53 rt_75 ?_
  refine ⟨_, rfl, rfl, fun x y hx => ?_, hc1.set hk hF2 (fun x y z => by unfold WA at z; omega) ?_, hH1.fr hF2 (fun x y z => by unfold WA at z; omega)⟩
  · unfold WZ at hx
    rw [hF2 x y (fun z => hx (by unfold WA at z; omega))]
    exact hF1 x y (fun z => hx (Or.inr (Or.inl z)))
  · refine AA.congr (AA.zero hn.2 hz hr) (fun g i j _ _ _ => ?_)
    rw [kI_0]
theorem c_sets_bad (M : Mo) (hb : cbC M) {s : Sst} (hc : cuC M s) {k g i j v : Int} (h : ¬ (okE s k g i j ∧ 0 ≤ v ∧ v ≤ pI s.1 - 1)) : PJ 76 [(2, 0), (0, k), (0, g), (0, i), (0, j), (0, v)] M (-2) (up2 M 0 11 (M 0 11 + 1)) := by
  have hbad := c_fails_b M hb
  refine Cl.intro (L := [(2, 0), (0, k), (0, g), (0, i), (0, j), (0, v), (9, 0)]) (rcv_v ow_76.2.1 sh_0) (by unfold entl; rw [mx_76]; rfl) (by rw [mx_76]; exact Nat.le_of_ble_eq_true rfl) rfl ?_
  have key : Rn 76 21 [(2, 0), (0, k), (0, g), (0, i), (0, j), (0, v), (9, 0)] [] M (fun v M' => v = some (0, -2) ∧ M' = up2 M 0 11 (M 0 11 + 1)) := by
    refine r_aload_n d_76_21 rfl (by omega) ?_
    refine r_bipush d_76_22 rfl ?_
    refine r_callvj d_76_24 q_76_91 rfl rfl hbad ?_
    refine r_iret d_76_27 rt_76 ?_
    exact ⟨rfl, rfl⟩
  refine r_aload_n d_76_0 rfl (by omega) ?_
  refine r_iload_n d_76_1 rfl ?_
  refine r_iload_n d_76_2 rfl ?_
  refine r_iload_n d_76_3 rfl ?_
  refine r_iload d_76_4 rfl ?_
  refine r_callvp d_76_6 q_76_114 rfl rfl (c_isEntry hc k g i j) ?_
  by_cases hk : okE s k g i j
  · rw [ifp_t hk]
    refine r_if_eq (t := 21) d_76_9 rfl (fun hz => absurd hz (by decide)) (fun _ => ?_)
    refine r_aload_n d_76_12 rfl (by omega) ?_
    refine r_iload d_76_13 rfl ?_
    refine r_callvp d_76_15 q_76_118 rfl rfl (c_isElement M hc.1 v) ?_
    rw [if_neg (fun q => h ⟨hk, q⟩)]
    refine r_if_ne (t := 28) d_76_18 rfl (fun hz => absurd hz (fun q => q rfl)) (fun _ => ?_)
    exact key
  · rw [ifp_f hk]
    refine r_if_eq (t := 21) d_76_9 rfl (fun _ => ?_) (fun hz => absurd rfl hz)
    exact key
theorem c_sets {M : Mo} {s : Sst} {H : List Sst} (hv : vs s) (hc : cuC M s) (hH : hiC M H) {k g i j : Nat} {v : Int} (hk : k < 4) (hg : g < 2) (hi : i < s.2.1 k) (hj : j < s.2.1 k) (hvv : 0 ≤ v ∧ v ≤ pI s.1 - 1) : CI 76 [(2, 0), (0, (k : Int)), (0, (g : Int)), (0, (i : Int)), (0, (j : Int)), (0, v)] M (fun z M' => z = s.2.2 k g i j ∧ chC M M' (setm s k (s.2.1 k) (setE (s.2.2 k) g i j v)) (psh H s)) := by
  have hok : okE s k g i j := by
    unfold okE
    rw [show ((k : Int)).toNat = k by omega]
    omega
  have h6 := vs_6 hv hk
  have hvk : v = vl (kI s.1 v) := by
    rw [vl_kI]
    exact (Int.emod_eq_of_lt hvv.1 (by omega)).symm
  refine Cl.intro (L := [(2, 0), (0, (k : Int)), (0, (g : Int)), (0, (i : Int)), (0, (j : Int)), (0, v), (9, 0)]) (rcv_v ow_76.2.1 sh_0) (by unfold entl; rw [mx_76]; rfl) (by rw [mx_76]; exact Nat.le_of_ble_eq_true rfl) rfl ?_
  refine r_aload_n d_76_0 rfl (by omega) ?_
  refine r_iload_n d_76_1 rfl ?_
  refine r_iload_n d_76_2 rfl ?_
  refine r_iload_n d_76_3 rfl ?_
  refine r_iload d_76_4 rfl ?_
  refine r_callvp d_76_6 q_76_114 rfl rfl (c_isEntry hc k g i j) ?_
  rw [ifp_t hok]
  refine r_if_eq (t := 21) d_76_9 rfl (fun hz => absurd hz (by decide)) (fun _ => ?_)
  refine r_aload_n d_76_12 rfl (by omega) ?_
  refine r_iload d_76_13 rfl ?_
  refine r_callvp d_76_15 q_76_118 rfl rfl (c_isElement M hc.1 v) ?_
  rw [if_pos hvv]
  refine r_if_ne (t := 28) d_76_18 rfl (fun _ => ?_) (fun hz => absurd (by decide) hz)
  refine r_aload_n d_76_28 rfl (by omega) ?_
  refine r_getc (ki := 4) d_76_29 q_76_39 rfl sh_0 fx_0_4 (by omega) ?_
  refine r_aload_n d_76_32 rfl (by omega) ?_
  refine r_getc (ki := 1) d_76_33 q_76_18 rfl sh_0 fx_0_1 (by omega) ?_
  refine r_callvr d_76_36 q_76_95 rfl rfl (c_keeps hv hc hH) (fun M1 hM1 => ?_)
  obtain ⟨hF1, hH1⟩ := hM1
  have hc1 : cuC M1 s := hc.fr hF1 (fun x y q => by unfold WH at q; omega)
  have hA1 := hc1.2 k hk
  have hen := c_entry hv.1 (shM hk) hA1 hg hi hj
  rw [md_vl hv hk hg hi hj] at hen
  have hpu := c_puts hv.1 M1 (shM hk) hg (show i < 6 by omega) (show j < 12 by omega) (hA1.2.2 g i hg (by omega)) hvk
  refine r_aload_n d_76_39 rfl (by omega) ?_
  refine r_getc (ki := 1) d_76_40 q_76_18 rfl sh_0 fx_0_1 (by omega) ?_
  refine r_iload_n d_76_43 rfl ?_
  refine r_aaloadc d_76_44 sh_2 (by decide) (by omega) (by omega) (fxM (by omega) (by omega)) (by omega) ?_
  refine r_iload_n d_76_45 rfl ?_
  refine r_iload_n d_76_46 rfl ?_
  refine r_iload d_76_47 rfl ?_
  refine r_callvp d_76_49 q_76_121 rfl rfl hen ?_
  refine r_istore d_76_52 rfl (stl_7_6 rfl rfl) ?_
  refine r_aload_n d_76_54 rfl (by omega) ?_
  refine r_getc (ki := 1) d_76_55 q_76_18 rfl sh_0 fx_0_1 (by omega) ?_
  refine r_iload_n d_76_58 rfl ?_
  refine r_aaloadc d_76_59 sh_2 (by decide) (by omega) (by omega) (fxM (by omega) (by omega)) (by omega) ?_
  refine r_iload_n d_76_60 rfl ?_
  refine r_iload_n d_76_61 rfl ?_
  refine r_iload d_76_62 rfl ?_
  refine r_iload d_76_64 rfl ?_
  refine r_callvv d_76_66 q_76_125 rfl rfl hpu ?_
  refine r_iload d_76_69 rfl ?_
  refine r_iret d_76_71 rt_76 ?_
  have hF2 : ∀ z : Int, Fr (WA (209 + 2 * (k : Int))) M1 (up2 M1 (209 + 2 * (k : Int) + 1) (6 * g + i) z) := fun z => WA_up Fr.refl _ _
  refine ⟨_, rfl, rfl, fun x y hx => ?_, hc1.set hk (hF2 _) (fun x y z => by unfold WA at z; omega) ?_, hH1.fr (hF2 _) (fun x y z => by unfold WA at z; omega)⟩
  · unfold WZ at hx
    rw [hF2 _ x y (fun z => hx (by unfold WA at z; omega))]
    exact hF1 x y (fun z => hx (Or.inr (Or.inl z)))
  · refine AA.congr (hA1.put hg hi hj (kI s.1 v)) (fun g' i' j' _ _ _ => ?_)
    unfold setA setE mdA
    by_cases q : g' = g ∧ i' = i ∧ j' = j
    · rw [if_pos q, if_pos q]
    · rw [if_neg q, if_neg q]
theorem c_draws_bad (M : Mo) (hb : cbC M) {k x : Int} (h : ¬ ((0 ≤ k ∧ k ≤ 3) ∧ 0 ≤ x ∧ x ≤ 999999)) : PJ 77 [(2, 0), (0, k), (0, x)] M (-2) (up2 M 0 11 (M 0 11 + 1)) := by
  have hbad := c_fails_b M hb
  refine Cl.intro (L := [(2, 0), (0, k), (0, x)]) (rcv_v ow_77.2.1 sh_0) (by unfold entl; rw [mx_77]; rfl) (by rw [mx_77]; exact Nat.le_of_ble_eq_true rfl) rfl ?_
  have key : Rn 77 18 [(2, 0), (0, k), (0, x)] [] M (fun v M' => v = some (0, -2) ∧ M' = up2 M 0 11 (M 0 11 + 1)) := by
    refine r_aload_n d_77_18 rfl (by omega) ?_
    refine r_bipush d_77_19 rfl ?_
    refine r_callvj d_77_21 q_77_91 rfl rfl hbad ?_
    refine r_iret d_77_24 rt_77 ?_
    exact ⟨rfl, rfl⟩
  refine r_aload_n d_77_0 rfl (by omega) ?_
  refine r_iload_n d_77_1 rfl ?_
  refine r_callvp d_77_2 q_77_106 rfl rfl (c_isModule M k) ?_
  by_cases hk : 0 ≤ k ∧ k ≤ 3
  · rw [if_pos hk]
    refine r_if_eq (t := 18) d_77_5 rfl (fun hz => absurd hz (by decide)) (fun _ => ?_)
    refine r_iload_n d_77_8 rfl ?_
    refine r_if_lt (t := 18) d_77_9 rfl (fun h1 => ?_) (fun h1 => ?_)
    · exact key
    · refine r_iload_n d_77_12 rfl ?_
      refine r_ldc (c := 0) d_77_13 q_77_129 ?_
      refine r_icmp_le (t := 25) d_77_15 rfl (fun hz => absurd hz (by omega)) (fun _ => ?_)
      exact key
  · rw [if_neg hk]
    refine r_if_eq (t := 18) d_77_5 rfl (fun _ => ?_) (fun hz => absurd rfl hz)
    exact key
theorem c_draws {M : Mo} {s : Sst} {H : List Sst} (hv : vs s) (hc : cuC M s) (hH : hiC M H) {k : Nat} {x0 : Int} (hk : k < 4) (hx : 0 ≤ x0 ∧ x0 ≤ 999999) : CI 77 [(2, 0), (0, (k : Int)), (0, x0)] M (fun z M' => z = sm (fun c => nz (drw (pI s.1) x0 c)) (2 * (s.2.1 k * s.2.1 k)) ∧ chC M M' (setm s k (s.2.1 k) (drE (pI s.1) x0 (s.2.1 k))) (psh H s)) := by
  refine Cl.intro (L := [(2, 0), (0, (k : Int)), (0, x0)]) (rcv_v ow_77.2.1 sh_0) (by unfold entl; rw [mx_77]; rfl) (by rw [mx_77]; exact Nat.le_of_ble_eq_true rfl) rfl ?_
  refine r_aload_n d_77_0 rfl (by omega) ?_
  refine r_iload_n d_77_1 rfl ?_
  refine r_callvp d_77_2 q_77_106 rfl rfl (c_isModule M k) ?_
  rw [if_pos (by omega)]
  refine r_if_eq (t := 18) d_77_5 rfl (fun hz => absurd hz (by decide)) (fun _ => ?_)
  refine r_iload_n d_77_8 rfl ?_
  refine r_if_lt (t := 18) d_77_9 rfl (fun hz => absurd hz (by omega)) (fun _ => ?_)
  refine r_iload_n d_77_12 rfl ?_
  refine r_ldc (c := 0) d_77_13 q_77_129 ?_
  refine r_icmp_le (t := 25) d_77_15 rfl (fun _ => ?_) (fun hz => absurd (by omega) hz)
  refine r_aload_n d_77_25 rfl (by omega) ?_
  refine r_getc (ki := 4) d_77_26 q_77_39 rfl sh_0 fx_0_4 (by omega) ?_
  refine r_aload_n d_77_29 rfl (by omega) ?_
  refine r_getc (ki := 1) d_77_30 q_77_18 rfl sh_0 fx_0_1 (by omega) ?_
  refine r_callvr d_77_33 q_77_95 rfl rfl (c_keeps hv hc hH) (fun M1 hM1 => ?_)
  obtain ⟨hF1, hH1⟩ := hM1
  have hc1 : cuC M1 s := hc.fr hF1 (fun x y q => by unfold WH at q; omega)
  refine r_aload_n d_77_36 rfl (by omega) ?_
  refine r_getc (ki := 1) d_77_37 q_77_18 rfl sh_0 fx_0_1 (by omega) ?_
  refine r_iload_n d_77_40 rfl ?_
  refine r_aaloadc d_77_41 sh_2 (by decide) (by omega) (by omega) (fxM (by omega) (by omega)) (by omega) ?_
  refine r_iload_n d_77_42 rfl ?_
  refine r_callvi d_77_43 q_77_130 rfl rfl (c_fills hv.1 hc1.1 (shM hk) (hc1.2 k hk) hx) (fun x M2 hM2 => ?_)
  obtain ⟨hz, hF2, hA2⟩ := hM2
  refine r_iret d_77_46 rt_77 ?_
  refine ⟨_, rfl, hz, fun x y hx => ?_, hc1.set hk hF2 (fun x y z => by unfold WA at z; omega) hA2, hH1.fr hF2 (fun x y z => by unfold WA at z; omega)⟩
  unfold WZ at hx
  rw [hF2 x y (fun z => hx (by unfold WA at z; omega))]
  exact hF1 x y (fun z => hx (Or.inr (Or.inl z)))
theorem c_turns_bad (M : Mo) (hb : cbC M) {s : Sst} (hc : cuC M s) {k i j c : Int} (h : ¬ okT s k i j c) : PJ 78 [(2, 0), (0, k), (0, i), (0, j), (0, c)] M (-2) (up2 M 0 11 (M 0 11 + 1)) := by
  have hbad := c_fails_b M hb
  refine Cl.intro (L := [(2, 0), (0, k), (0, i), (0, j), (0, c), (9, 0)]) (rcv_v ow_78.2.1 sh_0) (by unfold entl; rw [mx_78]; rfl) (by rw [mx_78]; exact Nat.le_of_ble_eq_true rfl) rfl ?_
  have key : Rn 78 32 [(2, 0), (0, k), (0, i), (0, j), (0, c), (9, 0)] [] M (fun v M' => v = some (0, -2) ∧ M' = up2 M 0 11 (M 0 11 + 1)) := by
    refine r_aload_n d_78_32 rfl (by omega) ?_
    refine r_bipush d_78_33 rfl ?_
    refine r_callvj d_78_35 q_78_91 rfl rfl hbad ?_
    refine r_iret d_78_38 rt_78 ?_
    exact ⟨rfl, rfl⟩
  refine r_aload_n d_78_0 rfl (by omega) ?_
  refine r_iload_n d_78_1 rfl ?_
  refine r_iload_n d_78_2 rfl ?_
  refine r_callvp d_78_3 q_78_133 rfl rfl (c_isPlace hc k i) ?_
  by_cases h1 : (0 ≤ k ∧ k ≤ 3) ∧ 0 ≤ i ∧ i < s.2.1 k.toNat
  · rw [if_pos h1]
    refine r_if_eq (t := 32) d_78_6 rfl (fun hz => absurd hz (by decide)) (fun _ => ?_)
    refine r_aload_n d_78_9 rfl (by omega) ?_
    refine r_iload_n d_78_10 rfl ?_
    refine r_iload_n d_78_11 rfl ?_
    refine r_callvp d_78_12 q_78_133 rfl rfl (c_isPlace hc k j) ?_
    by_cases h2 : (0 ≤ k ∧ k ≤ 3) ∧ 0 ≤ j ∧ j < s.2.1 k.toNat
    · rw [if_pos h2]
      refine r_if_eq (t := 32) d_78_15 rfl (fun hz => absurd hz (by decide)) (fun _ => ?_)
      refine r_iload_n d_78_18 rfl ?_
      refine r_iload_n d_78_19 rfl ?_
      refine r_icmp_eq (t := 32) d_78_20 rfl (fun h3 => ?_) (fun h3 => ?_)
      · exact key
      · refine r_aload_n d_78_23 rfl (by omega) ?_
        refine r_iload d_78_24 rfl ?_
        refine r_callvp d_78_26 q_78_118 rfl rfl (c_isElement M hc.1 c) ?_
        rw [if_neg (fun q => h ⟨h1.1, h1.2, h2.2, h3, q⟩)]
        refine r_if_ne (t := 39) d_78_29 rfl (fun hz => absurd hz (fun q => q rfl)) (fun _ => ?_)
        exact key
    · rw [if_neg h2]
      refine r_if_eq (t := 32) d_78_15 rfl (fun _ => ?_) (fun hz => absurd rfl hz)
      exact key
  · rw [if_neg h1]
    refine r_if_eq (t := 32) d_78_6 rfl (fun _ => ?_) (fun hz => absurd rfl hz)
    exact key
theorem trK_E {s : Sst} {k i j : Nat} {c : Int} {g h q : Nat} : trK (mdA s k) i j (kI s.1 c) g h q = kI s.1 (trnE (pI s.1) (s.2.2 k) i j c g h q) := by
  have e1 : ∀ q, trA (mdA s k) i j (kI s.1 c) g h q = kI s.1 (s.2.2 k g h q + if h = i then c * s.2.2 k g j q else 0) := fun q => by
    unfold trA mdA
    by_cases z : h = i
    · rw [if_pos z, if_pos z, kI_add, kI_mul]
    · rw [if_neg z, if_neg z, kI_add, kI_0]
  unfold trK trnE
  rw [e1, e1]
  by_cases z : q = j
  · rw [if_pos z, if_pos z, kI_mod, kI_add _ ((pI s.1 - c) * _), kI_mul (pI s.1 - c)]
    have e2 : kI s.1 (pI s.1 - c) = -(kI s.1 c) := by
      have e3 : pI s.1 - c = pI s.1 + -c := by omega
      rw [e3, kI_add, kI_ng]
      have e4 : kI s.1 (pI s.1) = 0 := by
        apply vl_inj
        rw [vl_kI, Int.emod_self, vl_0]
      rw [e4]
      grind
    rw [e2]
    grind
  · rw [if_neg z, if_neg z, kI_mod]
    grind
theorem trnE_rng {p : Int} (hp : p23 p) {X : Nat → Nat → Nat → Int} {i j : Nat} {c : Int} {g h q : Nat} : 0 ≤ trnE p X i j c g h q ∧ trnE p X i j c g h q ≤ p - 1 := by
  unfold trnE
  split
  · exact emb hp
  · exact emb hp
theorem c_turns {M : Mo} {s : Sst} {H : List Sst} (hv : vs s) (hc : cuC M s) (hH : hiC M H) {k i j : Nat} {c : Int} (hk : k < 4) (hi : i < s.2.1 k) (hj : j < s.2.1 k) (hij : i ≠ j) (hcc : 0 ≤ c ∧ c ≤ pI s.1 - 1) : CI 78 [(2, 0), (0, (k : Int)), (0, (i : Int)), (0, (j : Int)), (0, c)] M (fun z M' => z = sm (tdf (s.2.1 k) (trnE (pI s.1) (s.2.2 k) i j c) (s.2.2 k)) (2 * (s.2.1 k * s.2.1 k)) ∧ chC M M' (setm s k (s.2.1 k) (trnE (pI s.1) (s.2.2 k) i j c)) (psh H s)) := by
  have hkt : ((k : Int)).toNat = k := by omega
  refine Cl.intro (L := [(2, 0), (0, (k : Int)), (0, (i : Int)), (0, (j : Int)), (0, c), (9, 0)]) (rcv_v ow_78.2.1 sh_0) (by unfold entl; rw [mx_78]; rfl) (by rw [mx_78]; exact Nat.le_of_ble_eq_true rfl) rfl ?_
  refine r_aload_n d_78_0 rfl (by omega) ?_
  refine r_iload_n d_78_1 rfl ?_
  refine r_iload_n d_78_2 rfl ?_
  refine r_callvp d_78_3 q_78_133 rfl rfl (c_isPlace hc k i) ?_
  rw [hkt, if_pos ⟨by omega, by omega, by omega⟩]
  refine r_if_eq (t := 32) d_78_6 rfl (fun hz => absurd hz (by decide)) (fun _ => ?_)
  refine r_aload_n d_78_9 rfl (by omega) ?_
  refine r_iload_n d_78_10 rfl ?_
  refine r_iload_n d_78_11 rfl ?_
  refine r_callvp d_78_12 q_78_133 rfl rfl (c_isPlace hc k j) ?_
  rw [hkt, if_pos ⟨by omega, by omega, by omega⟩]
  refine r_if_eq (t := 32) d_78_15 rfl (fun hz => absurd hz (by decide)) (fun _ => ?_)
  refine r_iload_n d_78_18 rfl ?_
  refine r_iload_n d_78_19 rfl ?_
  refine r_icmp_eq (t := 32) d_78_20 rfl (fun hz => absurd hz (by omega)) (fun _ => ?_)
  refine r_aload_n d_78_23 rfl (by omega) ?_
  refine r_iload d_78_24 rfl ?_
  refine r_callvp d_78_26 q_78_118 rfl rfl (c_isElement M hc.1 c) ?_
  rw [if_pos hcc]
  refine r_if_ne (t := 39) d_78_29 rfl (fun _ => ?_) (fun hz => absurd (by decide) hz)
  refine r_aload_n d_78_39 rfl (by omega) ?_
  refine r_getc (ki := 4) d_78_40 q_78_39 rfl sh_0 fx_0_4 (by omega) ?_
  refine r_aload_n d_78_43 rfl (by omega) ?_
  refine r_getc (ki := 1) d_78_44 q_78_18 rfl sh_0 fx_0_1 (by omega) ?_
  refine r_callvr d_78_47 q_78_95 rfl rfl (c_keeps hv hc hH) (fun M1 hM1 => ?_)
  obtain ⟨hF1, hH1⟩ := hM1
  have hc1 : cuC M1 s := hc.fr hF1 (fun x y q => by unfold WH at q; omega)
  refine r_aload_n d_78_50 rfl (by omega) ?_
  refine r_getc (ki := 2) d_78_51 q_78_25 rfl sh_0 fx_0_2 (by omega) ?_
  refine r_aload_n d_78_54 rfl (by omega) ?_
  refine r_getc (ki := 1) d_78_55 q_78_18 rfl sh_0 fx_0_1 (by omega) ?_
  refine r_iload_n d_78_58 rfl ?_
  refine r_aaloadc d_78_59 sh_2 (by decide) (by omega) (by omega) (fxM (by omega) (by omega)) (by omega) ?_
  refine r_callvr d_78_60 q_78_137 rfl rfl (c_copies M1 sh_3 (shM hk)) (fun M2 hM2 => ?_)
  obtain ⟨hF2, hz2, hr2⟩ := hM2
  have hA2 : AA s.1 M2 3 (s.2.1 k) (mdA s k) := (hc1.2 k hk).copy hz2 hr2
  have hc2 : cuC M2 s := hc1.fr hF2 (fun x y q => by unfold WA at q; omega)
  refine r_aload_n d_78_63 rfl (by omega) ?_
  refine r_getc (ki := 2) d_78_64 q_78_25 rfl sh_0 fx_0_2 (by omega) ?_
  refine r_iload_n d_78_67 rfl ?_
  refine r_iload_n d_78_68 rfl ?_
  refine r_iload d_78_69 rfl ?_
  refine r_callvr d_78_71 q_78_141 rfl rfl (c_changesBasis hv.1 hc2.1 sh_3 hA2 hi hj hij hcc) (fun M3 hM3 => ?_)
  obtain ⟨hF3, hA3⟩ := hM3
  have hc3 : cuC M3 s := hc2.fr hF3 (fun x y q => by unfold WA at q; omega)
  have hdf := c_differences hv.1 sh_3 (shM hk) hA3 (hc3.2 k hk)
  refine r_aload_n d_78_74 rfl (by omega) ?_
  refine r_getc (ki := 2) d_78_75 q_78_25 rfl sh_0 fx_0_2 (by omega) ?_
  refine r_aload_n d_78_78 rfl (by omega) ?_
  refine r_getc (ki := 1) d_78_79 q_78_18 rfl sh_0 fx_0_1 (by omega) ?_
  refine r_iload_n d_78_82 rfl ?_
  refine r_aaloadc d_78_83 sh_2 (by decide) (by omega) (by omega) (fxM (by omega) (by omega)) (by omega) ?_
  refine r_callvp d_78_84 q_78_145 rfl rfl hdf ?_
  refine r_istore d_78_87 rfl (stl_6_5 rfl rfl) ?_
  refine r_aload_n d_78_89 rfl (by omega) ?_
  refine r_getc (ki := 1) d_78_90 q_78_18 rfl sh_0 fx_0_1 (by omega) ?_
  refine r_iload_n d_78_93 rfl ?_
  refine r_aaloadc d_78_94 sh_2 (by decide) (by omega) (by omega) (fxM (by omega) (by omega)) (by omega) ?_
  refine r_aload_n d_78_95 rfl (by omega) ?_
  refine r_getc (ki := 2) d_78_96 q_78_25 rfl sh_0 fx_0_2 (by omega) ?_
  refine r_callvr d_78_99 q_78_137 rfl rfl (c_copies M3 (shM hk) sh_3) (fun M4 hM4 => ?_)
  obtain ⟨hF4, hz4, hr4⟩ := hM4
  refine r_iload d_78_102 rfl ?_
  refine r_iret d_78_104 rt_78 ?_
  have hA4 := hA3.copy hz4 hr4
  refine ⟨_, rfl, ?_, fun x y hx => ?_, hc3.set hk hF4 (fun x y z => by unfold WA at z; omega) (hA4.congr (fun g i j _ _ _ => trK_E)), ((hH1.fr hF2 (fun x y z => by unfold WA at z; omega)).fr hF3 (fun x y z => by unfold WA at z; omega)).fr hF4 (fun x y z => by unfold WA at z; omega)⟩
  · refine sm_congr (fun d hd => ?_)
    obtain ⟨g, i', j', h1, h2, h3, rfl⟩ := ixs hd
    obtain ⟨d1, d2, d3⟩ := ixd (g := g) h2 h3
    unfold tdf
    rw [d1, d2, d3]
    dsimp only
    have hr := trnE_rng (pI23 hv.1) (X := s.2.2 k) (i := i) (j := j) (c := c) (g := g) (h := i') (q := j')
    have ea := md_vl hv hk h1 h2 h3
    have eb : vl (trK (mdA s k) i j (kI s.1 c) g i' j') = trnE (pI s.1) (s.2.2 k) i j c g i' j' := by
      rw [trK_E, vl_kI, Int.emod_eq_of_lt hr.1 (by omega)]
    by_cases z : trnE (pI s.1) (s.2.2 k) i j c g i' j' = s.2.2 k g i' j'
    · rw [if_pos z, if_pos (by rw [ea, eb]; exact z)]
    · rw [if_neg z, if_neg (by rw [ea, eb]; exact z)]
  · unfold WZ WX at hx
    rw [hF4 x y (fun z => hx (by unfold WA at z; omega)), hF3 x y (fun z => hx (by unfold WA at z; omega)), hF2 x y (fun z => hx (by unfold WA at z; omega))]
    exact hF1 x y (fun z => hx (Or.inr (Or.inl z)))
