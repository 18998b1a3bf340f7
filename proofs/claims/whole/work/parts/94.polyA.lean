/-! poly: the model; the class's integer matrices. -/
def okP (s : Sst) (k i : Int) : Prop := (0 ≤ k ∧ k ≤ 3) ∧ 0 ≤ i ∧ i ≤ s.2.1 k.toNat
def polA {e : Nat} (n : Nat) (A : Nat → Nat → Nat → Kf e) (w : Nat → Int) (l i : Nat) : Int := (sgz (n - i) * ek (fun a b => vl (wrow n A w l a b)) n (n - i)) % pI e
theorem m_poly_bad (M : Mo) (hb : cb M) {s : Sst} (hc : cu M s) {k i : Int} (h : ¬ okP s k i) : PJ 211 [(2, 217), (0, k), (0, i)] M (-2) (up2 M 218 0 (M 218 0 + 1)) := by
  have hbad := m_bad M (hb 0 (by omega) (by omega))
  refine Cl.intro (L := [(2, 217), (0, k), (0, i), (9, 0), (9, 0), (9, 0)]) (rcv_v ow_211.2.1 sh_217) (by unfold entl; rw [mx_211]; rfl) (by rw [mx_211]; exact Nat.le_of_ble_eq_true rfl) rfl ?_
  have key : Rn 211 21 [(2, 217), (0, k), (0, i), (9, 0), (9, 0), (9, 0)] [] M (fun v M' => v = some (0, -2) ∧ M' = up2 M 218 0 (M 218 0 + 1)) := by
    refine r_aload_n d_211_21 rfl (by omega) ?_
    refine r_callvj d_211_22 q_211_172 rfl rfl hbad ?_
    refine r_iret d_211_25 rt_211 ?_
    exact ⟨rfl, rfl⟩
  refine r_iload_n d_211_0 rfl ?_
  refine r_callsp d_211_1 q_211_178 rfl rfl (m_isModule M k) ?_
  by_cases hk : 0 ≤ k ∧ k ≤ 3
  · rw [if_pos hk]
    have hsz := (hc.2 k.toNat (by omega)).1
    rw [show ((k.toNat : Nat) : Int) = k by omega] at hsz
    refine r_if_eq (t := 21) d_211_4 rfl (fun hz => absurd hz (by decide)) (fun _ => ?_)
    refine r_iload_n d_211_7 rfl ?_
    refine r_iconst d_211_8 rfl ?_
    refine r_aload_n d_211_9 rfl (by omega) ?_
    refine r_getc (ki := 2) d_211_10 q_211_17 rfl sh_217 fx_217_2 (by omega) ?_
    refine r_iload_n d_211_13 rfl ?_
    refine r_ialoadv d_211_14 sh_219 (by omega) (by omega) hsz ?_
    refine r_callsp d_211_15 q_211_118 rfl rfl (m_in M i 0 _) ?_
    rw [if_neg (fun q => h ⟨hk, q⟩)]
    refine r_if_ne (t := 26) d_211_18 rfl (fun hz => absurd hz (fun q => q rfl)) (fun _ => ?_)
    exact key
  · rw [if_neg hk]
    refine r_if_eq (t := 21) d_211_4 rfl (fun _ => ?_) (fun hz => absurd rfl hz)
    exact key
theorem sm_mod {f g : Nat → Int} {p : Int} : ∀ {m : Nat}, (∀ i, i < m → f i % p = g i % p) → sm f m % p = sm g m % p
  | 0, _ => rfl
  | m + 1, h => by
    show (sm f m + f m) % p = (sm g m + g m) % p
    rw [Int.add_emod, sm_mod (fun i hi => h i (by omega)), h m (by omega), ← Int.add_emod]
theorem m_poly {M : Mo} {s : Sst} (hv : vs s) (hc : cu M s) {l : Nat} {w : Nat → Int} (hw : Wd M l w) {k i : Nat} (hk : k < 4) (hi : i ≤ s.2.1 k) : CI 211 [(2, 217), (0, (k : Int)), (0, (i : Int))] M (fun z M' => z = polA (s.2.1 k) (mdA s k) w l i ∧ Fr W1 M M') := by
  have h6 := vs_6 hv hk
  have h23 := pI23 hv.1
  have hb := h23.b
  have hMM := hc.MM hv hk
  have hszk := (hc.2 k hk).1
  refine Cl.intro (L := [(2, 217), (0, (k : Int)), (0, (i : Int)), (9, 0), (9, 0), (9, 0)]) (rcv_v ow_211.2.1 sh_217) (by unfold entl; rw [mx_211]; rfl) (by rw [mx_211]; exact Nat.le_of_ble_eq_true rfl) rfl ?_
  refine r_iload_n d_211_0 rfl ?_
  refine r_callsp d_211_1 q_211_178 rfl rfl (m_isModule M k) ?_
  rw [if_pos (by omega)]
  refine r_if_eq (t := 21) d_211_4 rfl (fun hz => absurd hz (by decide)) (fun _ => ?_)
  refine r_iload_n d_211_7 rfl ?_
  refine r_iconst d_211_8 rfl ?_
  refine r_aload_n d_211_9 rfl (by omega) ?_
  refine r_getc (ki := 2) d_211_10 q_211_17 rfl sh_217 fx_217_2 (by omega) ?_
  refine r_iload_n d_211_13 rfl ?_
  refine r_ialoadv d_211_14 sh_219 (by omega) (by omega) hszk ?_
  refine r_callsp d_211_15 q_211_118 rfl rfl (m_in M i 0 _) ?_
  rw [if_pos (by omega)]
  refine r_if_ne (t := 26) d_211_18 rfl (fun _ => ?_) (fun hz => absurd (by decide) hz)
  refine r_aload_n d_211_26 rfl (by omega) ?_
  refine r_iload_n d_211_27 rfl ?_
  refine r_callvr d_211_28 q_211_297 rfl rfl (m_tellsWord hv.1 M hc.1 (by omega) hMM hw) (fun M1 hM1 => ?_)
  obtain ⟨hF1, hrw⟩ := hM1
  have hsz1 : M1 219 (k : Int) = s.2.1 k := (hF1 _ _ (by unfold W1; omega)).trans hszk
  have hp1 : M1 217 1 = pI s.1 := (hF1 _ _ (by unfold W1; omega)).trans hc.1
  have hRr : ∀ a b : Nat, a < s.2.1 k → b < s.2.1 k → M1 244 (6 * a + b) = vl (wrow (s.2.1 k) (mdA s k) w l a b) ∧ 0 ≤ vl (wrow (s.2.1 k) (mdA s k) w l a b) ∧ vl (wrow (s.2.1 k) (mdA s k) w l a b) ≤ 2 := fun a b ha hb2 => ⟨hrw.2 a b ha hb2, vl_b hv.1 _⟩
  unfold polA
  have hmA : (fun g i j => kI s.1 (s.2.2 k g i j)) = mdA s k := rfl
  rw [← hmA]
  generalize hRd : (fun a b => vl (wrow (s.2.1 k) (fun g i j => kI s.1 (s.2.2 k g i j)) w l a b)) = R
  have hR : ∀ a b : Nat, a < s.2.1 k → b < s.2.1 k → M1 244 (6 * a + b) = R a b ∧ 0 ≤ R a b ∧ R a b ≤ 2 := fun a b ha hb2 => by rw [← hRd]; exact hRr a b ha hb2
  generalize hn : s.2.1 k = n at h6 hi hsz1 hR
  have hp64 : (((2 ^ n : Nat)) : Int) ≤ ((64 : Nat) : Int) := by
    have := Nat.pow_le_pow_right (show 0 < 2 by decide) h6
    exact Int.ofNat_le.mpr this
  refine r_aload_n d_211_31 rfl (by omega) ?_
  refine r_getc (ki := 2) d_211_32 q_211_17 rfl sh_217 fx_217_2 (by omega) ?_
  refine r_iload_n d_211_35 rfl ?_
  refine r_ialoadv d_211_36 sh_219 (by omega) (by omega) hsz1 ?_
  refine r_istore_n d_211_37 rfl (stl_6_3 rfl rfl) ?_
  refine r_iconst d_211_38 rfl ?_
  refine r_istore d_211_39 rfl (stl_6_4 rfl rfl) ?_
  refine r_iconst d_211_41 rfl ?_
  refine r_istore d_211_42 rfl (stl_6_5 rfl rfl) ?_
  refine dn_ind (R := fun q => ∀ (M2 : Mo) (t : Int), Fr (fun a _ => a = 247) M1 M2 → 0 ≤ t ∧ t ≤ 2 * q → t % pI s.1 = sm (fun P => if cdS (btS P) 6 = n - i then pm R (btS P) else 0) q.toNat % pI s.1 → Rn 211 44 [(2, 217), (0, (k : Int)), (0, (i : Int)), (0, (n : Int)), (0, t), (0, q)] [] M2 _) (lo := 0) (n := ((2 ^ n : Nat) : Int)) ?_ ?_ 0 (by omega) (Int.natCast_nonneg _) M1 0 Fr.refl (by omega) rfl
  · intro M2 t hF ht hq
    rw [show (((2 ^ n : Nat) : Int)).toNat = 2 ^ n by omega, ← sumS_bits h6 (fun S => if cdS S 6 = n - i then pm R S else 0)] at hq
    have hq2 : t % pI s.1 = ek R n (n - i) % pI s.1 := hq
    have hp2 : M2 217 1 = pI s.1 := (hF _ _ (by omega)).trans hp1
    have hFa : Fr W1 M M2 := hF1.trans hF (fun _ _ q => q) (fun x y q => by unfold W1; omega)
    have hpar : ((n : Int) - i) % 2 = 0 ↔ (n - i) % 2 = 0 := by omega
    refine r_iload d_211_44 rfl ?_
    refine r_iconst d_211_46 rfl ?_
    refine r_iload_n d_211_47 rfl ?_
    refine r_ishl d_211_48 (shl_ok (by omega)) ?_
    refine r_icmp_ge (t := 84) d_211_49 rfl (fun _ => ?_) (fun hz => absurd (by omega) hz)
    refine r_iload_n d_211_84 rfl ?_
    refine r_iload_n d_211_85 rfl ?_
    refine r_isub d_211_86 (by omega) ?_
    refine r_iconst d_211_87 rfl ?_
    refine r_iremn d_211_88 (by omega) (by omega) ?_
    refine r_if_ne (t := 102) d_211_89 rfl (fun hodd => ?_) (fun hodd => ?_)
    · have hsg : sgz (n - i) = -1 := if_neg (fun q => by omega)
      have hmb := mb (x := pI s.1 - 1) (y := t) (a := 2) (b := 128) (by omega) (by omega)
      refine r_aload_n d_211_102 rfl (by omega) ?_
      refine r_getfv (ki := 1) d_211_103 q_211_13 rfl sh_217 hp2 ?_
      refine r_iconst d_211_106 rfl ?_
      refine r_isub d_211_107 (by omega) ?_
      refine r_iload d_211_108 rfl ?_
      refine r_imul d_211_110 (by omega) ?_
      refine r_aload_n d_211_111 rfl (by omega) ?_
      refine r_getfv (ki := 1) d_211_112 q_211_13 rfl sh_217 hp2 ?_
      refine r_iremn d_211_115 (by omega) (by omega) ?_
      refine r_iret d_211_116 rt_211 ?_
      refine ⟨_, rfl, ?_, hFa⟩
      rw [hsg, Int.mul_emod, hq2, ← Int.mul_emod]
      have e1 : (pI s.1 - 1) * ek R n (n - i) = -1 * ek R n (n - i) + ek R n (n - i) * pI s.1 := by grind
      rw [e1, Int.add_mul_emod_self_right]
    · have hsg : sgz (n - i) = 1 := if_pos (by omega)
      refine r_iload d_211_92 rfl ?_
      refine r_aload_n d_211_94 rfl (by omega) ?_
      refine r_getfv (ki := 1) d_211_95 q_211_13 rfl sh_217 hp2 ?_
      refine r_iremn d_211_98 (by omega) (by omega) ?_
      refine r_goto (t := 116) d_211_99 rfl ?_
      refine r_iret d_211_116 rt_211 ?_
      refine ⟨_, rfl, ?_, hFa⟩
      rw [hsg, hq2, Int.one_mul]
  · intro q q1 q2 ih M2 t hF ht hq
    obtain ⟨P, rfl⟩ : ∃ P : Nat, q = P := ⟨q.toNat, by omega⟩
    rw [show ((P : Int)).toNat = P by omega] at hq
    rw [show ((P : Int) + 1).toNat = P + 1 by omega] at ih
    have hP2 : P < 2 ^ n := by omega
    have hP64 : P < 64 := by omega
    have hp2 : M2 217 1 = pI s.1 := (hF _ _ (by omega)).trans hp1
    have hpo : pop P = (cdS (btS P) 6 : Nat) := (pop_f ⟨P, hP64⟩).1
    have hones := m_ones M2 hP64
    rw [hpo] at hones
    have hst : sm (fun P => if cdS (btS P) 6 = n - i then pm R (btS P) else 0) (P + 1) = sm (fun P => if cdS (btS P) 6 = n - i then pm R (btS P) else 0) P + if cdS (btS P) 6 = n - i then pm R (btS P) else 0 := rfl
    refine r_iload d_211_44 rfl ?_
    refine r_iconst d_211_46 rfl ?_
    refine r_iload_n d_211_47 rfl ?_
    refine r_ishl d_211_48 (shl_ok (by omega)) ?_
    refine r_icmp_ge (t := 84) d_211_49 rfl (fun hz => absurd hz (by omega)) (fun _ => ?_)
    refine r_iload d_211_52 rfl ?_
    refine r_iload d_211_54 rfl ?_
    refine r_callsp d_211_56 q_211_303 rfl rfl hones ?_
    refine r_iload_n d_211_59 rfl ?_
    refine r_iload_n d_211_60 rfl ?_
    refine r_isub d_211_61 (by omega) ?_
    refine r_icmp_ne (t := 74) d_211_62 rfl (fun hne => ?_) (fun hne => ?_)
    · rw [if_neg (by omega), Int.add_zero] at hst
      refine r_iconst d_211_74 rfl ?_
      refine r_iadd d_211_75 (by omega) ?_
      refine r_istore d_211_76 rfl (stl_6_4 rfl rfl) ?_
      refine r_iinc d_211_78 rfl (by omega) (stl_6_5 rfl rfl) ?_
      refine r_goto (t := 44) d_211_81 rfl ?_
      exact ih M2 _ hF (by omega) (by rw [hst, Int.add_zero]; exact hq)
    · rw [if_pos (by omega)] at hst
      refine r_aload_n d_211_65 rfl (by omega) ?_
      refine r_iload d_211_66 rfl ?_
      refine r_callvi d_211_68 q_211_309 rfl rfl (m_minor hp2 h23 h6 (fun a b ha hb2 => by rw [hF _ _ (by omega)]; exact hR a b ha hb2) hP2) (fun x M3 hM3 => ?_)
      obtain ⟨hx, hF3⟩ := hM3
      have hxr := emb (x := pm R (btS P)) h23
      rw [← hx] at hxr
      refine r_goto (t := 75) d_211_71 rfl ?_
      refine r_iadd d_211_75 (by omega) ?_
      refine r_istore d_211_76 rfl (stl_6_4 rfl rfl) ?_
      refine r_iinc d_211_78 rfl (by omega) (stl_6_5 rfl rfl) ?_
      refine r_goto (t := 44) d_211_81 rfl ?_
      refine ih M3 _ (hF.trans hF3 (fun _ _ q => q) (fun _ _ q => q)) (by omega) ?_
      rw [hst, Int.add_emod, hq, hx, Int.emod_emod, ← Int.add_emod]
theorem shG_f : ∀ i : Fin 6, shp S0 (189 + (i.val : Int)) = (20, 6) ∧ shp S0 (196 + (i.val : Int)) = (20, 6) ∧ shp S0 (203 + (i.val : Int)) = (20, 6) := by decide +kernel
theorem shG {i : Nat} (h : i < 6) : shp S0 (189 + (i : Int)) = (20, 6) ∧ shp S0 (196 + (i : Int)) = (20, 6) ∧ shp S0 (203 + (i : Int)) = (20, 6) := shG_f ⟨i, h⟩
theorem fxG {i : Int} (h0 : 0 ≤ i) (h1 : i < 6) : fx 188 i = some (189 + i) ∧ fx 195 i = some (196 + i) ∧ fx 202 i = some (203 + i) := by
  unfold fx
  rw [sh_188, sh_195, sh_202, if_pos ⟨h0, h1⟩, if_pos ⟨h0, h1⟩, if_pos ⟨h0, h1⟩]
  exact ⟨rfl, rfl, rfl⟩
def MX (M : Mo) (b : Int) (n : Nat) (F : Nat → Nat → Int) : Prop := ∀ i j : Nat, i < n → j < n → M (b + i) j = F i j
theorem MX.fr {M M1 : Mo} {b : Int} {n : Nat} {F : Nat → Nat → Int} {P : Int → Int → Prop} (h : MX M b n F) (hF : Fr P M M1) (hP : ∀ x y, P x y → ¬ (b ≤ x ∧ x < b + n)) : MX M1 b n F := fun i j hi hj => (hF _ _ (fun q => hP _ _ q (by omega))).trans (h i j hi hj)
theorem c_takesRow {e : Nat} (he : e ≤ 1) (M : Mo) {i : Nat} (hi : i < 6) (w : Vc e) : CV 42 [(2, 186), (0, (i : Int)), (1, pv w)] M (fun M' => Fr (fun x _ => x = 189 + (i : Int)) M M' ∧ ∀ j : Nat, j < 6 → M' (189 + (i : Int)) j = vl (w j)) := by
  refine Cl.intro (L := [(2, 186), (0, (i : Int)), (1, pv w), (9, 0), (9, 0)]) (rcv_v ow_42.2.1 sh_186) (by unfold entl; rw [mx_42]; rfl) (by rw [mx_42]; exact Nat.le_of_ble_eq_true rfl) rfl ?_
  refine r_iconst d_42_0 rfl ?_
  refine r_istore d_42_1 rfl (stl_5_4 rfl rfl) ?_
  refine dn_ind (R := fun j => ∀ f : Int → Int, (∀ j' : Nat, (j' : Int) < j → f j' = vl (w j')) → Rn 42 3 [(2, 186), (0, (i : Int)), (1, pv w), (9, 0), (0, j)] [] (sr M (189 + (i : Int)) f) _) (lo := 0) (n := 6) ?_ ?_ 0 (by omega) (by omega) (M (189 + (i : Int))) (fun j' z => by omega) |> (fun k => by rw [sr_self] at k; exact k)
  · intro f hf
    refine r_iload d_42_3 rfl ?_
    refine r_bipush d_42_5 rfl ?_
    refine r_icmp_ge (t := 31) d_42_7 rfl (fun _ => ?_) (fun hz => absurd (by omega) hz)
    refine r_vret d_42_31 rt_42 ?_
    exact ⟨rfl, fun x y hx => by rw [sr_ne _ _ hx], fun j hj => by rw [sr_eq]; exact hf j (by omega)⟩
  · intro j j1 j2 ih f hf
    obtain ⟨l, rfl⟩ : ∃ l : Nat, j = l := ⟨j.toNat, by omega⟩
    refine r_iload d_42_3 rfl ?_
    refine r_bipush d_42_5 rfl ?_
    refine r_icmp_ge (t := 31) d_42_7 rfl (fun hz => absurd hz (by omega)) (fun _ => ?_)
    refine r_aload_n d_42_10 rfl (by omega) ?_
    refine r_getc (ki := 1) d_42_11 q_42_17 rfl sh_186 fx_186_1 (by omega) ?_
    refine r_iload_n d_42_14 rfl ?_
    refine r_aaloadc d_42_15 sh_188 (by decide) (by omega) (by omega) (fxG (by omega) (by omega)).1 (by omega) ?_
    refine r_iload d_42_16 rfl ?_
    refine r_lload_n d_42_18 rfl ?_
    refine r_iload d_42_19 rfl ?_
    refine r_callsp d_42_21 q_42_26 rfl rfl (c_elemV he _ w (by omega)) ?_
    refine r_iastore d_42_24 (shG hi).1 (by omega) (by omega) ?_
    rw [up_sr]
    refine r_iinc d_42_25 rfl (by omega) (stl_5_4 rfl rfl) ?_
    refine r_goto (t := 3) d_42_28 rfl ?_
    refine ih _ (fun j' z => ?_)
    by_cases q : j' = l
    · rw [q, u1_eq]
    · rw [u1_ne _ _ (by omega)]
      exact hf j' (by omega)
theorem c_addsUnit {M : Mo} {n : Nat} (hn : n ≤ 6) {P : Nat → Nat → Int} (hP : MX M 203 n P) {c b1 b2 : Int} (hb1 : ∀ i j : Nat, i < n → j < n → -b1 ≤ P i j ∧ P i j ≤ b1) (hb2 : -b2 ≤ c ∧ c ≤ b2) (hbb : b1 + b2 ≤ 2147483000) : CV 44 [(2, 186), (0, (n : Int)), (0, c)] M (fun M' => Fr (fun x _ => 196 ≤ x ∧ x ≤ 201) M M' ∧ MX M' 196 n (fun i j => P i j + if i = j then c else 0)) := by
  refine Cl.intro (L := [(2, 186), (0, (n : Int)), (0, c), (9, 0), (9, 0)]) (rcv_v ow_44.2.1 sh_186) (by unfold entl; rw [mx_44]; rfl) (by rw [mx_44]; exact Nat.le_of_ble_eq_true rfl) rfl ?_
  refine r_iconst d_44_0 rfl ?_
  refine r_istore_n d_44_1 rfl (stl_5_3 rfl rfl) ?_
  refine dn_ind (R := fun i => ∀ (M1 : Mo) (y : AV), Fr (fun x _ => 196 ≤ x ∧ x ≤ 201) M M1 → (∀ i' j' : Nat, (i' : Int) < i → i' < n → j' < n → M1 (196 + i') j' = P i' j' + if i' = j' then c else 0) → Rn 44 2 [(2, 186), (0, (n : Int)), (0, c), (0, i), y] [] M1 _) (lo := 0) (n := n) ?_ ?_ 0 (by omega) (by omega) M (9, 0) Fr.refl (fun i' j' z => by omega)
  · intro M1 y hF h
    refine r_iload_n d_44_2 rfl ?_
    refine r_iload_n d_44_3 rfl ?_
    refine r_icmp_ge (t := 58) d_44_4 rfl (fun _ => ?_) (fun hz => absurd (by omega) hz)
    refine r_vret d_44_58 rt_44 ?_
    exact ⟨rfl, hF, fun i j hi hj => h i j (by omega) hi hj⟩
  · intro i i1 i2 ih M1 y hF h
    obtain ⟨k, rfl⟩ : ∃ k : Nat, i = k := ⟨i.toNat, by omega⟩
    refine r_iload_n d_44_2 rfl ?_
    refine r_iload_n d_44_3 rfl ?_
    refine r_icmp_ge (t := 58) d_44_4 rfl (fun hz => absurd hz (by omega)) (fun _ => ?_)
    refine r_iconst d_44_7 rfl ?_
    refine r_istore d_44_8 rfl (stl_5_4 rfl rfl) ?_
    refine dn_ind (R := fun j => ∀ (M1 : Mo), Fr (fun x _ => 196 ≤ x ∧ x ≤ 201) M M1 → (∀ i' j' : Nat, ((i' : Int) < k ∨ i' = k ∧ (j' : Int) < j) → i' < n → j' < n → M1 (196 + i') j' = P i' j' + if i' = j' then c else 0) → Rn 44 10 [(2, 186), (0, (n : Int)), (0, c), (0, (k : Int)), (0, j)] [] M1 _) (lo := 0) (n := n) ?_ ?_ 0 (by omega) (by omega) M1 hF (fun i' j' z z2 z3 => h i' j' (by omega) z2 z3)
    · intro M1 hF h
      refine r_iload d_44_10 rfl ?_
      refine r_iload_n d_44_12 rfl ?_
      refine r_icmp_ge (t := 52) d_44_13 rfl (fun _ => ?_) (fun hz => absurd (by omega) hz)
      refine r_iinc d_44_52 rfl (by omega) (stl_5_3 rfl rfl) ?_
      refine r_goto (t := 2) d_44_55 rfl ?_
      exact ih M1 _ hF (fun i' j' z z2 z3 => h i' j' (by omega) z2 z3)
    · intro j j1 j2 ihj M1 hF h
      obtain ⟨l, rfl⟩ : ∃ l : Nat, j = l := ⟨j.toNat, by omega⟩
      have hPv : M1 (203 + (k : Int)) l = P k l := (hF _ _ (by omega)).trans (hP k l (by omega) (by omega))
      have hbd := hb1 k l (by omega) (by omega)
      have hnx : ∀ z : Int, z = P k l + (if k = l then c else 0) → Rn 44 46 [(2, 186), (0, (n : Int)), (0, c), (0, (k : Int)), (0, (l : Int))] [] (up2 M1 (196 + (k : Int)) l z) (fun v M' => v = none ∧ Fr (fun x _ => 196 ≤ x ∧ x ≤ 201) M M' ∧ MX M' 196 n (fun i j => P i j + if i = j then c else 0)) := by
        intro z hz
        refine r_iinc d_44_46 rfl (by omega) (stl_5_4 rfl rfl) ?_
        refine r_goto (t := 10) d_44_49 rfl ?_
        refine ihj _ (fun x y hx => by rw [uq_ne (by omega)]; exact hF x y hx) (fun i' j' z1 z2 z3 => ?_)
        by_cases q : i' = k ∧ j' = l
        · rw [q.1, q.2, uq_eq]
          exact hz
        · rw [uq_ne (by omega)]
          exact h i' j' (by omega) z2 z3
      refine r_iload d_44_10 rfl ?_
      refine r_iload_n d_44_12 rfl ?_
      refine r_icmp_ge (t := 52) d_44_13 rfl (fun hz => absurd hz (by omega)) (fun _ => ?_)
      refine r_aload_n d_44_16 rfl (by omega) ?_
      refine r_getc (ki := 2) d_44_17 q_44_20 rfl sh_186 fx_186_2 (by omega) ?_
      refine r_iload_n d_44_20 rfl ?_
      refine r_aaloadc d_44_21 sh_195 (by decide) (by omega) (by omega) (fxG (by omega) (by omega)).2.1 (by omega) ?_
      refine r_iload d_44_22 rfl ?_
      refine r_aload_n d_44_24 rfl (by omega) ?_
      refine r_getc (ki := 3) d_44_25 q_44_23 rfl sh_186 fx_186_3 (by omega) ?_
      refine r_iload_n d_44_28 rfl ?_
      refine r_aaloadc d_44_29 sh_202 (by decide) (by omega) (by omega) (fxG (by omega) (by omega)).2.2 (by omega) ?_
      refine r_iload d_44_30 rfl ?_
      refine r_ialoadv d_44_32 (shG (show k < 6 by omega)).2.2 (by omega) (by omega) hPv ?_
      refine r_iload_n d_44_33 rfl ?_
      refine r_iload d_44_34 rfl ?_
      refine r_icmp_ne (t := 43) d_44_36 rfl (fun hne => ?_) (fun hne => ?_)
      · refine r_iconst d_44_43 rfl ?_
        refine r_iadd d_44_44 (by omega) ?_
        refine r_iastore d_44_45 (shG (show k < 6 by omega)).2.1 (by omega) (by omega) ?_
        exact hnx _ (by rw [if_neg (by omega)])
      · refine r_iload_n d_44_39 rfl ?_
        refine r_goto (t := 44) d_44_40 rfl ?_
        refine r_iadd d_44_44 (by omega) ?_
        refine r_iastore d_44_45 (shG (show k < 6 by omega)).2.1 (by omega) (by omega) ?_
        exact hnx _ (by rw [if_pos (by omega)])
theorem sm_abs {f : Nat → Int} {K : Int} (hK : 0 ≤ K) : ∀ {m : Nat}, (∀ i, i < m → -K ≤ f i ∧ f i ≤ K) → -(m * K) ≤ sm f m ∧ sm f m ≤ m * K
  | 0, _ => by
    show -(((0 : Nat) : Int) * K) ≤ 0 ∧ (0 : Int) ≤ ((0 : Nat) : Int) * K
    omega
  | m + 1, h => by
    have h1 := sm_abs hK (m := m) (fun i hi => h i (by omega))
    have h2 := h m (by omega)
    have e1 : ((m + 1 : Nat) : Int) * K = m * K + K := by
      rw [Int.natCast_add, Int.add_mul]
      have : ((1 : Nat) : Int) * K = K := Int.one_mul K
      omega
    show -(((m + 1 : Nat) : Int) * K) ≤ sm f m + f m ∧ sm f m + f m ≤ ((m + 1 : Nat) : Int) * K
    rw [e1]
    omega
theorem mul_abs {a b r K : Int} (ha : 0 ≤ a ∧ a ≤ r) (hb : -K ≤ b ∧ b ≤ K) (hK : 0 ≤ K) : -(r * K) ≤ a * b ∧ a * b ≤ r * K := by
  have h1 : a * b ≤ a * K := Int.mul_le_mul_of_nonneg_left hb.2 ha.1
  have h2 : a * K ≤ r * K := Int.mul_le_mul_of_nonneg_right ha.2 hK
  have h3 : a * (-K) ≤ a * b := Int.mul_le_mul_of_nonneg_left hb.1 ha.1
  rw [Int.mul_neg] at h3
  omega
theorem c_multiplied {M : Mo} {n : Nat} (hn : n ≤ 6) {R F : Nat → Nat → Int} (hR : MX M 189 n R) (hF : MX M 196 n F) {r K : Int} (hr : ∀ i j : Nat, i < n → j < n → 0 ≤ R i j ∧ R i j ≤ r) (hK : ∀ i j : Nat, i < n → j < n → -K ≤ F i j ∧ F i j ≤ K) (hK0 : 0 ≤ K) (hr12 : r = 1 ∨ r = 2 ∧ n ≤ 5) (hKb : K ≤ 25200000) : CI 45 [(2, 186), (0, (n : Int))] M (fun z M' => z = sm (fun i => sm (fun q => R i q * F q i) n) n ∧ Fr (fun x _ => 203 ≤ x ∧ x ≤ 208) M M' ∧ MX M' 203 n (fun i j => sm (fun q => R i q * F q j) n)) := by
  have hpt : ∀ i j q : Nat, i < n → j < n → q < n → -(r * K) ≤ R i q * F q j ∧ R i q * F q j ≤ r * K := fun i j q hi hj hq => mul_abs (hr i q hi hq) (hK q j hq hj) hK0
  have hrK : 0 ≤ r * K ∧ r * K ≤ 2 * K := by rcases hr12 with rfl | ⟨rfl, -⟩ <;> omega
  have hps : ∀ i j m : Nat, i < n → j < n → m ≤ n → -(m * (r * K)) ≤ sm (fun q => R i q * F q j) m ∧ sm (fun q => R i q * F q j) m ≤ m * (r * K) := fun i j m hi hj hm => sm_abs hrK.1 (fun q hq => hpt i j q hi hj (by omega))
  have hmK : ∀ m : Nat, m ≤ n → 0 ≤ (m : Int) * (r * K) ∧ (m : Int) * (r * K) ≤ 10 * K := fun m hm => by
    have h1 : (m : Int) * (r * K) ≤ n * (r * K) := Int.mul_le_mul_of_nonneg_right (by omega) hrK.1
    have h2 : 0 ≤ (m : Int) * (r * K) := Int.mul_nonneg (by omega) hrK.1
    have h3 : (n : Int) * (r * K) ≤ 10 * K := by
      rw [← Int.mul_assoc]
      refine Int.mul_le_mul_of_nonneg_right ?_ hK0
      rcases hr12 with rfl | ⟨rfl, h⟩ <;> omega
    omega
  refine Cl.intro (L := [(2, 186), (0, (n : Int)), (9, 0), (9, 0), (9, 0), (9, 0), (9, 0)]) (rcv_v ow_45.2.1 sh_186) (by unfold entl; rw [mx_45]; rfl) (by rw [mx_45]; exact Nat.le_of_ble_eq_true rfl) rfl ?_
  refine r_iconst d_45_0 rfl ?_
  refine r_istore_n d_45_1 rfl (stl_7_2 rfl rfl) ?_
  refine r_iconst d_45_2 rfl ?_
  refine r_istore_n d_45_3 rfl (stl_7_3 rfl rfl) ?_
  refine dn_ind (R := fun i => ∀ (M1 : Mo) (t : Int) (y1 y2 y3 : AV), Fr (fun x _ => 203 ≤ x ∧ x ≤ 208) M M1 → t = sm (fun i => sm (fun q => R i q * F q i) n) i.toNat → (∀ i' j' : Nat, (i' : Int) < i → i' < n → j' < n → M1 (203 + i') j' = sm (fun q => R i' q * F q j') n) → Rn 45 4 [(2, 186), (0, (n : Int)), (0, t), (0, i), y1, y2, y3] [] M1 _) (lo := 0) (n := n) ?_ ?_ 0 (by omega) (by omega) M 0 (9, 0) (9, 0) (9, 0) Fr.refl rfl (fun i' j' z => by omega)
  · intro M1 t y1 y2 y3 hFr ht h
    refine r_iload_n d_45_4 rfl ?_
    refine r_iload_n d_45_5 rfl ?_
    refine r_icmp_ge (t := 95) d_45_6 rfl (fun _ => ?_) (fun hz => absurd (by omega) hz)
    refine r_iload_n d_45_95 rfl ?_
    refine r_iret d_45_96 rt_45 ?_
    exact ⟨_, rfl, ht, hFr, fun i j hi hj => h i j (by omega) hi hj⟩
  · intro i i1 i2 ih M1 t y1 y2 y3 hFr ht h
    obtain ⟨k, rfl⟩ : ∃ k : Nat, i = k := ⟨i.toNat, by omega⟩
    rw [show ((k : Int)).toNat = k by omega] at ht
    rw [show ((k : Int) + 1).toNat = k + 1 by omega] at ih
    have htb : -(k * (n * (r * K))) ≤ t ∧ t ≤ k * (n * (r * K)) := by
      rw [ht]
      exact sm_abs (hmK n (Nat.le_refl n)).1 (fun i hi => hps i i n (by omega) (by omega) (Nat.le_refl n))
    have htk : (k : Int) * (n * (r * K)) ≤ 50 * K ∧ 0 ≤ (k : Int) * (n * (r * K)) := by
      refine ⟨?_, Int.mul_nonneg (by omega) (hmK n (Nat.le_refl n)).1⟩
      have h1 : (k : Int) * (n * (r * K)) ≤ n * (n * (r * K)) := Int.mul_le_mul_of_nonneg_right (by omega) (hmK n (Nat.le_refl n)).1
      have h2 : (n : Int) * (n * (r * K)) = (n * (n * r)) * K := by grind
      have h3 : (n : Int) * (n * r) ≤ 50 := by
        rcases hr12 with rfl | ⟨rfl, h5⟩
        · have : (n : Int) * (n * 1) ≤ 6 * 6 := Int.mul_le_mul (by omega) (by omega) (by omega) (by omega)
          omega
        · have : (n : Int) * (n * 2) ≤ 5 * 10 := Int.mul_le_mul (by omega) (by omega) (by omega) (by omega)
          omega
      have h4 : (n * (n * r)) * K ≤ 50 * K := Int.mul_le_mul_of_nonneg_right h3 hK0
      omega
    refine r_iload_n d_45_4 rfl ?_
    refine r_iload_n d_45_5 rfl ?_
    refine r_icmp_ge (t := 95) d_45_6 rfl (fun hz => absurd hz (by omega)) (fun _ => ?_)
    refine r_iconst d_45_9 rfl ?_
    refine r_istore d_45_10 rfl (stl_7_4 rfl rfl) ?_
    refine dn_ind (R := fun j => ∀ (M1 : Mo) (y2 y3 : AV), Fr (fun x _ => 203 ≤ x ∧ x ≤ 208) M M1 → (∀ i' j' : Nat, ((i' : Int) < k ∨ i' = k ∧ (j' : Int) < j) → i' < n → j' < n → M1 (203 + i') j' = sm (fun q => R i' q * F q j') n) → Rn 45 12 [(2, 186), (0, (n : Int)), (0, t), (0, (k : Int)), (0, j), y2, y3] [] M1 _) (lo := 0) (n := n) ?_ ?_ 0 (by omega) (by omega) M1 y2 y3 hFr (fun i' j' z z2 z3 => h i' j' (by omega) z2 z3)
    · intro M1 y2 y3 hFr h
      have hkk := h k k (Or.inr ⟨rfl, by omega⟩) (by omega) (by omega)
      have hb1 := hps k k n (by omega) (by omega) (Nat.le_refl n)
      have hb2 := hmK n (Nat.le_refl n)
      refine r_iload d_45_12 rfl ?_
      refine r_iload_n d_45_14 rfl ?_
      refine r_icmp_ge (t := 78) d_45_15 rfl (fun _ => ?_) (fun hz => absurd (by omega) hz)
      refine r_iload_n d_45_78 rfl ?_
      refine r_aload_n d_45_79 rfl (by omega) ?_
      refine r_getc (ki := 3) d_45_80 q_45_23 rfl sh_186 fx_186_3 (by omega) ?_
      refine r_iload_n d_45_83 rfl ?_
      refine r_aaloadc d_45_84 sh_202 (by decide) (by omega) (by omega) (fxG (by omega) (by omega)).2.2 (by omega) ?_
      refine r_iload_n d_45_85 rfl ?_
      refine r_ialoadv d_45_86 (shG (show k < 6 by omega)).2.2 (by omega) (by omega) hkk ?_
      refine r_iadd d_45_87 (by omega) ?_
      refine r_istore_n d_45_88 rfl (stl_7_2 rfl rfl) ?_
      refine r_iinc d_45_89 rfl (by omega) (stl_7_3 rfl rfl) ?_
      refine r_goto (t := 4) d_45_92 rfl ?_
      exact ih M1 _ _ _ _ hFr (by rw [ht]; rfl) (fun i' j' z z2 z3 => h i' j' (by omega) z2 z3)
    · intro j j1 j2 ihj M1 y2 y3 hFr h
      obtain ⟨l, rfl⟩ : ∃ l : Nat, j = l := ⟨j.toNat, by omega⟩
      refine r_iload d_45_12 rfl ?_
      refine r_iload_n d_45_14 rfl ?_
      refine r_icmp_ge (t := 78) d_45_15 rfl (fun hz => absurd hz (by omega)) (fun _ => ?_)
      refine r_iconst d_45_18 rfl ?_
      refine r_istore d_45_19 rfl (stl_7_5 rfl rfl) ?_
      refine r_iconst d_45_21 rfl ?_
      refine r_istore d_45_22 rfl (stl_7_6 rfl rfl) ?_
      refine dn_ind (R := fun q => ∀ (u : Int), u = sm (fun q => R k q * F q l) q.toNat → Rn 45 24 [(2, 186), (0, (n : Int)), (0, t), (0, (k : Int)), (0, (l : Int)), (0, u), (0, q)] [] M1 _) (lo := 0) (n := n) ?_ ?_ 0 (by omega) (by omega) 0 rfl
      · intro u hu
        rw [show ((n : Int)).toNat = n by omega] at hu
        refine r_iload d_45_24 rfl ?_
        refine r_iload_n d_45_26 rfl ?_
        refine r_icmp_ge (t := 61) d_45_27 rfl (fun _ => ?_) (fun hz => absurd (by omega) hz)
        refine r_aload_n d_45_61 rfl (by omega) ?_
        refine r_getc (ki := 3) d_45_62 q_45_23 rfl sh_186 fx_186_3 (by omega) ?_
        refine r_iload_n d_45_65 rfl ?_
        refine r_aaloadc d_45_66 sh_202 (by decide) (by omega) (by omega) (fxG (by omega) (by omega)).2.2 (by omega) ?_
        refine r_iload d_45_67 rfl ?_
        refine r_iload d_45_69 rfl ?_
        refine r_iastore d_45_71 (shG (show k < 6 by omega)).2.2 (by omega) (by omega) ?_
        refine r_iinc d_45_72 rfl (by omega) (stl_7_4 rfl rfl) ?_
        refine r_goto (t := 12) d_45_75 rfl ?_
        refine ihj _ _ _ (fun x y hx => by rw [uq_ne (by omega)]; exact hFr x y hx) (fun i' j' z1 z2 z3 => ?_)
        by_cases q : i' = k ∧ j' = l
        · rw [q.1, q.2, uq_eq]
          exact hu
        · rw [uq_ne (by omega)]
          exact h i' j' (by omega) z2 z3
      · intro q q1 q2 ihq u hu
        obtain ⟨m, rfl⟩ : ∃ m : Nat, q = m := ⟨q.toNat, by omega⟩
        rw [show ((m : Int)).toNat = m by omega] at hu
        rw [show ((m : Int) + 1).toNat = m + 1 by omega] at ihq
        have hRv : M1 (189 + (k : Int)) m = R k m := (hFr _ _ (by omega)).trans (hR k m (by omega) (by omega))
        have hFv : M1 (196 + (m : Int)) l = F m l := (hFr _ _ (by omega)).trans (hF m l (by omega) (by omega))
        have hb1 := hpt k l m (by omega) (by omega) (by omega)
        have hb2 := hps k l m (by omega) (by omega) (by omega)
        have hb3 := hmK m (by omega)
        rw [← hu] at hb2
        refine r_iload d_45_24 rfl ?_
        refine r_iload_n d_45_26 rfl ?_
        refine r_icmp_ge (t := 61) d_45_27 rfl (fun hz => absurd hz (by omega)) (fun _ => ?_)
        refine r_iload d_45_30 rfl ?_
        refine r_aload_n d_45_32 rfl (by omega) ?_
        refine r_getc (ki := 1) d_45_33 q_45_17 rfl sh_186 fx_186_1 (by omega) ?_
        refine r_iload_n d_45_36 rfl ?_
        refine r_aaloadc d_45_37 sh_188 (by decide) (by omega) (by omega) (fxG (by omega) (by omega)).1 (by omega) ?_
        refine r_iload d_45_38 rfl ?_
        refine r_ialoadv d_45_40 (shG (show k < 6 by omega)).1 (by omega) (by omega) hRv ?_
        refine r_aload_n d_45_41 rfl (by omega) ?_
        refine r_getc (ki := 2) d_45_42 q_45_20 rfl sh_186 fx_186_2 (by omega) ?_
        refine r_iload d_45_45 rfl ?_
        refine r_aaloadc d_45_47 sh_195 (by decide) (by omega) (by omega) (fxG (by omega) (by omega)).2.1 (by omega) ?_
        refine r_iload d_45_48 rfl ?_
        refine r_ialoadv d_45_50 (shG (show m < 6 by omega)).2.1 (by omega) (by omega) hFv ?_
        refine r_imul d_45_51 (by omega) ?_
        refine r_iadd d_45_52 (by omega) ?_
        refine r_istore d_45_53 rfl (stl_7_5 rfl rfl) ?_
        refine r_iinc d_45_55 rfl (by omega) (stl_7_6 rfl rfl) ?_
        refine r_goto (t := 24) d_45_58 rfl ?_
        exact ihq _ (by rw [hu]; rfl)
