/-! The class: poly. -/
def bdk (k : Nat) : Int := if k = 1 then 1 else if k = 2 then 60 else if k = 3 then 2100 else if k = 4 then 56000 else if k = 5 then 1260000 else if k = 6 then 25200000 else 462000000
def WPo (x _ : Int) : Prop := x = 187 ∨ (196 ≤ x ∧ x ≤ 208)
theorem c_computes {M : Mo} {n : Nat} (hn : 1 ≤ n ∧ n ≤ 6) {R : Nat → Nat → Int} (hR : MX M 189 n R) {r : Int} (hr : ∀ i j : Nat, i < n → j < n → 0 ≤ R i j ∧ R i j ≤ r) (hr12 : r = 1 ∨ r = 2 ∧ n ≤ 5) : CV 43 [(2, 186), (0, (n : Int))] M (fun M' => Fr WPo M M' ∧ ∀ k : Nat, k ≤ n → M' 187 ((n : Int) - k) = sgz k * ek R n k ∧ -462000000 ≤ sgz k * ek R n k ∧ sgz k * ek R n k ≤ 462000000) := by
  refine Cl.intro (L := [(2, 186), (0, (n : Int)), (9, 0), (9, 0)]) (rcv_v ow_43.2.1 sh_186) (by unfold entl; rw [mx_43]; rfl) (by rw [mx_43]; exact Nat.le_of_ble_eq_true rfl) rfl ?_
  refine r_iconst d_43_0 rfl ?_
  refine r_istore_n d_43_1 rfl (stl_4_2 rfl rfl) ?_
  refine dn_ind (R := fun i => ∀ (M1 : Mo) (y : AV), Fr WPo M M1 → (∀ i' j' : Nat, (i' : Int) < i → i' < n → j' < n → M1 (203 + i') j' = 0) → Rn 43 2 [(2, 186), (0, (n : Int)), (0, i), y] [] M1 _) (lo := 0) (n := n) ?_ ?_ 0 (by omega) (by omega) M (9, 0) Fr.refl (fun i' j' z => by omega)
  · intro M1 y hF h0
    refine r_iload_n d_43_2 rfl ?_
    refine r_iload_n d_43_3 rfl ?_
    refine r_icmp_ge (t := 35) d_43_4 rfl (fun _ => ?_) (fun hz => absurd (by omega) hz)
    refine r_aload_n d_43_35 rfl (by omega) ?_
    refine r_getc (ki := 0) d_43_36 q_43_9 rfl sh_186 fx_186_0 (by omega) ?_
    refine r_iload_n d_43_39 rfl ?_
    refine r_iconst d_43_40 rfl ?_
    refine r_iastore d_43_41 sh_187 (by omega) (by omega) ?_
    refine r_iconst d_43_42 rfl ?_
    refine r_istore_n d_43_43 rfl (stl_4_2 rfl rfl) ?_
    refine dn_ind (R := fun k => ∀ (M1 : Mo) (P : Nat → Nat → Int) (c : Int) (kn : Nat), k = kn → Fr WPo M M1 → MX M1 203 n P → M1 187 ((n : Int) - k + 1) = c → (∀ i j : Nat, i < n → j < n → P i j + (if i = j then c else 0) = sgz (kn - 1) * Bk R n kn i j) → (∃ b1 b2, (∀ i j : Nat, i < n → j < n → -b1 ≤ P i j ∧ P i j ≤ b1) ∧ (-b2 ≤ c ∧ c ≤ b2) ∧ b1 + b2 ≤ bdk kn) → (∀ m : Nat, m < kn → m ≤ n → M1 187 ((n : Int) - m) = sgz m * ek R n m ∧ -462000000 ≤ sgz m * ek R n m ∧ sgz m * ek R n m ≤ 462000000) → Rn 43 44 [(2, 186), (0, (n : Int)), (0, k), y] [] M1 _) (lo := 1) (n := (n : Int) + 1) ?_ ?_ 1 (by omega) (by omega) (up2 M1 187 (n : Int) 1) (fun _ _ => 0) 1 1 rfl (fun a b h => by unfold WPo at h; rw [uq_ne (by omega)]; exact hF a b (by unfold WPo; omega)) (fun i j hi hj => by rw [uq_ne (by omega)]; exact h0 i j (by omega) hi hj) ?_ ?_ ⟨0, 1, fun _ _ _ _ => by omega, by omega, by decide⟩ ?_
    · intro M2 P c kn hk hF2 hP hc hB hb hcs
      refine r_iload_n d_43_44 rfl ?_
      refine r_iload_n d_43_45 rfl ?_
      refine r_icmp_gt (t := 86) d_43_46 rfl (fun _ => ?_) (fun hz => absurd (by omega) hz)
      refine r_vret d_43_86 rt_43 ?_
      exact ⟨rfl, hF2, fun k hk2 => hcs k (by omega) hk2⟩
    · intro k k1 k2 ih M2 P c kn hk hF2 hP hc hB hb hcs
      subst hk
      obtain ⟨b1, b2, hb1, hb2, hbb⟩ := hb
      have hkn : 1 ≤ kn ∧ kn ≤ n := by omega
      have hbd6 : bdk kn ≤ 25200000 ∧ 1 ≤ bdk kn := by
        rcases (show kn = 1 ∨ kn = 2 ∨ kn = 3 ∨ kn = 4 ∨ kn = 5 ∨ kn = 6 by omega) with h | h | h | h | h | h <;> rw [h] <;> decide
      refine r_iload_n d_43_44 rfl ?_
      refine r_iload_n d_43_45 rfl ?_
      refine r_icmp_gt (t := 86) d_43_46 rfl (fun hz => absurd hz (by omega)) (fun _ => ?_)
      refine r_aload_n d_43_49 rfl (by omega) ?_
      refine r_iload_n d_43_50 rfl ?_
      refine r_aload_n d_43_51 rfl (by omega) ?_
      refine r_getc (ki := 0) d_43_52 q_43_9 rfl sh_186 fx_186_0 (by omega) ?_
      refine r_iload_n d_43_55 rfl ?_
      refine r_iload_n d_43_56 rfl ?_
      refine r_isub d_43_57 (by omega) ?_
      refine r_iconst d_43_58 rfl ?_
      refine r_iadd d_43_59 (by omega) ?_
      refine r_ialoadv d_43_60 sh_187 (by omega) (by omega) hc ?_
      refine r_callvr d_43_61 q_43_30 rfl rfl (c_addsUnit hn.2 hP hb1 hb2 (by omega)) (fun M3 hM3 => ?_)
      obtain ⟨hF3, hU3⟩ := hM3
      have hF3a : Fr WPo M M3 := hF2.trans hF3 (fun _ _ q => q) (fun x y q => by unfold WPo; omega)
      have hU : MX M3 196 n (fun i j => sgz (kn - 1) * Bk R n kn i j) := fun i j hi hj => by rw [hU3 i j hi hj]; exact hB i j hi hj
      have hR3 : MX M3 189 n R := hR.fr hF3a (fun x y q => by unfold WPo at q; omega)
      have hUb : ∀ i j : Nat, i < n → j < n → -(bdk kn) ≤ sgz (kn - 1) * Bk R n kn i j ∧ sgz (kn - 1) * Bk R n kn i j ≤ bdk kn := fun i j hi hj => by
        rw [← hB i j hi hj]
        have h1 := hb1 i j hi hj
        by_cases q : i = j
        · rw [if_pos q]
          omega
        · rw [if_neg q]
          omega
      refine r_aload_n d_43_64 rfl (by omega) ?_
      refine r_getc (ki := 0) d_43_65 q_43_9 rfl sh_186 fx_186_0 (by omega) ?_
      refine r_iload_n d_43_68 rfl ?_
      refine r_iload_n d_43_69 rfl ?_
      refine r_isub d_43_70 (by omega) ?_
      refine r_aload_n d_43_71 rfl (by omega) ?_
      refine r_iload_n d_43_72 rfl ?_
      refine r_callvi d_43_73 q_43_34 rfl rfl (c_multiplied hn.2 hR3 hU hr hUb (by omega) hr12 hbd6.1) (fun x M4 hM4 => ?_)
      obtain ⟨hx, hF4, hP4⟩ := hM4
      have hF4a : Fr WPo M M4 := hF3a.trans hF4 (fun _ _ q => q) (fun x y q => by unfold WPo; omega)
      have hprod : ∀ i j : Nat, i < n → j < n → sm (fun q => R i q * (sgz (kn - 1) * Bk R n kn q j)) n = sgz (kn - 1) * ((if i = j then ek R n kn else 0) - Bk R n (kn + 1) i j) := fun i j hi hj => by
        rw [← AB hn.2 hi hj, ← sm_mul]
        exact sm_congr (fun q _ => by grind)
      have htr : x = sgz (kn - 1) * (kn * ek R n kn) := by
        rw [hx, ← AB_tr hn.2, ← sm_mul]
        refine sm_congr (fun i _ => ?_)
        rw [← sm_mul]
        exact sm_congr (fun q _ => by grind)
      have hsg : sgz kn = -(sgz (kn - 1)) := by
        have := sgz_s (kn - 1)
        rw [show kn - 1 + 1 = kn by omega] at this
        exact this
      have hnegx : -x = (sgz kn * ek R n kn) * kn := by
        rw [htr, hsg]
        grind
      have hK0 : 0 ≤ bdk kn := by omega
      have hnr : (n : Int) * r ≤ 10 ∧ 0 ≤ (n : Int) * r ∧ 0 ≤ r := by rcases hr12 with rfl | ⟨rfl, h⟩ <;> omega
      have hpb : ∀ i j : Nat, i < n → j < n → -(10 * bdk kn) ≤ sm (fun q => R i q * (sgz (kn - 1) * Bk R n kn q j)) n ∧ sm (fun q => R i q * (sgz (kn - 1) * Bk R n kn q j)) n ≤ 10 * bdk kn := fun i j hi hj => by
        have hrK : 0 ≤ r * bdk kn := Int.mul_nonneg hnr.2.2 hK0
        have h1 := sm_abs (f := fun q => R i q * (sgz (kn - 1) * Bk R n kn q j)) (m := n) hrK (fun q hq => mul_abs (hr i q hi hq) (hUb q j hq hj) hK0)
        have h2 : (n : Int) * (r * bdk kn) ≤ 10 * bdk kn := by
          rw [← Int.mul_assoc]
          exact Int.mul_le_mul_of_nonneg_right hnr.1 hK0
        omega
      have hxb : -(50 * bdk kn) ≤ x ∧ x ≤ 50 * bdk kn := by
        rw [hx]
        have hK10 : 0 ≤ (n * r) * bdk kn := Int.mul_nonneg hnr.2.1 hK0
        have h1 := sm_abs (f := fun i => sm (fun q => R i q * (sgz (kn - 1) * Bk R n kn q i)) n) (K := (n * r) * bdk kn) (m := n) hK10 (fun i hi => by
          have hrK : 0 ≤ r * bdk kn := Int.mul_nonneg hnr.2.2 hK0
          have h1 := sm_abs (f := fun q => R i q * (sgz (kn - 1) * Bk R n kn q i)) (m := n) hrK (fun q hq => mul_abs (hr i q hi hq) (hUb q i hq hi) hK0)
          rw [← Int.mul_assoc] at h1
          exact h1)
        have h2 : (n : Int) * (n * r * bdk kn) ≤ 50 * bdk kn := by
          rw [← Int.mul_assoc]
          refine Int.mul_le_mul_of_nonneg_right ?_ hK0
          rcases hr12 with rfl | ⟨rfl, h5⟩
          · have : (n : Int) * (n * 1) ≤ 6 * 6 := Int.mul_le_mul (by omega) (by omega) (by omega) (by omega)
            omega
          · have : (n : Int) * (n * 2) ≤ 5 * 10 := Int.mul_le_mul (by omega) (by omega) (by omega) (by omega)
            omega
        omega
      have hdiv : (-x).tdiv (kn : Int) = sgz kn * ek R n kn := by
        rw [hnegx]
        exact Int.mul_tdiv_cancel _ (by omega)
      generalize hcv : sgz kn * ek R n kn = c' at hnegx hdiv
      have hcb : ∃ b2, (-b2 ≤ c' ∧ c' ≤ b2) ∧ 10 * bdk kn + b2 ≤ bdk (kn + 1) ∧ b2 ≤ 462000000 := by
        rcases (show kn = 1 ∨ kn = 2 ∨ kn = 3 ∨ kn = 4 ∨ kn = 5 ∨ kn = 6 by omega) with h | h | h | h | h | h
        · rw [h] at hnegx hxb ⊢
          have e1 : bdk 1 = 1 := rfl
          have e2 : bdk (1 + 1) = 60 := rfl
          rw [e1] at hxb ⊢
          rw [e2]
          exact ⟨50, by omega, by omega, by omega⟩
        · rw [h] at hnegx hxb ⊢
          have e1 : bdk 2 = 60 := rfl
          have e2 : bdk (2 + 1) = 2100 := rfl
          rw [e1] at hxb ⊢
          rw [e2]
          exact ⟨1500, by omega, by omega, by omega⟩
        · rw [h] at hnegx hxb ⊢
          have e1 : bdk 3 = 2100 := rfl
          have e2 : bdk (3 + 1) = 56000 := rfl
          rw [e1] at hxb ⊢
          rw [e2]
          exact ⟨35000, by omega, by omega, by omega⟩
        · rw [h] at hnegx hxb ⊢
          have e1 : bdk 4 = 56000 := rfl
          have e2 : bdk (4 + 1) = 1260000 := rfl
          rw [e1] at hxb ⊢
          rw [e2]
          exact ⟨700000, by omega, by omega, by omega⟩
        · rw [h] at hnegx hxb ⊢
          have e1 : bdk 5 = 1260000 := rfl
          have e2 : bdk (5 + 1) = 25200000 := rfl
          rw [e1] at hxb ⊢
          rw [e2]
          exact ⟨12600000, by omega, by omega, by omega⟩
        · rw [h] at hnegx hxb ⊢
          have e1 : bdk 6 = 25200000 := rfl
          have e2 : bdk (6 + 1) = 462000000 := rfl
          rw [e1] at hxb ⊢
          rw [e2]
          exact ⟨210000000, by omega, by omega, by omega⟩
      obtain ⟨b2', hb2', hbb', hb9⟩ := hcb
      refine r_ineg d_43_76 (by omega) ?_
      refine r_iload_n d_43_77 rfl ?_
      refine r_idiv d_43_78 (by omega) (by omega) ?_
      rw [hdiv]
      refine r_iastore d_43_79 sh_187 (by omega) (by omega) ?_
      refine r_iinc d_43_80 rfl (by omega) (stl_4_2 rfl rfl) ?_
      refine r_goto (t := 44) d_43_83 rfl ?_
      refine ih _ (fun i j => sm (fun q => R i q * (sgz (kn - 1) * Bk R n kn q j)) n) c' (kn + 1) (by omega) (fun a b h => ?_) (fun i j hi hj => ?_) ?_ (fun i j hi hj => ?_) ⟨10 * bdk kn, b2', hpb, hb2', hbb'⟩ (fun m hm hm2 => ?_)
      · unfold WPo at h
        rw [uq_ne (by omega)]
        exact hF4a a b (by unfold WPo; omega)
      · rw [uq_ne (by omega)]
        exact hP4 i j hi hj
      · rw [show (n : Int) - ((kn : Int) + 1) + 1 = (n : Int) - kn by omega, uq_eq]
      · rw [hprod i j hi hj, show kn + 1 - 1 = kn by omega, ← hcv, hsg]
        by_cases q : i = j
        · rw [if_pos q, if_pos q]
          grind
        · rw [if_neg q, if_neg q]
          grind
      · by_cases q : m = kn
        · rw [q, uq_eq, hcv]
          exact ⟨rfl, by omega, by omega⟩
        · rw [uq_ne (by omega), hF4 _ _ (by omega), hF3 _ _ (by omega)]
          exact hcs m (by omega) hm2
    · rw [show (n : Int) - 1 + 1 = n by omega, uq_eq]
    · intro i j hi hj
      rw [Bk_1 hn.2 hi hj]
      have : sgz (1 - 1) = 1 := rfl
      rw [this]
      by_cases q : i = j
      · rw [if_pos q]
        rfl
      · rw [if_neg q]
        rfl
    · intro m hm _
      have hm0 : m = 0 := by omega
      subst hm0
      have : sgz 0 = 1 := rfl
      rw [ek_0 hn.2, this, show (n : Int) - ((0 : Nat) : Int) = n by omega, uq_eq]
      exact ⟨rfl, by omega, by omega⟩
  · intro i i1 i2 ih M1 y hF h
    obtain ⟨k, rfl⟩ : ∃ k : Nat, i = k := ⟨i.toNat, by omega⟩
    refine r_iload_n d_43_2 rfl ?_
    refine r_iload_n d_43_3 rfl ?_
    refine r_icmp_ge (t := 35) d_43_4 rfl (fun hz => absurd hz (by omega)) (fun _ => ?_)
    refine r_iconst d_43_7 rfl ?_
    refine r_istore_n d_43_8 rfl (stl_4_3 rfl rfl) ?_
    refine dn_ind (R := fun j => ∀ (M1 : Mo), Fr WPo M M1 → (∀ i' j' : Nat, ((i' : Int) < k ∨ i' = k ∧ (j' : Int) < j) → i' < n → j' < n → M1 (203 + i') j' = 0) → Rn 43 9 [(2, 186), (0, (n : Int)), (0, (k : Int)), (0, j)] [] M1 _) (lo := 0) (n := n) ?_ ?_ 0 (by omega) (by omega) M1 hF (fun i' j' z z2 z3 => h i' j' (by omega) z2 z3)
    · intro M1 hF h
      refine r_iload_n d_43_9 rfl ?_
      refine r_iload_n d_43_10 rfl ?_
      refine r_icmp_ge (t := 29) d_43_11 rfl (fun _ => ?_) (fun hz => absurd (by omega) hz)
      refine r_iinc d_43_29 rfl (by omega) (stl_4_2 rfl rfl) ?_
      refine r_goto (t := 2) d_43_32 rfl ?_
      exact ih M1 _ hF (fun i' j' z z2 z3 => h i' j' (by omega) z2 z3)
    · intro j j1 j2 ihj M1 hF h
      obtain ⟨l, rfl⟩ : ∃ l : Nat, j = l := ⟨j.toNat, by omega⟩
      refine r_iload_n d_43_9 rfl ?_
      refine r_iload_n d_43_10 rfl ?_
      refine r_icmp_ge (t := 29) d_43_11 rfl (fun hz => absurd hz (by omega)) (fun _ => ?_)
      refine r_aload_n d_43_14 rfl (by omega) ?_
      refine r_getc (ki := 3) d_43_15 q_43_23 rfl sh_186 fx_186_3 (by omega) ?_
      refine r_iload_n d_43_18 rfl ?_
      refine r_aaloadc d_43_19 sh_202 (by decide) (by omega) (by omega) (fxG (by omega) (by omega)).2.2 (by omega) ?_
      refine r_iload_n d_43_20 rfl ?_
      refine r_iconst d_43_21 rfl ?_
      refine r_iastore d_43_22 (shG (show k < 6 by omega)).2.2 (by omega) (by omega) ?_
      refine r_iinc d_43_23 rfl (by omega) (stl_4_3 rfl rfl) ?_
      refine r_goto (t := 9) d_43_26 rfl ?_
      refine ihj _ (fun a b hx => by unfold WPo at hx; rw [uq_ne (by omega)]; exact hF a b (by unfold WPo; omega)) (fun i' j' z1 z2 z3 => ?_)
      by_cases q : i' = k ∧ j' = l
      · rw [q.1, q.2, uq_eq]
      · rw [uq_ne (by omega)]
        exact h i' j' (by omega) z2 z3
theorem c_poly_bad (M : Mo) (hb : cbC M) {s : Sst} (hc : cuC M s) {k i : Int} (h : ¬ okP s k i) : PJ 103 [(2, 0), (0, k), (0, i)] M (-2) (up2 M 0 11 (M 0 11 + 1)) := by
  have hbad := c_fails_b M hb
  refine Cl.intro (L := [(2, 0), (0, k), (0, i), (9, 0), (9, 0)]) (rcv_v ow_103.2.1 sh_0) (by unfold entl; rw [mx_103]; rfl) (by rw [mx_103]; exact Nat.le_of_ble_eq_true rfl) rfl ?_
  have key : Rn 103 25 [(2, 0), (0, k), (0, i), (9, 0), (9, 0)] [] M (fun v M' => v = some (0, -2) ∧ M' = up2 M 0 11 (M 0 11 + 1)) := by
    refine r_aload_n d_103_25 rfl (by omega) ?_
    refine r_bipush d_103_26 rfl ?_
    refine r_callvj d_103_28 q_103_91 rfl rfl hbad ?_
    refine r_iret d_103_31 rt_103 ?_
    exact ⟨rfl, rfl⟩
  refine r_aload_n d_103_0 rfl (by omega) ?_
  refine r_iload_n d_103_1 rfl ?_
  refine r_callvp d_103_2 q_103_106 rfl rfl (c_isModule M k) ?_
  by_cases hk : 0 ≤ k ∧ k ≤ 3
  · rw [if_pos hk]
    obtain ⟨hs, hsh⟩ := hc.sz hk.1 hk.2
    refine r_if_eq (t := 25) d_103_5 rfl (fun hz => absurd hz (by decide)) (fun _ => ?_)
    refine r_iload_n d_103_8 rfl ?_
    refine r_if_lt (t := 25) d_103_9 rfl (fun h1 => ?_) (fun h1 => ?_)
    · exact key
    · refine r_iload_n d_103_12 rfl ?_
      refine r_aload_n d_103_13 rfl (by omega) ?_
      refine r_getc (ki := 1) d_103_14 q_103_18 rfl sh_0 fx_0_1 (by omega) ?_
      refine r_iload_n d_103_17 rfl ?_
      refine r_aaloadc d_103_18 sh_2 (by decide) (by omega) (by omega) (fxM hk.1 (by omega)) (by omega) ?_
      refine r_getfv (ki := 1) d_103_19 q_103_149 rfl hsh hs ?_
      refine r_icmp_le (t := 32) d_103_22 rfl (fun hz => absurd hz (fun q => h ⟨hk, by omega, q⟩)) (fun _ => ?_)
      exact key
  · rw [if_neg hk]
    refine r_if_eq (t := 25) d_103_5 rfl (fun _ => ?_) (fun hz => absurd rfl hz)
    exact key
theorem c_poly {M : Mo} {s : Sst} (hv : vs s) (hc : cuC M s) {l : Nat} {w : Nat → Int} (hw : WdC M l w) {k i : Nat} (hk : k < 4) (hi : i ≤ s.2.1 k) : CI 103 [(2, 0), (0, (k : Int)), (0, (i : Int))] M (fun z M' => z = polA (s.2.1 k) (mdA s k) w l i ∧ Fr WX M M') := by
  have h6 := vs_6 hv hk
  have h1 := (hv.2 k hk).1
  have hnb := (hv.2 k hk).2.1
  have h23 := pI23 hv.1
  have hA := hc.2 k hk
  have hsh := shM hk
  have hr12 : (s.1 : Int) + 1 = 1 ∨ (s.1 : Int) + 1 = 2 ∧ s.2.1 k ≤ 5 := by
    unfold nb at hnb
    have := hv.1
    omega
  have hfr : ∀ M1, Fr (fun x _ => 189 ≤ x ∧ x ≤ 194) M M1 → cuC M1 s ∧ WdC M1 l w := fun M1 hF => ⟨hc.fr hF (fun x y q => by omega), ⟨(hF _ _ (by omega)).trans hw.1, hw.2.1, fun i hi => ⟨(hF _ _ (by omega)).trans (hw.2.2 i hi).1, (hw.2.2 i hi).2⟩⟩⟩
  refine Cl.intro (L := [(2, 0), (0, (k : Int)), (0, (i : Int)), (9, 0), (9, 0)]) (rcv_v ow_103.2.1 sh_0) (by unfold entl; rw [mx_103]; rfl) (by rw [mx_103]; exact Nat.le_of_ble_eq_true rfl) rfl ?_
  refine r_aload_n d_103_0 rfl (by omega) ?_
  refine r_iload_n d_103_1 rfl ?_
  refine r_callvp d_103_2 q_103_106 rfl rfl (c_isModule M k) ?_
  rw [if_pos (by omega)]
  refine r_if_eq (t := 25) d_103_5 rfl (fun hz => absurd hz (by decide)) (fun _ => ?_)
  refine r_iload_n d_103_8 rfl ?_
  refine r_if_lt (t := 25) d_103_9 rfl (fun hz => absurd hz (by omega)) (fun _ => ?_)
  refine r_iload_n d_103_12 rfl ?_
  refine r_aload_n d_103_13 rfl (by omega) ?_
  refine r_getc (ki := 1) d_103_14 q_103_18 rfl sh_0 fx_0_1 (by omega) ?_
  refine r_iload_n d_103_17 rfl ?_
  refine r_aaloadc d_103_18 sh_2 (by decide) (by omega) (by omega) (fxM (by omega) (by omega)) (by omega) ?_
  refine r_getfv (ki := 1) d_103_19 q_103_149 rfl hsh hA.1 ?_
  refine r_icmp_le (t := 32) d_103_22 rfl (fun _ => ?_) (fun hz => absurd (by omega) hz)
  refine r_aload_n d_103_32 rfl (by omega) ?_
  refine r_getc (ki := 1) d_103_33 q_103_18 rfl sh_0 fx_0_1 (by omega) ?_
  refine r_iload_n d_103_36 rfl ?_
  refine r_aaloadc d_103_37 sh_2 (by decide) (by omega) (by omega) (fxM (by omega) (by omega)) (by omega) ?_
  refine r_getfv (ki := 1) d_103_38 q_103_149 rfl hsh hA.1 ?_
  refine r_istore_n d_103_41 rfl (stl_5_3 rfl rfl) ?_
  refine r_iconst d_103_42 rfl ?_
  refine r_istore d_103_43 rfl (stl_5_4 rfl rfl) ?_
  refine dn_ind (R := fun q => ∀ (M1 : Mo), Fr (fun x _ => 189 ≤ x ∧ x ≤ 194) M M1 → (∀ a b : Nat, (a : Int) < q → a < s.2.1 k → b < s.2.1 k → M1 (189 + a) b = vl (wrow (s.2.1 k) (mdA s k) w l a b)) → Rn 103 45 [(2, 0), (0, (k : Int)), (0, (i : Int)), (0, (s.2.1 k : Int)), (0, q)] [] M1 _) (lo := 0) (n := (s.2.1 k : Int)) ?_ ?_ 0 (by omega) (by omega) M Fr.refl (fun a b z => by omega)
  · intro M1 hF hm
    obtain ⟨hc1, -⟩ := hfr M1 hF
    have hMX : MX M1 189 (s.2.1 k) (fun a b => vl (wrow (s.2.1 k) (mdA s k) w l a b)) := fun a b ha hb => hm a b (by omega) ha hb
    refine r_iload d_103_45 rfl ?_
    refine r_iload_n d_103_47 rfl ?_
    refine r_icmp_ge (t := 81) d_103_48 rfl (fun _ => ?_) (fun hz => absurd (by omega) hz)
    refine r_aload_n d_103_81 rfl (by omega) ?_
    refine r_getc (ki := 10) d_103_82 q_103_77 rfl sh_0 fx_0_10 (by omega) ?_
    refine r_iload_n d_103_85 rfl ?_
    refine r_callvr d_103_86 q_103_273 rfl rfl (c_computes ⟨h1, h6⟩ hMX (r := (s.1 : Int) + 1) (fun a b _ _ => by have := vl_rng (wrow (s.2.1 k) (mdA s k) w l a b); unfold pI at this; omega) hr12) (fun M2 hM2 => ?_)
    obtain ⟨hF2, hcf⟩ := hM2
    obtain ⟨g1, g2, g3⟩ := hcf (s.2.1 k - i) (by omega)
    rw [show (s.2.1 k : Int) - ((s.2.1 k - i : Nat) : Int) = (i : Int) by omega] at g1
    have hp2 : M2 1 0 = pI s.1 := (hF2 _ _ (by unfold WPo; omega)).trans hc1.1
    refine r_aload_n d_103_89 rfl (by omega) ?_
    refine r_getc (ki := 0) d_103_90 q_103_10 rfl sh_0 fx_0_0 (by omega) ?_
    refine r_aload_n d_103_93 rfl (by omega) ?_
    refine r_getc (ki := 10) d_103_94 q_103_77 rfl sh_0 fx_0_10 (by omega) ?_
    refine r_getc (ki := 0) d_103_97 q_103_276 rfl sh_186 fx_186_0 (by omega) ?_
    refine r_iload_n d_103_100 rfl ?_
    refine r_ialoadv d_103_101 sh_187 (by omega) (by omega) g1 ?_
    refine r_callvp d_103_102 q_103_280 rfl rfl (c_modulo M2 hp2 h23 (by omega)) ?_
    refine r_iret d_103_105 rt_103 ?_
    exact ⟨_, rfl, rfl, (hF.mono (fun x y q => by unfold WX; omega)).trans hF2 (fun _ _ q => q) (fun x y q => by unfold WPo at q; unfold WX; omega)⟩
  · intro q q1 q2 ih M1 hF hm
    obtain ⟨a, rfl⟩ : ∃ a : Nat, q = a := ⟨q.toNat, by omega⟩
    obtain ⟨hc1, hw1⟩ := hfr M1 hF
    have hvr := c_valueRow hv.1 hc1.1 hsh (hc1.2 k hk) hw1 (i := a) (by omega)
    refine r_iload d_103_45 rfl ?_
    refine r_iload_n d_103_47 rfl ?_
    refine r_icmp_ge (t := 81) d_103_48 rfl (fun hz => absurd hz (by omega)) (fun _ => ?_)
    refine r_aload_n d_103_51 rfl (by omega) ?_
    refine r_getc (ki := 10) d_103_52 q_103_77 rfl sh_0 fx_0_10 (by omega) ?_
    refine r_iload d_103_55 rfl ?_
    refine r_aload_n d_103_57 rfl (by omega) ?_
    refine r_getc (ki := 5) d_103_58 q_103_46 rfl sh_0 fx_0_5 (by omega) ?_
    refine r_aload_n d_103_61 rfl (by omega) ?_
    refine r_getc (ki := 1) d_103_62 q_103_18 rfl sh_0 fx_0_1 (by omega) ?_
    refine r_iload_n d_103_65 rfl ?_
    refine r_aaloadc d_103_66 sh_2 (by decide) (by omega) (by omega) (fxM (by omega) (by omega)) (by omega) ?_
    refine r_iload d_103_67 rfl ?_
    refine r_callvl d_103_69 q_103_254 rfl rfl hvr ?_
    refine r_callvr d_103_72 q_103_269 rfl rfl (c_takesRow hv.1 M1 (show a < 6 by omega) _) (fun M2 hM2 => ?_)
    obtain ⟨hF2, hr2⟩ := hM2
    refine r_iinc d_103_75 rfl (by omega) (stl_5_4 rfl rfl) ?_
    refine r_goto (t := 45) d_103_78 rfl ?_
    refine ih M2 (hF.trans hF2 (fun _ _ q => q) (fun x y q => by omega)) (fun a' b z1 z2 z3 => ?_)
    by_cases z : a' = a
    · rw [z]
      exact hr2 b (by omega)
    · rw [hF2 _ _ (by omega)]
      exact hm a' b (by omega) z2 z3
