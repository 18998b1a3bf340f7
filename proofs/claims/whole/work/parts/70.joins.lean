/-! The class: differences, sums, products of modules; comparisons. -/
section
variable {e : Nat}
def dfi (n g h j : Nat) : Nat := if h < n then g * (n * n) + h * n + j else g * (n * n) + n * n
theorem c_differences (he : e ≤ 1) {M : Mo} {a b : Int} (ha : shp S0 a = (0, 3)) (hb : shp S0 b = (0, 3)) {n : Nat} {A B : Nat → Nat → Nat → Kf e} (hA : AA e M a n A) (hB : AA e M b n B) : PI 8 [(2, a), (2, b)] M (sm (tdf n (fun g i j => vl (A g i j)) (fun g i j => vl (B g i j))) (2 * (n * n))) := by
  refine Cl.intro (L := [(2, a), (2, b), (9, 0), (9, 0), (9, 0)]) (rcv_v ow_8.2.1 ha) (by unfold entl; rw [mx_8]; rfl) (by rw [mx_8]; exact Nat.le_of_ble_eq_true rfl) rfl ?_
  have ha0 := shA_pos ha
  have hb0 := shA_pos hb
  have h6 := hA.n6
  have hnn : n * n ≤ 6 * 6 := Nat.mul_le_mul h6 h6
  generalize ht : tdf n (fun g i j => vl (A g i j)) (fun g i j => vl (B g i j)) = t
  have ht1 : ∀ c, t c = 0 ∨ t c = 1 := fun c => by rw [← ht]; exact tdf_01 c
  have htv : ∀ g i j, i < n → j < n → t (g * (n * n) + i * n + j) = if vl (A g i j) = vl (B g i j) then 0 else 1 := fun g i j hi hj => by
    obtain ⟨h1, h2, h3⟩ := ixd (g := g) hi hj
    rw [← ht]
    unfold tdf
    rw [h1, h2, h3]
  refine r_iconst d_8_0 rfl ?_
  refine r_istore_n d_8_1 rfl (stl_5_2 rfl rfl) ?_
  refine r_iconst d_8_2 rfl ?_
  refine r_istore_n d_8_3 rfl (stl_5_3 rfl rfl) ?_
  refine dn_ind (R := fun i => ∀ (s : Int) (y : AV), s = sm t (if i < 12 then dfi n (i.toNat / 6) (i.toNat % 6) 0 else 2 * (n * n)) → Rn 8 4 [(2, a), (2, b), (0, s), (0, i), y] [] M _) (lo := 0) (n := 12) ?_ ?_ 0 (by omega) (by omega) 0 (9, 0) ?_
  · intro s y hs
    rw [if_neg (by omega)] at hs
    refine r_iload_n d_8_4 rfl ?_
    refine r_bipush d_8_5 rfl ?_
    refine r_icmp_ge (t := 67) d_8_7 rfl (fun _ => ?_) (fun hz => absurd (by omega) hz)
    refine r_iload_n d_8_67 rfl ?_
    refine r_iret d_8_68 rt_8 ?_
    exact ⟨by rw [hs], rfl⟩
  · intro i i1 i2 ih s y hs
    obtain ⟨k, rfl⟩ : ∃ k : Nat, i = k := ⟨i.toNat, by omega⟩
    rw [if_pos i2, show ((k : Int)).toNat = k by omega] at hs
    rw [show ((k : Int) + 1).toNat = k + 1 by omega] at ih
    have hg : k / 6 < 2 := by omega
    have hk : (k : Int) = 6 * ((k / 6 : Nat) : Int) + ((k % 6 : Nat) : Int) := by omega
    have hra := hA.2.2 (k / 6) (k % 6) hg (by omega)
    have hrb := hB.2.2 (k / 6) (k % 6) hg (by omega)
    rw [← hk] at hra hrb
    refine r_iload_n d_8_4 rfl ?_
    refine r_bipush d_8_5 rfl ?_
    refine r_icmp_ge (t := 67) d_8_7 rfl (fun hz => absurd hz (by omega)) (fun _ => ?_)
    refine r_iconst d_8_10 rfl ?_
    refine r_istore d_8_11 rfl (stl_5_4 rfl rfl) ?_
    refine dn_ind (R := fun j => ∀ (s : Int), s = sm t (dfi n (k / 6) (k % 6) j.toNat) → Rn 8 13 [(2, a), (2, b), (0, s), (0, (k : Int)), (0, j)] [] M _) (lo := 0) (n := n) ?_ ?_ 0 (by omega) (by omega) s hs
    · intro s hs
      rw [show ((n : Int)).toNat = n by omega] at hs
      refine r_iload d_8_13 rfl ?_
      refine r_aload_n d_8_15 rfl (by omega) ?_
      refine r_getfv (ki := 1) d_8_16 q_8_9 rfl ha hA.1 ?_
      refine r_icmp_ge (t := 61) d_8_19 rfl (fun _ => ?_) (fun hz => absurd (by omega) hz)
      refine r_iinc d_8_61 rfl (by omega) (stl_5_3 rfl rfl) ?_
      refine r_goto (t := 4) d_8_64 rfl ?_
      refine ih _ _ ?_
      rw [hs]
      congr 1
      unfold dfi
      have hm : k % 6 < n → k % 6 * n + n ≤ n * n := fun q => by
        have := Nat.mul_le_mul_right n (show k % 6 + 1 ≤ n by omega)
        rw [Nat.add_mul] at this
        omega
      have hm5 : n = 6 → n * n = 36 := fun q => by rw [q]
      have hadd : (k % 6 + 1) * n = k % 6 * n + n := by rw [Nat.add_mul, Nat.one_mul]
      have hg01 : k / 6 = 0 ∨ k / 6 = 1 := by omega
      by_cases h12 : ((k : Int) + 1) < 12
      · rw [if_pos h12]
        by_cases h5 : k % 6 = 5
        · have e1 : (k + 1) / 6 = k / 6 + 1 := by omega
          have e2 : (k + 1) % 6 = 0 := by omega
          have e3 : k / 6 = 0 := by omega
          rw [e1, e2, e3, h5, Nat.zero_mul, Nat.zero_mul]
          by_cases hn : 5 < n
          · have hn6 : n = 6 := by omega
            subst hn6
            rfl
          · rw [if_neg hn]
            by_cases hn0 : 0 < n
            · rw [if_pos hn0]
              omega
            · rw [if_neg hn0]
              have : n = 0 := by omega
              subst this
              rfl
        · have e1 : (k + 1) / 6 = k / 6 := by omega
          have e2 : (k + 1) % 6 = k % 6 + 1 := by omega
          rw [e1, e2]
          by_cases hn : k % 6 < n
          · rw [if_pos hn]
            by_cases hn2 : k % 6 + 1 < n
            · rw [if_pos hn2, hadd]
              omega
            · rw [if_neg hn2]
              have hk6 : k % 6 + 1 = n := by omega
              have hk7 : k % 6 * n + n = n * n := by rw [← hadd, hk6]
              omega
          · rw [if_neg hn, if_neg (by omega)]
      · rw [if_neg h12]
        have e1 : k = 11 := by omega
        subst e1
        show (if 5 < n then 1 * (n * n) + 5 * n + n else 1 * (n * n) + n * n) = 2 * (n * n)
        by_cases hn : 5 < n
        · have : n = 6 := by omega
          subst this
          rfl
        · rw [if_neg hn]
          omega
    · intro j j1 j2 ihj s hs
      obtain ⟨l, rfl⟩ : ∃ l : Nat, j = l := ⟨j.toNat, by omega⟩
      rw [show ((l : Int)).toNat = l by omega] at hs
      rw [show ((l : Int) + 1).toNat = l + 1 by omega] at ihj
      have hsb := sm_01 ht1 (dfi n (k / 6) (k % 6) l)
      have hdb : dfi n (k / 6) (k % 6) l ≤ 2 * (n * n) := by
        unfold dfi
        by_cases hn : k % 6 < n
        · rw [if_pos hn]
          have := ixb (n := n) (g := k / 6) (i := k % 6) (j := l) hg hn (by omega)
          omega
        · rw [if_neg hn]
          have : k / 6 * (n * n) ≤ 1 * (n * n) := Nat.mul_le_mul_right _ (by omega)
          omega
      rw [← hs] at hsb
      refine r_iload d_8_13 rfl ?_
      refine r_aload_n d_8_15 rfl (by omega) ?_
      refine r_getfv (ki := 1) d_8_16 q_8_9 rfl ha hA.1 ?_
      refine r_icmp_ge (t := 61) d_8_19 rfl (fun hz => absurd hz (by omega)) (fun _ => ?_)
      refine r_iload_n d_8_22 rfl ?_
      refine r_aload_n d_8_23 rfl (by omega) ?_
      refine r_getc (ki := 2) d_8_24 q_8_15 rfl ha (fxA2 ha) (by omega) ?_
      refine r_iload_n d_8_27 rfl ?_
      refine r_laloadv d_8_28 (shA1 ha) (by omega) (by omega) hra ?_
      refine r_iload d_8_29 rfl ?_
      refine r_callsp d_8_31 q_8_29 rfl rfl (c_elemV he M _ (by omega)) ?_
      refine r_aload_n d_8_34 rfl (by omega) ?_
      refine r_getc (ki := 2) d_8_35 q_8_15 rfl hb (fxA2 hb) (by omega) ?_
      refine r_iload_n d_8_38 rfl ?_
      refine r_laloadv d_8_39 (shA1 hb) (by omega) (by omega) hrb ?_
      refine r_iload d_8_40 rfl ?_
      refine r_callsp d_8_42 q_8_29 rfl rfl (c_elemV he M _ (by omega)) ?_
      have hnx : sm t (dfi n (k / 6) (k % 6) (l + 1)) = s + (if vl (rv n A (k / 6) (k % 6) l) = vl (rv n B (k / 6) (k % 6) l) then 0 else 1) := by
        rw [hs]
        unfold dfi rv
        by_cases hn : k % 6 < n
        · have hq : k % 6 < n ∧ l < n := ⟨hn, by omega⟩
          rw [if_pos hn, if_pos hn, if_pos hq, if_pos hq, ← htv (k / 6) (k % 6) l hn (by omega)]
          rfl
        · have hq : ¬ (k % 6 < n ∧ l < n) := fun z => hn z.1
          rw [if_neg hn, if_neg hn, if_neg hq, if_neg hq, if_pos rfl]
          omega
      refine r_icmp_ne (t := 52) d_8_45 rfl (fun hne => ?_) (fun hne => ?_)
      · rw [if_neg hne] at hnx
        refine r_iconst d_8_52 rfl ?_
        refine r_iadd d_8_53 (by omega) ?_
        refine r_istore_n d_8_54 rfl (stl_5_2 rfl rfl) ?_
        refine r_iinc d_8_55 rfl (by omega) (stl_5_4 rfl rfl) ?_
        refine r_goto (t := 13) d_8_58 rfl ?_
        exact ihj _ hnx.symm
      · rw [if_pos (by omega)] at hnx
        refine r_iconst d_8_48 rfl ?_
        refine r_goto (t := 53) d_8_49 rfl ?_
        refine r_iadd d_8_53 (by omega) ?_
        refine r_istore_n d_8_54 rfl (stl_5_2 rfl rfl) ?_
        refine r_iinc d_8_55 rfl (by omega) (stl_5_4 rfl rfl) ?_
        refine r_goto (t := 13) d_8_58 rfl ?_
        exact ihj _ hnx.symm
  · rw [if_pos (by omega)]
    show (0 : Int) = sm t (dfi n 0 0 0)
    unfold dfi
    by_cases hn : 0 < n
    · rw [if_pos hn, Nat.zero_mul, Nat.zero_mul]
      rfl
    · rw [if_neg hn]
      have : n = 0 := by omega
      subst this
      rfl
def addK (n : Nat) (A B : Nat → Nat → Nat → Kf e) (g i j : Nat) : Kf e := if i < n ∧ j < n then A g i j else if n ≤ i ∧ n ≤ j then B g (i - n) (j - n) else 0
theorem c_joins (he : e ≤ 1) {M : Mo} {a b c : Int} (ha : shp S0 a = (0, 3)) (hb : shp S0 b = (0, 3)) (hc : shp S0 c = (0, 3)) (hab : a ≠ b) (hac : a ≠ c) {n m : Nat} {A B : Nat → Nat → Nat → Kf e} (hA : AA e M b n A) (hB : AA e M c m B) (hnm : nb e (n + m)) : CV 9 [(2, a), (2, b), (2, c)] M (fun M' => Fr (WA a) M M' ∧ AA e M' a (n + m) (addK n A B)) := by
  refine Cl.intro (L := [(2, a), (2, b), (2, c), (9, 0), (9, 0)]) (rcv_v ow_9.2.1 ha) (by unfold entl; rw [mx_9]; rfl) (by rw [mx_9]; exact Nat.le_of_ble_eq_true rfl) rfl ?_
  have ha0 := shA_pos ha
  have hb0 := shA_pos hb
  have hc0 := shA_pos hc
  have h6 : n + m ≤ 6 := by unfold nb at hnm; omega
  refine r_aload_n d_9_0 rfl (by omega) ?_
  refine r_aload_n d_9_1 rfl (by omega) ?_
  refine r_callvr d_9_2 q_9_57 rfl rfl (c_copies M ha hb) (fun M1 hM1 => ?_)
  obtain ⟨hF1, hs1, hr1⟩ := hM1
  have hA1 := WA_A ha hb hab hF1 hA
  have hB1 := WA_A ha hc hac hF1 hB
  refine r_aload_n d_9_5 rfl (by omega) ?_
  refine r_aload_n d_9_6 rfl (by omega) ?_
  refine r_getfv (ki := 1) d_9_7 q_9_9 rfl hb hA1.1 ?_
  refine r_aload_n d_9_10 rfl (by omega) ?_
  refine r_getfv (ki := 1) d_9_11 q_9_9 rfl hc hB1.1 ?_
  refine r_iadd d_9_14 (by omega) ?_
  refine r_putf (ki := 1) d_9_15 q_9_9 rfl ha (fxA1 ha) ?_
  have hF2 : Fr (WA a) M (up2 M1 a 1 ((n : Int) + m)) := fun x y hn => by
    rw [uq_ne (by unfold WA at hn; omega)]
    exact hF1 x y hn
  generalize hM2 : up2 M1 a 1 ((n : Int) + m) = M2 at hF2
  have hs2 : M2 a 1 = (n : Int) + m := by rw [← hM2, uq_eq]
  have hr2 : ∀ g i : Nat, g < 2 → i < 6 → M2 (a + 1) (6 * g + i) = pv (rv n A g i) := fun g i hg hi => by
    rw [← hM2, uq_ne (by omega), hr1 _ (by omega) (by omega)]
    exact hA.2.2 g i hg hi
  refine r_iconst d_9_18 rfl ?_
  refine r_istore_n d_9_19 rfl (stl_5_3 rfl rfl) ?_
  refine dn_ind (R := fun g => ∀ (f : Int → Int) (y : AV), (∀ g' i : Nat, g' < 2 → i < 6 → f (6 * g' + i) = pv (if (g' : Int) < g then rv (n + m) (addK n A B) g' i else rv n A g' i)) → Rn 9 20 [(2, a), (2, b), (2, c), (0, g), y] [] (sr M2 (a + 1) f) _) (lo := 0) (n := 2) ?_ ?_ 0 (by omega) (by omega) (M2 (a + 1)) (9, 0) (fun g' i h1 h2 => by rw [if_neg (by omega)]; exact hr2 g' i h1 h2) |> (fun k => by rw [sr_self] at k; exact k)
  · intro f y hf
    refine r_iload_n d_9_20 rfl ?_
    refine r_iconst d_9_21 rfl ?_
    refine r_icmp_ge (t := 85) d_9_22 rfl (fun _ => ?_) (fun hz => absurd (by omega) hz)
    refine r_vret d_9_85 rt_9 ?_
    refine ⟨rfl, WA_sr hF2 f, ⟨?_, hnm, fun g i hg hi => ?_⟩⟩
    · rw [sr_ne _ _ (by omega), hs2]
      omega
    · rw [sr_eq, hf g i hg hi, if_pos (by omega)]
  · intro g g1 g2 ihg f y hf
    obtain ⟨gn, rfl⟩ : ∃ gn : Nat, g = gn := ⟨g.toNat, by omega⟩
    have hA2 : ∀ f, AA e (sr M2 (a + 1) f) b n A := fun f => WA_A ha hb hab (WA_sr hF2 f) hA
    have hB2 : ∀ f, AA e (sr M2 (a + 1) f) c m B := fun f => WA_A ha hc hac (WA_sr hF2 f) hB
    refine r_iload_n d_9_20 rfl ?_
    refine r_iconst d_9_21 rfl ?_
    refine r_icmp_ge (t := 85) d_9_22 rfl (fun hz => absurd hz (by omega)) (fun _ => ?_)
    refine r_iconst d_9_25 rfl ?_
    refine r_istore d_9_26 rfl (stl_5_4 rfl rfl) ?_
    refine dn_ind (R := fun q => ∀ (f : Int → Int), (∀ g' i : Nat, g' < 2 → i < 6 → f (6 * g' + i) = pv (if (g' : Int) < gn ∨ (g' = gn ∧ (i : Int) < n + q) then rv (n + m) (addK n A B) g' i else rv n A g' i)) → Rn 9 28 [(2, a), (2, b), (2, c), (0, (gn : Int)), (0, q)] [] (sr M2 (a + 1) f) _) (lo := 0) (n := m) ?_ ?_ 0 (by omega) (by omega) f ?_
    · intro f hf
      refine r_iload d_9_28 rfl ?_
      refine r_aload_n d_9_30 rfl (by omega) ?_
      refine r_getfv (ki := 1) d_9_31 q_9_9 rfl hc (hB2 f).1 ?_
      refine r_icmp_ge (t := 79) d_9_34 rfl (fun _ => ?_) (fun hz => absurd (by omega) hz)
      refine r_iinc d_9_79 rfl (by omega) (stl_5_3 rfl rfl) ?_
      refine r_goto (t := 20) d_9_82 rfl ?_
      refine ihg f _ (fun g' i h1 h2 => ?_)
      rw [hf g' i h1 h2]
      by_cases q1 : (g' : Int) < gn
      · rw [if_pos (Or.inl q1), if_pos (by omega)]
      · by_cases q2 : g' = gn
        · by_cases q3 : (i : Int) < n + m
          · rw [if_pos (Or.inr ⟨q2, q3⟩), if_pos (by omega)]
          · rw [if_neg (by omega), if_pos (by omega)]
            refine pv_congr (fun j _ => ?_)
            unfold rv
            rw [if_neg (by omega), if_neg (by omega)]
        · rw [if_neg (by omega), if_neg (by omega)]
    · intro q q1 q2 ihq f hf
      obtain ⟨k, rfl⟩ : ∃ k : Nat, q = k := ⟨q.toNat, by omega⟩
      have hrow := (hB2 f).2.2 gn k (by omega) (by omega)
      have hsh := hx_shr (dv he (rv m B gn k)) (k := n) (by omega)
      rw [← hx_mv (by omega)] at hsh
      refine r_iload d_9_28 rfl ?_
      refine r_aload_n d_9_30 rfl (by omega) ?_
      refine r_getfv (ki := 1) d_9_31 q_9_9 rfl hc (hB2 f).1 ?_
      refine r_icmp_ge (t := 79) d_9_34 rfl (fun hz => absurd hz (by omega)) (fun _ => ?_)
      refine r_aload_n d_9_37 rfl (by omega) ?_
      refine r_getc (ki := 2) d_9_38 q_9_15 rfl ha (fxA2 ha) (by omega) ?_
      refine r_bipush d_9_41 rfl ?_
      refine r_iload_n d_9_43 rfl ?_
      refine r_imul d_9_44 (by omega) ?_
      refine r_aload_n d_9_45 rfl (by omega) ?_
      refine r_getfv (ki := 1) d_9_46 q_9_9 rfl hb (hA2 f).1 ?_
      refine r_iadd d_9_49 (by omega) ?_
      refine r_iload d_9_50 rfl ?_
      refine r_iadd d_9_52 (by omega) ?_
      refine r_aload_n d_9_53 rfl (by omega) ?_
      refine r_getc (ki := 2) d_9_54 q_9_15 rfl hc (fxA2 hc) (by omega) ?_
      refine r_bipush d_9_57 rfl ?_
      refine r_iload_n d_9_59 rfl ?_
      refine r_imul d_9_60 (by omega) ?_
      refine r_iload d_9_61 rfl ?_
      refine r_iadd d_9_63 (by omega) ?_
      refine r_laloadv d_9_64 (shA1 hc) (by omega) (by omega) hrow ?_
      refine r_iconst d_9_65 rfl ?_
      refine r_aload_n d_9_66 rfl (by omega) ?_
      refine r_getfv (ki := 1) d_9_67 q_9_9 rfl hb (hA2 f).1 ?_
      refine r_imul d_9_70 (by omega) ?_
      rw [show (4 : Int) * n = ((4 * n : Nat) : Int) by omega]
      refine r_lushr d_9_71 hsh ?_
      refine r_lastore d_9_72 (shA1 ha) (by omega) (by omega) ?_
      rw [up_sr]
      refine r_iinc d_9_73 rfl (by omega) (stl_5_4 rfl rfl) ?_
      refine r_goto (t := 28) d_9_76 rfl ?_
      refine ihq _ (fun g' i h1 h2 => ?_)
      by_cases q3 : g' = gn ∧ i = n + k
      · obtain ⟨rfl, rfl⟩ := q3
        rw [if_pos (Or.inr ⟨rfl, by omega⟩), show 6 * (g' : Int) + ((n + k : Nat) : Int) = 6 * g' + n + k by omega, u1_eq]
        refine hx_congr (fun j _ => ?_)
        unfold rv addK
        by_cases z1 : j < n
        · rw [if_pos z1]
          by_cases z2 : n + k < n + m ∧ j < n + m
          · rw [if_pos z2, if_neg (by omega), if_neg (by omega), vl_0]
          · rw [if_neg z2, vl_0]
        · rw [if_neg z1]
          by_cases z2 : j < n + m
          · rw [if_pos ⟨by omega, by omega⟩, if_pos ⟨by omega, z2⟩, if_neg (by omega), if_pos ⟨by omega, by omega⟩, show n + k - n = k by omega]
          · rw [if_neg (by omega), if_neg (by omega)]
      · rw [u1_ne _ _ (by omega), hf g' i h1 h2]
        by_cases z : (g' : Int) < gn ∨ g' = gn ∧ (i : Int) < n + k
        · rw [if_pos z, if_pos (by omega)]
        · rw [if_neg z, if_neg (by omega)]
    · intro g' i h1 h2
      rw [hf g' i h1 h2]
      by_cases q1 : (g' : Int) < gn
      · rw [if_pos q1, if_pos (Or.inl q1)]
      · rw [if_neg q1]
        by_cases q2 : g' = gn ∧ (i : Int) < n + 0
        · rw [if_pos (Or.inr q2)]
          refine pv_congr (fun j _ => ?_)
          unfold rv addK
          by_cases z1 : j < n
          · rw [if_pos ⟨by omega, z1⟩, if_pos ⟨by omega, by omega⟩, if_pos ⟨by omega, z1⟩]
          · rw [if_neg (by omega)]
            by_cases z2 : j < n + m
            · rw [if_pos ⟨by omega, z2⟩, if_neg (by omega), if_neg (by omega)]
            · rw [if_neg (by omega)]
        · rw [if_neg (by omega)]
end
