/-! The class: packed vectors over the field. -/
def pv {e : Nat} (w : Vc e) : Int := hx (fun i => vl (w i)) 12
theorem dv {e : Nat} (he : e ≤ 1) (w : Vc e) : d16 (fun i => vl (w i)) := fun i => by
  have h := vl_b he (w i)
  show 0 ≤ vl (w i) ∧ vl (w i) < 16
  omega
theorem pv_rng {e : Nat} (he : e ≤ 1) (w : Vc e) : 0 ≤ pv w ∧ pv w < 281474976710656 := hx_12 (dv he w)
theorem pv_congr {e : Nat} {u w : Vc e} (h : ∀ i, i < 12 → u i = w i) : pv u = pv w := hx_congr (fun i hi => by rw [h i hi])
theorem pv_inj {e : Nat} (he : e ≤ 1) {u w : Vc e} (h : pv u = pv w) : ∀ i, i < 12 → u i = w i := fun i hi => vl_inj (hx_inj (dv he u) (dv he w) h i hi)
theorem pv_z0 {e : Nat} : pv (z0 : Vc e) = 0 := hx_zero 12
theorem pv_eq0 {e : Nat} (he : e ≤ 1) {w : Vc e} (hw : sup 12 w) : pv w = 0 ↔ w = z0 := by
  constructor
  · intro h
    exact sup_ext hw sup_z0 (pv_inj he (by rw [h, pv_z0]))
  · intro h
    rw [h, pv_z0]
theorem sup_le {e n m : Nat} {w : Vc e} (h : sup n w) (hn : n ≤ m) : sup m w := fun i hi => h i (by omega)
theorem lc1 {e : Nat} (x y : Vc e) (c d : Kf e) : lc (lc x c y) d y = lc x (c + d) y := lc_lc x y c d
theorem kI_succ {e : Nat} (z : Int) : kI e z + 1 = kI e (z + 1) := by
  apply vl_inj
  rw [vl_add, vl_kI, vl_kI, vl_1, Int.emod_add_emod]
def ovf {e : Nat} (u y : Vc e) (i : Nat) : Int := if pI e ≤ vl (u i) + vl (y i) then 1 else 0
theorem ovf_d {e : Nat} (u y : Vc e) : d16 (ovf u y) := fun i => by unfold ovf; split <;> omega
theorem pv_step {e : Nat} (u y : Vc e) : pv u + pv y - pI e * hx (ovf u y) 12 = pv (lc u 1 y) := by
  have h : pv u + pv y = pv (lc u 1 y) + pI e * hx (ovf u y) 12 := by
    unfold pv
    rw [← hx_add, ← hx_mul, ← hx_add]
    refine hx_congr (fun i _ => ?_)
    have a1 := vl_rng (u i)
    have a2 := vl_rng (y i)
    have e1 : vl (lc u 1 y i) = (vl (u i) + vl (y i)) % pI e := by
      rw [← vl_add]
      unfold lc
      congr 2
      grind
    rw [e1]
    unfold ovf
    by_cases hq : pI e ≤ vl (u i) + vl (y i)
    · have e2 : (vl (u i) + vl (y i)) % pI e = vl (u i) + vl (y i) - pI e := by
        have e3 : vl (u i) + vl (y i) = (vl (u i) + vl (y i) - pI e) + 1 * pI e := by omega
        have e4 := Int.add_mul_emod_self_right (vl (u i) + vl (y i) - pI e) 1 (pI e)
        rw [← e3, Int.emod_eq_of_lt (a := vl (u i) + vl (y i) - pI e) (by omega) (by omega)] at e4
        exact e4
      rw [if_pos hq, e2]
      omega
    · rw [if_neg hq, Int.emod_eq_of_lt (by omega) (by omega)]
      omega
  omega
theorem ovf_sh {e : Nat} (he : e ≤ 1) (u y : Vc e) : (Int64.ofInt (pv u + pv y + (8 - pI e) * 18764998447377) &&& Int64.ofInt 150119987579016).toInt = 8 * hx (ovf u y) 12 := by
  have e1 : (18764998447377 : Int) = hx (fun _ => 1) 12 := by decide
  have hpb := (pI23 he).b
  have hd : d16 (fun i => vl (u i) + vl (y i) + (8 - pI e) * 1) := fun i => by
    have a1 := vl_rng (u i)
    have a2 := vl_rng (y i)
    dsimp only
    omega
  have e2 : pv u + pv y + (8 - pI e) * 18764998447377 = hx (fun i => vl (u i) + vl (y i) + (8 - pI e) * 1) 12 := by
    rw [e1, ← hx_mul]
    unfold pv
    rw [← hx_add, ← hx_add]
  rw [e2, hx_and8 hd, ← hx_mul]
  refine hx_congr (fun i _ => ?_)
  unfold ovf
  by_cases hq : pI e ≤ vl (u i) + vl (y i)
  · rw [if_pos hq, if_pos (by omega)]
    rfl
  · rw [if_neg hq, if_neg (by omega)]
    rfl
theorem shr3 {x : Int} (h0 : 0 ≤ x) (h1 : x < 281474976710656) : ((Int64.ofInt (8 * x)).toUInt64 >>> ((Int32.ofInt 3).toInt64.toUInt64 &&& Int64.toUInt64 63)).toInt64.toInt = x := by
  obtain ⟨n, hn⟩ : ∃ n : Nat, 8 * x = n := ⟨(8 * x).toNat, by omega⟩
  have h := lushr_ok (n := n) (k := 3) (by omega) (by omega)
  rw [hn]
  refine Eq.trans h ?_
  omega
theorem c_plusTimes {e : Nat} (he : e ≤ 1) (M : Mo) (hp : M 1 0 = pI e) (x y : Vc e) {c : Int} (hc : 0 ≤ c ∧ c ≤ 2) : PL 30 [(2, 1), (1, pv x), (0, c), (1, pv y)] M (pv (lc x (kI e c) y)) := by
  refine Cl.intro (L := [(2, 1), (1, pv x), (9, 0), (0, c), (1, pv y), (9, 0), (9, 0), (9, 0), (9, 0)]) (rcv_v ow_30.2.1 sh_1) (by unfold entl; rw [mx_30]; rfl) (by rw [mx_30]; exact Nat.le_of_ble_eq_true rfl) rfl ?_
  have hb := (pI23 he).b
  have hy := pv_rng he y
  refine r_lload_n d_30_0 rfl ?_
  refine r_lstore d_30_1 rfl (stw_9_6 rfl rfl) ?_
  refine r_iconst d_30_3 rfl ?_
  refine r_istore d_30_4 rfl (stl_9_8 rfl rfl) ?_
  refine dn_ind (R := fun i => ∀ s : Int, s = pv (lc x (kI e i) y) → Rn 30 6 [(2, 1), (1, pv x), (9, 0), (0, c), (1, pv y), (9, 0), (1, s), (9, 0), (0, i)] [] M _) (lo := 0) (n := c) ?_ ?_ 0 (by omega) (by omega) (pv x) ?_
  · intro s hs
    refine r_iload d_30_6 rfl ?_
    refine r_iload_n d_30_8 rfl ?_
    refine r_icmp_ge (t := 57) d_30_9 rfl (fun _ => ?_) (fun hz => absurd (by omega) hz)
    refine r_lload d_30_57 rfl ?_
    refine r_lret d_30_59 rt_30 ?_
    exact ⟨by rw [hs], rfl⟩
  · intro i i1 i2 ih s hs
    have hu := pv_rng he (lc x (kI e i) y)
    have ho := hx_12 (ovf_d (lc x (kI e i) y) y)
    have hst := pv_step (lc x (kI e i) y) y
    have hsh := ovf_sh he (lc x (kI e i) y) y
    have h3 := shr3 ho.1 ho.2
    have e9 : lc (lc x (kI e i) y) 1 y = lc x (kI e (i + 1)) y := by rw [lc_lc, kI_succ]
    rw [e9] at hst
    have hm := mb (x := pI e) (y := hx (ovf (lc x (kI e i) y) y) 12) (a := 3) (b := 281474976710656) (by omega) (by omega)
    subst hs
    refine r_iload d_30_6 rfl ?_
    refine r_iload_n d_30_8 rfl ?_
    refine r_icmp_ge (t := 57) d_30_9 rfl (fun hz => absurd hz (by omega)) (fun _ => ?_)
    refine r_lload d_30_12 rfl ?_
    refine r_lload d_30_14 rfl ?_
    refine r_ladd d_30_16 (by omega) ?_
    refine r_lstore d_30_17 rfl (stw_9_6 rfl rfl) ?_
    refine r_lload d_30_19 rfl ?_
    refine r_aload_n d_30_21 rfl (by omega) ?_
    refine r_getfv (ki := 0) d_30_22 q_30_9 rfl sh_1 hp ?_
    refine r_i2l d_30_25 ?_
    refine r_lload d_30_26 rfl ?_
    refine r_bipush d_30_28 rfl ?_
    refine r_aload_n d_30_30 rfl (by omega) ?_
    refine r_getfv (ki := 0) d_30_31 q_30_9 rfl sh_1 hp ?_
    refine r_isub d_30_34 (by omega) ?_
    refine r_i2l d_30_35 ?_
    refine r_ldc2_w d_30_36 q_30_21 ?_
    refine r_lmul d_30_39 (by omega) ?_
    refine r_ladd d_30_40 (by omega) ?_
    refine r_ldc2_w d_30_41 q_30_23 ?_
    refine r_land d_30_44 hsh ?_
    refine r_iconst d_30_45 rfl ?_
    refine r_lushr d_30_46 h3 ?_
    refine r_lmul d_30_47 (by omega) ?_
    refine r_lsub d_30_48 (by omega) ?_
    rw [hst]
    refine r_lstore d_30_49 rfl (stw_9_6 rfl rfl) ?_
    refine r_iinc d_30_51 rfl (by omega) (stl_9_8 rfl rfl) ?_
    refine r_goto (t := 6) d_30_54 rfl ?_
    exact ih _ rfl
  · have e0 : kI e 0 = 0 := by
      apply vl_inj
      rw [vl_kI, vl_0, Int.zero_emod]
    rw [e0, lc_0]
theorem dg12 (c : Int) {i : Nat} (hi : i < 12) : c * 16 ^ (11 - i) = hx (dgt i c) 12 := (hx_dgt c hi).symm
theorem dgt_d {i : Nat} {c : Int} (hc : 0 ≤ c ∧ c < 16) : d16 (dgt i c) := fun j => by unfold dgt; split <;> omega
theorem c_vector {e : Nat} (he : e ≤ 1) (M : Mo) (hp : M 1 0 = pI e) {v : Int} (h0 : 0 ≤ v ∧ v < 2147483648) {n : Nat} (hn : n ≤ 6) : PL 31 [(2, 1), (0, v), (0, (n : Int))] M (pv (toV e n v)) := by
  refine Cl.intro (L := [(2, 1), (0, v), (0, (n : Int)), (9, 0), (9, 0), (9, 0), (9, 0), (9, 0)]) (rcv_v ow_31.2.1 sh_1) (by unfold entl; rw [mx_31]; rfl) (by rw [mx_31]; exact Nat.le_of_ble_eq_true rfl) rfl ?_
  have h23 := pI23 he
  have hb := h23.b
  refine r_lconst d_31_0 rfl ?_
  refine r_lstore_n d_31_1 rfl (stw_8_3 rfl rfl) ?_
  refine r_iload_n d_31_2 rfl ?_
  refine r_istore d_31_3 rfl (stl_8_5 rfl rfl) ?_
  refine r_iconst d_31_5 rfl ?_
  refine r_istore d_31_6 rfl (stl_8_6 rfl rfl) ?_
  refine dn_ind (R := fun i => ∀ s l y, s = hx (fun j => if j < i.toNat then vl (toV e n v j) else 0) 12 → l = v / pI e ^ i.toNat → Rn 31 8 [(2, 1), (0, v), (0, (n : Int)), (1, s), (9, 0), (0, l), (0, i), y] [] M _) (lo := 0) (n := n) ?_ ?_ 0 (by omega) (by omega) 0 v (9, 0) ?_ (by rw [show Int.toNat 0 = 0 from rfl, Int.pow_zero, Int.ediv_one])
  · intro s l y hs hl
    refine r_iload d_31_8 rfl ?_
    refine r_iload_n d_31_10 rfl ?_
    refine r_icmp_ge (t := 61) d_31_11 rfl (fun _ => ?_) (fun hz => absurd (by omega) hz)
    refine r_lload_n d_31_61 rfl ?_
    refine r_lret d_31_62 rt_31 ?_
    refine ⟨?_, rfl⟩
    rw [hs]
    congr 2
    refine hx_congr (fun j _ => ?_)
    by_cases hj : j < n
    · rw [if_pos (by omega)]
    · rw [if_neg (by omega), toV_sup j (by omega), vl_0]
  · intro i i1 i2 ih s l y hs hl
    have hin : i.toNat < n := by omega
    have hpw := pw_pos h23 i.toNat
    have b1 := Int.ediv_nonneg h0.1 (by omega : 0 ≤ pI e ^ i.toNat)
    have b2 := Int.ediv_le_self (pI e ^ i.toNat) h0.1
    rw [← hl] at b1 b2
    have hdg : l % pI e = vl (toV e n v i.toNat) := by
      unfold toV
      rw [if_pos hin, vl_kI, hl]
      unfold dg
      rw [Int.emod_emod]
    have hvb := vl_b he (toV e n v i.toNat)
    have hu := c_unit M (i := i.toNat) (by omega)
    rw [show ((i.toNat : Nat) : Int) = i by omega] at hu
    have hdv : d16 (fun j => if j < i.toNat then vl (toV e n v j) else 0) := fun j => by
      have := vl_b he (toV e n v j)
      dsimp only
      split <;> omega
    have hor := hx_or hdv (dgt_d (i := i.toNat) (c := vl (toV e n v i.toNat)) (by omega)) (fun j _ => by
      unfold dgt
      by_cases q : j = i.toNat
      · exact Or.inl (if_neg (by omega))
      · exact Or.inr (if_neg q))
    have hnew : hx (fun j => (if j < i.toNat then vl (toV e n v j) else 0) + dgt i.toNat (vl (toV e n v i.toNat)) j) 12 = hx (fun j => if j < (i + 1).toNat then vl (toV e n v j) else 0) 12 := by
      refine hx_congr (fun j _ => ?_)
      unfold dgt
      by_cases q : j = i.toNat
      · subst q
        rw [if_neg (by omega), if_pos rfl, if_pos (by omega)]
        omega
      · rw [if_neg q]
        by_cases q2 : j < i.toNat
        · rw [if_pos q2, if_pos (by omega)]
          omega
        · rw [if_neg q2, if_neg (by omega)]
          rfl
    have hdr := hx_12 (dgt_d (i := i.toNat) (c := vl (toV e n v i.toNat)) (by omega))
    have hdiv : l / pI e = v / pI e ^ (i + 1).toNat := by rw [show (i + 1).toNat = i.toNat + 1 by omega, ediv_pw h23, hl]
    refine r_iload d_31_8 rfl ?_
    refine r_iload_n d_31_10 rfl ?_
    refine r_icmp_ge (t := 61) d_31_11 rfl (fun hz => absurd hz (by omega)) (fun _ => ?_)
    refine r_aload_n d_31_14 rfl (by omega) ?_
    refine r_iload d_31_15 rfl ?_
    refine r_callvp d_31_17 q_31_25 rfl rfl (c_modulo M hp h23 (by omega)) ?_
    rw [hdg]
    refine r_istore d_31_20 rfl (stl_8_7 rfl rfl) ?_
    refine r_lload_n d_31_22 rfl ?_
    refine r_iload d_31_23 rfl ?_
    refine r_i2l d_31_25 ?_
    refine r_iload d_31_26 rfl ?_
    refine r_callsl d_31_28 q_31_29 rfl rfl hu ?_
    refine r_lmul d_31_31 (by rw [dg12 _ (by omega)]; omega) ?_
    rw [dg12 _ (by omega), hs]
    refine r_lor d_31_32 hor ?_
    rw [hnew]
    refine r_lstore_n d_31_33 rfl (stw_8_3 rfl rfl) ?_
    refine r_aload_n d_31_34 rfl (by omega) ?_
    refine r_getfv (ki := 0) d_31_35 q_31_9 rfl sh_1 hp ?_
    refine r_iconst d_31_38 rfl ?_
    refine r_icmp_ne (t := 49) d_31_39 rfl (fun hq => ?_) (fun hq => ?_)
    · refine r_iload d_31_49 rfl ?_
      refine r_iconst d_31_51 rfl ?_
      refine r_idivn d_31_52 (by omega) (by omega) ?_
      refine r_istore d_31_53 rfl (stl_8_5 rfl rfl) ?_
      refine r_iinc d_31_55 rfl (by omega) (stl_8_6 rfl rfl) ?_
      refine r_goto (t := 8) d_31_58 rfl ?_
      exact ih _ _ _ rfl (by rw [← hdiv]; congr 1; unfold p23 at h23; omega)
    · refine r_iload d_31_42 rfl ?_
      refine r_iconst d_31_44 rfl ?_
      refine r_idivn d_31_45 (by omega) (by omega) ?_
      refine r_goto (t := 53) d_31_46 rfl ?_
      refine r_istore d_31_53 rfl (stl_8_5 rfl rfl) ?_
      refine r_iinc d_31_55 rfl (by omega) (stl_8_6 rfl rfl) ?_
      refine r_goto (t := 8) d_31_58 rfl ?_
      exact ih _ _ _ rfl (by rw [← hdiv]; congr 1; omega)
  · rw [hx_congr (g := fun _ => 0) (fun j _ => if_neg (by omega)), hx_zero]
theorem c_number {e : Nat} (he : e ≤ 1) (M : Mo) (hp : M 1 0 = pI e) (w : Vc e) {n : Nat} (hn : n ≤ 6) : PI 32 [(2, 1), (1, pv w), (0, (n : Int))] M (num n w) := by
  refine Cl.intro (L := [(2, 1), (1, pv w), (9, 0), (0, (n : Int)), (9, 0), (9, 0)]) (rcv_v ow_32.2.1 sh_1) (by unfold entl; rw [mx_32]; rfl) (by rw [mx_32]; exact Nat.le_of_ble_eq_true rfl) rfl ?_
  have h23 := pI23 he
  have hb := h23.b
  have hnr := num_rng he n w
  have h6 := pw_6 h23 hn
  have key : ∀ j : Nat, j ≤ n → ∀ s : Int, 0 ≤ s → num n w = num j w + pI e ^ j * s → Rn 32 8 [(2, 1), (1, pv w), (9, 0), (0, (n : Int)), (0, s), (0, (j : Int) - 1)] [] M (fun v M' => v = some (0, num n w) ∧ M' = M) := by
    intro j
    induction j with
    | zero =>
      intro _ s hs hq
      refine r_iload d_32_8 rfl ?_
      refine r_if_lt (t := 35) d_32_10 rfl (fun _ => ?_) (fun hz => absurd (by omega) hz)
      refine r_iload d_32_35 rfl ?_
      refine r_iret d_32_37 rt_32 ?_
      refine ⟨?_, rfl⟩
      rw [hq]
      congr 2
      show s = 0 + pI e ^ 0 * s
      rw [Int.pow_zero]
      omega
    | succ j ih =>
      intro hj s hs hq
      have hjr := num_rng he (j + 1) w
      have hpw := pw_pos h23 (j + 1)
      have hle : 1 * s ≤ pI e ^ (j + 1) * s := Int.mul_le_mul_of_nonneg_right (by omega) hs
      have hvb := vl_b he (w j)
      have hm := mb (x := s) (y := pI e) (a := 729) (b := 3) (by omega) (by omega)
      have he1 := c_element M (dv he w) (i := j) (by omega)
      have e1 : (((j + 1 : Nat) : Int) - 1) = (j : Int) := by omega
      rw [e1]
      refine r_iload d_32_8 rfl ?_
      refine r_if_lt (t := 35) d_32_10 rfl (fun hz => absurd hz (by omega)) (fun _ => ?_)
      refine r_iload d_32_13 rfl ?_
      refine r_aload_n d_32_15 rfl (by omega) ?_
      refine r_getfv (ki := 0) d_32_16 q_32_9 rfl sh_1 hp ?_
      refine r_imul d_32_19 (by omega) ?_
      refine r_lload_n d_32_20 rfl ?_
      refine r_iload d_32_21 rfl ?_
      refine r_callsp d_32_23 q_32_33 rfl rfl he1 ?_
      refine r_iadd d_32_26 (by omega) ?_
      refine r_istore d_32_27 rfl (stl_6_4 rfl rfl) ?_
      refine r_iinc d_32_29 rfl (by omega) (stl_6_5 rfl rfl) ?_
      refine r_goto (t := 8) d_32_32 rfl ?_
      refine ih (by omega) _ (by omega) ?_
      have e2 : num (j + 1) w = num j w + vl (w j) * pI e ^ j := rfl
      rw [hq, e2, Int.pow_succ]
      have e3 : pI e ^ j * (s * pI e + vl (w j)) = vl (w j) * pI e ^ j + pI e ^ j * pI e * s := by
        rw [Int.mul_add, Int.mul_comm (pI e ^ j) (vl (w j)), Int.mul_comm s (pI e), ← Int.mul_assoc]
        omega
      rw [e3]
      omega
  refine r_iconst d_32_0 rfl ?_
  refine r_istore d_32_1 rfl (stl_6_4 rfl rfl) ?_
  refine r_iload_n d_32_3 rfl ?_
  refine r_iconst d_32_4 rfl ?_
  refine r_isub d_32_5 (by omega) ?_
  refine r_istore d_32_6 rfl (stl_6_5 rfl rfl) ?_
  refine key n (Nat.le_refl n) 0 (by omega) ?_
  omega
