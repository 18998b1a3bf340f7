/-! The class: homomorphism spaces. -/
theorem shV_f : ∀ t : Fin 36, shp S0 (133 + (t.val : Int)) = (21, 6) := by decide +kernel
theorem shV {t : Nat} (h : t < 36) : shp S0 (133 + (t : Int)) = (21, 6) := shV_f ⟨t, h⟩
theorem fxV {t : Int} (h0 : 0 ≤ t) (h1 : t < 36) : fx 132 t = some (133 + t) := by
  unfold fx
  rw [sh_132, if_pos ⟨h0, h1⟩]
  rfl
section
variable {e : Nat}
def r12 (V : Vc e) (r : Nat) : Vc e := fun p => if p < 12 then V (12 * r + p) else 0
def hvM (M : Mo) (t : Nat) (n : Nat) (V : Vc e) : Prop := ∀ r : Nat, r < n → M (133 + (t : Int)) r = pv (r12 V r)
/-- what is kept: k vectors V of the space S that begin at the places q -/
def HI (M : Mo) (n : Nat) (S : Vc e → Prop) (k : Nat) (V : Nat → Vc e) (q : Nat → Nat) : Prop := M 131 4 = k ∧ Sub (12 * n) S ∧ dm 72 S = k ∧ (∀ t : Nat, t < k → hvM M t n (V t) ∧ S (V t) ∧ fp (V t) (q t) ∧ V t (q t) = 1 ∧ (∀ t', t' < t → V t (q t') = 0) ∧ M 169 t = (q t / 12 : Nat) ∧ M 170 t = (q t % 12 : Nat) ∧ q t < 12 * n) ∧ ∀ i, Lp S i ↔ ∃ t, t < k ∧ q t = i
theorem HI.fr {M M1 : Mo} {P : Int → Int → Prop} {n k : Nat} {S : Vc e → Prop} {V : Nat → Vc e} {q : Nat → Nat} (h : HI M n S k V q) (hF : Fr P M M1) (hP : ∀ x y, P x y → ¬ (x = 131 ∧ y = 4) ∧ ¬ (133 ≤ x ∧ x < 133 + (k : Int)) ∧ x ≠ 169 ∧ x ≠ 170) : HI M1 n S k V q := by
  obtain ⟨h1, h2, h3, h4, h5⟩ := h
  refine ⟨(hF _ _ (fun z => (hP _ _ z).1 ⟨rfl, rfl⟩)).trans h1, h2, h3, fun t ht => ?_, h5⟩
  obtain ⟨a1, a2, a3, a4, a5, a6, a7, a8⟩ := h4 t ht
  exact ⟨fun r hr => (hF _ _ (fun z => (hP _ _ z).2.1 (by omega))).trans (a1 r hr), a2, a3, a4, a5, (hF _ _ (fun z => (hP _ _ z).2.2.1 rfl)).trans a6, (hF _ _ (fun z => (hP _ _ z).2.2.2 rfl)).trans a7, a8⟩
theorem c_evaluates (he : e ≤ 1) {M : Mo} (hp : M 1 0 = pI e) {a b : Int} (ha : shp S0 a = (0, 3)) (hb : shp S0 b = (0, 3)) {n m : Nat} {X Y : Nat → Nat → Nat → Kf e} (hX : AA e M a n X) (hY : AA e M b m Y) (hne : ∀ t : Nat, t < 36 → a ≠ 133 + (t : Int) ∧ a + 1 ≠ 133 + (t : Int) ∧ b ≠ 133 + (t : Int) ∧ b + 1 ≠ 133 + (t : Int)) {k : Nat} (hk : k < 36) (hrk : M 131 4 = k) {i j : Nat} (hi : i < n) (hj : j < m) : CV 35 [(2, 131), (2, a), (2, b), (0, (i : Int)), (0, (j : Int))] M (fun M' => Fr (fun x _ => x = 133 + (k : Int)) M M' ∧ hvM M' k n (hvl n m X Y (un (m * i + j)))) := by
  have ha0 := shA_pos ha
  have hb0 := shA_pos hb
  have hn6 := hX.n6
  have hm6 := hY.n6
  have hnk := hne k hk
  have hsv := shV hk
  have h23 := pI23 he
  have hbb := h23.b
  have hcm : (m * i + j) % m = j := by rw [Nat.mul_add_mod, Nat.mod_eq_of_lt hj]
  have hcd : (m * i + j) / m = i := by rw [Nat.mul_add_div (by omega), Nat.div_eq_of_lt hj]; omega
  have hcl : m * i + j < n * m := by
    have := Nat.mul_le_mul_left m (show i + 1 ≤ n by omega)
    rw [Nat.mul_add, Nat.mul_one, Nat.mul_comm m n] at this
    omega
  let U : Nat → Vc e := fun r p => if p = j then X 0 r i else if p = 6 + j then X 1 r i else 0
  have hU : ∀ r p, U r p = if p = j then X 0 r i else if p = 6 + j then X 1 r i else 0 := fun _ _ => rfl
  let I : Vc e := fun p => if p < m then Y 0 j p else if 6 ≤ p ∧ p - 6 < m then Y 1 j (p - 6) else 0
  have hI : ∀ p, I p = if p < m then Y 0 j p else if 6 ≤ p ∧ p - 6 < m then Y 1 j (p - 6) else 0 := fun _ => rfl
  have hval : ∀ r, r < n → ∀ p, p < 12 → r12 (hvl n m X Y (un (m * i + j))) r p = if r = i then U r p + -1 * I p else U r p := by
    intro r hr p hp
    have e1 : r12 (hvl n m X Y (un (m * i + j))) r p = if p % 6 < m then eqV n m X Y (p / 6) r (p % 6) (m * i + j) else 0 := by
      unfold r12 hvl
      rw [if_pos hp, show (12 * r + p) / 12 = r by omega, show (12 * r + p) % 6 = p % 6 by omega, show (12 * r + p) % 12 / 6 = p / 6 by omega]
      by_cases q : p % 6 < m
      · rw [if_pos ⟨hr, q⟩, if_pos q, dot_un hcl]
      · rw [if_neg (fun z => q z.2), if_neg q]
    rw [e1, hU, hI]
    unfold eqV
    rw [if_pos hcl, hcm, hcd]
    rcases (show p < 6 ∨ 6 ≤ p by omega) with hp6 | hp6
    · rw [show p / 6 = 0 by omega, show p % 6 = p by omega]
      by_cases q1 : p < m
      · rw [if_pos q1, if_pos q1]
        by_cases q2 : p = j
        · rw [if_pos q2.symm, if_pos q2]
          by_cases q3 : r = i
          · rw [if_pos q3.symm, if_pos q3]
            grind
          · rw [if_neg (fun z => q3 z.symm), if_neg q3]
            grind
        · rw [if_neg (fun z => q2 z.symm), if_neg q2, if_neg (show ¬ p = 6 + j by omega)]
          by_cases q3 : r = i
          · rw [if_pos q3.symm, if_pos q3]
            grind
          · rw [if_neg (fun z => q3 z.symm), if_neg q3]
            grind
      · rw [if_neg q1, if_neg q1, if_neg (show ¬ p = j by omega), if_neg (show ¬ p = 6 + j by omega), if_neg (show ¬ (6 ≤ p ∧ p - 6 < m) by omega)]
        split <;> grind
    · rw [show p / 6 = 1 by omega, show p % 6 = p - 6 by omega]
      rw [if_neg (show ¬ p = j by omega), if_neg (show ¬ p < m by omega)]
      by_cases q1 : p - 6 < m
      · rw [if_pos q1, if_pos (show 6 ≤ p ∧ p - 6 < m from ⟨hp6, q1⟩)]
        by_cases q2 : p = 6 + j
        · rw [if_pos (show j = p - 6 by omega), if_pos q2]
          by_cases q3 : r = i
          · rw [if_pos q3.symm, if_pos q3]
            grind
          · rw [if_neg (fun z => q3 z.symm), if_neg q3]
            grind
        · rw [if_neg (show ¬ j = p - 6 by omega), if_neg q2]
          by_cases q3 : r = i
          · rw [if_pos q3.symm, if_pos q3]
            grind
          · rw [if_neg (fun z => q3 z.symm), if_neg q3]
            grind
      · rw [if_neg q1, if_neg (show ¬ p = 6 + j by omega), if_neg (show ¬ (6 ≤ p ∧ p - 6 < m) by omega)]
        split <;> grind
  refine Cl.intro (L := [(2, 131), (2, a), (2, b), (0, (i : Int)), (0, (j : Int)), (9, 0), (9, 0), (9, 0)]) (rcv_v ow_35.2.1 sh_131) (by unfold entl; rw [mx_35]; rfl) (by rw [mx_35]; exact Nat.le_of_ble_eq_true rfl) rfl ?_
  refine r_aload_n d_35_0 rfl (by omega) ?_
  refine r_getc (ki := 1) d_35_1 q_35_11 rfl sh_131 fx_131_1 (by omega) ?_
  refine r_aload_n d_35_4 rfl (by omega) ?_
  refine r_getfv (ki := 4) d_35_5 q_35_23 rfl sh_131 hrk ?_
  refine r_aaloadc d_35_8 sh_132 (by decide) (by omega) (by omega) (fxV (by omega) (by omega)) (by omega) ?_
  refine r_astore d_35_9 (by omega) rfl (stl_8_5 rfl rfl) ?_
  refine r_iconst d_35_11 rfl ?_
  refine r_istore d_35_12 rfl (stl_8_6 rfl rfl) ?_
  refine dn_ind (R := fun r => ∀ (f : Int → Int) (y : AV), (∀ r' : Nat, (r' : Int) < r → f r' = pv (U r')) → Rn 35 14 [(2, 131), (2, a), (2, b), (0, (i : Int)), (0, (j : Int)), (2, 133 + (k : Int)), (0, r), y] [] (sr M (133 + (k : Int)) f) _) (lo := 0) (n := n) ?_ ?_ 0 (by omega) (by omega) (M (133 + (k : Int))) (9, 0) (fun r' z => by omega) |> (fun k => by rw [sr_self] at k; exact k)
  · intro f y hf
    have hF : ∀ f, Fr (fun x _ => x = 133 + (k : Int)) M (sr M (133 + (k : Int)) f) := fun f x y hx => by rw [sr_ne _ _ hx]
    have hX2 : AA e (sr M (133 + (k : Int)) f) a n X := hX.fr (hF f) (fun x y z1 z2 => by unfold WA at z1; omega)
    have hY2 : AA e (sr M (133 + (k : Int)) f) b m Y := hY.fr (hF f) (fun x y z1 z2 => by unfold WA at z1; omega)
    have hp2 : sr M (133 + (k : Int)) f 1 0 = pI e := (hF f 1 0 (by omega)).trans hp
    have hy0 := hY2.2.2 0 j (by omega) (by omega)
    have hy1 := hY2.2.2 1 j (by omega) (by omega)
    have hy0' : sr M (133 + (k : Int)) f (b + 1) (j : Int) = pv (rv m Y 0 j) := by
      rw [← hy0]
      congr 1
      omega
    have hy1' : sr M (133 + (k : Int)) f (b + 1) (6 + (j : Int)) = pv (rv m Y 1 j) := by
      rw [← hy1]
      congr 1
    have hsh := hx_shr (dv he (rv m Y 1 j)) (k := 6) (by omega)
    rw [← hx_mv (by omega)] at hsh
    have hd2 : d16 (fun t => if t < 6 then 0 else vl (rv m Y 1 j (t - 6))) := fun t => by
      have := vl_b he (rv m Y 1 j (t - 6))
      dsimp only
      split <;> omega
    have hor := hx_or (dv he (rv m Y 0 j)) hd2 (fun t _ => by
      by_cases q : t < 6
      · exact Or.inr (if_pos q)
      · refine Or.inl ?_
        rw [rv_sup t (by omega)]
        rfl)
    have hIm : hx (fun t => vl (rv m Y 0 j t) + if t < 6 then 0 else vl (rv m Y 1 j (t - 6))) 12 = pv I := by
      refine hx_congr (fun t _ => ?_)
      rw [hI]
      unfold rv
      by_cases q1 : t < m
      · rw [if_pos ⟨hj, q1⟩, if_pos (by omega), if_pos q1]
        omega
      · rw [if_neg (fun z => q1 z.2), if_neg q1, vl_0]
        by_cases q2 : t < 6
        · rw [if_pos q2, if_neg (by omega)]
          rfl
        · rw [if_neg q2]
          by_cases q3 : t - 6 < m
          · rw [if_pos ⟨hj, q3⟩, if_pos ⟨by omega, q3⟩]
            omega
          · rw [if_neg (fun z => q3 z.2), if_neg (fun z => q3 z.2)]
            rfl
    have hfi := hf i (by omega)
    have hfi2 : sr M (133 + (k : Int)) f (133 + (k : Int)) (i : Int) = pv (U i) := by rw [sr_eq]; exact hfi
    have hng := c_negative _ hp2 h23 (c := 1) (by omega)
    rw [if_neg (by decide)] at hng
    have hpt := c_plusTimes he _ hp2 (U i) I (c := pI e - 1) (by omega)
    have ek : kI e (pI e - 1) = -1 := by
      have := kI_neg (1 : Kf e)
      rw [vl_1] at this
      exact this
    rw [ek] at hpt
    refine r_iload d_35_14 rfl ?_
    refine r_aload_n d_35_16 rfl (by omega) ?_
    refine r_getfv (ki := 1) d_35_17 q_35_31 rfl ha hX2.1 ?_
    refine r_icmp_ge (t := 68) d_35_20 rfl (fun _ => ?_) (fun hz => absurd (by omega) hz)
    refine r_aload_n d_35_68 rfl (by omega) ?_
    refine r_getc (ki := 2) d_35_69 q_35_55 rfl hb (fxA2 hb) (by omega) ?_
    refine r_iload d_35_72 rfl ?_
    refine r_laloadv d_35_74 (shA1 hb) (by omega) (by omega) hy0' ?_
    refine r_aload_n d_35_75 rfl (by omega) ?_
    refine r_getc (ki := 2) d_35_76 q_35_55 rfl hb (fxA2 hb) (by omega) ?_
    refine r_bipush d_35_79 rfl ?_
    refine r_iload d_35_81 rfl ?_
    refine r_iadd d_35_83 (by omega) ?_
    refine r_laloadv d_35_84 (shA1 hb) (by omega) (by omega) hy1' ?_
    refine r_bipush d_35_85 rfl ?_
    refine r_lushr d_35_87 hsh ?_
    refine r_lor d_35_88 hor ?_
    rw [hIm]
    refine r_lstore d_35_89 rfl (stw_8_6 rfl rfl) ?_
    refine r_aload d_35_91 rfl (by omega) ?_
    refine r_iload_n d_35_93 rfl ?_
    refine r_aload_n d_35_94 rfl (by omega) ?_
    refine r_getc (ki := 0) d_35_95 q_35_27 rfl sh_131 fx_131_0 (by omega) ?_
    refine r_aload d_35_98 rfl (by omega) ?_
    refine r_iload_n d_35_100 rfl ?_
    refine r_laloadv d_35_101 hsv (by omega) (by omega) hfi2 ?_
    refine r_aload_n d_35_102 rfl (by omega) ?_
    refine r_getc (ki := 0) d_35_103 q_35_27 rfl sh_131 fx_131_0 (by omega) ?_
    refine r_iconst d_35_106 rfl ?_
    refine r_callvp d_35_107 q_35_59 rfl rfl hng ?_
    refine r_lload d_35_110 rfl ?_
    refine r_callvl d_35_112 q_35_65 rfl rfl hpt ?_
    refine r_lastore d_35_115 hsv (by omega) (by omega) ?_
    refine r_vret d_35_116 rt_35 ?_
    rw [up_sr]
    refine ⟨rfl, hF _, fun r hr => ?_⟩
    rw [sr_eq]
    by_cases q : r = i
    · rw [q, u1_eq]
      refine pv_congr (fun p hp => ?_)
      rw [hval i hi p hp, if_pos rfl]
      rfl
    · rw [u1_ne _ _ (by omega), hf r (by omega)]
      refine pv_congr (fun p hp => ?_)
      rw [hval r hr p hp, if_neg q]
  · intro r r1 r2 ih f y hf
    obtain ⟨l, rfl⟩ : ∃ l : Nat, r = l := ⟨r.toNat, by omega⟩
    have hF : ∀ f, Fr (fun x _ => x = 133 + (k : Int)) M (sr M (133 + (k : Int)) f) := fun f x y hx => by rw [sr_ne _ _ hx]
    have hX2 : AA e (sr M (133 + (k : Int)) f) a n X := hX.fr (hF f) (fun x y z1 z2 => by unfold WA at z1; omega)
    have he0 := c_entry he ha hX2 (g := 0) (i := l) (j := i) (by omega) (by omega) hi
    have he1 := c_entry he ha hX2 (g := 1) (i := l) (j := i) (by omega) (by omega) hi
    have hv0 := vl_b he (X 0 l i)
    have hv1 := vl_b he (X 1 l i)
    have hu1 := c_unit (sr M (133 + (k : Int)) f) (i := 6 + j) (by omega)
    rw [show ((6 + j : Nat) : Int) = 6 + (j : Int) by omega] at hu1
    have hd0 := hx_12 (dgt_d (i := j) (c := vl (X 0 l i)) (by omega))
    have hd1 := hx_12 (dgt_d (i := 6 + j) (c := vl (X 1 l i)) (by omega))
    have hor := hx_or (dgt_d (i := j) (c := vl (X 0 l i)) (by omega)) (dgt_d (i := 6 + j) (c := vl (X 1 l i)) (by omega)) (fun t _ => by
      unfold dgt
      by_cases q : t = j
      · exact Or.inr (if_neg (by omega))
      · exact Or.inl (if_neg q))
    have hnew : hx (fun t => dgt j (vl (X 0 l i)) t + dgt (6 + j) (vl (X 1 l i)) t) 12 = pv (U l) := by
      refine hx_congr (fun t _ => ?_)
      rw [hU]
      unfold dgt
      by_cases q : t = j
      · rw [if_pos q, if_pos q, if_neg (by omega)]
        omega
      · rw [if_neg q, if_neg q]
        by_cases q2 : t = 6 + j
        · rw [if_pos q2, if_pos q2]
          omega
        · rw [if_neg q2, if_neg q2]
          rfl
    refine r_iload d_35_14 rfl ?_
    refine r_aload_n d_35_16 rfl (by omega) ?_
    refine r_getfv (ki := 1) d_35_17 q_35_31 rfl ha hX2.1 ?_
    refine r_icmp_ge (t := 68) d_35_20 rfl (fun hz => absurd hz (by omega)) (fun _ => ?_)
    refine r_aload d_35_23 rfl (by omega) ?_
    refine r_iload d_35_25 rfl ?_
    refine r_aload_n d_35_27 rfl (by omega) ?_
    refine r_iconst d_35_28 rfl ?_
    refine r_iload d_35_29 rfl ?_
    refine r_iload_n d_35_31 rfl ?_
    refine r_callvp d_35_32 q_35_47 rfl rfl he0 ?_
    refine r_i2l d_35_35 ?_
    refine r_iload d_35_36 rfl ?_
    refine r_callsl d_35_38 q_35_51 rfl rfl (c_unit _ (by omega)) ?_
    refine r_lmul d_35_41 (by rw [dg12 _ (by omega)]; omega) ?_
    rw [dg12 _ (by omega)]
    refine r_aload_n d_35_42 rfl (by omega) ?_
    refine r_iconst d_35_43 rfl ?_
    refine r_iload d_35_44 rfl ?_
    refine r_iload_n d_35_46 rfl ?_
    refine r_callvp d_35_47 q_35_47 rfl rfl he1 ?_
    refine r_i2l d_35_50 ?_
    refine r_bipush d_35_51 rfl ?_
    refine r_iload d_35_53 rfl ?_
    refine r_iadd d_35_55 (by omega) ?_
    refine r_callsl d_35_56 q_35_51 rfl rfl hu1 ?_
    refine r_lmul d_35_59 (by rw [dg12 _ (by omega)]; omega) ?_
    rw [dg12 _ (by omega)]
    refine r_lor d_35_60 hor ?_
    rw [hnew]
    refine r_lastore d_35_61 hsv (by omega) (by omega) ?_
    rw [up_sr]
    refine r_iinc d_35_62 rfl (by omega) (stl_8_6 rfl rfl) ?_
    refine r_goto (t := 14) d_35_65 rfl ?_
    refine ih _ _ (fun r' z => ?_)
    by_cases q : r' = l
    · rw [q, u1_eq]
    · rw [u1_ne _ _ (by omega)]
      exact hf r' (by omega)
end
