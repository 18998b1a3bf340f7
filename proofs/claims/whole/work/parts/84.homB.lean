/-! The class: homomorphism spaces; ways. -/
section
variable {e : Nat}
theorem r12_ext {n : Nat} {u w : Vc e} (hu : sup (12 * n) u) (hw : sup (12 * n) w) (h : ∀ r, r < n → ∀ p, p < 12 → r12 u r p = r12 w r p) : u = w := by
  refine sup_ext hu hw (fun i hi => ?_)
  have h1 := h (i / 12) (by omega) (i % 12) (by omega)
  unfold r12 at h1
  rw [if_pos (by omega), if_pos (by omega), show 12 * (i / 12) + i % 12 = i by omega] at h1
  exact h1
theorem c_reduces (he : e ≤ 1) {M : Mo} (hp : M 1 0 = pI e) {n k : Nat} (hn : n ≤ 6) (hk : k < 36) {S : Vc e → Prop} {V : Nat → Vc e} {q : Nat → Nat} (hI : HI M n S k V q) {x : Vc e} (hx : sup (12 * n) x) (hvx : hvM M k n x) : CV 36 [(2, 131), (0, (n : Int))] M (fun M' => Fr (fun x _ => x = 133 + (k : Int)) M M' ∧ ∃ x', sup (12 * n) x' ∧ S (lc x' (-1) x) ∧ (∀ t, t < k → x' (q t) = 0) ∧ hvM M' k n x') := by
  obtain ⟨i1, i2, i3, i4, i5⟩ := id hI
  have hsv := shV hk
  have h23 := pI23 he
  have hbb := h23.b
  refine Cl.intro (L := [(2, 131), (0, (n : Int)), (9, 0), (9, 0), (9, 0), (9, 0)]) (rcv_v ow_36.2.1 sh_131) (by unfold entl; rw [mx_36]; rfl) (by rw [mx_36]; exact Nat.le_of_ble_eq_true rfl) rfl ?_
  refine r_aload_n d_36_0 rfl (by omega) ?_
  refine r_getc (ki := 1) d_36_1 q_36_11 rfl sh_131 fx_131_1 (by omega) ?_
  refine r_aload_n d_36_4 rfl (by omega) ?_
  refine r_getfv (ki := 4) d_36_5 q_36_23 rfl sh_131 i1 ?_
  refine r_aaloadc d_36_8 sh_132 (by decide) (by omega) (by omega) (fxV (by omega) (by omega)) (by omega) ?_
  refine r_astore_n d_36_9 (by omega) rfl (stl_6_2 rfl rfl) ?_
  refine r_iconst d_36_10 rfl ?_
  refine r_istore_n d_36_11 rfl (stl_6_3 rfl rfl) ?_
  refine dn_ind (R := fun t => ∀ (M1 : Mo) (x' : Vc e) (y z : AV), Fr (fun x _ => x = 133 + (k : Int)) M M1 → sup (12 * n) x' → S (lc x' (-1) x) → (∀ t' : Nat, (t' : Int) < t → x' (q t') = 0) → hvM M1 k n x' → Rn 36 12 [(2, 131), (0, (n : Int)), (2, 133 + (k : Int)), (0, t), y, z] [] M1 _) (lo := 0) (n := k) ?_ ?_ 0 (by omega) (by omega) M x (9, 0) (9, 0) Fr.refl hx (by rw [lc_neg]; exact i2.1) (fun t' z => by omega) hvx
  · intro M1 x' y z hF hxs hxS hx0 hv
    have hr1 : M1 131 4 = k := (hF _ _ (by omega)).trans i1
    refine r_iload_n d_36_12 rfl ?_
    refine r_aload_n d_36_13 rfl (by omega) ?_
    refine r_getfv (ki := 4) d_36_14 q_36_23 rfl sh_131 hr1 ?_
    refine r_icmp_ge (t := 103) d_36_17 rfl (fun _ => ?_) (fun hz => absurd (by omega) hz)
    refine r_vret d_36_103 rt_36 ?_
    exact ⟨rfl, hF, x', hxs, hxS, fun t ht => hx0 t (by omega), hv⟩
  · intro t t1 t2 ih M1 x' y z hF hxs hxS hx0 hv
    obtain ⟨l, rfl⟩ : ∃ l : Nat, t = l := ⟨t.toNat, by omega⟩
    have hI1 : HI M1 n S k V q := hI.fr hF (fun x y z => by omega)
    obtain ⟨a1, a2, a3, a4, a5, a6, a7, a8⟩ := hI1.2.2.2.1 l (by omega)
    have hp1 : M1 1 0 = pI e := (hF _ _ (by omega)).trans hp
    have hvq := hv (q l / 12) (by omega)
    have hel := c_elemV he M1 (r12 x' (q l / 12)) (i := q l % 12) (by omega)
    have hxq : r12 x' (q l / 12) (q l % 12) = x' (q l) := by
      unfold r12
      rw [if_pos (by omega), show 12 * (q l / 12) + q l % 12 = q l by omega]
    rw [hxq] at hel
    have hVs : sup (12 * n) (V l) := i2.2.2 _ a2
    have hnx : sup (12 * n) (lc x' (-(x' (q l))) (V l)) := sup_lc hxs hVs
    have hnS : S (lc (lc x' (-(x' (q l))) (V l)) (-1) x) := by
      have h1 := i2.2.1 _ _ (-(x' (q l))) hxS a2
      have e1 : lc (lc x' (-1) x) (-(x' (q l))) (V l) = lc (lc x' (-(x' (q l))) (V l)) (-1) x := by
        funext j
        unfold lc
        grind
      rw [e1] at h1
      exact h1
    have hn0 : ∀ t' : Nat, (t' : Int) < (l : Int) + 1 → lc x' (-(x' (q l))) (V l) (q t') = 0 := fun t' ht' => by
      show x' (q t') + -(x' (q l)) * V l (q t') = 0
      by_cases z : t' = l
      · rw [z, a4]
        grind
      · rw [a5 t' (by omega), hx0 t' (by omega)]
        grind
    have hvb := vl_rng (x' (q l))
    refine r_iload_n d_36_12 rfl ?_
    refine r_aload_n d_36_13 rfl (by omega) ?_
    refine r_getfv (ki := 4) d_36_14 q_36_23 rfl sh_131 hI1.1 ?_
    refine r_icmp_ge (t := 103) d_36_17 rfl (fun hz => absurd hz (by omega)) (fun _ => ?_)
    refine r_aload_n d_36_20 rfl (by omega) ?_
    refine r_aload_n d_36_21 rfl (by omega) ?_
    refine r_getc (ki := 2) d_36_22 q_36_16 rfl sh_131 fx_131_2 (by omega) ?_
    refine r_iload_n d_36_25 rfl ?_
    refine r_ialoadv d_36_26 sh_169 (by omega) (by omega) a6 ?_
    refine r_laloadv d_36_27 hsv (by omega) (by omega) hvq ?_
    refine r_aload_n d_36_28 rfl (by omega) ?_
    refine r_getc (ki := 3) d_36_29 q_36_20 rfl sh_131 fx_131_3 (by omega) ?_
    refine r_iload_n d_36_32 rfl ?_
    refine r_ialoadv d_36_33 sh_170 (by omega) (by omega) a7 ?_
    refine r_callsp d_36_34 q_36_69 rfl rfl hel ?_
    refine r_istore d_36_37 rfl (stl_6_4 rfl rfl) ?_
    refine r_iload d_36_39 rfl ?_
    refine r_if_eq (t := 97) d_36_41 rfl (fun h0 => ?_) (fun h0 => ?_)
    · refine r_iinc d_36_97 rfl (by omega) (stl_6_3 rfl rfl) ?_
      refine r_goto (t := 12) d_36_100 rfl ?_
      refine ih M1 x' _ _ hF hxs hxS (fun t' ht' => ?_) hv
      by_cases z : t' = l
      · rw [z]
        exact vl_eq0.mp h0
      · exact hx0 t' (by omega)
    · have hsl := shV (t := l) (by omega)
      have hneg := c_negative M1 hp1 h23 (c := vl (x' (q l))) (by omega)
      refine r_aload_n d_36_44 rfl (by omega) ?_
      refine r_getc (ki := 2) d_36_45 q_36_16 rfl sh_131 fx_131_2 (by omega) ?_
      refine r_iload_n d_36_48 rfl ?_
      refine r_ialoadv d_36_49 sh_169 (by omega) (by omega) a6 ?_
      refine r_istore d_36_50 rfl (stl_6_5 rfl rfl) ?_
      refine dn_ind (R := fun r => ∀ (f : Int → Int), (∀ r' : Nat, r' < n → f r' = pv (r12 (if (r' : Int) < r then lc x' (-(x' (q l))) (V l) else x') r')) → Rn 36 52 [(2, 131), (0, (n : Int)), (2, 133 + (k : Int)), (0, (l : Int)), (0, vl (x' (q l))), (0, r)] [] (sr M1 (133 + (k : Int)) f) _) (lo := ((q l / 12 : Nat) : Int)) (n := n) ?_ ?_ ((q l / 12 : Nat) : Int) (by omega) (by omega) (M1 (133 + (k : Int))) ?_ |> (fun k => by rw [sr_self] at k; exact k)
      · intro f hf
        refine r_iload d_36_52 rfl ?_
        refine r_iload_n d_36_54 rfl ?_
        refine r_icmp_ge (t := 97) d_36_55 rfl (fun _ => ?_) (fun hz => absurd (by omega) hz)
        refine r_iinc d_36_97 rfl (by omega) (stl_6_3 rfl rfl) ?_
        refine r_goto (t := 12) d_36_100 rfl ?_
        refine ih _ (lc x' (-(x' (q l))) (V l)) _ _ (fun x y hx => by rw [sr_ne _ _ hx]; exact hF x y hx) hnx hnS hn0 (fun r hr => ?_)
        rw [sr_eq, hf r hr, if_pos (by omega)]
      · intro r r1 r2 ihr f hf
        obtain ⟨o, rfl⟩ : ∃ o : Nat, r = o := ⟨r.toNat, by omega⟩
        have hfo := hf o (by omega)
        rw [if_neg (by omega)] at hfo
        have hfo2 : sr M1 (133 + (k : Int)) f (133 + (k : Int)) (o : Int) = pv (r12 x' o) := by rw [sr_eq]; exact hfo
        have hlo : sr M1 (133 + (k : Int)) f (133 + (l : Int)) (o : Int) = pv (r12 (V l) o) := by rw [sr_ne _ _ (by omega)]; exact a1 o (by omega)
        have hp2 : sr M1 (133 + (k : Int)) f 1 0 = pI e := by rw [sr_ne _ _ (by omega)]; exact hp1
        have hneg := c_negative _ hp2 h23 (c := vl (x' (q l))) (by omega)
        have hpt := c_plusTimes he _ hp2 (r12 x' o) (r12 (V l) o) (c := if vl (x' (q l)) = 0 then 0 else pI e - vl (x' (q l))) (by split <;> omega)
        rw [kI_n _ rfl] at hpt
        have er : lc (r12 x' o) (-(x' (q l))) (r12 (V l) o) = r12 (lc x' (-(x' (q l))) (V l)) o := by
          funext p
          unfold lc r12
          by_cases z : p < 12
          · rw [if_pos z, if_pos z, if_pos z]
          · rw [if_neg z, if_neg z, if_neg z]
            grind
        rw [er] at hpt
        refine r_iload d_36_52 rfl ?_
        refine r_iload_n d_36_54 rfl ?_
        refine r_icmp_ge (t := 97) d_36_55 rfl (fun hz => absurd hz (by omega)) (fun _ => ?_)
        refine r_aload_n d_36_58 rfl (by omega) ?_
        refine r_iload d_36_59 rfl ?_
        refine r_aload_n d_36_61 rfl (by omega) ?_
        refine r_getc (ki := 0) d_36_62 q_36_27 rfl sh_131 fx_131_0 (by omega) ?_
        refine r_aload_n d_36_65 rfl (by omega) ?_
        refine r_iload d_36_66 rfl ?_
        refine r_laloadv d_36_68 hsv (by omega) (by omega) hfo2 ?_
        refine r_aload_n d_36_69 rfl (by omega) ?_
        refine r_getc (ki := 0) d_36_70 q_36_27 rfl sh_131 fx_131_0 (by omega) ?_
        refine r_iload d_36_73 rfl ?_
        refine r_callvp d_36_75 q_36_59 rfl rfl hneg ?_
        refine r_aload_n d_36_78 rfl (by omega) ?_
        refine r_getc (ki := 1) d_36_79 q_36_11 rfl sh_131 fx_131_1 (by omega) ?_
        refine r_iload_n d_36_82 rfl ?_
        refine r_aaloadc d_36_83 sh_132 (by decide) (by omega) (by omega) (fxV (by omega) (by omega)) (by omega) ?_
        refine r_iload d_36_84 rfl ?_
        refine r_laloadv d_36_86 hsl (by omega) (by omega) hlo ?_
        refine r_callvl d_36_87 q_36_65 rfl rfl hpt ?_
        refine r_lastore d_36_90 hsv (by omega) (by omega) ?_
        rw [up_sr]
        refine r_iinc d_36_91 rfl (by omega) (stl_6_5 rfl rfl) ?_
        refine r_goto (t := 52) d_36_94 rfl ?_
        refine ihr _ (fun r' hr' => ?_)
        by_cases z : r' = o
        · rw [z, u1_eq, if_pos (by omega)]
        · rw [u1_ne _ _ (by omega), hf r' hr']
          by_cases z2 : (r' : Int) < o
          · rw [if_pos z2, if_pos (by omega)]
          · rw [if_neg z2, if_neg (by omega)]
      · intro r' hr'
        rw [hv r' hr']
        by_cases z : (r' : Int) < ((q l / 12 : Nat) : Int)
        · rw [if_pos z]
          refine pv_congr (fun p hp => ?_)
          unfold r12
          rw [if_pos hp, if_pos hp]
          show x' (12 * r' + p) = x' (12 * r' + p) + -(x' (q l)) * V l (12 * r' + p)
          rw [a3.2 (12 * r' + p) (by omega)]
          grind
        · rw [if_neg z]
theorem dm_12 {n : Nat} (hn : n ≤ 6) {S : Vc e → Prop} (hS : Sub (12 * n) S) : dm 72 S = dm (12 * n) S := cnt_cut (fun i hi => Lp_lt hS hi) (by omega)
theorem c_keepsIfNew (he : e ≤ 1) {M : Mo} (hp : M 1 0 = pI e) {n k : Nat} (hn : n ≤ 6) (hk : k < 36) {S : Vc e → Prop} {V : Nat → Vc e} {q : Nat → Nat} (hI : HI M n S k V q) {x x' : Vc e} (hx : sup (12 * n) x) (hx' : sup (12 * n) x') (hxS : S (lc x' (-1) x)) (hx0 : ∀ t, t < k → x' (q t) = 0) (hv : hvM M k n x') : CV 37 [(2, 131), (0, (n : Int))] M (fun M' => Fr (fun x y => x = 133 + (k : Int) ∨ x = 169 ∨ x = 170 ∨ (x = 131 ∧ y = 4)) M M' ∧ ∃ k' V' q', HI M' n (ext S x) k' V' q') := by
  obtain ⟨i1, i2, i3, i4, i5⟩ := id hI
  have hsv := shV hk
  have h23 := pI23 he
  have hbb := h23.b
  have hL0 : ∀ i, Lp S i → x' i = 0 := fun i hi => by
    obtain ⟨t, ht, rfl⟩ := (i5 i).mp hi
    exact hx0 t ht
  refine Cl.intro (L := [(2, 131), (0, (n : Int)), (9, 0), (9, 0), (9, 0), (9, 0), (9, 0)]) (rcv_v ow_37.2.1 sh_131) (by unfold entl; rw [mx_37]; rfl) (by rw [mx_37]; exact Nat.le_of_ble_eq_true rfl) rfl ?_
  refine r_aload_n d_37_0 rfl (by omega) ?_
  refine r_getc (ki := 1) d_37_1 q_37_11 rfl sh_131 fx_131_1 (by omega) ?_
  refine r_aload_n d_37_4 rfl (by omega) ?_
  refine r_getfv (ki := 4) d_37_5 q_37_23 rfl sh_131 i1 ?_
  refine r_aaloadc d_37_8 sh_132 (by decide) (by omega) (by omega) (fxV (by omega) (by omega)) (by omega) ?_
  refine r_astore_n d_37_9 (by omega) rfl (stl_7_2 rfl rfl) ?_
  refine r_iconst d_37_10 rfl ?_
  refine r_istore_n d_37_11 rfl (stl_7_3 rfl rfl) ?_
  by_cases hz : x' = z0
  · have hin : S x := by
      have h1 := sub_sc i2 hxS (-1)
      have e1 : (fun i => -1 * lc x' (-1) x i) = x := by
        rw [hz]
        funext i
        unfold lc z0
        grind
      rw [e1] at h1
      exact h1
    rw [ext_mem i2 hin]
    refine dn_ind (R := fun r => ∀ y z w : AV, Rn 37 12 [(2, 131), (0, (n : Int)), (2, 133 + (k : Int)), (0, r), y, z, w] [] M _) (lo := 0) (n := n) ?_ ?_ 0 (by omega) (by omega) (9, 0) (9, 0) (9, 0)
    · intro y z w
      refine r_iload_n d_37_12 rfl ?_
      refine r_iload_n d_37_13 rfl ?_
      refine r_icmp_ge (t := 31) d_37_14 rfl (fun _ => ?_) (fun hz => absurd (by omega) hz)
      refine r_iload_n d_37_31 rfl ?_
      refine r_iload_n d_37_32 rfl ?_
      refine r_icmp_ge (t := 118) d_37_33 rfl (fun _ => ?_) (fun hz => absurd (by omega) hz)
      refine r_vret d_37_118 rt_37 ?_
      exact ⟨rfl, Fr.refl, k, V, q, hI⟩
    · intro r r1 r2 ih y z w
      obtain ⟨o, rfl⟩ : ∃ o : Nat, r = o := ⟨r.toNat, by omega⟩
      have hro := hv o (by omega)
      have e0 : pv (r12 x' o) = 0 := by
        rw [hz, ← pv_z0 (e := e)]
        refine pv_congr (fun p _ => ?_)
        unfold r12 z0
        split <;> rfl
      rw [e0] at hro
      refine r_iload_n d_37_12 rfl ?_
      refine r_iload_n d_37_13 rfl ?_
      refine r_icmp_ge (t := 31) d_37_14 rfl (fun hz => absurd hz (by omega)) (fun _ => ?_)
      refine r_aload_n d_37_17 rfl (by omega) ?_
      refine r_iload_n d_37_18 rfl ?_
      refine r_laloadv d_37_19 hsv (by omega) (by omega) hro ?_
      refine r_lconst d_37_20 rfl ?_
      refine r_lcmp d_37_21 ?_
      refine r_if_ne (t := 31) d_37_22 rfl (fun hz => absurd hz (fun z => z rfl)) (fun _ => ?_)
      refine r_iinc d_37_25 rfl (by omega) (stl_7_3 rfl rfl) ?_
      refine r_goto (t := 12) d_37_28 rfl ?_
      exact ih _ _ _
  · obtain ⟨i0, hi0, hf0⟩ := fp_ex hx' hz
    have hni : ¬ Lp S i0 := fun z => hf0.1 (hL0 i0 z)
    have hxn : ¬ S x := fun z => by
      have h1 : S x' := by
        have h2 := i2.2.1 _ _ 1 hxS z
        have e1 : lc (lc x' (-1) x) 1 x = x' := by
          funext j
          unfold lc
          grind
        rw [e1] at h2
        exact h2
      exact hni ⟨x', h1, hf0⟩
    have hE : Sub (12 * n) (ext S x) := ext_sub i2 hx
    have hin : ext S x x' := ⟨-1, hxS⟩
    obtain ⟨i9, j1, j2, j3⟩ := Lp_ext he i2 hx hxn
    have e9 : i0 = i9 := ((j3 i0).mp ⟨x', hin, hf0⟩).resolve_left hni
    subst e9
    have hrow0 : ∀ o, o < i0 / 12 → pv (r12 x' o) = 0 := fun o ho => by
      rw [← pv_z0 (e := e)]
      refine pv_congr (fun p hp => ?_)
      unfold r12
      rw [if_pos hp, hf0.2 _ (by omega)]
      rfl
    refine dn_ind (R := fun r => ∀ y z w : AV, Rn 37 12 [(2, 131), (0, (n : Int)), (2, 133 + (k : Int)), (0, r), y, z, w] [] M _) (lo := 0) (n := ((i0 / 12 : Nat) : Int)) ?_ ?_ 0 (by omega) (by omega) (9, 0) (9, 0) (9, 0)
    · intro y z w
      have hri := hv (i0 / 12) (by omega)
      have hx12 : r12 x' (i0 / 12) (i0 % 12) = x' i0 := by
        unfold r12
        rw [if_pos (by omega), show 12 * (i0 / 12) + i0 % 12 = i0 by omega]
      have hne : ¬ pv (r12 x' (i0 / 12)) = 0 := fun z => by
        have h1 := pv_inj he (u := r12 x' (i0 / 12)) (w := z0) (by rw [z, pv_z0]) (i0 % 12) (by omega)
        rw [hx12] at h1
        exact hf0.1 h1
      have hfp := c_firstPlace M (dv he (r12 x' (i0 / 12))) (i := i0 % 12) (by omega) (fun p hp => by
        have : r12 x' (i0 / 12) p = 0 := by
          unfold r12
          rw [if_pos (by omega), hf0.2 _ (by omega)]
        rw [this]
        rfl) (fun _ z => hf0.1 (by rw [← hx12]; exact vl_eq0.mp z))
      have hel := c_elemV he M (r12 x' (i0 / 12)) (i := i0 % 12) (by omega)
      rw [hx12] at hel
      have hvb := vl_b he (x' i0)
      refine r_iload_n d_37_12 rfl ?_
      refine r_iload_n d_37_13 rfl ?_
      refine r_icmp_ge (t := 31) d_37_14 rfl (fun hz => absurd hz (by omega)) (fun _ => ?_)
      refine r_aload_n d_37_17 rfl (by omega) ?_
      refine r_iload_n d_37_18 rfl ?_
      refine r_laloadv d_37_19 hsv (by omega) (by omega) hri ?_
      refine r_lconst d_37_20 rfl ?_
      refine r_lcmp d_37_21 ?_
      refine r_if_ne (t := 31) d_37_22 rfl (fun _ => ?_) (fun hz => absurd (by split <;> (try split) <;> omega) hz)
      refine r_iload_n d_37_31 rfl ?_
      refine r_iload_n d_37_32 rfl ?_
      refine r_icmp_ge (t := 118) d_37_33 rfl (fun hz => absurd hz (by omega)) (fun _ => ?_)
      refine r_aload_n d_37_36 rfl (by omega) ?_
      refine r_iload_n d_37_37 rfl ?_
      refine r_laloadv d_37_38 hsv (by omega) (by omega) hri ?_
      refine r_callsp d_37_39 q_37_73 rfl rfl hfp ?_
      refine r_istore d_37_42 rfl (stl_7_4 rfl rfl) ?_
      refine r_aload_n d_37_44 rfl (by omega) ?_
      refine r_iload_n d_37_45 rfl ?_
      refine r_laloadv d_37_46 hsv (by omega) (by omega) hri ?_
      refine r_iload d_37_47 rfl ?_
      refine r_callsp d_37_49 q_37_69 rfl rfl hel ?_
      refine r_istore d_37_52 rfl (stl_7_5 rfl rfl) ?_
      refine r_iload_n d_37_54 rfl ?_
      refine r_istore d_37_55 rfl (stl_7_6 rfl rfl) ?_
      refine dn_ind (R := fun r => ∀ (f : Int → Int), (∀ r' : Nat, r' < n → f r' = pv (r12 (if (r' : Int) < r then scv (x' i0) x' else x') r')) → Rn 37 57 [(2, 131), (0, (n : Int)), (2, 133 + (k : Int)), (0, ((i0 / 12 : Nat) : Int)), (0, ((i0 % 12 : Nat) : Int)), (0, vl (x' i0)), (0, r)] [] (sr M (133 + (k : Int)) f) _) (lo := ((i0 / 12 : Nat) : Int)) (n := n) ?_ ?_ ((i0 / 12 : Nat) : Int) (by omega) (by omega) (M (133 + (k : Int))) ?_ |> (fun k => by rw [sr_self] at k; exact k)
      · intro f hf
        have hr4 : ∀ f, sr M (133 + (k : Int)) f 131 4 = k := fun f => by rw [sr_ne _ _ (by omega)]; exact i1
        refine r_iload d_37_57 rfl ?_
        refine r_iload_n d_37_59 rfl ?_
        refine r_icmp_ge (t := 87) d_37_60 rfl (fun _ => ?_) (fun hz => absurd (by omega) hz)
        refine r_aload_n d_37_87 rfl (by omega) ?_
        refine r_getc (ki := 2) d_37_88 q_37_16 rfl sh_131 fx_131_2 (by omega) ?_
        refine r_aload_n d_37_91 rfl (by omega) ?_
        refine r_getfv (ki := 4) d_37_92 q_37_23 rfl sh_131 (hr4 f) ?_
        refine r_iload_n d_37_95 rfl ?_
        refine r_iastore d_37_96 sh_169 (by omega) (by omega) ?_
        refine r_aload_n d_37_97 rfl (by omega) ?_
        refine r_getc (ki := 3) d_37_98 q_37_20 rfl sh_131 fx_131_3 (by omega) ?_
        refine r_aload_n d_37_101 rfl (by omega) ?_
        refine r_getfv (ki := 4) d_37_102 q_37_23 rfl sh_131 ((uq_ne (by omega)).trans (hr4 f)) ?_
        refine r_iload d_37_105 rfl ?_
        refine r_iastore d_37_107 sh_170 (by omega) (by omega) ?_
        refine r_aload_n d_37_108 rfl (by omega) ?_
        refine r_dup d_37_109 rfl ?_
        refine r_getfv (ki := 4) d_37_110 q_37_23 rfl sh_131 ((uq_ne (by omega)).trans ((uq_ne (by omega)).trans (hr4 f))) ?_
        refine r_iconst d_37_113 rfl ?_
        refine r_iadd d_37_114 (by omega) ?_
        refine r_putf (ki := 4) d_37_115 q_37_23 rfl sh_131 fx_131_4 ?_
        refine r_vret d_37_118 rt_37 ?_
        have hFn : Fr (fun x y => x = 133 + (k : Int) ∨ x = 169 ∨ x = 170 ∨ (x = 131 ∧ y = 4)) M (up2 (up2 (up2 (sr M (133 + (k : Int)) f) 169 (k : Int) ((i0 / 12 : Nat) : Int)) 170 (k : Int) ((i0 % 12 : Nat) : Int)) 131 4 ((k : Int) + 1)) := fun x y hx => by
          rw [uq_ne (by omega), uq_ne (by omega), uq_ne (by omega), sr_ne _ _ (by omega)]
        refine ⟨rfl, hFn, k + 1, fun t => if t = k then scv (x' i0) x' else V t, fun t => if t = k then i0 else q t, by rw [uq_eq]; omega, hE, ?_, fun t ht => ?_, fun i => ?_⟩
        · rw [dm_12 hn hE, dm_ext he i2 hx hxn, ← dm_12 hn i2, i3]
        · by_cases z : t = k
          · subst z
            dsimp only
            rw [if_pos rfl, if_pos rfl]
            refine ⟨fun r hr => ?_, sub_sc hE hin _, ⟨?_, fun j hj => ?_⟩, sq1 he hf0.1, fun t' ht' => ?_, ?_, ?_, hi0⟩
            · rw [uq_ne (by omega), uq_ne (by omega), uq_ne (by omega), sr_eq, hf r hr, if_pos (by omega)]
            · show x' i0 * x' i0 ≠ 0
              rw [sq1 he hf0.1]
              exact k10
            · show x' i0 * x' j = 0
              rw [hf0.2 j hj]
              grind
            · rw [if_neg (by omega)]
              show x' i0 * x' (q t') = 0
              rw [hx0 t' ht']
              grind
            · rw [uq_ne (by omega), uq_ne (by omega), uq_eq]
            · rw [uq_ne (by omega), uq_eq]
          · dsimp only
            rw [if_neg z, if_neg z]
            obtain ⟨a1, a2, a3, a4, a5, a6, a7, a8⟩ := i4 t (by omega)
            refine ⟨fun r hr => ?_, ext_old a2, a3, a4, fun t' ht' => ?_, ?_, ?_, a8⟩
            · rw [uq_ne (by omega), uq_ne (by omega), uq_ne (by omega), sr_ne _ _ (by omega)]
              exact a1 r hr
            · rw [if_neg (by omega)]
              exact a5 t' ht'
            · rw [uq_ne (by omega), uq_ne (by omega), uq_ne (by omega), sr_ne _ _ (by omega)]
              exact a6
            · rw [uq_ne (by omega), uq_ne (by omega), uq_ne (by omega), sr_ne _ _ (by omega)]
              exact a7
        · rw [j3 i]
          constructor
          · rintro (z | z)
            · obtain ⟨t, ht, hq⟩ := (i5 i).mp z
              exact ⟨t, by omega, by dsimp only; rw [if_neg (by omega)]; exact hq⟩
            · exact ⟨k, by omega, by dsimp only; rw [if_pos rfl]; exact z.symm⟩
          · rintro ⟨t, ht, hq⟩
            dsimp only at hq
            by_cases z : t = k
            · rw [if_pos z] at hq
              exact Or.inr hq.symm
            · rw [if_neg z] at hq
              exact Or.inl ((i5 i).mpr ⟨t, by omega, hq⟩)
      · intro r r1 r2 ihr f hf
        obtain ⟨o, rfl⟩ : ∃ o : Nat, r = o := ⟨r.toNat, by omega⟩
        have hfo := hf o (by omega)
        rw [if_neg (by omega)] at hfo
        have hfo2 : sr M (133 + (k : Int)) f (133 + (k : Int)) (o : Int) = pv (r12 x' o) := by rw [sr_eq]; exact hfo
        have hp2 : sr M (133 + (k : Int)) f 1 0 = pI e := by rw [sr_ne _ _ (by omega)]; exact hp
        have hpt := c_plusTimes he _ hp2 z0 (r12 x' o) (c := vl (x' i0)) hvb
        rw [kI_vl, pv_z0] at hpt
        have er : lc z0 (x' i0) (r12 x' o) = r12 (scv (x' i0) x') o := by
          funext p
          unfold lc r12 z0 scv
          by_cases z : p < 12
          · rw [if_pos z, if_pos z]
            grind
          · rw [if_neg z, if_neg z]
            grind
        rw [er] at hpt
        refine r_iload d_37_57 rfl ?_
        refine r_iload_n d_37_59 rfl ?_
        refine r_icmp_ge (t := 87) d_37_60 rfl (fun hz => absurd hz (by omega)) (fun _ => ?_)
        refine r_aload_n d_37_63 rfl (by omega) ?_
        refine r_iload d_37_64 rfl ?_
        refine r_aload_n d_37_66 rfl (by omega) ?_
        refine r_getc (ki := 0) d_37_67 q_37_27 rfl sh_131 fx_131_0 (by omega) ?_
        refine r_lconst d_37_70 rfl ?_
        refine r_iload d_37_71 rfl ?_
        refine r_aload_n d_37_73 rfl (by omega) ?_
        refine r_iload d_37_74 rfl ?_
        refine r_laloadv d_37_76 hsv (by omega) (by omega) hfo2 ?_
        refine r_callvl d_37_77 q_37_65 rfl rfl hpt ?_
        refine r_lastore d_37_80 hsv (by omega) (by omega) ?_
        rw [up_sr]
        refine r_iinc d_37_81 rfl (by omega) (stl_7_6 rfl rfl) ?_
        refine r_goto (t := 57) d_37_84 rfl ?_
        refine ihr _ (fun r' hr' => ?_)
        by_cases z : r' = o
        · rw [z, u1_eq, if_pos (by omega)]
        · rw [u1_ne _ _ (by omega), hf r' hr']
          by_cases z2 : (r' : Int) < o
          · rw [if_pos z2, if_pos (by omega)]
          · rw [if_neg z2, if_neg (by omega)]
      · intro r' hr'
        rw [hv r' hr']
        by_cases z : (r' : Int) < ((i0 / 12 : Nat) : Int)
        · rw [if_pos z]
          refine pv_congr (fun p hp => ?_)
          unfold r12
          rw [if_pos hp, if_pos hp]
          show x' (12 * r' + p) = x' i0 * x' (12 * r' + p)
          rw [hf0.2 _ (by omega)]
          grind
        · rw [if_neg z]
    · intro r r1 r2 ih y z w
      obtain ⟨o, rfl⟩ : ∃ o : Nat, r = o := ⟨r.toNat, by omega⟩
      have hro := hv o (by omega)
      rw [hrow0 o (by omega)] at hro
      refine r_iload_n d_37_12 rfl ?_
      refine r_iload_n d_37_13 rfl ?_
      refine r_icmp_ge (t := 31) d_37_14 rfl (fun hz => absurd hz (by omega)) (fun _ => ?_)
      refine r_aload_n d_37_17 rfl (by omega) ?_
      refine r_iload_n d_37_18 rfl ?_
      refine r_laloadv d_37_19 hsv (by omega) (by omega) hro ?_
      refine r_lconst d_37_20 rfl ?_
      refine r_lcmp d_37_21 ?_
      refine r_if_ne (t := 31) d_37_22 rfl (fun hz => absurd hz (fun z => z rfl)) (fun _ => ?_)
      refine r_iinc d_37_25 rfl (by omega) (stl_7_3 rfl rfl) ?_
      refine r_goto (t := 12) d_37_28 rfl ?_
      exact ih _ _ _
def WHm (x y : Int) : Prop := (x = 131 ∧ y = 4) ∨ (133 ≤ x ∧ x ≤ 170)
theorem hvl_12 {n m : Nat} {X Y : Nat → Nat → Nat → Kf e} {h : Vc e} : sup (12 * n) (hvl n m X Y h) := fun t ht => by
  unfold hvl
  rw [if_neg (by omega)]
theorem c_dimension (he : e ≤ 1) {M : Mo} (hp : M 1 0 = pI e) {a b : Int} (ha : shp S0 a = (0, 3)) (hb : shp S0 b = (0, 3)) {n m : Nat} {X Y : Nat → Nat → Nat → Kf e} (hX : AA e M a n X) (hY : AA e M b m Y) (hne : ∀ x y, WHm x y → ¬ WA a x y ∧ ¬ WA b x y) : CI 34 [(2, 131), (2, a), (2, b)] M (fun z M' => z = wys n m X Y ∧ Fr WHm M M') := by
  have ha0 := shA_pos ha
  have hb0 := shA_pos hb
  have hn6 := hX.n6
  have hm6 := hY.n6
  have hnm : n * m ≤ 6 * 6 := Nat.mul_le_mul hn6 hm6
  have enm : ((n * m : Nat) : Int) = (n : Int) * m := Int.natCast_mul n m
  have hnv : ∀ t : Nat, t < 36 → a ≠ 133 + (t : Int) ∧ a + 1 ≠ 133 + (t : Int) ∧ b ≠ 133 + (t : Int) ∧ b + 1 ≠ 133 + (t : Int) := fun t ht => by
    have h1 := hne (133 + (t : Int)) 1 (Or.inr (by omega))
    unfold WA at h1
    omega
  have hrk : ∀ k, k ≤ n * m → dm 72 (spn (imT (hvl n m X Y) k)) ≤ k := fun k hk => by
    have := rk_null (N := n * m) he (hvl_lin (n := n) (m := m) (X := X) (Y := Y)) (hvl_sup hn6) hk
    omega
  refine Cl.intro (L := [(2, 131), (2, a), (2, b), (9, 0), (9, 0)]) (rcv_v ow_34.2.1 sh_131) (by unfold entl; rw [mx_34]; rfl) (by rw [mx_34]; exact Nat.le_of_ble_eq_true rfl) rfl ?_
  refine r_aload_n d_34_0 rfl (by omega) ?_
  refine r_iconst d_34_1 rfl ?_
  refine r_putf (ki := 4) d_34_2 q_34_23 rfl sh_131 fx_131_4 ?_
  refine r_iconst d_34_5 rfl ?_
  refine r_istore_n d_34_6 rfl (stl_5_3 rfl rfl) ?_
  have h0 : HI (up2 M 131 4 0) n (spn (imT (hvl n m X Y) 0)) 0 (fun _ => z0) (fun _ => 0) := by
    refine ⟨uq_eq, Sub.zero, dm_zero, fun t ht => by omega, fun i => ⟨fun h => absurd h Lp_nil, fun ⟨t, ht, _⟩ => by omega⟩⟩
  refine dn_ind (R := fun i => ∀ (M1 : Mo) (k : Nat) (V : Nat → Vc e) (q : Nat → Nat) (y : AV), Fr WHm M M1 → HI M1 n (spn (imT (hvl n m X Y) (m * i.toNat))) k V q → Rn 34 7 [(2, 131), (2, a), (2, b), (0, i), y] [] M1 _) (lo := 0) (n := n) ?_ ?_ 0 (by omega) (by omega) (up2 M 131 4 0) 0 (fun _ => z0) (fun _ => 0) (9, 0) (fun x y hx => uq_ne (by unfold WHm at hx; omega)) ?_
  · intro M1 k V q y hF hI
    have hX1 : AA e M1 a n X := hX.fr hF (fun x y z1 z2 => (hne x y z2).1 z1)
    have hY1 : AA e M1 b m Y := hY.fr hF (fun x y z1 z2 => (hne x y z2).2 z1)
    rw [show ((n : Int)).toNat = n by omega, Nat.mul_comm m n] at hI
    have hk := hI.2.2.1
    have hk2 := hrk (n * m) (Nat.le_refl _)
    refine r_iload_n d_34_7 rfl ?_
    refine r_aload_n d_34_8 rfl (by omega) ?_
    refine r_getfv (ki := 1) d_34_9 q_34_31 rfl ha hX1.1 ?_
    refine r_icmp_ge (t := 64) d_34_12 rfl (fun _ => ?_) (fun hz => absurd (by omega) hz)
    refine r_aload_n d_34_64 rfl (by omega) ?_
    refine r_getfv (ki := 1) d_34_65 q_34_31 rfl ha hX1.1 ?_
    refine r_aload_n d_34_68 rfl (by omega) ?_
    refine r_getfv (ki := 1) d_34_69 q_34_31 rfl hb hY1.1 ?_
    refine r_imul d_34_72 (by omega) ?_
    refine r_aload_n d_34_73 rfl (by omega) ?_
    refine r_getfv (ki := 4) d_34_74 q_34_23 rfl sh_131 hI.1 ?_
    refine r_isub d_34_77 (by omega) ?_
    refine r_iret d_34_78 rt_34 ?_
    refine ⟨_, rfl, ?_, hF⟩
    rw [wys_im he hn6 hm6, hk, enm]
  · intro i i1 i2 ih M1 k V q y hF hI
    obtain ⟨l, rfl⟩ : ∃ l : Nat, i = l := ⟨i.toNat, by omega⟩
    rw [show ((l : Int)).toNat = l by omega] at hI
    rw [show ((l : Int) + 1).toNat = l + 1 by omega] at ih
    have hX1 : AA e M1 a n X := hX.fr hF (fun x y z1 z2 => (hne x y z2).1 z1)
    have hml : m * l + m ≤ n * m := by
      have := Nat.mul_le_mul_left m (show l + 1 ≤ n by omega)
      rw [Nat.mul_add, Nat.mul_one, Nat.mul_comm m n] at this
      exact this
    refine r_iload_n d_34_7 rfl ?_
    refine r_aload_n d_34_8 rfl (by omega) ?_
    refine r_getfv (ki := 1) d_34_9 q_34_31 rfl ha hX1.1 ?_
    refine r_icmp_ge (t := 64) d_34_12 rfl (fun hz => absurd hz (by omega)) (fun _ => ?_)
    refine r_iconst d_34_15 rfl ?_
    refine r_istore d_34_16 rfl (stl_5_4 rfl rfl) ?_
    refine dn_ind (R := fun j => ∀ (M1 : Mo) (k : Nat) (V : Nat → Vc e) (q : Nat → Nat), Fr WHm M M1 → HI M1 n (spn (imT (hvl n m X Y) (m * l + j.toNat))) k V q → Rn 34 18 [(2, 131), (2, a), (2, b), (0, (l : Int)), (0, j)] [] M1 _) (lo := 0) (n := m) ?_ ?_ 0 (by omega) (by omega) M1 k V q hF hI
    · intro M1 k V q hF hI
      have hY1 : AA e M1 b m Y := hY.fr hF (fun x y z1 z2 => (hne x y z2).2 z1)
      rw [show ((m : Int)).toNat = m by omega] at hI
      refine r_iload d_34_18 rfl ?_
      refine r_aload_n d_34_20 rfl (by omega) ?_
      refine r_getfv (ki := 1) d_34_21 q_34_31 rfl hb hY1.1 ?_
      refine r_icmp_ge (t := 58) d_34_24 rfl (fun _ => ?_) (fun hz => absurd (by omega) hz)
      refine r_iinc d_34_58 rfl (by omega) (stl_5_3 rfl rfl) ?_
      refine r_goto (t := 7) d_34_61 rfl ?_
      exact ih M1 k V q _ hF (by rw [Nat.mul_add, Nat.mul_one]; exact hI)
    · intro j j1 j2 ihj M1 k V q hF hI
      obtain ⟨o, rfl⟩ : ∃ o : Nat, j = o := ⟨j.toNat, by omega⟩
      rw [show ((o : Int)).toNat = o by omega] at hI
      rw [show ((o : Int) + 1).toNat = o + 1 by omega] at ihj
      have hX1 : AA e M1 a n X := hX.fr hF (fun x y z1 z2 => (hne x y z2).1 z1)
      have hY1 : AA e M1 b m Y := hY.fr hF (fun x y z1 z2 => (hne x y z2).2 z1)
      have hp1 : M1 1 0 = pI e := (hF _ _ (by unfold WHm; omega)).trans hp
      have hk := hI.2.2.1
      have hk2 := hrk (m * l + o) (by omega)
      have hk36 : k < 36 := by omega
      refine r_iload d_34_18 rfl ?_
      refine r_aload_n d_34_20 rfl (by omega) ?_
      refine r_getfv (ki := 1) d_34_21 q_34_31 rfl hb hY1.1 ?_
      refine r_icmp_ge (t := 58) d_34_24 rfl (fun hz => absurd hz (by omega)) (fun _ => ?_)
      refine r_aload_n d_34_27 rfl (by omega) ?_
      refine r_aload_n d_34_28 rfl (by omega) ?_
      refine r_aload_n d_34_29 rfl (by omega) ?_
      refine r_iload_n d_34_30 rfl ?_
      refine r_iload d_34_31 rfl ?_
      refine r_callvr d_34_33 q_34_36 rfl rfl (c_evaluates he hp1 ha hb hX1 hY1 hnv hk36 hI.1 (by omega) (by omega)) (fun M2 hM2 => ?_)
      obtain ⟨hF2, hv2⟩ := hM2
      have hFa : Fr WHm M M2 := hF.trans hF2 (fun _ _ z => z) (fun x y z => by unfold WHm; omega)
      have hI2 : HI M2 n (spn (imT (hvl n m X Y) (m * l + o))) k V q := hI.fr hF2 (fun x y z => by omega)
      have hX2 : AA e M2 a n X := hX.fr hFa (fun x y z1 z2 => (hne x y z2).1 z1)
      have hp2 : M2 1 0 = pI e := (hFa _ _ (by unfold WHm; omega)).trans hp
      refine r_aload_n d_34_36 rfl (by omega) ?_
      refine r_aload_n d_34_37 rfl (by omega) ?_
      refine r_getfv (ki := 1) d_34_38 q_34_31 rfl ha hX2.1 ?_
      refine r_callvr d_34_41 q_34_40 rfl rfl (c_reduces he hp2 hn6 hk36 hI2 hvl_12 hv2) (fun M3 hM3 => ?_)
      obtain ⟨hF3, x', hx1, hx2, hx3, hv3⟩ := hM3
      have hFb : Fr WHm M M3 := hFa.trans hF3 (fun _ _ z => z) (fun x y z => by unfold WHm; omega)
      have hI3 : HI M3 n (spn (imT (hvl n m X Y) (m * l + o))) k V q := hI2.fr hF3 (fun x y z => by omega)
      have hX3 : AA e M3 a n X := hX.fr hFb (fun x y z1 z2 => (hne x y z2).1 z1)
      have hp3 : M3 1 0 = pI e := (hFb _ _ (by unfold WHm; omega)).trans hp
      refine r_aload_n d_34_44 rfl (by omega) ?_
      refine r_aload_n d_34_45 rfl (by omega) ?_
      refine r_getfv (ki := 1) d_34_46 q_34_31 rfl ha hX3.1 ?_
      refine r_callvr d_34_49 q_34_44 rfl rfl (c_keepsIfNew he hp3 hn6 hk36 hI3 hvl_12 hx1 hx2 hx3 hv3) (fun M4 hM4 => ?_)
      obtain ⟨hF4, k', V', q', hI4⟩ := hM4
      have hFc : Fr WHm M M4 := hFb.trans hF4 (fun _ _ z => z) (fun x y z => by unfold WHm; omega)
      refine r_iinc d_34_52 rfl (by omega) (stl_5_4 rfl rfl) ?_
      refine r_goto (t := 18) d_34_55 rfl ?_
      refine ihj M4 k' V' q' hFc ?_
      have e1 : spn (imT (hvl n m X Y) (m * l + (o + 1))) = ext (spn (imT (hvl n m X Y) (m * l + o))) (hvl n m X Y (un (m * l + o))) := spn_app _ _
      rw [e1]
      exact hI4
  · show HI _ n (spn (imT (hvl n m X Y) (m * 0))) 0 _ _
    rw [Nat.mul_zero]
    exact h0
end
theorem WHm_M {k : Nat} (hk : k < 4) (x y : Int) (h : WHm x y) : ¬ WA (209 + 2 * (k : Int)) x y := by
  unfold WHm at h
  unfold WA
  omega
theorem c_ways_bad (M : Mo) (hb : cbC M) {k x : Int} (h : ¬ ((0 ≤ k ∧ k ≤ 3) ∧ 0 ≤ x ∧ x ≤ 3)) : PJ 95 [(2, 0), (0, k), (0, x)] M (-2) (up2 M 0 11 (M 0 11 + 1)) := by
  have hbad := c_fails_b M hb
  refine Cl.intro (L := [(2, 0), (0, k), (0, x)]) (rcv_v ow_95.2.1 sh_0) (by unfold entl; rw [mx_95]; rfl) (by rw [mx_95]; exact Nat.le_of_ble_eq_true rfl) rfl ?_
  have key : Rn 95 16 [(2, 0), (0, k), (0, x)] [] M (fun v M' => v = some (0, -2) ∧ M' = up2 M 0 11 (M 0 11 + 1)) := by
    refine r_aload_n d_95_16 rfl (by omega) ?_
    refine r_bipush d_95_17 rfl ?_
    refine r_callvj d_95_19 q_95_91 rfl rfl hbad ?_
    refine r_iret d_95_22 rt_95 ?_
    exact ⟨rfl, rfl⟩
  refine r_aload_n d_95_0 rfl (by omega) ?_
  refine r_iload_n d_95_1 rfl ?_
  refine r_callvp d_95_2 q_95_106 rfl rfl (c_isModule M k) ?_
  by_cases h1 : 0 ≤ k ∧ k ≤ 3
  · rw [if_pos h1]
    refine r_if_eq (t := 16) d_95_5 rfl (fun hz => absurd hz (by decide)) (fun _ => ?_)
    refine r_aload_n d_95_8 rfl (by omega) ?_
    refine r_iload_n d_95_9 rfl ?_
    refine r_callvp d_95_10 q_95_106 rfl rfl (c_isModule M x) ?_
    rw [if_neg (fun q => h ⟨h1, q⟩)]
    refine r_if_ne (t := 23) d_95_13 rfl (fun hz => absurd hz (fun q => q rfl)) (fun _ => ?_)
    exact key
  · rw [if_neg h1]
    refine r_if_eq (t := 16) d_95_5 rfl (fun _ => ?_) (fun hz => absurd rfl hz)
    exact key
theorem c_ways {M : Mo} {s : Sst} (hv : vs s) (hc : cuC M s) {x y : Nat} (hx : x < 4) (hy : y < 4) : CI 95 [(2, 0), (0, (x : Int)), (0, (y : Int))] M (fun z M' => z = wys (s.2.1 x) (s.2.1 y) (mdA s x) (mdA s y) ∧ Fr WX M M') := by
  refine Cl.intro (L := [(2, 0), (0, (x : Int)), (0, (y : Int))]) (rcv_v ow_95.2.1 sh_0) (by unfold entl; rw [mx_95]; rfl) (by rw [mx_95]; exact Nat.le_of_ble_eq_true rfl) rfl ?_
  refine r_aload_n d_95_0 rfl (by omega) ?_
  refine r_iload_n d_95_1 rfl ?_
  refine r_callvp d_95_2 q_95_106 rfl rfl (c_isModule M x) ?_
  rw [if_pos (by omega)]
  refine r_if_eq (t := 16) d_95_5 rfl (fun hz => absurd hz (by decide)) (fun _ => ?_)
  refine r_aload_n d_95_8 rfl (by omega) ?_
  refine r_iload_n d_95_9 rfl ?_
  refine r_callvp d_95_10 q_95_106 rfl rfl (c_isModule M y) ?_
  rw [if_pos (by omega)]
  refine r_if_ne (t := 23) d_95_13 rfl (fun _ => ?_) (fun hz => absurd (by decide) hz)
  refine r_aload_n d_95_23 rfl (by omega) ?_
  refine r_getc (ki := 8) d_95_24 q_95_63 rfl sh_0 fx_0_8 (by omega) ?_
  refine r_aload_n d_95_27 rfl (by omega) ?_
  refine r_getc (ki := 1) d_95_28 q_95_18 rfl sh_0 fx_0_1 (by omega) ?_
  refine r_iload_n d_95_31 rfl ?_
  refine r_aaloadc d_95_32 sh_2 (by decide) (by omega) (by omega) (fxM (by omega) (by omega)) (by omega) ?_
  refine r_aload_n d_95_33 rfl (by omega) ?_
  refine r_getc (ki := 1) d_95_34 q_95_18 rfl sh_0 fx_0_1 (by omega) ?_
  refine r_iload_n d_95_37 rfl ?_
  refine r_aaloadc d_95_38 sh_2 (by decide) (by omega) (by omega) (fxM (by omega) (by omega)) (by omega) ?_
  refine r_callvi d_95_39 q_95_216 rfl rfl (c_dimension hv.1 hc.1 (shM hx) (shM hy) (hc.2 x hx) (hc.2 y hy) (fun a b h => ⟨WHm_M hx a b h, WHm_M hy a b h⟩)) (fun x M1 hM1 => ?_)
  obtain ⟨hz, hF⟩ := hM1
  refine r_iret d_95_42 rt_95 ?_
  exact ⟨_, rfl, hz, hF.mono (fun a b q => by unfold WHm at q; unfold WX; omega)⟩
