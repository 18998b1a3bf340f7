/-! The class: subspaces with their bases (Space). -/
def WP (a x y : Int) : Prop := (x = a ∧ (y = 1 ∨ y = 2)) ∨ x = a + 1 ∨ x = a + 2
theorem shS_pos {a : Int} (h : shp S0 a = (7, 5)) : 0 ≤ a := sh_pos h (by decide)
theorem shS_1 {a : Int} (h : shp S0 a = (7, 5)) : a ≠ 1 ∧ a + 1 ≠ 1 ∧ a + 2 ≠ 1 := ⟨sh_ne h sh_1 (by decide), sh_ne (shS1 h) sh_1 (by decide), sh_ne (shS2 h) sh_1 (by decide)⟩
theorem shS_SS {a b : Int} (h : shp S0 a = (7, 5)) (h2 : shp S0 b = (7, 5)) : a + 1 ≠ b ∧ b + 1 ≠ a ∧ a + 2 ≠ b ∧ b + 2 ≠ a := ⟨sh_ne (shS1 h) h2 (by decide), sh_ne (shS1 h2) h (by decide), sh_ne (shS2 h) h2 (by decide), sh_ne (shS2 h2) h (by decide)⟩
theorem shS_A {a b : Int} (h : shp S0 a = (7, 5)) (h2 : shp S0 b = (0, 3)) : a ≠ b ∧ a + 1 ≠ b ∧ a + 2 ≠ b ∧ a ≠ b + 1 ∧ a + 1 ≠ b + 1 ∧ a + 2 ≠ b + 1 := ⟨sh_ne h h2 (by decide), sh_ne (shS1 h) h2 (by decide), sh_ne (shS2 h) h2 (by decide), sh_ne h (shA1 h2) (by decide), sh_ne (shS1 h) (shA1 h2) (by decide), sh_ne (shS2 h) (shA1 h2) (by decide)⟩
section
variable {e : Nat}
/-- a subspace of twelve places that begins at the first n ones; its basis in memory -/
def SC (M : Mo) (a : Int) (n : Nat) (S : Vc e → Prop) : Prop := M a 1 = n ∧ n ≤ 6 ∧ (∀ i : Nat, i < 6 → M (a + 1) i = pv (cr S i)) ∧ Sub 12 S ∧ ∀ i, Lp S i → i < n
/-- and the vectors that were taken -/
def ST (M : Mo) (a : Int) (n : Nat) (T : List (Vc e)) : Prop := SC M a n (spn T) ∧ M a 2 = T.length ∧ (∀ j : Nat, j < T.length → M (a + 2) j = pv (T.getD j z0)) ∧ Good 12 T
theorem SC.fr {M M1 : Mo} {P : Int → Int → Prop} {a : Int} {n : Nat} {S : Vc e → Prop} (h : SC M a n S) (hF : Fr P M M1) (hP : ∀ x y, WP a x y → ¬ P x y) : SC M1 a n S := ⟨(hF _ _ (hP _ _ (Or.inl ⟨rfl, Or.inl rfl⟩))).trans h.1, h.2.1, fun i hi => (hF _ _ (hP _ _ (Or.inr (Or.inl rfl)))).trans (h.2.2.1 i hi), h.2.2.2⟩
theorem ST.fr {M M1 : Mo} {P : Int → Int → Prop} {a : Int} {n : Nat} {T : List (Vc e)} (h : ST M a n T) (hF : Fr P M M1) (hP : ∀ x y, WP a x y → ¬ P x y) : ST M1 a n T := ⟨h.1.fr hF hP, (hF _ _ (hP _ _ (Or.inl ⟨rfl, Or.inr rfl⟩))).trans h.2.1, fun i hi => (hF _ _ (hP _ _ (Or.inr (Or.inr rfl)))).trans (h.2.2.1 i hi), h.2.2.2⟩
theorem ST.len {M : Mo} {a : Int} {n : Nat} {T : List (Vc e)} (h : ST M a n T) : T.length ≤ n ∧ n ≤ 6 := by
  have h1 := h.2.2.2.2
  have h2 : dm 12 (spn T) = cnt (Lp (spn T)) n := cnt_cut h.1.2.2.2.2 (by have := h.1.2.1; omega)
  have h3 := cnt_le (Lp (spn T)) n
  have h4 := h.1.2.1
  omega
theorem Lp_nil {i : Nat} : ¬ Lp (spn ([] : List (Vc e))) i := fun ⟨w, hw, hf⟩ => fp_ne hf hw
theorem c_sempties (M : Mo) {a : Int} (ha : shp S0 a = (7, 5)) {n : Nat} (hn : n ≤ 6) : CV 52 [(2, a), (0, (n : Int))] M (fun M' => Fr (WP a) M M' ∧ ST M' a n ([] : List (Vc e))) := by
  refine Cl.intro (L := [(2, a), (0, (n : Int)), (9, 0)]) (rcv_v ow_52.2.1 ha) (by unfold entl; rw [mx_52]; rfl) (by rw [mx_52]; exact Nat.le_of_ble_eq_true rfl) rfl ?_
  have ha0 := shS_pos ha
  refine r_aload_n d_52_0 rfl (by omega) ?_
  refine r_iload_n d_52_1 rfl ?_
  refine r_putf (ki := 1) d_52_2 q_52_9 rfl ha (fxS1 ha) ?_
  refine r_aload_n d_52_5 rfl (by omega) ?_
  refine r_iconst d_52_6 rfl ?_
  refine r_putf (ki := 2) d_52_7 q_52_15 rfl ha (fxS2 ha) ?_
  refine r_iconst d_52_10 rfl ?_
  refine r_istore_n d_52_11 rfl (stl_3_2 rfl rfl) ?_
  refine dn_ind (R := fun i => ∀ f : Int → Int, (∀ c : Int, 0 ≤ c → c < i → f c = 0) → Rn 52 12 [(2, a), (0, (n : Int)), (0, i)] [] (sr (up2 (up2 M a 1 n) a 2 0) (a + 1) f) _) (lo := 0) (n := 6) ?_ ?_ 0 (by omega) (by omega) (up2 (up2 M a 1 n) a 2 0 (a + 1)) (fun c h1 h2 => by omega) |> (fun k => by rw [sr_self] at k; exact k)
  · intro f hf
    refine r_iload_n d_52_12 rfl ?_
    refine r_bipush d_52_13 rfl ?_
    refine r_icmp_ge (t := 31) d_52_15 rfl (fun _ => ?_) (fun hz => absurd (by omega) hz)
    refine r_vret d_52_31 rt_52 ?_
    refine ⟨rfl, fun x y hx => ?_, ⟨?_, hn, fun i hi => ?_, spn_sub (fun x hx => absurd hx List.not_mem_nil), fun i hi => absurd hi Lp_nil⟩, ?_, fun j hj => absurd hj (Nat.not_lt_zero j), Good.nil⟩
    · unfold WP at hx
      rw [sr_ne _ _ (by omega), uq_ne (by omega), uq_ne (by omega)]
    · rw [sr_ne _ _ (by omega), uq_ne (by omega), uq_eq]
    · rw [sr_eq, hf _ (by omega) (by omega)]
      have : cr (spn ([] : List (Vc e))) i = z0 := ifp_f Lp_nil
      rw [this, pv_z0]
    · rw [sr_ne _ _ (by omega), uq_eq]
      rfl
  · intro i i1 i2 ih f hf
    refine r_iload_n d_52_12 rfl ?_
    refine r_bipush d_52_13 rfl ?_
    refine r_icmp_ge (t := 31) d_52_15 rfl (fun hz => absurd hz (by omega)) (fun _ => ?_)
    refine r_aload_n d_52_18 rfl (by omega) ?_
    refine r_getc (ki := 3) d_52_19 q_52_18 rfl ha (fxS3 ha) (by omega) ?_
    refine r_iload_n d_52_22 rfl ?_
    refine r_lconst d_52_23 rfl ?_
    refine r_lastore d_52_24 (shS1 ha) (by omega) (by omega) ?_
    rw [up_sr]
    refine r_iinc d_52_25 rfl (by omega) (stl_3_2 rfl rfl) ?_
    refine r_goto (t := 12) d_52_28 rfl ?_
    refine ih _ (fun c h1 h2 => ?_)
    by_cases q : c = i
    · rw [q, u1_eq]
      rfl
    · rw [u1_ne _ _ q]
      exact hf c h1 (by omega)
theorem c_scopies {M : Mo} {a b : Int} (ha : shp S0 a = (7, 5)) (hb : shp S0 b = (7, 5)) (hne : a ≠ b) {n : Nat} {T : List (Vc e)} (hT : ST M b n T) : CV 53 [(2, a), (2, b)] M (fun M' => Fr (WP a) M M' ∧ ST M' a n T) := by
  refine Cl.intro (L := [(2, a), (2, b)]) (rcv_v ow_53.2.1 ha) (by unfold entl; rw [mx_53]; rfl) (by rw [mx_53]; exact Nat.le_of_ble_eq_true rfl) rfl ?_
  have ha0 := shS_pos ha
  have hb0 := shS_pos hb
  have hab := shS_SS ha hb
  have hl := hT.len
  refine r_aload_n d_53_0 rfl (by omega) ?_
  refine r_aload_n d_53_1 rfl (by omega) ?_
  refine r_getf (ki := 1) d_53_2 q_53_9 rfl hb ?_
  refine r_putf (ki := 1) d_53_5 q_53_9 rfl ha (fxS1 ha) ?_
  refine r_aload_n d_53_8 rfl (by omega) ?_
  refine r_aload_n d_53_9 rfl (by omega) ?_
  refine r_getf (ki := 2) d_53_10 q_53_15 rfl hb ?_
  refine r_putf (ki := 2) d_53_13 q_53_15 rfl ha (fxS2 ha) ?_
  refine r_aload_n d_53_16 rfl (by omega) ?_
  refine r_getc (ki := 3) d_53_17 q_53_18 rfl hb (fxS3 hb) (by omega) ?_
  refine r_iconst d_53_20 rfl ?_
  refine r_aload_n d_53_21 rfl (by omega) ?_
  refine r_getc (ki := 3) d_53_22 q_53_18 rfl ha (fxS3 ha) (by omega) ?_
  refine r_iconst d_53_25 rfl ?_
  refine r_bipush d_53_26 rfl ?_
  refine r_acopy d_53_28 q_53_29 (by rw [ow_53.2.2]; rfl) (Or.inr rfl) (shS1 ha) (shS1 hb) (by omega) (by omega) (by omega) (by omega) (by omega) rfl ?_
  refine r_aload_n d_53_31 rfl (by omega) ?_
  refine r_getc (ki := 4) d_53_32 q_53_22 rfl hb (fxS4 hb) (by omega) ?_
  refine r_iconst d_53_35 rfl ?_
  refine r_aload_n d_53_36 rfl (by omega) ?_
  refine r_getc (ki := 4) d_53_37 q_53_22 rfl ha (fxS4 ha) (by omega) ?_
  refine r_iconst d_53_40 rfl ?_
  refine r_bipush d_53_41 rfl ?_
  refine r_acopy d_53_43 q_53_29 (by rw [ow_53.2.2]; rfl) (Or.inr rfl) (shS2 ha) (shS2 hb) (by omega) (by omega) (by omega) (by omega) (by omega) rfl ?_
  refine r_vret d_53_46 rt_53 ?_
  refine ⟨rfl, fun x y hx => ?_, ⟨?_, hT.1.2.1, fun i hi => ?_, hT.1.2.2.2⟩, ?_, fun j hj => ?_, hT.2.2.2⟩
  · unfold WP at hx
    unfold cp2
    rw [if_neg (by omega), if_neg (by omega), uq_ne (by omega), uq_ne (by omega)]
  · unfold cp2
    rw [if_neg (by omega), if_neg (by omega), uq_ne (by omega), uq_eq]
    exact hT.1.1
  · unfold cp2
    rw [if_neg (by omega), if_pos ⟨rfl, by omega, by omega⟩, uq_ne (by omega), uq_ne (by omega)]
    have := hT.1.2.2.1 i hi
    rw [← this]
    congr 1
    omega
  · unfold cp2
    rw [if_neg (by omega), if_neg (by omega), uq_eq, uq_ne (by omega)]
    exact hT.2.1
  · unfold cp2
    rw [if_pos ⟨rfl, by omega, by omega⟩, if_neg (by omega), uq_ne (by omega), uq_ne (by omega)]
    have := hT.2.2.1 j hj
    rw [← this]
    congr 1
    omega
theorem c_hasPivot (he : e ≤ 1) {M : Mo} {a : Int} (ha : shp S0 a = (7, 5)) {n : Nat} {S : Vc e → Prop} (hS : SC M a n S) {i : Nat} (hi : i < 6) : PI 54 [(2, a), (0, (i : Int))] M (ifp (Lp S i) 1 0) := by
  refine Cl.intro (L := [(2, a), (0, (i : Int))]) (rcv_v ow_54.2.1 ha) (by unfold entl; rw [mx_54]; rfl) (by rw [mx_54]; exact Nat.le_of_ble_eq_true rfl) rfl ?_
  have ha0 := shS_pos ha
  have hz := pv_eq0 he (cr_sup he hS.2.2.2.1 i)
  have hz2 := cr_eq0 he hS.2.2.2.1 (i := i)
  refine r_aload_n d_54_0 rfl (by omega) ?_
  refine r_getc (ki := 3) d_54_1 q_54_18 rfl ha (fxS3 ha) (by omega) ?_
  refine r_iload_n d_54_4 rfl ?_
  refine r_laloadv d_54_5 (shS1 ha) (by omega) (by omega) (hS.2.2.1 i hi) ?_
  refine r_lconst d_54_6 rfl ?_
  refine r_lcmp d_54_7 ?_
  by_cases h : Lp S i
  · have hne : ¬ pv (cr S i) = 0 := fun q => hz2.mp (hz.mp q) h
    refine r_if_eq (t := 15) d_54_8 rfl (fun hz => absurd hz (by split <;> (try split) <;> omega)) (fun _ => ?_)
    refine r_iconst d_54_11 rfl ?_
    refine r_goto (t := 16) d_54_12 rfl ?_
    refine r_zret d_54_16 rt_54 (by omega) ?_
    exact ⟨by rw [ifp_t h], rfl⟩
  · have hne : pv (cr S i) = 0 := hz.mpr (hz2.mpr h)
    rw [hne]
    refine r_if_eq (t := 15) d_54_8 rfl (fun _ => ?_) (fun hz => absurd (by decide) hz)
    refine r_iconst d_54_15 rfl ?_
    refine r_zret d_54_16 rt_54 (by omega) ?_
    exact ⟨by rw [ifp_f h], rfl⟩
theorem kI_n {x : Kf e} (z : Int) (hz : z = (if vl x = 0 then 0 else pI e - vl x)) : kI e z = -x := by
  rw [hz]
  by_cases h : vl x = 0
  · rw [if_pos h, vl_eq0.mp h]
    apply vl_inj
    rw [vl_kI, Int.zero_emod]
    have : -(0 : Kf e) = 0 := by grind
    rw [this, vl_0]
  · rw [if_neg h, kI_neg]
theorem c_reduced (he : e ≤ 1) {M : Mo} (hp : M 1 0 = pI e) {a : Int} (ha : shp S0 a = (7, 5)) {n : Nat} {S : Vc e → Prop} (hS : SC M a n S) (v : Vc e) : PL 55 [(2, a), (1, pv v)] M (pv (rd n S v)) := by
  refine Cl.intro (L := [(2, a), (1, pv v), (9, 0), (9, 0), (9, 0), (9, 0), (9, 0)]) (rcv_v ow_55.2.1 ha) (by unfold entl; rw [mx_55]; rfl) (by rw [mx_55]; exact Nat.le_of_ble_eq_true rfl) rfl ?_
  have ha0 := shS_pos ha
  have h23 := pI23 he
  have hb := h23.b
  have h6 := hS.2.1
  have hs := hS.1
  refine r_lload_n d_55_0 rfl ?_
  refine r_lstore_n d_55_1 rfl (stw_7_3 rfl rfl) ?_
  refine r_iconst d_55_2 rfl ?_
  refine r_istore d_55_3 rfl (stl_7_5 rfl rfl) ?_
  refine dn_ind (R := fun i => ∀ (s : Int) (y : AV), s = pv (rds S v i.toNat) → Rn 55 5 [(2, a), (1, pv v), (9, 0), (1, s), (9, 0), (0, i), y] [] M _) (lo := 0) (n := n) ?_ ?_ 0 (by omega) (by omega) (pv v) (9, 0) rfl
  · intro s y hq
    refine r_iload d_55_5 rfl ?_
    refine r_aload_n d_55_7 rfl (by omega) ?_
    refine r_getfv (ki := 1) d_55_8 q_55_9 rfl ha hs ?_
    refine r_icmp_ge (t := 74) d_55_11 rfl (fun _ => ?_) (fun hz => absurd (by omega) hz)
    refine r_lload_n d_55_74 rfl ?_
    refine r_lret d_55_75 rt_55 ?_
    exact ⟨by rw [hq]; rfl, rfl⟩
  · intro i i1 i2 ih s y hq
    obtain ⟨k, rfl⟩ : ∃ k : Nat, i = k := ⟨i.toNat, by omega⟩
    rw [show ((k : Int)).toNat = k by omega] at hq
    have hz := pv_eq0 he (cr_sup he hS.2.2.2.1 k)
    have hrow := hS.2.2.1 k (by omega)
    have e1 : rds S v ((k : Int) + 1).toNat = lc (rds S v k) (-(rds S v k k)) (cr S k) := by
      rw [show ((k : Int) + 1).toNat = k + 1 by omega]
      rfl
    have hvb := vl_rng (rds S v k k)
    refine r_iload d_55_5 rfl ?_
    refine r_aload_n d_55_7 rfl (by omega) ?_
    refine r_getfv (ki := 1) d_55_8 q_55_9 rfl ha hs ?_
    refine r_icmp_ge (t := 74) d_55_11 rfl (fun hz => absurd hz (by omega)) (fun _ => ?_)
    refine r_aload_n d_55_14 rfl (by omega) ?_
    refine r_getc (ki := 3) d_55_15 q_55_18 rfl ha (fxS3 ha) (by omega) ?_
    refine r_iload d_55_18 rfl ?_
    refine r_laloadv d_55_20 (shS1 ha) (by omega) (by omega) hrow ?_
    refine r_lconst d_55_21 rfl ?_
    refine r_lcmp d_55_22 ?_
    by_cases h0 : pv (cr S k) = 0
    · rw [h0]
      refine r_if_ne (t := 30) d_55_23 rfl (fun hz => absurd hz (by decide)) (fun _ => ?_)
      refine r_iconst d_55_26 rfl ?_
      refine r_goto (t := 36) d_55_27 rfl ?_
      refine r_istore d_55_36 rfl (stl_7_6 rfl rfl) ?_
      refine r_iload d_55_38 rfl ?_
      refine r_if_eq (t := 68) d_55_40 rfl (fun _ => ?_) (fun hz => absurd rfl hz)
      refine r_iinc d_55_68 rfl (by omega) (stl_7_5 rfl rfl) ?_
      refine r_goto (t := 5) d_55_71 rfl ?_
      refine ih _ _ ?_
      rw [e1, hq, hz.mp h0, lc_z0]
    · refine r_if_ne (t := 30) d_55_23 rfl (fun _ => ?_) (fun hz => absurd (by split <;> (try split) <;> omega) hz)
      rw [hq]
      refine r_lload_n d_55_30 rfl ?_
      refine r_iload d_55_31 rfl ?_
      refine r_callsp d_55_33 q_55_35 rfl rfl (c_elemV he M (rds S v k) (by omega)) ?_
      refine r_istore d_55_36 rfl (stl_7_6 rfl rfl) ?_
      refine r_iload d_55_38 rfl ?_
      refine r_if_eq (t := 68) d_55_40 rfl (fun h1 => ?_) (fun h1 => ?_)
      · refine r_iinc d_55_68 rfl (by omega) (stl_7_5 rfl rfl) ?_
        refine r_goto (t := 5) d_55_71 rfl ?_
        refine ih _ _ ?_
        rw [e1, vl_eq0.mp h1]
        have : -(0 : Kf e) = 0 := by grind
        rw [this, lc_0]
      · have hneg := c_negative M hp h23 (c := vl (rds S v k k)) (by omega)
        have hpt := c_plusTimes he M hp (rds S v k) (cr S k) (c := if vl (rds S v k k) = 0 then 0 else pI e - vl (rds S v k k)) (by split <;> omega)
        rw [kI_n _ rfl, ← e1] at hpt
        refine r_aload_n d_55_43 rfl (by omega) ?_
        refine r_getc (ki := 0) d_55_44 q_55_25 rfl ha (fxS0 ha) (by omega) ?_
        refine r_lload_n d_55_47 rfl ?_
        refine r_aload_n d_55_48 rfl (by omega) ?_
        refine r_getc (ki := 0) d_55_49 q_55_25 rfl ha (fxS0 ha) (by omega) ?_
        refine r_iload d_55_52 rfl ?_
        refine r_callvp d_55_54 q_55_39 rfl rfl hneg ?_
        refine r_aload_n d_55_57 rfl (by omega) ?_
        refine r_getc (ki := 3) d_55_58 q_55_18 rfl ha (fxS3 ha) (by omega) ?_
        refine r_iload d_55_61 rfl ?_
        refine r_laloadv d_55_63 (shS1 ha) (by omega) (by omega) hrow ?_
        refine r_callvl d_55_64 q_55_45 rfl rfl hpt ?_
        refine r_lstore_n d_55_67 rfl (stw_7_3 rfl rfl) ?_
        refine r_iinc d_55_68 rfl (by omega) (stl_7_5 rfl rfl) ?_
        refine r_goto (t := 5) d_55_71 rfl ?_
        exact ih _ _ rfl
theorem c_takes (he : e ≤ 1) {M : Mo} (hp : M 1 0 = pI e) {a : Int} (ha : shp S0 a = (7, 5)) {n : Nat} {T : List (Vc e)} (hT : ST M a n T) {v : Vc e} (hv : sup 12 v) : CV 56 [(2, a), (1, pv v)] M (fun M' => Fr (WP a) M M' ∧ ST M' a n (tkv n T v)) := by
  refine Cl.intro (L := [(2, a), (1, pv v), (9, 0), (9, 0), (9, 0), (9, 0), (9, 0), (9, 0), (9, 0), (9, 0)]) (rcv_v ow_56.2.1 ha) (by unfold entl; rw [mx_56]; rfl) (by rw [mx_56]; exact Nat.le_of_ble_eq_true rfl) rfl ?_
  have ha0 := shS_pos ha
  have ha1 := shS_1 ha
  have h23 := pI23 he
  have hb := h23.b
  have hS := hT.1
  have h6 := hS.2.1
  have hsub := hS.2.2.2.1
  have hL := hS.2.2.2.2
  have hlen := hT.len
  have hred := c_reduced he hp ha hS v
  have hrs : sup 12 (rd n (spn T) v) := rds_sup he hsub hv n
  refine r_aload_n d_56_0 rfl (by omega) ?_
  refine r_lload_n d_56_1 rfl ?_
  refine r_callvl d_56_2 q_56_49 rfl rfl hred ?_
  refine r_lstore_n d_56_5 rfl (stw_10_3 rfl rfl) ?_
  by_cases hx : ∃ i, i < n ∧ fp (rd n (spn T) v) i
  · obtain ⟨i, hin, hi⟩ := hx
    have etk : tkv n T v = T ++ [v] := ifp_t ⟨i, hin, hi⟩
    have hfp := c_firstPlace M (dv he (rd n (spn T) v)) (i := i) (by omega) (fun j hj => by rw [hi.2 j hj]; rfl) (fun _ q => hi.1 (vl_eq0.mp q))
    obtain ⟨hLx, hcx⟩ := cr_ext he hsub hL hv hi
    have hnv : ¬ spn T v := fun q => fp_ne hi ((rd_z0 he hsub hL).mpr q)
    have hG := hT.2.2.2.app he hv hnv
    have hlt : T.length < n := by
      have h1 : dm 12 (spn (T ++ [v])) = cnt (Lp (spn (T ++ [v]))) n := by
        rw [spn_app]
        exact cnt_cut (fun j hj => ((hLx j).mp hj).elim (hL j) (fun q => by omega)) (by omega)
      have h2 := cnt_le (Lp (spn (T ++ [v]))) n
      have h3 := hG.2
      rw [List.length_append, List.length_singleton] at h3
      omega
    have hd := hT.2.1
    have hpl := hS.1
    refine r_lload_n d_56_6 rfl ?_
    refine r_callsp d_56_7 q_56_53 rfl rfl hfp ?_
    refine r_istore d_56_10 rfl (stl_10_5 rfl rfl) ?_
    refine r_iload d_56_12 rfl ?_
    refine r_aload_n d_56_14 rfl (by omega) ?_
    refine r_getfv (ki := 1) d_56_15 q_56_9 rfl ha hpl ?_
    refine r_icmp_ge (t := 32) d_56_18 rfl (fun hz => absurd hz (by omega)) (fun _ => ?_)
    refine r_aload_n d_56_21 rfl (by omega) ?_
    refine r_getfv (ki := 2) d_56_22 q_56_15 rfl ha hd ?_
    refine r_aload_n d_56_25 rfl (by omega) ?_
    refine r_getfv (ki := 1) d_56_26 q_56_9 rfl ha hpl ?_
    refine r_icmp_lt (t := 33) d_56_29 rfl (fun _ => ?_) (fun hz => absurd (by omega) hz)
    refine r_aload_n d_56_33 rfl (by omega) ?_
    refine r_getc (ki := 4) d_56_34 q_56_22 rfl ha (fxS4 ha) (by omega) ?_
    refine r_aload_n d_56_37 rfl (by omega) ?_
    refine r_getfv (ki := 2) d_56_38 q_56_15 rfl ha hd ?_
    refine r_lload_n d_56_41 rfl ?_
    refine r_lastore d_56_42 (shS2 ha) (by omega) (by omega) ?_
    refine r_aload_n d_56_43 rfl (by omega) ?_
    refine r_dup d_56_44 rfl ?_
    refine r_getfv (ki := 2) d_56_45 q_56_15 rfl ha ((uq_ne (by omega)).trans hd) ?_
    refine r_iconst d_56_48 rfl ?_
    refine r_iadd d_56_49 (by omega) ?_
    refine r_putf (ki := 2) d_56_50 q_56_15 rfl ha (fxS2 ha) ?_
    have hp1 : up2 (up2 M (a + 2) (T.length : Int) (pv v)) a 2 ((T.length : Int) + 1) 1 0 = pI e := by rw [uq_ne (by omega), uq_ne (by omega)]; exact hp
    have hvi := vl_b he (rd n (spn T) v i)
    have hpt := c_plusTimes he (up2 (up2 M (a + 2) (T.length : Int) (pv v)) a 2 ((T.length : Int) + 1)) hp1 z0 (rd n (spn T) v) (c := vl (rd n (spn T) v i)) hvi
    rw [kI_vl, pv_z0] at hpt
    have erow : lc z0 (rd n (spn T) v i) (rd n (spn T) v) = fun k => rd n (spn T) v i * rd n (spn T) v k := by
      funext k
      unfold lc z0
      grind
    rw [erow] at hpt
    generalize hrow : (fun k => rd n (spn T) v i * rd n (spn T) v k) = row at hpt hcx
    refine r_aload_n d_56_53 rfl (by omega) ?_
    refine r_getc (ki := 0) d_56_54 q_56_25 rfl ha (fxS0 ha) (by omega) ?_
    refine r_lconst d_56_57 rfl ?_
    refine r_lload_n d_56_58 rfl ?_
    refine r_iload d_56_59 rfl ?_
    refine r_callsp d_56_61 q_56_35 rfl rfl (c_elemV he _ (rd n (spn T) v) (by omega)) ?_
    refine r_lload_n d_56_64 rfl ?_
    refine r_callvl d_56_65 q_56_45 rfl rfl hpt ?_
    refine r_lstore d_56_68 rfl (stw_10_6 rfl rfl) ?_
    refine r_iconst d_56_70 rfl ?_
    refine r_istore d_56_71 rfl (stl_10_8 rfl rfl) ?_
    generalize hM1 : up2 (up2 M (a + 2) (T.length : Int) (pv v)) a 2 ((T.length : Int) + 1) = M1 at hp1
    have hr1 : M1 (a + 1) = M (a + 1) := by
      funext y
      rw [← hM1, uq_ne (by omega), uq_ne (by omega)]
    have hpl1 : M1 a 1 = n := by rw [← hM1, uq_ne (by omega), uq_ne (by omega)]; exact hpl
    refine dn_ind (R := fun j => ∀ (f : Int → Int) (y : AV), (∀ k : Nat, k < 6 → f k = pv (if (k : Int) < j then lc (cr (spn T) k) (-(cr (spn T) k i)) row else cr (spn T) k)) → Rn 56 73 [(2, a), (1, pv v), (9, 0), (1, pv (rd n (spn T) v)), (9, 0), (0, (i : Int)), (1, pv row), (9, 0), (0, j), y] [] (sr M1 (a + 1) f) _) (lo := 0) (n := n) ?_ ?_ 0 (by omega) (by omega) (M1 (a + 1)) (9, 0) ?_ |> (fun k => by rw [sr_self] at k; exact k)
    · intro f y hf
      refine r_iload d_56_73 rfl ?_
      refine r_aload_n d_56_75 rfl (by omega) ?_
      refine r_getfv (ki := 1) d_56_76 q_56_9 rfl ha ((congrFun (sr_ne _ _ (by omega)) _).trans hpl1) ?_
      refine r_icmp_ge (t := 139) d_56_79 rfl (fun _ => ?_) (fun hz => absurd (by omega) hz)
      refine r_aload_n d_56_139 rfl (by omega) ?_
      refine r_getc (ki := 3) d_56_140 q_56_18 rfl ha (fxS3 ha) (by omega) ?_
      refine r_iload d_56_143 rfl ?_
      refine r_lload d_56_145 rfl ?_
      refine r_lastore d_56_147 (shS1 ha) (by omega) (by omega) ?_
      rw [up_sr]
      refine r_vret d_56_148 rt_56 ?_
      refine ⟨rfl, fun x y hx => ?_, ?_⟩
      · unfold WP at hx
        rw [sr_ne _ _ (by omega), ← hM1, uq_ne (by omega), uq_ne (by omega)]
      · rw [etk]
        refine ⟨⟨?_, h6, fun k hk => ?_, spn_sub hG.1, fun j hj => ?_⟩, ?_, fun j hj => ?_, hG⟩
        · rw [sr_ne _ _ (by omega)]
          exact hpl1
        · rw [sr_eq, spn_app, hcx k]
          by_cases q : k = i
          · rw [q, u1_eq, if_pos rfl]
          · rw [if_neg q, u1_ne _ _ (by omega), hf k hk]
            by_cases q2 : k < n
            · rw [if_pos (by omega)]
            · have : cr (spn T) k = z0 := ifp_f (fun z => q2 (hL k z))
              rw [if_neg (by omega), this]
              have : -((z0 : Vc e) i) = 0 := by unfold z0; grind
              rw [this, lc_0]
        · rw [spn_app] at hj
          exact ((hLx j).mp hj).elim (hL j) (fun q => by omega)
        · rw [sr_ne _ _ (by omega), ← hM1, uq_eq, List.length_append, List.length_singleton]
          omega
        · rw [sr_ne _ _ (by omega), ← hM1, uq_ne (by omega)]
          rw [List.length_append, List.length_singleton] at hj
          by_cases q : j = T.length
          · rw [q, uq_eq, getD_new]
          · rw [uq_ne (by omega), getD_app (by omega)]
            exact hT.2.2.1 j (by omega)
    · intro j j1 j2 ih f y hf
      obtain ⟨k, rfl⟩ : ∃ k : Nat, j = k := ⟨j.toNat, by omega⟩
      have hfk := hf k (by omega)
      rw [if_neg (by omega)] at hfk
      have hrk : sr M1 (a + 1) f (a + 1) (k : Int) = pv (cr (spn T) k) := by rw [sr_eq]; exact hfk
      have hpk : sr M1 (a + 1) f 1 0 = pI e := by rw [sr_ne _ _ (by omega)]; exact hp1
      have hvb := vl_rng (cr (spn T) k i)
      refine r_iload d_56_73 rfl ?_
      refine r_aload_n d_56_75 rfl (by omega) ?_
      refine r_getfv (ki := 1) d_56_76 q_56_9 rfl ha ((congrFun (sr_ne _ _ (by omega)) _).trans hpl1) ?_
      refine r_icmp_ge (t := 139) d_56_79 rfl (fun hz => absurd hz (by omega)) (fun _ => ?_)
      refine r_aload_n d_56_82 rfl (by omega) ?_
      refine r_getc (ki := 3) d_56_83 q_56_18 rfl ha (fxS3 ha) (by omega) ?_
      refine r_iload d_56_86 rfl ?_
      refine r_laloadv d_56_88 (shS1 ha) (by omega) (by omega) hrk ?_
      refine r_iload d_56_89 rfl ?_
      refine r_callsp d_56_91 q_56_35 rfl rfl (c_elemV he _ (cr (spn T) k) (by omega)) ?_
      refine r_istore d_56_94 rfl (stl_10_9 rfl rfl) ?_
      refine r_iload d_56_96 rfl ?_
      refine r_if_eq (t := 133) d_56_98 rfl (fun h0 => ?_) (fun h0 => ?_)
      · refine r_iinc d_56_133 rfl (by omega) (stl_10_8 rfl rfl) ?_
        refine r_goto (t := 73) d_56_136 rfl ?_
        refine ih _ _ (fun k' hk' => ?_)
        rw [hf k' hk']
        by_cases q : k' = k
        · subst q
          rw [if_neg (by omega), if_pos (by omega), vl_eq0.mp h0]
          have : -(0 : Kf e) = 0 := by grind
          rw [this, lc_0]
        · by_cases q2 : (k' : Int) < k
          · rw [if_pos q2, if_pos (by omega)]
          · rw [if_neg q2, if_neg (by omega)]
      · have hneg := c_negative _ hpk h23 (c := vl (cr (spn T) k i)) (by omega)
        have hpt2 := c_plusTimes he _ hpk (cr (spn T) k) row (c := if vl (cr (spn T) k i) = 0 then 0 else pI e - vl (cr (spn T) k i)) (by split <;> omega)
        rw [kI_n _ rfl] at hpt2
        refine r_aload_n d_56_101 rfl (by omega) ?_
        refine r_getc (ki := 3) d_56_102 q_56_18 rfl ha (fxS3 ha) (by omega) ?_
        refine r_iload d_56_105 rfl ?_
        refine r_aload_n d_56_107 rfl (by omega) ?_
        refine r_getc (ki := 0) d_56_108 q_56_25 rfl ha (fxS0 ha) (by omega) ?_
        refine r_aload_n d_56_111 rfl (by omega) ?_
        refine r_getc (ki := 3) d_56_112 q_56_18 rfl ha (fxS3 ha) (by omega) ?_
        refine r_iload d_56_115 rfl ?_
        refine r_laloadv d_56_117 (shS1 ha) (by omega) (by omega) hrk ?_
        refine r_aload_n d_56_118 rfl (by omega) ?_
        refine r_getc (ki := 0) d_56_119 q_56_25 rfl ha (fxS0 ha) (by omega) ?_
        refine r_iload d_56_122 rfl ?_
        refine r_callvp d_56_124 q_56_39 rfl rfl hneg ?_
        refine r_lload d_56_127 rfl ?_
        refine r_callvl d_56_129 q_56_45 rfl rfl hpt2 ?_
        refine r_lastore d_56_132 (shS1 ha) (by omega) (by omega) ?_
        rw [up_sr]
        refine r_iinc d_56_133 rfl (by omega) (stl_10_8 rfl rfl) ?_
        refine r_goto (t := 73) d_56_136 rfl ?_
        refine ih _ _ (fun k' hk' => ?_)
        by_cases q : k' = k
        · subst q
          rw [u1_eq, if_pos (by omega)]
        · rw [u1_ne _ _ (by omega), hf k' hk']
          by_cases q2 : (k' : Int) < k
          · rw [if_pos q2, if_pos (by omega)]
          · rw [if_neg q2, if_neg (by omega)]
    · intro k hk
      rw [if_neg (by omega), hr1]
      exact hS.2.2.1 k hk
  · have etk : tkv n T v = T := ifp_f hx
    have hpl := hS.1
    have hfp : ∃ i : Nat, n ≤ i ∧ i ≤ 12 ∧ PI 123 [(1, pv (rd n (spn T) v))] M (i : Int) := by
      by_cases hz : rd n (spn T) v = z0
      · exact ⟨12, by omega, by omega, c_firstPlace M (dv he (rd n (spn T) v)) (by omega) (fun j _ => by rw [hz]; rfl) (fun q => by omega)⟩
      · obtain ⟨i, h1, h2⟩ := fp_ex hrs hz
        refine ⟨i, ?_, by omega, c_firstPlace M (dv he (rd n (spn T) v)) (by omega) (fun j hj => by rw [h2.2 j hj]; rfl) (fun _ q => h2.1 (vl_eq0.mp q))⟩
        apply Classical.byContradiction
        intro q
        exact hx ⟨i, by omega, h2⟩
    obtain ⟨i, hi1, hi2, hfp⟩ := hfp
    refine r_lload_n d_56_6 rfl ?_
    refine r_callsp d_56_7 q_56_53 rfl rfl hfp ?_
    refine r_istore d_56_10 rfl (stl_10_5 rfl rfl) ?_
    refine r_iload d_56_12 rfl ?_
    refine r_aload_n d_56_14 rfl (by omega) ?_
    refine r_getfv (ki := 1) d_56_15 q_56_9 rfl ha hpl ?_
    refine r_icmp_ge (t := 32) d_56_18 rfl (fun _ => ?_) (fun hz => absurd (by omega) hz)
    refine r_vret d_56_32 rt_56 ?_
    rw [etk]
    exact ⟨rfl, Fr.refl, hT⟩
end
