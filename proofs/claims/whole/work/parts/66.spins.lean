/-! The class: spinning; elements at some places moved together. -/
section
variable {e : Nat}
theorem ST.sub {M : Mo} {a : Int} {n : Nat} {T : List (Vc e)} (h : ST M a n T) (hT : ∀ x ∈ T, sup n x) : Good n T := (good_12 hT (by have := h.1.2.1; omega)).mpr h.2.2.2
theorem addv_sup {n : Nat} {T : List (Vc e)} (hT : ∀ x ∈ T, sup n x) {v : Vc e} (hv : sup n v) : ∀ x ∈ addv T v, sup n x := by
  intro x hx
  unfold addv at hx
  by_cases h : spn T v
  · rw [ifp_t h] at hx
    exact hT x hx
  · rw [ifp_f h] at hx
    rcases List.mem_append.mp hx with q | q
    · exact hT x q
    · rw [List.mem_singleton.mp q]
      exact hv
theorem c_takesP (he : e ≤ 1) {M : Mo} (hp : M 1 0 = pI e) {a : Int} (ha : shp S0 a = (7, 5)) {n : Nat} {T : List (Vc e)} (hT : ST M a n T) (hs : ∀ x ∈ T, sup n x) {v : Vc e} (hv : sup n v) : CV 56 [(2, a), (1, pv v)] M (fun M' => Fr (WP a) M M' ∧ ST M' a n (addv T v)) := by
  have h := c_takes he hp ha hT (sup_le hv (by have := hT.1.2.1; omega))
  rw [tkv_add he hs hv] at h
  exact h
theorem WP_p {a : Int} (ha : shp S0 a = (7, 5)) {M M1 : Mo} (hF : Fr (WP a) M M1) {p : Int} (hp : M 1 0 = p) : M1 1 0 = p := by
  have := shS_1 ha
  exact (hF 1 0 (by unfold WP; omega)).trans hp
theorem WP_A {a b : Int} (ha : shp S0 a = (7, 5)) (hb : shp S0 b = (0, 3)) {M M1 : Mo} (hF : Fr (WP a) M M1) {n : Nat} {A : Nat → Nat → Nat → Kf e} (hA : AA e M b n A) : AA e M1 b n A := by
  have := shS_A ha hb
  exact hA.fr hF (fun x y h1 h2 => by unfold WA at h1; unfold WP at h2; omega)
theorem c_spins (he : e ≤ 1) {M : Mo} (hp : M 1 0 = pI e) {a b : Int} (ha : shp S0 a = (7, 5)) (hb : shp S0 b = (0, 3)) {n : Nat} {A : Nat → Nat → Nat → Kf e} (hA : AA e M b n A) {T : List (Vc e)} (hT : ST M a n T) (hs : ∀ x ∈ T, sup n x) : CV 57 [(2, a), (2, b)] M (fun M' => Fr (WP a) M M' ∧ ST M' a n (sps n A 0 20 T 0)) := by
  refine Cl.intro (L := [(2, a), (2, b), (9, 0)]) (rcv_v ow_57.2.1 ha) (by unfold entl; rw [mx_57]; rfl) (by rw [mx_57]; exact Nat.le_of_ble_eq_true rfl) rfl ?_
  have ha0 := shS_pos ha
  have hb0 := shA_pos hb
  have h6 := hT.1.2.1
  refine r_iconst d_57_0 rfl ?_
  refine r_istore_n d_57_1 rfl (stl_3_2 rfl rfl) ?_
  refine dn_ind (R := fun i => ∀ (M1 : Mo) (T1 : List (Vc e)), Fr (WP a) M M1 → ST M1 a n T1 → (∀ x ∈ T1, sup n x) → sps n A 0 20 T 0 = sps n A 0 (20 - 2 * i.toNat) T1 (2 * i.toNat) → Rn 57 2 [(2, a), (2, b), (0, i)] [] M1 _) (lo := 0) (n := n) ?_ ?_ 0 (by omega) (by omega) M T Fr.refl hT hs rfl
  · intro M1 T1 hF h1 hs1 hq
    have hl := h1.len
    have e1 : sps n A 0 20 T 0 = T1 := by
      rw [hq, show 20 - 2 * (n : Int).toNat = (19 - 2 * n) + 1 by omega]
      unfold sps
      rw [if_neg (by omega)]
    refine r_iload_n d_57_2 rfl ?_
    refine r_aload_n d_57_3 rfl (by omega) ?_
    refine r_getfv (ki := 1) d_57_4 q_57_9 rfl ha h1.1.1 ?_
    refine r_icmp_ge (t := 65) d_57_7 rfl (fun _ => ?_) (fun hz => absurd (by omega) hz)
    refine r_vret d_57_65 rt_57 ?_
    rw [e1]
    exact ⟨rfl, hF, h1⟩
  · intro i i1 i2 ih M1 T1 hF h1 hs1 hq
    obtain ⟨k, rfl⟩ : ∃ k : Nat, i = k := ⟨i.toNat, by omega⟩
    have hl := h1.len
    have hp1 := WP_p ha hF hp
    have hA1 := WP_A ha hb hF hA
    rw [show ((k : Int)).toNat = k by omega, show 20 - 2 * k = (18 - 2 * k) + 1 + 1 by omega] at hq
    refine r_iload_n d_57_2 rfl ?_
    refine r_aload_n d_57_3 rfl (by omega) ?_
    refine r_getfv (ki := 1) d_57_4 q_57_9 rfl ha h1.1.1 ?_
    refine r_icmp_ge (t := 65) d_57_7 rfl (fun hz => absurd hz (by omega)) (fun _ => ?_)
    refine r_iload_n d_57_10 rfl ?_
    refine r_aload_n d_57_11 rfl (by omega) ?_
    refine r_getfv (ki := 2) d_57_12 q_57_15 rfl ha h1.2.1 ?_
    refine r_icmp_ge (t := 65) d_57_15 rfl (fun hk => ?_) (fun hk => ?_)
    · have e1 : sps n A 0 20 T 0 = T1 := by
        rw [hq]
        unfold sps
        rw [if_neg (by omega)]
      refine r_vret d_57_65 rt_57 ?_
      rw [e1]
      exact ⟨rfl, hF, h1⟩
    · refine r_aload_n d_57_18 rfl (by omega) ?_
      refine r_getfv (ki := 2) d_57_19 q_57_15 rfl ha h1.2.1 ?_
      refine r_aload_n d_57_22 rfl (by omega) ?_
      refine r_getfv (ki := 1) d_57_23 q_57_9 rfl ha h1.1.1 ?_
      refine r_icmp_ge (t := 65) d_57_26 rfl (fun hk2 => ?_) (fun hk2 => ?_)
      · have e1 : sps n A 0 20 T 0 = T1 := by
          rw [hq]
          exact sps_full he (h1.sub hs1) (by omega)
        refine r_vret d_57_65 rt_57 ?_
        rw [e1]
        exact ⟨rfl, hF, h1⟩
      · have him := c_image he hp1 hb hA1 (g := 0) (by omega) (T1.getD k z0)
        refine r_aload_n d_57_29 rfl (by omega) ?_
        refine r_aload_n d_57_30 rfl (by omega) ?_
        refine r_iconst d_57_31 rfl ?_
        refine r_aload_n d_57_32 rfl (by omega) ?_
        refine r_getc (ki := 4) d_57_33 q_57_22 rfl ha (fxS4 ha) (by omega) ?_
        refine r_iload_n d_57_36 rfl ?_
        refine r_laloadv d_57_37 (shS2 ha) (by omega) (by omega) (h1.2.2.1 k (by omega)) ?_
        refine r_callvl d_57_38 q_57_57 rfl rfl him ?_
        refine r_callvr d_57_41 q_57_63 rfl rfl (c_takesP he hp1 ha h1 hs1 sup_mv) (fun M2 hM2 => ?_)
        obtain ⟨hF2, h2⟩ := hM2
        have hs2 := addv_sup hs1 (sup_mv (n := n) (A := A 0) (v := T1.getD k z0))
        obtain ⟨⟨R, hR⟩, -⟩ := addv_ex (x := mv n (A 0) (T1.getD k z0)) (h1.sub hs1).1 sup_mv
        have hp2 := WP_p ha hF2 hp1
        have hA2 := WP_A ha hb hF2 hA1
        have hkl : k < (addv T1 (mv n (A 0) (T1.getD k z0))).length := by
          rw [hR, List.length_append]
          omega
        have hg : (addv T1 (mv n (A 0) (T1.getD k z0))).getD k z0 = T1.getD k z0 := by
          rw [hR]
          exact getD_appl (by omega)
        have hm2 := h2.2.2.1 k hkl
        rw [hg] at hm2
        have him2 := c_image he hp2 hb hA2 (g := 1) (by omega) (T1.getD k z0)
        refine r_aload_n d_57_44 rfl (by omega) ?_
        refine r_aload_n d_57_45 rfl (by omega) ?_
        refine r_iconst d_57_46 rfl ?_
        refine r_aload_n d_57_47 rfl (by omega) ?_
        refine r_getc (ki := 4) d_57_48 q_57_22 rfl ha (fxS4 ha) (by omega) ?_
        refine r_iload_n d_57_51 rfl ?_
        refine r_laloadv d_57_52 (shS2 ha) (by omega) (by omega) hm2 ?_
        refine r_callvl d_57_53 q_57_57 rfl rfl him2 ?_
        refine r_callvr d_57_56 q_57_63 rfl rfl (c_takesP he hp2 ha h2 hs2 sup_mv) (fun M3 hM3 => ?_)
        obtain ⟨hF3, h3⟩ := hM3
        have hs3 := addv_sup hs2 (sup_mv (n := n) (A := A 1) (v := T1.getD k z0))
        refine r_iinc d_57_59 rfl (by omega) (stl_3_2 rfl rfl) ?_
        refine r_goto (t := 2) d_57_62 rfl ?_
        refine ih M3 _ ((hF.trans hF2 (fun _ _ q => q) (fun _ _ q => q)).trans hF3 (fun _ _ q => q) (fun _ _ q => q)) h3 hs3 ?_
        rw [hq]
        have c0 : cand n A 0 T1 (2 * k) = mv n (A 0) (T1.getD k z0) := by
          unfold cand
          rw [show 2 * k % 2 = 0 by omega, show 0 + 2 * k / 2 = k by omega]
        have c1 : cand n A 0 (addv T1 (mv n (A 0) (T1.getD k z0))) (2 * k + 1) = mv n (A 1) (T1.getD k z0) := by
          unfold cand
          rw [show (2 * k + 1) % 2 = 1 by omega, show 0 + (2 * k + 1) / 2 = k by omega, hg]
        have u1 : ∀ (f : Nat) (T : List (Vc e)) (c : Nat), 0 + c / 2 < T.length → sps n A 0 (f + 1) T c = sps n A 0 f (addv T (cand n A 0 T c)) (c + 1) := by
          intro f T c hc
          show (if 0 + c / 2 < T.length then sps n A 0 f (addv T (cand n A 0 T c)) (c + 1) else T) = _
          rw [if_pos hc]
        rw [u1 _ _ _ (by omega), c0, u1 _ _ _ (by omega), c1]
        congr 1
        omega
theorem spin_nil {n : Nat} {A : Nat → Nat → Nat → Kf e} {v : Vc e} : spin n A [] v = sps n A 0 20 (addv [] v) 0 := by
  unfold spin addv
  by_cases h : spn [] v
  · rw [ifp_t h, ifp_t h]
    unfold sps
    rfl
  · rw [ifp_f h, ifp_f h]
    rfl
/-- the elements at the places of a set, moved together -/
noncomputable def pck (n : Nat) (P : Nat → Prop) (v : Vc e) : Vc e := fun j => if j < cnt P n then v (pl P j) else 0
theorem c_picks (he : e ≤ 1) {M : Mo} {a : Int} (ha : shp S0 a = (7, 5)) {n : Nat} {S : Vc e → Prop} (hS : SC M a n S) (v : Vc e) {P : Nat → Prop} {z : Int} (hP : ∀ i, i < n → (ifp (Lp S i) (1 : Int) 0 = z ↔ P i)) : PL 60 [(2, a), (1, pv v), (0, z)] M (pv (pck n P v)) := by
  refine Cl.intro (L := [(2, a), (1, pv v), (9, 0), (0, z), (9, 0), (9, 0), (9, 0), (9, 0)]) (rcv_v ow_60.2.1 ha) (by unfold entl; rw [mx_60]; rfl) (by rw [mx_60]; exact Nat.le_of_ble_eq_true rfl) rfl ?_
  have ha0 := shS_pos ha
  have h6 := hS.2.1
  refine r_lconst d_60_0 rfl ?_
  refine r_lstore d_60_1 rfl (stw_8_4 rfl rfl) ?_
  refine r_iconst d_60_3 rfl ?_
  refine r_istore d_60_4 rfl (stl_8_6 rfl rfl) ?_
  refine r_iconst d_60_6 rfl ?_
  refine r_istore d_60_7 rfl (stl_8_7 rfl rfl) ?_
  refine dn_ind (R := fun i => ∀ (s c : Int), s = pv (pck i.toNat P v) → c = (cnt P i.toNat : Nat) → Rn 60 9 [(2, a), (1, pv v), (9, 0), (0, z), (1, s), (9, 0), (0, c), (0, i)] [] M _) (lo := 0) (n := n) ?_ ?_ 0 (by omega) (by omega) 0 0 ?_ rfl
  · intro s c hq hc
    refine r_iload d_60_9 rfl ?_
    refine r_aload_n d_60_11 rfl (by omega) ?_
    refine r_getfv (ki := 1) d_60_12 q_60_9 rfl ha hS.1 ?_
    refine r_icmp_ge (t := 55) d_60_15 rfl (fun _ => ?_) (fun hz => absurd (by omega) hz)
    refine r_lload d_60_55 rfl ?_
    refine r_lret d_60_57 rt_60 ?_
    exact ⟨by rw [hq]; rfl, rfl⟩
  · intro i i1 i2 ih s c hq hc
    obtain ⟨k, rfl⟩ : ∃ k : Nat, i = k := ⟨i.toNat, by omega⟩
    rw [show ((k : Int)).toNat = k by omega] at hq hc
    have hck := cnt_le P k
    have e9 : ((k : Int) + 1).toNat = k + 1 := by omega
    refine r_iload d_60_9 rfl ?_
    refine r_aload_n d_60_11 rfl (by omega) ?_
    refine r_getfv (ki := 1) d_60_12 q_60_9 rfl ha hS.1 ?_
    refine r_icmp_ge (t := 55) d_60_15 rfl (fun hz => absurd hz (by omega)) (fun _ => ?_)
    refine r_aload_n d_60_18 rfl (by omega) ?_
    refine r_iload d_60_19 rfl ?_
    refine r_callvp d_60_21 q_60_85 rfl rfl (c_hasPivot he ha hS (by omega)) ?_
    refine r_iload_n d_60_24 rfl ?_
    refine r_icmp_ne (t := 49) d_60_25 rfl (fun hne => ?_) (fun hne => ?_)
    · have hn : ¬ P k := fun q => hne ((hP k (by omega)).mpr q)
      refine r_iinc d_60_49 rfl (by omega) (stl_8_7 rfl rfl) ?_
      refine r_goto (t := 9) d_60_52 rfl ?_
      have ec : cnt P (k + 1) = cnt P k := by
        show cnt P k + ifp (P k) 1 0 = cnt P k
        rw [ifp_f hn]
        omega
      refine ih _ _ ?_ ?_
      · rw [e9, hq]
        unfold pck
        rw [ec]
      · rw [e9, ec, hc]
    · have hy : P k := (hP k (by omega)).mp (by omega)
      have ec : cnt P (k + 1) = cnt P k + 1 := by
        show cnt P k + ifp (P k) 1 0 = cnt P k + 1
        rw [ifp_t hy]
      have hvb := vl_b he (v k)
      have hdr := hx_12 (dgt_d (i := cnt P k) (c := vl (v k)) (by omega))
      have hor := hx_or (dv he (pck k P v)) (dgt_d (i := cnt P k) (c := vl (v k)) (by omega)) (fun j _ => by
        unfold dgt
        by_cases q : j = cnt P k
        · refine Or.inl ?_
          unfold pck
          rw [if_neg (by omega)]
          rfl
        · exact Or.inr (if_neg q))
      have hnew : hx (fun j => vl (pck k P v j) + dgt (cnt P k) (vl (v k)) j) 12 = pv (pck (k + 1) P v) := by
        refine hx_congr (fun j _ => ?_)
        unfold dgt pck
        rw [ec]
        by_cases q : j = cnt P k
        · rw [if_pos q, if_neg (by omega), if_pos (by omega), q, pl_cnt hy, vl_0]
          omega
        · rw [if_neg q]
          by_cases q2 : j < cnt P k
          · rw [if_pos q2, if_pos (by omega)]
            omega
          · rw [if_neg q2, if_neg (by omega)]
            rfl
      have hu := c_unit M (i := cnt P k) (by omega)
      rw [← hc] at hu
      refine r_lload d_60_28 rfl ?_
      refine r_lload_n d_60_30 rfl ?_
      refine r_iload d_60_31 rfl ?_
      refine r_callsp d_60_33 q_60_35 rfl rfl (c_elemV he M v (by omega)) ?_
      refine r_i2l d_60_36 ?_
      refine r_iload d_60_37 rfl ?_
      refine r_callsl d_60_39 q_60_89 rfl rfl hu ?_
      refine r_lmul d_60_42 (by rw [dg12 _ (by omega)]; omega) ?_
      rw [dg12 _ (by omega), hq]
      refine r_lor d_60_43 hor ?_
      rw [hnew]
      refine r_lstore d_60_44 rfl (stw_8_4 rfl rfl) ?_
      refine r_iinc d_60_46 rfl (by omega) (stl_8_6 rfl rfl) ?_
      refine r_iinc d_60_49 rfl (by omega) (stl_8_7 rfl rfl) ?_
      refine r_goto (t := 9) d_60_52 rfl ?_
      exact ih _ _ (by rw [e9]) (by rw [e9, ec, hc]; omega)
  · rw [← pv_z0 (e := e)]
    refine pv_congr (fun j _ => ?_)
    unfold pck
    rw [if_neg (by show ¬ j < 0; omega)]
    rfl
theorem c_basisVector (he : e ≤ 1) {M : Mo} {a : Int} (ha : shp S0 a = (7, 5)) {n : Nat} {S : Vc e → Prop} (hS : SC M a n S) {d : Nat} (hd : d < cnt (Lp S) n) : PL 59 [(2, a), (0, (d : Int))] M (pv (crow S (pl (Lp S) d))) := by
  refine Cl.intro (L := [(2, a), (0, (d : Int)), (9, 0), (9, 0)]) (rcv_v ow_59.2.1 ha) (by unfold entl; rw [mx_59]; rfl) (by rw [mx_59]; exact Nat.le_of_ble_eq_true rfl) rfl ?_
  have ha0 := shS_pos ha
  have h6 := hS.2.1
  obtain ⟨p1, p2⟩ := pl_spec hd
  have p3 := pl_lt hd
  refine r_iload_n d_59_0 rfl ?_
  refine r_istore_n d_59_1 rfl (stl_4_2 rfl rfl) ?_
  refine r_iconst d_59_2 rfl ?_
  refine r_istore_n d_59_3 rfl (stl_4_3 rfl rfl) ?_
  refine dn_ind (R := fun i => ∀ c : Int, c = d - (cnt (Lp S) i.toNat : Nat) → Rn 59 4 [(2, a), (0, (d : Int)), (0, c), (0, i)] [] M _) (lo := 0) (n := (pl (Lp S) d : Nat)) ?_ ?_ 0 (by omega) (by omega) d ?_
  · intro c hc
    rw [show (((pl (Lp S) d : Nat) : Int)).toNat = pl (Lp S) d by omega, p2] at hc
    have hrow := hS.2.2.1 (pl (Lp S) d) (by omega)
    have e1 : cr S (pl (Lp S) d) = crow S (pl (Lp S) d) := ifp_t p1
    rw [e1] at hrow
    refine r_iload_n d_59_4 rfl ?_
    refine r_aload_n d_59_5 rfl (by omega) ?_
    refine r_getfv (ki := 1) d_59_6 q_59_9 rfl ha hS.1 ?_
    refine r_icmp_ge (t := 40) d_59_9 rfl (fun hz => absurd hz (by omega)) (fun _ => ?_)
    refine r_aload_n d_59_12 rfl (by omega) ?_
    refine r_iload_n d_59_13 rfl ?_
    refine r_callvp d_59_14 q_59_85 rfl rfl (c_hasPivot he ha hS (by omega)) ?_
    rw [ifp_t p1]
    refine r_if_eq (t := 34) d_59_17 rfl (fun hz => absurd hz (by decide)) (fun _ => ?_)
    refine r_iload_n d_59_20 rfl ?_
    refine r_if_ne (t := 31) d_59_21 rfl (fun hz => absurd hz (by omega)) (fun _ => ?_)
    refine r_aload_n d_59_24 rfl (by omega) ?_
    refine r_getc (ki := 3) d_59_25 q_59_18 rfl ha (fxS3 ha) (by omega) ?_
    refine r_iload_n d_59_28 rfl ?_
    refine r_laloadv d_59_29 (shS1 ha) (by omega) (by omega) hrow ?_
    refine r_lret d_59_30 rt_59 ?_
    exact ⟨rfl, rfl⟩
  · intro i i1 i2 ih c hc
    obtain ⟨k, rfl⟩ : ∃ k : Nat, i = k := ⟨i.toNat, by omega⟩
    rw [show ((k : Int)).toNat = k by omega] at hc
    have e9 : ((k : Int) + 1).toNat = k + 1 := by omega
    rw [e9] at ih
    have ec : cnt (Lp S) (k + 1) = cnt (Lp S) k + ifp (Lp S k) 1 0 := rfl
    refine r_iload_n d_59_4 rfl ?_
    refine r_aload_n d_59_5 rfl (by omega) ?_
    refine r_getfv (ki := 1) d_59_6 q_59_9 rfl ha hS.1 ?_
    refine r_icmp_ge (t := 40) d_59_9 rfl (fun hz => absurd hz (by omega)) (fun _ => ?_)
    refine r_aload_n d_59_12 rfl (by omega) ?_
    refine r_iload_n d_59_13 rfl ?_
    refine r_callvp d_59_14 q_59_85 rfl rfl (c_hasPivot he ha hS (by omega)) ?_
    by_cases h : Lp S k
    · have hlt := cnt_lt (P := Lp S) (i := k) (j := pl (Lp S) d) (by omega) h
      rw [ifp_t h] at ec
      rw [ifp_t h]
      refine r_if_eq (t := 34) d_59_17 rfl (fun hz => absurd hz (by decide)) (fun _ => ?_)
      refine r_iload_n d_59_20 rfl ?_
      refine r_if_ne (t := 31) d_59_21 rfl (fun _ => ?_) (fun hz => absurd (by omega) hz)
      have hkd := cnt_le (Lp S) k
      have hdn := cnt_le (Lp S) n
      refine r_iinc d_59_31 rfl (by omega) (stl_4_2 rfl rfl) ?_
      refine r_iinc d_59_34 rfl (by omega) (stl_4_3 rfl rfl) ?_
      refine r_goto (t := 4) d_59_37 rfl ?_
      exact ih _ (by rw [ec]; omega)
    · rw [ifp_f h] at ec
      rw [ifp_f h]
      refine r_if_eq (t := 34) d_59_17 rfl (fun _ => ?_) (fun hz => absurd rfl hz)
      refine r_iinc d_59_34 rfl (by omega) (stl_4_3 rfl rfl) ?_
      refine r_goto (t := 4) d_59_37 rfl ?_
      exact ih _ (by rw [ec]; omega)
  · show (d : Int) = d - ((cnt (Lp S) 0 : Nat) : Int)
    show (d : Int) = d - ((0 : Nat) : Int)
    omega
end
