/-! The class: socles, layers. -/
theorem fx_180_4 : fx 180 4 = some 182 := fxS4 sh_180
section
variable {e n : Nat} {A : Nat → Nat → Nat → Kf e}
/-- the space so far: what it is, and which vectors were seen -/
def socI (n : Nat) (A : Nat → Nat → Nat → Kf e) (S : Vc e → Prop) (Pr : Int → Prop) : Prop := Inv n A S ∧ (∀ x, S x → socS n A x) ∧ ∀ u, nrm e n u → Pr u → smp n A u → S (toV e n u)
theorem toV_ne (he : e ≤ 1) {u : Int} (h1 : 1 ≤ u) (h2 : u < pI e ^ n) : toV e n u ≠ z0 := fun q => by
  have := (num_eq0 he (toV_sup (e := e) (n := n) (v := u))).mpr q
  rw [num_toV he (by omega) h2] at this
  omega
theorem num_pos (he : e ≤ 1) {t : Vc e} (ht : sup n t) (h : t ≠ z0) : 1 ≤ num n t ∧ num n t < pI e ^ n ∧ toV e n (num n t) = t := by
  have h1 := num_rng he n t
  have h2 : num n t ≠ 0 := fun q => h ((num_eq0 he ht).mp q)
  exact ⟨by omega, h1.2, toV_num he ht⟩
theorem socI_step (he : e ≤ 1) (hn : n ≤ 6) {T : List (Vc e)} (hT : ∀ x ∈ T, sup n x) {Pr : Int → Prop} (hI : socI n A (spn T) Pr) {u : Int} (hu : nrm e n u) (hd : ∀ u', nrm e n u' → sl n A u' < sl n A u → Pr u') {S' : Vc e → Prop} (h : ((∀ w, S' w ↔ spn T w) ∧ (spn T (toV e n u) ∨ ¬ ∀ x, spn T x → spn (spin n A [] (toV e n u)) x → x = z0)) ∨ (¬ spn T (toV e n u) ∧ (∀ x, spn T x → spn (spin n A [] (toV e n u)) x → x = z0) ∧ ∀ w, S' w ↔ spn (T ++ spin n A [] (toV e n u)) w)) : socI n A S' (fun x => Pr x ∨ x = u) := by
  have hS : Sub n (spn T) := spn_sub hT
  have hur := nrm_rng he hu
  obtain ⟨p1, p2, p3⟩ := spS_ok (A := A) he hn (toV_sup (e := e) (n := n) (v := u))
  obtain ⟨i1, i2, i3⟩ := hI
  rcases h with ⟨h1, h2⟩ | ⟨h1, h2, h3⟩
  · refine ⟨fun g hg w hw => (h1 _).mpr (i1 g hg w ((h1 _).mp hw)), fun x hx => i2 x ((h1 x).mp hx), fun u' v1 v2 v3 => (h1 _).mpr ?_⟩
    rcases v2 with v2 | rfl
    · exact i3 u' v1 v2 v3
    · rcases h2 with q | q
      · exact q
      · apply Classical.byContradiction
        intro hnu
        apply q
        intro x hx hx2
        apply Classical.byContradiction
        intro hx0
        obtain ⟨n1, n2, n3⟩ := num_pos he (hS.2.2 x hx) hx0
        have h4 := smp_in he hn v3 n1 n2 (by rw [n3]; exact hx2)
        have h5 := h4.2 _ p3
        rw [n3] at h5
        exact hnu (spS_min hS i1 hx _ h5)
  · have hP : Good n (spin n A [] (toV e n u)) := spin_good he Good.nil toV_sup
    have hTP : ∀ y ∈ T ++ spin n A [] (toV e n u), sup n y := fun y hy => (List.mem_append.mp hy).elim (hT y) (hP.1 y)
    have hsmp : smp n A u := by
      intro w w1 w2 w3
      apply Classical.byContradiction
      intro hne
      have hle := sl_in he hn w3
      obtain ⟨v, v1, v2, v3, v4, v5⟩ := smp_in_ex (A := A) he hn w1 w2
      obtain ⟨v', c, c1, c2, c3⟩ := nrm_ex (e := e) he hn v1 v2
      have hv' : smp n A v' := smp_sc he hn c2 c3 v3
      have hslv : sl n A v' = sl n A v := by
        rw [sl_dm he, sl_dm he, c3]
        exact dm_congr (spS_sc he hn toV_sup c2)
      have hin := i3 v' c1 (hd v' c1 (by omega)) hv'
      have hin2 : spn T (toV e n v) := sc_back he hS c2 c3 hin
      have hv4 : spS n A (toV e n u) (toV e n v) := spS_min p1 p2 w3 _ v4
      exact toV_ne he v1 v2 (h2 _ hin2 hv4)
    refine ⟨fun g hg w hw => ?_, fun x hx => ?_, fun u' v1 v2 v3 => (h3 _).mpr ?_⟩
    · obtain ⟨t, t1, t2⟩ := spn_add.mp ((h3 w).mp hw)
      refine (h3 _).mpr (spn_add.mpr ⟨mv n (A g) t, p2 g hg t t1, ?_⟩)
      rw [← mv_lc]
      exact i1 g hg _ t2
    · obtain ⟨t, t1, t2⟩ := spn_add.mp ((h3 x).mp hx)
      have g1 := i2 _ t2
      have g2 : socS n A t := by
        by_cases hz : t = z0
        · rw [hz]
          exact (socS_sub he).1
        · obtain ⟨n1, n2, n3⟩ := num_pos he (p1.2.2 t t1) hz
          have h4 := smp_in he hn hsmp n1 n2 (by rw [n3]; exact t1)
          have h5 := socS_mem he n1 n2 h4.1
          rw [n3] at h5
          exact h5
      have g3 := (socS_sub (A := A) he).2.1 _ _ 1 g1 g2
      have e1 : lc (lc x (-1) t) 1 t = x := by
        funext i
        unfold lc
        grind
      rw [e1] at g3
      exact g3
    · rcases v2 with v2 | rfl
      · exact spn_mono _ (i3 u' v1 v2 v3)
      · exact spn_add.mpr ⟨_, p3, by rw [lc_neg]; exact hS.1⟩
theorem socI_fin (he : e ≤ 1) (hn : n ≤ 6) {S : Vc e → Prop} (hS : Sub n S) (h : socI n A S (fun _ => True)) : ∀ w, S w ↔ socS n A w := by
  intro w
  refine ⟨h.2.1 w, fun hw => socS_min he hS (fun v v1 v2 v3 => ?_) w hw⟩
  obtain ⟨v', c, c1, c2, c3⟩ := nrm_ex (e := e) he hn v1 v2
  exact sc_back he hS c2 c3 (h.2.2 v' c1 trivial (smp_sc he hn c2 c3 v3))
def WSo (x y : Int) : Prop := WP 177 x y ∨ WP 180 x y ∨ WP 183 x y
theorem c_addsIfSimple (he : e ≤ 1) {M : Mo} (hp : M 1 0 = pI e) (hA : AA e M 173 n A) {T : List (Vc e)} (hT : ST M 177 n T) (hTs : ∀ x ∈ T, sup n x) {v : Vc e} (hv : sup n v) : CV 50 [(2, 171), (1, pv v)] M (fun M' => Fr WSo M M' ∧ ∃ T', ST M' 177 n T' ∧ (∀ x ∈ T', sup n x) ∧ (((∀ w, spn T' w ↔ spn T w) ∧ (spn T v ∨ ¬ ∀ x, spn T x → spn (spin n A [] v) x → x = z0)) ∨ (¬ spn T v ∧ (∀ x, spn T x → spn (spin n A [] v) x → x = z0) ∧ ∀ w, spn T' w ↔ spn (T ++ spin n A [] v) w))) := by
  have h6 := hA.n6
  have hsub : Sub n (spn T) := spn_sub hTs
  have hL : ∀ i, Lp (spn T) i → i < n := fun i hi => Lp_lt hsub hi
  have hrs : sup n (rd n (spn T) v) := rds_sup he hsub hv n
  have hzr : (∀ i, i < 6 → vl (rd n (spn T) v i) = 0) ↔ spn T v := by
    rw [← rd_z0 he hsub hL]
    constructor
    · intro h
      exact sup_ext hrs sup_z0 (fun i hi => vl_eq0.mp (h i (by omega)))
    · intro h i _
      rw [h]
      rfl
  refine Cl.intro (L := [(2, 171), (1, pv v), (9, 0), (9, 0)]) (rcv_v ow_50.2.1 sh_171) (by unfold entl; rw [mx_50]; rfl) (by rw [mx_50]; exact Nat.le_of_ble_eq_true rfl) rfl ?_
  refine r_aload_n d_50_0 rfl (by omega) ?_
  refine r_getc (ki := 3) d_50_1 q_50_34 rfl sh_171 fx_171_3 (by omega) ?_
  refine r_lload_n d_50_4 rfl ?_
  refine r_callvl d_50_5 q_50_89 rfl rfl (c_reduced he hp sh_177 hT.1 v) ?_
  refine r_callsp d_50_8 q_50_93 rfl rfl (c_isZero M (dv he (rd n (spn T) v))) ?_
  by_cases hin : spn T v
  · rw [ifp_t (hzr.mpr hin)]
    refine r_if_eq (t := 15) d_50_11 rfl (fun hz => absurd hz (by decide)) (fun _ => ?_)
    refine r_vret d_50_14 rt_50 ?_
    exact ⟨rfl, Fr.refl, T, hT, hTs, Or.inl ⟨fun w => Iff.rfl, Or.inl hin⟩⟩
  · rw [ifp_f (fun q => hin (hzr.mp q))]
    refine r_if_eq (t := 15) d_50_11 rfl (fun _ => ?_) (fun hz => absurd rfl hz)
    refine r_aload_n d_50_15 rfl (by omega) ?_
    refine r_getc (ki := 4) d_50_16 q_50_38 rfl sh_171 fx_171_4 (by omega) ?_
    refine r_aload_n d_50_19 rfl (by omega) ?_
    refine r_getc (ki := 1) d_50_20 q_50_24 rfl sh_171 fx_171_1 (by omega) ?_
    refine r_getfv (ki := 1) d_50_23 q_50_48 rfl sh_173 hA.1 ?_
    refine r_callvr d_50_26 q_50_71 rfl rfl (c_sempties (e := e) M sh_180 h6) (fun M1 hM1 => ?_)
    obtain ⟨hF1, hT1⟩ := hM1
    have hp1 := WP_p sh_180 hF1 hp
    refine r_aload_n d_50_29 rfl (by omega) ?_
    refine r_getc (ki := 4) d_50_30 q_50_38 rfl sh_171 fx_171_4 (by omega) ?_
    refine r_lload_n d_50_33 rfl ?_
    refine r_callvr d_50_34 q_50_79 rfl rfl (c_takesP he hp1 sh_180 hT1 (fun x hx => absurd hx List.not_mem_nil) hv) (fun M2 hM2 => ?_)
    obtain ⟨hF2, hT2⟩ := hM2
    have hp2 := WP_p sh_180 hF2 hp1
    have hA2 := WP_A sh_180 sh_173 hF2 (WP_A sh_180 sh_173 hF1 hA)
    refine r_aload_n d_50_37 rfl (by omega) ?_
    refine r_getc (ki := 4) d_50_38 q_50_38 rfl sh_171 fx_171_4 (by omega) ?_
    refine r_aload_n d_50_41 rfl (by omega) ?_
    refine r_getc (ki := 1) d_50_42 q_50_24 rfl sh_171 fx_171_1 (by omega) ?_
    refine r_callvr d_50_45 q_50_83 rfl rfl (c_spins he hp2 sh_180 sh_173 hA2 hT2 (addv_sup (fun x hx => absurd hx List.not_mem_nil) hv)) (fun M3 hM3 => ?_)
    obtain ⟨hF3, hT3⟩ := hM3
    rw [← spin_nil] at hT3
    have hG : Good n (spin n A [] v) := spin_good he Good.nil hv
    generalize hPd : spin n A [] v = P at hT3 hG
    have hF13 : Fr (WP 180) M M3 := (hF1.trans hF2 (fun _ _ q => q) (fun _ _ q => q)).trans hF3 (fun _ _ q => q) (fun _ _ q => q)
    have hp3 := WP_p sh_180 hF13 hp
    have hT177 : ST M3 177 n T := hT.fr hF13 (fun x y z1 z2 => by unfold WP at z1 z2; omega)
    refine r_aload_n d_50_48 rfl (by omega) ?_
    refine r_getc (ki := 5) d_50_49 q_50_41 rfl sh_171 fx_171_5 (by omega) ?_
    refine r_aload_n d_50_52 rfl (by omega) ?_
    refine r_getc (ki := 3) d_50_53 q_50_34 rfl sh_171 fx_171_3 (by omega) ?_
    refine r_callvr d_50_56 q_50_97 rfl rfl (c_scopies sh_183 sh_177 (by omega) hT177) (fun M4 hM4 => ?_)
    obtain ⟨hF4, hT4⟩ := hM4
    have hp4 := WP_p sh_183 hF4 hp3
    have hP4 : ST M4 180 n P := hT3.fr hF4 (fun x y z1 z2 => by unfold WP at z1 z2; omega)
    have hS4 : ST M4 177 n T := hT177.fr hF4 (fun x y z1 z2 => by unfold WP at z1 z2; omega)
    have hPl := hP4.len
    refine r_iconst d_50_59 rfl ?_
    refine r_istore_n d_50_60 rfl (stl_4_3 rfl rfl) ?_
    refine dn_ind (R := fun i => ∀ (M5 : Mo) (R : List (Vc e)), Fr (WP 183) M4 M5 → ST M5 183 n R → (∀ x ∈ R, sup n x) → spn R = spn (T ++ P.take i.toNat) → Rn 50 61 [(2, 171), (1, pv v), (9, 0), (0, i)] [] M5 _) (lo := 0) (n := (P.length : Int)) ?_ ?_ 0 (by omega) (by omega) M4 T Fr.refl hT4 hTs (by show spn T = spn (T ++ P.take 0); rw [List.take_zero, List.append_nil])
    · intro M5 R hF5 hR hRs hRe
      rw [show ((P.length : Nat) : Int).toNat = P.length by omega, List.take_length] at hRe
      have hP5 : ST M5 180 n P := hP4.fr hF5 (fun x y z1 z2 => by unfold WP at z1 z2; omega)
      have hS5 : ST M5 177 n T := hS4.fr hF5 (fun x y z1 z2 => by unfold WP at z1 z2; omega)
      have hRd := hR.dim
      have hTd := hS5.dim
      have hRl := hR.len
      have hTl := hS5.len
      have hdir := dm_dir he hTs P hG
      rw [← hRe, ← hRd, ← hTd] at hdir
      refine r_iload_n d_50_61 rfl ?_
      refine r_aload_n d_50_62 rfl (by omega) ?_
      refine r_getc (ki := 4) d_50_63 q_50_38 rfl sh_171 fx_171_4 (by omega) ?_
      refine r_getfv (ki := 2) d_50_66 q_50_58 rfl sh_180 hP5.2.1 ?_
      refine r_icmp_ge (t := 94) d_50_69 rfl (fun _ => ?_) (fun hz => absurd (by omega) hz)
      refine r_aload_n d_50_94 rfl (by omega) ?_
      refine r_getc (ki := 5) d_50_95 q_50_41 rfl sh_171 fx_171_5 (by omega) ?_
      refine r_getfv (ki := 2) d_50_98 q_50_58 rfl sh_183 hR.2.1 ?_
      refine r_aload_n d_50_101 rfl (by omega) ?_
      refine r_getc (ki := 3) d_50_102 q_50_34 rfl sh_171 fx_171_3 (by omega) ?_
      refine r_getfv (ki := 2) d_50_105 q_50_58 rfl sh_177 hS5.2.1 ?_
      refine r_aload_n d_50_108 rfl (by omega) ?_
      refine r_getc (ki := 4) d_50_109 q_50_38 rfl sh_171 fx_171_4 (by omega) ?_
      refine r_getfv (ki := 2) d_50_112 q_50_58 rfl sh_180 hP5.2.1 ?_
      refine r_iadd d_50_115 (by omega) ?_
      have hFa : Fr WSo M M5 := ((hF13.mono (fun x y q => Or.inr (Or.inl q))).trans hF4 (fun _ _ q => q) (fun x y q => Or.inr (Or.inr q))).trans hF5 (fun _ _ q => q) (fun x y q => Or.inr (Or.inr q))
      refine r_icmp_ne (t := 130) d_50_116 rfl (fun hne => ?_) (fun hne => ?_)
      · refine r_vret d_50_130 rt_50 ?_
        exact ⟨rfl, hFa, T, hS5, hTs, Or.inl ⟨fun w => Iff.rfl, Or.inr (fun q => hne (by have := hdir.mpr q; omega))⟩⟩
      · refine r_aload_n d_50_119 rfl (by omega) ?_
        refine r_getc (ki := 3) d_50_120 q_50_34 rfl sh_171 fx_171_3 (by omega) ?_
        refine r_aload_n d_50_123 rfl (by omega) ?_
        refine r_getc (ki := 5) d_50_124 q_50_41 rfl sh_171 fx_171_5 (by omega) ?_
        refine r_callvr d_50_127 q_50_97 rfl rfl (c_scopies sh_177 sh_183 (by omega) hR) (fun M6 hM6 => ?_)
        obtain ⟨hF6, hT6⟩ := hM6
        refine r_vret d_50_130 rt_50 ?_
        refine ⟨rfl, hFa.trans hF6 (fun _ _ q => q) (fun x y q => Or.inl q), R, hT6, hRs, Or.inr ⟨hin, hdir.mp (by omega), fun w => ?_⟩⟩
        rw [hRe]
    · intro i i1 i2 ih M5 R hF5 hR hRs hRe
      obtain ⟨k, rfl⟩ : ∃ k : Nat, i = k := ⟨i.toNat, by omega⟩
      rw [show ((k : Int)).toNat = k by omega] at hRe
      rw [show ((k : Int) + 1).toNat = k + 1 by omega] at ih
      have hP5 : ST M5 180 n P := hP4.fr hF5 (fun x y z1 z2 => by unfold WP at z1 z2; omega)
      have hp5 := WP_p sh_183 hF5 hp4
      have hps : sup n (P.getD k z0) := getD_sup hG k
      refine r_iload_n d_50_61 rfl ?_
      refine r_aload_n d_50_62 rfl (by omega) ?_
      refine r_getc (ki := 4) d_50_63 q_50_38 rfl sh_171 fx_171_4 (by omega) ?_
      refine r_getfv (ki := 2) d_50_66 q_50_58 rfl sh_180 hP5.2.1 ?_
      refine r_icmp_ge (t := 94) d_50_69 rfl (fun hz => absurd hz (by omega)) (fun _ => ?_)
      refine r_aload_n d_50_72 rfl (by omega) ?_
      refine r_getc (ki := 5) d_50_73 q_50_41 rfl sh_171 fx_171_5 (by omega) ?_
      refine r_aload_n d_50_76 rfl (by omega) ?_
      refine r_getc (ki := 4) d_50_77 q_50_38 rfl sh_171 fx_171_4 (by omega) ?_
      refine r_getc (ki := 4) d_50_80 q_50_100 rfl sh_180 fx_180_4 (by omega) ?_
      refine r_iload_n d_50_83 rfl ?_
      refine r_laloadv d_50_84 sh_182 (by omega) (by omega) (hP5.2.2.1 k (by omega)) ?_
      refine r_callvr d_50_85 q_50_79 rfl rfl (c_takesP he hp5 sh_183 hR hRs hps) (fun M6 hM6 => ?_)
      obtain ⟨hF6, hT6⟩ := hM6
      refine r_iinc d_50_88 rfl (by omega) (stl_4_3 rfl rfl) ?_
      refine r_goto (t := 61) d_50_91 rfl ?_
      refine ih M6 _ (hF5.trans hF6 (fun _ _ q => q) (fun _ _ q => q)) hT6 (addv_sup hRs hps) ?_
      have e1 : P.take (k + 1) = P.take k ++ [P.getD k z0] := by
        rw [List.take_succ, List.getD_eq_getElem?_getD, List.getElem?_eq_getElem (by omega)]
        rfl
      rw [spn_addv hRs, hRe, e1, ← List.append_assoc, spn_app]
theorem c_findsDimensions (he : e ≤ 1) {M : Mo} (hp : M 1 0 = pI e) (hA : AA e M 173 n A) : CV 48 [(2, 171)] M (fun M' => Fr (fun x y => WP 180 x y ∨ x = 172) M M' ∧ ∀ u, nrm e n u → M' 172 u = (sl n A u : Nat)) := by
  have h23 := pI23 he
  have hbb := h23.b
  have h6 := hA.n6
  have h243 := pw_243 he hA.2.1
  have hAf : ∀ M1, Fr (fun x y => WP 180 x y ∨ x = 172) M M1 → AA e M1 173 n A ∧ M1 1 0 = pI e := fun M1 hF => ⟨hA.fr hF (fun x y z1 z2 => by unfold WA at z1; unfold WP at z2; omega), (hF 1 0 (by unfold WP; omega)).trans hp⟩
  refine Cl.intro (L := [(2, 171), (9, 0), (9, 0), (9, 0), (9, 0)]) (rcv_v ow_48.2.1 sh_171) (by unfold entl; rw [mx_48]; rfl) (by rw [mx_48]; exact Nat.le_of_ble_eq_true rfl) rfl ?_
  refine r_aload_n d_48_0 rfl (by omega) ?_
  refine r_getc (ki := 1) d_48_1 q_48_24 rfl sh_171 fx_171_1 (by omega) ?_
  refine r_getfv (ki := 1) d_48_4 q_48_48 rfl sh_173 hA.1 ?_
  refine r_istore_n d_48_7 rfl (stl_5_1 rfl rfl) ?_
  refine r_iconst d_48_8 rfl ?_
  refine r_istore_n d_48_9 rfl (stl_5_2 rfl rfl) ?_
  refine dn_ind (R := fun q => ∀ (M1 : Mo) (y z : AV), Fr (fun x y => WP 180 x y ∨ x = 172) M M1 → (∀ (k : Nat) (u : Int), (k : Int) < q → k < n → pI e ^ k ≤ u → u < 2 * pI e ^ k → M1 172 u = (sl n A u : Nat)) → Rn 48 10 [(2, 171), (0, (n : Int)), (0, q), y, z] [] M1 _) (lo := 0) (n := n) ?_ ?_ 0 (by omega) (by omega) M (9, 0) (9, 0) Fr.refl (fun k u z => by omega)
  · intro M1 y z hF hd
    refine r_iload_n d_48_10 rfl ?_
    refine r_iload_n d_48_11 rfl ?_
    refine r_icmp_ge (t := 105) d_48_12 rfl (fun _ => ?_) (fun hz => absurd (by omega) hz)
    refine r_vret d_48_105 rt_48 ?_
    refine ⟨rfl, hF, fun u hu => ?_⟩
    obtain ⟨k, k1, k2, k3⟩ := hu
    exact hd k u (by omega) k1 k2 k3
  · intro q q1 q2 ih M1 y z hF hd
    obtain ⟨k, rfl⟩ : ∃ k : Nat, q = k := ⟨q.toNat, by omega⟩
    have hpw := c_power M1 (hAf M1 hF).2 h23 (k : Int) (by omega)
    rw [show ((k : Int)).toNat = k by omega] at hpw
    have pk1 := pw_pos h23 k
    have pk2 := pw_le h23 (show k + 1 ≤ n by omega)
    rw [Int.pow_succ] at pk2
    have pk3 : pI e ^ k * 2 ≤ pI e ^ k * pI e := Int.mul_le_mul_of_nonneg_left hbb.1 (by omega)
    refine r_iload_n d_48_10 rfl ?_
    refine r_iload_n d_48_11 rfl ?_
    refine r_icmp_ge (t := 105) d_48_12 rfl (fun hz => absurd hz (by omega)) (fun _ => ?_)
    refine r_aload_n d_48_15 rfl (by omega) ?_
    refine r_getc (ki := 0) d_48_16 q_48_15 rfl sh_171 fx_171_0 (by omega) ?_
    refine r_iload_n d_48_19 rfl ?_
    refine r_callvp d_48_20 q_48_65 rfl rfl hpw ?_
    refine r_istore_n d_48_23 rfl (stl_5_3 rfl rfl) ?_
    refine r_iload_n d_48_24 rfl ?_
    refine r_istore d_48_25 rfl (stl_5_4 rfl rfl) ?_
    refine dn_ind (R := fun u => ∀ (M1 : Mo), Fr (fun x y => WP 180 x y ∨ x = 172) M M1 → (∀ (k' : Nat) (u : Int), (k' : Int) < k → k' < n → pI e ^ k' ≤ u → u < 2 * pI e ^ k' → M1 172 u = (sl n A u : Nat)) → (∀ u' : Int, pI e ^ k ≤ u' → u' < u → M1 172 u' = (sl n A u' : Nat)) → Rn 48 27 [(2, 171), (0, (n : Int)), (0, (k : Int)), (0, pI e ^ k), (0, u)] [] M1 _) (lo := pI e ^ k) (n := 2 * pI e ^ k) ?_ ?_ (pI e ^ k) (by omega) (by omega) M1 hF hd (fun u' z1 z2 => by omega)
    · intro M1 hF hd hd2
      refine r_iload d_48_27 rfl ?_
      refine r_iconst d_48_29 rfl ?_
      refine r_iload_n d_48_30 rfl ?_
      refine r_imul d_48_31 (by omega) ?_
      refine r_icmp_ge (t := 99) d_48_32 rfl (fun _ => ?_) (fun hz => absurd (by omega) hz)
      refine r_iinc d_48_99 rfl (by omega) (stl_5_2 rfl rfl) ?_
      refine r_goto (t := 10) d_48_102 rfl ?_
      refine ih M1 _ _ hF (fun k' u z1 z2 z3 z4 => ?_)
      by_cases hk : k' = k
      · subst hk
        exact hd2 u z3 z4
      · exact hd k' u (by omega) z2 z3 z4
    · intro u u1 u2 ihu M1 hF hd hd2
      obtain ⟨hA1, hp1⟩ := hAf M1 hF
      refine r_iload d_48_27 rfl ?_
      refine r_iconst d_48_29 rfl ?_
      refine r_iload_n d_48_30 rfl ?_
      refine r_imul d_48_31 (by omega) ?_
      refine r_icmp_ge (t := 99) d_48_32 rfl (fun hz => absurd hz (by omega)) (fun _ => ?_)
      refine r_iload d_48_35 rfl ?_
      refine r_sipush d_48_37 rfl ?_
      refine r_icmp_ge (t := 99) d_48_40 rfl (fun hz => absurd hz (by omega)) (fun _ => ?_)
      refine r_aload_n d_48_43 rfl (by omega) ?_
      refine r_getc (ki := 4) d_48_44 q_48_38 rfl sh_171 fx_171_4 (by omega) ?_
      refine r_iload_n d_48_47 rfl ?_
      refine r_callvr d_48_48 q_48_71 rfl rfl (c_sempties (e := e) M1 sh_180 h6) (fun M2 hM2 => ?_)
      obtain ⟨hF2, hT2⟩ := hM2
      have hp2 := WP_p sh_180 hF2 hp1
      refine r_aload_n d_48_51 rfl (by omega) ?_
      refine r_getc (ki := 4) d_48_52 q_48_38 rfl sh_171 fx_171_4 (by omega) ?_
      refine r_aload_n d_48_55 rfl (by omega) ?_
      refine r_getc (ki := 0) d_48_56 q_48_15 rfl sh_171 fx_171_0 (by omega) ?_
      refine r_iload d_48_59 rfl ?_
      refine r_iload_n d_48_61 rfl ?_
      refine r_callvl d_48_62 q_48_75 rfl rfl (c_vector he M2 hp2 (by omega) h6) ?_
      refine r_callvr d_48_65 q_48_79 rfl rfl (c_takesP he hp2 sh_180 hT2 (fun x hx => absurd hx List.not_mem_nil) toV_sup) (fun M3 hM3 => ?_)
      obtain ⟨hF3, hT3⟩ := hM3
      have hp3 := WP_p sh_180 hF3 hp2
      have hA3 := WP_A sh_180 sh_173 hF3 (WP_A sh_180 sh_173 hF2 hA1)
      refine r_aload_n d_48_68 rfl (by omega) ?_
      refine r_getc (ki := 4) d_48_69 q_48_38 rfl sh_171 fx_171_4 (by omega) ?_
      refine r_aload_n d_48_72 rfl (by omega) ?_
      refine r_getc (ki := 1) d_48_73 q_48_24 rfl sh_171 fx_171_1 (by omega) ?_
      refine r_callvr d_48_76 q_48_83 rfl rfl (c_spins he hp3 sh_180 sh_173 hA3 hT3 (addv_sup (fun x hx => absurd hx List.not_mem_nil) toV_sup)) (fun M4 hM4 => ?_)
      obtain ⟨hF4, hT4⟩ := hM4
      rw [← spin_nil] at hT4
      have hd4 : M4 180 2 = (sl n A u : Nat) := hT4.2.1
      have hF24 : Fr (WP 180) M1 M4 := (hF2.trans hF3 (fun _ _ q => q) (fun _ _ q => q)).trans hF4 (fun _ _ q => q) (fun _ _ q => q)
      refine r_aload_n d_48_79 rfl (by omega) ?_
      refine r_getc (ki := 6) d_48_80 q_48_9 rfl sh_171 fx_171_6 (by omega) ?_
      refine r_iload d_48_83 rfl ?_
      refine r_aload_n d_48_85 rfl (by omega) ?_
      refine r_getc (ki := 4) d_48_86 q_48_38 rfl sh_171 fx_171_4 (by omega) ?_
      refine r_getfv (ki := 2) d_48_89 q_48_58 rfl sh_180 hd4 ?_
      refine r_iastore d_48_92 sh_172 (by omega) (by omega) ?_
      refine r_iinc d_48_93 rfl (by omega) (stl_5_4 rfl rfl) ?_
      refine r_goto (t := 27) d_48_96 rfl ?_
      refine ihu _ (fun x y hx => ?_) (fun k' u' z1 z2 z3 z4 => ?_) (fun u' z1 z2 => ?_)
      · rw [uq_ne (Or.inl (fun z => hx (Or.inr z))), hF24 x y (fun z => hx (Or.inl z))]
        exact hF x y hx
      · by_cases z : u' = u
        · rw [z, uq_eq]
        · rw [uq_ne (by omega), hF24 _ _ (by unfold WP; omega)]
          exact hd k' u' z1 z2 z3 z4
      · by_cases z : u' = u
        · rw [z, uq_eq]
        · rw [uq_ne (by omega), hF24 _ _ (by unfold WP; omega)]
          exact hd2 u' z1 (by omega)
theorem c_findsSocle (he : e ≤ 1) {M : Mo} (hp : M 1 0 = pI e) (hA : AA e M 173 n A) (hd : ∀ u, nrm e n u → M 172 u = (sl n A u : Nat)) : CV 49 [(2, 171)] M (fun M' => Fr WSo M M' ∧ ∃ T, ST M' 177 n T ∧ (∀ x ∈ T, sup n x) ∧ ∀ w, spn T w ↔ socS n A w) := by
  have h23 := pI23 he
  have hbb := h23.b
  have h6 := hA.n6
  have h243 := pw_243 he hA.2.1
  have hAf : ∀ M1, Fr WSo M M1 → AA e M1 173 n A ∧ M1 1 0 = pI e ∧ ∀ u, nrm e n u → M1 172 u = (sl n A u : Nat) := fun M1 hF => ⟨hA.fr hF (fun x y z1 z2 => by unfold WA at z1; unfold WSo WP at z2; omega), (hF 1 0 (by unfold WSo WP; omega)).trans hp, fun u hu => (hF _ _ (by unfold WSo WP; omega)).trans (hd u hu)⟩
  refine Cl.intro (L := [(2, 171), (9, 0), (9, 0), (9, 0), (9, 0), (9, 0)]) (rcv_v ow_49.2.1 sh_171) (by unfold entl; rw [mx_49]; rfl) (by rw [mx_49]; exact Nat.le_of_ble_eq_true rfl) rfl ?_
  refine r_aload_n d_49_0 rfl (by omega) ?_
  refine r_getc (ki := 1) d_49_1 q_49_24 rfl sh_171 fx_171_1 (by omega) ?_
  refine r_getfv (ki := 1) d_49_4 q_49_48 rfl sh_173 hA.1 ?_
  refine r_istore_n d_49_7 rfl (stl_6_1 rfl rfl) ?_
  refine r_aload_n d_49_8 rfl (by omega) ?_
  refine r_getc (ki := 3) d_49_9 q_49_34 rfl sh_171 fx_171_3 (by omega) ?_
  refine r_iload_n d_49_12 rfl ?_
  refine r_callvr d_49_13 q_49_71 rfl rfl (c_sempties (e := e) M sh_177 h6) (fun M1 hM1 => ?_)
  obtain ⟨hF1, hT1⟩ := hM1
  refine r_iconst d_49_16 rfl ?_
  refine r_istore_n d_49_17 rfl (stl_6_2 rfl rfl) ?_
  refine dn_ind (R := fun d => ∀ (M1 : Mo) (T : List (Vc e)) (x y z : AV), Fr WSo M M1 → ST M1 177 n T → (∀ x ∈ T, sup n x) → socI n A (spn T) (fun u => (sl n A u : Int) < d) → Rn 49 18 [(2, 171), (0, (n : Int)), (0, d), x, y, z] [] M1 _) (lo := 1) (n := (n : Int) + 1) ?_ ?_ 1 (by omega) (by omega) M1 [] (9, 0) (9, 0) (9, 0) (hF1.mono (fun x y q => Or.inl q)) hT1 (fun x hx => absurd hx List.not_mem_nil) ?_
  · intro M1 T x y z hF hT hTs hI
    refine r_iload_n d_49_18 rfl ?_
    refine r_iload_n d_49_19 rfl ?_
    refine r_icmp_gt (t := 104) d_49_20 rfl (fun _ => ?_) (fun hz => absurd (by omega) hz)
    refine r_vret d_49_104 rt_49 ?_
    refine ⟨rfl, hF, T, hT, hTs, socI_fin he h6 (spn_sub hTs) ⟨hI.1, hI.2.1, fun u hu _ hs => hI.2.2 u hu ?_ hs⟩⟩
    have hr := nrm_rng he hu
    have := sl_pos (A := A) he h6 hr.1 hr.2
    omega
  · intro d d1 d2 ihd M1 T x y z hF hT hTs hI
    refine r_iload_n d_49_18 rfl ?_
    refine r_iload_n d_49_19 rfl ?_
    refine r_icmp_gt (t := 104) d_49_20 rfl (fun hz => absurd hz (by omega)) (fun _ => ?_)
    refine r_iconst d_49_23 rfl ?_
    refine r_istore_n d_49_24 rfl (stl_6_3 rfl rfl) ?_
    refine dn_ind (R := fun q => ∀ (M1 : Mo) (T : List (Vc e)) (y z : AV), Fr WSo M M1 → ST M1 177 n T → (∀ x ∈ T, sup n x) → socI n A (spn T) (fun u => (sl n A u : Int) < d ∨ ((sl n A u : Int) = d ∧ ∃ k : Nat, (k : Int) < q ∧ pI e ^ k ≤ u ∧ u < 2 * pI e ^ k)) → Rn 49 25 [(2, 171), (0, (n : Int)), (0, d), (0, q), y, z] [] M1 _) (lo := 0) (n := n) ?_ ?_ 0 (by omega) (by omega) M1 T y z hF hT hTs ⟨hI.1, hI.2.1, fun u hu hq hs => hI.2.2 u hu (by
      rcases hq with hq | ⟨-, k, hk, -⟩
      · exact hq
      · omega) hs⟩
    · intro M1 T y z hF hT hTs hI
      refine r_iload_n d_49_25 rfl ?_
      refine r_iload_n d_49_26 rfl ?_
      refine r_icmp_ge (t := 98) d_49_27 rfl (fun _ => ?_) (fun hz => absurd (by omega) hz)
      refine r_iinc d_49_98 rfl (by omega) (stl_6_2 rfl rfl) ?_
      refine r_goto (t := 18) d_49_101 rfl ?_
      refine ihd M1 T _ _ _ hF hT hTs ⟨hI.1, hI.2.1, fun u hu hq hs => hI.2.2 u hu ?_ hs⟩
      by_cases hlt : (sl n A u : Int) < d
      · exact Or.inl hlt
      · obtain ⟨k, k1, k2, k3⟩ := hu
        exact Or.inr ⟨by omega, k, by omega, k2, k3⟩
    · intro q q1 q2 ihq M1 T y z hF hT hTs hI
      obtain ⟨k, rfl⟩ : ∃ k : Nat, q = k := ⟨q.toNat, by omega⟩
      have hpw := c_power M1 (hAf M1 hF).2.1 h23 (k : Int) (by omega)
      rw [show ((k : Int)).toNat = k by omega] at hpw
      have pk1 := pw_pos h23 k
      have pk2 := pw_le h23 (show k + 1 ≤ n by omega)
      rw [Int.pow_succ] at pk2
      have pk3 : pI e ^ k * 2 ≤ pI e ^ k * pI e := Int.mul_le_mul_of_nonneg_left hbb.1 (by omega)
      refine r_iload_n d_49_25 rfl ?_
      refine r_iload_n d_49_26 rfl ?_
      refine r_icmp_ge (t := 98) d_49_27 rfl (fun hz => absurd hz (by omega)) (fun _ => ?_)
      refine r_aload_n d_49_30 rfl (by omega) ?_
      refine r_getc (ki := 0) d_49_31 q_49_15 rfl sh_171 fx_171_0 (by omega) ?_
      refine r_iload_n d_49_34 rfl ?_
      refine r_callvp d_49_35 q_49_65 rfl rfl hpw ?_
      refine r_istore d_49_38 rfl (stl_6_4 rfl rfl) ?_
      refine r_iload d_49_40 rfl ?_
      refine r_istore d_49_42 rfl (stl_6_5 rfl rfl) ?_
      refine dn_ind (R := fun u => ∀ (M1 : Mo) (T : List (Vc e)), Fr WSo M M1 → ST M1 177 n T → (∀ x ∈ T, sup n x) → socI n A (spn T) (fun v => (sl n A v : Int) < d ∨ ((sl n A v : Int) = d ∧ ((∃ k' : Nat, (k' : Int) < k ∧ pI e ^ k' ≤ v ∧ v < 2 * pI e ^ k') ∨ (pI e ^ k ≤ v ∧ v < u)))) → Rn 49 44 [(2, 171), (0, (n : Int)), (0, d), (0, (k : Int)), (0, pI e ^ k), (0, u)] [] M1 _) (lo := pI e ^ k) (n := 2 * pI e ^ k) ?_ ?_ (pI e ^ k) (by omega) (by omega) M1 T hF hT hTs ⟨hI.1, hI.2.1, fun u hu hq hs => hI.2.2 u hu (by
        rcases hq with hq | ⟨hq, hq2 | hq2⟩
        · exact Or.inl hq
        · exact Or.inr ⟨hq, hq2⟩
        · omega) hs⟩
      · intro M1 T hF hT hTs hI
        refine r_iload d_49_44 rfl ?_
        refine r_iconst d_49_46 rfl ?_
        refine r_iload d_49_47 rfl ?_
        refine r_imul d_49_49 (by omega) ?_
        refine r_icmp_ge (t := 92) d_49_50 rfl (fun _ => ?_) (fun hz => absurd (by omega) hz)
        refine r_iinc d_49_92 rfl (by omega) (stl_6_3 rfl rfl) ?_
        refine r_goto (t := 25) d_49_95 rfl ?_
        refine ihq M1 T _ _ hF hT hTs ⟨hI.1, hI.2.1, fun u hu hq hs => hI.2.2 u hu ?_ hs⟩
        rcases hq with hq | ⟨hq, k', z1, z2, z3⟩
        · exact Or.inl hq
        · refine Or.inr ⟨hq, ?_⟩
          by_cases hk : k' = k
          · subst hk
            exact Or.inr ⟨z2, z3⟩
          · exact Or.inl ⟨k', by omega, z2, z3⟩
      · intro u u1 u2 ihu M1 T hF hT hTs hI
        obtain ⟨hA1, hp1, hd1⟩ := hAf M1 hF
        have hun : nrm e n u := ⟨k, by omega, u1, u2⟩
        refine r_iload d_49_44 rfl ?_
        refine r_iconst d_49_46 rfl ?_
        refine r_iload d_49_47 rfl ?_
        refine r_imul d_49_49 (by omega) ?_
        refine r_icmp_ge (t := 92) d_49_50 rfl (fun hz => absurd hz (by omega)) (fun _ => ?_)
        refine r_iload d_49_53 rfl ?_
        refine r_sipush d_49_55 rfl ?_
        refine r_icmp_ge (t := 92) d_49_58 rfl (fun hz => absurd hz (by omega)) (fun _ => ?_)
        refine r_aload_n d_49_61 rfl (by omega) ?_
        refine r_getc (ki := 6) d_49_62 q_49_9 rfl sh_171 fx_171_6 (by omega) ?_
        refine r_iload d_49_65 rfl ?_
        refine r_ialoadv d_49_67 sh_172 (by omega) (by omega) (hd1 u hun) ?_
        refine r_iload_n d_49_68 rfl ?_
        refine r_icmp_ne (t := 86) d_49_69 rfl (fun hne => ?_) (fun hne => ?_)
        · refine r_iinc d_49_86 rfl (by omega) (stl_6_5 rfl rfl) ?_
          refine r_goto (t := 44) d_49_89 rfl ?_
          refine ihu M1 T hF hT hTs ⟨hI.1, hI.2.1, fun v hv hq hs => hI.2.2 v hv ?_ hs⟩
          rcases hq with hq | ⟨hq, hq2 | ⟨hq2, hq3⟩⟩
          · exact Or.inl hq
          · exact Or.inr ⟨hq, Or.inl hq2⟩
          · by_cases z : v = u
            · subst z
              omega
            · exact Or.inr ⟨hq, Or.inr ⟨hq2, by omega⟩⟩
        · refine r_aload_n d_49_72 rfl (by omega) ?_
          refine r_aload_n d_49_73 rfl (by omega) ?_
          refine r_getc (ki := 0) d_49_74 q_49_15 rfl sh_171 fx_171_0 (by omega) ?_
          refine r_iload d_49_77 rfl ?_
          refine r_iload_n d_49_79 rfl ?_
          refine r_callvl d_49_80 q_49_75 rfl rfl (c_vector he M1 hp1 (by omega) h6) ?_
          refine r_callvr d_49_83 q_49_86 rfl rfl (c_addsIfSimple he hp1 hA1 hT hTs toV_sup) (fun M2 hM2 => ?_)
          obtain ⟨hF2, T2, hT2, hTs2, hc2⟩ := hM2
          refine r_iinc d_49_86 rfl (by omega) (stl_6_5 rfl rfl) ?_
          refine r_goto (t := 44) d_49_89 rfl ?_
          have hst := socI_step he h6 hTs hI hun (fun u' hu' hlt => Or.inl (by omega)) hc2
          refine ihu M2 T2 (hF.trans hF2 (fun _ _ q => q) (fun _ _ q => q)) hT2 hTs2 ⟨hst.1, hst.2.1, fun v hv hq hs => hst.2.2 v hv ?_ hs⟩
          rcases hq with hq | ⟨hq, hq2 | ⟨hq2, hq3⟩⟩
          · exact Or.inl (Or.inl hq)
          · exact Or.inl (Or.inr ⟨hq, Or.inl hq2⟩)
          · by_cases z : v = u
            · exact Or.inr z
            · exact Or.inl (Or.inr ⟨hq, Or.inr ⟨hq2, by omega⟩⟩)
  · refine ⟨inv_z0, fun x hx => ?_, fun u hu hq hs => ?_⟩
    · have : x = z0 := hx
      rw [this]
      exact (socS_sub he).1
    · have hr := nrm_rng he hu
      have := sl_pos (A := A) he h6 hr.1 hr.2
      omega
end
