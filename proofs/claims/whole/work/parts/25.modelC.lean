/-! The model: joins. -/
/-- the set of a space's vectors in an array -/
def hs {e : Nat} (n : Nat) (h : Int → Int) (S : Vc e → Prop) : Prop := ∀ w, sup n w → (S w → h (num n w) = 1) ∧ (¬ S w → h (num n w) = 0)
def mk2 {e : Nat} (n : Nat) (S : Vc e → Prop) (x : Vc e) (i j : Int) (w : Vc e) : Prop := ∃ u c, S u ∧ c ≠ 0 ∧ w = lc u c x ∧ (num n u < i ∨ num n u = i ∧ vl c < j)
def J2 {e : Nat} (n : Nat) (h : Int → Int) (S : Vc e → Prop) (x : Vc e) (i j : Int) : Prop := ∀ w, sup n w → (S w → h (num n w) = 1) ∧ (¬ S w → mk2 n S x i j w → h (num n w) = 2) ∧ (¬ S w → ¬ mk2 n S x i j w → h (num n w) = 0)
theorem J2.next {e n : Nat} {h : Int → Int} {S : Vc e → Prop} {x : Vc e} {i j i2 j2 : Int} (hJ : J2 n h S x i j) (hm : ∀ w, mk2 n S x i j w ↔ mk2 n S x i2 j2 w) : J2 n h S x i2 j2 := by
  intro w hw
  obtain ⟨h1, h2, h3⟩ := hJ w hw
  exact ⟨h1, fun a b => h2 a ((hm w).mpr b), fun a b => h3 a (fun q => b ((hm w).mp q))⟩
theorem m_joins {e : Nat} (he : e ≤ 1) (M : Mo) (hp : M 217 1 = pI e) {n : Nat} (hn : nb e n) {d : Int} {h t w : Int → Int} (hd : 0 ≤ d ∧ d ≤ 5) {S : Vc e → Prop} (hS : Sub n S) {x : Vc e} (hx : sup n x) (hxS : ¬ S x) (hh : hs n h S) : CV 142 [(2, 217), (0, num n x), (0, (n : Int))] (MS M d h t w) (fun M' => ∃ h', M' = MS M (d + 1) h' (u1 t d (num n x)) w ∧ hs n h' (ext S x)) := by
  refine Cl.intro (L := [(2, 217), (0, num n x), (0, (n : Int)), (9, 0), (9, 0), (9, 0)]) (rcv_v ow_142.2.1 sh_217) (by unfold entl; rw [mx_142]; rfl) (by rw [mx_142]; exact Nat.le_of_ble_eq_true rfl) rfl ?_
  have hp2 : ∀ d h t w, MS M d h t w 217 1 = pI e := fun d h t w => by rw [MS_217 (by decide)]; exact hp
  have h23 := pI23 he
  have hb := h23.b
  have hn6 : n ≤ 6 := by unfold nb at hn; omega
  have h243 := pw_243 he hn
  have hp1 := pw_pos h23 n
  have hxr := num_rng he n x
  refine r_aload_n d_142_0 rfl (by omega) ?_
  refine r_iload_n d_142_1 rfl ?_
  refine r_callvp d_142_2 q_142_110 rfl rfl (by have := m_power (MS M d h t w) (hp2 _ _ _ _) h23 (n : Int) (by omega); rw [Int.toNat_natCast] at this; exact this) ?_
  refine r_istore_n d_142_5 rfl (stl_6_3 rfl rfl) ?_
  refine r_iconst d_142_6 rfl ?_
  refine r_istore d_142_7 rfl (stl_6_4 rfl rfl) ?_
  generalize hall : pI e ^ n = all at *
  refine dn_ind (R := fun i => ∀ h y, J2 n h S x i 0 → Rn 142 9 [(2, 217), (0, num n x), (0, (n : Int)), (0, all), (0, i), y] [] (MS M d h t w) _) (lo := 0) (n := all) ?_ ?_ 0 (by omega) (by omega) h (9, 0) ?_
  · intro h y hJ
    refine r_iload d_142_9 rfl ?_
    refine r_iload_n d_142_11 rfl ?_
    refine r_icmp_ge (t := 65) d_142_12 rfl (fun _ => ?_) (fun hz => absurd (by omega) hz)
    refine r_iconst d_142_65 rfl ?_
    refine r_istore d_142_66 rfl (stl_6_4 rfl rfl) ?_
    -- the second loop
    refine dn_ind (R := fun i => ∀ h, (∀ w, sup n w → (num n w < i → (ext S x w → h (num n w) = 1) ∧ (¬ ext S x w → h (num n w) = 0)) ∧ (i ≤ num n w → (S w → h (num n w) = 1) ∧ (¬ S w → ext S x w → h (num n w) = 2) ∧ (¬ ext S x w → h (num n w) = 0))) → Rn 142 68 [(2, 217), (0, num n x), (0, (n : Int)), (0, all), (0, i), y] [] (MS M d h t w) _) (lo := 0) (n := all) ?_ ?_ 0 (by omega) (by omega) h ?_
    · intro h hI
      refine r_iload d_142_68 rfl ?_
      refine r_iload_n d_142_70 rfl ?_
      refine r_icmp_ge (t := 109) d_142_71 rfl (fun _ => ?_) (fun hz => absurd (by omega) hz)
      refine r_aload_n d_142_109 rfl (by omega) ?_
      refine r_getc (ki := 8) d_142_110 q_142_32 rfl sh_217 fx_217_8 (by omega) ?_
      refine r_aload_n d_142_113 rfl (by omega) ?_
      refine r_getfv (ki := 7) d_142_114 q_142_122 rfl sh_217 MS_d ?_
      refine r_iload_n d_142_117 rfl ?_
      refine r_iastore d_142_118 sh_223 (by omega) (by omega) ?_
      rw [MS_ut]
      refine r_aload_n d_142_119 rfl (by omega) ?_
      refine r_dup d_142_120 rfl ?_
      refine r_getfv (ki := 7) d_142_121 q_142_122 rfl sh_217 MS_d ?_
      refine r_iconst d_142_124 rfl ?_
      refine r_iadd d_142_125 (by omega) ?_
      refine r_putf (ki := 7) d_142_126 q_142_122 rfl sh_217 fx_217_7 ?_
      rw [MS_ud]
      refine r_vret d_142_129 rt_142 ?_
      refine ⟨rfl, h, rfl, fun w hw => ?_⟩
      have hr := num_rng he n w
      rw [hall] at hr
      exact (hI w hw).1 hr.2
    · intro i i1 i2 ih h hI
      have hu : num n (toV e n i) = i := num_toV he i1 (by rw [hall]; exact i2)
      have hus : sup n (toV e n i) := toV_sup
      have hIu := (hI _ hus).2 (by rw [hu]; exact Int.le_refl i)
      rw [hu] at hIu
      have step : ∀ h2 : Int → Int, (∀ v, v ≠ i → h2 v = h v) → ((ext S x (toV e n i) → h2 i = 1) ∧ (¬ ext S x (toV e n i) → h2 i = 0)) → ∀ w, sup n w → (num n w < i + 1 → (ext S x w → h2 (num n w) = 1) ∧ (¬ ext S x w → h2 (num n w) = 0)) ∧ (i + 1 ≤ num n w → (S w → h2 (num n w) = 1) ∧ (¬ S w → ext S x w → h2 (num n w) = 2) ∧ (¬ ext S x w → h2 (num n w) = 0)) := by
        intro h2 ho hi v hv
        refine ⟨fun hlt => ?_, fun hge => ?_⟩
        · by_cases e1 : num n v = i
          · have : v = toV e n i := num_inj2 he hv hus (by rw [hu]; exact e1)
            rw [e1, this]
            exact hi
          · rw [ho _ e1]
            exact (hI v hv).1 (by omega)
        · rw [ho _ (by omega)]
          exact (hI v hv).2 (by omega)
      refine r_iload d_142_68 rfl ?_
      refine r_iload_n d_142_70 rfl ?_
      refine r_icmp_ge (t := 109) d_142_71 rfl (fun hz => absurd hz (by omega)) (fun _ => ?_)
      refine r_aload_n d_142_74 rfl (by omega) ?_
      refine r_getc (ki := 6) d_142_75 q_142_29 rfl sh_217 fx_217_6 (by omega) ?_
      refine r_iload d_142_78 rfl ?_
      refine r_aload_n d_142_80 rfl (by omega) ?_
      refine r_getc (ki := 6) d_142_81 q_142_29 rfl sh_217 fx_217_6 (by omega) ?_
      refine r_iload d_142_84 rfl ?_
      refine r_ialoadv d_142_86 sh_222 (by omega) (by omega) MS_h ?_
      refine r_iconst d_142_87 rfl ?_
      refine r_icmp_ne (t := 95) d_142_88 rfl (fun hq => ?_) (fun hq => ?_)
      · refine r_aload_n d_142_95 rfl (by omega) ?_
        refine r_getc (ki := 6) d_142_96 q_142_29 rfl sh_217 fx_217_6 (by omega) ?_
        refine r_iload d_142_99 rfl ?_
        refine r_ialoadv d_142_101 sh_222 (by omega) (by omega) MS_h ?_
        refine r_iastore d_142_102 sh_222 (by omega) (by omega) ?_
        rw [MS_uh]
        refine r_iinc d_142_103 rfl (by omega) (stl_6_4 rfl rfl) ?_
        refine r_goto (t := 68) d_142_106 rfl ?_
        refine ih _ (step _ (fun v hv => u1_ne _ _ hv) ?_)
        rw [u1_eq]
        refine ⟨fun q => ?_, hIu.2.2⟩
        by_cases hSu : S (toV e n i)
        · exact hIu.1 hSu
        · exact absurd (hIu.2.1 hSu q) hq
      · refine r_iconst d_142_91 rfl ?_
        refine r_goto (t := 102) d_142_92 rfl ?_
        refine r_iastore d_142_102 sh_222 (by omega) (by omega) ?_
        rw [MS_uh]
        refine r_iinc d_142_103 rfl (by omega) (stl_6_4 rfl rfl) ?_
        refine r_goto (t := 68) d_142_106 rfl ?_
        refine ih _ (step _ (fun v hv => u1_ne _ _ hv) ?_)
        rw [u1_eq]
        refine ⟨fun _ => rfl, fun q => ?_⟩
        have := hIu.2.2 q
        omega
    · intro v hv
      have hr := num_rng he n v
      obtain ⟨g1, g2, g3⟩ := hJ v hv
      refine ⟨fun q => by omega, fun _ => ⟨g1, fun a b => g2 a ?_, fun b => g3 (fun q => b (ext_old q)) (fun q => b ?_)⟩⟩
      · rcases (ext_iff he).mp b with q | ⟨u, c, hu, hc, rfl⟩
        · exact absurd q a
        · have hru := num_rng he n u
          rw [hall] at hru
          exact ⟨u, c, hu, hc, rfl, Or.inl hru.2⟩
      · obtain ⟨u, c, hu, hc, rfl, -⟩ := q
        exact (ext_iff he).mpr (Or.inr ⟨u, c, hu, hc, rfl⟩)
  · intro i i1 i2 ih h y hJ
    have hu : num n (toV e n i) = i := num_toV he i1 (by rw [hall]; exact i2)
    have hus : sup n (toV e n i) := toV_sup
    have uniq : ∀ u, S u → num n u = i → u = toV e n i := fun u hSu hnu => num_inj2 he (hS.2.2 u hSu) hus (by rw [hu]; exact hnu)
    have hih : ∀ h j, J2 n h S x i j → (pI e ≤ j ∨ ¬ S (toV e n i)) → J2 n h S x (i + 1) 0 := by
      intro h j hJ hor
      refine hJ.next (fun v => ⟨?_, ?_⟩)
      · rintro ⟨u, c, h1, h2, h3, h4⟩
        refine ⟨u, c, h1, h2, h3, Or.inl ?_⟩
        omega
      · rintro ⟨u, c, h1, h2, h3, h4⟩
        refine ⟨u, c, h1, h2, h3, ?_⟩
        have hc := vl_rng c
        rcases h4 with h4 | h4
        · by_cases e1 : num n u = i
          · right
            refine ⟨e1, ?_⟩
            rcases hor with hor | hor
            · omega
            · have := uniq u h1 e1
              rw [this] at h1
              exact absurd h1 hor
          · left
            omega
        · omega
    refine r_iload d_142_9 rfl ?_
    refine r_iload_n d_142_11 rfl ?_
    refine r_icmp_ge (t := 65) d_142_12 rfl (fun hz => absurd hz (by omega)) (fun _ => ?_)
    refine r_iconst d_142_15 rfl ?_
    refine r_istore d_142_16 rfl (stl_6_5 rfl rfl) ?_
    refine dn_ind (R := fun j => ∀ h, J2 n h S x i j → Rn 142 18 [(2, 217), (0, num n x), (0, (n : Int)), (0, all), (0, i), (0, j)] [] (MS M d h t w) _) (lo := 1) (n := pI e) ?_ ?_ 1 (by omega) (by omega) h ?_
    · intro h hJ
      refine r_iload d_142_18 rfl ?_
      refine r_aload_n d_142_20 rfl (by omega) ?_
      refine r_getfv (ki := 1) d_142_21 q_142_13 rfl sh_217 (hp2 _ _ _ _) ?_
      refine r_icmp_ge (t := 59) d_142_24 rfl (fun _ => ?_) (fun hz => absurd (by omega) hz)
      refine r_iinc d_142_59 rfl (by omega) (stl_6_4 rfl rfl) ?_
      refine r_goto (t := 9) d_142_62 rfl ?_
      exact ih _ _ (hih h _ hJ (Or.inl (Int.le_refl _)))
    · intro j j1 j2 ih2 h hJ
      have hJu := hJ _ hus
      rw [hu] at hJu
      refine r_iload d_142_18 rfl ?_
      refine r_aload_n d_142_20 rfl (by omega) ?_
      refine r_getfv (ki := 1) d_142_21 q_142_13 rfl sh_217 (hp2 _ _ _ _) ?_
      refine r_icmp_ge (t := 59) d_142_24 rfl (fun hz => absurd hz (by omega)) (fun _ => ?_)
      refine r_aload_n d_142_27 rfl (by omega) ?_
      refine r_getc (ki := 6) d_142_28 q_142_29 rfl sh_217 fx_217_6 (by omega) ?_
      refine r_iload d_142_31 rfl ?_
      refine r_ialoadv d_142_33 sh_222 (by omega) (by omega) MS_h ?_
      refine r_iconst d_142_34 rfl ?_
      refine r_icmp_ne (t := 59) d_142_35 rfl (fun hq => ?_) (fun hq => ?_)
      · refine r_iinc d_142_59 rfl (by omega) (stl_6_4 rfl rfl) ?_
        refine r_goto (t := 9) d_142_62 rfl ?_
        refine ih _ _ (hih h j hJ (Or.inr (fun q => hq (hJu.1 q))))
      · have hSu : S (toV e n i) := by
          apply Classical.byContradiction
          intro q
          by_cases hmk : mk2 n S x i j (toV e n i)
          · have := hJu.2.1 q hmk
            omega
          · have := hJu.2.2 q hmk
            omega
        have hpl := m_plusK he (MS M d h t w) (hp2 _ _ _ _) hn hus hx (c := j) (by omega)
        rw [hu] at hpl
        have hkj : vl (kI e j) = j := by rw [vl_kI]; exact Int.emod_eq_of_lt (by omega) j2
        have hkn : kI e j ≠ 0 := fun q => by rw [q, vl_0] at hkj; omega
        have hls : sup n (lc (toV e n i) (kI e j) x) := sup_lc hus hx
        have hlr := num_rng he n (lc (toV e n i) (kI e j) x)
        have hlS : ¬ S (lc (toV e n i) (kI e j) x) := lc_not he hS hxS hSu hkn
        refine r_aload_n d_142_38 rfl (by omega) ?_
        refine r_getc (ki := 6) d_142_39 q_142_29 rfl sh_217 fx_217_6 (by omega) ?_
        refine r_aload_n d_142_42 rfl (by omega) ?_
        refine r_iload d_142_43 rfl ?_
        refine r_iload_n d_142_45 rfl ?_
        refine r_iload d_142_46 rfl ?_
        refine r_callvp d_142_48 q_142_125 rfl rfl hpl ?_
        refine r_iconst d_142_51 rfl ?_
        refine r_iastore d_142_52 sh_222 (by omega) (by omega) ?_
        rw [MS_uh]
        refine r_iinc d_142_53 rfl (by omega) (stl_6_5 rfl rfl) ?_
        refine r_goto (t := 18) d_142_56 rfl ?_
        refine ih2 _ (fun v hv => ?_)
        obtain ⟨g1, g2, g3⟩ := hJ v hv
        by_cases e1 : num n v = num n (lc (toV e n i) (kI e j) x)
        · have e2 : v = lc (toV e n i) (kI e j) x := num_inj2 he hv hls e1
          subst e2
          rw [u1_eq]
          exact ⟨fun q => absurd q hlS, fun _ _ => rfl, fun _ q => absurd ⟨toV e n i, kI e j, hSu, hkn, rfl, Or.inr ⟨hu, by omega⟩⟩ q⟩
        · rw [u1_ne _ _ e1]
          refine ⟨g1, fun a b => g2 a ?_, fun a b => g3 a (fun q => b ?_)⟩
          · obtain ⟨u, c, h1, h2, h3, h4⟩ := b
            refine ⟨u, c, h1, h2, h3, ?_⟩
            rcases h4 with h4 | ⟨h4, h5⟩
            · exact Or.inl h4
            · right
              refine ⟨h4, ?_⟩
              by_cases e3 : vl c = j
              · exfalso
                apply e1
                have e4 : c = kI e j := vl_inj (by rw [hkj]; exact e3)
                rw [h3, uniq u h1 h4, e4]
              · omega
          · obtain ⟨u, c, h1, h2, h3, h4⟩ := q
            exact ⟨u, c, h1, h2, h3, by omega⟩
    · refine hJ.next (fun v => ⟨?_, ?_⟩)
      · rintro ⟨u, c, h1, h2, h3, h4⟩
        exact ⟨u, c, h1, h2, h3, by omega⟩
      · rintro ⟨u, c, h1, h2, h3, h4⟩
        refine ⟨u, c, h1, h2, h3, ?_⟩
        have hc := vl_rng c
        have hc0 : vl c ≠ 0 := fun q => h2 (vl_eq0.mp q)
        omega
  · intro v hv
    obtain ⟨g1, g2⟩ := hh v hv
    refine ⟨g1, fun a b => ?_, fun a _ => g2 a⟩
    obtain ⟨u, c, h1, h2, h3, h4⟩ := b
    have hru := num_rng he n u
    have hc := vl_rng c
    omega
