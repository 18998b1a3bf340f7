/-! The class: formsPart. -/
section
variable {e n : Nat} {B : Nat → Nat → Nat → Kf e}
def fpI (M : Mo) (b : Int) (n : Nat) (B : Nat → Nat → Nat → Kf e) (w : Int) : Prop := (AA e M b 0 (fun _ _ _ => (0 : Kf e)) ∧ ∀ u, nrm e n u → ¬ u < w) ∨ ∃ Tb v0, AA e M b n Tb ∧ 1 ≤ v0 ∧ v0 < pI e ^ n ∧ (∀ c, c < 2 * (n * n) → sqA n Tb c = sqT n B (toV e n v0) c) ∧ ∀ u, nrm e n u → u < w → 0 ≤ fdx (sqT n B (toV e n u)) (sqA n Tb) (2 * (n * n))
theorem pw_up {p : Int} (h : p23 p) {x : Nat} : ∀ {y : Nat}, x ≤ y → p ^ x ≤ p ^ y
  | 0, hy => by rw [Nat.le_zero.mp hy]; exact Int.le_refl _
  | y + 1, hy => by
    by_cases q : x = y + 1
    · rw [q]
      exact Int.le_refl _
    · have h1 := pw_up h (x := x) (y := y) (by omega)
      have h2 := pw_pos h y
      have h3 := h.b
      have h4 : p ^ y * 1 ≤ p ^ y * p := Int.mul_le_mul_of_nonneg_left (by omega) (by omega)
      rw [Int.pow_succ]
      omega
theorem fdx_self {f : Nat → Int} {N : Nat} : fdx f f N = 0 := fdx_z.mpr (fun _ _ => rfl)
theorem fpI_end (he : e ≤ 1) (hs : smM n B) {M : Mo} {b : Int} (h : fpI M b n B (pI e ^ n)) : ∃ Tb, AA e M b n Tb ∧ canP n B (sqA n Tb) := by
  have h23 := pI23 he
  rcases h with ⟨-, h⟩ | ⟨Tb, v0, h1, h2, h3, h4, h5⟩
  · exfalso
    have h1 : nrm e n 1 := ⟨0, hs.1, by rw [Int.pow_zero]; omega, by rw [Int.pow_zero]; omega⟩
    exact h 1 h1 (nrm_rng he h1).2
  · refine ⟨Tb, h1, ⟨toV e n v0, toV_sup, toV_ne he h2 h3, h4⟩, fun v hv hz => ?_⟩
    obtain ⟨b1, b2, b3⟩ := num_pos he hv hz
    obtain ⟨u, c, u1, u2, u3⟩ := nrm_ex he hs.2.1 b1 b2
    have h6 := h5 u u1 (nrm_rng he u1).2
    rw [b3] at u3
    have e1 : fdx (sqT n B (toV e n u)) (sqA n Tb) (2 * (n * n)) = fdx (sqT n B v) (sqA n Tb) (2 * (n * n)) := fdx_congr (fun c' hc' => ⟨by rw [u3]; exact iso_sqT he (sc_iso he u2) hs hv hz hc', rfl⟩)
    rw [e1] at h6
    exact h6
theorem AA.cp {M M' : Mo} {a b : Int} {A : Nat → Nat → Nat → Kf e} (h : AA e M a n A) (h1 : M' b 1 = M a 1) (h2 : ∀ c : Int, 0 ≤ c → c < 12 → M' (b + 1) c = M (a + 1) c) : AA e M' b n A := ⟨h1.trans h.1, h.2.1, fun g i hg hi => by rw [h2 _ (by omega) (by omega)]; exact h.2.2 g i hg hi⟩
def WFp (a b x y : Int) : Prop := WWf a x y ∨ WA b x y
theorem c_formsPart (he : e ≤ 1) {M : Mo} (hp : M 1 0 = pI e) {a b : Int} (ha : shp S0 a = (1, 8)) (hb : shp S0 b = (0, 3)) (hbne : b ≠ a + 20) (hbne2 : b ≠ a + 18) (hP : AA e M (a + 18) n B) (hs : smM n B) : CV 21 [(2, a), (2, b)] M (fun M' => Fr (WFp a b) M M' ∧ ∃ Tb, AA e M' b n Tb ∧ canP n B (sqA n Tb)) := by
  refine Cl.intro (L := [(2, a), (2, b), (9, 0), (9, 0), (9, 0), (9, 0)]) (rcv_v ow_21.2.1 ha) (by unfold entl; rw [mx_21]; rfl) (by rw [mx_21]; exact Nat.le_of_ble_eq_true rfl) rfl ?_
  have h23 := pI23 he
  have ha0 := shF_pos ha
  have hb0 := shA_pos hb
  have hab := shF_ab ha
  have hn6 := hP.n6
  have hn1 := hs.1
  have h243 := pw_243 he hP.2.1
  have hb1 := (shA_1 hb).1
  have hb2 := (shA_1 hb).2
  have w1 := sh_ne (shA1 hb) (shF20 ha) (by decide)
  have w2 := sh_ne (shA1 hb) (shF22 ha) (by decide)
  have w3 := sh_ne (shA1 hb) (shS1 (shF22 ha)) (by decide)
  have w4 := sh_ne (shA1 hb) (shS2 (shF22 ha)) (by decide)
  have w5 := sh_ne (shA1 hb) (shF18 ha) (by decide)
  have w6 := sh_ne hb (shA1 (shF20 ha)) (by decide)
  have w7 := sh_ne hb (shF22 ha) (by decide)
  have w8 := sh_ne hb (shS1 (shF22 ha)) (by decide)
  have w9 := sh_ne hb (shS2 (shF22 ha)) (by decide)
  have w10 := sh_ne hb (shA1 (shF18 ha)) (by decide)
  have hPf : ∀ M1, Fr (WFp a b) M M1 → AA e M1 (a + 18) n B := fun M1 hF => hP.fr hF (fun x y q1 q2 => by unfold WA at q1; unfold WFp WWf WA WP at q2; omega)
  have hpf : ∀ M1, Fr (WFp a b) M M1 → M1 1 0 = pI e := fun M1 hF => (hF _ _ (by unfold WFp WWf WA WP; omega)).trans hp
  refine r_aload_n d_21_0 rfl (by omega) ?_
  refine r_getc (ki := 5) d_21_1 q_21_35 rfl ha (fxF ha).2.2.2.2.2.1 (by omega) ?_
  refine r_getfv (ki := 1) d_21_4 q_21_52 rfl (shF18 ha) hP.1 ?_
  refine r_istore_n d_21_7 rfl (stl_6_2 rfl rfl) ?_
  refine r_aload_n d_21_8 rfl (by omega) ?_
  refine r_iconst d_21_9 rfl ?_
  refine r_callvr d_21_10 q_21_75 rfl rfl (c_empties M hb) (fun M1 hM1 => ?_)
  obtain ⟨hF1, hs1, hr1⟩ := hM1
  refine r_iconst d_21_13 rfl ?_
  refine r_istore_n d_21_14 rfl (stl_6_3 rfl rfl) ?_
  have hI1 : fpI M1 b n B 1 := Or.inl ⟨⟨hs1, by unfold nb; omega, fun g i hg hi => by
    rw [hr1 _ (by omega) (by omega)]
    have h1 : pv (rv 0 (fun _ _ _ => (0 : Kf e)) g i) = pv (z0 : Vc e) := pv_congr (fun j _ => if_neg (by omega))
    rw [h1, pv_z0]⟩, fun u hu => by have := (nrm_rng he hu).1; omega⟩
  refine dn_ind (R := fun k => ∀ (M2 : Mo) (y4 y5 : AV), Fr (WFp a b) M M2 → fpI M2 b n B (pI e ^ k.toNat) → Rn 21 15 [(2, a), (2, b), (0, (n : Int)), (0, k), y4, y5] [] M2 _) (lo := 0) (n := (n : Int)) ?_ ?_ 0 (by omega) (by omega) M1 (9, 0) (9, 0) (hF1.mono (fun x y q => Or.inr q)) (by
    show fpI M1 b n B (pI e ^ 0)
    rw [Int.pow_zero]
    exact hI1)
  · intro M2 y4 y5 hF2 hI2
    refine r_iload_n d_21_15 rfl ?_
    refine r_iload_n d_21_16 rfl ?_
    refine r_icmp_ge (t := 96) d_21_17 rfl (fun _ => ?_) (fun hz => absurd (by omega) hz)
    refine r_vret d_21_96 rt_21 ?_
    rw [Int.toNat_natCast] at hI2
    exact ⟨rfl, hF2, fpI_end he hs hI2⟩
  · intro k k1 k2 ih M2 y4 y5 hF2 hI2
    have hpk := pw_pos h23 k.toNat
    have hps : pI e ^ (k.toNat + 1) = pI e ^ k.toNat * pI e := Int.pow_succ _ _
    have hpb : 2 ≤ pI e := by have := h23.b; omega
    have hp2 : 2 * pI e ^ k.toNat ≤ pI e ^ (k.toNat + 1) := by
      rw [hps, Int.mul_comm]
      exact Int.mul_le_mul_of_nonneg_left hpb (by omega)
    have hple : pI e ^ (k.toNat + 1) ≤ pI e ^ n := pw_up h23 (by omega)
    have hpw := c_power M2 (hpf M2 hF2) h23 k (by omega)
    refine r_iload_n d_21_15 rfl ?_
    refine r_iload_n d_21_16 rfl ?_
    refine r_icmp_ge (t := 96) d_21_17 rfl (fun hz => absurd hz (by omega)) (fun _ => ?_)
    refine r_aload_n d_21_20 rfl (by omega) ?_
    refine r_getc (ki := 0) d_21_21 q_21_21 rfl ha (fxF ha).1 (by omega) ?_
    refine r_iload_n d_21_24 rfl ?_
    refine r_callvp d_21_25 q_21_79 rfl rfl hpw ?_
    refine r_istore d_21_28 rfl (stl_6_4 rfl rfl) ?_
    refine r_iload d_21_30 rfl ?_
    refine r_istore d_21_32 rfl (stl_6_5 rfl rfl) ?_
    refine dn_ind (R := fun u => ∀ (M3 : Mo), Fr (WFp a b) M M3 → fpI M3 b n B u → Rn 21 34 [(2, a), (2, b), (0, (n : Int)), (0, k), (0, pI e ^ k.toNat), (0, u)] [] M3 _) (lo := pI e ^ k.toNat) (n := 2 * pI e ^ k.toNat) ?_ ?_ (pI e ^ k.toNat) (by omega) (by omega) M2 hF2 hI2
    · intro M3 hF3 hI3
      refine r_iload d_21_34 rfl ?_
      refine r_iconst d_21_36 rfl ?_
      refine r_iload d_21_37 rfl ?_
      refine r_imul d_21_39 (by omega) ?_
      refine r_icmp_ge (t := 90) d_21_40 rfl (fun _ => ?_) (fun hz => absurd (by omega) hz)
      refine r_iinc d_21_90 rfl (by omega) (stl_6_3 rfl rfl) ?_
      refine r_goto (t := 15) d_21_93 rfl ?_
      refine ih M3 _ _ hF3 ?_
      rw [show (k + 1).toNat = k.toNat + 1 by omega]
      have hgap : ∀ u, nrm e n u → u < pI e ^ (k.toNat + 1) → u < 2 * pI e ^ k.toNat := fun u ⟨j, j1, j2, j3⟩ hu => by
        by_cases q : j ≤ k.toNat
        · have : pI e ^ j ≤ pI e ^ k.toNat := pw_up h23 q
          omega
        · have : pI e ^ (k.toNat + 1) ≤ pI e ^ j := pw_up h23 (by omega)
          omega
      rcases hI3 with ⟨i1, i2⟩ | ⟨Tb, v0, i1, i2, i3, i4, i5⟩
      · exact Or.inl ⟨i1, fun u hu hlt => i2 u hu (hgap u hu hlt)⟩
      · exact Or.inr ⟨Tb, v0, i1, i2, i3, i4, fun u hu hlt => i5 u hu (hgap u hu hlt)⟩
    · intro u u1 u2 ihu M3 hF3 hI3
      have hun : u < pI e ^ n := by omega
      have hvec := c_vector he M3 (hpf M3 hF3) (v := u) (by omega) hn6
      have hvz : toV e n u ≠ z0 := toV_ne he (by omega) hun
      refine r_iload d_21_34 rfl ?_
      refine r_iconst d_21_36 rfl ?_
      refine r_iload d_21_37 rfl ?_
      refine r_imul d_21_39 (by omega) ?_
      refine r_icmp_ge (t := 90) d_21_40 rfl (fun hz => absurd hz (by omega)) (fun _ => ?_)
      refine r_aload_n d_21_43 rfl (by omega) ?_
      refine r_aload_n d_21_44 rfl (by omega) ?_
      refine r_getc (ki := 0) d_21_45 q_21_21 rfl ha (fxF ha).1 (by omega) ?_
      refine r_iload d_21_48 rfl ?_
      refine r_iload_n d_21_50 rfl ?_
      refine r_callvl d_21_51 q_21_85 rfl rfl hvec ?_
      refine r_aload_n d_21_54 rfl (by omega) ?_
      rcases hI3 with ⟨i1, i2⟩ | ⟨Tb, v0, i1, i2, i3, i4, i5⟩
      · refine r_callvr d_21_55 q_21_89 rfl rfl (c_writesFrom he (hpf M3 hF3) ha hb hbne (hPf M3 hF3) hs (toV_sup (e := e) (n := n) (v := u)) hvz i1 (Or.inl rfl)) (fun M4 hM4 => ?_)
        obtain ⟨hF4, Tm, t1, t2⟩ := hM4
        have hfull : ∀ c, c < 2 * (n * n) → sqA n Tm c = sqT n B (toV e n u) c := by
          rcases t2 with t2 | ⟨t2, -⟩
          · exact t2
          · omega
        have hbs : M4 b 1 = 0 := (hF4 _ _ (by unfold WWf WA WP; omega)).trans i1.1
        refine r_aload_n d_21_58 rfl (by omega) ?_
        refine r_getfv (ki := 1) d_21_59 q_21_52 rfl hb hbs ?_
        refine r_if_eq (t := 76) d_21_62 rfl (fun _ => ?_) (fun hz => absurd rfl hz)
        refine r_aload_n d_21_76 rfl (by omega) ?_
        refine r_aload_n d_21_77 rfl (by omega) ?_
        refine r_getc (ki := 6) d_21_78 q_21_38 rfl ha (fxF ha).2.2.2.2.2.2.1 (by omega) ?_
        refine r_callvr d_21_81 q_21_48 rfl rfl (c_copies M4 hb (shF20 ha)) (fun M5 hM5 => ?_)
        obtain ⟨hF5, e5, r5⟩ := hM5
        refine r_iinc d_21_84 rfl (by omega) (stl_6_5 rfl rfl) ?_
        refine r_goto (t := 34) d_21_87 rfl ?_
        refine ihu M5 ((hF3.trans hF4 (fun x y q => q) (fun x y q => Or.inl q)).trans hF5 (fun x y q => q) (fun x y q => Or.inr q)) (Or.inr ⟨Tm, u, t1.cp e5 r5, by omega, hun, hfull, fun u' hu' hlt => ?_⟩)
        have hq : u' = u := by
          have := i2 u' hu'
          omega
        rw [hq, fdx_congr (f' := sqT n B (toV e n u)) (g' := sqT n B (toV e n u)) (fun c hc => ⟨rfl, hfull c hc⟩), fdx_self]
        exact Int.le_refl 0
      · refine r_callvr d_21_55 q_21_89 rfl rfl (c_writesFrom he (hpf M3 hF3) ha hb hbne (hPf M3 hF3) hs (toV_sup (e := e) (n := n) (v := u)) hvz i1 (Or.inr rfl)) (fun M4 hM4 => ?_)
        obtain ⟨hF4, Tm, t1, t2⟩ := hM4
        have hbA : AA e M4 b n Tb := i1.fr hF4 (fun x y q1 q2 => by unfold WA at q1; unfold WWf WA WP at q2; omega)
        have hcmp := c_compares he (shF20 ha) hb t1 hbA
        have hcT : cmpT n n (sqA n Tm) (sqA n Tb) = fdx (sqA n Tm) (sqA n Tb) (2 * (n * n)) := if_pos rfl
        rw [hcT] at hcmp
        have hF14 : Fr (WFp a b) M M4 := hF3.trans hF4 (fun x y q => q) (fun x y q => Or.inl q)
        refine r_aload_n d_21_58 rfl (by omega) ?_
        refine r_getfv (ki := 1) d_21_59 q_21_52 rfl hb hbA.1 ?_
        refine r_if_eq (t := 76) d_21_62 rfl (fun hz => absurd hz (by omega)) (fun _ => ?_)
        refine r_aload_n d_21_65 rfl (by omega) ?_
        refine r_getc (ki := 6) d_21_66 q_21_38 rfl ha (fxF ha).2.2.2.2.2.2.1 (by omega) ?_
        refine r_aload_n d_21_69 rfl (by omega) ?_
        refine r_callvp d_21_70 q_21_71 rfl rfl hcmp ?_
        by_cases hlt : fdx (sqA n Tm) (sqA n Tb) (2 * (n * n)) < 0
        · have hfull : ∀ c, c < 2 * (n * n) → sqA n Tm c = sqT n B (toV e n u) c := by
            rcases t2 with t2 | ⟨-, t2, -⟩
            · exact t2
            · omega
          have hsg : sgn (fdx (sqA n Tm) (sqA n Tb) (2 * (n * n))) = -1 := if_pos hlt
          rw [hsg]
          refine r_if_ge (t := 84) d_21_73 rfl (fun hz => absurd hz (by decide)) (fun _ => ?_)
          refine r_aload_n d_21_76 rfl (by omega) ?_
          refine r_aload_n d_21_77 rfl (by omega) ?_
          refine r_getc (ki := 6) d_21_78 q_21_38 rfl ha (fxF ha).2.2.2.2.2.2.1 (by omega) ?_
          refine r_callvr d_21_81 q_21_48 rfl rfl (c_copies M4 hb (shF20 ha)) (fun M5 hM5 => ?_)
          obtain ⟨hF5, e5, r5⟩ := hM5
          refine r_iinc d_21_84 rfl (by omega) (stl_6_5 rfl rfl) ?_
          refine r_goto (t := 34) d_21_87 rfl ?_
          refine ihu M5 (hF14.trans hF5 (fun x y q => q) (fun x y q => Or.inr q)) (Or.inr ⟨Tm, u, t1.cp e5 r5, by omega, hun, hfull, fun u' hu' hlt' => ?_⟩)
          by_cases hq : u' = u
          · rw [hq, fdx_congr (f' := sqT n B (toV e n u)) (g' := sqT n B (toV e n u)) (fun c hc => ⟨rfl, hfull c hc⟩), fdx_self]
            exact Int.le_refl 0
          · have h1 := i5 u' hu' (by omega)
            have h2 := fdx_neg (f := sqA n Tm) (g := sqA n Tb) (N := 2 * (n * n))
            exact (fdx_trans h1 (by omega)).1
        · have hsg : 0 ≤ sgn (fdx (sqA n Tm) (sqA n Tb) (2 * (n * n))) := by
            unfold sgn
            rw [if_neg hlt]
            split <;> omega
          refine r_if_ge (t := 84) d_21_73 rfl (fun _ => ?_) (fun hz => absurd hsg hz)
          refine r_iinc d_21_84 rfl (by omega) (stl_6_5 rfl rfl) ?_
          refine r_goto (t := 34) d_21_87 rfl ?_
          refine ihu M4 hF14 (Or.inr ⟨Tb, v0, hbA, i2, i3, i4, fun u' hu' hlt' => ?_⟩)
          by_cases hq : u' = u
          · rw [hq]
            rcases t2 with t2 | ⟨-, -, t2⟩
            · rw [fdx_congr (f' := sqA n Tm) (g' := sqA n Tb) (fun c hc => ⟨(t2 c hc).symm, rfl⟩)]
              omega
            · omega
          · exact i5 u' hu' (by omega)
end
