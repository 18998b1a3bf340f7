/-! The model: findsCodes, tries, tellsPiece. -/
section
variable {e n : Nat}
def pcm (T : List (Vc e)) (c : Vc e) (j : Nat) : Vc e := fun i => sK (fun k => c k * T.getD k z0 i) j
theorem pcm_s {T : List (Vc e)} {c : Vc e} {j : Nat} : pcm T c (j + 1) = lc (pcm T c j) (c j) (T.getD j z0) := rfl
theorem pcm_sup {T : List (Vc e)} (hT : ∀ x ∈ T, sup n x) {c : Vc e} : ∀ {j : Nat}, sup n (pcm T c j)
  | 0 => sup_z0
  | j + 1 => by
    rw [pcm_s]
    exact sup_lc (pcm_sup hT) (mem_sup hT j)
theorem m_findsCodes (he : e ≤ 1) (M : Mo) (hp : M 217 1 = pI e) (hn : nb e n) {T : List (Vc e)} (hG : Good n T) (hl : T.length = n) (ht : tk n (M 223) T) : CV 172 [(2, 217), (0, (n : Int))] M (fun M' => Fr (fun x _ => x = 233) M M' ∧ ∀ w, sup n w → M' 233 (num n w) = num n (cod T w)) := by
  have hfull : ∀ w, sup n w → spn T w := dm_all he hG.sub (SI_all (A := fun _ _ _ => 0)).1 (fun w hw => hG.sub.2.2 w hw) (by rw [dm_sup he, hG.2, hl]; exact Nat.le_refl _)
  refine Cl.intro (L := [(2, 217), (0, (n : Int)), (9, 0), (9, 0), (9, 0), (9, 0)]) (rcv_v ow_172.2.1 sh_217) (by unfold entl; rw [mx_172]; rfl) (by rw [mx_172]; exact Nat.le_of_ble_eq_true rfl) rfl ?_
  have h23 := pI23 he
  have hn6 : n ≤ 6 := by unfold nb at hn; omega
  have h243 := pw_243 he hn
  have hp1 := pw_pos h23 n
  refine r_aload_n d_172_0 rfl (by omega) ?_
  refine r_iload_n d_172_1 rfl ?_
  refine r_callvp d_172_2 q_172_110 rfl rfl (by have := m_power M hp h23 (n : Int) (by omega); rw [Int.toNat_natCast] at this; exact this) ?_
  refine r_istore_n d_172_5 rfl (stl_6_2 rfl rfl) ?_
  refine r_iconst d_172_6 rfl ?_
  refine r_istore_n d_172_7 rfl (stl_6_3 rfl rfl) ?_
  refine dn_ind (R := fun v => ∀ (M1 : Mo) (y4 y5 : AV), Fr (fun x _ => x = 233) M M1 → (∀ u : Int, 0 ≤ u → u < v → M1 233 (num n (cmb T (toV e n u))) = u) → Rn 172 8 [(2, 217), (0, (n : Int)), (0, pI e ^ n), (0, v), y4, y5] [] M1 _) (lo := 0) (n := pI e ^ n) ?_ ?_ 0 (by omega) (by omega) M (9, 0) (9, 0) Fr.refl (fun u h1 h2 => by omega)
  · intro M1 y4 y5 hF hu
    refine r_iload_n d_172_8 rfl ?_
    refine r_iload_n d_172_9 rfl ?_
    refine r_icmp_ge (t := 67) d_172_10 rfl (fun _ => ?_) (fun hz => absurd (by omega) hz)
    refine r_vret d_172_67 rt_172 ?_
    refine ⟨rfl, hF, fun w hw => ?_⟩
    obtain ⟨c1, c2⟩ := cod_spec (hfull w hw)
    rw [hl] at c1
    have h1 := num_rng he n (cod T w)
    have h2 := hu (num n (cod T w)) h1.1 h1.2
    rw [toV_num he c1, c2] at h2
    exact h2
  · intro v v1 v2 ih M1 y4 y5 hF hu
    have hp1' : M1 217 1 = pI e := (hF _ _ (by omega)).trans hp
    have ht1 : ∀ j : Nat, j < n → M1 223 j = num n (T.getD j z0) := fun j hj => (hF _ _ (by omega)).trans (ht j (by omega))
    refine r_iload_n d_172_8 rfl ?_
    refine r_iload_n d_172_9 rfl ?_
    refine r_icmp_ge (t := 67) d_172_10 rfl (fun hz => absurd hz (by omega)) (fun _ => ?_)
    refine r_iconst d_172_13 rfl ?_
    refine r_istore d_172_14 rfl (stl_6_4 rfl rfl) ?_
    refine r_iconst d_172_16 rfl ?_
    refine r_istore d_172_17 rfl (stl_6_5 rfl rfl) ?_
    refine dn_ind (R := fun j => Rn 172 19 [(2, 217), (0, (n : Int)), (0, pI e ^ n), (0, v), (0, num n (pcm T (toV e n v) j.toNat)), (0, j)] [] M1 _) (lo := 0) (n := (n : Int)) ?_ ?_ 0 (by omega) (by omega) |> (fun k => by
      have e0 : num n (pcm T (toV e n v) (0 : Int).toNat) = 0 := num_z (fun i _ => rfl)
      rw [e0] at k
      exact k)
    · rw [Int.toNat_natCast]
      have e1 : pcm T (toV e n v) n = cmb T (toV e n v) := by
        unfold pcm cmb
        rw [hl]
      rw [e1]
      have hr := num_rng he n (cmb T (toV e n v))
      refine r_iload d_172_19 rfl ?_
      refine r_iload_n d_172_21 rfl ?_
      refine r_icmp_ge (t := 53) d_172_22 rfl (fun _ => ?_) (fun hz => absurd (by omega) hz)
      refine r_aload_n d_172_53 rfl (by omega) ?_
      refine r_getc (ki := 20) d_172_54 q_172_62 rfl sh_217 fx_217_20 (by omega) ?_
      refine r_iload d_172_57 rfl ?_
      refine r_iload_n d_172_59 rfl ?_
      refine r_iastore d_172_60 sh_233 (by omega) (by omega) ?_
      refine r_iinc d_172_61 rfl (by omega) (stl_6_3 rfl rfl) ?_
      refine r_goto (t := 8) d_172_64 rfl ?_
      refine ih _ _ _ (fun x y h => by rw [uq_ne (by omega)]; exact hF x y h) (fun u u1 u2 => ?_)
      by_cases q : u = v
      · rw [q, uq_eq]
      · have hne : num n (cmb T (toV e n u)) ≠ num n (cmb T (toV e n v)) := fun z => q (by
          have hs : ∀ c, sup n (cmb T c) := fun c => cmb_in (SI_all (A := fun _ _ _ => 0)).1 _ hG.1 c
          have h1 := num_inj2 he (hs _) (hs _) z
          have h2 := cmb_inj he hG (by rw [hl]; exact toV_sup) (by rw [hl]; exact toV_sup) h1
          have h3 := congrArg (num n) h2
          rw [num_toV he u1 (by omega), num_toV he v1 v2] at h3
          exact h3)
        rw [uq_ne (Or.inr hne)]
        exact hu u u1 (by omega)
    · intro j j1 j2 ihj
      have htj := ht1 j.toNat (by omega)
      rw [show ((j.toNat : Nat) : Int) = j by omega] at htj
      have hfg := m_figure M1 hp1' h23 v j (by omega) (by omega)
      have hdr := dg_rng (p := pI e) (v := v) h23 j.toNat
      have h23b := h23.b
      have hpk := m_plusK he M1 hp1' hn (pcm_sup hG.1 (c := toV e n v) (j := j.toNat)) (mem_sup hG.1 j.toNat) (c := dg (pI e) v j.toNat) (by omega)
      have e1 : lc (pcm T (toV e n v) j.toNat) (kI e (dg (pI e) v j.toNat)) (T.getD j.toNat z0) = pcm T (toV e n v) (j + 1).toNat := by
        rw [show (j + 1).toNat = j.toNat + 1 by omega, pcm_s]
        have e2 : toV e n v j.toNat = kI e (dg (pI e) v j.toNat) := by
          unfold toV
          rw [if_pos (by omega)]
        rw [e2]
      rw [e1] at hpk
      refine r_iload d_172_19 rfl ?_
      refine r_iload_n d_172_21 rfl ?_
      refine r_icmp_ge (t := 53) d_172_22 rfl (fun hz => absurd hz (by omega)) (fun _ => ?_)
      refine r_aload_n d_172_25 rfl (by omega) ?_
      refine r_iload d_172_26 rfl ?_
      refine r_aload_n d_172_28 rfl (by omega) ?_
      refine r_getc (ki := 8) d_172_29 q_172_32 rfl sh_217 fx_217_8 (by omega) ?_
      refine r_iload d_172_32 rfl ?_
      refine r_ialoadv d_172_34 sh_223 (by omega) (by omega) htj ?_
      refine r_aload_n d_172_35 rfl (by omega) ?_
      refine r_iload_n d_172_36 rfl ?_
      refine r_iload d_172_37 rfl ?_
      refine r_callvp d_172_39 q_172_142 rfl rfl hfg ?_
      refine r_callvp d_172_42 q_172_125 rfl rfl hpk ?_
      refine r_istore d_172_45 rfl (stl_6_4 rfl rfl) ?_
      refine r_iinc d_172_47 rfl (by omega) (stl_6_5 rfl rfl) ?_
      refine r_goto (t := 19) d_172_50 rfl ?_
      exact ihj
variable {A : Nat → Nat → Nat → Kf e}
theorem m_tries (he : e ≤ 1) (M : Mo) (hp : M 217 1 = pI e) {k : Int} (hk : 0 ≤ k ∧ k ≤ 10) (hM : MM e M k n A) (hs : smM n A) {v : Int} (h0 : 1 ≤ v) (h1 : v < pI e ^ n) : CV 173 [(2, 217), (0, k), (0, v)] M (fun M' => Fr W1 M M' ∧ ∀ c : Nat, c < 2 * (n * n) → M' 232 c = sqT n A (toV e n v) c) := by
  refine Cl.intro (L := [(2, 217), (0, k), (0, v), (9, 0), (9, 0), (9, 0), (9, 0)]) (rcv_v ow_173.2.1 sh_217) (by unfold entl; rw [mx_173]; rfl) (by rw [mx_173]; exact Nat.le_of_ble_eq_true rfl) rfl ?_
  have h23 := pI23 he
  have hn6 : n ≤ 6 := hs.2.1
  have hn1 : 1 ≤ n := hs.1
  have h243 := pw_243 he hM.2.1
  have hz : toV e n v ≠ z0 := toV_ne he h0 h1
  obtain ⟨hfull, hlen⟩ := sim_full he hs (toV_sup (e := e) (n := n) (v := v)) hz
  have hG : Good n (spin n A [] (toV e n v)) := spin_good he Good.nil toV_sup
  have hnn : (n : Int) * (n : Int) = ((n * n : Nat) : Int) := (Int.natCast_mul n n).symm
  have h2nn : 2 * (n : Int) * (n : Int) = ((2 * (n * n) : Nat) : Int) := by
    rw [Int.mul_assoc, hnn]
    omega
  have hnn36 : n * n ≤ 36 := Nat.mul_le_mul hn6 hn6
  have hnn1 : 1 ≤ n * n := Nat.mul_le_mul hn1 hn1
  refine r_aload_n d_173_0 rfl (by omega) ?_
  refine r_getc (ki := 2) d_173_1 q_173_17 rfl sh_217 fx_217_2 (by omega) ?_
  refine r_iload_n d_173_4 rfl ?_
  refine r_ialoadv d_173_5 sh_219 (by omega) (by omega) hM.1 ?_
  refine r_istore_n d_173_6 rfl (stl_7_3 rfl rfl) ?_
  refine r_aload_n d_173_7 rfl (by omega) ?_
  refine r_iload_n d_173_8 rfl ?_
  refine r_iload_n d_173_9 rfl ?_
  refine r_callvr d_173_10 q_173_205 rfl rfl (m_spinV he M hp hk hM (by omega) h1) (fun M2 hM2 => ?_)
  obtain ⟨hF2, hSP⟩ := hM2
  have hp2 : M2 217 1 = pI e := (hF2 _ _ (by unfold W1; omega)).trans hp
  refine r_aload_n d_173_13 rfl (by omega) ?_
  refine r_iload_n d_173_14 rfl ?_
  refine r_callvr d_173_15 q_173_217 rfl rfl (m_findsCodes he M2 hp2 hM.2.1 hG hlen hSP.2.1) (fun M3 hM3 => ?_)
  obtain ⟨hF3, hcod⟩ := hM3
  have hF : Fr W1 M M3 := hF2.trans hF3 (fun x y q => q) (fun x y q => by unfold W1; omega)
  have hMM3 := hM.w1 hF
  have hp3 : M3 217 1 = pI e := (hF _ _ (by unfold W1; omega)).trans hp
  have htk : ∀ j : Nat, j < n → M3 223 j = num n ((spin n A [] (toV e n v)).getD j z0) := fun j hj => (hF3 _ _ (by omega)).trans (hSP.2.1 j (by omega))
  refine r_iconst d_173_18 rfl ?_
  refine r_istore d_173_19 rfl (stl_7_4 rfl rfl) ?_
  refine dn_ind (R := fun c => ∀ (M1 : Mo) (y5 y6 : AV), Fr (fun x _ => x = 232) M3 M1 → (∀ c' : Nat, (c' : Int) < c → M1 232 c' = sqT n A (toV e n v) c') → Rn 173 21 [(2, 217), (0, k), (0, v), (0, (n : Int)), (0, c), y5, y6] [] M1 _) (lo := 0) (n := ((2 * (n * n) : Nat) : Int)) ?_ ?_ 0 (by omega) (by omega) M3 (9, 0) (9, 0) Fr.refl (fun c' hc' => by omega)
  · intro M1 y5 y6 hF1 hv
    refine r_iload d_173_21 rfl ?_
    refine r_iconst d_173_23 rfl ?_
    refine r_iload_n d_173_24 rfl ?_
    refine r_imul d_173_25 (by omega) ?_
    refine r_iload_n d_173_26 rfl ?_
    refine r_imul d_173_27 (mr (a := 12) (b := 6) (by omega) (by omega) (by decide)) ?_
    rw [h2nn]
    refine r_icmp_ge (t := 89) d_173_28 rfl (fun _ => ?_) (fun hz => absurd (by omega) hz)
    refine r_vret d_173_89 rt_173 ?_
    exact ⟨rfl, hF.trans hF1 (fun x y q => q) (fun x y q => by unfold W1; omega), fun c hc => hv c (by omega)⟩
  · intro c c1 c2 ih M1 y5 y6 hF1 hv
    obtain ⟨g, i, j, d1, d2, d3, d4, d5, d6, d7⟩ := cdec hn1 c1 c2
    have ec := cenc (n := n) (g := g) ⟨hn1, hn6⟩ d5 d6
    rw [← d7] at ec
    have hp1 : M1 217 1 = pI e := (hF1 _ _ (by omega)).trans hp3
    have hMM1 : MM e M1 k n A := hM.w1 (hF.trans hF1 (fun x y q => q) (fun x y q => by unfold W1; omega))
    have hti : M1 223 (i : Int) = num n ((spin n A [] (toV e n v)).getD i z0) := (hF1 _ _ (by omega)).trans (htk i d5)
    have hmv := m_moves he M1 hp1 hk hMM1 (g := (g : Int)) rfl d4 ((spin n A [] (toV e n v)).getD i z0)
    have hcd : M1 233 (num n (mv n (A g) ((spin n A [] (toV e n v)).getD i z0))) = num n (cod (spin n A [] (toV e n v)) (mv n (A g) ((spin n A [] (toV e n v)).getD i z0))) := (hF1 _ _ (by omega)).trans (hcod _ sup_mv)
    have hr1 := num_rng he n (mv n (A g) ((spin n A [] (toV e n v)).getD i z0))
    have hr2 := num_rng he n (cod (spin n A [] (toV e n v)) (mv n (A g) ((spin n A [] (toV e n v)).getD i z0)))
    have hfg := m_figure M1 hp1 h23 (num n (cod (spin n A [] (toV e n v)) (mv n (A g) ((spin n A [] (toV e n v)).getD i z0)))) (j : Int) (by omega) (by omega)
    rw [Int.toNat_natCast, dg_num he _ d6] at hfg
    have hval : vl (cod (spin n A [] (toV e n v)) (mv n (A g) ((spin n A [] (toV e n v)).getD i z0)) j) = sqT n A (toV e n v) c.toNat := by
      unfold sqT sqA
      rw [ec.1, ec.2.1, ec.2.2]
      rfl
    rw [hval] at hfg
    refine r_iload d_173_21 rfl ?_
    refine r_iconst d_173_23 rfl ?_
    refine r_iload_n d_173_24 rfl ?_
    refine r_imul d_173_25 (by omega) ?_
    refine r_iload_n d_173_26 rfl ?_
    refine r_imul d_173_27 (mr (a := 12) (b := 6) (by omega) (by omega) (by decide)) ?_
    rw [h2nn]
    refine r_icmp_ge (t := 89) d_173_28 rfl (fun hz => absurd hz (by omega)) (fun _ => ?_)
    refine r_iload d_173_31 rfl ?_
    refine r_iload_n d_173_33 rfl ?_
    refine r_iload_n d_173_34 rfl ?_
    refine r_imul d_173_35 (mr (a := 6) (b := 6) (by omega) (by omega) (by decide)) ?_
    rw [hnn]
    have hcm := Int.emod_nonneg c (show ((n * n : Nat) : Int) ≠ 0 by omega)
    have hcm2 := Int.emod_lt_of_pos c (show 0 < ((n * n : Nat) : Int) by omega)
    refine r_iremn d_173_36 (by omega) (by omega) ?_
    refine r_istore d_173_37 rfl (stl_7_5 rfl rfl) ?_
    refine r_aload_n d_173_39 rfl (by omega) ?_
    refine r_iload_n d_173_40 rfl ?_
    refine r_iload d_173_41 rfl ?_
    refine r_iload_n d_173_43 rfl ?_
    refine r_iload_n d_173_44 rfl ?_
    refine r_imul d_173_45 (mr (a := 6) (b := 6) (by omega) (by omega) (by decide)) ?_
    rw [hnn]
    refine r_idivn d_173_46 (by omega) (by omega) ?_
    refine r_aload_n d_173_47 rfl (by omega) ?_
    refine r_getc (ki := 8) d_173_48 q_173_32 rfl sh_217 fx_217_8 (by omega) ?_
    refine r_iload d_173_51 rfl ?_
    refine r_iload_n d_173_53 rfl ?_
    refine r_idivn d_173_54 (by omega) (by omega) ?_
    rw [d1, d2]
    refine r_ialoadv d_173_55 sh_223 (by omega) (by omega) hti ?_
    refine r_callvp d_173_56 q_173_133 rfl rfl hmv ?_
    refine r_istore d_173_59 rfl (stl_7_6 rfl rfl) ?_
    refine r_aload_n d_173_61 rfl (by omega) ?_
    refine r_getc (ki := 19) d_173_62 q_173_59 rfl sh_217 fx_217_19 (by omega) ?_
    refine r_iload d_173_65 rfl ?_
    refine r_aload_n d_173_67 rfl (by omega) ?_
    refine r_aload_n d_173_68 rfl (by omega) ?_
    refine r_getc (ki := 20) d_173_69 q_173_62 rfl sh_217 fx_217_20 (by omega) ?_
    refine r_iload d_173_72 rfl ?_
    refine r_ialoadv d_173_74 sh_233 (by omega) (by omega) hcd ?_
    refine r_iload d_173_75 rfl ?_
    refine r_iload_n d_173_77 rfl ?_
    refine r_iremn d_173_78 (by omega) (by omega) ?_
    rw [d3]
    refine r_callvp d_173_79 q_173_142 rfl rfl hfg ?_
    refine r_iastore d_173_82 sh_232 (by omega) (by omega) ?_
    refine r_iinc d_173_83 rfl (by omega) (stl_7_4 rfl rfl) ?_
    refine r_goto (t := 21) d_173_86 rfl ?_
    refine ih _ _ _ (fun x y h => by rw [uq_ne (by omega)]; exact hF1 x y h) (fun c' hc' => ?_)
    by_cases q : (c' : Int) = c
    · rw [q, uq_eq, show c.toNat = c' by omega]
    · rw [uq_ne (Or.inr q)]
      exact hv c' (by omega)
def WT (a : Nat) (x y : Int) : Prop := W1 x y ∨ x = 230 ∧ 72 * (a : Int) ≤ y ∧ y < 72 * a + 72
theorem MM.wt {M M1 : Mo} {k : Int} {a : Nat} (h : MM e M k n A) (hF : Fr (WT a) M M1) : MM e M1 k n A := h.fr hF (fun x y q1 q2 => by unfold WK at q1; unfold WT W1 at q2; omega)
theorem tp_copy {M2 : Mo} {a : Nat} (ha : a < 6) (hn6 : n ≤ 6) {F : Nat → Int} (htr : ∀ c : Nat, c < 2 * (n * n) → M2 232 c = F c) {P v : Int} {y7 : AV} {Q : Option AV → Mo → Prop} (hk : ∀ (M3 : Mo) (y : AV), Fr (fun x y => x = 230 ∧ 72 * (a : Int) ≤ y ∧ y < 72 * a + 72) M2 M3 → (∀ c : Nat, c < 2 * (n * n) → M3 230 (72 * a + c) = F c) → Rn 175 93 [(2, 217), (0, (a : Int)), (0, 4 + (a : Int)), (0, (n : Int)), (0, P), (0, 72 * (a : Int)), (0, v), y] [] M3 Q) : Rn 175 57 [(2, 217), (0, (a : Int)), (0, 4 + (a : Int)), (0, (n : Int)), (0, P), (0, 72 * (a : Int)), (0, v), y7] [] M2 Q := by
  have hnn : (n : Int) * (n : Int) = ((n * n : Nat) : Int) := (Int.natCast_mul n n).symm
  have h2nn : 2 * (n : Int) * (n : Int) = ((2 * (n * n) : Nat) : Int) := by
    rw [Int.mul_assoc, hnn]
    omega
  have hnn36 : n * n ≤ 36 := Nat.mul_le_mul hn6 hn6
  refine r_iconst d_175_57 rfl ?_
  refine r_istore d_175_58 rfl (stl_8_7 rfl rfl) ?_
  refine dn_ind (R := fun c => ∀ M3 : Mo, Fr (fun x y => x = 230 ∧ 72 * (a : Int) ≤ y ∧ y < 72 * a + 72) M2 M3 → (∀ c' : Nat, c' < 2 * (n * n) → M3 232 c' = F c') → (∀ c' : Nat, (c' : Int) < c → M3 230 (72 * a + c') = F c') → Rn 175 60 [(2, 217), (0, (a : Int)), (0, 4 + (a : Int)), (0, (n : Int)), (0, P), (0, 72 * (a : Int)), (0, v), (0, c)] [] M3 Q) (lo := 0) (n := ((2 * (n * n) : Nat) : Int)) ?_ ?_ 0 (by omega) (by omega) M2 Fr.refl htr (fun c' h => by omega)
  · intro M3 hF3 h232 h230
    refine r_iload d_175_60 rfl ?_
    refine r_iconst d_175_62 rfl ?_
    refine r_iload_n d_175_63 rfl ?_
    refine r_imul d_175_64 (by omega) ?_
    refine r_iload_n d_175_65 rfl ?_
    refine r_imul d_175_66 (mr (a := 12) (b := 6) (by omega) (by omega) (by decide)) ?_
    rw [h2nn]
    refine r_icmp_ge (t := 93) d_175_67 rfl (fun _ => ?_) (fun hz => absurd (by omega) hz)
    exact hk M3 _ hF3 (fun c hc => h230 c (by omega))
  · intro c c1 c2 ih2 M3 hF3 h232 h230
    have hc := h232 c.toNat (by omega)
    rw [show ((c.toNat : Nat) : Int) = c by omega] at hc
    refine r_iload d_175_60 rfl ?_
    refine r_iconst d_175_62 rfl ?_
    refine r_iload_n d_175_63 rfl ?_
    refine r_imul d_175_64 (by omega) ?_
    refine r_iload_n d_175_65 rfl ?_
    refine r_imul d_175_66 (mr (a := 12) (b := 6) (by omega) (by omega) (by decide)) ?_
    rw [h2nn]
    refine r_icmp_ge (t := 93) d_175_67 rfl (fun hz => absurd hz (by omega)) (fun _ => ?_)
    refine r_aload_n d_175_70 rfl (by omega) ?_
    refine r_getc (ki := 17) d_175_71 q_175_53 rfl sh_217 fx_217_17 (by omega) ?_
    refine r_iload d_175_74 rfl ?_
    refine r_iload d_175_76 rfl ?_
    refine r_iadd d_175_78 (by omega) ?_
    refine r_aload_n d_175_79 rfl (by omega) ?_
    refine r_getc (ki := 19) d_175_80 q_175_59 rfl sh_217 fx_217_19 (by omega) ?_
    refine r_iload d_175_83 rfl ?_
    refine r_ialoadv d_175_85 sh_232 (by omega) (by omega) hc ?_
    refine r_iastore d_175_86 sh_230 (by omega) (by omega) ?_
    refine r_iinc d_175_87 rfl (by omega) (stl_8_7 rfl rfl) ?_
    refine r_goto (t := 60) d_175_90 rfl ?_
    refine ih2 _ (fun x y h => ?_) (fun c' hc' => ?_) (fun c' hc' => ?_)
    · rw [uq_ne (by omega)]
      exact hF3 x y h
    · rw [uq_ne (by omega)]
      exact h232 c' hc'
    · by_cases q : (c' : Int) = c
      · rw [q, uq_eq, show c.toNat = c' by omega]
      · rw [uq_ne (Or.inr (by omega))]
        exact h230 c' (by omega)
theorem m_tellsPiece (he : e ≤ 1) (M : Mo) (hp : M 217 1 = pI e) {a : Nat} (ha : a < 6) (hM : MM e M (4 + (a : Int)) n A) (hs : smM n A) : CV 175 [(2, 217), (0, (a : Int))] M (fun M' => Fr (WT a) M M' ∧ ∃ F, canP n A F ∧ ∀ c : Nat, c < 2 * (n * n) → M' 230 (72 * a + c) = F c ∧ 0 ≤ F c ∧ F c ≤ 2) := by
  refine Cl.intro (L := [(2, 217), (0, (a : Int)), (9, 0), (9, 0), (9, 0), (9, 0), (9, 0), (9, 0)]) (rcv_v ow_175.2.1 sh_217) (by unfold entl; rw [mx_175]; rfl) (by rw [mx_175]; exact Nat.le_of_ble_eq_true rfl) rfl ?_
  have h23 := pI23 he
  have hn6 : n ≤ 6 := hs.2.1
  have hn1 : 1 ≤ n := hs.1
  have h243 := pw_243 he hM.2.1
  have hp2 : 2 ≤ pI e ^ n := by
    have h := num_pos he (un_sup (e := e) hn1) (un_ne he)
    have h2 := h.2.1
    omega
  have hnn : (n : Int) * (n : Int) = ((n * n : Nat) : Int) := (Int.natCast_mul n n).symm
  have h2nn : 2 * (n : Int) * (n : Int) = ((2 * (n * n) : Nat) : Int) := by
    rw [Int.mul_assoc, hnn]
    omega
  have hnn36 : n * n ≤ 36 := Nat.mul_le_mul hn6 hn6
  have hnn1 : 1 ≤ n * n := Nat.mul_le_mul hn1 hn1
  refine r_iconst d_175_0 rfl ?_
  refine r_iload_n d_175_1 rfl ?_
  refine r_iadd d_175_2 (by omega) ?_
  refine r_istore_n d_175_3 rfl (stl_8_2 rfl rfl) ?_
  refine r_aload_n d_175_4 rfl (by omega) ?_
  refine r_getc (ki := 2) d_175_5 q_175_17 rfl sh_217 fx_217_2 (by omega) ?_
  refine r_iload_n d_175_8 rfl ?_
  refine r_ialoadv d_175_9 sh_219 (by omega) (by omega) hM.1 ?_
  refine r_istore_n d_175_10 rfl (stl_8_3 rfl rfl) ?_
  refine r_aload_n d_175_11 rfl (by omega) ?_
  refine r_iload_n d_175_12 rfl ?_
  refine r_callvp d_175_13 q_175_110 rfl rfl (by have := m_power M hp h23 (n : Int) (by omega); rw [Int.toNat_natCast] at this; exact this) ?_
  refine r_istore d_175_16 rfl (stl_8_4 rfl rfl) ?_
  refine r_bipush d_175_18 rfl ?_
  refine r_iload_n d_175_20 rfl ?_
  refine r_imul d_175_21 (by omega) ?_
  refine r_istore d_175_22 rfl (stl_8_5 rfl rfl) ?_
  refine r_iconst d_175_24 rfl ?_
  refine r_istore d_175_25 rfl (stl_8_6 rfl rfl) ?_
  refine dn_ind (R := fun v => ∀ (M1 : Mo) (y7 : AV), Fr (WT a) M M1 → (v = 1 ∨ ∃ v0 : Int, 1 ≤ v0 ∧ v0 < v ∧ (∀ c : Nat, c < 2 * (n * n) → M1 230 (72 * a + c) = sqT n A (toV e n v0) c) ∧ ∀ u : Int, 1 ≤ u → u < v → 0 ≤ fdx (sqT n A (toV e n u)) (sqT n A (toV e n v0)) (2 * (n * n))) → Rn 175 27 [(2, 217), (0, (a : Int)), (0, 4 + (a : Int)), (0, (n : Int)), (0, pI e ^ n), (0, 72 * (a : Int)), (0, v), y7] [] M1 _) (lo := 1) (n := pI e ^ n) ?_ ?_ 1 (by omega) (by omega) M (9, 0) Fr.refl (Or.inl rfl)
  · intro M1 y7 hF hu
    refine r_iload d_175_27 rfl ?_
    refine r_iload d_175_29 rfl ?_
    refine r_icmp_ge (t := 99) d_175_31 rfl (fun _ => ?_) (fun hz => absurd (by omega) hz)
    refine r_vret d_175_99 rt_175 ?_
    rcases hu with q | ⟨v0, a1, a2, a3, a4⟩
    · omega
    · refine ⟨rfl, hF, sqT n A (toV e n v0), ⟨⟨toV e n v0, toV_sup, toV_ne he a1 a2, fun _ _ => rfl⟩, fun w hw hz => ?_⟩, fun c hc => ⟨a3 c hc, vl_b he _⟩⟩
      obtain ⟨b1, b2, b3⟩ := num_pos he hw hz
      have h1 := a4 (num n w) b1 b2
      rw [b3] at h1
      exact h1
  · intro v v1 v2 ih M1 y7 hF hu
    have hM1 := hM.wt hF
    have hp1 : M1 217 1 = pI e := (hF _ _ (by unfold WT W1; omega)).trans hp
    refine r_iload d_175_27 rfl ?_
    refine r_iload d_175_29 rfl ?_
    refine r_icmp_ge (t := 99) d_175_31 rfl (fun hz => absurd hz (by omega)) (fun _ => ?_)
    refine r_aload_n d_175_34 rfl (by omega) ?_
    refine r_iload_n d_175_35 rfl ?_
    refine r_iload d_175_36 rfl ?_
    refine r_callvr d_175_38 q_175_220 rfl rfl (m_tries he M1 hp1 (by omega) hM1 hs v1 v2) (fun M2 hM2 => ?_)
    obtain ⟨hF2, htr⟩ := hM2
    have hF12 : Fr (WT a) M M2 := hF.trans hF2 (fun x y q => q) (fun x y q => Or.inl q)
    refine r_iload d_175_41 rfl ?_
    refine r_iconst d_175_43 rfl ?_
    by_cases hv1 : v = 1
    · refine r_icmp_eq (t := 57) d_175_44 rfl (fun _ => ?_) (fun hz => absurd hv1 hz)
      refine tp_copy ha hn6 htr (fun M3 y hF3 h3 => ?_)
      refine r_iinc d_175_93 rfl (by omega) (stl_8_6 rfl rfl) ?_
      refine r_goto (t := 27) d_175_96 rfl ?_
      refine ih _ _ (hF12.trans hF3 (fun x y q => q) (fun x y q => Or.inr q)) (Or.inr ⟨v, v1, by omega, h3, fun u u1 u2 => ?_⟩)
      rw [show u = v by omega, fdx_z.mpr (fun _ _ => rfl)]
      exact Int.le_refl 0
    · rcases hu with q | ⟨v0, a1, a2, a3, a4⟩
      · exact absurd q hv1
      have h230 : ∀ c : Nat, c < 2 * (n * n) → M2 230 (72 * (a : Int) + c) = sqT n A (toV e n v0) c := fun c hc => (hF2 _ _ (by unfold W1; omega)).trans (a3 c hc)
      have hls := m_isLess (M := M2) hn6 (p := 72 * (a : Int)) (by omega) htr h230
      refine r_icmp_eq (t := 57) d_175_44 rfl (fun hz => absurd hz hv1) (fun _ => ?_)
      refine r_aload_n d_175_47 rfl (by omega) ?_
      refine r_iload_n d_175_48 rfl ?_
      refine r_iload d_175_49 rfl ?_
      refine r_callvp d_175_51 q_175_223 rfl rfl hls ?_
      by_cases hlt : fdx (sqT n A (toV e n v)) (sqT n A (toV e n v0)) (2 * (n * n)) < 0
      · rw [if_pos hlt]
        refine r_if_eq (t := 93) d_175_54 rfl (fun hz => absurd hz (by decide)) (fun _ => ?_)
        refine tp_copy ha hn6 htr (fun M3 y hF3 h3 => ?_)
        refine r_iinc d_175_93 rfl (by omega) (stl_8_6 rfl rfl) ?_
        refine r_goto (t := 27) d_175_96 rfl ?_
        refine ih _ _ (hF12.trans hF3 (fun x y q => q) (fun x y q => Or.inr q)) (Or.inr ⟨v, v1, by omega, h3, fun u u1 u2 => ?_⟩)
        by_cases q : u = v
        · rw [q, fdx_z.mpr (fun _ _ => rfl)]
          exact Int.le_refl 0
        · have := fdx_neg (f := sqT n A (toV e n v)) (g := sqT n A (toV e n v0)) (N := 2 * (n * n))
          exact (fdx_trans (a4 u u1 (by omega)) (by omega)).1
      · rw [if_neg hlt]
        refine r_if_eq (t := 93) d_175_54 rfl (fun _ => ?_) (fun hz => absurd rfl hz)
        refine r_iinc d_175_93 rfl (by omega) (stl_8_6 rfl rfl) ?_
        refine r_goto (t := 27) d_175_96 rfl ?_
        refine ih _ _ hF12 (Or.inr ⟨v0, a1, by omega, h230, fun u u1 u2 => ?_⟩)
        by_cases q : u = v
        · rw [q]
          omega
        · exact a4 u u1 (by omega)
end
