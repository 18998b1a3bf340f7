/-! The model: the space and the rest as modules. -/
theorem m_clearsFresh (M : Mo) : CV 137 [(2, 217)] M (fun M' => ∃ f, M' = sr M 221 f ∧ ∀ c : Int, 0 ≤ c → c < 72 → f c = 0) := by
  refine Cl.intro (L := [(2, 217), (9, 0)]) (rcv_v ow_137.2.1 sh_217) (by unfold entl; rw [mx_137]; rfl) (by rw [mx_137]; exact Nat.le_of_ble_eq_true rfl) rfl ?_
  refine r_iconst d_137_0 rfl ?_
  refine r_istore_n d_137_1 rfl (stl_2_1 rfl rfl) ?_
  refine dn_ind (R := fun i => ∀ f : Int → Int, (∀ c : Int, 0 ≤ c → c < i → f c = 0) → Rn 137 2 [(2, 217), (0, i)] [] (sr M 221 f) _) (lo := 0) (n := 72) ?_ ?_ 0 (by omega) (by omega) (M 221) (fun c h1 h2 => by omega) |> (fun k => by rw [sr_self] at k; exact k)
  · intro f hf
    refine r_iload_n d_137_2 rfl ?_
    refine r_bipush d_137_3 rfl ?_
    refine r_icmp_ge (t := 21) d_137_5 rfl (fun _ => ?_) (fun hz => absurd (by omega) hz)
    refine r_vret d_137_21 rt_137 ?_
    exact ⟨rfl, f, rfl, hf⟩
  · intro i i1 i2 ih f hf
    refine r_iload_n d_137_2 rfl ?_
    refine r_bipush d_137_3 rfl ?_
    refine r_icmp_ge (t := 21) d_137_5 rfl (fun hz => absurd hz (by omega)) (fun _ => ?_)
    refine r_aload_n d_137_8 rfl (by omega) ?_
    refine r_getc (ki := 4) d_137_9 q_137_23 rfl sh_217 fx_217_4 (by omega) ?_
    refine r_iload_n d_137_12 rfl ?_
    refine r_iconst d_137_13 rfl ?_
    refine r_iastore d_137_14 sh_221 (by omega) (by omega) ?_
    rw [up_sr]
    refine r_iinc d_137_15 rfl (by omega) (stl_2_1 rfl rfl) ?_
    refine r_goto (t := 2) d_137_18 rfl ?_
    refine ih _ (fun c h1 h2 => ?_)
    by_cases hc : c = i
    · rw [hc, u1_eq]
    · rw [u1_ne _ _ hc]
      exact hf c h1 (by omega)
theorem m_takesFresh (M : Mo) {k n : Int} (hk : 0 ≤ k ∧ k ≤ 10) : CV 136 [(2, 217), (0, k), (0, n)] M (fun M' => Fr (WK k) M M' ∧ M' 219 k = n ∧ ∀ c : Int, 0 ≤ c → c < 72 → M' 220 (72 * k + c) = M 221 c) := by
  refine Cl.intro (L := [(2, 217), (0, k), (0, n), (9, 0)]) (rcv_v ow_136.2.1 sh_217) (by unfold entl; rw [mx_136]; rfl) (by rw [mx_136]; exact Nat.le_of_ble_eq_true rfl) rfl ?_
  refine r_aload_n d_136_0 rfl (by omega) ?_
  refine r_getc (ki := 2) d_136_1 q_136_17 rfl sh_217 fx_217_2 (by omega) ?_
  refine r_iload_n d_136_4 rfl ?_
  refine r_iload_n d_136_5 rfl ?_
  refine r_iastore d_136_6 sh_219 (by omega) (by omega) ?_
  refine r_iconst d_136_7 rfl ?_
  refine r_istore_n d_136_8 rfl (stl_4_3 rfl rfl) ?_
  refine dn_ind (R := fun i => ∀ f : Int → Int, (∀ c : Int, 0 ≤ c → c < i → f (72 * k + c) = M 221 c) → (∀ y : Int, ¬ (72 * k ≤ y ∧ y < 72 * k + 72) → f y = M 220 y) → Rn 136 9 [(2, 217), (0, k), (0, n), (0, i)] [] (sr (up2 M 219 k n) 220 f) _) (lo := 0) (n := 72) ?_ ?_ 0 (by omega) (by omega) (M 220) (fun c h1 h2 => by omega) (fun y _ => rfl) |> (fun z => by
    have e1 : sr (up2 M 219 k n) 220 (M 220) = up2 M 219 k n := by
      funext x y
      unfold sr up2
      by_cases hx : x = 220
      · subst hx
        simp
      · simp [hx]
    rw [e1] at z
    exact z)
  · intro f hf ho
    refine r_iload_n d_136_9 rfl ?_
    refine r_bipush d_136_10 rfl ?_
    refine r_icmp_ge (t := 38) d_136_12 rfl (fun _ => ?_) (fun hz => absurd (by omega) hz)
    refine r_vret d_136_38 rt_136 ?_
    refine ⟨rfl, fun x y hn => ?_, ?_, fun c h1 h2 => ?_⟩
    · unfold WK at hn
      by_cases hx : x = 220
      · subst hx
        rw [sr_eq]
        exact ho y (by omega)
      · rw [sr_ne _ _ hx]
        by_cases hx2 : x = 219
        · subst hx2
          have : ¬ y = k := by omega
          simp [up2, this]
        · simp [up2, hx2]
    · rw [sr_ne _ _ (by decide)]
      simp [up2]
    · rw [sr_eq]
      exact hf c h1 h2
  · intro i i1 i2 ih f hf ho
    have hv : sr (up2 M 219 k n) 220 f 221 i = M 221 i := by
      rw [sr_ne _ _ (by decide)]
      simp [up2]
    refine r_iload_n d_136_9 rfl ?_
    refine r_bipush d_136_10 rfl ?_
    refine r_icmp_ge (t := 38) d_136_12 rfl (fun hz => absurd hz (by omega)) (fun _ => ?_)
    refine r_aload_n d_136_15 rfl (by omega) ?_
    refine r_getc (ki := 3) d_136_16 q_136_20 rfl sh_217 fx_217_3 (by omega) ?_
    refine r_bipush d_136_19 rfl ?_
    refine r_iload_n d_136_21 rfl ?_
    refine r_imul d_136_22 (by omega) ?_
    refine r_iload_n d_136_23 rfl ?_
    refine r_iadd d_136_24 (by omega) ?_
    refine r_aload_n d_136_25 rfl (by omega) ?_
    refine r_getc (ki := 4) d_136_26 q_136_23 rfl sh_217 fx_217_4 (by omega) ?_
    refine r_iload_n d_136_29 rfl ?_
    refine r_ialoadv d_136_30 sh_221 (by omega) (by omega) hv ?_
    refine r_iastore d_136_31 sh_220 (by omega) (by omega) ?_
    rw [up_sr]
    refine r_iinc d_136_32 rfl (by omega) (stl_4_3 rfl rfl) ?_
    refine r_goto (t := 9) d_136_35 rfl ?_
    refine ih _ (fun c h1 h2 => ?_) (fun y hy => ?_)
    · by_cases hc : c = i
      · rw [hc, u1_eq]
      · rw [u1_ne _ _ (by omega)]
        exact hf c h1 (by omega)
    · rw [u1_ne _ _ (by omega)]
      exact ho y hy
/-- the subspace as a module -/
noncomputable def prt {e : Nat} (n : Nat) (A : Nat → Nat → Nat → Kf e) (S : Vc e → Prop) (g i j : Nat) : Kf e := mv n (A g) (crow S (pl (Lp S) i)) (pl (Lp S) j)
theorem FRs.at {e n : Nat} {S : Vc e → Prop} {f r s : Int → Int} (h : FRs n S f r s) {d : Nat} (hd : d < dm n S) : r d = num n (crow S (pl (Lp S) d)) ∧ s d = (pl (Lp S) d : Nat) := by
  obtain ⟨h1, h2⟩ := pl_spec hd
  have h3 := h.2 _ h1
  rw [h2] at h3
  exact h3
theorem takes_MM {e : Nat} {M1 M2 : Mo} {k : Int} {d : Nat} {B : Nat → Nat → Nat → Kf e} (h1 : M2 219 k = d) (h2 : ∀ c : Int, 0 ≤ c → c < 72 → M2 220 (72 * k + c) = M1 221 c) (hd : nb e d) (hf : ∀ g i j : Nat, g < 2 → i < d → j < d → M1 221 (36 * g + 6 * i + j) = vl (B g i j)) : MM e M2 k d B := by
  have hd6 : d ≤ 6 := by unfold nb at hd; omega
  refine ⟨h1, hd, fun g i j a1 a2 a3 => ?_⟩
  have := h2 (36 * g + 6 * i + j) (by omega) (by omega)
  rw [hf g i j a1 a2 a3] at this
  rw [← this]
  congr 1
  omega
theorem m_tellsPart {e : Nat} (he : e ≤ 1) (M : Mo) (hp : M 217 1 = pI e) {k k2 : Int} {n : Nat} {A : Nat → Nat → Nat → Kf e} (hk : 0 ≤ k ∧ k ≤ 10) (hk2 : 0 ≤ k2 ∧ k2 ≤ 10) (hM : MM e M k n A) {S : Vc e → Prop} (hS : Sub n S) (hh : hs n (M 222) S) (hd : M 217 7 = dm n S) : CV 148 [(2, 217), (0, k), (0, k2)] M (fun M' => Fr (W2 k2) M M' ∧ MM e M' k2 (dm n S) (prt n A S)) := by
  refine Cl.intro (L := [(2, 217), (0, k), (0, k2), (9, 0), (9, 0), (9, 0), (9, 0)]) (rcv_v ow_148.2.1 sh_217) (by unfold entl; rw [mx_148]; rfl) (by rw [mx_148]; exact Nat.le_of_ble_eq_true rfl) rfl ?_
  have hnb := hM.2.1
  have hn6 : n ≤ 6 := by unfold nb at hnb; omega
  have hdn := dm_le (n := n) S
  refine r_aload_n d_148_0 rfl (by omega) ?_
  refine r_aload_n d_148_1 rfl (by omega) ?_
  refine r_getc (ki := 2) d_148_2 q_148_17 rfl sh_217 fx_217_2 (by omega) ?_
  refine r_iload_n d_148_5 rfl ?_
  refine r_ialoadv d_148_6 sh_219 (by omega) (by omega) hM.1 ?_
  refine r_callvr d_148_7 q_148_152 rfl rfl (m_findsRowsF he M hp hnb hS hh) (fun M1 hM1 => ?_)
  obtain ⟨hF1, hR⟩ := hM1
  refine r_aload_n d_148_10 rfl (by omega) ?_
  refine r_callvr d_148_11 q_148_156 rfl rfl (m_clearsFresh M1) (fun M2 hM2 => ?_)
  obtain ⟨f0, rfl, hf0⟩ := hM2
  have hp2 : ∀ f, sr M1 221 f 217 1 = pI e := fun f => by rw [sr_ne _ _ (by decide)]; exact (hF1 _ _ (by unfold WR; omega)).trans hp
  have hd2 : ∀ f, sr M1 221 f 217 7 = dm n S := fun f => by rw [sr_ne _ _ (by decide)]; exact (hF1 _ _ (by unfold WR; omega)).trans hd
  have hMM : ∀ f, MM e (sr M1 221 f) k n A := fun f => (hM.fr hF1 (fun x y h1 h2 => by unfold WK at h1; unfold WR at h2; omega)).fr (P := WF) (sr_fr (fun y => Or.inl rfl)) (fun x y h1 h2 => by unfold WK at h1; unfold WF at h2; omega)
  refine r_iconst d_148_14 rfl ?_
  refine r_istore_n d_148_15 rfl (stl_7_3 rfl rfl) ?_
  refine dn_ind (R := fun g => ∀ f y1 y2 y3, fil (dm n S) (fun g i j => vl (prt n A S g i j)) f g 0 0 → Rn 148 16 [(2, 217), (0, k), (0, k2), (0, g), y1, y2, y3] [] (sr M1 221 f) _) (lo := 0) (n := 2) ?_ ?_ 0 (by omega) (by omega) f0 _ _ _ fil.start
  · intro f y1 y2 y3 hf
    refine r_iload_n d_148_16 rfl ?_
    refine r_iconst d_148_17 rfl ?_
    refine r_icmp_ge (t := 105) d_148_18 rfl (fun _ => ?_) (fun hz => absurd (by omega) hz)
    refine r_aload_n d_148_105 rfl (by omega) ?_
    refine r_iload_n d_148_106 rfl ?_
    refine r_aload_n d_148_107 rfl (by omega) ?_
    refine r_getfv (ki := 7) d_148_108 q_148_122 rfl sh_217 (hd2 f) ?_
    refine r_callvr d_148_111 q_148_159 rfl rfl (m_takesFresh (sr M1 221 f) hk2) (fun M2 hM2 => ?_)
    obtain ⟨hF2, hs2, hc2⟩ := hM2
    refine r_vret d_148_114 rt_148 ?_
    refine ⟨rfl, ?_, ?_⟩
    · refine (hF1.trans (Q := WF) (R := WF) (sr_fr (fun y => Or.inl rfl)) (fun x y h => Or.inr h) (fun x y h => h)).trans hF2 (fun x y h => Or.inl h) (fun x y h => Or.inr h)
    · refine takes_MM hs2 hc2 (by unfold nb at *; omega) (fun g i j a1 a2 a3 => ?_)
      rw [sr_eq]
      exact hf.fin a1 a2 a3
  · intro g g1 g2 ih f y1 y2 y3 hf
    refine r_iload_n d_148_16 rfl ?_
    refine r_iconst d_148_17 rfl ?_
    refine r_icmp_ge (t := 105) d_148_18 rfl (fun hz => absurd hz (by omega)) (fun _ => ?_)
    refine r_iconst d_148_21 rfl ?_
    refine r_istore d_148_22 rfl (stl_7_4 rfl rfl) ?_
    refine dn_ind (R := fun i => ∀ f y2 y3, fil (dm n S) (fun g i j => vl (prt n A S g i j)) f g i 0 → Rn 148 24 [(2, 217), (0, k), (0, k2), (0, g), (0, i), y2, y3] [] (sr M1 221 f) _) (lo := 0) (n := (dm n S : Int)) ?_ ?_ 0 (by omega) (by omega) f _ _ hf
    · intro f y2 y3 hf
      refine r_iload d_148_24 rfl ?_
      refine r_aload_n d_148_26 rfl (by omega) ?_
      refine r_getfv (ki := 7) d_148_27 q_148_122 rfl sh_217 (hd2 f) ?_
      refine r_icmp_ge (t := 99) d_148_30 rfl (fun _ => ?_) (fun hz => absurd (by omega) hz)
      refine r_iinc d_148_99 rfl (by omega) (stl_7_3 rfl rfl) ?_
      refine r_goto (t := 16) d_148_102 rfl ?_
      exact ih _ _ _ _ (hf.ng (Int.le_refl _))
    · intro i i1 i2 ih2 f y2 y3 hf
      have hri := hR.at (d := i.toNat) (by omega)
      rw [show ((i.toNat : Nat) : Int) = i by omega] at hri
      refine r_iload d_148_24 rfl ?_
      refine r_aload_n d_148_26 rfl (by omega) ?_
      refine r_getfv (ki := 7) d_148_27 q_148_122 rfl sh_217 (hd2 f) ?_
      refine r_icmp_ge (t := 99) d_148_30 rfl (fun hz => absurd hz (by omega)) (fun _ => ?_)
      refine r_aload_n d_148_33 rfl (by omega) ?_
      refine r_iload_n d_148_34 rfl ?_
      refine r_iload_n d_148_35 rfl ?_
      refine r_aload_n d_148_36 rfl (by omega) ?_
      refine r_getc (ki := 11) d_148_37 q_148_41 rfl sh_217 fx_217_11 (by omega) ?_
      refine r_iload d_148_40 rfl ?_
      refine r_ialoadv d_148_42 sh_226 (by omega) (by omega) ((congrFun (sr_ne _ _ (by decide)) _).trans hri.1) ?_
      refine r_callvp d_148_43 q_148_133 rfl rfl (m_moves he _ (hp2 f) hk (hMM f) (g := g) (gn := g.toNat) (by omega) (by omega) (crow S (pl (Lp S) i.toNat))) ?_
      refine r_istore d_148_46 rfl (stl_7_5 rfl rfl) ?_
      refine r_iconst d_148_48 rfl ?_
      refine r_istore d_148_49 rfl (stl_7_6 rfl rfl) ?_
      refine dn_ind (R := fun j => ∀ f, fil (dm n S) (fun g i j => vl (prt n A S g i j)) f g i j → Rn 148 51 [(2, 217), (0, k), (0, k2), (0, g), (0, i), (0, num n (mv n (A g.toNat) (crow S (pl (Lp S) i.toNat)))), (0, j)] [] (sr M1 221 f) _) (lo := 0) (n := (dm n S : Int)) ?_ ?_ 0 (by omega) (by omega) f hf
      · intro f hf
        refine r_iload d_148_51 rfl ?_
        refine r_aload_n d_148_53 rfl (by omega) ?_
        refine r_getfv (ki := 7) d_148_54 q_148_122 rfl sh_217 (hd2 f) ?_
        refine r_icmp_ge (t := 93) d_148_57 rfl (fun _ => ?_) (fun hz => absurd (by omega) hz)
        refine r_iinc d_148_93 rfl (by omega) (stl_7_4 rfl rfl) ?_
        refine r_goto (t := 24) d_148_96 rfl ?_
        exact ih2 _ _ _ (hf.ni (Int.le_refl _))
      · intro j j1 j2 ih3 f hf
        have hrj := hR.at (d := j.toNat) (by omega)
        rw [show ((j.toNat : Nat) : Int) = j by omega] at hrj
        have hpl : pl (Lp S) j.toNat < n := pl_lt (show j.toNat < dm n S by omega)
        refine r_iload d_148_51 rfl ?_
        refine r_aload_n d_148_53 rfl (by omega) ?_
        refine r_getfv (ki := 7) d_148_54 q_148_122 rfl sh_217 (hd2 f) ?_
        refine r_icmp_ge (t := 93) d_148_57 rfl (fun hz => absurd hz (by omega)) (fun _ => ?_)
        refine r_aload_n d_148_60 rfl (by omega) ?_
        refine r_getc (ki := 4) d_148_61 q_148_23 rfl sh_217 fx_217_4 (by omega) ?_
        refine r_iconst d_148_64 rfl ?_
        refine r_iload_n d_148_65 rfl ?_
        refine r_iload d_148_66 rfl ?_
        refine r_iload d_148_68 rfl ?_
        refine r_callsp d_148_70 q_148_114 rfl rfl (m_cell _ 0 g i j (by omega) (by omega) (by omega) (by omega)) ?_
        refine r_aload_n d_148_73 rfl (by omega) ?_
        refine r_iload d_148_74 rfl ?_
        refine r_aload_n d_148_76 rfl (by omega) ?_
        refine r_getc (ki := 12) d_148_77 q_148_44 rfl sh_217 fx_217_12 (by omega) ?_
        refine r_iload d_148_80 rfl ?_
        refine r_ialoadv d_148_82 sh_227 (by omega) (by omega) ((congrFun (sr_ne _ _ (by decide)) _).trans hrj.2) ?_
        refine r_callvp d_148_83 q_148_142 rfl rfl (m_figK he _ (hp2 f) hnb (mv n (A g.toNat) (crow S (pl (Lp S) i.toNat))) rfl hpl) ?_
        refine r_iastore d_148_86 sh_221 (by omega) (by omega) ?_
        rw [up_sr]
        refine r_iinc d_148_87 rfl (by omega) (stl_7_6 rfl rfl) ?_
        refine r_goto (t := 51) d_148_90 rfl ?_
        refine ih3 _ (hf.put (by omega) (gn := g.toNat) (i2 := i.toNat) (j2 := j.toNat) (by omega) (by omega) (by omega) (by omega) (by omega) rfl (by omega))
/-- a vector less the vector of the space that is as it at the leading places -/
noncomputable def wos {e : Nat} (S : Vc e → Prop) (v : Vc e) : Nat → Vc e
  | 0 => v
  | r + 1 => lc (wos S v r) (-(v (pl (Lp S) r))) (crow S (pl (Lp S) r))
noncomputable def wo {e : Nat} (n : Nat) (S : Vc e → Prop) (v : Vc e) : Vc e := wos S v (dm n S)
theorem wos_sup {e n : Nat} (he : e ≤ 1) {S : Vc e → Prop} (hS : Sub n S) {v : Vc e} (hv : sup n v) : ∀ {r : Nat}, r ≤ dm n S → sup n (wos S v r)
  | 0, _ => hv
  | r + 1, h => sup_lc (wos_sup he hS hv (by omega)) (crow_sup he hS (pl_spec (show r < dm n S by omega)).1)
theorem kI_neg {e : Nat} (x : Kf e) : kI e (pI e - vl x) = -x := by
  have h1 : x + kI e (pI e - vl x) = 0 := by
    apply vl_inj
    rw [vl_add, vl_kI, Int.add_emod_emod, vl_0, show vl x + (pI e - vl x) = pI e by omega, Int.emod_self]
  have h2 : kI e (pI e - vl x) = -x + (x + kI e (pI e - vl x)) := by grind
  rw [h2, h1]
  grind
theorem m_without {e : Nat} (he : e ≤ 1) (M : Mo) (hp : M 217 1 = pI e) {n : Nat} (hnb : nb e n) {S : Vc e → Prop} (hS : Sub n S) (hR : FRs n S (M 225) (M 226) (M 227)) (hd : M 217 7 = dm n S) {v : Vc e} (hv : sup n v) : PI 149 [(2, 217), (0, num n v)] M (num n (wo n S v)) := by
  refine Cl.intro (L := [(2, 217), (0, num n v), (9, 0), (9, 0), (9, 0)]) (rcv_v ow_149.2.1 sh_217) (by unfold entl; rw [mx_149]; rfl) (by rw [mx_149]; exact Nat.le_of_ble_eq_true rfl) rfl ?_
  have hn6 : n ≤ 6 := by unfold nb at hnb; omega
  have hdn := dm_le (n := n) S
  have hb := (pI23 he).b
  refine r_iload_n d_149_0 rfl ?_
  refine r_istore_n d_149_1 rfl (stl_5_2 rfl rfl) ?_
  refine r_iconst d_149_2 rfl ?_
  refine r_istore_n d_149_3 rfl (stl_5_3 rfl rfl) ?_
  refine dn_ind (R := fun r => ∀ y, Rn 149 4 [(2, 217), (0, num n v), (0, num n (wos S v r.toNat)), (0, r), y] [] M _) (lo := 0) (n := (dm n S : Int)) ?_ ?_ 0 (by omega) (by omega) _
  · intro y
    refine r_iload_n d_149_4 rfl ?_
    refine r_aload_n d_149_5 rfl (by omega) ?_
    refine r_getfv (ki := 7) d_149_6 q_149_122 rfl sh_217 hd ?_
    refine r_icmp_ge (t := 50) d_149_9 rfl (fun _ => ?_) (fun hz => absurd (by omega) hz)
    refine r_iload_n d_149_50 rfl ?_
    refine r_iret d_149_51 rt_149 ?_
    exact ⟨rfl, rfl⟩
  · intro r r1 r2 ih y
    have hri := hR.at (d := r.toNat) (by omega)
    rw [show ((r.toNat : Nat) : Int) = r by omega] at hri
    have hL := (pl_spec (show r.toNat < dm n S by omega)).1
    have hpl : pl (Lp S) r.toNat < n := pl_lt (show r.toNat < dm n S by omega)
    have hvr := vl_rng (v (pl (Lp S) r.toNat))
    have hpk := m_plusK he M hp hnb (wos_sup he hS hv (r := r.toNat) (by omega)) (crow_sup he hS hL) (c := pI e - vl (v (pl (Lp S) r.toNat))) (by omega)
    rw [kI_neg] at hpk
    refine r_iload_n d_149_4 rfl ?_
    refine r_aload_n d_149_5 rfl (by omega) ?_
    refine r_getfv (ki := 7) d_149_6 q_149_122 rfl sh_217 hd ?_
    refine r_icmp_ge (t := 50) d_149_9 rfl (fun hz => absurd hz (by omega)) (fun _ => ?_)
    refine r_aload_n d_149_12 rfl (by omega) ?_
    refine r_iload_n d_149_13 rfl ?_
    refine r_aload_n d_149_14 rfl (by omega) ?_
    refine r_getc (ki := 12) d_149_15 q_149_44 rfl sh_217 fx_217_12 (by omega) ?_
    refine r_iload_n d_149_18 rfl ?_
    refine r_ialoadv d_149_19 sh_227 (by omega) (by omega) hri.2 ?_
    refine r_callvp d_149_20 q_149_142 rfl rfl (m_figK he M hp hnb v rfl hpl) ?_
    refine r_istore d_149_23 rfl (stl_5_4 rfl rfl) ?_
    refine r_aload_n d_149_25 rfl (by omega) ?_
    refine r_iload_n d_149_26 rfl ?_
    refine r_aload_n d_149_27 rfl (by omega) ?_
    refine r_getc (ki := 11) d_149_28 q_149_41 rfl sh_217 fx_217_11 (by omega) ?_
    refine r_iload_n d_149_31 rfl ?_
    refine r_ialoadv d_149_32 sh_226 (by omega) (by omega) hri.1 ?_
    refine r_aload_n d_149_33 rfl (by omega) ?_
    refine r_getfv (ki := 1) d_149_34 q_149_13 rfl sh_217 hp ?_
    refine r_iload d_149_37 rfl ?_
    refine r_isub d_149_39 (by omega) ?_
    refine r_callvp d_149_40 q_149_125 rfl rfl hpk ?_
    refine r_istore_n d_149_43 rfl (stl_5_2 rfl rfl) ?_
    refine r_iinc d_149_44 rfl (by omega) (stl_5_3 rfl rfl) ?_
    refine r_goto (t := 4) d_149_47 rfl ?_
    have k3 := ih (0, vl (v (pl (Lp S) r.toNat)))
    rw [show (r + 1).toNat = r.toNat + 1 by omega] at k3
    exact k3
