/-! The model: the rest beside a space as a module. -/
theorem cnt_not {P : Nat → Prop} : ∀ {n : Nat}, cnt P n + cnt (fun i => ¬ P i) n = n
  | 0 => rfl
  | n + 1 => by
    show cnt P n + ifp (P n) 1 0 + (cnt (fun i => ¬ P i) n + ifp (¬ P n) 1 0) = n + 1
    have := cnt_not (P := P) (n := n)
    by_cases h : P n
    · rw [ifp_t h, ifp_f (fun q => q h)]
      omega
    · rw [ifp_f h, ifp_t h]
      omega
def un {e : Nat} (i : Nat) : Vc e := fun j => if j = i then 1 else 0
theorem un_sup {e n i : Nat} (h : i < n) : sup n (un i : Vc e) := fun j hj => by
  unfold un
  rw [if_neg (by omega)]
theorem num_un {e n i : Nat} (h : i < n) : num n (un i : Vc e) = pI e ^ i := by
  have key : ∀ m : Nat, num m (un i : Vc e) = if i < m then pI e ^ i else 0 := by
    intro m
    induction m with
    | zero => rfl
    | succ m ih =>
      show num m (un i : Vc e) + vl ((un i : Vc e) m) * pI e ^ m = _
      rw [ih]
      unfold un
      by_cases h1 : m = i
      · subst h1
        rw [if_neg (by omega), if_pos rfl, if_pos (by omega), vl_1]
        omega
      · rw [if_neg h1, vl_0]
        by_cases h2 : i < m
        · rw [if_pos h2, if_pos (by omega)]
          omega
        · rw [if_neg h2, if_neg (by omega)]
          omega
  rw [key n, if_pos h]
def nL {e : Nat} (S : Vc e → Prop) (i : Nat) : Prop := ¬ Lp S i
theorem nL_cnt {e n : Nat} (S : Vc e → Prop) : dm n S + cnt (nL S) n = n := cnt_not
/-- what is left beside the subspace as a module -/
noncomputable def rst {e : Nat} (n : Nat) (A : Nat → Nat → Nat → Kf e) (S : Vc e → Prop) (g i j : Nat) : Kf e := wo n S (mv n (A g) (un (pl (nL S) i))) (pl (nL S) j)
theorem m_tellsRest {e : Nat} (he : e ≤ 1) (M : Mo) (hp : M 217 1 = pI e) {k k2 : Int} {n : Nat} {A : Nat → Nat → Nat → Kf e} (hk : 0 ≤ k ∧ k ≤ 10) (hk2 : 0 ≤ k2 ∧ k2 ≤ 10) (hM : MM e M k n A) {S : Vc e → Prop} (hS : Sub n S) (hh : hs n (M 222) S) (hd : M 217 7 = dm n S) : CV 150 [(2, 217), (0, k), (0, k2)] M (fun M' => Fr (W2 k2) M M' ∧ MM e M' k2 (n - dm n S) (rst n A S)) := by
  refine Cl.intro (L := [(2, 217), (0, k), (0, k2), (9, 0), (9, 0), (9, 0), (9, 0), (9, 0), (9, 0), (9, 0)]) (rcv_v ow_150.2.1 sh_217) (by unfold entl; rw [mx_150]; rfl) (by rw [mx_150]; exact Nat.le_of_ble_eq_true rfl) rfl ?_
  have hnb := hM.2.1
  have hn6 : n ≤ 6 := by unfold nb at hnb; omega
  have hdn := dm_le (n := n) S
  have hcn := nL_cnt (n := n) S
  refine r_aload_n d_150_0 rfl (by omega) ?_
  refine r_getc (ki := 2) d_150_1 q_150_17 rfl sh_217 fx_217_2 (by omega) ?_
  refine r_iload_n d_150_4 rfl ?_
  refine r_ialoadv d_150_5 sh_219 (by omega) (by omega) hM.1 ?_
  refine r_istore_n d_150_6 rfl (stl_10_3 rfl rfl) ?_
  refine r_aload_n d_150_7 rfl (by omega) ?_
  refine r_iload_n d_150_8 rfl ?_
  refine r_callvr d_150_9 q_150_152 rfl rfl (m_findsRowsF he M hp hnb hS hh) (fun M1 hM1 => ?_)
  obtain ⟨hF1, hR⟩ := hM1
  refine r_aload_n d_150_12 rfl (by omega) ?_
  refine r_callvr d_150_13 q_150_156 rfl rfl (m_clearsFresh M1) (fun M2 hM2 => ?_)
  obtain ⟨f0, rfl, hf0⟩ := hM2
  have hp2 : ∀ f, sr M1 221 f 217 1 = pI e := fun f => by rw [sr_ne _ _ (by decide)]; exact (hF1 _ _ (by unfold WR; omega)).trans hp
  have hd2 : ∀ f, sr M1 221 f 217 7 = dm n S := fun f => by rw [sr_ne _ _ (by decide)]; exact (hF1 _ _ (by unfold WR; omega)).trans hd
  have hMM : ∀ f, MM e (sr M1 221 f) k n A := fun f => (hM.fr hF1 (fun x y h1 h2 => by unfold WK at h1; unfold WR at h2; omega)).fr (P := WF) (sr_fr (fun y => Or.inl rfl)) (fun x y h1 h2 => by unfold WK at h1; unfold WF at h2; omega)
  have hR2 : ∀ f, FRs n S (sr M1 221 f 225) (sr M1 221 f 226) (sr M1 221 f 227) := fun f => by
    rw [sr_ne _ _ (by decide), sr_ne _ _ (by decide), sr_ne _ _ (by decide)]
    exact hR
  have hfi : ∀ f, ∀ i : Int, 0 ≤ i → i < n → (Lp S i.toNat → sr M1 221 f 225 i = 1) ∧ (nL S i.toNat → sr M1 221 f 225 i = 0) := fun f i i1 i2 => by
    have := (hR2 f).1 i.toNat (by omega)
    rw [show ((i.toNat : Nat) : Int) = i by omega] at this
    exact this
  refine r_iconst d_150_16 rfl ?_
  refine r_istore d_150_17 rfl (stl_10_4 rfl rfl) ?_
  refine dn_ind (R := fun g => ∀ f y1 y2 y3 y4 y5, fil (n - dm n S) (fun g i j => vl (rst n A S g i j)) f g 0 0 → Rn 150 19 [(2, 217), (0, k), (0, k2), (0, (n : Int)), (0, g), y1, y2, y3, y4, y5] [] (sr M1 221 f) _) (lo := 0) (n := 2) ?_ ?_ 0 (by omega) (by omega) f0 _ _ _ _ _ fil.start
  · intro f y1 y2 y3 y4 y5 hf
    refine r_iload d_150_19 rfl ?_
    refine r_iconst d_150_21 rfl ?_
    refine r_icmp_ge (t := 135) d_150_22 rfl (fun _ => ?_) (fun hz => absurd (by omega) hz)
    refine r_aload_n d_150_135 rfl (by omega) ?_
    refine r_iload_n d_150_136 rfl ?_
    refine r_iload_n d_150_137 rfl ?_
    refine r_aload_n d_150_138 rfl (by omega) ?_
    refine r_getfv (ki := 7) d_150_139 q_150_122 rfl sh_217 (hd2 f) ?_
    refine r_isub d_150_142 (by omega) ?_
    refine r_callvr d_150_143 q_150_159 rfl rfl (m_takesFresh (sr M1 221 f) hk2) (fun M2 hM2 => ?_)
    obtain ⟨hF2, hs2, hc2⟩ := hM2
    refine r_vret d_150_146 rt_150 ?_
    refine ⟨rfl, ?_, ?_⟩
    · refine (hF1.trans (Q := WF) (R := WF) (sr_fr (fun y => Or.inl rfl)) (fun x y h => Or.inr h) (fun x y h => h)).trans hF2 (fun x y h => Or.inl h) (fun x y h => Or.inr h)
    · refine takes_MM (by rw [hs2]; omega) hc2 (by unfold nb at *; omega) (fun g i j a1 a2 a3 => ?_)
      rw [sr_eq]
      exact hf.fin a1 a2 a3
  · intro g g1 g2 ih f y1 y2 y3 y4 y5 hf
    refine r_iload d_150_19 rfl ?_
    refine r_iconst d_150_21 rfl ?_
    refine r_icmp_ge (t := 135) d_150_22 rfl (fun hz => absurd hz (by omega)) (fun _ => ?_)
    refine r_iconst d_150_25 rfl ?_
    refine r_istore d_150_26 rfl (stl_10_5 rfl rfl) ?_
    refine r_iconst d_150_28 rfl ?_
    refine r_istore d_150_29 rfl (stl_10_6 rfl rfl) ?_
    refine dn_ind (R := fun i => ∀ f y3 y4 y5, fil (n - dm n S) (fun g i j => vl (rst n A S g i j)) f g (cnt (nL S) i.toNat : Nat) 0 → Rn 150 31 [(2, 217), (0, k), (0, k2), (0, (n : Int)), (0, g), (0, (cnt (nL S) i.toNat : Nat)), (0, i), y3, y4, y5] [] (sr M1 221 f) _) (lo := 0) (n := (n : Int)) ?_ ?_ 0 (by omega) (by omega) f _ _ _ hf
    · intro f y3 y4 y5 hf
      refine r_iload d_150_31 rfl ?_
      refine r_iload_n d_150_33 rfl ?_
      refine r_icmp_ge (t := 129) d_150_34 rfl (fun _ => ?_) (fun hz => absurd (by omega) hz)
      refine r_iinc d_150_129 rfl (by omega) (stl_10_4 rfl rfl) ?_
      refine r_goto (t := 19) d_150_132 rfl ?_
      refine ih _ _ _ _ _ _ (hf.ng ?_)
      rw [Int.toNat_natCast]
      omega
    · intro i i1 i2 ih2 f y3 y4 y5 hf
      have hcs : cnt (nL S) (i + 1).toNat = cnt (nL S) i.toNat + ifp (nL S i.toNat) 1 0 := by
        rw [show (i + 1).toNat = i.toNat + 1 by omega]
        rfl
      have hcl := cnt_le (nL S) i.toNat
      refine r_iload d_150_31 rfl ?_
      refine r_iload_n d_150_33 rfl ?_
      refine r_icmp_ge (t := 129) d_150_34 rfl (fun hz => absurd hz (by omega)) (fun _ => ?_)
      by_cases hL : Lp S i.toNat
      · rw [ifp_f (fun q => q hL)] at hcs
        refine r_aload_n d_150_37 rfl (by omega) ?_
        refine r_getc (ki := 10) d_150_38 q_150_38 rfl sh_217 fx_217_10 (by omega) ?_
        refine r_iload d_150_41 rfl ?_
        refine r_ialoadv d_150_43 sh_225 (by omega) (by omega) ((hfi f i i1 i2).1 hL) ?_
        refine r_if_ne (t := 123) d_150_44 rfl (fun _ => ?_) (fun hz => absurd (by decide) hz)
        refine r_iinc d_150_123 rfl (by omega) (stl_10_6 rfl rfl) ?_
        refine r_goto (t := 31) d_150_126 rfl ?_
        have k3 := ih2 f y3 y4 y5
        rw [hcs] at k3
        exact k3 hf
      · have hnL : nL S i.toNat := hL
        rw [ifp_t hnL] at hcs
        have hpi : pl (nL S) (cnt (nL S) i.toNat) = i.toNat := pl_cnt hnL
        have hrow : cnt (nL S) i.toNat < n - dm n S := by
          have := cnt_lt (show i.toNat < n by omega) hnL
          omega
        have hpow := m_power (sr M1 221 f) (hp2 f) (pI23 he) i (by omega)
        rw [← num_un (e := e) (n := n) (i := i.toNat) (by omega)] at hpow
        refine r_aload_n d_150_37 rfl (by omega) ?_
        refine r_getc (ki := 10) d_150_38 q_150_38 rfl sh_217 fx_217_10 (by omega) ?_
        refine r_iload d_150_41 rfl ?_
        refine r_ialoadv d_150_43 sh_225 (by omega) (by omega) ((hfi f i i1 i2).2 hnL) ?_
        refine r_if_ne (t := 123) d_150_44 rfl (fun hz => absurd hz (by decide)) (fun _ => ?_)
        refine r_aload_n d_150_47 rfl (by omega) ?_
        refine r_aload_n d_150_48 rfl (by omega) ?_
        refine r_iload_n d_150_49 rfl ?_
        refine r_iload d_150_50 rfl ?_
        refine r_aload_n d_150_52 rfl (by omega) ?_
        refine r_iload d_150_53 rfl ?_
        refine r_callvp d_150_55 q_150_110 rfl rfl hpow ?_
        refine r_callvp d_150_58 q_150_133 rfl rfl (m_moves he _ (hp2 f) hk (hMM f) (g := g) (gn := g.toNat) (by omega) (by omega) (un i.toNat)) ?_
        refine r_callvp d_150_61 q_150_162 rfl rfl (m_without he _ (hp2 f) hnb hS (hR2 f) (hd2 f) sup_mv) ?_
        refine r_istore d_150_64 rfl (stl_10_7 rfl rfl) ?_
        refine r_iconst d_150_66 rfl ?_
        refine r_istore d_150_67 rfl (stl_10_8 rfl rfl) ?_
        refine r_iconst d_150_69 rfl ?_
        refine r_istore d_150_70 rfl (stl_10_9 rfl rfl) ?_
        refine dn_ind (R := fun j => ∀ f, fil (n - dm n S) (fun g i j => vl (rst n A S g i j)) f g (cnt (nL S) i.toNat : Nat) (cnt (nL S) j.toNat : Nat) → Rn 150 72 [(2, 217), (0, k), (0, k2), (0, (n : Int)), (0, g), (0, (cnt (nL S) i.toNat : Nat)), (0, i), (0, num n (wo n S (mv n (A g.toNat) (un i.toNat)))), (0, (cnt (nL S) j.toNat : Nat)), (0, j)] [] (sr M1 221 f) _) (lo := 0) (n := (n : Int)) ?_ ?_ 0 (by omega) (by omega) f hf
        · intro f hf
          refine r_iload d_150_72 rfl ?_
          refine r_iload_n d_150_74 rfl ?_
          refine r_icmp_ge (t := 120) d_150_75 rfl (fun _ => ?_) (fun hz => absurd (by omega) hz)
          refine r_iinc d_150_120 rfl (by omega) (stl_10_5 rfl rfl) ?_
          refine r_iinc d_150_123 rfl (by omega) (stl_10_6 rfl rfl) ?_
          refine r_goto (t := 31) d_150_126 rfl ?_
          have k3 := ih2 f (0, num n (wo n S (mv n (A g.toNat) (un i.toNat)))) (0, (cnt (nL S) (n : Int).toNat : Nat)) (0, (n : Int))
          rw [hcs] at k3
          refine k3 (hf.ni ?_)
          rw [Int.toNat_natCast]
          omega
        · intro j j1 j2 ih3 f hf
          have hcj : cnt (nL S) (j + 1).toNat = cnt (nL S) j.toNat + ifp (nL S j.toNat) 1 0 := by
            rw [show (j + 1).toNat = j.toNat + 1 by omega]
            rfl
          have hclj := cnt_le (nL S) j.toNat
          refine r_iload d_150_72 rfl ?_
          refine r_iload_n d_150_74 rfl ?_
          refine r_icmp_ge (t := 120) d_150_75 rfl (fun hz => absurd hz (by omega)) (fun _ => ?_)
          by_cases hLj : Lp S j.toNat
          · rw [ifp_f (fun q => q hLj)] at hcj
            refine r_aload_n d_150_78 rfl (by omega) ?_
            refine r_getc (ki := 10) d_150_79 q_150_38 rfl sh_217 fx_217_10 (by omega) ?_
            refine r_iload d_150_82 rfl ?_
            refine r_ialoadv d_150_84 sh_225 (by omega) (by omega) ((hfi f j j1 j2).1 hLj) ?_
            refine r_if_ne (t := 114) d_150_85 rfl (fun _ => ?_) (fun hz => absurd (by decide) hz)
            refine r_iinc d_150_114 rfl (by omega) (stl_10_9 rfl rfl) ?_
            refine r_goto (t := 72) d_150_117 rfl ?_
            have k3 := ih3 f
            rw [hcj] at k3
            exact k3 hf
          · have hnj : nL S j.toNat := hLj
            rw [ifp_t hnj] at hcj
            have hpj : pl (nL S) (cnt (nL S) j.toNat) = j.toNat := pl_cnt hnj
            have hcol : cnt (nL S) j.toNat < n - dm n S := by
              have := cnt_lt (show j.toNat < n by omega) hnj
              omega
            refine r_aload_n d_150_78 rfl (by omega) ?_
            refine r_getc (ki := 10) d_150_79 q_150_38 rfl sh_217 fx_217_10 (by omega) ?_
            refine r_iload d_150_82 rfl ?_
            refine r_ialoadv d_150_84 sh_225 (by omega) (by omega) ((hfi f j j1 j2).2 hnj) ?_
            refine r_if_ne (t := 114) d_150_85 rfl (fun hz => absurd hz (by decide)) (fun _ => ?_)
            refine r_aload_n d_150_88 rfl (by omega) ?_
            refine r_getc (ki := 4) d_150_89 q_150_23 rfl sh_217 fx_217_4 (by omega) ?_
            refine r_iconst d_150_92 rfl ?_
            refine r_iload d_150_93 rfl ?_
            refine r_iload d_150_95 rfl ?_
            refine r_iload d_150_97 rfl ?_
            refine r_callsp d_150_99 q_150_114 rfl rfl (m_cell _ 0 g _ _ (by omega) (by omega) (by omega) (by omega)) ?_
            refine r_aload_n d_150_102 rfl (by omega) ?_
            refine r_iload d_150_103 rfl ?_
            refine r_iload d_150_105 rfl ?_
            refine r_callvp d_150_107 q_150_142 rfl rfl (m_figK he _ (hp2 f) hnb (wo n S (mv n (A g.toNat) (un i.toNat))) (j := j.toNat) (by omega) (by omega)) ?_
            refine r_iastore d_150_110 sh_221 (by omega) (by omega) ?_
            rw [up_sr]
            refine r_iinc d_150_111 rfl (by omega) (stl_10_8 rfl rfl) ?_
            refine r_iinc d_150_114 rfl (by omega) (stl_10_9 rfl rfl) ?_
            refine r_goto (t := 72) d_150_117 rfl ?_
            have k3 := ih3 (u1 f (72 * 0 + 36 * g + 6 * (cnt (nL S) i.toNat : Nat) + (cnt (nL S) j.toNat : Nat)) (vl (wo n S (mv n (A g.toNat) (un i.toNat)) j.toNat)))
            rw [hcj] at k3
            refine k3 (hf.put (by omega) (gn := g.toNat) (i2 := cnt (nL S) i.toNat) (j2 := cnt (nL S) j.toNat) (by omega) rfl rfl hrow hcol ?_ (by omega))
            show _ = vl (wo n S (mv n (A g.toNat) (un (pl (nL S) (cnt (nL S) i.toNat)))) (pl (nL S) (cnt (nL S) j.toNat)))
            rw [hpi, hpj]
