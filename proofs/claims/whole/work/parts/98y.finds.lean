/-! The class: finds. -/
section
variable {e n : Nat} {A : Nat → Nat → Nat → Kf e}
def rfI (M : Mo) (a : Int) (r : Nat → Int) : Prop := (∀ k : Nat, k < 6 → M (a + 1) k = r k ∧ shp S0 (r k) = (0, 3) ∧ a + 2 ≤ r k ∧ r k ≤ a + 12) ∧ ∀ k q : Nat, k < 6 → q < 6 → r k = r q → k = q
def FS (M : Mo) (a : Int) (n : Nat) (A : Nat → Nat → Nat → Kf e) : Prop := ∃ (p : Nat) (r : Nat → Int) (sz : Nat → Nat) (Tm : Nat → Nat → Nat → Nat → Kf e), p ≤ 6 ∧ M a 2 = p ∧ rfI M a r ∧ (∀ k : Nat, k < p → AA e M (r k) (sz k) (Tm k) ∧ smM (sz k) (Tm k) ∧ canP (sz k) (Tm k) (sqA (sz k) (Tm k))) ∧ srtL n A ((List.range p).map (tyF sz Tm))
def WFd (a x y : Int) : Prop := (a + 1 ≤ x ∧ x ≤ a + 24) ∨ (x = a ∧ y = 2)
theorem c_finds (he : e ≤ 1) {M : Mo} (hp : M 1 0 = pI e) {a d : Int} (ha : shp S0 a = (1, 8)) (hd : shp S0 d = (0, 3)) {r0 : Nat → Int} (hr0 : rfI M a r0) (hn : n ≤ 6) (hA : AA e M d n A) : CV 19 [(2, a), (2, d)] M (fun M' => Fr (WFd a) M M' ∧ FS M' a n A) := by
  refine Cl.intro (L := [(2, a), (2, d), (9, 0)]) (rcv_v ow_19.2.1 ha) (by unfold entl; rw [mx_19]; rfl) (by rw [mx_19]; exact Nat.le_of_ble_eq_true rfl) rfl ?_
  have ha0 := shF_pos ha
  have hd0 := shA_pos hd
  have hab := shF_ab ha
  refine r_aload_n d_19_0 rfl (by omega) ?_
  refine r_getc (ki := 3) d_19_1 q_19_28 rfl ha (fxF ha).2.2.2.1 (by omega) ?_
  refine r_aload_n d_19_4 rfl (by omega) ?_
  refine r_callvr d_19_5 q_19_48 rfl rfl (c_copies M (shF14 ha) hd) (fun M1 hM1 => ?_)
  obtain ⟨hF1, e1, e2⟩ := hM1
  have hW1 : AA e M1 (a + 14) n A := hA.cp e1 e2
  refine r_aload_n d_19_8 rfl (by omega) ?_
  refine r_iconst d_19_9 rfl ?_
  refine r_putf (ki := 2) d_19_10 q_19_17 rfl ha (fxF ha).2.2.1 ?_
  refine r_iconst d_19_13 rfl ?_
  refine r_istore_n d_19_14 rfl (stl_3_2 rfl rfl) ?_
  refine dn_ind (R := fun i => ∀ (M2 : Mo) (n' : Nat) (A' : Nat → Nat → Nat → Kf e) (r : Nat → Int) (sz : Nat → Nat) (Tm : Nat → Nat → Nat → Nat → Kf e), Fr (WFd a) M M2 → AA e M2 (a + 14) n' A' → (n' : Int) + i ≤ n → M2 a 2 = i → rfI M2 a r → (∀ k : Nat, (k : Int) < i → AA e M2 (r k) (sz k) (Tm k) ∧ smM (sz k) (Tm k) ∧ canP (sz k) (Tm k) (sqA (sz k) (Tm k))) → srt ((List.range i.toNat).map (tyF sz Tm)) → (∀ L', MLs n' A' L' → ∃ L, MLs n A L ∧ L.Perm ((List.range i.toNat).map (tyF sz Tm) ++ L')) → Rn 19 15 [(2, a), (2, d), (0, i)] [] M2 _) (lo := 0) (n := 6) ?_ ?_ 0 (by omega) (by omega) (up2 M1 a 2 0) n A r0 (fun _ => 0) (fun _ _ _ _ => 0) (fun x y h => by unfold WFd at h; rw [uq_ne (by omega)]; exact hF1 x y (by unfold WA; omega)) (hW1.fr (P := fun x y => x = a ∧ y = 2) (fun x y h => uq_ne (by omega)) (fun x y q1 q2 => by unfold WA at q1; omega)) (by omega) uq_eq ⟨fun k hk => by rw [uq_ne (by omega), hF1 _ _ (by unfold WA; omega)]; exact hr0.1 k hk, hr0.2⟩ (fun k hk => by omega) List.Pairwise.nil (fun L' hL' => ⟨L', hL', List.Perm.refl _⟩)
  · intro M2 n' A' r sz Tm hF hW hsum hcnt hr hf hs hL
    have hn0 : n' = 0 := by omega
    subst hn0
    refine r_iload_n d_19_15 rfl ?_
    refine r_bipush d_19_16 rfl ?_
    refine r_icmp_ge (t := 113) d_19_18 rfl (fun _ => ?_) (fun hz => absurd (by omega) hz)
    refine r_vret d_19_113 rt_19 ?_
    obtain ⟨L, l1, l2⟩ := hL [] MLs_zero
    rw [List.append_nil] at l2
    refine ⟨rfl, hF, 6, r, sz, Tm, by omega, hcnt, hr, fun k hk => hf k (by omega), ⟨L, l1, l2.symm⟩, hs, fun t ht => ?_⟩
    obtain ⟨k, -, rfl⟩ := List.mem_map.mp ht
    exact ⟨_, _, rfl⟩
  · intro i i1 i2 ih M2 n' A' r sz Tm hF hW hsum hcnt hr hf hs hL
    have hi : ((i.toNat : Nat) : Int) = i := by omega
    refine r_iload_n d_19_15 rfl ?_
    refine r_bipush d_19_16 rfl ?_
    refine r_icmp_ge (t := 113) d_19_18 rfl (fun hz => absurd hz (by omega)) (fun _ => ?_)
    refine r_aload_n d_19_21 rfl (by omega) ?_
    refine r_getc (ki := 3) d_19_22 q_19_28 rfl ha (fxF ha).2.2.2.1 (by omega) ?_
    refine r_getfv (ki := 1) d_19_25 q_19_52 rfl (shF14 ha) hW.1 ?_
    by_cases hn0 : n' = 0
    · subst hn0
      refine r_if_le (t := 113) d_19_28 rfl (fun _ => ?_) (fun hz => absurd (by omega) hz)
      refine r_vret d_19_113 rt_19 ?_
      obtain ⟨L, l1, l2⟩ := hL [] MLs_zero
      rw [List.append_nil] at l2
      refine ⟨rfl, hF, i.toNat, r, sz, Tm, by omega, by rw [hcnt, hi], hr, fun k hk => hf k (by omega), ⟨L, l1, l2.symm⟩, hs, fun t ht => ?_⟩
      obtain ⟨k, -, rfl⟩ := List.mem_map.mp ht
      exact ⟨_, _, rfl⟩
    · have hp2 : M2 1 0 = pI e := (hF _ _ (by unfold WFd; omega)).trans hp
      refine r_if_le (t := 113) d_19_28 rfl (fun hz => absurd hz (by omega)) (fun _ => ?_)
      refine r_aload_n d_19_31 rfl (by omega) ?_
      refine r_getc (ki := 7) d_19_32 q_19_44 rfl ha (fxF ha).2.2.2.2.2.2.2 (by omega) ?_
      refine r_aload_n d_19_35 rfl (by omega) ?_
      refine r_getc (ki := 3) d_19_36 q_19_28 rfl ha (fxF ha).2.2.2.1 (by omega) ?_
      refine r_callvr d_19_39 q_19_55 rfl rfl (c_spinsLeast he hp2 (shF22 ha) (shF14 ha) hW (by omega)) (fun M3 hM3 => ?_)
      obtain ⟨hF3, v, v1, hT3, v3⟩ := hM3
      have hp3 : M3 1 0 = pI e := (hF3 _ _ (by unfold WP; omega)).trans hp2
      have hW3 := WP_A (shF22 ha) (shF14 ha) hF3 hW
      refine r_aload_n d_19_42 rfl (by omega) ?_
      refine r_getc (ki := 5) d_19_43 q_19_35 rfl ha (fxF ha).2.2.2.2.2.1 (by omega) ?_
      refine r_aload_n d_19_46 rfl (by omega) ?_
      refine r_getc (ki := 3) d_19_47 q_19_28 rfl ha (fxF ha).2.2.2.1 (by omega) ?_
      refine r_aload_n d_19_50 rfl (by omega) ?_
      refine r_getc (ki := 7) d_19_51 q_19_44 rfl ha (fxF ha).2.2.2.2.2.2.2 (by omega) ?_
      refine r_callvr d_19_54 q_19_58 rfl rfl (c_restricts he hp3 (shF18 ha) (shF14 ha) (shF22 ha) (by omega) hW3 hT3) (fun M4 hM4 => ?_)
      obtain ⟨hF4, hP4⟩ := hM4
      have hp4 : M4 1 0 = pI e := (hF4 _ _ (by unfold WA; omega)).trans hp3
      have hW4 := WA_A (shF18 ha) (shF14 ha) (by omega) hF4 hW3
      have hT4 := WA_T (shF18 ha) (shF22 ha) hF4 hT3
      refine r_aload_n d_19_57 rfl (by omega) ?_
      refine r_getc (ki := 4) d_19_58 q_19_32 rfl ha (fxF ha).2.2.2.2.1 (by omega) ?_
      refine r_aload_n d_19_61 rfl (by omega) ?_
      refine r_getc (ki := 3) d_19_62 q_19_28 rfl ha (fxF ha).2.2.2.1 (by omega) ?_
      refine r_aload_n d_19_65 rfl (by omega) ?_
      refine r_getc (ki := 7) d_19_66 q_19_44 rfl ha (fxF ha).2.2.2.2.2.2.2 (by omega) ?_
      refine r_callvr d_19_69 q_19_62 rfl rfl (c_divides he hp4 (shF16 ha) (shF14 ha) (shF22 ha) (by omega) hW4 hT4 v3) (fun M5 hM5 => ?_)
      obtain ⟨hF5, hR5⟩ := hM5
      have hp5 : M5 1 0 = pI e := (hF5 _ _ (by unfold WA; omega)).trans hp4
      have hP5 := WA_A (shF16 ha) (shF18 ha) (by omega) hF5 hP4
      have hG : Good n' (spin n' A' [] (toV e n' v)) := spin_good he Good.nil toV_sup
      have hdm : dm n' (spn (spin n' A' [] (toV e n' v))) = (spin n' A' [] (toV e n' v)).length := hG.2
      have hok := spS_ok (A := A') he (show n' ≤ 6 by omega) (toV_sup (e := e) (n := n') (v := v))
      have hSI : SI n' A' (spn (spin n' A' [] (toV e n' v))) := ⟨hok.1, hok.2.1⟩
      have hsm0 := sim_prt he (show n' ≤ 6 by omega) v1.1 v1.2.1 (lsv_smp he (by omega) v1)
      have hsm : smM (spin n' A' [] (toV e n' v)).length (prt n' A' (spn (spin n' A' [] (toV e n' v)))) := by
        rw [← hdm]
        exact hsm0
      have hri := hr.1 i.toNat (by omega)
      rw [hi] at hri
      have hF25 : Fr (fun x y => WP (a + 22) x y ∨ WA (a + 18) x y ∨ WA (a + 16) x y) M2 M5 := (hF3.trans hF4 (R := fun x y => WP (a + 22) x y ∨ WA (a + 18) x y ∨ WA (a + 16) x y) (fun x y q => Or.inl q) (fun x y q => Or.inr (Or.inl q))).trans hF5 (fun x y q => q) (fun x y q => Or.inr (Or.inr q))
      have hri5 : M5 (a + 1) i = r i.toNat := (hF25 _ _ (by unfold WA WP; omega)).trans hri.1
      refine r_aload_n d_19_72 rfl (by omega) ?_
      refine r_aload_n d_19_73 rfl (by omega) ?_
      refine r_getc (ki := 1) d_19_74 q_19_11 rfl ha (fxF ha).2.1 (by omega) ?_
      refine r_iload_n d_19_77 rfl ?_
      refine r_aaload d_19_78 (shF1 ha) (by decide) (by omega) (by omega) (by rw [hri5]; omega) ?_
      rw [hri5]
      refine r_callvr d_19_79 q_19_65 rfl rfl (c_formsPart he hp5 ha hri.2.1 (by omega) (by omega) hP5 hsm) (fun M6 hM6 => ?_)
      obtain ⟨hF6, Tb, hTb, hcan⟩ := hM6
      obtain ⟨hown1, hown2⟩ := frm_own he hsm hcan
      have hln : ((i.toNat : Nat) : Int) = i := hi
      have hF26 : Fr (fun x y => WP (a + 22) x y ∨ WA (a + 18) x y ∨ WA (a + 16) x y ∨ WA (a + 20) x y ∨ WA (r i.toNat) x y) M2 M6 := hF25.trans hF6 (fun x y q => by rcases q with q | q | q; exact Or.inl q; exact Or.inr (Or.inl q); exact Or.inr (Or.inr (Or.inl q))) (fun x y q => by rcases q with (q | q) | q; exact Or.inr (Or.inr (Or.inr (Or.inl q))); exact Or.inl q; exact Or.inr (Or.inr (Or.inr (Or.inr q))))
      have hc6 : M6 a 2 = i := (hF26 _ _ (by unfold WA WP; omega)).trans hcnt
      refine r_aload_n d_19_82 rfl (by omega) ?_
      refine r_dup d_19_83 rfl ?_
      refine r_getfv (ki := 2) d_19_84 q_19_17 rfl ha hc6 ?_
      refine r_iconst d_19_87 rfl ?_
      refine r_iadd d_19_88 (by omega) ?_
      refine r_putf (ki := 2) d_19_89 q_19_17 rfl ha (fxF ha).2.2.1 ?_
      refine r_aload_n d_19_92 rfl (by omega) ?_
      have hR6 : AA e M6 (a + 16) (n' - (spin n' A' [] (toV e n' v)).length) (rst n' A' (spn (spin n' A' [] (toV e n' v)))) := hR5.fr hF6 (fun x y q1 q2 => by
        have s1 := shA_AA hri.2.1 (shF16 ha)
        rcases q2 with q2 | q2
        · unfold WWf WA WP at q2
          unfold WA at q1
          omega
        · unfold WA at q1 q2
          omega)
      have hF67 : Fr (fun x y => x = a ∧ y = 2) M6 (up2 M6 a 2 (i + 1)) := fun x y h => uq_ne (by omega)
      have hu : up2 M6 a 2 (i + 1) a 2 = i + 1 := uq_eq
      generalize up2 M6 a 2 (i + 1) = M7 at hF67 hu ⊢
      have hF27 : Fr (fun x y => (a + 13 < x ∧ x ≤ a + 24) ∨ WA (r i.toNat) x y ∨ (x = a ∧ y = 2)) M2 M7 := hF26.trans hF67 (fun x y q => by unfold WA WP at q; unfold WA; omega) (fun x y q => Or.inr (Or.inr q))
      have hA7 : ∀ k : Nat, k ≤ i.toNat → AA e M7 (r k) (ud sz i.toNat (spin n' A' [] (toV e n' v)).length k) (ud Tm i.toNat Tb k) := fun k hk => by
        by_cases q : k = i.toNat
        · subst q
          rw [ud_e, ud_e]
          exact hTb.fr hF67 (fun x y q1 q2 => by unfold WA at q1; omega)
        · rw [ud_n q, ud_n q]
          have hrk := hr.1 k (by omega)
          have s1 := shA_AA hri.2.1 hrk.2.1
          have s2 : r k ≠ r i.toNat := fun w => q (hr.2 k _ (by omega) (by omega) w)
          exact (hf k (by omega)).1.fr hF27 (fun x y q1 q2 => by unfold WA at q1 q2; omega)
      refine r_callvr d_19_93 q_19_68 rfl rfl (c_sinksLast he ha (l := i.toNat) (by omega) (by rw [hu, hi]) (r := r) (fun k hk => ⟨(hF27 _ _ (by unfold WA; omega)).trans (hr.1 k hk).1, (hr.1 k hk).2.1⟩) hA7) (fun M8 hM8 => ?_)
      obtain ⟨hF8, j, hj, hM8r, hj1, hj2⟩ := hM8
      have hR8 : AA e M8 (a + 16) (n' - (spin n' A' [] (toV e n' v)).length) (rst n' A' (spn (spin n' A' [] (toV e n' v)))) := (hR6.fr hF67 (fun x y q1 q2 => by unfold WA at q1; omega)).fr hF8 (fun x y q1 q2 => by unfold WA at q1; omega)
      refine r_aload_n d_19_96 rfl (by omega) ?_
      refine r_getc (ki := 3) d_19_97 q_19_28 rfl ha (fxF ha).2.2.2.1 (by omega) ?_
      refine r_aload_n d_19_100 rfl (by omega) ?_
      refine r_getc (ki := 4) d_19_101 q_19_32 rfl ha (fxF ha).2.2.2.2.1 (by omega) ?_
      refine r_callvr d_19_104 q_19_48 rfl rfl (c_copies M8 (shF14 ha) (shF16 ha)) (fun M9 hM9 => ?_)
      obtain ⟨hF9, c1, c2⟩ := hM9
      have hR9 := hR8.cp c1 c2
      have hF79 : Fr (fun x y => x = a + 1 ∨ WA (a + 14) x y) M7 M9 := hF8.trans hF9 (fun x y q => Or.inl q) (fun x y q => Or.inr q)
      have hA9 : ∀ k : Nat, k ≤ i.toNat → AA e M9 (r k) (ud sz i.toNat (spin n' A' [] (toV e n' v)).length k) (ud Tm i.toNat Tb k) := fun k hk => by
        have hrk := hr.1 k (by omega)
        exact (hA7 k hk).fr hF79 (fun x y q1 q2 => by unfold WA at q1 q2; omega)
      have hx1 : (i + 1).toNat = i.toNat + 1 := by omega
      have hfl : tyF (ud sz i.toNat (spin n' A' [] (toV e n' v)).length) (ud Tm i.toNat Tb) i.toNat = ty (spin n' A' [] (toV e n' v)).length (sqA (spin n' A' [] (toV e n' v)).length Tb) := by
        unfold tyF
        rw [ud_e, ud_e]
      have hmap : (List.range i.toNat).map (tyF (ud sz i.toNat (spin n' A' [] (toV e n' v)).length) (ud Tm i.toNat Tb)) = (List.range i.toNat).map (tyF sz Tm) := List.map_congr_left (fun k hk => by
        have := List.mem_range.mp hk
        unfold tyF
        rw [ud_n (by omega), ud_n (by omega)])
      refine r_iinc d_19_107 rfl (by omega) (stl_3_2 rfl rfl) ?_
      refine r_goto (t := 15) d_19_110 rfl ?_
      refine ih M9 _ _ (fun k => r (insP j i.toNat k)) (fun k => ud sz i.toNat (spin n' A' [] (toV e n' v)).length (insP j i.toNat k)) (fun k => ud Tm i.toNat Tb (insP j i.toNat k)) ?_ hR9 ?_ ?_ ?_ ?_ ?_ ?_
      · exact (hF.trans hF27 (R := WFd a) (fun x y q => q) (fun x y q => by unfold WA at q; unfold WFd; omega)).trans hF79 (fun x y q => q) (fun x y q => by unfold WA at q; unfold WFd; omega)
      · have := hsm.1
        omega
      · rw [hF79 _ _ (by unfold WA; omega)]
        exact hu
      · refine ⟨fun k hk => ?_, fun k q hk hq w => ?_⟩
        · have hik := insP_lt hj (show i.toNat < 6 by omega) hk
          refine ⟨?_, (hr.1 _ hik).2⟩
          rw [hF9 _ _ (by unfold WA; omega)]
          exact hM8r k hk
        · exact insP_inj hj (hr.2 _ _ (insP_lt hj (by omega) hk) (insP_lt hj (by omega) hq) w)
      · intro k hk
        have hik := insP_le hj (show k ≤ i.toNat by omega)
        refine ⟨hA9 _ hik, ?_⟩
        show smM (ud sz i.toNat _ (insP j i.toNat k)) (ud Tm i.toNat Tb (insP j i.toNat k)) ∧ canP (ud sz i.toNat _ (insP j i.toNat k)) (ud Tm i.toNat Tb (insP j i.toNat k)) (sqA (ud sz i.toNat _ (insP j i.toNat k)) (ud Tm i.toNat Tb (insP j i.toNat k)))
        generalize insP j i.toNat k = b at hik
        by_cases q : b = i.toNat
        · subst q
          rw [ud_e, ud_e]
          exact ⟨hown1, hown2⟩
        · rw [ud_n q, ud_n q]
          exact (hf b (by omega)).2
      · rw [hx1]
        refine insP_srt (f := tyF (ud sz i.toNat (spin n' A' [] (toV e n' v)).length) (ud Tm i.toNat Tb)) hj (by rw [hmap]; exact hs) (fun k k1 k2 => ?_) ?_
        · unfold tyF
          rw [cmY_ty]
          exact hj1 k k1 k2
        · rcases hj2 with q | q
          · exact Or.inl q
          · right
            unfold tyF
            rw [cmY_ty]
            exact q
      · intro L' hL'
        have hcut : MLs n' A' ([ty (spin n' A' [] (toV e n' v)).length (sqA (spin n' A' [] (toV e n' v)).length Tb)] ++ L') := MLs_cut he hSI (by rw [hdm]; exact MLs_sim hsm hcan) (by rw [hdm]; exact hL')
        obtain ⟨L, l1, l2⟩ := hL _ hcut
        refine ⟨L, l1, l2.trans ?_⟩
        rw [← List.append_assoc, hx1]
        refine List.Perm.append_right _ ?_
        have := insP_perm (f := tyF (ud sz i.toNat (spin n' A' [] (toV e n' v)).length) (ud Tm i.toNat Tb)) hj
        rw [hmap, hfl] at this
        exact this.symm
end
