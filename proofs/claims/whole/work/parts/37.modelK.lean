/-! The model: begins, sets, parts, rests, and what is asked simply. -/
theorem m_begins_bad (M : Mo) (hb : cb M) {q : Int} (h : ¬ (2 ≤ q ∧ q ≤ 3)) : PJ 153 [(2, 217), (0, q)] M (-2) (up2 M 218 0 (M 218 0 + 1)) := by
  refine Cl.intro (L := [(2, 217), (0, q), (9, 0)]) (rcv_v ow_153.2.1 sh_217) (by unfold entl; rw [mx_153]; rfl) (by rw [mx_153]; exact Nat.le_of_ble_eq_true rfl) rfl ?_
  have hbad := m_bad M (hb 0 (by omega) (by omega))
  refine r_iload_n d_153_0 rfl ?_
  refine r_iconst d_153_1 rfl ?_
  refine r_iconst d_153_2 rfl ?_
  refine r_callsp d_153_3 q_153_118 rfl rfl (m_in M q 2 3) ?_
  rw [if_neg h]
  refine r_if_ne (t := 14) d_153_6 rfl (fun hz => absurd hz (by decide)) (fun _ => ?_)
  refine r_aload_n d_153_9 rfl (by omega) ?_
  refine r_callvj d_153_10 q_153_172 rfl rfl hbad ?_
  refine r_iret d_153_13 rt_153 ?_
  exact ⟨rfl, rfl⟩
def s11 (e : Nat) : Sst := (e, fun _ => 1, fun _ _ _ _ => 0)
theorem m_begins {M : Mo} {s : Sst} {H : List Sst} (hv : vs s) (hc : cu M s) (hH : hi M H) {q : Int} {e : Nat} (hq : q = pI e) (he : e ≤ 1) : CI 153 [(2, 217), (0, q)] M (fun z M' => z = q ∧ chg M M' (s11 e) (psh H s)) := by
  refine Cl.intro (L := [(2, 217), (0, q), (9, 0)]) (rcv_v ow_153.2.1 sh_217) (by unfold entl; rw [mx_153]; rfl) (by rw [mx_153]; exact Nat.le_of_ble_eq_true rfl) rfl ?_
  have hpb := (pI23 he).b
  refine r_iload_n d_153_0 rfl ?_
  refine r_iconst d_153_1 rfl ?_
  refine r_iconst d_153_2 rfl ?_
  refine r_callsp d_153_3 q_153_118 rfl rfl (m_in M q 2 3) ?_
  rw [if_pos (by omega)]
  refine r_if_ne (t := 14) d_153_6 rfl (fun _ => ?_) (fun hz => absurd (by decide) hz)
  refine r_aload_n d_153_14 rfl (by omega) ?_
  refine r_callvr d_153_15 q_153_175 rfl rfl (m_leavesState M hv hc hH) (fun M1 hM1 => ?_)
  obtain ⟨hF1, h5, hH1⟩ := hM1
  refine r_aload_n d_153_18 rfl (by omega) ?_
  refine r_iload_n d_153_19 rfl ?_
  refine r_putf (ki := 1) d_153_20 q_153_13 rfl sh_217 fx_217_1 ?_
  refine r_aload_n d_153_23 rfl (by omega) ?_
  refine r_callvr d_153_24 q_153_156 rfl rfl (m_clearsFresh (up2 M1 217 1 q)) (fun M2 hM2 => ?_)
  obtain ⟨f, rfl, hf⟩ := hM2
  refine r_iconst d_153_27 rfl ?_
  refine r_istore_n d_153_28 rfl (stl_3_2 rfl rfl) ?_
  have hF2 : Fr WC M (sr (up2 M1 217 1 q) 221 f) := (hF1.trans (Q := WC) (R := WC) (M2 := up2 M1 217 1 q) (Fr.up (Or.inr (Or.inr (Or.inl ⟨rfl, rfl⟩)))) (fun x y q => Or.inr (Or.inl q)) (fun x y q => q)).trans (Q := WC) (sr_fr (fun y => Or.inl (Or.inr (Or.inl (by omega))))) (fun x y q => q) (fun x y q => q)
  have hH2 : hi (sr (up2 M1 217 1 q) 221 f) (psh H s) := hi.fr (hi.fr (M' := up2 M1 217 1 q) hH1 (P := fun x y => x = 217 ∧ y = 1) (Fr.up ⟨rfl, rfl⟩) (fun x y q => by omega)) (P := fun x _ => x = 221) (sr_fr (fun _ => rfl)) (fun x y q => by omega)
  have h51 : sr (up2 M1 217 1 q) 221 f 217 5 = -1 := by
    rw [sr_ne _ _ (by decide), ← h5]
    simp [up2]
  have hp1 : sr (up2 M1 217 1 q) 221 f 217 1 = q := by
    rw [sr_ne _ _ (by decide)]
    simp [up2]
  have hf221 : ∀ c : Int, 0 ≤ c → c < 72 → sr (up2 M1 217 1 q) 221 f 221 c = 0 := fun c h1 h2 => by
    rw [sr_eq]
    exact hf c h1 h2
  generalize sr (up2 M1 217 1 q) 221 f = M2 at *
  refine dn_ind (R := fun k => ∀ M2 : Mo, Fr WC M M2 → hi M2 (psh H s) → M2 217 5 = -1 → M2 217 1 = q → (∀ c : Int, 0 ≤ c → c < 72 → M2 221 c = 0) → (∀ k' : Nat, (k' : Int) < k → M2 219 k' = 1 ∧ M2 220 (72 * k') = 0 ∧ M2 220 (72 * k' + 36) = 0) → Rn 153 29 [(2, 217), (0, q), (0, k)] [] M2 _) (lo := 0) (n := 4) ?_ ?_ 0 (by omega) (by omega) M2 hF2 hH2 h51 hp1 hf221 (fun k' h => by omega)
  · intro M2 g1 g2 g3 g4 g5 g6
    refine r_iload_n d_153_29 rfl ?_
    refine r_iconst d_153_30 rfl ?_
    refine r_icmp_ge (t := 46) d_153_31 rfl (fun _ => ?_) (fun hz => absurd (by omega) hz)
    refine r_aload_n d_153_46 rfl (by omega) ?_
    refine r_getfv (ki := 1) d_153_47 q_153_13 rfl sh_217 g4 ?_
    refine r_iret d_153_50 rt_153 ?_
    refine ⟨_, rfl, rfl, g1, g3, ⟨g4.trans hq, fun k hk => ⟨(g6 k (by omega)).1, fun g i j a1 a2 a3 => ?_⟩⟩, g2⟩
    have := g6 k (by omega)
    have a2' : i < 1 := a2
    have a3' : j < 1 := a3
    show M2 220 _ = 0
    rcases (show g = 0 ∨ g = 1 by omega) with rfl | rfl
    · rw [← this.2.1]
      congr 1
      omega
    · rw [← this.2.2]
      congr 1
      omega
  · intro k k1 k2 ih M2 g1 g2 g3 g4 g5 g6
    refine r_iload_n d_153_29 rfl ?_
    refine r_iconst d_153_30 rfl ?_
    refine r_icmp_ge (t := 46) d_153_31 rfl (fun hz => absurd hz (by omega)) (fun _ => ?_)
    refine r_aload_n d_153_34 rfl (by omega) ?_
    refine r_iload_n d_153_35 rfl ?_
    refine r_iconst d_153_36 rfl ?_
    refine r_callvr d_153_37 q_153_159 rfl rfl (m_takesFresh M2 (k := k) (n := 1) (by omega)) (fun M3 hM3 => ?_)
    obtain ⟨hF3, hs3, hc3⟩ := hM3
    refine r_iinc d_153_40 rfl (by omega) (stl_3_2 rfl rfl) ?_
    refine r_goto (t := 29) d_153_43 rfl ?_
    refine ih M3 ?_ ?_ ?_ ?_ ?_ ?_
    · refine g1.trans hF3 (fun x y q => q) (fun x y q => ?_)
      rcases q with q | q
      · exact Or.inr (Or.inr (Or.inr (Or.inl ⟨q.1, by omega⟩)))
      · exact Or.inr (Or.inr (Or.inr (Or.inr (Or.inl ⟨q.1, by omega⟩))))
    · exact hi.fr g2 hF3 (fun x y q => by unfold WK at q; omega)
    · rw [hF3 _ _ (by unfold WK; omega)]
      exact g3
    · rw [hF3 _ _ (by unfold WK; omega)]
      exact g4
    · intro c h1 h2
      rw [hF3 _ _ (by unfold WK; omega)]
      exact g5 c h1 h2
    · intro k' hk'
      by_cases hkk : (k' : Int) = k
      · rw [hkk]
        have c0 := hc3 0 (by omega) (by omega)
        have c36 := hc3 36 (by omega) (by omega)
        rw [g5 _ (by omega) (by omega)] at c0 c36
        rw [Int.add_zero] at c0
        exact ⟨hs3, c0, c36⟩
      · have := g6 k' (by omega)
        rw [hF3 _ _ (by unfold WK; omega), hF3 _ _ (by unfold WK; omega), hF3 _ _ (by unfold WK; omega)]
        exact this
theorem m_size_bad (M : Mo) (hb : cb M) {k : Int} (h : ¬ (0 ≤ k ∧ k ≤ 3)) : PJ 164 [(2, 217), (0, k)] M (-2) (up2 M 218 0 (M 218 0 + 1)) := by
  refine Cl.intro (L := [(2, 217), (0, k)]) (rcv_v ow_164.2.1 sh_217) (by unfold entl; rw [mx_164]; rfl) (by rw [mx_164]; exact Nat.le_of_ble_eq_true rfl) rfl ?_
  have hbad := m_bad M (hb 0 (by omega) (by omega))
  refine r_iload_n d_164_0 rfl ?_
  refine r_callsp d_164_1 q_164_178 rfl rfl (m_isModule M k) ?_
  rw [if_neg h]
  refine r_if_eq (t := 16) d_164_4 rfl (fun _ => ?_) (fun hz => absurd (by decide) hz)
  refine r_aload_n d_164_16 rfl (by omega) ?_
  refine r_callvj d_164_17 q_164_172 rfl rfl hbad ?_
  refine r_iret d_164_20 rt_164 ?_
  exact ⟨rfl, rfl⟩
theorem m_size {M : Mo} {s : Sst} (hc : cu M s) {k : Nat} (hk : k < 4) : PI 164 [(2, 217), (0, (k : Int))] M (s.2.1 k) := by
  refine Cl.intro (L := [(2, 217), (0, (k : Int))]) (rcv_v ow_164.2.1 sh_217) (by unfold entl; rw [mx_164]; rfl) (by rw [mx_164]; exact Nat.le_of_ble_eq_true rfl) rfl ?_
  refine r_iload_n d_164_0 rfl ?_
  refine r_callsp d_164_1 q_164_178 rfl rfl (m_isModule M k) ?_
  rw [if_pos (by omega)]
  refine r_if_eq (t := 16) d_164_4 rfl (fun hz => absurd hz (by decide)) (fun _ => ?_)
  refine r_aload_n d_164_7 rfl (by omega) ?_
  refine r_getc (ki := 2) d_164_8 q_164_17 rfl sh_217 fx_217_2 (by omega) ?_
  refine r_iload_n d_164_11 rfl ?_
  refine r_ialoadv d_164_12 sh_219 (by omega) (by omega) (hc.2 k hk).1 ?_
  refine r_goto (t := 20) d_164_13 rfl ?_
  refine r_iret d_164_20 rt_164 ?_
  exact ⟨rfl, rfl⟩
/-- a valid entry -/
def okE (s : Sst) (k g i j : Int) : Prop := (0 ≤ k ∧ k ≤ 3) ∧ (0 ≤ g ∧ g ≤ 1) ∧ (0 ≤ i ∧ i < s.2.1 k.toNat) ∧ 0 ≤ j ∧ j < s.2.1 k.toNat
theorem m_at_bad (M : Mo) (hb : cb M) {s : Sst} (hv : vs s) (hc : cu M s) {k g i j : Int} (h : ¬ okE s k g i j) : PJ 165 [(2, 217), (0, k), (0, g), (0, i), (0, j)] M (-2) (up2 M 218 0 (M 218 0 + 1)) := by
  refine Cl.intro (L := [(2, 217), (0, k), (0, g), (0, i), (0, j)]) (rcv_v ow_165.2.1 sh_217) (by unfold entl; rw [mx_165]; rfl) (by rw [mx_165]; exact Nat.le_of_ble_eq_true rfl) rfl ?_
  have hbad := m_bad M (hb 0 (by omega) (by omega))
  refine r_iload_n d_165_0 rfl ?_
  refine r_callsp d_165_1 q_165_178 rfl rfl (m_isModule M k) ?_
  by_cases hk : 0 ≤ k ∧ k ≤ 3
  · have h6 := vs_6 hv (k := k.toNat) (by omega)
    have hsz := (hc.2 k.toNat (by omega)).1
    rw [show ((k.toNat : Nat) : Int) = k by omega] at hsz
    rw [if_pos hk]
    refine r_if_eq (t := 35) d_165_4 rfl (fun hz => absurd hz (by decide)) (fun _ => ?_)
    refine r_iload_n d_165_7 rfl ?_
    refine r_iconst d_165_8 rfl ?_
    refine r_iconst d_165_9 rfl ?_
    refine r_callsp d_165_10 q_165_118 rfl rfl (m_in M g 0 1) ?_
    by_cases hg : 0 ≤ g ∧ g ≤ 1
    · rw [if_pos hg]
      refine r_if_eq (t := 35) d_165_13 rfl (fun hz => absurd hz (by decide)) (fun _ => ?_)
      refine r_aload_n d_165_16 rfl (by omega) ?_
      refine r_iload_n d_165_17 rfl ?_
      refine r_iload_n d_165_18 rfl ?_
      refine r_callvp d_165_19 q_165_185 rfl rfl (m_isPlace M k i (by omega) hsz (by omega)) ?_
      by_cases hi : 0 ≤ i ∧ i < s.2.1 k.toNat
      · rw [if_pos hi]
        refine r_if_eq (t := 35) d_165_22 rfl (fun hz => absurd hz (by decide)) (fun _ => ?_)
        refine r_aload_n d_165_25 rfl (by omega) ?_
        refine r_iload_n d_165_26 rfl ?_
        refine r_iload d_165_27 rfl ?_
        refine r_callvp d_165_29 q_165_185 rfl rfl (m_isPlace M k j (by omega) hsz (by omega)) ?_
        rw [if_neg (fun q => h ⟨hk, hg, hi, q⟩)]
        refine r_if_ne (t := 40) d_165_32 rfl (fun hz => absurd hz (by decide)) (fun _ => ?_)
        refine r_aload_n d_165_35 rfl (by omega) ?_
        refine r_callvj d_165_36 q_165_172 rfl rfl hbad ?_
        refine r_iret d_165_39 rt_165 ?_
        exact ⟨rfl, rfl⟩
      · rw [if_neg hi]
        refine r_if_eq (t := 35) d_165_22 rfl (fun _ => ?_) (fun hz => absurd (by decide) hz)
        refine r_aload_n d_165_35 rfl (by omega) ?_
        refine r_callvj d_165_36 q_165_172 rfl rfl hbad ?_
        refine r_iret d_165_39 rt_165 ?_
        exact ⟨rfl, rfl⟩
    · rw [if_neg hg]
      refine r_if_eq (t := 35) d_165_13 rfl (fun _ => ?_) (fun hz => absurd (by decide) hz)
      refine r_aload_n d_165_35 rfl (by omega) ?_
      refine r_callvj d_165_36 q_165_172 rfl rfl hbad ?_
      refine r_iret d_165_39 rt_165 ?_
      exact ⟨rfl, rfl⟩
  · rw [if_neg hk]
    refine r_if_eq (t := 35) d_165_4 rfl (fun _ => ?_) (fun hz => absurd (by decide) hz)
    refine r_aload_n d_165_35 rfl (by omega) ?_
    refine r_callvj d_165_36 q_165_172 rfl rfl hbad ?_
    refine r_iret d_165_39 rt_165 ?_
    exact ⟨rfl, rfl⟩
theorem m_at {M : Mo} {s : Sst} (hv : vs s) (hc : cu M s) {k g i j : Nat} (hk : k < 4) (hg : g < 2) (hi : i < s.2.1 k) (hj : j < s.2.1 k) : PI 165 [(2, 217), (0, (k : Int)), (0, (g : Int)), (0, (i : Int)), (0, (j : Int))] M (s.2.2 k g i j) := by
  refine Cl.intro (L := [(2, 217), (0, (k : Int)), (0, (g : Int)), (0, (i : Int)), (0, (j : Int))]) (rcv_v ow_165.2.1 sh_217) (by unfold entl; rw [mx_165]; rfl) (by rw [mx_165]; exact Nat.le_of_ble_eq_true rfl) rfl ?_
  have h6 := vs_6 hv hk
  have hsz := (hc.2 k hk).1
  refine r_iload_n d_165_0 rfl ?_
  refine r_callsp d_165_1 q_165_178 rfl rfl (m_isModule M k) ?_
  rw [if_pos (by omega)]
  refine r_if_eq (t := 35) d_165_4 rfl (fun hz => absurd hz (by decide)) (fun _ => ?_)
  refine r_iload_n d_165_7 rfl ?_
  refine r_iconst d_165_8 rfl ?_
  refine r_iconst d_165_9 rfl ?_
  refine r_callsp d_165_10 q_165_118 rfl rfl (m_in M g 0 1) ?_
  rw [if_pos (by omega)]
  refine r_if_eq (t := 35) d_165_13 rfl (fun hz => absurd hz (by decide)) (fun _ => ?_)
  refine r_aload_n d_165_16 rfl (by omega) ?_
  refine r_iload_n d_165_17 rfl ?_
  refine r_iload_n d_165_18 rfl ?_
  refine r_callvp d_165_19 q_165_185 rfl rfl (m_isPlace M k i (by omega) hsz (by omega)) ?_
  rw [if_pos (by omega)]
  refine r_if_eq (t := 35) d_165_22 rfl (fun hz => absurd hz (by decide)) (fun _ => ?_)
  refine r_aload_n d_165_25 rfl (by omega) ?_
  refine r_iload_n d_165_26 rfl ?_
  refine r_iload d_165_27 rfl ?_
  refine r_callvp d_165_29 q_165_185 rfl rfl (m_isPlace M k j (by omega) hsz (by omega)) ?_
  rw [if_pos (by omega)]
  refine r_if_ne (t := 40) d_165_32 rfl (fun _ => ?_) (fun hz => absurd (by decide) hz)
  refine r_aload_n d_165_40 rfl (by omega) ?_
  refine r_getc (ki := 3) d_165_41 q_165_20 rfl sh_217 fx_217_3 (by omega) ?_
  refine r_iload_n d_165_44 rfl ?_
  refine r_iload_n d_165_45 rfl ?_
  refine r_iload_n d_165_46 rfl ?_
  refine r_iload d_165_47 rfl ?_
  refine r_callsp d_165_49 q_165_114 rfl rfl (m_cell M k g i j (by omega) (by omega) (by omega) (by omega)) ?_
  refine r_ialoadv d_165_52 sh_220 (by omega) (by omega) ((hc.2 k hk).2 g i j hg hi hj) ?_
  refine r_iret d_165_53 rt_165 ?_
  exact ⟨rfl, rfl⟩
theorem m_sets_bad (M : Mo) (hb : cb M) {s : Sst} (hv : vs s) (hc : cu M s) {k g i j v : Int} (h : ¬ (okE s k g i j ∧ 0 ≤ v ∧ v ≤ pI s.1 - 1)) : PJ 155 [(2, 217), (0, k), (0, g), (0, i), (0, j), (0, v)] M (-2) (up2 M 218 0 (M 218 0 + 1)) := by
  refine Cl.intro (L := [(2, 217), (0, k), (0, g), (0, i), (0, j), (0, v), (9, 0)]) (rcv_v ow_155.2.1 sh_217) (by unfold entl; rw [mx_155]; rfl) (by rw [mx_155]; exact Nat.le_of_ble_eq_true rfl) rfl ?_
  have hbad := m_bad M (hb 0 (by omega) (by omega))
  have hpb := (pI23 hv.1).b
  refine r_iload_n d_155_0 rfl ?_
  refine r_callsp d_155_1 q_155_178 rfl rfl (m_isModule M k) ?_
  by_cases hk : 0 ≤ k ∧ k ≤ 3
  · have h6 := vs_6 hv (k := k.toNat) (by omega)
    have hsz := (hc.2 k.toNat (by omega)).1
    rw [show ((k.toNat : Nat) : Int) = k by omega] at hsz
    rw [if_pos hk]
    refine r_if_eq (t := 50) d_155_4 rfl (fun hz => absurd hz (by decide)) (fun _ => ?_)
    refine r_iload_n d_155_7 rfl ?_
    refine r_iconst d_155_8 rfl ?_
    refine r_iconst d_155_9 rfl ?_
    refine r_callsp d_155_10 q_155_118 rfl rfl (m_in M g 0 1) ?_
    by_cases hg : 0 ≤ g ∧ g ≤ 1
    · rw [if_pos hg]
      refine r_if_eq (t := 50) d_155_13 rfl (fun hz => absurd hz (by decide)) (fun _ => ?_)
      refine r_aload_n d_155_16 rfl (by omega) ?_
      refine r_iload_n d_155_17 rfl ?_
      refine r_iload_n d_155_18 rfl ?_
      refine r_callvp d_155_19 q_155_185 rfl rfl (m_isPlace M k i (by omega) hsz (by omega)) ?_
      by_cases hi : 0 ≤ i ∧ i < s.2.1 k.toNat
      · rw [if_pos hi]
        refine r_if_eq (t := 50) d_155_22 rfl (fun hz => absurd hz (by decide)) (fun _ => ?_)
        refine r_aload_n d_155_25 rfl (by omega) ?_
        refine r_iload_n d_155_26 rfl ?_
        refine r_iload d_155_27 rfl ?_
        refine r_callvp d_155_29 q_155_185 rfl rfl (m_isPlace M k j (by omega) hsz (by omega)) ?_
        by_cases hj : 0 ≤ j ∧ j < s.2.1 k.toNat
        · rw [if_pos hj]
          refine r_if_eq (t := 50) d_155_32 rfl (fun hz => absurd hz (by decide)) (fun _ => ?_)
          refine r_iload d_155_35 rfl ?_
          refine r_iconst d_155_37 rfl ?_
          refine r_aload_n d_155_38 rfl (by omega) ?_
          refine r_getfv (ki := 1) d_155_39 q_155_13 rfl sh_217 hc.1 ?_
          refine r_iconst d_155_42 rfl ?_
          refine r_isub d_155_43 (by omega) ?_
          refine r_callsp d_155_44 q_155_118 rfl rfl (m_in M v 0 _) ?_
          rw [if_neg (fun q => h ⟨⟨hk, hg, hi, hj⟩, q⟩)]
          refine r_if_ne (t := 55) d_155_47 rfl (fun hz => absurd hz (by decide)) (fun _ => ?_)
          refine r_aload_n d_155_50 rfl (by omega) ?_
          refine r_callvj d_155_51 q_155_172 rfl rfl hbad ?_
          refine r_iret d_155_54 rt_155 ?_
          exact ⟨rfl, rfl⟩
        · rw [if_neg hj]
          refine r_if_eq (t := 50) d_155_32 rfl (fun _ => ?_) (fun hz => absurd (by decide) hz)
          refine r_aload_n d_155_50 rfl (by omega) ?_
          refine r_callvj d_155_51 q_155_172 rfl rfl hbad ?_
          refine r_iret d_155_54 rt_155 ?_
          exact ⟨rfl, rfl⟩
      · rw [if_neg hi]
        refine r_if_eq (t := 50) d_155_22 rfl (fun _ => ?_) (fun hz => absurd (by decide) hz)
        refine r_aload_n d_155_50 rfl (by omega) ?_
        refine r_callvj d_155_51 q_155_172 rfl rfl hbad ?_
        refine r_iret d_155_54 rt_155 ?_
        exact ⟨rfl, rfl⟩
    · rw [if_neg hg]
      refine r_if_eq (t := 50) d_155_13 rfl (fun _ => ?_) (fun hz => absurd (by decide) hz)
      refine r_aload_n d_155_50 rfl (by omega) ?_
      refine r_callvj d_155_51 q_155_172 rfl rfl hbad ?_
      refine r_iret d_155_54 rt_155 ?_
      exact ⟨rfl, rfl⟩
  · rw [if_neg hk]
    refine r_if_eq (t := 50) d_155_4 rfl (fun _ => ?_) (fun hz => absurd (by decide) hz)
    refine r_aload_n d_155_50 rfl (by omega) ?_
    refine r_callvj d_155_51 q_155_172 rfl rfl hbad ?_
    refine r_iret d_155_54 rt_155 ?_
    exact ⟨rfl, rfl⟩
def setE (E : Nat → Nat → Nat → Int) (g i j : Nat) (v : Int) (g' i' j' : Nat) : Int := if g' = g ∧ i' = i ∧ j' = j then v else E g' i' j'
/-- a change of one module's figures in place -/
theorem chg_place {M M1 M2 : Mo} {s : Sst} {H' : List Sst} {k : Nat} {E : Nat → Nat → Nat → Int} {f : Int → Int} (hv : vs s) (hc : cu M s) (hk : k < 4) (h1 : Fr WL M M1) (h5 : M1 217 5 = -1) (hH : hi M1 H') (h2 : M2 = sr M1 220 f) (ho : ∀ y : Int, ¬ (72 * (k : Int) ≤ y ∧ y < 72 * k + 72) → f y = M1 220 y) (hE : ∀ g i j : Nat, g < 2 → i < s.2.1 k → j < s.2.1 k → f (72 * k + 36 * g + 6 * i + j) = E g i j) : chg M M2 (setm s k (s.2.1 k) E) H' := by
  subst h2
  have h3 : Fr (WK k) M1 (sr M1 220 f) := fun x y q => by
    by_cases hx : x = 220
    · subst hx
      rw [sr_eq]
      unfold WK at q
      exact ho y (by omega)
    · rw [sr_ne _ _ hx]
  have hs : sr M1 220 f 219 k = s.2.1 k := by
    rw [sr_ne _ _ (by decide), h1 _ _ (by unfold WL; omega)]
    exact (hc.2 k hk).1
  refine ⟨?_, ?_, ⟨?_, fun k' hk' => ?_⟩, ?_⟩
  · refine h1.trans h3 (fun x y q => Or.inr (Or.inl q)) (fun x y q => ?_)
    rcases q with q | q
    · exact Or.inr (Or.inr (Or.inr (Or.inl ⟨q.1, by omega⟩)))
    · exact Or.inr (Or.inr (Or.inr (Or.inr (Or.inl ⟨q.1, by omega⟩))))
  · rw [h3 _ _ (by unfold WK; omega)]
    exact h5
  · rw [h3 _ _ (by unfold WK; omega), h1 _ _ (by unfold WL; omega)]
    exact hc.1
  · by_cases hkk : k' = k
    · subst hkk
      unfold setm
      simp only [if_pos]
      refine ⟨hs, fun g i j a1 a2 a3 => ?_⟩
      rw [sr_eq]
      exact hE g i j a1 a2 a3
    · unfold setm
      simp only [if_neg hkk]
      have hold := hc.2 k' hk'
      refine ⟨?_, fun g i j a1 a2 a3 => ?_⟩
      · rw [h3 _ _ (by unfold WK; omega), h1 _ _ (by unfold WL; omega)]
        exact hold.1
      · have h6 := vs_6 hv hk'
        rw [h3 _ _ (by unfold WK; omega), h1 _ _ (by unfold WL; omega)]
        exact hold.2 g i j a1 a2 a3
  · refine hi.fr hH h3 (fun x y q => ?_)
    unfold WK at q
    omega
theorem m_sets {M : Mo} {s : Sst} {H : List Sst} (hv : vs s) (hc : cu M s) (hH : hi M H) {k g i j : Nat} {v : Int} (hk : k < 4) (hg : g < 2) (hi : i < s.2.1 k) (hj : j < s.2.1 k) (hvv : 0 ≤ v ∧ v ≤ pI s.1 - 1) : CI 155 [(2, 217), (0, (k : Int)), (0, (g : Int)), (0, (i : Int)), (0, (j : Int)), (0, v)] M (fun z M' => z = s.2.2 k g i j ∧ chg M M' (setm s k (s.2.1 k) (setE (s.2.2 k) g i j v)) (psh H s)) := by
  refine Cl.intro (L := [(2, 217), (0, (k : Int)), (0, (g : Int)), (0, (i : Int)), (0, (j : Int)), (0, v), (9, 0)]) (rcv_v ow_155.2.1 sh_217) (by unfold entl; rw [mx_155]; rfl) (by rw [mx_155]; exact Nat.le_of_ble_eq_true rfl) rfl ?_
  have hpb := (pI23 hv.1).b
  have h6 := vs_6 hv hk
  have hsz := (hc.2 k hk).1
  refine r_iload_n d_155_0 rfl ?_
  refine r_callsp d_155_1 q_155_178 rfl rfl (m_isModule M k) ?_
  rw [if_pos (by omega)]
  refine r_if_eq (t := 50) d_155_4 rfl (fun hz => absurd hz (by decide)) (fun _ => ?_)
  refine r_iload_n d_155_7 rfl ?_
  refine r_iconst d_155_8 rfl ?_
  refine r_iconst d_155_9 rfl ?_
  refine r_callsp d_155_10 q_155_118 rfl rfl (m_in M g 0 1) ?_
  rw [if_pos (by omega)]
  refine r_if_eq (t := 50) d_155_13 rfl (fun hz => absurd hz (by decide)) (fun _ => ?_)
  refine r_aload_n d_155_16 rfl (by omega) ?_
  refine r_iload_n d_155_17 rfl ?_
  refine r_iload_n d_155_18 rfl ?_
  refine r_callvp d_155_19 q_155_185 rfl rfl (m_isPlace M k i (by omega) hsz (by omega)) ?_
  rw [if_pos (by omega)]
  refine r_if_eq (t := 50) d_155_22 rfl (fun hz => absurd hz (by decide)) (fun _ => ?_)
  refine r_aload_n d_155_25 rfl (by omega) ?_
  refine r_iload_n d_155_26 rfl ?_
  refine r_iload d_155_27 rfl ?_
  refine r_callvp d_155_29 q_155_185 rfl rfl (m_isPlace M k j (by omega) hsz (by omega)) ?_
  rw [if_pos (by omega)]
  refine r_if_eq (t := 50) d_155_32 rfl (fun hz => absurd hz (by decide)) (fun _ => ?_)
  refine r_iload d_155_35 rfl ?_
  refine r_iconst d_155_37 rfl ?_
  refine r_aload_n d_155_38 rfl (by omega) ?_
  refine r_getfv (ki := 1) d_155_39 q_155_13 rfl sh_217 hc.1 ?_
  refine r_iconst d_155_42 rfl ?_
  refine r_isub d_155_43 (by omega) ?_
  refine r_callsp d_155_44 q_155_118 rfl rfl (m_in M v 0 _) ?_
  rw [if_pos hvv]
  refine r_if_ne (t := 55) d_155_47 rfl (fun _ => ?_) (fun hz => absurd (by decide) hz)
  refine r_aload_n d_155_55 rfl (by omega) ?_
  refine r_callvr d_155_56 q_155_175 rfl rfl (m_leavesState M hv hc hH) (fun M1 hM1 => ?_)
  obtain ⟨hF1, h5, hH1⟩ := hM1
  have hc1 : cu M1 s := cu.fr hv hc hF1 (fun x y q => by unfold WL at q; omega)
  have hcell := m_cell M1 k g i j (by omega) (by omega) (by omega) (by omega)
  refine r_aload_n d_155_59 rfl (by omega) ?_
  refine r_getc (ki := 3) d_155_60 q_155_20 rfl sh_217 fx_217_3 (by omega) ?_
  refine r_iload_n d_155_63 rfl ?_
  refine r_iload_n d_155_64 rfl ?_
  refine r_iload_n d_155_65 rfl ?_
  refine r_iload d_155_66 rfl ?_
  refine r_callsp d_155_68 q_155_114 rfl rfl hcell ?_
  refine r_ialoadv d_155_71 sh_220 (by omega) (by omega) ((hc1.2 k hk).2 g i j hg hi hj) ?_
  refine r_istore d_155_72 rfl (stl_7_6 rfl rfl) ?_
  refine r_aload_n d_155_74 rfl (by omega) ?_
  refine r_getc (ki := 3) d_155_75 q_155_20 rfl sh_217 fx_217_3 (by omega) ?_
  refine r_iload_n d_155_78 rfl ?_
  refine r_iload_n d_155_79 rfl ?_
  refine r_iload_n d_155_80 rfl ?_
  refine r_iload d_155_81 rfl ?_
  refine r_callsp d_155_83 q_155_114 rfl rfl hcell ?_
  refine r_iload d_155_86 rfl ?_
  refine r_iastore d_155_88 sh_220 (by omega) (by omega) ?_
  refine r_iload d_155_89 rfl ?_
  refine r_iret d_155_91 rt_155 ?_
  refine ⟨_, rfl, rfl, chg_place hv hc hk hF1 h5 hH1 (up_s0 _ _ _ _) (fun y hy => u1_ne _ _ (by omega)) (fun g' i' j' a1 a2 a3 => ?_)⟩
  unfold setE
  by_cases hq : g' = g ∧ i' = i ∧ j' = j
  · obtain ⟨rfl, rfl, rfl⟩ := hq
    rw [if_pos ⟨rfl, rfl, rfl⟩, u1_eq]
  · rw [if_neg hq, u1_ne _ _ (by omega)]
    exact (hc1.2 k hk).2 g' i' j' a1 a2 a3
