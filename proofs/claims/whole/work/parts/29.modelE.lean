/-! The model: canonical rows. -/
theorem m_figK {e : Nat} (he : e ≤ 1) (M : Mo) (hp : M 217 1 = pI e) {n : Nat} (hn : nb e n) (w : Vc e) {i : Int} {j : Nat} (hi : i = j) (hj : j < n) : PI 132 [(2, 217), (0, num n w), (0, i)] M (vl (w j)) := by
  have hr := num_rng he n w
  have h2 := pw_243 he hn
  have hn6 : n ≤ 6 := by unfold nb at hn; omega
  have h := m_figure M hp (pI23 he) (num n w) i (by omega) (by omega)
  rw [show i.toNat = j by omega, dg_num he w hj] at h
  exact h
theorem m_firstOf {e : Nat} (he : e ≤ 1) (M : Mo) (hp : M 217 1 = pI e) {n : Nat} (hn : nb e n) (w : Vc e) {i : Nat} (h1 : i ≤ n) (h2 : ∀ j, j < i → w j = 0) (h3 : i < n → w i ≠ 0) : PI 145 [(2, 217), (0, num n w), (0, (n : Int))] M (i : Int) := by
  refine Cl.intro (L := [(2, 217), (0, num n w), (0, (n : Int)), (9, 0)]) (rcv_v ow_145.2.1 sh_217) (by unfold entl; rw [mx_145]; rfl) (by rw [mx_145]; exact Nat.le_of_ble_eq_true rfl) rfl ?_
  have hn6 : n ≤ 6 := by unfold nb at hn; omega
  refine r_iconst d_145_0 rfl ?_
  refine r_istore_n d_145_1 rfl (stl_4_3 rfl rfl) ?_
  refine dn_ind (R := fun j => Rn 145 2 [(2, 217), (0, num n w), (0, (n : Int)), (0, j)] [] M _) (lo := 0) (n := i) ?_ ?_ 0 (by omega) (by omega)
  · by_cases hin : i < n
    · refine r_iload_n d_145_2 rfl ?_
      refine r_iload_n d_145_3 rfl ?_
      refine r_icmp_ge (t := 22) d_145_4 rfl (fun hz => absurd hz (by omega)) (fun _ => ?_)
      refine r_aload_n d_145_7 rfl (by omega) ?_
      refine r_iload_n d_145_8 rfl ?_
      refine r_iload_n d_145_9 rfl ?_
      refine r_callvp d_145_10 q_145_142 rfl rfl (m_figK he M hp hn w rfl hin) ?_
      have hne : vl (w i) ≠ 0 := fun q => h3 hin (vl_eq0.mp q)
      refine r_if_ne (t := 22) d_145_13 rfl (fun _ => ?_) (fun hz => absurd hne hz)
      refine r_iload_n d_145_22 rfl ?_
      refine r_iret d_145_23 rt_145 ?_
      exact ⟨rfl, rfl⟩
    · refine r_iload_n d_145_2 rfl ?_
      refine r_iload_n d_145_3 rfl ?_
      refine r_icmp_ge (t := 22) d_145_4 rfl (fun _ => ?_) (fun hz => absurd (by omega) hz)
      refine r_iload_n d_145_22 rfl ?_
      refine r_iret d_145_23 rt_145 ?_
      exact ⟨rfl, rfl⟩
  · intro j j1 j2 ih
    have hz : vl (w j.toNat) = 0 := vl_eq0.mpr (h2 j.toNat (by omega))
    refine r_iload_n d_145_2 rfl ?_
    refine r_iload_n d_145_3 rfl ?_
    refine r_icmp_ge (t := 22) d_145_4 rfl (fun hz => absurd hz (by omega)) (fun _ => ?_)
    refine r_aload_n d_145_7 rfl (by omega) ?_
    refine r_iload_n d_145_8 rfl ?_
    refine r_iload_n d_145_9 rfl ?_
    refine r_callvp d_145_10 q_145_142 rfl rfl (m_figK he M hp hn w (j := j.toNat) (by omega) (by omega)) ?_
    refine r_if_ne (t := 22) d_145_13 rfl (fun hz => absurd hz (by omega)) (fun _ => ?_)
    refine r_iinc d_145_16 rfl (by omega) (stl_4_3 rfl rfl) ?_
    refine r_goto (t := 2) d_145_19 rfl ?_
    exact ih
/-- which places are first ones of a space, in an array -/
def fi {e : Nat} (n : Nat) (f : Int → Int) (S : Vc e → Prop) : Prop := ∀ i : Nat, i < n → (Lp S i → f i = 1) ∧ (¬ Lp S i → f i = 0)
theorem m_isRow {e : Nat} (he : e ≤ 1) (M : Mo) (hp : M 217 1 = pI e) {n : Nat} (hn : nb e n) {S : Vc e → Prop} (hf : fi n (M 225) S) (hS : Sub n S) {w : Vc e} (hw : S w) {i : Nat} (hi : i < n) : PI 146 [(2, 217), (0, num n w), (0, (i : Int)), (0, (n : Int))] M (ifp (crw S i w) 1 0) := by
  refine Cl.intro (L := [(2, 217), (0, num n w), (0, (i : Int)), (0, (n : Int)), (9, 0), (9, 0)]) (rcv_v ow_146.2.1 sh_217) (by unfold entl; rw [mx_146]; rfl) (by rw [mx_146]; exact Nat.le_of_ble_eq_true rfl) rfl ?_
  have hn6 : n ≤ 6 := by unfold nb at hn; omega
  obtain ⟨k, k1, k2, k3⟩ : ∃ k, k ≤ n ∧ (∀ j, j < k → w j = 0) ∧ (k < n → w k ≠ 0) := by
    by_cases hz : w = z0
    · exact ⟨n, Nat.le_refl n, fun j _ => by rw [hz]; rfl, fun q => absurd q (Nat.lt_irrefl n)⟩
    · obtain ⟨k, g1, g2⟩ := fp_ex (hS.2.2 w hw) hz
      exact ⟨k, by omega, g2.2, fun _ => g2.1⟩
  have main : ∀ z : Int, (fp w i ∧ w i = 1 → z = 1) → (¬ (fp w i ∧ w i = 1) → z = 0) → ∀ y, Rn 146 27 [(2, 217), (0, num n w), (0, (i : Int)), (0, (n : Int)), (0, z), y] [] M (fun v M' => v = some (0, ifp (crw S i w) 1 0) ∧ M' = M) := by
    intro z hz1 hz0 y
    refine r_iconst d_146_27 rfl ?_
    refine r_istore d_146_28 rfl (stl_6_5 rfl rfl) ?_
    refine dn_ind (R := fun j => ∀ z : Int, ((fp w i ∧ w i = 1) ∧ (∀ q : Nat, (q : Int) < j → q ≠ i → Lp S q → w q = 0) → z = 1) → (¬ ((fp w i ∧ w i = 1) ∧ (∀ q : Nat, (q : Int) < j → q ≠ i → Lp S q → w q = 0)) → z = 0) → Rn 146 30 [(2, 217), (0, num n w), (0, (i : Int)), (0, (n : Int)), (0, z), (0, j)] [] M _) (lo := 0) (n := n) ?_ ?_ 0 (by omega) (by omega) z (fun q => hz1 q.1) (fun q => hz0 (fun q2 => q ⟨q2, fun q3 hq3 => by omega⟩))
    · intro z g1 g0
      have hzz : z = ifp (crw S i w) 1 0 := by
        by_cases hc : crw S i w
        · rw [ifp_t hc]
          exact g1 ⟨⟨hc.2.1, hc.2.2.1⟩, fun q _ hqi hL => hc.2.2.2 q hqi hL⟩
        · rw [ifp_f hc]
          refine g0 (fun q => hc ⟨hw, q.1.1, q.1.2, fun j hji hL => q.2 j ?_ hji hL⟩)
          have := Lp_lt hS hL
          omega
      have hz01 : z = 0 ∨ z = 1 := by
        by_cases hc : (fp w i ∧ w i = 1) ∧ (∀ q : Nat, (q : Int) < (n : Int) → q ≠ i → Lp S q → w q = 0)
        · exact Or.inr (g1 hc)
        · exact Or.inl (g0 hc)
      refine r_iload d_146_30 rfl ?_
      refine r_iload_n d_146_32 rfl ?_
      refine r_icmp_ge (t := 80) d_146_33 rfl (fun _ => ?_) (fun hz => absurd (by omega) hz)
      refine r_iload d_146_80 rfl ?_
      refine r_zret d_146_82 rt_146 (by omega) ?_
      exact ⟨by rw [hzz], rfl⟩
    · intro j j1 j2 ih z g1 g0
      refine r_iload d_146_30 rfl ?_
      refine r_iload_n d_146_32 rfl ?_
      refine r_icmp_ge (t := 80) d_146_33 rfl (fun hz => absurd hz (by omega)) (fun _ => ?_)
      by_cases hc : (fp w i ∧ w i = 1) ∧ (∀ q : Nat, (q : Int) < j → q ≠ i → Lp S q → w q = 0)
      · rw [g1 hc]
        have hmore : ∀ q : Nat, (q : Int) < j + 1 → (q : Int) < j ∨ q = j.toNat := fun q hq => by omega
        refine r_iload d_146_36 rfl ?_
        refine r_if_eq (t := 71) d_146_38 rfl (fun hz => absurd hz (by decide)) (fun _ => ?_)
        by_cases hji : j = i
        · refine r_iload d_146_41 rfl ?_
          refine r_iload_n d_146_43 rfl ?_
          refine r_icmp_eq (t := 67) d_146_44 rfl (fun _ => ?_) (fun hz => absurd hji hz)
          refine r_iconst d_146_67 rfl ?_
          refine r_goto (t := 72) d_146_68 rfl ?_
          refine r_istore d_146_72 rfl (stl_6_4 rfl rfl) ?_
          refine r_iinc d_146_74 rfl (by omega) (stl_6_5 rfl rfl) ?_
          refine r_goto (t := 30) d_146_77 rfl ?_
          refine ih 1 (fun _ => rfl) (fun q => absurd ⟨hc.1, fun q2 h1 h2 h3 => ?_⟩ q)
          exact hc.2 q2 (by omega) h2 h3
        · refine r_iload d_146_41 rfl ?_
          refine r_iload_n d_146_43 rfl ?_
          refine r_icmp_eq (t := 67) d_146_44 rfl (fun hz => absurd hz hji) (fun _ => ?_)
          have hfj := hf j.toNat (by omega)
          rw [show ((j.toNat : Nat) : Int) = j by omega] at hfj
          by_cases hL : Lp S j.toNat
          · refine r_aload_n d_146_47 rfl (by omega) ?_
            refine r_getc (ki := 10) d_146_48 q_146_38 rfl sh_217 fx_217_10 (by omega) ?_
            refine r_iload d_146_51 rfl ?_
            refine r_ialoadv d_146_53 sh_225 (by omega) (by omega) (hfj.1 hL) ?_
            refine r_if_eq (t := 67) d_146_54 rfl (fun hz => absurd hz (by decide)) (fun _ => ?_)
            refine r_aload_n d_146_57 rfl (by omega) ?_
            refine r_iload_n d_146_58 rfl ?_
            refine r_iload d_146_59 rfl ?_
            refine r_callvp d_146_61 q_146_142 rfl rfl (m_figK he M hp hn w (j := j.toNat) (by omega) (by omega)) ?_
            by_cases hwj : w j.toNat = 0
            · have hv := vl_eq0.mpr hwj
              refine r_if_ne (t := 71) d_146_64 rfl (fun hz => absurd hz (by omega)) (fun _ => ?_)
              refine r_iconst d_146_67 rfl ?_
              refine r_goto (t := 72) d_146_68 rfl ?_
              refine r_istore d_146_72 rfl (stl_6_4 rfl rfl) ?_
              refine r_iinc d_146_74 rfl (by omega) (stl_6_5 rfl rfl) ?_
              refine r_goto (t := 30) d_146_77 rfl ?_
              refine ih 1 (fun _ => rfl) (fun q => absurd ⟨hc.1, fun q2 h1 h2 h3 => ?_⟩ q)
              rcases hmore q2 h1 with h4 | h4
              · exact hc.2 q2 h4 h2 h3
              · rw [h4]
                exact hwj
            · have hv : vl (w j.toNat) ≠ 0 := fun q => hwj (vl_eq0.mp q)
              refine r_if_ne (t := 71) d_146_64 rfl (fun _ => ?_) (fun hz => absurd hv hz)
              refine r_iconst d_146_71 rfl ?_
              refine r_istore d_146_72 rfl (stl_6_4 rfl rfl) ?_
              refine r_iinc d_146_74 rfl (by omega) (stl_6_5 rfl rfl) ?_
              refine r_goto (t := 30) d_146_77 rfl ?_
              refine ih 0 (fun q => absurd (q.2 j.toNat (by omega) (by omega) hL) hwj) (fun _ => rfl)
          · refine r_aload_n d_146_47 rfl (by omega) ?_
            refine r_getc (ki := 10) d_146_48 q_146_38 rfl sh_217 fx_217_10 (by omega) ?_
            refine r_iload d_146_51 rfl ?_
            refine r_ialoadv d_146_53 sh_225 (by omega) (by omega) (hfj.2 hL) ?_
            refine r_if_eq (t := 67) d_146_54 rfl (fun _ => ?_) (fun hz => absurd (by decide) hz)
            refine r_iconst d_146_67 rfl ?_
            refine r_goto (t := 72) d_146_68 rfl ?_
            refine r_istore d_146_72 rfl (stl_6_4 rfl rfl) ?_
            refine r_iinc d_146_74 rfl (by omega) (stl_6_5 rfl rfl) ?_
            refine r_goto (t := 30) d_146_77 rfl ?_
            refine ih 1 (fun _ => rfl) (fun q => absurd ⟨hc.1, fun q2 h1 h2 h3 => ?_⟩ q)
            rcases hmore q2 h1 with h4 | h4
            · exact hc.2 q2 h4 h2 h3
            · rw [h4] at h3
              exact absurd h3 hL
      · rw [g0 hc]
        refine r_iload d_146_36 rfl ?_
        refine r_if_eq (t := 71) d_146_38 rfl (fun _ => ?_) (fun hz => absurd (by decide) hz)
        refine r_iconst d_146_71 rfl ?_
        refine r_istore d_146_72 rfl (stl_6_4 rfl rfl) ?_
        refine r_iinc d_146_74 rfl (by omega) (stl_6_5 rfl rfl) ?_
        refine r_goto (t := 30) d_146_77 rfl ?_
        exact ih 0 (fun q => absurd ⟨q.1, fun q2 h1 h2 h3 => q.2 q2 (by omega) h2 h3⟩ hc) (fun _ => rfl)
  refine r_aload_n d_146_0 rfl (by omega) ?_
  refine r_iload_n d_146_1 rfl ?_
  refine r_iload_n d_146_2 rfl ?_
  refine r_callvp d_146_3 q_146_146 rfl rfl (m_firstOf he M hp hn w k1 k2 k3) ?_
  by_cases hki : k = i
  · subst hki
    have hfp : fp w k := ⟨k3 hi, k2⟩
    refine r_iload_n d_146_6 rfl ?_
    refine r_icmp_ne (t := 24) d_146_7 rfl (fun hz => absurd hz (by simp)) (fun _ => ?_)
    refine r_aload_n d_146_10 rfl (by omega) ?_
    refine r_iload_n d_146_11 rfl ?_
    refine r_iload_n d_146_12 rfl ?_
    refine r_callvp d_146_13 q_146_142 rfl rfl (m_figK he M hp hn w rfl hi) ?_
    refine r_iconst d_146_16 rfl ?_
    by_cases hw1 : w k = 1
    · have hv : vl (w k) = 1 := by rw [hw1]; rfl
      refine r_icmp_ne (t := 24) d_146_17 rfl (fun hz => absurd hz (by omega)) (fun _ => ?_)
      refine r_iconst d_146_20 rfl ?_
      refine r_goto (t := 25) d_146_21 rfl ?_
      refine r_istore d_146_25 rfl (stl_6_4 rfl rfl) ?_
      exact main 1 (fun _ => rfl) (fun q => absurd ⟨hfp, hw1⟩ q) _
    · have hv : vl (w k) ≠ 1 := fun q => hw1 (vl_inj (q.trans vl_1.symm))
      refine r_icmp_ne (t := 24) d_146_17 rfl (fun _ => ?_) (fun hz => absurd hv hz)
      refine r_iconst d_146_24 rfl ?_
      refine r_istore d_146_25 rfl (stl_6_4 rfl rfl) ?_
      exact main 0 (fun q => absurd q.2 hw1) (fun _ => rfl) _
  · have hfn : ¬ fp w i := fun q => by
      rcases Nat.lt_trichotomy k i with h | h | h
      · exact k3 (by omega) (q.2 k h)
      · exact hki h
      · exact q.1 (k2 i h)
    refine r_iload_n d_146_6 rfl ?_
    refine r_icmp_ne (t := 24) d_146_7 rfl (fun _ => ?_) (fun hz => absurd (by omega) hz)
    refine r_iconst d_146_24 rfl ?_
    refine r_istore d_146_25 rfl (stl_6_4 rfl rfl) ?_
    exact main 0 (fun q => absurd q.1 hfn) (fun _ => rfl) _
/-- the model's registers of canonical rows -/
def FR (M : Mo) (f r s : Int → Int) : Mo := sr (sr (sr M 225 f) 226 r) 227 s
theorem FR_self (M : Mo) : FR M (M 225) (M 226) (M 227) = M := by
  funext x y
  unfold FR sr
  by_cases h1 : x = 227
  · simp [h1]
  · by_cases h2 : x = 226
    · simp [h2]
    · by_cases h3 : x = 225
      · simp [h3]
      · simp [h1, h2, h3]
theorem FR_f {M : Mo} {f r s : Int → Int} {y : Int} : FR M f r s 225 y = f y := by simp [FR, sr]
theorem FR_r {M : Mo} {f r s : Int → Int} {y : Int} : FR M f r s 226 y = r y := by simp [FR, sr]
theorem FR_s {M : Mo} {f r s : Int → Int} {y : Int} : FR M f r s 227 y = s y := by simp [FR, sr]
theorem FR_o {M : Mo} {f r s : Int → Int} {x y : Int} (hx : x ≠ 225 ∧ x ≠ 226 ∧ x ≠ 227) : FR M f r s x y = M x y := by simp [FR, sr, hx]
theorem FR_uf {M : Mo} {f r s : Int → Int} {i v : Int} : up2 (FR M f r s) 225 i v = FR M (u1 f i v) r s := by
  unfold FR
  rw [up_srn _ _ _ _ (by decide), up_srn _ _ _ _ (by decide), up_sr]
theorem FR_ur {M : Mo} {f r s : Int → Int} {i v : Int} : up2 (FR M f r s) 226 i v = FR M f (u1 r i v) s := by
  unfold FR
  rw [up_srn _ _ _ _ (by decide), up_sr]
theorem FR_us {M : Mo} {f r s : Int → Int} {i v : Int} : up2 (FR M f r s) 227 i v = FR M f r (u1 s i v) := by
  unfold FR
  rw [up_sr]
def FRs {e : Nat} (n : Nat) (S : Vc e → Prop) (f r s : Int → Int) : Prop := (∀ i : Nat, i < 6 → (Lp S i → f i = 1) ∧ (¬ Lp S i → f i = 0)) ∧ ∀ i : Nat, Lp S i → r (cnt (Lp S) i : Nat) = num n (crow S i) ∧ s (cnt (Lp S) i : Nat) = i
theorem m_findsRows {e : Nat} (he : e ≤ 1) (M : Mo) (hp : M 217 1 = pI e) {n : Nat} (hn : nb e n) {S : Vc e → Prop} (hS : Sub n S) (hh : hs n (M 222) S) : CV 147 [(2, 217), (0, (n : Int))] M (fun M' => ∃ f r s, M' = FR M f r s ∧ FRs n S f r s) := by
  refine Cl.intro (L := [(2, 217), (0, (n : Int)), (9, 0), (9, 0), (9, 0), (9, 0)]) (rcv_v ow_147.2.1 sh_217) (by unfold entl; rw [mx_147]; rfl) (by rw [mx_147]; exact Nat.le_of_ble_eq_true rfl) rfl ?_
  have hp2 : ∀ f r s, FR M f r s 217 1 = pI e := fun f r s => (FR_o (by decide)).trans hp
  have h23 := pI23 he
  have hn6 : n ≤ 6 := by unfold nb at hn; omega
  have h243 := pw_243 he hn
  have hp1 := pw_pos h23 n
  refine r_aload_n d_147_0 rfl (by omega) ?_
  refine r_iload_n d_147_1 rfl ?_
  refine r_callvp d_147_2 q_147_110 rfl rfl (by have := m_power M hp h23 (n : Int) (by omega); rw [Int.toNat_natCast] at this; exact this) ?_
  refine r_istore_n d_147_5 rfl (stl_6_2 rfl rfl) ?_
  refine r_iconst d_147_6 rfl ?_
  refine r_istore_n d_147_7 rfl (stl_6_3 rfl rfl) ?_
  generalize hall : pI e ^ n = all at *
  refine dn_ind (R := fun j => ∀ f, (∀ i : Int, 0 ≤ i → i < j → f i = 0) → Rn 147 8 [(2, 217), (0, (n : Int)), (0, all), (0, j), (9, 0), (9, 0)] [] (FR M f (M 226) (M 227)) _) (lo := 0) (n := 6) ?_ ?_ 0 (by omega) (by omega) (M 225) (fun i h1 h2 => by omega) |> (fun k => by rw [FR_self] at k; exact k)
  · intro f hf0
    refine r_iload_n d_147_8 rfl ?_
    refine r_bipush d_147_9 rfl ?_
    refine r_icmp_ge (t := 27) d_147_11 rfl (fun _ => ?_) (fun hz => absurd (by omega) hz)
    refine r_iconst d_147_27 rfl ?_
    refine r_istore_n d_147_28 rfl (stl_6_3 rfl rfl) ?_
    refine dn_ind (R := fun v => ∀ (f : Int → Int), (∀ i : Nat, i < 6 → ((∃ w, S w ∧ fp w i ∧ num n w < v) → f i = 1) ∧ (¬ (∃ w, S w ∧ fp w i ∧ num n w < v) → f i = 0)) → Rn 147 29 [(2, 217), (0, (n : Int)), (0, all), (0, v), (9, 0), (9, 0)] [] (FR M f (M 226) (M 227)) _) (lo := 1) (n := all) ?_ ?_ 1 (by omega) (by omega) f (fun i hi => ⟨fun q => ?_, fun _ => hf0 i (by omega) (by omega)⟩)
    · intro f hfi
      have hff : ∀ i : Nat, i < 6 → (Lp S i → f i = 1) ∧ (¬ Lp S i → f i = 0) := by
        intro i hi
        refine ⟨fun ⟨w, hw, hq⟩ => (hfi i hi).1 ⟨w, hw, hq, ?_⟩, fun hq => (hfi i hi).2 (fun ⟨w, hw, hq2, _⟩ => hq ⟨w, hw, hq2⟩)⟩
        have := num_rng he n w
        rw [hall] at this
        exact this.2
      clear hfi hf0
      have hfn : ∀ r s, fi n (FR M f r s 225) S := fun r s i hi => by rw [FR_f]; exact hff i (by omega)
      refine r_iload_n d_147_29 rfl ?_
      refine r_iload_n d_147_30 rfl ?_
      refine r_icmp_ge (t := 62) d_147_31 rfl (fun _ => ?_) (fun hz => absurd (by omega) hz)
      refine r_iconst d_147_62 rfl ?_
      refine r_istore_n d_147_63 rfl (stl_6_3 rfl rfl) ?_
      refine r_iconst d_147_64 rfl ?_
      refine r_istore d_147_65 rfl (stl_6_4 rfl rfl) ?_
      refine dn_ind (R := fun j => ∀ (r s : Int → Int) (y : AV), (∀ i : Nat, (i : Int) < j → Lp S i → r (cnt (Lp S) i : Nat) = num n (crow S i) ∧ s (cnt (Lp S) i : Nat) = i) → Rn 147 67 [(2, 217), (0, (n : Int)), (0, all), (0, (cnt (Lp S) j.toNat : Nat)), (0, j), y] [] (FR M f r s) _) (lo := 0) (n := n) ?_ ?_ 0 (by omega) (by omega) (M 226) (M 227) (9, 0) (fun i hi => by omega)
      · intro r s y hrs
        refine r_iload d_147_67 rfl ?_
        refine r_iload_n d_147_69 rfl ?_
        refine r_icmp_ge (t := 154) d_147_70 rfl (fun _ => ?_) (fun hz => absurd (by omega) hz)
        refine r_vret d_147_154 rt_147 ?_
        refine ⟨rfl, f, r, s, rfl, hff, fun i hL => hrs i ?_ hL⟩
        have := Lp_lt hS hL
        omega
      · intro j j1 j2 ih r s y hrs
        have hcl := cnt_le (Lp S) j.toNat
        have hfj := hff j.toNat (by omega)
        rw [show ((j.toNat : Nat) : Int) = j by omega] at hfj
        refine r_iload d_147_67 rfl ?_
        refine r_iload_n d_147_69 rfl ?_
        refine r_icmp_ge (t := 154) d_147_70 rfl (fun hz => absurd hz (by omega)) (fun _ => ?_)
        refine r_iconst d_147_73 rfl ?_
        refine r_istore d_147_74 rfl (stl_6_5 rfl rfl) ?_
        have hcs : cnt (Lp S) (j + 1).toNat = cnt (Lp S) j.toNat + ifp (Lp S j.toNat) 1 0 := by
          rw [show (j + 1).toNat = j.toNat + 1 by omega]
          rfl
        by_cases hL : Lp S j.toNat
        · rw [ifp_t hL] at hcs
          have hcr := crow_spec he hS hL
          have hfin : ∀ (r s : Int → Int) (y : AV), (∀ i : Nat, (i : Int) < j + 1 → Lp S i → r (cnt (Lp S) i : Nat) = num n (crow S i) ∧ s (cnt (Lp S) i : Nat) = i) → Rn 147 138 [(2, 217), (0, (n : Int)), (0, all), (0, (cnt (Lp S) j.toNat : Nat)), (0, j), y] [] (FR M f r s) (fun v M' => v = none ∧ ∃ f r s, M' = FR M f r s ∧ FRs n S f r s) := by
            intro r s y hr2
            refine r_iload_n d_147_138 rfl ?_
            refine r_aload_n d_147_139 rfl (by omega) ?_
            refine r_getc (ki := 10) d_147_140 q_147_38 rfl sh_217 fx_217_10 (by omega) ?_
            refine r_iload d_147_143 rfl ?_
            refine r_ialoadv d_147_145 sh_225 (by omega) (by omega) (FR_f.trans (hfj.1 hL)) ?_
            refine r_iadd d_147_146 (by omega) ?_
            refine r_istore_n d_147_147 rfl (stl_6_3 rfl rfl) ?_
            refine r_iinc d_147_148 rfl (by omega) (stl_6_4 rfl rfl) ?_
            refine r_goto (t := 67) d_147_151 rfl ?_
            have k3 := ih r s y hr2
            rw [hcs] at k3
            exact k3
          refine dn_ind (R := fun v => ∀ (r s : Int → Int), (∀ i : Nat, (i : Int) < j → Lp S i → r (cnt (Lp S) i : Nat) = num n (crow S i) ∧ s (cnt (Lp S) i : Nat) = i) → (num n (crow S j.toNat) < v → r (cnt (Lp S) j.toNat : Nat) = num n (crow S j.toNat) ∧ s (cnt (Lp S) j.toNat : Nat) = j) → Rn 147 76 [(2, 217), (0, (n : Int)), (0, all), (0, (cnt (Lp S) j.toNat : Nat)), (0, j), (0, v)] [] (FR M f r s) _) (lo := 1) (n := all) ?_ ?_ 1 (by omega) (by omega) r s hrs (fun q => ?_)
          · intro r s g1 g2
            refine r_iload d_147_76 rfl ?_
            refine r_iload_n d_147_78 rfl ?_
            refine r_icmp_ge (t := 138) d_147_79 rfl (fun _ => ?_) (fun hz => absurd (by omega) hz)
            refine hfin _ _ _ (fun i hi hLi => ?_)
            by_cases hij : i = j.toNat
            · subst hij
              rw [show ((j.toNat : Nat) : Int) = j by omega]
              refine g2 ?_
              have := num_rng he n (crow S j.toNat)
              rw [hall] at this
              exact this.2
            · exact g1 i (by omega) hLi
          · intro v v1 v2 ih2 r s g1 g2
            have hu : num n (toV e n v) = v := num_toV he (by omega) (by rw [hall]; exact v2)
            have hus : sup n (toV e n v) := toV_sup
            have hhu := hh _ hus
            rw [hu] at hhu
            have hnot : ∀ (r s : Int → Int), toV e n v ≠ crow S j.toNat → (num n (crow S j.toNat) < v → r (cnt (Lp S) j.toNat : Nat) = num n (crow S j.toNat) ∧ s (cnt (Lp S) j.toNat : Nat) = j) → (num n (crow S j.toNat) < v + 1 → r (cnt (Lp S) j.toNat : Nat) = num n (crow S j.toNat) ∧ s (cnt (Lp S) j.toNat : Nat) = j) := by
              intro r s hne hq hlt
              refine hq ?_
              by_cases hev : num n (crow S j.toNat) = v
              · exfalso
                apply hne
                exact num_inj2 he hus (crow_sup he hS hL) (by rw [hu, hev])
              · omega
            refine r_iload d_147_76 rfl ?_
            refine r_iload_n d_147_78 rfl ?_
            refine r_icmp_ge (t := 138) d_147_79 rfl (fun hz => absurd hz (by omega)) (fun _ => ?_)
            refine r_aload_n d_147_82 rfl (by omega) ?_
            refine r_getc (ki := 10) d_147_83 q_147_38 rfl sh_217 fx_217_10 (by omega) ?_
            refine r_iload d_147_86 rfl ?_
            refine r_ialoadv d_147_88 sh_225 (by omega) (by omega) (FR_f.trans (hfj.1 hL)) ?_
            refine r_iconst d_147_89 rfl ?_
            refine r_icmp_ne (t := 138) d_147_90 rfl (fun hz => absurd hz (by decide)) (fun _ => ?_)
            by_cases hSu : S (toV e n v)
            · refine r_aload_n d_147_93 rfl (by omega) ?_
              refine r_getc (ki := 6) d_147_94 q_147_29 rfl sh_217 fx_217_6 (by omega) ?_
              refine r_iload d_147_97 rfl ?_
              refine r_ialoadv d_147_99 sh_222 (by omega) (by omega) ((FR_o (by decide)).trans (hhu.1 hSu)) ?_
              refine r_iconst d_147_100 rfl ?_
              refine r_icmp_ne (t := 132) d_147_101 rfl (fun hz => absurd hz (by decide)) (fun _ => ?_)
              have hir := m_isRow he (FR M f r s) (hp2 _ _ _) hn (hfn _ _) hS hSu (i := j.toNat) (by omega)
              rw [hu, show ((j.toNat : Nat) : Int) = j by omega] at hir
              refine r_aload_n d_147_104 rfl (by omega) ?_
              refine r_iload d_147_105 rfl ?_
              refine r_iload d_147_107 rfl ?_
              refine r_iload_n d_147_109 rfl ?_
              refine r_callvp d_147_110 q_147_149 rfl rfl hir ?_
              by_cases hc : crw S j.toNat (toV e n v)
              · rw [ifp_t hc]
                have hce := crow_eq he hS hc
                refine r_if_eq (t := 132) d_147_113 rfl (fun hz => absurd hz (by decide)) (fun _ => ?_)
                refine r_aload_n d_147_116 rfl (by omega) ?_
                refine r_getc (ki := 11) d_147_117 q_147_41 rfl sh_217 fx_217_11 (by omega) ?_
                refine r_iload_n d_147_120 rfl ?_
                refine r_iload d_147_121 rfl ?_
                refine r_iastore d_147_123 sh_226 (by omega) (by omega) ?_
                rw [FR_ur]
                refine r_aload_n d_147_124 rfl (by omega) ?_
                refine r_getc (ki := 12) d_147_125 q_147_44 rfl sh_217 fx_217_12 (by omega) ?_
                refine r_iload_n d_147_128 rfl ?_
                refine r_iload d_147_129 rfl ?_
                refine r_iastore d_147_131 sh_227 (by omega) (by omega) ?_
                rw [FR_us]
                refine r_iinc d_147_132 rfl (by omega) (stl_6_5 rfl rfl) ?_
                refine r_goto (t := 76) d_147_135 rfl ?_
                refine ih2 _ _ (fun i hi hLi => ?_) (fun _ => ?_)
                · have := cnt_lt (P := Lp S) (show i < j.toNat by omega) hLi
                  rw [u1_ne _ _ (by omega), u1_ne _ _ (by omega)]
                  exact g1 i hi hLi
                · rw [u1_eq, u1_eq, hce, hu]
                  exact ⟨rfl, rfl⟩
              · rw [ifp_f hc]
                refine r_if_eq (t := 132) d_147_113 rfl (fun _ => ?_) (fun hz => absurd (by decide) hz)
                refine r_iinc d_147_132 rfl (by omega) (stl_6_5 rfl rfl) ?_
                refine r_goto (t := 76) d_147_135 rfl ?_
                refine ih2 _ _ g1 (hnot _ _ (fun q => hc (by rw [q]; exact hcr)) g2)
            · refine r_aload_n d_147_93 rfl (by omega) ?_
              refine r_getc (ki := 6) d_147_94 q_147_29 rfl sh_217 fx_217_6 (by omega) ?_
              refine r_iload d_147_97 rfl ?_
              refine r_ialoadv d_147_99 sh_222 (by omega) (by omega) ((FR_o (by decide)).trans (hhu.2 hSu)) ?_
              refine r_iconst d_147_100 rfl ?_
              refine r_icmp_ne (t := 132) d_147_101 rfl (fun _ => ?_) (fun hz => absurd (by decide) hz)
              refine r_iinc d_147_132 rfl (by omega) (stl_6_5 rfl rfl) ?_
              refine r_goto (t := 76) d_147_135 rfl ?_
              refine ih2 _ _ g1 (hnot _ _ (fun q => hSu (by rw [q]; exact hcr.1)) g2)
          · exfalso
            have h1 := num_rng he n (crow S j.toNat)
            have h2 : num n (crow S j.toNat) = 0 := by omega
            exact fp_ne hcr.2.1 ((num_eq0 he (crow_sup he hS hL)).mp h2)
        · rw [ifp_f hL] at hcs
          have hfin : ∀ (r s : Int → Int) (y : AV), (∀ i : Nat, (i : Int) < j + 1 → Lp S i → r (cnt (Lp S) i : Nat) = num n (crow S i) ∧ s (cnt (Lp S) i : Nat) = i) → Rn 147 138 [(2, 217), (0, (n : Int)), (0, all), (0, (cnt (Lp S) j.toNat : Nat)), (0, j), y] [] (FR M f r s) (fun v M' => v = none ∧ ∃ f r s, M' = FR M f r s ∧ FRs n S f r s) := by
            intro r s y hr2
            refine r_iload_n d_147_138 rfl ?_
            refine r_aload_n d_147_139 rfl (by omega) ?_
            refine r_getc (ki := 10) d_147_140 q_147_38 rfl sh_217 fx_217_10 (by omega) ?_
            refine r_iload d_147_143 rfl ?_
            refine r_ialoadv d_147_145 sh_225 (by omega) (by omega) (FR_f.trans (hfj.2 hL)) ?_
            refine r_iadd d_147_146 (by omega) ?_
            refine r_istore_n d_147_147 rfl (stl_6_3 rfl rfl) ?_
            refine r_iinc d_147_148 rfl (by omega) (stl_6_4 rfl rfl) ?_
            refine r_goto (t := 67) d_147_151 rfl ?_
            have k3 := ih r s y hr2
            rw [hcs] at k3
            rw [Int.add_zero]
            exact k3
          have hr2 : ∀ i : Nat, (i : Int) < j + 1 → Lp S i → r (cnt (Lp S) i : Nat) = num n (crow S i) ∧ s (cnt (Lp S) i : Nat) = i := by
            intro i hi hLi
            by_cases hij : i = j.toNat
            · rw [hij] at hLi
              exact absurd hLi hL
            · exact hrs i (by omega) hLi
          by_cases h1 : 1 < all
          · refine r_iload d_147_76 rfl ?_
            refine r_iload_n d_147_78 rfl ?_
            refine r_icmp_ge (t := 138) d_147_79 rfl (fun hz => absurd hz (by omega)) (fun _ => ?_)
            refine r_aload_n d_147_82 rfl (by omega) ?_
            refine r_getc (ki := 10) d_147_83 q_147_38 rfl sh_217 fx_217_10 (by omega) ?_
            refine r_iload d_147_86 rfl ?_
            refine r_ialoadv d_147_88 sh_225 (by omega) (by omega) (FR_f.trans (hfj.2 hL)) ?_
            refine r_iconst d_147_89 rfl ?_
            refine r_icmp_ne (t := 138) d_147_90 rfl (fun _ => ?_) (fun hz => absurd (by decide) hz)
            exact hfin _ _ _ hr2
          · refine r_iload d_147_76 rfl ?_
            refine r_iload_n d_147_78 rfl ?_
            refine r_icmp_ge (t := 138) d_147_79 rfl (fun _ => ?_) (fun hz => absurd (by omega) hz)
            exact hfin _ _ _ hr2
    · intro v v1 v2 ih f hfi
      have hu : num n (toV e n v) = v := num_toV he (by omega) (by rw [hall]; exact v2)
      have hus : sup n (toV e n v) := toV_sup
      have hhu := hh _ hus
      rw [hu] at hhu
      refine r_iload_n d_147_29 rfl ?_
      refine r_iload_n d_147_30 rfl ?_
      refine r_icmp_ge (t := 62) d_147_31 rfl (fun hz => absurd hz (by omega)) (fun _ => ?_)
      by_cases hSu : S (toV e n v)
      · refine r_aload_n d_147_34 rfl (by omega) ?_
        refine r_getc (ki := 6) d_147_35 q_147_29 rfl sh_217 fx_217_6 (by omega) ?_
        refine r_iload_n d_147_38 rfl ?_
        refine r_ialoadv d_147_39 sh_222 (by omega) (by omega) ((FR_o (by decide)).trans (hhu.1 hSu)) ?_
        refine r_iconst d_147_40 rfl ?_
        refine r_icmp_ne (t := 56) d_147_41 rfl (fun hz => absurd hz (by decide)) (fun _ => ?_)
        have hne : toV e n v ≠ z0 := fun q => by
          have := (num_eq0 he hus).mpr q
          omega
        obtain ⟨k, k1, k2⟩ := fp_ex hus hne
        have hfo := m_firstOf he (FR M f (M 226) (M 227)) (hp2 _ _ _) hn (toV e n v) (i := k) (by omega) k2.2 (fun _ => k2.1)
        rw [hu] at hfo
        refine r_aload_n d_147_44 rfl (by omega) ?_
        refine r_getc (ki := 10) d_147_45 q_147_38 rfl sh_217 fx_217_10 (by omega) ?_
        refine r_aload_n d_147_48 rfl (by omega) ?_
        refine r_iload_n d_147_49 rfl ?_
        refine r_iload_n d_147_50 rfl ?_
        refine r_callvp d_147_51 q_147_146 rfl rfl hfo ?_
        refine r_iconst d_147_54 rfl ?_
        refine r_iastore d_147_55 sh_225 (by omega) (by omega) ?_
        rw [FR_uf]
        refine r_iinc d_147_56 rfl (by omega) (stl_6_3 rfl rfl) ?_
        refine r_goto (t := 29) d_147_59 rfl ?_
        refine ih _ (fun i hi => ?_)
        by_cases hik : i = k
        · subst hik
          rw [u1_eq]
          exact ⟨fun _ => rfl, fun q => absurd ⟨_, hSu, k2, by omega⟩ q⟩
        · rw [u1_ne _ _ (by omega)]
          refine ⟨fun ⟨w, hw, hf, hlt⟩ => (hfi i hi).1 ⟨w, hw, hf, ?_⟩, fun q => (hfi i hi).2 (fun ⟨w, hw, hf, hlt⟩ => q ⟨w, hw, hf, by omega⟩)⟩
          by_cases hev : num n w = v
          · exfalso
            have : w = toV e n v := num_inj2 he (hS.2.2 w hw) hus (by rw [hu, hev])
            rw [this] at hf
            exact hik (fp_uniq hf k2)
          · omega
      · refine r_aload_n d_147_34 rfl (by omega) ?_
        refine r_getc (ki := 6) d_147_35 q_147_29 rfl sh_217 fx_217_6 (by omega) ?_
        refine r_iload_n d_147_38 rfl ?_
        refine r_ialoadv d_147_39 sh_222 (by omega) (by omega) ((FR_o (by decide)).trans (hhu.2 hSu)) ?_
        refine r_iconst d_147_40 rfl ?_
        refine r_icmp_ne (t := 56) d_147_41 rfl (fun _ => ?_) (fun hz => absurd (by decide) hz)
        refine r_iinc d_147_56 rfl (by omega) (stl_6_3 rfl rfl) ?_
        refine r_goto (t := 29) d_147_59 rfl ?_
        refine ih _ (fun i hi => ⟨fun ⟨w, hw, hf, hlt⟩ => (hfi i hi).1 ⟨w, hw, hf, ?_⟩, fun q => (hfi i hi).2 (fun ⟨w, hw, hf, hlt⟩ => q ⟨w, hw, hf, by omega⟩)⟩)
        by_cases hev : num n w = v
        · exfalso
          have : w = toV e n v := num_inj2 he (hS.2.2 w hw) hus (by rw [hu, hev])
          rw [this] at hw
          exact hSu hw
        · omega
    · obtain ⟨w, hw, hf, hlt⟩ := q
      exfalso
      have h1 := num_rng he n w
      have h2 : num n w = 0 := by omega
      exact fp_ne hf ((num_eq0 he (hS.2.2 w hw)).mp h2)
  · intro j j1 j2 ih f hf0
    refine r_iload_n d_147_8 rfl ?_
    refine r_bipush d_147_9 rfl ?_
    refine r_icmp_ge (t := 27) d_147_11 rfl (fun hz => absurd hz (by omega)) (fun _ => ?_)
    refine r_aload_n d_147_14 rfl (by omega) ?_
    refine r_getc (ki := 10) d_147_15 q_147_38 rfl sh_217 fx_217_10 (by omega) ?_
    refine r_iload_n d_147_18 rfl ?_
    refine r_iconst d_147_19 rfl ?_
    refine r_iastore d_147_20 sh_225 (by omega) (by omega) ?_
    rw [FR_uf]
    refine r_iinc d_147_21 rfl (by omega) (stl_6_3 rfl rfl) ?_
    refine r_goto (t := 8) d_147_24 rfl ?_
    refine ih _ (fun i h1 h2 => ?_)
    by_cases hij : i = j
    · rw [hij, u1_eq]
    · rw [u1_ne _ _ hij]
      exact hf0 i h1 (by omega)
