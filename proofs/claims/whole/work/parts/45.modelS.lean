/-! The model: null spaces, numbers told. -/
theorem up_ind {R : Int → Prop} {lo hi : Int} (hx : R lo) (hs : ∀ i, lo < i → i ≤ hi → R (i - 1) → R i) : ∀ i, lo ≤ i → i ≤ hi → R i := by
  have key : ∀ (j : Nat) (i : Int), lo ≤ i → i ≤ hi → i - lo = j → R i := by
    intro j
    induction j with
    | zero =>
      intro i h1 h2 h3
      have : i = lo := by omega
      subst this
      exact hx
    | succ j ih =>
      intro i h1 h2 h3
      exact hs i (by omega) h2 (ih (i - 1) (by omega) (by omega) (by omega))
  intro i h1 h2
  exact key (i - lo).toNat i h1 h2 (by omega)
/-- the null space of a matrix -/
def nsp {e : Nat} (n : Nat) (W : Nat → Vc e) (v : Vc e) : Prop := sup n v ∧ mv n W v = z0
theorem m_isNull {e : Nat} (he : e ≤ 1) (M : Mo) (hp : M 217 1 = pI e) {n : Nat} (hnb : nb e n) {W : Nat → Vc e} (hr : rws n (M 244) W) {v : Vc e} (hv : sup n v) : PI 206 [(2, 217), (0, num n v), (0, (n : Int))] M (ifp (nsp n W v) 1 0) := by
  refine Cl.intro (L := [(2, 217), (0, num n v), (0, (n : Int)), (9, 0), (9, 0), (9, 0), (9, 0)]) (rcv_v ow_206.2.1 sh_217) (by unfold entl; rw [mx_206]; rfl) (by rw [mx_206]; exact Nat.le_of_ble_eq_true rfl) rfl ?_
  have h23 := pI23 he
  have hpb := h23.b
  have hn6 : n ≤ 6 := by unfold nb at hnb; omega
  refine r_iconst d_206_0 rfl ?_
  refine r_istore_n d_206_1 rfl (stl_7_3 rfl rfl) ?_
  refine r_iconst d_206_2 rfl ?_
  refine r_istore d_206_3 rfl (stl_7_4 rfl rfl) ?_
  refine dn_ind (R := fun j => ∀ (z : Int) (y5 y6 : AV), ((∀ j' : Nat, (j' : Int) < j → mv n W v j' = 0) → z = 1) → (¬ (∀ j' : Nat, (j' : Int) < j → mv n W v j' = 0) → z = 0) → Rn 206 5 [(2, 217), (0, num n v), (0, (n : Int)), (0, z), (0, j), y5, y6] [] M _) (lo := 0) (n := (n : Int)) ?_ ?_ 0 (by omega) (by omega) 1 _ _ (fun _ => rfl) (fun q => absurd (fun j' hj' => by omega) q)
  · intro z y5 y6 h1 h0
    have hz : z = ifp (nsp n W v) 1 0 := by
      by_cases hq : ∀ j' : Nat, (j' : Int) < (n : Int) → mv n W v j' = 0
      · rw [h1 hq, ifp_t]
        refine ⟨hv, funext (fun j => ?_)⟩
        rcases Nat.lt_or_ge j n with q | q
        · exact hq j (by omega)
        · exact sup_mv j q
      · rw [h0 hq, ifp_f]
        intro q
        refine hq (fun j' _ => ?_)
        rw [q.2]
        rfl
    have hz01 : z = 0 ∨ z = 1 := by
      by_cases hq : ∀ j' : Nat, (j' : Int) < (n : Int) → mv n W v j' = 0
      · exact Or.inr (h1 hq)
      · exact Or.inl (h0 hq)
    refine r_iload d_206_5 rfl ?_
    refine r_iload_n d_206_7 rfl ?_
    refine r_icmp_ge (t := 81) d_206_8 rfl (fun _ => ?_) (fun hz => absurd (by omega) hz)
    refine r_iload_n d_206_81 rfl ?_
    refine r_zret d_206_82 rt_206 (by omega) ?_
    exact ⟨by rw [hz], rfl⟩
  · intro j j1 j2 ih z y5 y6 h1 h0
    have hjn : j.toNat < n := by omega
    refine r_iload d_206_5 rfl ?_
    refine r_iload_n d_206_7 rfl ?_
    refine r_icmp_ge (t := 81) d_206_8 rfl (fun hz => absurd hz (by omega)) (fun _ => ?_)
    refine r_iconst d_206_11 rfl ?_
    refine r_istore d_206_12 rfl (stl_7_5 rfl rfl) ?_
    refine r_iconst d_206_14 rfl ?_
    refine r_istore d_206_15 rfl (stl_7_6 rfl rfl) ?_
    refine dn_ind (R := fun l => ∀ x : Int, x = sm (fun l => vl (v l) * vl (W l j.toNat)) l.toNat → 0 ≤ x ∧ x ≤ 4 * l → Rn 206 17 [(2, 217), (0, num n v), (0, (n : Int)), (0, z), (0, j), (0, x), (0, l)] [] M _) (lo := 0) (n := (n : Int)) ?_ ?_ 0 (by omega) (by omega) 0 rfl (by omega)
    · intro x hx hxb
      have hxm : x % pI e = vl (mv n W v j.toNat) := by
        unfold mv
        rw [if_pos hjn, vl_sK (g := fun l => vl (v l) * vl (W l j.toNat)) (fun i _ => vl_mul _ _), hx]
        rfl
      have hmore : ∀ q : Nat, (q : Int) < j + 1 → (q : Int) < j ∨ q = j.toNat := fun q hq => by omega
      refine r_iload d_206_17 rfl ?_
      refine r_iload_n d_206_19 rfl ?_
      refine r_icmp_ge (t := 55) d_206_20 rfl (fun _ => ?_) (fun hz => absurd (by omega) hz)
      by_cases hq : ∀ j' : Nat, (j' : Int) < j → mv n W v j' = 0
      · rw [h1 hq]
        refine r_iload_n d_206_55 rfl ?_
        refine r_if_eq (t := 73) d_206_56 rfl (fun hz => absurd hz (by decide)) (fun _ => ?_)
        refine r_iload d_206_59 rfl ?_
        refine r_aload_n d_206_61 rfl (by omega) ?_
        refine r_getfv (ki := 1) d_206_62 q_206_13 rfl sh_217 hp ?_
        refine r_iremn d_206_65 (by omega) (by omega) ?_
        rw [hxm]
        by_cases hz : mv n W v j.toNat = 0
        · have hvz := vl_eq0.mpr hz
          refine r_if_ne (t := 73) d_206_66 rfl (fun hz => absurd hz (by omega)) (fun _ => ?_)
          refine r_iconst d_206_69 rfl ?_
          refine r_goto (t := 74) d_206_70 rfl ?_
          refine r_istore_n d_206_74 rfl (stl_7_3 rfl rfl) ?_
          refine r_iinc d_206_75 rfl (by omega) (stl_7_4 rfl rfl) ?_
          refine r_goto (t := 5) d_206_78 rfl ?_
          refine ih 1 _ _ (fun _ => rfl) (fun q2 => absurd (fun j' hj' => ?_) q2)
          rcases hmore j' hj' with q3 | q3
          · exact hq j' q3
          · rw [q3]
            exact hz
        · have hvz : vl (mv n W v j.toNat) ≠ 0 := fun q => hz (vl_eq0.mp q)
          refine r_if_ne (t := 73) d_206_66 rfl (fun _ => ?_) (fun hz => absurd hvz hz)
          refine r_iconst d_206_73 rfl ?_
          refine r_istore_n d_206_74 rfl (stl_7_3 rfl rfl) ?_
          refine r_iinc d_206_75 rfl (by omega) (stl_7_4 rfl rfl) ?_
          refine r_goto (t := 5) d_206_78 rfl ?_
          exact ih 0 _ _ (fun q2 => absurd (q2 j.toNat (by omega)) hz) (fun _ => rfl)
      · rw [h0 hq]
        refine r_iload_n d_206_55 rfl ?_
        refine r_if_eq (t := 73) d_206_56 rfl (fun _ => ?_) (fun hz => absurd (by decide) hz)
        refine r_iconst d_206_73 rfl ?_
        refine r_istore_n d_206_74 rfl (stl_7_3 rfl rfl) ?_
        refine r_iinc d_206_75 rfl (by omega) (stl_7_4 rfl rfl) ?_
        refine r_goto (t := 5) d_206_78 rfl ?_
        exact ih 0 _ _ (fun q2 => absurd (fun j' hj' => q2 j' (by omega)) hq) (fun _ => rfl)
    · intro l l1 l2 ih2 x hx hxb
      have hwl := hr.2 l.toNat j.toNat (by omega) (by omega)
      rw [show ((l.toNat : Nat) : Int) = l by omega, show ((j.toNat : Nat) : Int) = j by omega] at hwl
      have a1 := vl_b he (v l.toNat)
      have a2 := vl_b he (W l.toNat j.toNat)
      have a3 := mb a1 a2
      refine r_iload d_206_17 rfl ?_
      refine r_iload_n d_206_19 rfl ?_
      refine r_icmp_ge (t := 55) d_206_20 rfl (fun hz => absurd hz (by omega)) (fun _ => ?_)
      refine r_iload d_206_23 rfl ?_
      refine r_aload_n d_206_25 rfl (by omega) ?_
      refine r_iload_n d_206_26 rfl ?_
      refine r_iload d_206_27 rfl ?_
      refine r_callvp d_206_29 q_206_142 rfl rfl (m_figK he M hp hnb v (j := l.toNat) (by omega) (by omega)) ?_
      refine r_aload_n d_206_32 rfl (by omega) ?_
      refine r_getc (ki := 34) d_206_33 q_206_98 rfl sh_217 fx_217_34 (by omega) ?_
      refine r_bipush d_206_36 rfl ?_
      refine r_iload d_206_38 rfl ?_
      refine r_imul d_206_40 (by omega) ?_
      refine r_iload d_206_41 rfl ?_
      refine r_iadd d_206_43 (by omega) ?_
      refine r_ialoadv d_206_44 sh_244 (by omega) (by omega) hwl ?_
      refine r_imul d_206_45 (by omega) ?_
      refine r_iadd d_206_46 (by omega) ?_
      refine r_istore d_206_47 rfl (stl_7_5 rfl rfl) ?_
      refine r_iinc d_206_49 rfl (by omega) (stl_7_6 rfl rfl) ?_
      refine r_goto (t := 17) d_206_52 rfl ?_
      refine ih2 _ ?_ (by omega)
      rw [show (l + 1).toNat = l.toNat + 1 by omega, hx]
      rfl
/-- the list that all null vectors spin, from the greatest number down; how many; the least -/
noncomputable def nsT {e : Nat} (n : Nat) (A : Nat → Nat → Nat → Kf e) (W : Nat → Vc e) : Nat → List (Vc e)
  | 0 => []
  | m + 1 => ifp (nsp n W (toV e n (pI e ^ n - 1 - m))) (spin n A (nsT n A W m) (toV e n (pI e ^ n - 1 - m))) (nsT n A W m)
noncomputable def nsC {e : Nat} (n : Nat) (W : Nat → Vc e) : Nat → Nat
  | 0 => 0
  | m + 1 => nsC n W m + ifp (nsp n W (toV e n (pI e ^ n - 1 - m))) 1 0
theorem nsT_good {e n : Nat} (he : e ≤ 1) {A : Nat → Nat → Nat → Kf e} {W : Nat → Vc e} : ∀ m : Nat, Good n (nsT n A W m)
  | 0 => Good.nil
  | m + 1 => by
    unfold nsT
    by_cases h : nsp n W (toV e n (pI e ^ n - 1 - m))
    · rw [ifp_t h]
      exact spin_good he (nsT_good he m) toV_sup
    · rw [ifp_f h]
      exact nsT_good he m
theorem nsC_le {e n : Nat} {W : Nat → Vc e} : ∀ m : Nat, nsC n W m ≤ m
  | 0 => Nat.le_refl _
  | m + 1 => by
    have := nsC_le (n := n) (W := W) m
    show nsC n W m + ifp (nsp n W (toV e n (pI e ^ n - 1 - m))) 1 0 ≤ m + 1
    by_cases h : nsp n W (toV e n (pI e ^ n - 1 - m))
    · rw [ifp_t h]
      omega
    · rw [ifp_f h]
      omega
/-- the least number above 0 of a null vector, as far as v -/
def nlP {e : Nat} (n : Nat) (W : Nat → Vc e) (v z : Int) : Prop := (z = -1 ∧ ∀ u : Int, 0 < u → v ≤ u → u < pI e ^ n → ¬ nsp n W (toV e n u)) ∨ (0 < z ∧ v ≤ z ∧ z < pI e ^ n ∧ nsp n W (toV e n z) ∧ ∀ u : Int, 0 < u → v ≤ u → u < z → ¬ nsp n W (toV e n u))
def nulP {e : Nat} (n : Nat) (A : Nat → Nat → Nat → Kf e) (W : Nat → Vc e) (what z : Int) : Prop :=
  (what = 0 → ∃ d : Nat, z = d ∧ (nsC n W (pI e ^ n).toNat : Int) ≤ pI e ^ d ∧ ∀ d' : Nat, d' < d → pI e ^ d' < (nsC n W (pI e ^ n).toNat : Int)) ∧ (what = 1 → nlP n W 0 z) ∧ (what = 2 → z = ((nsT n A W (pI e ^ n).toNat).length : Nat))
theorem m_nulls_bad (M : Mo) (hb : cb M) {k x : Int} (h : ¬ ((0 ≤ k ∧ k ≤ 3) ∧ 0 ≤ x ∧ x ≤ 2)) : PJ 207 [(2, 217), (0, k), (0, x)] M (-2) (up2 M 218 0 (M 218 0 + 1)) := by
  refine Cl.intro (L := [(2, 217), (0, k), (0, x), (9, 0), (9, 0), (9, 0), (9, 0), (9, 0)]) (rcv_v ow_207.2.1 sh_217) (by unfold entl; rw [mx_207]; rfl) (by rw [mx_207]; exact Nat.le_of_ble_eq_true rfl) rfl ?_
  have hbad := m_bad M (hb 0 (by omega) (by omega))
  refine r_iload_n d_207_0 rfl ?_
  refine r_callsp d_207_1 q_207_178 rfl rfl (m_isModule M k) ?_
  by_cases hk : 0 ≤ k ∧ k ≤ 3
  · rw [if_pos hk]
    refine r_if_eq (t := 16) d_207_4 rfl (fun hz => absurd hz (by decide)) (fun _ => ?_)
    refine r_iload_n d_207_7 rfl ?_
    refine r_iconst d_207_8 rfl ?_
    refine r_iconst d_207_9 rfl ?_
    refine r_callsp d_207_10 q_207_118 rfl rfl (m_in M x 0 2) ?_
    rw [if_neg (fun q => h ⟨hk, q⟩)]
    refine r_if_ne (t := 21) d_207_13 rfl (fun hz => absurd hz (by decide)) (fun _ => ?_)
    refine r_aload_n d_207_16 rfl (by omega) ?_
    refine r_callvj d_207_17 q_207_172 rfl rfl hbad ?_
    refine r_iret d_207_20 rt_207 ?_
    exact ⟨rfl, rfl⟩
  · rw [if_neg hk]
    refine r_if_eq (t := 16) d_207_4 rfl (fun _ => ?_) (fun hz => absurd (by decide) hz)
    refine r_aload_n d_207_16 rfl (by omega) ?_
    refine r_callvj d_207_17 q_207_172 rfl rfl hbad ?_
    refine r_iret d_207_20 rt_207 ?_
    exact ⟨rfl, rfl⟩
theorem rws.fr {e n : Nat} {M M1 : Mo} {W : Nat → Vc e} {P : Int → Int → Prop} (h : rws n (M 244) W) (hF : Fr P M M1) (hP : ∀ y, ¬ P 244 y) : rws n (M1 244) W := by
  have e1 : M1 244 = M 244 := funext (fun y => hF _ _ (hP y))
  rw [e1]
  exact h
