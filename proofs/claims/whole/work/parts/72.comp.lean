/-! The class: sequences of entries, comparisons. -/
section
variable {e : Nat}
theorem c_entryInSequence (he : e ≤ 1) {M : Mo} {a : Int} (ha : shp S0 a = (0, 3)) {n : Nat} {A : Nat → Nat → Nat → Kf e} (hA : AA e M a n A) (h1 : 1 ≤ n) {j : Nat} (hj : (j : Int) < 2147483648) : PI 15 [(2, a), (0, (j : Int))] M (if j < 2 * (n * n) then sqA n A j else -1) := by
  refine Cl.intro (L := [(2, a), (0, (j : Int)), (9, 0), (9, 0), (9, 0)]) (rcv_v ow_15.2.1 ha) (by unfold entl; rw [mx_15]; rfl) (by rw [mx_15]; exact Nat.le_of_ble_eq_true rfl) rfl ?_
  have ha0 := shA_pos ha
  have h6 := hA.n6
  have hnn : n * n ≤ 6 * 6 := Nat.mul_le_mul h6 h6
  have enn : ((n * n : Nat) : Int) = (n : Int) * n := Int.natCast_mul n n
  refine r_aload_n d_15_0 rfl (by omega) ?_
  refine r_getfv (ki := 1) d_15_1 q_15_9 rfl ha hA.1 ?_
  refine r_aload_n d_15_4 rfl (by omega) ?_
  refine r_getfv (ki := 1) d_15_5 q_15_9 rfl ha hA.1 ?_
  refine r_imul d_15_8 (by omega) ?_
  refine r_istore_n d_15_9 rfl (stl_5_2 rfl rfl) ?_
  refine r_aload_n d_15_10 rfl (by omega) ?_
  refine r_getfv (ki := 1) d_15_11 q_15_9 rfl ha hA.1 ?_
  refine r_iconst d_15_14 rfl ?_
  refine r_icmp_lt (t := 29) d_15_15 rfl (fun hz => absurd hz (by omega)) (fun _ => ?_)
  refine r_iload_n d_15_18 rfl ?_
  refine r_if_lt (t := 29) d_15_19 rfl (fun hz => absurd hz (by omega)) (fun _ => ?_)
  refine r_iload_n d_15_22 rfl ?_
  refine r_iconst d_15_23 rfl ?_
  refine r_iload_n d_15_24 rfl ?_
  refine r_imul d_15_25 (by omega) ?_
  rw [← enn]
  refine r_icmp_lt (t := 31) d_15_26 rfl (fun hlt => ?_) (fun hlt => ?_)
  · have hlt2 : j < 2 * (n * n) := by omega
    rw [if_pos hlt2]
    obtain ⟨g, i, q, hg, hi, hq, hc⟩ := ixs hlt2
    have hiq : i * n + q < n * n := by
      have := Nat.mul_le_mul_right n (show i + 1 ≤ n by omega)
      rw [Nat.add_mul] at this
      omega
    have hen := c_entry he ha hA hg hi hq
    have hsq : sqA n A j = vl (A g i q) := by rw [hc]; exact sqA_at hi hq
    rw [hsq]
    have ediv : ((i * n + q : Nat) : Int) / (n : Int) = i := by
      have h2 : (i * n + q) / n = i := by rw [Nat.mul_comm, Nat.mul_add_div (by omega), Nat.div_eq_of_lt hq]; omega
      rw [← Int.natCast_ediv, h2]
    have emod : ((i * n + q : Nat) : Int) % (n : Int) = q := by
      have h2 : (i * n + q) % n = q := by rw [Nat.mul_comm, Nat.mul_add_mod, Nat.mod_eq_of_lt hq]
      rw [← Int.natCast_emod, h2]
    refine r_iload_n d_15_31 rfl ?_
    refine r_iload_n d_15_32 rfl ?_
    refine r_icmp_ge (t := 40) d_15_33 rfl (fun hge => ?_) (fun hge => ?_)
    · have hg1 : g = 1 := by
        rcases (show g = 0 ∨ g = 1 by omega) with rfl | rfl
        · rw [Nat.zero_mul] at hc
          omega
        · rfl
      subst hg1
      rw [Nat.one_mul] at hc
      refine r_iconst d_15_40 rfl ?_
      refine r_istore_n d_15_41 rfl (stl_5_3 rfl rfl) ?_
      refine r_iload_n d_15_42 rfl ?_
      refine r_iload_n d_15_43 rfl ?_
      refine r_iload_n d_15_44 rfl ?_
      refine r_imul d_15_45 (by omega) ?_
      refine r_isub d_15_46 (by omega) ?_
      refine r_istore d_15_47 rfl (stl_5_4 rfl rfl) ?_
      rw [show (j : Int) - 1 * ((n * n : Nat) : Int) = ((i * n + q : Nat) : Int) by omega]
      refine r_aload_n d_15_49 rfl (by omega) ?_
      refine r_iload_n d_15_50 rfl ?_
      refine r_iload d_15_51 rfl ?_
      refine r_aload_n d_15_53 rfl (by omega) ?_
      refine r_getfv (ki := 1) d_15_54 q_15_9 rfl ha hA.1 ?_
      refine r_idivn d_15_57 (by omega) (by omega) ?_
      rw [ediv]
      refine r_iload d_15_58 rfl ?_
      refine r_aload_n d_15_60 rfl (by omega) ?_
      refine r_getfv (ki := 1) d_15_61 q_15_9 rfl ha hA.1 ?_
      refine r_iremn d_15_64 (by omega) (by omega) ?_
      rw [emod]
      refine r_callvp d_15_65 q_15_65 rfl rfl hen ?_
      refine r_iret d_15_68 rt_15 ?_
      exact ⟨rfl, rfl⟩
    · have hg0 : g = 0 := by
        rcases (show g = 0 ∨ g = 1 by omega) with rfl | rfl
        · rfl
        · rw [Nat.one_mul] at hc
          omega
      subst hg0
      rw [Nat.zero_mul] at hc
      refine r_iconst d_15_36 rfl ?_
      refine r_goto (t := 41) d_15_37 rfl ?_
      refine r_istore_n d_15_41 rfl (stl_5_3 rfl rfl) ?_
      refine r_iload_n d_15_42 rfl ?_
      refine r_iload_n d_15_43 rfl ?_
      refine r_iload_n d_15_44 rfl ?_
      refine r_imul d_15_45 (by omega) ?_
      refine r_isub d_15_46 (by omega) ?_
      refine r_istore d_15_47 rfl (stl_5_4 rfl rfl) ?_
      rw [show (j : Int) - 0 * ((n * n : Nat) : Int) = ((i * n + q : Nat) : Int) by omega]
      refine r_aload_n d_15_49 rfl (by omega) ?_
      refine r_iload_n d_15_50 rfl ?_
      refine r_iload d_15_51 rfl ?_
      refine r_aload_n d_15_53 rfl (by omega) ?_
      refine r_getfv (ki := 1) d_15_54 q_15_9 rfl ha hA.1 ?_
      refine r_idivn d_15_57 (by omega) (by omega) ?_
      rw [ediv]
      refine r_iload d_15_58 rfl ?_
      refine r_aload_n d_15_60 rfl (by omega) ?_
      refine r_getfv (ki := 1) d_15_61 q_15_9 rfl ha hA.1 ?_
      refine r_iremn d_15_64 (by omega) (by omega) ?_
      rw [emod]
      refine r_callvp d_15_65 q_15_65 rfl rfl hen ?_
      refine r_iret d_15_68 rt_15 ?_
      exact ⟨rfl, rfl⟩
  · refine r_iconst d_15_29 rfl ?_
    refine r_iret d_15_30 rt_15 ?_
    exact ⟨by rw [if_neg (by omega)], rfl⟩
def sgn (z : Int) : Int := if z < 0 then -1 else if z = 0 then 0 else 1
theorem fdx_first {f g : Nat → Int} : ∀ {N : Nat}, fdx f g N ≠ 0 → ∃ c, c < N ∧ (∀ c', c' < c → f c' = g c') ∧ f c ≠ g c ∧ fdx f g N = f c - g c
  | 0, h => absurd rfl h
  | N + 1, h => by
    by_cases h0 : fdx f g N = 0
    · have h1 := fdx_z.mp h0
      have h2 : fdx f g (N + 1) = f N - g N := by
        show (if fdx f g N ≠ 0 then fdx f g N else f N - g N) = _
        rw [if_neg (fun q => q h0)]
      refine ⟨N, by omega, h1, fun q => h ?_, h2⟩
      rw [h2, q]
      omega
    · obtain ⟨c, h1, h2, h3, h4⟩ := fdx_first h0
      refine ⟨c, by omega, h2, h3, ?_⟩
      show (if fdx f g N ≠ 0 then fdx f g N else f N - g N) = _
      rw [if_pos h0, h4]
theorem ixlt {n g i j g0 i0 j0 : Nat} (hi : i < n) (hj : j < n) (hi0 : i0 < n) (hg : g < 2) (hg0 : g0 < 2) (h : g < g0 ∨ g = g0 ∧ i < i0) : g * (n * n) + i * n + j < g0 * (n * n) + i0 * n + j0 := by
  have a1 : i * n + n ≤ n * n := by
    have := Nat.mul_le_mul_right n (show i + 1 ≤ n by omega)
    rw [Nat.add_mul] at this
    omega
  rcases h with h | ⟨h, h2⟩
  · have e1 : g = 0 := by omega
    have e2 : g0 = 1 := by omega
    subst e1 e2
    rw [Nat.zero_mul, Nat.one_mul]
    omega
  · subst h
    have := Nat.mul_le_mul_right n (show i + 1 ≤ i0 by omega)
    rw [Nat.add_mul] at this
    omega
theorem c_compares (he : e ≤ 1) {M : Mo} {a b : Int} (ha : shp S0 a = (0, 3)) (hb : shp S0 b = (0, 3)) {n m : Nat} {A B : Nat → Nat → Nat → Kf e} (hA : AA e M a n A) (hB : AA e M b m B) : PI 16 [(2, a), (2, b)] M (sgn (cmpT n m (sqA n A) (sqA m B))) := by
  refine Cl.intro (L := [(2, a), (2, b), (9, 0), (9, 0)]) (rcv_v ow_16.2.1 ha) (by unfold entl; rw [mx_16]; rfl) (by rw [mx_16]; exact Nat.le_of_ble_eq_true rfl) rfl ?_
  have ha0 := shA_pos ha
  have hb0 := shA_pos hb
  have h6 := hA.n6
  refine r_aload_n d_16_0 rfl (by omega) ?_
  refine r_getfv (ki := 1) d_16_1 q_16_9 rfl ha hA.1 ?_
  refine r_aload_n d_16_4 rfl (by omega) ?_
  refine r_getfv (ki := 1) d_16_5 q_16_9 rfl hb hB.1 ?_
  refine r_callsp d_16_8 q_16_95 rfl rfl (j_compare M (n : Int) (m : Int)) ?_
  refine r_istore_n d_16_11 rfl (stl_4_2 rfl rfl) ?_
  refine r_iconst d_16_12 rfl ?_
  refine r_istore_n d_16_13 rfl (stl_4_3 rfl rfl) ?_
  by_cases hnm : n = m
  · subst hnm
    have e1 : cmpT n n (sqA n A) (sqA n B) = fdx (sqA n A) (sqA n B) (2 * (n * n)) := if_pos rfl
    rw [e1, if_neg (by omega), if_pos rfl]
    have hrows : ∀ k : Nat, k < 12 → M (a + 1) k = pv (rv n A (k / 6) (k % 6)) ∧ M (b + 1) k = pv (rv n B (k / 6) (k % 6)) := fun k hk => by
      have e2 : (k : Int) = 6 * ((k / 6 : Nat) : Int) + ((k % 6 : Nat) : Int) := by omega
      have h1 := hA.2.2 (k / 6) (k % 6) (by omega) (by omega)
      have h2 := hB.2.2 (k / 6) (k % 6) (by omega) (by omega)
      rw [← e2] at h1 h2
      exact ⟨h1, h2⟩
    by_cases hz : fdx (sqA n A) (sqA n B) (2 * (n * n)) = 0
    · rw [hz]
      have heq : ∀ k : Nat, k < 12 → pv (rv n A (k / 6) (k % 6)) = pv (rv n B (k / 6) (k % 6)) := fun k hk => by
        refine pv_congr (fun j _ => ?_)
        unfold rv
        by_cases q : k % 6 < n ∧ j < n
        · rw [if_pos q, if_pos q]
          apply vl_inj
          have := fdx_z.mp hz _ (ixb (g := k / 6) (by omega) q.1 q.2)
          rw [sqA_at q.1 q.2, sqA_at q.1 q.2] at this
          exact this
        · rw [if_neg q, if_neg q]
      refine dn_ind (R := fun i => Rn 16 14 [(2, a), (2, b), (0, 0), (0, i)] [] M _) (lo := 0) (n := 12) ?_ ?_ 0 (by omega) (by omega)
      · refine r_iload_n d_16_14 rfl ?_
        refine r_bipush d_16_15 rfl ?_
        refine r_icmp_ge (t := 46) d_16_17 rfl (fun _ => ?_) (fun hz => absurd (by omega) hz)
        refine r_iload_n d_16_46 rfl ?_
        refine r_iret d_16_47 rt_16 ?_
        exact ⟨rfl, rfl⟩
      · intro i i1 i2 ih
        obtain ⟨k, rfl⟩ : ∃ k : Nat, i = k := ⟨i.toNat, by omega⟩
        obtain ⟨r1, r2⟩ := hrows k (by omega)
        rw [← heq k (by omega)] at r2
        refine r_iload_n d_16_14 rfl ?_
        refine r_bipush d_16_15 rfl ?_
        refine r_icmp_ge (t := 46) d_16_17 rfl (fun hz => absurd hz (by omega)) (fun _ => ?_)
        refine r_iload_n d_16_20 rfl ?_
        refine r_if_ne (t := 46) d_16_21 rfl (fun hz => absurd hz (by decide)) (fun _ => ?_)
        refine r_aload_n d_16_24 rfl (by omega) ?_
        refine r_getc (ki := 2) d_16_25 q_16_15 rfl ha (fxA2 ha) (by omega) ?_
        refine r_iload_n d_16_28 rfl ?_
        refine r_laloadv d_16_29 (shA1 ha) (by omega) (by omega) r1 ?_
        refine r_aload_n d_16_30 rfl (by omega) ?_
        refine r_getc (ki := 2) d_16_31 q_16_15 rfl hb (fxA2 hb) (by omega) ?_
        refine r_iload_n d_16_34 rfl ?_
        refine r_laloadv d_16_35 (shA1 hb) (by omega) (by omega) r2 ?_
        refine r_callsp d_16_36 q_16_101 rfl rfl (j_lcompare M _ _) ?_
        rw [if_neg (by omega), if_pos rfl]
        refine r_istore_n d_16_39 rfl (stl_4_2 rfl rfl) ?_
        refine r_iinc d_16_40 rfl (by omega) (stl_4_3 rfl rfl) ?_
        refine r_goto (t := 14) d_16_43 rfl ?_
        exact ih
    · obtain ⟨c0, hc0, hbef, hne, hval⟩ := fdx_first hz
      obtain ⟨g0, i0, q0, hg0, hi0, hq0, hcc⟩ := ixs hc0
      subst hcc
      rw [sqA_at hi0 hq0, sqA_at hi0 hq0] at hne hval
      rw [hval]
      have heq : ∀ k : Nat, k < 6 * g0 + i0 → pv (rv n A (k / 6) (k % 6)) = pv (rv n B (k / 6) (k % 6)) := fun k hk => by
        refine pv_congr (fun j _ => ?_)
        unfold rv
        by_cases q : k % 6 < n ∧ j < n
        · rw [if_pos q, if_pos q]
          apply vl_inj
          have := hbef _ (ixlt (n := n) (g := k / 6) (i := k % 6) (j := j) (g0 := g0) (i0 := i0) (j0 := q0) q.1 q.2 hi0 (by omega) hg0 (by omega))
          rw [sqA_at q.1 q.2, sqA_at q.1 q.2] at this
          exact this
        · rw [if_neg q, if_neg q]
      have hsame : ∀ j, j < q0 → vl (rv n A g0 i0 j) = vl (rv n B g0 i0 j) := fun j hj => by
        unfold rv
        rw [if_pos ⟨hi0, by omega⟩, if_pos ⟨hi0, by omega⟩]
        have := hbef (g0 * (n * n) + i0 * n + j) (by omega)
        rw [sqA_at hi0 (by omega), sqA_at hi0 (by omega)] at this
        exact this
      have hA0 : rv n A g0 i0 q0 = A g0 i0 q0 := if_pos ⟨hi0, hq0⟩
      have hB0 : rv n B g0 i0 q0 = B g0 i0 q0 := if_pos ⟨hi0, hq0⟩
      have hend : ∀ (z : Int), z ≠ 0 → Rn 16 14 [(2, a), (2, b), (0, z), (0, ((6 * g0 + i0 : Nat) : Int) + 1)] [] M (fun v M' => v = some (0, z) ∧ M' = M) := by
        intro z hz0
        refine r_iload_n d_16_14 rfl ?_
        refine r_bipush d_16_15 rfl ?_
        refine r_icmp_ge (t := 46) d_16_17 rfl (fun hq => ?_) (fun hq => ?_)
        · refine r_iload_n d_16_46 rfl ?_
          refine r_iret d_16_47 rt_16 ?_
          exact ⟨rfl, rfl⟩
        · refine r_iload_n d_16_20 rfl ?_
          refine r_if_ne (t := 46) d_16_21 rfl (fun _ => ?_) (fun hz => absurd hz0 hz)
          refine r_iload_n d_16_46 rfl ?_
          refine r_iret d_16_47 rt_16 ?_
          exact ⟨rfl, rfl⟩
      refine dn_ind (R := fun i => Rn 16 14 [(2, a), (2, b), (0, 0), (0, i)] [] M _) (lo := 0) (n := ((6 * g0 + i0 : Nat) : Int)) ?_ ?_ 0 (by omega) (by omega)
      · obtain ⟨r1, r2⟩ := hrows (6 * g0 + i0) (by omega)
        rw [show (6 * g0 + i0) / 6 = g0 by omega, show (6 * g0 + i0) % 6 = i0 by omega] at r1 r2
        refine r_iload_n d_16_14 rfl ?_
        refine r_bipush d_16_15 rfl ?_
        refine r_icmp_ge (t := 46) d_16_17 rfl (fun hz => absurd hz (by omega)) (fun _ => ?_)
        refine r_iload_n d_16_20 rfl ?_
        refine r_if_ne (t := 46) d_16_21 rfl (fun hz => absurd hz (by decide)) (fun _ => ?_)
        refine r_aload_n d_16_24 rfl (by omega) ?_
        refine r_getc (ki := 2) d_16_25 q_16_15 rfl ha (fxA2 ha) (by omega) ?_
        refine r_iload_n d_16_28 rfl ?_
        refine r_laloadv d_16_29 (shA1 ha) (by omega) (by omega) r1 ?_
        refine r_aload_n d_16_30 rfl (by omega) ?_
        refine r_getc (ki := 2) d_16_31 q_16_15 rfl hb (fxA2 hb) (by omega) ?_
        refine r_iload_n d_16_34 rfl ?_
        refine r_laloadv d_16_35 (shA1 hb) (by omega) (by omega) r2 ?_
        refine r_callsp d_16_36 q_16_101 rfl rfl (j_lcompare M _ _) ?_
        rcases Int.lt_trichotomy (vl (A g0 i0 q0)) (vl (B g0 i0 q0)) with q | q | q
        · have hlt : pv (rv n A g0 i0) < pv (rv n B g0 i0) := hx_lt (dv he _) (dv he _) (i := q0) hsame (by rw [hA0, hB0]; exact q) (by omega)
          rw [if_pos hlt]
          refine r_istore_n d_16_39 rfl (stl_4_2 rfl rfl) ?_
          refine r_iinc d_16_40 rfl (by omega) (stl_4_3 rfl rfl) ?_
          refine r_goto (t := 14) d_16_43 rfl ?_
          have hs : sgn (vl (A g0 i0 q0) - vl (B g0 i0 q0)) = -1 := if_pos (by omega)
          rw [hs]
          exact hend (-1) (by decide)
        · exact absurd q hne
        · have hlt : pv (rv n B g0 i0) < pv (rv n A g0 i0) := hx_lt (dv he _) (dv he _) (i := q0) (fun j hj => (hsame j hj).symm) (by rw [hA0, hB0]; exact q) (by omega)
          rw [if_neg (by omega), if_neg (by omega)]
          refine r_istore_n d_16_39 rfl (stl_4_2 rfl rfl) ?_
          refine r_iinc d_16_40 rfl (by omega) (stl_4_3 rfl rfl) ?_
          refine r_goto (t := 14) d_16_43 rfl ?_
          have hs : sgn (vl (A g0 i0 q0) - vl (B g0 i0 q0)) = 1 := by unfold sgn; rw [if_neg (by omega), if_neg (by omega)]
          rw [hs]
          exact hend 1 (by decide)
      · intro i i1 i2 ih
        obtain ⟨k, rfl⟩ : ∃ k : Nat, i = k := ⟨i.toNat, by omega⟩
        obtain ⟨r1, r2⟩ := hrows k (by omega)
        rw [← heq k (by omega)] at r2
        refine r_iload_n d_16_14 rfl ?_
        refine r_bipush d_16_15 rfl ?_
        refine r_icmp_ge (t := 46) d_16_17 rfl (fun hz => absurd hz (by omega)) (fun _ => ?_)
        refine r_iload_n d_16_20 rfl ?_
        refine r_if_ne (t := 46) d_16_21 rfl (fun hz => absurd hz (by decide)) (fun _ => ?_)
        refine r_aload_n d_16_24 rfl (by omega) ?_
        refine r_getc (ki := 2) d_16_25 q_16_15 rfl ha (fxA2 ha) (by omega) ?_
        refine r_iload_n d_16_28 rfl ?_
        refine r_laloadv d_16_29 (shA1 ha) (by omega) (by omega) r1 ?_
        refine r_aload_n d_16_30 rfl (by omega) ?_
        refine r_getc (ki := 2) d_16_31 q_16_15 rfl hb (fxA2 hb) (by omega) ?_
        refine r_iload_n d_16_34 rfl ?_
        refine r_laloadv d_16_35 (shA1 hb) (by omega) (by omega) r2 ?_
        refine r_callsp d_16_36 q_16_101 rfl rfl (j_lcompare M _ _) ?_
        rw [if_neg (by omega), if_pos rfl]
        refine r_istore_n d_16_39 rfl (stl_4_2 rfl rfl) ?_
        refine r_iinc d_16_40 rfl (by omega) (stl_4_3 rfl rfl) ?_
        refine r_goto (t := 14) d_16_43 rfl ?_
        exact ih
  · have e1 : cmpT n m (sqA n A) (sqA m B) = (n : Int) - m := if_neg hnm
    rw [e1]
    have e2 : sgn ((n : Int) - m) = if (n : Int) < m then -1 else if (n : Int) = m then 0 else 1 := by
      unfold sgn
      by_cases q : (n : Int) < m
      · rw [if_pos q, if_pos (by omega)]
      · rw [if_neg q, if_neg (by omega), if_neg (by omega), if_neg (by omega)]
    rw [← e2]
    have hz0 : sgn ((n : Int) - m) ≠ 0 := by
      unfold sgn
      split
      · decide
      · rw [if_neg (by omega)]
        decide
    refine r_iload_n d_16_14 rfl ?_
    refine r_bipush d_16_15 rfl ?_
    refine r_icmp_ge (t := 46) d_16_17 rfl (fun hz => absurd hz (by omega)) (fun _ => ?_)
    refine r_iload_n d_16_20 rfl ?_
    refine r_if_ne (t := 46) d_16_21 rfl (fun _ => ?_) (fun hz => absurd hz0 hz)
    refine r_iload_n d_16_46 rfl ?_
    refine r_iret d_16_47 rt_16 ?_
    exact ⟨rfl, rfl⟩
end
