/-! The class: a least spun space; simple, least. -/
section
variable {e n : Nat} {A : Nat → Nat → Nat → Kf e}
def scv (c : Kf e) (w : Vc e) : Vc e := fun i => c * w i
theorem spS_sc (he : e ≤ 1) (hn : n ≤ 6) {w : Vc e} (hw : sup n w) {c : Kf e} (hc : c ≠ 0) : ∀ u, spS n A (scv c w) u ↔ spS n A w u := by
  have hs : sup n (scv c w) := fun i hi => by
    unfold scv
    rw [hw i hi]
    grind
  obtain ⟨h1, h2, h3⟩ := spS_ok (A := A) he hn hw
  obtain ⟨g1, g2, g3⟩ := spS_ok (A := A) he hn hs
  intro u
  constructor
  · exact spS_min h1 h2 (sub_sc h1 h3 c) u
  · refine spS_min g1 g2 ?_ u
    have h4 := sub_sc g1 g3 c
    have e1 : (fun i => c * scv c w i) = w := by
      funext i
      unfold scv
      have : c * (c * w i) = (c * c) * w i := by grind
      rw [this, sq1 he hc]
      grind
    rw [e1] at h4
    exact h4
theorem last_ex {w : Vc e} (hw : sup n w) (h : w ≠ z0) : ∃ k, k < n ∧ w k ≠ 0 ∧ ∀ j, k < j → w j = 0 := by
  have key : ∀ m : Nat, sup m w → ∃ k, k < m ∧ w k ≠ 0 ∧ ∀ j, k < j → w j = 0 := by
    intro m
    induction m with
    | zero =>
      intro hs
      exact absurd (funext (fun i => hs i (Nat.zero_le i))) h
    | succ m ih =>
      intro hs
      by_cases q : w m = 0
      · obtain ⟨k, h1, h2⟩ := ih (fun i hi => by
          by_cases z : i = m
          · rw [z]; exact q
          · exact hs i (by omega))
        exact ⟨k, by omega, h2⟩
      · exact ⟨m, by omega, q, fun j hj => hs j (by omega)⟩
  exact key n hw
/-- numbers of vectors whose last element is 1 -/
def nrm (e n : Nat) (u : Int) : Prop := ∃ k, k < n ∧ pI e ^ k ≤ u ∧ u < 2 * pI e ^ k
theorem nrm_rng (he : e ≤ 1) {u : Int} (h : nrm e n u) : 1 ≤ u ∧ u < pI e ^ n := by
  obtain ⟨k, h1, h2, h3⟩ := h
  have hb := (pI23 he).b
  have p1 := pw_pos (pI23 he) k
  have p2 := pw_le (pI23 he) (show k + 1 ≤ n by omega)
  rw [Int.pow_succ] at p2
  have p3 : pI e ^ k * 2 ≤ pI e ^ k * pI e := Int.mul_le_mul_of_nonneg_left hb.1 (by omega)
  omega
theorem nrm_ex (he : e ≤ 1) (hn : n ≤ 6) {v : Int} (h0 : 1 ≤ v) (h1 : v < pI e ^ n) : ∃ u c, nrm e n u ∧ c ≠ 0 ∧ toV e n u = scv c (toV e n v) := by
  have hv : toV e n v ≠ z0 := fun q => by
    have := (num_eq0 he toV_sup).mpr q
    rw [num_toV he (by omega) h1] at this
    omega
  obtain ⟨k, k1, k2, k3⟩ := last_ex toV_sup hv
  have hs : sup n (scv (toV e n v k) (toV e n v)) := fun i hi => by
    unfold scv
    rw [toV_sup i hi]
    grind
  refine ⟨num n (scv (toV e n v k) (toV e n v)), toV e n v k, ⟨k, k1, ?_⟩, k2, toV_num he hs⟩
  have hs2 : sup (k + 1) (scv (toV e n v k) (toV e n v)) := fun i hi => by
    unfold scv
    rw [k3 i (by omega)]
    grind
  have e1 : num n (scv (toV e n v k) (toV e n v)) = num (k + 1) (scv (toV e n v k) (toV e n v)) := num_ext hs2 (by omega)
  have e2 : num (k + 1) (scv (toV e n v k) (toV e n v)) = num k (scv (toV e n v k) (toV e n v)) + vl (scv (toV e n v k) (toV e n v) k) * pI e ^ k := rfl
  have e3 : scv (toV e n v k) (toV e n v) k = 1 := sq1 he k2
  have hr := num_rng he k (scv (toV e n v k) (toV e n v))
  rw [e1, e2, e3, vl_1]
  omega
theorem dm_pos {S : Vc e → Prop} (hS : Sub n S) {w : Vc e} (hw : S w) (h : w ≠ z0) : 1 ≤ dm n S := by
  obtain ⟨i, hi, hf⟩ := fp_ex (hS.2.2 w hw) h
  have h1 : Lp S i := ⟨w, hw, hf⟩
  have := cnt_lt (P := Lp S) hi h1
  show 1 ≤ cnt (Lp S) n
  omega
theorem sl_pos (he : e ≤ 1) (hn : n ≤ 6) {v : Int} (h0 : 1 ≤ v) (h1 : v < pI e ^ n) : 1 ≤ sl n A v ∧ sl n A v ≤ n := by
  obtain ⟨g1, g2, g3⟩ := spS_ok (A := A) he hn (toV_sup (e := e) (n := n) (v := v))
  rw [sl_dm he]
  refine ⟨dm_pos g1 g3 (fun q => ?_), dm_le _⟩
  have := (num_eq0 he toV_sup).mpr q
  rw [num_toV he (by omega) h1] at this
  omega
theorem sl_nrm (he : e ≤ 1) (hn : n ≤ 6) {v : Int} (h0 : 1 ≤ v) (h1 : v < pI e ^ n) : ∃ u, nrm e n u ∧ sl n A u = sl n A v := by
  obtain ⟨u, c, hu, hc, he1⟩ := nrm_ex he hn h0 h1
  refine ⟨u, hu, ?_⟩
  rw [sl_dm he, sl_dm he, he1]
  exact dm_congr (spS_sc he hn toV_sup hc)
/-- a vector that spins a smallest space -/
def lsv (n : Nat) (A : Nat → Nat → Nat → Kf e) (v : Int) : Prop := 1 ≤ v ∧ v < pI e ^ n ∧ ∀ u : Int, 1 ≤ u → u < pI e ^ n → sl n A v ≤ sl n A u
theorem c_spinsLeast (he : e ≤ 1) {M : Mo} (hp : M 1 0 = pI e) {a b : Int} (ha : shp S0 a = (7, 5)) (hb : shp S0 b = (0, 3)) (hA : AA e M b n A) (h1 : 1 ≤ n) : CV 58 [(2, a), (2, b)] M (fun M' => Fr (WP a) M M' ∧ ∃ v, lsv n A v ∧ ST M' a n (spin n A [] (toV e n v)) ∧ ∀ x ∈ spin n A [] (toV e n v), sup n x) := by
  have ha0 := shS_pos ha
  have hb0 := shA_pos hb
  have h23 := pI23 he
  have hbb := h23.b
  have h6 := hA.n6
  have hp6 := pw_6 h23 h6
  have hmain : ∀ (M1 : Mo) (v l q : Int) (y z : AV), Fr (WP a) M M1 → lsv n A v → Rn 58 104 [(2, a), (2, b), (0, l), (0, v), (0, q), y, z] [] M1 (fun r M' => r = none ∧ Fr (WP a) M M' ∧ ∃ v, lsv n A v ∧ ST M' a n (spin n A [] (toV e n v)) ∧ ∀ x ∈ spin n A [] (toV e n v), sup n x) := by
    intro M1 v l q y z hF hv
    have hA1 := WP_A ha hb hF hA
    refine r_aload_n d_58_104 rfl (by omega) ?_
    refine r_aload_n d_58_105 rfl (by omega) ?_
    refine r_getfv (ki := 1) d_58_106 q_58_67 rfl hb hA1.1 ?_
    refine r_callvr d_58_109 q_58_73 rfl rfl (c_sempties (e := e) M1 ha h6) (fun M2 hM2 => ?_)
    obtain ⟨hF2, hT2⟩ := hM2
    have hp2 := WP_p ha hF2 (WP_p ha hF hp)
    have hA2 := WP_A ha hb hF2 hA1
    refine r_aload_n d_58_112 rfl (by omega) ?_
    refine r_aload_n d_58_113 rfl (by omega) ?_
    refine r_getc (ki := 0) d_58_114 q_58_25 rfl ha (fxS0 ha) (by omega) ?_
    refine r_iload_n d_58_117 rfl ?_
    refine r_aload_n d_58_118 rfl (by omega) ?_
    refine r_getfv (ki := 1) d_58_119 q_58_67 rfl hb hA2.1 ?_
    refine r_callvl d_58_122 q_58_77 rfl rfl (c_vector he M2 hp2 (by have := hv.1; have := hv.2.1; omega) h6) ?_
    refine r_callvr d_58_125 q_58_63 rfl rfl (c_takesP he hp2 ha hT2 (fun x hx => absurd hx List.not_mem_nil) toV_sup) (fun M3 hM3 => ?_)
    obtain ⟨hF3, hT3⟩ := hM3
    have hp3 := WP_p ha hF3 hp2
    have hA3 := WP_A ha hb hF3 hA2
    refine r_aload_n d_58_128 rfl (by omega) ?_
    refine r_aload_n d_58_129 rfl (by omega) ?_
    refine r_callvr d_58_130 q_58_81 rfl rfl (c_spins he hp3 ha hb hA3 hT3 (addv_sup (fun x hx => absurd hx List.not_mem_nil) toV_sup)) (fun M4 hM4 => ?_)
    obtain ⟨hF4, hT4⟩ := hM4
    rw [← spin_nil] at hT4
    refine r_vret d_58_133 rt_58 ?_
    have hg : Good n (spin n A [] (toV e n v)) := spin_good he Good.nil toV_sup
    exact ⟨rfl, ((hF.trans hF2 (fun _ _ q => q) (fun _ _ q => q)).trans hF3 (fun _ _ q => q) (fun _ _ q => q)).trans hF4 (fun _ _ q => q) (fun _ _ q => q), v, hv, hT4, hg.1⟩
  refine Cl.intro (L := [(2, a), (2, b), (9, 0), (9, 0), (9, 0), (9, 0), (9, 0)]) (rcv_v ow_58.2.1 ha) (by unfold entl; rw [mx_58]; rfl) (by rw [mx_58]; exact Nat.le_of_ble_eq_true rfl) rfl ?_
  refine r_bipush d_58_0 rfl ?_
  refine r_istore_n d_58_2 rfl (stl_7_2 rfl rfl) ?_
  refine r_iconst d_58_3 rfl ?_
  refine r_istore_n d_58_4 rfl (stl_7_3 rfl rfl) ?_
  refine r_iconst d_58_5 rfl ?_
  refine r_istore d_58_6 rfl (stl_7_4 rfl rfl) ?_
  refine dn_ind (R := fun q => ∀ (M1 : Mo) (l v : Int) (y z : AV), Fr (WP a) M M1 → ((l = 7 ∧ q = 0) ∨ (1 ≤ l ∧ nrm e n v ∧ l = sl n A v ∧ ∀ (k : Nat) (u : Int), (k : Int) < q → k < n → pI e ^ k ≤ u → u < 2 * pI e ^ k → l ≤ sl n A u)) → Rn 58 8 [(2, a), (2, b), (0, l), (0, v), (0, q), y, z] [] M1 _) (lo := 0) (n := n) ?_ ?_ 0 (by omega) (by omega) M 7 0 (9, 0) (9, 0) Fr.refl (Or.inl ⟨rfl, rfl⟩)
  · intro M1 l v y z hF hi
    have hA1 := WP_A ha hb hF hA
    refine r_iload d_58_8 rfl ?_
    refine r_aload_n d_58_10 rfl (by omega) ?_
    refine r_getfv (ki := 1) d_58_11 q_58_67 rfl hb hA1.1 ?_
    refine r_icmp_ge (t := 104) d_58_14 rfl (fun _ => ?_) (fun hz => absurd (by omega) hz)
    rcases hi with ⟨-, hq⟩ | ⟨-, hn, hl, hm⟩
    · omega
    · have hr := nrm_rng he hn
      refine hmain M1 v l n y z hF ⟨hr.1, hr.2, fun u u1 u2 => ?_⟩
      obtain ⟨u', ⟨k, k1, k2, k3⟩, hu'⟩ := sl_nrm (A := A) he h6 u1 u2
      have := hm k u' (by omega) k1 k2 k3
      omega
  · intro q q1 q2 ih M1 l v y z hF hi
    obtain ⟨k, rfl⟩ : ∃ k : Nat, q = k := ⟨q.toNat, by omega⟩
    have hA1 := WP_A ha hb hF hA
    have hp1 := WP_p ha hF hp
    have hpw := c_power M1 hp1 h23 (k : Int) (by omega)
    rw [show ((k : Int)).toNat = k by omega] at hpw
    have pk1 := pw_pos h23 k
    have pk2 := pw_le h23 (show k + 1 ≤ n by omega)
    rw [Int.pow_succ] at pk2
    have pk3 : pI e ^ k * 2 ≤ pI e ^ k * pI e := Int.mul_le_mul_of_nonneg_left hbb.1 (by omega)
    refine r_iload d_58_8 rfl ?_
    refine r_aload_n d_58_10 rfl (by omega) ?_
    refine r_getfv (ki := 1) d_58_11 q_58_67 rfl hb hA1.1 ?_
    refine r_icmp_ge (t := 104) d_58_14 rfl (fun hz => absurd hz (by omega)) (fun _ => ?_)
    refine r_aload_n d_58_17 rfl (by omega) ?_
    refine r_getc (ki := 0) d_58_18 q_58_25 rfl ha (fxS0 ha) (by omega) ?_
    refine r_iload d_58_21 rfl ?_
    refine r_callvp d_58_23 q_58_70 rfl rfl hpw ?_
    refine r_istore d_58_26 rfl (stl_7_5 rfl rfl) ?_
    refine r_iload d_58_28 rfl ?_
    refine r_istore d_58_30 rfl (stl_7_6 rfl rfl) ?_
    refine dn_ind (R := fun u => ∀ (M1 : Mo) (l v : Int), Fr (WP a) M M1 → ((l = 7 ∧ (k : Int) = 0 ∧ u = pI e ^ k) ∨ (1 ≤ l ∧ nrm e n v ∧ l = sl n A v ∧ (∀ (k' : Nat) (u : Int), (k' : Int) < k → k' < n → pI e ^ k' ≤ u → u < 2 * pI e ^ k' → l ≤ sl n A u) ∧ ∀ u' : Int, pI e ^ k ≤ u' → u' < u → l ≤ sl n A u')) → Rn 58 32 [(2, a), (2, b), (0, l), (0, v), (0, (k : Int)), (0, pI e ^ k), (0, u)] [] M1 _) (lo := pI e ^ k) (n := 2 * pI e ^ k) ?_ ?_ (pI e ^ k) (by omega) (by omega) M1 l v hF ?_
    · intro M1 l v hF hi
      refine r_iload d_58_32 rfl ?_
      refine r_iconst d_58_34 rfl ?_
      refine r_iload d_58_35 rfl ?_
      refine r_imul d_58_37 (by omega) ?_
      refine r_icmp_ge (t := 98) d_58_38 rfl (fun _ => ?_) (fun hz => absurd (by omega) hz)
      refine r_iinc d_58_98 rfl (by omega) (stl_7_4 rfl rfl) ?_
      refine r_goto (t := 8) d_58_101 rfl ?_
      refine ih M1 l v _ _ hF ?_
      rcases hi with ⟨-, -, h3⟩ | ⟨h3, h4, h5, h6, h7⟩
      · omega
      · refine Or.inr ⟨h3, h4, h5, fun k' u z1 z2 z3 z4 => ?_⟩
        by_cases hk : k' = k
        · subst hk
          exact h7 u z3 z4
        · exact h6 k' u (by omega) z2 z3 z4
    · intro u u1 u2 ihu M1 l v hF hi
      have hA1 := WP_A ha hb hF hA
      have hp1 := WP_p ha hF hp
      have hun : nrm e n u := ⟨k, by omega, u1, u2⟩
      have hur := nrm_rng he hun
      have hslu := sl_pos (A := A) he h6 hur.1 hur.2
      refine r_iload d_58_32 rfl ?_
      refine r_iconst d_58_34 rfl ?_
      refine r_iload d_58_35 rfl ?_
      refine r_imul d_58_37 (by omega) ?_
      refine r_icmp_ge (t := 98) d_58_38 rfl (fun hz => absurd hz (by omega)) (fun _ => ?_)
      refine r_iload_n d_58_41 rfl ?_
      refine r_iconst d_58_42 rfl ?_
      refine r_icmp_le (t := 98) d_58_43 rfl (fun hl1 => ?_) (fun hl1 => ?_)
      · refine r_iinc d_58_98 rfl (by omega) (stl_7_4 rfl rfl) ?_
        refine r_goto (t := 8) d_58_101 rfl ?_
        refine ih M1 l v _ _ hF ?_
        rcases hi with ⟨h3, -, -⟩ | ⟨h3, h4, h5, h6', h7⟩
        · omega
        · refine Or.inr ⟨h3, h4, h5, fun k' u' z1 z2 z3 z4 => ?_⟩
          have hr := nrm_rng he ⟨k', z2, z3, z4⟩
          have := sl_pos (A := A) he h6 hr.1 hr.2
          omega
      · refine r_aload_n d_58_46 rfl (by omega) ?_
        refine r_aload_n d_58_47 rfl (by omega) ?_
        refine r_getfv (ki := 1) d_58_48 q_58_67 rfl hb hA1.1 ?_
        refine r_callvr d_58_51 q_58_73 rfl rfl (c_sempties (e := e) M1 ha h6) (fun M2 hM2 => ?_)
        obtain ⟨hF2, hT2⟩ := hM2
        have hp2 := WP_p ha hF2 hp1
        have hA2 := WP_A ha hb hF2 hA1
        refine r_aload_n d_58_54 rfl (by omega) ?_
        refine r_aload_n d_58_55 rfl (by omega) ?_
        refine r_getc (ki := 0) d_58_56 q_58_25 rfl ha (fxS0 ha) (by omega) ?_
        refine r_iload d_58_59 rfl ?_
        refine r_aload_n d_58_61 rfl (by omega) ?_
        refine r_getfv (ki := 1) d_58_62 q_58_67 rfl hb hA2.1 ?_
        refine r_callvl d_58_65 q_58_77 rfl rfl (c_vector he M2 hp2 (by omega) h6) ?_
        refine r_callvr d_58_68 q_58_63 rfl rfl (c_takesP he hp2 ha hT2 (fun x hx => absurd hx List.not_mem_nil) toV_sup) (fun M3 hM3 => ?_)
        obtain ⟨hF3, hT3⟩ := hM3
        have hp3 := WP_p ha hF3 hp2
        have hA3 := WP_A ha hb hF3 hA2
        refine r_aload_n d_58_71 rfl (by omega) ?_
        refine r_aload_n d_58_72 rfl (by omega) ?_
        refine r_callvr d_58_73 q_58_81 rfl rfl (c_spins he hp3 ha hb hA3 hT3 (addv_sup (fun x hx => absurd hx List.not_mem_nil) toV_sup)) (fun M4 hM4 => ?_)
        obtain ⟨hF4, hT4⟩ := hM4
        rw [← spin_nil] at hT4
        have hd : M4 a 2 = (sl n A u : Nat) := hT4.2.1
        have hFa : Fr (WP a) M M4 := ((hF.trans hF2 (fun _ _ q => q) (fun _ _ q => q)).trans hF3 (fun _ _ q => q) (fun _ _ q => q)).trans hF4 (fun _ _ q => q) (fun _ _ q => q)
        refine r_aload_n d_58_76 rfl (by omega) ?_
        refine r_getfv (ki := 2) d_58_77 q_58_15 rfl ha hd ?_
        refine r_iload_n d_58_80 rfl ?_
        refine r_icmp_ge (t := 92) d_58_81 rfl (fun hge => ?_) (fun hge => ?_)
        · refine r_iinc d_58_92 rfl (by omega) (stl_7_6 rfl rfl) ?_
          refine r_goto (t := 32) d_58_95 rfl ?_
          refine ihu M4 l v hFa ?_
          rcases hi with ⟨h3, -, -⟩ | ⟨h3, h4, h5, h6', h7⟩
          · omega
          · refine Or.inr ⟨h3, h4, h5, h6', fun u' z1 z2 => ?_⟩
            by_cases hu : u' = u
            · subst hu
              exact hge
            · exact h7 u' z1 (by omega)
        · refine r_aload_n d_58_84 rfl (by omega) ?_
          refine r_getfv (ki := 2) d_58_85 q_58_15 rfl ha hd ?_
          refine r_istore_n d_58_88 rfl (stl_7_2 rfl rfl) ?_
          refine r_iload d_58_89 rfl ?_
          refine r_istore_n d_58_91 rfl (stl_7_3 rfl rfl) ?_
          refine r_iinc d_58_92 rfl (by omega) (stl_7_6 rfl rfl) ?_
          refine r_goto (t := 32) d_58_95 rfl ?_
          refine ihu M4 _ u hFa (Or.inr ⟨by omega, hun, rfl, ?_⟩)
          rcases hi with ⟨h3, h4, h5⟩ | ⟨h3, h4, h5, h6', h7⟩
          · refine ⟨fun k' u' z1 z2 z3 z4 => by omega, fun u' z1 z2 => ?_⟩
            have : u' = u := by omega
            subst this
            exact Int.le_refl _
          · refine ⟨fun k' u' z1 z2 z3 z4 => ?_, fun u' z1 z2 => ?_⟩
            · have := h6' k' u' z1 z2 z3 z4
              omega
            · by_cases hu : u' = u
              · subst hu
                exact Int.le_refl _
              · have := h7 u' z1 (by omega)
                omega
    · rcases hi with ⟨h3, h4⟩ | ⟨h3, h4, h5, h6'⟩
      · exact Or.inl ⟨h3, h4, rfl⟩
      · exact Or.inr ⟨h3, h4, h5, h6', fun u' z1 z2 => by omega⟩
end
theorem c_simple_bad (M : Mo) (hb : cbC M) {k : Int} (h : ¬ (0 ≤ k ∧ k ≤ 3)) : PJ 89 [(2, 0), (0, k)] M (-2) (up2 M 0 11 (M 0 11 + 1)) := by
  have hbad := c_fails_b M hb
  refine Cl.intro (L := [(2, 0), (0, k)]) (rcv_v ow_89.2.1 sh_0) (by unfold entl; rw [mx_89]; rfl) (by rw [mx_89]; exact Nat.le_of_ble_eq_true rfl) rfl ?_
  refine r_aload_n d_89_0 rfl (by omega) ?_
  refine r_iload_n d_89_1 rfl ?_
  refine r_callvp d_89_2 q_89_106 rfl rfl (c_isModule M k) ?_
  rw [if_neg h]
  refine r_if_ne (t := 15) d_89_5 rfl (fun hz => absurd hz (fun q => q rfl)) (fun _ => ?_)
  refine r_aload_n d_89_8 rfl (by omega) ?_
  refine r_bipush d_89_9 rfl ?_
  refine r_callvj d_89_11 q_89_91 rfl rfl hbad ?_
  refine r_iret d_89_14 rt_89 ?_
  exact ⟨rfl, rfl⟩
theorem c_simple {M : Mo} {s : Sst} (hv : vs s) (hc : cuC M s) {k : Nat} (hk : k < 4) : CI 89 [(2, 0), (0, (k : Int))] M (fun z M' => z = ifp (isSim (s.2.1 k) (mdA s k)) 1 0 ∧ Fr WX M M') := by
  refine Cl.intro (L := [(2, 0), (0, (k : Int))]) (rcv_v ow_89.2.1 sh_0) (by unfold entl; rw [mx_89]; rfl) (by rw [mx_89]; exact Nat.le_of_ble_eq_true rfl) rfl ?_
  refine r_aload_n d_89_0 rfl (by omega) ?_
  refine r_iload_n d_89_1 rfl ?_
  refine r_callvp d_89_2 q_89_106 rfl rfl (c_isModule M k) ?_
  rw [if_pos (by omega)]
  refine r_if_ne (t := 15) d_89_5 rfl (fun _ => ?_) (fun hz => absurd (by decide) hz)
  refine r_aload_n d_89_15 rfl (by omega) ?_
  refine r_getc (ki := 3) d_89_16 q_89_32 rfl sh_0 fx_0_3 (by omega) ?_
  refine r_aload_n d_89_19 rfl (by omega) ?_
  refine r_getc (ki := 1) d_89_20 q_89_18 rfl sh_0 fx_0_1 (by omega) ?_
  refine r_iload_n d_89_23 rfl ?_
  refine r_aaloadc d_89_24 sh_2 (by decide) (by omega) (by omega) (fxM (by omega) (by omega)) (by omega) ?_
  refine r_callvr d_89_25 q_89_201 rfl rfl (c_spinsLeast hv.1 hc.1 sh_5 (shM hk) (hc.2 k hk) (hv.2 k hk).1) (fun M1 hM1 => ?_)
  obtain ⟨hF1, v, hls, hT1, hs1⟩ := hM1
  have hc1 := WP_c hF1 hc
  have hd : M1 5 2 = (sl (s.2.1 k) (mdA s k) v : Nat) := hT1.2.1
  have h6 := vs_6 hv hk
  refine r_aload_n d_89_28 rfl (by omega) ?_
  refine r_getc (ki := 3) d_89_29 q_89_32 rfl sh_0 fx_0_3 (by omega) ?_
  refine r_getfv (ki := 2) d_89_32 q_89_176 rfl sh_5 hd ?_
  refine r_aload_n d_89_35 rfl (by omega) ?_
  refine r_getc (ki := 1) d_89_36 q_89_18 rfl sh_0 fx_0_1 (by omega) ?_
  refine r_iload_n d_89_39 rfl ?_
  refine r_aaloadc d_89_40 sh_2 (by decide) (by omega) (by omega) (fxM (by omega) (by omega)) (by omega) ?_
  refine r_getfv (ki := 1) d_89_41 q_89_149 rfl (shM hk) (hc1.2 k hk).1 ?_
  refine r_icmp_ne (t := 51) d_89_44 rfl (fun hne => ?_) (fun hne => ?_)
  · refine r_iconst d_89_51 rfl ?_
    refine r_iret d_89_52 rt_89 ?_
    refine ⟨_, rfl, ?_, hF1.mono (fun _ _ q => WP_X q)⟩
    rw [ifp_f]
    intro q
    have := q v hls.1 hls.2.1
    omega
  · refine r_iconst d_89_47 rfl ?_
    refine r_goto (t := 52) d_89_48 rfl ?_
    refine r_iret d_89_52 rt_89 ?_
    refine ⟨_, rfl, ?_, hF1.mono (fun _ _ q => WP_X q)⟩
    rw [ifp_t]
    intro u u1 u2
    have h1 := hls.2.2 u u1 u2
    have h2 := sl_pos (A := mdA s k) hv.1 h6 u1 u2
    omega
theorem c_least_bad (M : Mo) (hb : cbC M) {k : Int} (h : ¬ (0 ≤ k ∧ k ≤ 3)) : PJ 90 [(2, 0), (0, k)] M (-2) (up2 M 0 11 (M 0 11 + 1)) := by
  have hbad := c_fails_b M hb
  refine Cl.intro (L := [(2, 0), (0, k)]) (rcv_v ow_90.2.1 sh_0) (by unfold entl; rw [mx_90]; rfl) (by rw [mx_90]; exact Nat.le_of_ble_eq_true rfl) rfl ?_
  refine r_aload_n d_90_0 rfl (by omega) ?_
  refine r_iload_n d_90_1 rfl ?_
  refine r_callvp d_90_2 q_90_106 rfl rfl (c_isModule M k) ?_
  rw [if_neg h]
  refine r_if_ne (t := 15) d_90_5 rfl (fun hz => absurd hz (fun q => q rfl)) (fun _ => ?_)
  refine r_aload_n d_90_8 rfl (by omega) ?_
  refine r_bipush d_90_9 rfl ?_
  refine r_callvj d_90_11 q_90_91 rfl rfl hbad ?_
  refine r_iret d_90_14 rt_90 ?_
  exact ⟨rfl, rfl⟩
theorem c_least {M : Mo} {s : Sst} (hv : vs s) (hc : cuC M s) {k : Nat} (hk : k < 4) : CI 90 [(2, 0), (0, (k : Int))] M (fun z M' => leaP (s.2.1 k) (mdA s k) z ∧ Fr WX M M') := by
  refine Cl.intro (L := [(2, 0), (0, (k : Int))]) (rcv_v ow_90.2.1 sh_0) (by unfold entl; rw [mx_90]; rfl) (by rw [mx_90]; exact Nat.le_of_ble_eq_true rfl) rfl ?_
  refine r_aload_n d_90_0 rfl (by omega) ?_
  refine r_iload_n d_90_1 rfl ?_
  refine r_callvp d_90_2 q_90_106 rfl rfl (c_isModule M k) ?_
  rw [if_pos (by omega)]
  refine r_if_ne (t := 15) d_90_5 rfl (fun _ => ?_) (fun hz => absurd (by decide) hz)
  refine r_aload_n d_90_15 rfl (by omega) ?_
  refine r_getc (ki := 3) d_90_16 q_90_32 rfl sh_0 fx_0_3 (by omega) ?_
  refine r_aload_n d_90_19 rfl (by omega) ?_
  refine r_getc (ki := 1) d_90_20 q_90_18 rfl sh_0 fx_0_1 (by omega) ?_
  refine r_iload_n d_90_23 rfl ?_
  refine r_aaloadc d_90_24 sh_2 (by decide) (by omega) (by omega) (fxM (by omega) (by omega)) (by omega) ?_
  refine r_callvr d_90_25 q_90_201 rfl rfl (c_spinsLeast hv.1 hc.1 sh_5 (shM hk) (hc.2 k hk) (hv.2 k hk).1) (fun M1 hM1 => ?_)
  obtain ⟨hF1, v, hls, hT1, hs1⟩ := hM1
  have hd : M1 5 2 = (sl (s.2.1 k) (mdA s k) v : Nat) := hT1.2.1
  have h6 := vs_6 hv hk
  have hsl := sl_pos (A := mdA s k) hv.1 h6 hls.1 hls.2.1
  refine r_aload_n d_90_28 rfl (by omega) ?_
  refine r_getc (ki := 3) d_90_29 q_90_32 rfl sh_0 fx_0_3 (by omega) ?_
  refine r_getfv (ki := 2) d_90_32 q_90_176 rfl sh_5 hd ?_
  refine r_iret d_90_35 rt_90 ?_
  refine ⟨_, rfl, ⟨by omega, fun u u1 u2 => ?_, Or.inr ⟨v, hls.1, hls.2.1, rfl⟩⟩, hF1.mono (fun _ _ q => WP_X q)⟩
  have := hls.2.2 u u1 u2
  omega
theorem leaP_eq {e n : Nat} {A : Nat → Nat → Nat → Kf e} {y z : Int} (hy : leaP n A y) (hz : leaP n A z) : y = z := by
  obtain ⟨y1, y2, y3⟩ := hy
  obtain ⟨z1, z2, z3⟩ := hz
  have h1 : y ≤ z := by
    rcases z3 with q | ⟨v, v1, v2, v3⟩
    · omega
    · have := y2 v v1 v2
      omega
  have h2 : z ≤ y := by
    rcases y3 with q | ⟨v, v1, v2, v3⟩
    · omega
    · have := z2 v v1 v2
      omega
  omega
