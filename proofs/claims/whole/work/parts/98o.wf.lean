/-! The class: writesFrom, one step. -/
theorem fac_two : ∀ a ∈ List.range 248, sg S0 a = (1, 8) → a = 81 ∨ a = 106 := by decide +kernel
theorem shF_ab {a : Int} (h : shp S0 a = (1, 8)) : a = 81 ∨ a = 106 := by
  obtain ⟨k, rfl, hk, hs⟩ := shp_spec h (by decide)
  rw [S0_len] at hk
  have := fac_two k (List.mem_range.mpr hk) hs
  omega
theorem shF_pos {a : Int} (h : shp S0 a = (1, 8)) : 0 ≤ a := sh_pos h (by decide)
theorem shF1 {a : Int} (h : shp S0 a = (1, 8)) : shp S0 (a + 1) = (22, 6) := by rcases shF_ab h with rfl | rfl <;> decide +kernel
theorem shF14 {a : Int} (h : shp S0 a = (1, 8)) : shp S0 (a + 14) = (0, 3) := by rcases shF_ab h with rfl | rfl <;> decide +kernel
theorem shF16 {a : Int} (h : shp S0 a = (1, 8)) : shp S0 (a + 16) = (0, 3) := by rcases shF_ab h with rfl | rfl <;> decide +kernel
theorem shF18 {a : Int} (h : shp S0 a = (1, 8)) : shp S0 (a + 18) = (0, 3) := by rcases shF_ab h with rfl | rfl <;> decide +kernel
theorem shF20 {a : Int} (h : shp S0 a = (1, 8)) : shp S0 (a + 20) = (0, 3) := by rcases shF_ab h with rfl | rfl <;> decide +kernel
theorem shF22 {a : Int} (h : shp S0 a = (1, 8)) : shp S0 (a + 22) = (7, 5) := by rcases shF_ab h with rfl | rfl <;> decide +kernel
section
variable {e n : Nat} {B : Nat → Nat → Nat → Kf e}
theorem mv_auv (hn : n ≤ 6) {C : Nat → Nat → Kf e} {x : Vc e} {i : Nat} : mv n C (auv x i) = mv n C x := by
  funext j
  unfold mv
  by_cases q : j < n
  · rw [if_pos q, if_pos q]
    refine sK_congr (fun k hk => ?_)
    have : auv x i k = x k := by
      show x k + 1 * (un (6 + i) : Vc e) k = x k
      unfold un
      rw [if_neg (by omega)]
      grind
    rw [this]
  · rw [if_neg q, if_neg q]
theorem lc_nn (w : Vc e) : lc z0 (-1) (lc z0 (-1) w) = w := by
  funext i
  unfold lc z0
  grind
theorem wf_step (he : e ≤ 1) {M : Mo} (hp : M 1 0 = pI e) {a b : Int} (ha : shp S0 a = (1, 8)) (hb : shp S0 b = (0, 3)) (hP : AA e M (a + 18) n B) {T : List (Vc e)} (hT : ST M (a + 22) n (au T)) (hG : Good n T) {i g : Nat} (hi : i < T.length) (hg : g < 2) {x1 x5 : Int} {y8 y9 y10 y11 : AV} {Q : Option AV → Mo → Prop} (hk : ∀ (M2 : Mo) (z8 z10 : Int), Fr (fun x y => (x = a + 21 ∧ y = 6 * g + i) ∨ WP (a + 22) x y) M M2 → ST M2 (a + 22) n (au (addv T (mv n (B g) (T.getD i z0)))) → M2 (a + 21) (6 * g + i) = pv (cod (addv T (mv n (B g) (T.getD i z0))) (mv n (B g) (T.getD i z0))) → Rn 22 220 [(2, a), (1, x1), (9, 0), (2, b), (0, (n : Int)), (0, x5), (0, (i : Int)), (0, (g : Int)), (1, z8), (9, 0), (1, z10), (9, 0)] [] M2 Q) : Rn 22 91 [(2, a), (1, x1), (9, 0), (2, b), (0, (n : Int)), (0, x5), (0, (i : Int)), (0, (g : Int)), y8, y9, y10, y11] [] M Q := by
  have ha0 := shF_pos ha
  have hn6 := hP.n6
  have hlen := hG.len
  have hal : (au T).length = T.length := au_len
  have htk : M (a + 22 + 2) (i : Int) = pv (auv (T.getD i z0) i) := by
    have := hT.2.2.1 i (by omega)
    rw [au_getD hi] at this
    exact this
  have hdim : M (a + 22) 2 = T.length := by rw [hT.2.1, hal]
  have him := c_image he hp (shF18 ha) hP hg (auv (T.getD i z0) i)
  rw [mv_auv hn6] at him
  have hred := c_reduced he hp (shF22 ha) hT.1 (mv n (B g) (T.getD i z0))
  have hz := c_isZero M (dv he (rd n (spn (au T)) (mv n (B g) (T.getD i z0))))
  refine r_aload_n d_22_91 rfl (by omega) ?_
  refine r_getc (ki := 5) d_22_92 q_22_35 rfl ha (fxF ha).2.2.2.2.2.1 (by omega) ?_
  refine r_iload d_22_95 rfl ?_
  refine r_aload_n d_22_97 rfl (by omega) ?_
  refine r_getc (ki := 7) d_22_98 q_22_44 rfl ha (fxF ha).2.2.2.2.2.2.2 (by omega) ?_
  refine r_getc (ki := 4) d_22_101 q_22_105 rfl (shF22 ha) (fxS4 (shF22 ha)) (by omega) ?_
  refine r_iload d_22_104 rfl ?_
  refine r_laloadv d_22_106 (shS2 (shF22 ha)) (by omega) (by omega) htk ?_
  refine r_callvl d_22_107 q_22_109 rfl rfl him ?_
  refine r_lstore d_22_110 rfl (stw_12_8 rfl rfl) ?_
  refine r_aload_n d_22_112 rfl (by omega) ?_
  refine r_getc (ki := 7) d_22_113 q_22_44 rfl ha (fxF ha).2.2.2.2.2.2.2 (by omega) ?_
  refine r_lload d_22_116 rfl ?_
  refine r_callvl d_22_118 q_22_113 rfl rfl hred ?_
  refine r_lstore d_22_121 rfl (stw_12_10 rfl rfl) ?_
  refine r_lload d_22_123 rfl ?_
  refine r_callsp d_22_125 q_22_117 rfl rfl hz ?_
  have hsx : sup n (mv n (B g) (T.getD i z0)) := sup_mv
  by_cases hq : ∀ k, k < 6 → vl (rd n (spn (au T)) (mv n (B g) (T.getD i z0)) k) = 0
  · rw [ifp_t hq]
    have hin : spn T (mv n (B g) (T.getD i z0)) := by
      refine (rd_z0 he hG.sub (fun i hi => Lp_lt hG.sub hi)).mp ?_
      refine sup_ext (rds_sup he hG.sub hsx n) sup_z0 (fun k hk => ?_)
      have h1 := vl_eq0.mp (hq k (by omega))
      rw [rd_au_low he hn6 hG (by omega)] at h1
      exact h1
    obtain ⟨c1, c2⟩ := cod_spec hin
    have hadd : addv T (mv n (B g) (T.getD i z0)) = T := ifp_t hin
    have hneg := c_negative M hp (pI23 he) (c := 1) (by have := (pI23 he).b; omega)
    rw [if_neg (by omega)] at hneg
    have hpt := c_plusTimes he M hp z0 (rd n (spn (au T)) (mv n (B g) (T.getD i z0))) (c := pI e - 1) (by have := (pI23 he).b; omega)
    have hk1 : kI e (pI e - 1) = -1 := by
      have := kI_neg (e := e) 1
      rw [vl_1] at this
      exact this
    rw [hk1, rd_au_in he hn6 hG hin, lc_nn, pv_z0] at hpt
    rw [rd_au_in he hn6 hG hin]
    refine r_if_eq (t := 171) d_22_128 rfl (fun hz => absurd hz (by decide)) (fun _ => ?_)
    refine r_aload_n d_22_131 rfl (by omega) ?_
    refine r_getc (ki := 6) d_22_132 q_22_38 rfl ha (fxF ha).2.2.2.2.2.2.1 (by omega) ?_
    refine r_getc (ki := 2) d_22_135 q_22_121 rfl (shF20 ha) (fxA2 (shF20 ha)) (by omega) ?_
    refine r_bipush d_22_138 rfl ?_
    refine r_iload d_22_140 rfl ?_
    refine r_imul d_22_142 (by omega) ?_
    refine r_iload d_22_143 rfl ?_
    refine r_iadd d_22_145 (by omega) ?_
    refine r_aload_n d_22_146 rfl (by omega) ?_
    refine r_getc (ki := 0) d_22_147 q_22_21 rfl ha (fxF ha).1 (by omega) ?_
    refine r_lconst d_22_150 rfl ?_
    refine r_aload_n d_22_151 rfl (by omega) ?_
    refine r_getc (ki := 0) d_22_152 q_22_21 rfl ha (fxF ha).1 (by omega) ?_
    refine r_iconst d_22_155 rfl ?_
    refine r_callvp d_22_156 q_22_124 rfl rfl hneg ?_
    refine r_lload d_22_159 rfl ?_
    refine r_callvl d_22_161 q_22_127 rfl rfl hpt ?_
    refine r_bipush d_22_164 rfl ?_
    refine r_lshl d_22_166 (pv_shl he (by omega) c1) ?_
    refine r_lastore d_22_167 (shA1 (shF20 ha)) (by omega) (by omega) ?_
    refine r_goto (t := 220) d_22_168 rfl ?_
    refine hk _ _ _ (fun x y h => uq_ne (by omega)) ?_ ?_
    · rw [hadd]
      exact hT.fr (P := fun x y => x = a + 20 + 1) (fun x y h => uq_ne (by omega)) (fun x y q1 q2 => by unfold WP at q1; omega)
    · rw [hadd, show a + 21 = a + 20 + 1 by omega]
      exact uq_eq
  · rw [ifp_f hq]
    have hout : ¬ spn T (mv n (B g) (T.getD i z0)) := fun hin => hq (fun k hk => by
      rw [rd_au_low he hn6 hG hk, (rd_z0 he hG.sub (fun i hi => Lp_lt hG.sub hi)).mpr hin]
      exact vl_0)
    have hadd : addv T (mv n (B g) (T.getD i z0)) = T ++ [mv n (B g) (T.getD i z0)] := ifp_f hout
    have hG2 := hG.app he hsx hout
    have hlen2 := hG2.len
    rw [List.length_append, List.length_singleton] at hlen2
    have hcod : cod (T ++ [mv n (B g) (T.getD i z0)]) (mv n (B g) (T.getD i z0)) = un T.length := by
      refine cod_eq he hG2 (un_sup (by rw [List.length_append, List.length_singleton]; omega)) ?_
      rw [cmb_un (by rw [List.length_append, List.length_singleton]; omega), getD_new]
    have hu1 := c_unit M (i := T.length) (by omega)
    refine r_if_eq (t := 171) d_22_128 rfl (fun _ => ?_) (fun hz => absurd rfl hz)
    refine r_aload_n d_22_171 rfl (by omega) ?_
    refine r_getc (ki := 6) d_22_172 q_22_38 rfl ha (fxF ha).2.2.2.2.2.2.1 (by omega) ?_
    refine r_getc (ki := 2) d_22_175 q_22_121 rfl (shF20 ha) (fxA2 (shF20 ha)) (by omega) ?_
    refine r_bipush d_22_178 rfl ?_
    refine r_iload d_22_180 rfl ?_
    refine r_imul d_22_182 (by omega) ?_
    refine r_iload d_22_183 rfl ?_
    refine r_iadd d_22_185 (by omega) ?_
    refine r_aload_n d_22_186 rfl (by omega) ?_
    refine r_getc (ki := 7) d_22_187 q_22_44 rfl ha (fxF ha).2.2.2.2.2.2.2 (by omega) ?_
    refine r_getfv (ki := 2) d_22_190 q_22_102 rfl (shF22 ha) hdim ?_
    refine r_callsl d_22_193 q_22_94 rfl rfl hu1 ?_
    refine r_lastore d_22_196 (shA1 (shF20 ha)) (by omega) (by omega) ?_
    have hF1 : Fr (fun x y => x = a + 20 + 1 ∧ y = 6 * (g : Int) + i) M (up2 M (a + 20 + 1) (6 * (g : Int) + i) (16 ^ (11 - T.length))) := fun x y h => uq_ne (by omega)
    generalize hM1 : up2 M (a + 20 + 1) (6 * (g : Int) + i) (16 ^ (11 - T.length)) = M1 at *
    have hdim1 : M1 (a + 22) 2 = T.length := (hF1 _ _ (by omega)).trans hdim
    have hp1 : M1 1 0 = pI e := (hF1 _ _ (by rcases shF_ab ha with h | h <;> omega)).trans hp
    have hT1 : ST M1 (a + 22) n (au T) := hT.fr hF1 (fun x y q1 q2 => by unfold WP at q1; omega)
    have hu2 := c_unit M1 (i := 6 + T.length) (by omega)
    rw [show ((6 + T.length : Nat) : Int) = 6 + (T.length : Int) by omega] at hu2
    refine r_aload_n d_22_197 rfl (by omega) ?_
    refine r_getc (ki := 7) d_22_198 q_22_44 rfl ha (fxF ha).2.2.2.2.2.2.2 (by omega) ?_
    refine r_lload d_22_201 rfl ?_
    refine r_bipush d_22_203 rfl ?_
    refine r_aload_n d_22_205 rfl (by omega) ?_
    refine r_getc (ki := 7) d_22_206 q_22_44 rfl ha (fxF ha).2.2.2.2.2.2.2 (by omega) ?_
    refine r_getfv (ki := 2) d_22_209 q_22_102 rfl (shF22 ha) hdim1 ?_
    refine r_iadd d_22_212 (by omega) ?_
    refine r_callsl d_22_213 q_22_94 rfl rfl hu2 ?_
    refine r_lor d_22_216 (pv_or he (sup_le hsx hn6) (by omega)) ?_
    have h12 : sup 12 (auv (mv n (B g) (T.getD i z0)) T.length) := fun k hk => by
      show mv n (B g) (T.getD i z0) k + 1 * (un (6 + T.length) : Vc e) k = 0
      rw [hsx k (by omega)]
      unfold un
      rw [if_neg (by omega)]
      grind
    refine r_callvr d_22_217 q_22_98 rfl rfl (c_takes he hp1 (shF22 ha) hT1 h12) (fun M2 hM2 => ?_)
    obtain ⟨hF2, hT2⟩ := hM2
    rw [au_take he hn6 hG hsx hout] at hT2
    refine hk M2 _ _ (hF1.trans hF2 (fun x y q => Or.inl (by omega)) (fun x y q => Or.inr q)) (by rw [hadd]; exact hT2) ?_
    rw [hadd, hcod, pv_un (by omega), hF2 _ _ (by unfold WP; omega), ← hM1, show a + 21 = a + 20 + 1 by omega]
    exact uq_eq
end
