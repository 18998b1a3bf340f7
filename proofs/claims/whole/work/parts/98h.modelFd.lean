/-! The model: factors, factor, telling. -/
section
variable {e n : Nat} {A : Nat → Nat → Nat → Kf e}
def srtL (n : Nat) (A : Nat → Nat → Nat → Kf e) (S : List (Nat × List Int)) : Prop := (∃ L, MLs n A L ∧ S.Perm L) ∧ srt S ∧ ∀ t ∈ S, isT t
theorem srtL_eq (he : e ≤ 1) (hn : n ≤ 6) {S S' : List (Nat × List Int)} (h : srtL n A S) (h' : srtL n A S') : S = S' := by
  obtain ⟨⟨L, l1, l2⟩, h2, h3⟩ := h
  obtain ⟨⟨L', l1', l2'⟩, h2', h3'⟩ := h'
  exact srt_eq h3 h3' (l2.trans ((MLs_uniq he hn l1 l1').trans l2'.symm)) h2 h2'
def cnY (S : List (Nat × List Int)) (t : Nat × List Int) : Nat := S.countP (fun u => decide (cmY u t = 0))
def facP (n : Nat) (A : Nat → Nat → Nat → Kf e) (z : Int) : Prop := ∃ S, srtL n A S ∧ z = S.length
def facV (n : Nat) (A : Nat → Nat → Nat → Kf e) (i w : Nat) (z : Int) : Prop := ∃ S, srtL n A S ∧ (S.length ≤ i ∧ z = -1 ∨ i < S.length ∧ ∃ m B F, smM m B ∧ canP m B F ∧ S.getD i (0, []) = ty m F ∧ (w = 0 → z = m) ∧ (w = 1 → z = cnY S (ty m F)) ∧ (w = 2 → z = wys m m B B) ∧ (w = 3 → z = wys m n B A))
def telV (n : Nat) (A : Nat → Nat → Nat → Kf e) (i : Nat) (j z : Int) : Prop := ∃ S, srtL n A S ∧ (S.length ≤ i ∧ z = -1 ∨ i < S.length ∧ ∃ m F, S.getD i (0, []) = ty m F ∧ z = if j < 2 * (m * m) then F j.toNat else -1)
theorem facP_eq (he : e ≤ 1) (hn : n ≤ 6) {y z : Int} (h : facP n A y) (h' : facP n A z) : y = z := by
  obtain ⟨S, s1, s2⟩ := h
  obtain ⟨S', t1, t2⟩ := h'
  rw [s2, t2, srtL_eq he hn s1 t1]
theorem ty_inj {m m' : Nat} {F F' : Nat → Int} (h : ty m F = ty m' F') : m = m' ∧ ∀ c, c < 2 * (m * m) → F c = F' c := by
  have h1 : m = m' := congrArg Prod.fst h
  subst h1
  refine ⟨rfl, fun c hc => ?_⟩
  have h2 := congrArg (fun t => t.2.getD c 0) h
  have h3 : (ty m F).2.getD c 0 = (ty m F').2.getD c 0 := h2
  rw [ty_getD hc, ty_getD hc] at h3
  exact h3
theorem canP_cg {m : Nat} {B : Nat → Nat → Nat → Kf e} {F F' : Nat → Int} (h : canP m B F) (hF : ∀ c, c < 2 * (m * m) → F c = F' c) : canP m B F' := by
  obtain ⟨⟨v, v1, v2, v3⟩, h2⟩ := h
  refine ⟨⟨v, v1, v2, fun c hc => by rw [← hF c hc]; exact v3 c hc⟩, fun w hw hz => ?_⟩
  rw [fdx_congr (f' := sqT m B w) (g' := F) (fun c hc => ⟨rfl, (hF c hc).symm⟩)]
  exact h2 w hw hz
theorem facV_eq (he : e ≤ 1) (hn : n ≤ 6) {i w : Nat} (hw : w < 4) {y z : Int} (h : facV n A i w y) (h' : facV n A i w z) : y = z := by
  obtain ⟨S, s1, s2⟩ := h
  obtain ⟨S', t1, t2⟩ := h'
  obtain rfl := srtL_eq he hn s1 t1
  rcases s2 with s2 | ⟨s2, m, B, F, a1, a2, a3, a4, a5, a6, a7⟩
  · rcases t2 with t2 | t2
    · omega
    · omega
  · rcases t2 with t2 | ⟨-, m', B', F', b1, b2, b3, b4, b5, b6, b7⟩
    · omega
    · obtain ⟨rfl, hF⟩ := ty_inj (a3.symm.trans b3)
      obtain ⟨ψ, hψ⟩ := can_iso he a1 b1 (canP_cg a2 hF) b2
      rcases (show w = 0 ∨ w = 1 ∨ w = 2 ∨ w = 3 by omega) with q | q | q | q
      · rw [a4 q, b4 q]
      · rw [a5 q, b5 q, a3.symm.trans b3]
      · rw [a6 q, b6 q]
        exact wys_iso he hψ hψ
      · rw [a7 q, b7 q]
        exact wys_iso he hψ iso_id
theorem telV_eq (he : e ≤ 1) (hn : n ≤ 6) {i : Nat} {j y z : Int} (hj : 0 ≤ j) (h : telV n A i j y) (h' : telV n A i j z) : y = z := by
  obtain ⟨S, s1, s2⟩ := h
  obtain ⟨S', t1, t2⟩ := h'
  obtain rfl := srtL_eq he hn s1 t1
  rcases s2 with s2 | ⟨s2, m, F, a3, a4⟩
  · rcases t2 with t2 | t2
    · omega
    · omega
  · rcases t2 with t2 | ⟨-, m', F', b3, b4⟩
    · omega
    · obtain ⟨rfl, hF⟩ := ty_inj (a3.symm.trans b3)
      rw [a4, b4]
      by_cases q : j < 2 * (m * m)
      · rw [if_pos q, if_pos q]
        refine hF _ ?_
        have : ((2 * (m * m) : Nat) : Int) = 2 * ((m : Int) * m) := by
          rw [Int.natCast_mul, Int.natCast_mul]
          rfl
        omega
      · rw [if_neg q, if_neg q]
theorem CT.fr {M M' : Mo} {P : Int → Int → Prop} (h : CT M n A) (hF : Fr P M M') (hP : ∀ x y, P x y → W1 x y) : CT M' n A := by
  obtain ⟨p, sz, B, F, O, h1, h2, h3, h4, h5, h6, h7, h8⟩ := h
  refine ⟨p, sz, B, F, O, h1, h2, ?_, fun b hb => ⟨?_, (h4 b hb).2.1, (h4 b hb).2.2.1, fun c hc => ?_⟩, h5, h6, fun q hq => ?_, h8⟩
  · rw [hF _ _ (fun q => by have := hP _ _ q; unfold W1 at this; omega)]
    exact h3
  · exact (h4 b hb).1.fr hF (fun x y q1 q2 => by have := hP _ _ q2; unfold WK at q1; unfold W1 at this; omega)
  · rw [hF _ _ (fun q => by have := hP _ _ q; unfold W1 at this; omega)]
    exact (h4 b hb).2.2.2 c hc
  · rw [hF _ _ (fun q => by have := hP _ _ q; unfold W1 at this; omega)]
    exact h7 q hq
theorem srtL_of {p : Nat} {sz : Nat → Nat} {F : Nat → Nat → Int} {O : List Nat} (h5 : O.Perm (List.range p)) (h6 : O.Pairwise (rlT sz F)) (h8 : ∃ L, MLs n A L ∧ L.Perm ((List.range p).map (fun b => ty (sz b) (F b)))) : srtL n A (O.map (fun b => ty (sz b) (F b))) ∧ (O.map (fun b => ty (sz b) (F b))).length = p ∧ ∀ i, i < p → O.getD i 0 < p ∧ (O.map (fun b => ty (sz b) (F b))).getD i (0, []) = ty (sz (O.getD i 0)) (F (O.getD i 0)) := by
  obtain ⟨L, l1, l2⟩ := h8
  have hl : O.length = p := by rw [h5.length_eq, List.length_range]
  refine ⟨⟨⟨L, l1, (h5.map _).trans l2.symm⟩, List.pairwise_map.mpr h6, fun t ht => ?_⟩, by rw [List.length_map, hl], fun i hi => ⟨?_, ?_⟩⟩
  · obtain ⟨b, -, rfl⟩ := List.mem_map.mp ht
    exact ⟨_, _, rfl⟩
  · have h1 : O.getD i 0 ∈ O := by
      rw [List.getD_eq_getElem?_getD, List.getElem?_eq_getElem (by omega)]
      exact List.getElem_mem _
    exact List.mem_range.mp (h5.mem_iff.mp h1)
  · rw [List.getD_eq_getElem?_getD, List.getElem?_map, List.getD_eq_getElem?_getD, List.getElem?_eq_getElem (by omega)]
    rfl
theorem m_alikeTo {M : Mo} {p : Nat} (hp : p ≤ 6) (hpc : M 217 16 = p) {sz : Nat → Nat} {F : Nat → Nat → Int} (hsz : ∀ b : Nat, b < p → sz b ≤ 6 ∧ M 219 (4 + b) = sz b) (hF : ∀ b : Nat, b < p → ∀ c : Nat, c < 2 * (sz b * sz b) → M 230 (72 * b + c) = F b c ∧ 0 ≤ F b c ∧ F b c ≤ 2) {a : Nat} (ha : a < p) : PI 180 [(2, 217), (0, (a : Int))] M (cnY ((List.range p).map (fun b => ty (sz b) (F b))) (ty (sz a) (F a)) : Nat) := by
  refine Cl.intro (L := [(2, 217), (0, (a : Int)), (9, 0), (9, 0)]) (rcv_v ow_180.2.1 sh_217) (by unfold entl; rw [mx_180]; rfl) (by rw [mx_180]; exact Nat.le_of_ble_eq_true rfl) rfl ?_
  refine r_iconst d_180_0 rfl ?_
  refine r_istore_n d_180_1 rfl (stl_4_2 rfl rfl) ?_
  refine r_iconst d_180_2 rfl ?_
  refine r_istore_n d_180_3 rfl (stl_4_3 rfl rfl) ?_
  refine dn_ind (R := fun b => ∀ z : Int, z = (cnY ((List.range b.toNat).map (fun b => ty (sz b) (F b))) (ty (sz a) (F a)) : Nat) → z ≤ b → Rn 180 4 [(2, 217), (0, (a : Int)), (0, z), (0, b)] [] M _) (lo := 0) (n := (p : Int)) ?_ ?_ 0 (by omega) (by omega) 0 rfl (by omega)
  · intro z hz _
    refine r_iload_n d_180_4 rfl ?_
    refine r_aload_n d_180_5 rfl (by omega) ?_
    refine r_getfv (ki := 16) d_180_6 q_180_226 rfl sh_217 hpc ?_
    refine r_icmp_ge (t := 35) d_180_9 rfl (fun _ => ?_) (fun hz => absurd (by omega) hz)
    refine r_iload_n d_180_35 rfl ?_
    refine r_iret d_180_36 rt_180 ?_
    rw [Int.toNat_natCast] at hz
    rw [hz]
    exact ⟨rfl, rfl⟩
  · intro b b1 b2 ih z hz hzb
    have hb : ((b.toNat : Nat) : Int) = b := by omega
    have hcmp := m_compare (M := M) (a := b.toNat) (b := a) (by omega) (by omega) (hsz b.toNat (by omega)).1 (hsz a ha).1 (hsz b.toNat (by omega)).2 (hsz a ha).2 (hF b.toNat (by omega)) (hF a ha)
    rw [hb, ← cmY_ty] at hcmp
    have hst : cnY ((List.range (b + 1).toNat).map (fun b => ty (sz b) (F b))) (ty (sz a) (F a)) = cnY ((List.range b.toNat).map (fun b => ty (sz b) (F b))) (ty (sz a) (F a)) + (if cmY (ty (sz b.toNat) (F b.toNat)) (ty (sz a) (F a)) = 0 then 1 else 0) := by
      rw [show (b + 1).toNat = b.toNat + 1 by omega, List.range_succ]
      unfold cnY
      rw [List.map_append, List.countP_append, List.map_singleton, List.countP_singleton]
      by_cases q : cmY (ty (sz b.toNat) (F b.toNat)) (ty (sz a) (F a)) = 0
      · rw [if_pos q, decide_eq_true q]
        rfl
      · rw [if_neg q, decide_eq_false q]
        rfl
    refine r_iload_n d_180_4 rfl ?_
    refine r_aload_n d_180_5 rfl (by omega) ?_
    refine r_getfv (ki := 16) d_180_6 q_180_226 rfl sh_217 hpc ?_
    refine r_icmp_ge (t := 35) d_180_9 rfl (fun hz => absurd hz (by omega)) (fun _ => ?_)
    refine r_iload_n d_180_12 rfl ?_
    refine r_aload_n d_180_13 rfl (by omega) ?_
    refine r_iload_n d_180_14 rfl ?_
    refine r_iload_n d_180_15 rfl ?_
    refine r_callvp d_180_16 q_180_229 rfl rfl hcmp ?_
    by_cases q : cmY (ty (sz b.toNat) (F b.toNat)) (ty (sz a) (F a)) = 0
    · rw [if_pos q] at hst
      refine r_if_ne (t := 26) d_180_19 rfl (fun hz => absurd hz (fun z => z q)) (fun _ => ?_)
      refine r_iconst d_180_22 rfl ?_
      refine r_goto (t := 27) d_180_23 rfl ?_
      refine r_iadd d_180_27 (by omega) ?_
      refine r_istore_n d_180_28 rfl (stl_4_2 rfl rfl) ?_
      refine r_iinc d_180_29 rfl (by omega) (stl_4_3 rfl rfl) ?_
      refine r_goto (t := 4) d_180_32 rfl ?_
      exact ih _ (by omega) (by omega)
    · rw [if_neg q] at hst
      refine r_if_ne (t := 26) d_180_19 rfl (fun _ => ?_) (fun hz => absurd q hz)
      refine r_iconst d_180_26 rfl ?_
      refine r_iadd d_180_27 (by omega) ?_
      refine r_istore_n d_180_28 rfl (stl_4_2 rfl rfl) ?_
      refine r_iinc d_180_29 rfl (by omega) (stl_4_3 rfl rfl) ?_
      refine r_goto (t := 4) d_180_32 rfl ?_
      exact ih _ (by omega) (by omega)
end
theorem m_cutsA {M : Mo} {s : Sst} (hv : vs s) (hc : cu M s) {k : Nat} (hk : k < 4) (hct : M 217 5 = k → CT M (s.2.1 k) (mdA s k)) : CV 178 [(2, 217), (0, (k : Int))] M (fun M' => Fr WCu M M' ∧ M' 217 5 = k ∧ CT M' (s.2.1 k) (mdA s k)) := by
  by_cases hne : M 217 5 = k
  · refine Cl.intro (L := [(2, 217), (0, (k : Int)), (9, 0), (9, 0)]) (rcv_v ow_178.2.1 sh_217) (by unfold entl; rw [mx_178]; rfl) (by rw [mx_178]; exact Nat.le_of_ble_eq_true rfl) rfl ?_
    refine r_aload_n d_178_0 rfl (by omega) ?_
    refine r_getfv (ki := 5) d_178_1 q_178_26 rfl sh_217 hne ?_
    refine r_iload_n d_178_4 rfl ?_
    refine r_icmp_ne (t := 9) d_178_5 rfl (fun hz => absurd hz (fun z => z rfl)) (fun _ => ?_)
    refine r_vret d_178_8 rt_178 ?_
    exact ⟨rfl, Fr.refl, hne, hct hne⟩
  · exact m_cuts hv hc hk hne
theorem m_factors_bad (M : Mo) (hb : cb M) {k : Int} (h : ¬ (0 ≤ k ∧ k ≤ 3)) : PJ 179 [(2, 217), (0, k)] M (-2) (up2 M 218 0 (M 218 0 + 1)) := by
  refine Cl.intro (L := [(2, 217), (0, k)]) (rcv_v ow_179.2.1 sh_217) (by unfold entl; rw [mx_179]; rfl) (by rw [mx_179]; exact Nat.le_of_ble_eq_true rfl) rfl ?_
  have hbad := m_bad M (hb 0 (by omega) (by omega))
  refine r_iload_n d_179_0 rfl ?_
  refine r_callsp d_179_1 q_179_178 rfl rfl (m_isModule M k) ?_
  rw [if_neg h]
  refine r_if_ne (t := 12) d_179_4 rfl (fun hz => absurd hz (by decide)) (fun _ => ?_)
  refine r_aload_n d_179_7 rfl (by omega) ?_
  refine r_callvj d_179_8 q_179_172 rfl rfl hbad ?_
  refine r_iret d_179_11 rt_179 ?_
  exact ⟨rfl, rfl⟩
theorem m_factors {M : Mo} {s : Sst} (hv : vs s) (hc : cu M s) {k : Nat} (hk : k < 4) (hct : M 217 5 = k → CT M (s.2.1 k) (mdA s k)) : CI 179 [(2, 217), (0, (k : Int))] M (fun z M' => facP (s.2.1 k) (mdA s k) z ∧ Fr WCu M M' ∧ M' 217 5 = k ∧ CT M' (s.2.1 k) (mdA s k)) := by
  refine Cl.intro (L := [(2, 217), (0, (k : Int))]) (rcv_v ow_179.2.1 sh_217) (by unfold entl; rw [mx_179]; rfl) (by rw [mx_179]; exact Nat.le_of_ble_eq_true rfl) rfl ?_
  refine r_iload_n d_179_0 rfl ?_
  refine r_callsp d_179_1 q_179_178 rfl rfl (m_isModule M k) ?_
  rw [if_pos (by omega)]
  refine r_if_ne (t := 12) d_179_4 rfl (fun _ => ?_) (fun hz => absurd (by decide) hz)
  refine r_aload_n d_179_12 rfl (by omega) ?_
  refine r_iload_n d_179_13 rfl ?_
  refine r_callvr d_179_14 q_179_238 rfl rfl (m_cutsA hv hc hk hct) (fun M2 hM2 => ?_)
  obtain ⟨hF, h5, hCT⟩ := hM2
  have hCT2 := hCT
  obtain ⟨p, sz, B, F, O, h1, h2, h3, h4, g5, g6, g7, g8⟩ := hCT
  refine r_aload_n d_179_17 rfl (by omega) ?_
  refine r_getfv (ki := 16) d_179_18 q_179_226 rfl sh_217 h3 ?_
  refine r_iret d_179_21 rt_179 ?_
  obtain ⟨k1, k2, -⟩ := srtL_of g5 g6 g8
  exact ⟨_, rfl, ⟨_, k1, by rw [k2]⟩, hF, h5, hCT2⟩
