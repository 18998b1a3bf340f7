/-! The model: areAlike, common. -/
theorem m_areAlike {M : Mo} {a b : Nat} (ha : a < 6) (hb : b < 6) {n m : Nat} (hn : n ≤ 6) (h1 : M 234 a = n) (h2 : M 219 (4 + b) = m) {F G : Nat → Int} (hF : ∀ c : Nat, c < 2 * (n * n) → M 235 (72 * a + c) = F c) (hG : ∀ c : Nat, c < 2 * (m * m) → M 230 (72 * b + c) = G c) : PI 183 [(2, 217), (0, (a : Int)), (0, (b : Int))] M (ifp (ty n F = ty m G) 1 0) := by
  refine Cl.intro (L := [(2, 217), (0, (a : Int)), (0, (b : Int)), (9, 0), (9, 0), (9, 0)]) (rcv_v ow_183.2.1 sh_217) (by unfold entl; rw [mx_183]; rfl) (by rw [mx_183]; exact Nat.le_of_ble_eq_true rfl) rfl ?_
  have hnn : (n : Int) * (n : Int) = ((n * n : Nat) : Int) := (Int.natCast_mul n n).symm
  have h2nn : 2 * (n : Int) * (n : Int) = ((2 * (n * n) : Nat) : Int) := by
    rw [Int.mul_assoc, hnn]
    omega
  have h36 : n * n ≤ 36 := Nat.mul_le_mul hn hn
  have hend : ∀ c : Int, 0 ≤ c → ty n F ≠ ty m G → Rn 183 29 [(2, 217), (0, (a : Int)), (0, (b : Int)), (0, (n : Int)), (0, 0), (0, c)] [] M (fun v M' => v = some (0, ifp (ty n F = ty m G) 1 0) ∧ M' = M) := by
    intro c c0 hne
    refine r_iload d_183_29 rfl ?_
    refine r_iconst d_183_31 rfl ?_
    refine r_iload_n d_183_32 rfl ?_
    refine r_imul d_183_33 (by omega) ?_
    refine r_iload_n d_183_34 rfl ?_
    refine r_imul d_183_35 (mr (a := 12) (b := 6) (by omega) (by omega) (by decide)) ?_
    rw [h2nn]
    by_cases q : ((2 * (n * n) : Nat) : Int) ≤ c
    · refine r_icmp_ge (t := 84) d_183_36 rfl (fun _ => ?_) (fun hz => absurd (by omega) hz)
      refine r_iload d_183_84 rfl ?_
      refine r_zret d_183_86 rt_183 (by omega) ?_
      exact ⟨by rw [ifp_f hne], rfl⟩
    · refine r_icmp_ge (t := 84) d_183_36 rfl (fun hz => absurd hz (by omega)) (fun _ => ?_)
      refine r_iload d_183_39 rfl ?_
      refine r_if_eq (t := 84) d_183_41 rfl (fun _ => ?_) (fun hz => absurd rfl hz)
      refine r_iload d_183_84 rfl ?_
      refine r_zret d_183_86 rt_183 (by omega) ?_
      exact ⟨by rw [ifp_f hne], rfl⟩
  refine r_aload_n d_183_0 rfl (by omega) ?_
  refine r_getc (ki := 22) d_183_1 q_183_65 rfl sh_217 fx_217_22 (by omega) ?_
  refine r_iload_n d_183_4 rfl ?_
  refine r_ialoadv d_183_5 sh_234 (by omega) (by omega) h1 ?_
  refine r_istore_n d_183_6 rfl (stl_6_3 rfl rfl) ?_
  refine r_iload_n d_183_7 rfl ?_
  refine r_aload_n d_183_8 rfl (by omega) ?_
  refine r_getc (ki := 2) d_183_9 q_183_17 rfl sh_217 fx_217_2 (by omega) ?_
  refine r_iconst d_183_12 rfl ?_
  refine r_iload_n d_183_13 rfl ?_
  refine r_iadd d_183_14 (by omega) ?_
  refine r_ialoadv d_183_15 sh_219 (by omega) (by omega) h2 ?_
  by_cases hnm : n = m
  · subst hnm
    refine r_icmp_ne (t := 23) d_183_16 rfl (fun hz => absurd hz (fun z => z rfl)) (fun _ => ?_)
    refine r_iconst d_183_19 rfl ?_
    refine r_goto (t := 24) d_183_20 rfl ?_
    refine r_istore d_183_24 rfl (stl_6_4 rfl rfl) ?_
    refine r_iconst d_183_26 rfl ?_
    refine r_istore d_183_27 rfl (stl_6_5 rfl rfl) ?_
    refine dn_ind (R := fun c => (∀ c' : Nat, (c' : Int) < c → F c' = G c') → Rn 183 29 [(2, 217), (0, (a : Int)), (0, (b : Int)), (0, (n : Int)), (0, 1), (0, c)] [] M _) (lo := 0) (n := ((2 * (n * n) : Nat) : Int)) ?_ ?_ 0 (by omega) (by omega) (fun c' h => by omega)
    · intro hall
      refine r_iload d_183_29 rfl ?_
      refine r_iconst d_183_31 rfl ?_
      refine r_iload_n d_183_32 rfl ?_
      refine r_imul d_183_33 (by omega) ?_
      refine r_iload_n d_183_34 rfl ?_
      refine r_imul d_183_35 (mr (a := 12) (b := 6) (by omega) (by omega) (by decide)) ?_
      rw [h2nn]
      refine r_icmp_ge (t := 84) d_183_36 rfl (fun _ => ?_) (fun hz => absurd (by omega) hz)
      refine r_iload d_183_84 rfl ?_
      refine r_zret d_183_86 rt_183 (by omega) ?_
      exact ⟨by rw [ifp_t (ty_eq (fun c hc => hall c (by omega)))], rfl⟩
    · intro c c1 c2 ih hall
      have hFc := hF c.toNat (by omega)
      have hGc := hG c.toNat (by omega)
      rw [show ((c.toNat : Nat) : Int) = c by omega] at hFc hGc
      refine r_iload d_183_29 rfl ?_
      refine r_iconst d_183_31 rfl ?_
      refine r_iload_n d_183_32 rfl ?_
      refine r_imul d_183_33 (by omega) ?_
      refine r_iload_n d_183_34 rfl ?_
      refine r_imul d_183_35 (mr (a := 12) (b := 6) (by omega) (by omega) (by decide)) ?_
      rw [h2nn]
      refine r_icmp_ge (t := 84) d_183_36 rfl (fun hz => absurd hz (by omega)) (fun _ => ?_)
      refine r_iload d_183_39 rfl ?_
      refine r_if_eq (t := 84) d_183_41 rfl (fun hz => absurd hz (by decide)) (fun _ => ?_)
      refine r_aload_n d_183_44 rfl (by omega) ?_
      refine r_getc (ki := 23) d_183_45 q_183_68 rfl sh_217 fx_217_23 (by omega) ?_
      refine r_bipush d_183_48 rfl ?_
      refine r_iload_n d_183_50 rfl ?_
      refine r_imul d_183_51 (by omega) ?_
      refine r_iload d_183_52 rfl ?_
      refine r_iadd d_183_54 (by omega) ?_
      refine r_ialoadv d_183_55 sh_235 (by omega) (by omega) hFc ?_
      refine r_aload_n d_183_56 rfl (by omega) ?_
      refine r_getc (ki := 17) d_183_57 q_183_53 rfl sh_217 fx_217_17 (by omega) ?_
      refine r_bipush d_183_60 rfl ?_
      refine r_iload_n d_183_62 rfl ?_
      refine r_imul d_183_63 (by omega) ?_
      refine r_iload d_183_64 rfl ?_
      refine r_iadd d_183_66 (by omega) ?_
      refine r_ialoadv d_183_67 sh_230 (by omega) (by omega) hGc ?_
      by_cases q : F c.toNat = G c.toNat
      · refine r_icmp_ne (t := 75) d_183_68 rfl (fun hz => absurd hz (fun z => z q)) (fun _ => ?_)
        refine r_iconst d_183_71 rfl ?_
        refine r_goto (t := 76) d_183_72 rfl ?_
        refine r_istore d_183_76 rfl (stl_6_4 rfl rfl) ?_
        refine r_iinc d_183_78 rfl (by omega) (stl_6_5 rfl rfl) ?_
        refine r_goto (t := 29) d_183_81 rfl ?_
        refine ih (fun c' hc' => ?_)
        by_cases z : c' = c.toNat
        · rw [z]
          exact q
        · exact hall c' (by omega)
      · refine r_icmp_ne (t := 75) d_183_68 rfl (fun _ => ?_) (fun hz => absurd q hz)
        refine r_iconst d_183_75 rfl ?_
        refine r_istore d_183_76 rfl (stl_6_4 rfl rfl) ?_
        refine r_iinc d_183_78 rfl (by omega) (stl_6_5 rfl rfl) ?_
        refine r_goto (t := 29) d_183_81 rfl ?_
        exact hend _ (by omega) (fun z => q ((ty_inj z).2 _ (by omega)))
  · refine r_icmp_ne (t := 23) d_183_16 rfl (fun _ => ?_) (fun hz => absurd (by omega) hz)
    refine r_iconst d_183_23 rfl ?_
    refine r_istore d_183_24 rfl (stl_6_4 rfl rfl) ?_
    refine r_iconst d_183_26 rfl ?_
    refine r_istore d_183_27 rfl (stl_6_5 rfl rfl) ?_
    exact hend 0 (by omega) (fun z => hnm (ty_inj z).1)
theorem CT.fr2 {e n : Nat} {A : Nat → Nat → Nat → Kf e} {M M' : Mo} {P : Int → Int → Prop} (h : CT M n A) (hF : Fr P M M') (hP : ∀ x y, P x y → ¬ (x = 217 ∧ y = 16) ∧ x ≠ 219 ∧ x ≠ 220 ∧ x ≠ 230 ∧ x ≠ 231) : CT M' n A := by
  obtain ⟨p, sz, B, F, O, h1, h2, h3, h4, h5, h6, h7, h8⟩ := h
  refine ⟨p, sz, B, F, O, h1, h2, ?_, fun b hb => ⟨?_, (h4 b hb).2.1, (h4 b hb).2.2.1, fun c hc => ?_⟩, h5, h6, fun q hq => ?_, h8⟩
  · rw [hF _ _ (fun q => by have := hP _ _ q; omega)]
    exact h3
  · exact (h4 b hb).1.fr hF (fun x y q1 q2 => by have := hP _ _ q2; unfold WK at q1; omega)
  · rw [hF _ _ (fun q => by have := hP _ _ q; omega)]
    exact (h4 b hb).2.2.2 c hc
  · rw [hF _ _ (fun q => by have := hP _ _ q; omega)]
    exact h7 q hq
theorem m_common_bad (M : Mo) (hb : cb M) {x y : Int} (h : ¬ ((0 ≤ x ∧ x ≤ 3) ∧ 0 ≤ y ∧ y ≤ 3)) : PJ 184 [(2, 217), (0, x), (0, y)] M (-2) (up2 M 218 0 (M 218 0 + 1)) := by
  refine Cl.intro (L := [(2, 217), (0, x), (0, y), (9, 0), (9, 0), (9, 0), (9, 0)]) (rcv_v ow_184.2.1 sh_217) (by unfold entl; rw [mx_184]; rfl) (by rw [mx_184]; exact Nat.le_of_ble_eq_true rfl) rfl ?_
  have hbad := m_bad M (hb 0 (by omega) (by omega))
  have hend : Rn 184 14 [(2, 217), (0, x), (0, y), (9, 0), (9, 0), (9, 0), (9, 0)] [] M (fun v M' => v = some (0, -2) ∧ M' = up2 M 218 0 (M 218 0 + 1)) := by
    refine r_aload_n d_184_14 rfl (by omega) ?_
    refine r_callvj d_184_15 q_184_172 rfl rfl hbad ?_
    refine r_iret d_184_18 rt_184 ?_
    exact ⟨rfl, rfl⟩
  refine r_iload_n d_184_0 rfl ?_
  refine r_callsp d_184_1 q_184_178 rfl rfl (m_isModule M x) ?_
  by_cases q1 : 0 ≤ x ∧ x ≤ 3
  · rw [if_pos q1]
    refine r_if_eq (t := 14) d_184_4 rfl (fun hz => absurd hz (by decide)) (fun _ => ?_)
    refine r_iload_n d_184_7 rfl ?_
    refine r_callsp d_184_8 q_184_178 rfl rfl (m_isModule M y) ?_
    rw [if_neg (by omega)]
    refine r_if_ne (t := 19) d_184_11 rfl (fun hz => absurd hz (fun z => z rfl)) (fun _ => ?_)
    exact hend
  · rw [if_neg q1]
    refine r_if_eq (t := 14) d_184_4 rfl (fun _ => ?_) (fun hz => absurd rfl hz)
    exact hend
def WEl (x y : Int) : Prop := x = 234 ∨ x = 235 ∨ x = 236 ∨ (x = 217 ∧ y = 21)
def WCm (x y : Int) : Prop := WCu x y ∨ WEl x y
def cmQ (M : Mo) (s : Sst) (x y : Nat) (r : Option AV) (M' : Mo) : Prop := ∃ z, r = some (0, z) ∧ comP (s.2.1 x) (mdA s x) (s.2.1 y) (mdA s y) z ∧ Fr WCm M M' ∧ M' 217 5 = y ∧ CT M' (s.2.1 y) (mdA s y)
theorem cm_match {M M4 : Mo} {s : Sst} {x y : Nat} (hF4 : Fr WCm M M4) (h5 : M4 217 5 = y) (hCT : CT M4 (s.2.1 y) (mdA s y)) {S : List (Nat × List Int)} (hS : srtL (s.2.1 x) (mdA s x) S) {p : Nat} (hp6 : p ≤ 6) {sz : Nat → Nat} {F : Nat → Nat → Int} (hSt : ∀ t, S.count t = cXn (fun b => ty (sz b) (F b)) p t) (hS6 : ∀ b : Nat, b < p → sz b ≤ 6) (hmany : M4 217 21 = p) (he1 : ∀ b : Nat, b < p → M4 234 b = sz b ∧ ∀ c : Nat, c < 2 * (sz b * sz b) → M4 235 (72 * b + c) = F b c) (hmet : ∀ b : Nat, b < p → M4 236 b = 0) {y3 y4 y5 y6 : AV} (hy3 : y3 = (9, 0) ∨ ∃ z, y3 = (0, z)) (hy4 : y4 = (9, 0) ∨ ∃ z, y4 = (0, z)) (hy5 : y5 = (9, 0)) (hy6 : y6 = (9, 0)) : Rn 184 114 [(2, 217), (0, (x : Int)), (0, (y : Int)), y3, y4, y5, y6] [] M4 (cmQ M s x y) := by
  have hCT2 := hCT
  obtain ⟨p', sz', B', G, O', g1, g2, g3, g4, k5, k6, k7, k8⟩ := hCT
  obtain ⟨m1, m2, -⟩ := srtL_of k5 k6 k8
  obtain ⟨D, d1, d2⟩ := dedup_ex (S ++ (List.range p').map (fun b => ty (sz' b) (G b)))
  have hGt : ∀ t, (O'.map (fun b => ty (sz' b) (G b))).count t = cXn (fun b => ty (sz' b) (G b)) p' t := fun t => by
    rw [(k5.map (fun b => ty (sz' b) (G b))).count_eq]
    exact ct_rng
  have hinD : ∀ q, q < p' → ty (sz' q) (G q) ∈ D := fun q hq => d2 _ (List.mem_append_right _ (List.mem_map.mpr ⟨q, List.mem_range.mpr hq, rfl⟩))
  subst hy5
  subst hy6
  have hmain : ∀ y3' : AV, (y3'.1 == 1) = false → True := fun _ _ => trivial
  have hstart : Rn 184 119 [(2, 217), (0, (x : Int)), (0, (y : Int)), (0, 0), (0, 0), (9, 0), (9, 0)] [] M4 (cmQ M s x y) := by
    refine dn_ind (R := fun q => ∀ (M5 : Mo) (z : Nat) (y5 y6 : AV), Fr (fun a _ => a = 236) M4 M5 → (∀ t, cRn (fun b => M5 236 b) (fun b => ty (sz b) (F b)) p t = cXn (fun b => ty (sz b) (F b)) p t - cXn (fun b => ty (sz' b) (G b)) q.toNat t) → z = sL (fun t => min (cXn (fun b => ty (sz b) (F b)) p t) (cXn (fun b => ty (sz' b) (G b)) q.toNat t)) D → (z : Int) ≤ q → (y5.1 == 1) = false → Rn 184 119 [(2, 217), (0, (x : Int)), (0, (y : Int)), (0, (z : Int)), (0, q), y5, y6] [] M5 _) (lo := 0) (n := (p' : Int)) ?_ ?_ 0 (by omega) (by omega) M4 0 (9, 0) (9, 0) Fr.refl (fun t => ?_) ?_ (by omega) rfl
    · intro M5 z y5 y6 hF5 hR hz hzq hy5
      have hpc : M5 217 16 = p' := (hF5 _ _ (by omega)).trans g3
      refine r_iload d_184_119 rfl ?_
      refine r_aload_n d_184_121 rfl (by omega) ?_
      refine r_getfv (ki := 16) d_184_122 q_184_226 rfl sh_217 hpc ?_
      refine r_icmp_ge (t := 195) d_184_125 rfl (fun _ => ?_) (fun hz => absurd (by omega) hz)
      refine r_iload_n d_184_195 rfl ?_
      refine r_iret d_184_196 rt_184 ?_
      rw [Int.toNat_natCast] at hz
      refine ⟨_, rfl, ⟨S, _, hS, m1, D, d1, fun t ht => d2 t (List.mem_append_left _ ht), ?_⟩, hF4.trans hF5 (fun a b q => q) (fun a b q => by unfold WCm WEl; omega), (hF5 _ _ (by omega)).trans h5, hCT2.fr2 hF5 (fun a b q => by omega)⟩
      rw [hz]
      congr 1
      refine sL_cg (fun t _ => ?_)
      show min _ _ = min _ _
      rw [hSt, hGt]
    · intro q q1 q2 ih M5 z y5 y6 hF5 hR hz hzq hy5
      have hpc : M5 217 16 = p' := (hF5 _ _ (by omega)).trans g3
      have hmany5 : M5 217 21 = p := (hF5 _ _ (by omega)).trans hmany
      have hq : ((q.toNat : Nat) : Int) = q := by omega
      have hq1 : (q + 1).toNat = q.toNat + 1 := by omega
      refine r_iload d_184_119 rfl ?_
      refine r_aload_n d_184_121 rfl (by omega) ?_
      refine r_getfv (ki := 16) d_184_122 q_184_226 rfl sh_217 hpc ?_
      refine r_icmp_ge (t := 195) d_184_125 rfl (fun hz => absurd hz (by omega)) (fun _ => ?_)
      refine r_iconst d_184_128 rfl ?_
      refine r_istore d_184_129 rfl (stl_7_5 rfl rfl) ?_
      refine r_iconst d_184_131 rfl ?_
      refine r_istore d_184_132 rfl (stl_7_6 rfl rfl) ?_
      refine dn_ind (R := fun b => (∀ b' : Nat, (b' : Int) < b → ¬ (M5 236 b' = 0 ∧ ty (sz b') (F b') = ty (sz' q.toNat) (G q.toNat))) → Rn 184 134 [(2, 217), (0, (x : Int)), (0, (y : Int)), (0, (z : Int)), (0, q), (0, 0), (0, b)] [] M5 _) (lo := 0) (n := (p : Int)) ?_ ?_ 0 (by omega) (by omega) (fun b' h => by omega)
      · intro hno
        refine r_iload d_184_134 rfl ?_
        refine r_aload_n d_184_136 rfl (by omega) ?_
        refine r_getfv (ki := 21) d_184_137 q_184_247 rfl sh_217 hmany5 ?_
        refine r_icmp_ge (t := 189) d_184_140 rfl (fun _ => ?_) (fun hz => absurd (by omega) hz)
        refine r_iinc d_184_189 rfl (by omega) (stl_7_4 rfl rfl) ?_
        refine r_goto (t := 119) d_184_192 rfl ?_
        obtain ⟨n1, n2⟩ := mt_no hR hz (fun b hb => hno b (by omega))
        rw [← hq1] at n1 n2
        exact ih M5 z _ _ hF5 n1 n2 (by omega) rfl
      · intro b b1 b2 ihb hno
        have hb : ((b.toNat : Nat) : Int) = b := by omega
        refine r_iload d_184_134 rfl ?_
        refine r_aload_n d_184_136 rfl (by omega) ?_
        refine r_getfv (ki := 21) d_184_137 q_184_247 rfl sh_217 hmany5 ?_
        refine r_icmp_ge (t := 189) d_184_140 rfl (fun hz => absurd hz (by omega)) (fun _ => ?_)
        refine r_iload d_184_143 rfl ?_
        refine r_if_ne (t := 189) d_184_145 rfl (fun hz => absurd hz (fun z => z rfl)) (fun _ => ?_)
        refine r_aload_n d_184_148 rfl (by omega) ?_
        refine r_getc (ki := 24) d_184_149 q_184_71 rfl sh_217 fx_217_24 (by omega) ?_
        refine r_iload d_184_152 rfl ?_
        refine r_iaload d_184_154 sh_236 (by omega) (by omega) ?_
        by_cases hm0 : M5 236 b = 0
        · refine r_if_ne (t := 183) d_184_155 rfl (fun hz => absurd hz (fun z => z hm0)) (fun _ => ?_)
          refine r_aload_n d_184_158 rfl (by omega) ?_
          refine r_iload d_184_159 rfl ?_
          refine r_iload d_184_161 rfl ?_
          have hal := m_areAlike (M := M5) (a := b.toNat) (b := q.toNat) (by omega) (by omega) (hS6 b.toNat (by omega)) ((hF5 _ _ (by omega)).trans (he1 b.toNat (by omega)).1) ((hF5 _ _ (by omega)).trans (g4 q.toNat (by omega)).1.1) (fun c hc => (hF5 _ _ (by omega)).trans ((he1 b.toNat (by omega)).2 c hc)) (fun c hc => (hF5 _ _ (by omega)).trans ((g4 q.toNat (by omega)).2.2.2 c hc).1)
          rw [hb, hq] at hal
          refine r_callvp d_184_163 q_184_250 rfl rfl hal ?_
          by_cases hty : ty (sz b.toNat) (F b.toNat) = ty (sz' q.toNat) (G q.toNat)
          · rw [ifp_t hty]
            refine r_if_eq (t := 183) d_184_166 rfl (fun hz => absurd hz (by decide)) (fun _ => ?_)
            refine r_aload_n d_184_169 rfl (by omega) ?_
            refine r_getc (ki := 24) d_184_170 q_184_71 rfl sh_217 fx_217_24 (by omega) ?_
            refine r_iload d_184_173 rfl ?_
            refine r_iconst d_184_175 rfl ?_
            refine r_iastore d_184_176 sh_236 (by omega) (by omega) ?_
            refine r_iconst d_184_177 rfl ?_
            refine r_istore d_184_178 rfl (stl_7_5 rfl rfl) ?_
            refine r_iinc d_184_180 rfl (by omega) (stl_7_3 rfl rfl) ?_
            refine r_iinc d_184_183 rfl (by omega) (stl_7_6 rfl rfl) ?_
            refine r_goto (t := 134) d_184_186 rfl ?_
            have hout : Rn 184 189 [(2, 217), (0, (x : Int)), (0, (y : Int)), (0, (z : Int) + 1), (0, q), (0, 1), (0, b + 1)] [] (up2 M5 236 b 1) (cmQ M s x y) := by
              refine r_iinc d_184_189 rfl (by omega) (stl_7_4 rfl rfl) ?_
              refine r_goto (t := 119) d_184_192 rfl ?_
              obtain ⟨n1, n2⟩ := mt_yes (met := fun b => M5 236 b) (b := b.toNat) d1 (hinD q.toNat (by omega)) hR hz (by omega) (by rw [hb]; exact hm0) hty
              rw [← hq1] at n1 n2
              have e1 : (fun c : Nat => (up2 M5 236 b 1) 236 (c : Int)) = ud (fun b : Nat => M5 236 b) b.toNat 1 := by
                funext c
                by_cases w : c = b.toNat
                · rw [w, ud_e, hb, uq_eq]
                · rw [ud_n w, uq_ne (by omega)]
              refine ih (up2 M5 236 b 1) (z + 1) _ _ (fun a c h => by rw [uq_ne (by omega)]; exact hF5 a c h) (fun t => ?_) n2 (by omega) rfl
              rw [e1]
              exact n1 t
            have hmany6 : (up2 M5 236 b 1) 217 21 = p := by
              rw [uq_ne (by omega)]
              exact hmany5
            by_cases w : (p : Int) ≤ b + 1
            · refine r_iload d_184_134 rfl ?_
              refine r_aload_n d_184_136 rfl (by omega) ?_
              refine r_getfv (ki := 21) d_184_137 q_184_247 rfl sh_217 hmany6 ?_
              refine r_icmp_ge (t := 189) d_184_140 rfl (fun _ => ?_) (fun hz => absurd (by omega) hz)
              exact hout
            · refine r_iload d_184_134 rfl ?_
              refine r_aload_n d_184_136 rfl (by omega) ?_
              refine r_getfv (ki := 21) d_184_137 q_184_247 rfl sh_217 hmany6 ?_
              refine r_icmp_ge (t := 189) d_184_140 rfl (fun hz => absurd hz (by omega)) (fun _ => ?_)
              refine r_iload d_184_143 rfl ?_
              refine r_if_ne (t := 189) d_184_145 rfl (fun _ => ?_) (fun hz => absurd (by decide) hz)
              exact hout
          · rw [ifp_f hty]
            refine r_if_eq (t := 183) d_184_166 rfl (fun _ => ?_) (fun hz => absurd rfl hz)
            refine r_iinc d_184_183 rfl (by omega) (stl_7_6 rfl rfl) ?_
            refine r_goto (t := 134) d_184_186 rfl ?_
            refine ihb (fun b' hb' => ?_)
            by_cases w : b' = b.toNat
            · rw [w]
              exact fun k => hty k.2
            · exact hno b' (by omega)
        · refine r_if_ne (t := 183) d_184_155 rfl (fun _ => ?_) (fun hz => absurd hm0 hz)
          refine r_iinc d_184_183 rfl (by omega) (stl_7_6 rfl rfl) ?_
          refine r_goto (t := 134) d_184_186 rfl ?_
          refine ihb (fun b' hb' => ?_)
          by_cases w : b' = b.toNat
          · rw [w, hb]
            exact fun k => hm0 k.1
          · exact hno b' (by omega)
    · show cRn _ _ p t = cXn _ p t - 0
      rw [Nat.sub_zero]
      exact sN_cg (fun b hb => by
        by_cases w : ty (sz b) (F b) = t
        · rw [if_pos ⟨hmet b hb, w⟩, if_pos w]
        · rw [if_neg (fun k => w k.2), if_neg w])
    · have : ∀ t, min (cXn (fun b => ty (sz b) (F b)) p t) (cXn (fun b => ty (sz' b) (G b)) 0 t) = 0 := fun t => Nat.min_zero _
      have h0 : ∀ D : List (Nat × List Int), sL (fun t => min (cXn (fun b => ty (sz b) (F b)) p t) (cXn (fun b => ty (sz' b) (G b)) 0 t)) D = 0 := by
        intro D
        induction D with
        | nil => rfl
        | cons u D ihD =>
          show min _ _ + sL _ D = 0
          rw [ihD, this]
      exact (h0 D).symm
  rcases hy3 with rfl | ⟨z3, rfl⟩ <;> rcases hy4 with rfl | ⟨z4, rfl⟩
  · refine r_iconst d_184_114 rfl ?_
    refine r_istore_n d_184_115 rfl (stl_7_3 rfl rfl) ?_
    refine r_iconst d_184_116 rfl ?_
    refine r_istore d_184_117 rfl (stl_7_4 rfl rfl) ?_
    exact hstart
  · refine r_iconst d_184_114 rfl ?_
    refine r_istore_n d_184_115 rfl (stl_7_3 rfl rfl) ?_
    refine r_iconst d_184_116 rfl ?_
    refine r_istore d_184_117 rfl (stl_7_4 rfl rfl) ?_
    exact hstart
  · refine r_iconst d_184_114 rfl ?_
    refine r_istore_n d_184_115 rfl (stl_7_3 rfl rfl) ?_
    refine r_iconst d_184_116 rfl ?_
    refine r_istore d_184_117 rfl (stl_7_4 rfl rfl) ?_
    exact hstart
  · refine r_iconst d_184_114 rfl ?_
    refine r_istore_n d_184_115 rfl (stl_7_3 rfl rfl) ?_
    refine r_iconst d_184_116 rfl ?_
    refine r_istore d_184_117 rfl (stl_7_4 rfl rfl) ?_
    exact hstart
