/-! The model: draws, turns. -/
theorem cinj {n g i j g' i' j' : Nat} (hn : 1 ≤ n ∧ n ≤ 6) (hi : i < n) (hj : j < n) (hi' : i' < n) (hj' : j' < n) (h : g * (n * n) + i * n + j = g' * (n * n) + i' * n + j') : g = g' ∧ i = i' ∧ j = j' := by
  rcases (show n = 1 ∨ n = 2 ∨ n = 3 ∨ n = 4 ∨ n = 5 ∨ n = 6 by omega) with rfl | rfl | rfl | rfl | rfl | rfl <;> omega
theorem cdec {n : Nat} (hn : 0 < n) {c : Int} (h0 : 0 ≤ c) (h1 : c < ((2 * (n * n) : Nat) : Int)) : ∃ g i j : Nat, c / ((n * n : Nat) : Int) = g ∧ c % ((n * n : Nat) : Int) / (n : Int) = i ∧ c % ((n * n : Nat) : Int) % (n : Int) = j ∧ g < 2 ∧ i < n ∧ j < n ∧ c.toNat = g * (n * n) + i * n + j := by
  have hnn : 0 < n * n := Nat.mul_pos hn hn
  have hc : ((c.toNat : Nat) : Int) = c := by omega
  refine ⟨c.toNat / (n * n), c.toNat % (n * n) / n, c.toNat % (n * n) % n, ?_, ?_, ?_, ?_, ?_, Nat.mod_lt _ hn, ?_⟩
  · rw [Int.natCast_ediv, hc]
  · rw [Int.natCast_ediv, Int.natCast_emod, hc]
  · rw [Int.natCast_emod, Int.natCast_emod, hc]
  · exact Nat.div_lt_of_lt_mul (by omega)
  · exact Nat.div_lt_of_lt_mul (Nat.mod_lt _ hnn)
  · have a := Nat.div_add_mod c.toNat (n * n)
    have b := Nat.div_add_mod (c.toNat % (n * n)) n
    rw [Nat.mul_comm (c.toNat / (n * n)), Nat.mul_comm (c.toNat % (n * n) / n)]
    omega
theorem cenc {n g i j : Nat} (hn : 1 ≤ n ∧ n ≤ 6) (hi : i < n) (hj : j < n) : (g * (n * n) + i * n + j) / (n * n) = g ∧ (g * (n * n) + i * n + j) % (n * n) / n = i ∧ (g * (n * n) + i * n + j) % (n * n) % n = j := by
  rcases (show n = 1 ∨ n = 2 ∨ n = 3 ∨ n = 4 ∨ n = 5 ∨ n = 6 by omega) with rfl | rfl | rfl | rfl | rfl | rfl <;> omega
/-- filling a pair of matrices in the order of a sequence -/
def fic (b : Int) (n : Nat) (B : Nat → Nat → Nat → Int) (f : Int → Int) (c : Nat) : Prop := ∀ g i j : Nat, g < 2 → i < n → j < n → g * (n * n) + i * n + j < c → f (b + 36 * g + 6 * i + j) = B g i j
theorem fic.start {b : Int} {n : Nat} {B : Nat → Nat → Nat → Int} {f : Int → Int} : fic b n B f 0 := fun g i j _ _ _ h => absurd h (Nat.not_lt_zero _)
theorem fic.put {b : Int} {n : Nat} {B : Nat → Nat → Nat → Int} {f : Int → Int} {c : Nat} (h : fic b n B f c) (hn : 1 ≤ n ∧ n ≤ 6) {g i j : Nat} (hi : i < n) (hj : j < n) (hc : c = g * (n * n) + i * n + j) {x y : Int} (hx : x = B g i j) (hy : y = b + 36 * g + 6 * i + j) : fic b n B (u1 f y x) (c + 1) := by
  intro g' i' j' a1 a2 a3 a4
  by_cases e1 : g' = g ∧ i' = i ∧ j' = j
  · obtain ⟨rfl, rfl, rfl⟩ := e1
    rw [hy, u1_eq]
    exact hx
  · rw [u1_ne _ _ (by omega)]
    refine h g' i' j' a1 a2 a3 ?_
    have : g' * (n * n) + i' * n + j' ≠ c := fun q => e1 (cinj hn a2 a3 hi hj (by omega))
    omega
theorem fic.fin {b : Int} {n : Nat} {B : Nat → Nat → Nat → Int} {f : Int → Int} (h : fic b n B f (2 * (n * n))) {g i j : Nat} (h1 : g < 2) (h2 : i < n) (h3 : j < n) : f (b + 36 * g + 6 * i + j) = B g i j := by
  refine h g i j h1 h2 h3 ?_
  have a1 : i * n + j < n * n := by
    have := Nat.mul_le_mul_right n (show i + 1 ≤ n from h2)
    rw [Nat.add_mul] at this
    omega
  have a2 : g * (n * n) ≤ 1 * (n * n) := Nat.mul_le_mul_right _ (by omega)
  omega
def lcg (s : Int) : Nat → Int
  | 0 => s
  | c + 1 => (lcg s c * 1103515245 + 12345) % 2147483648
def drw (p s : Int) (c : Nat) : Int := lcg s (c + 1) / 65536 % p
def nz (x : Int) : Int := if x = 0 then 0 else 1
theorem lcg_rng {s : Int} (h : 0 ≤ s ∧ s ≤ 999999) : ∀ c : Nat, 0 ≤ lcg s c ∧ lcg s c < 2147483648
  | 0 => by
    show 0 ≤ s ∧ s < 2147483648
    omega
  | c + 1 => by
    show 0 ≤ (lcg s c * 1103515245 + 12345) % 2147483648 ∧ (lcg s c * 1103515245 + 12345) % 2147483648 < 2147483648
    omega
theorem m_draws_bad (M : Mo) (hb : cb M) {k x : Int} (h : ¬ ((0 ≤ k ∧ k ≤ 3) ∧ 0 ≤ x ∧ x ≤ 999999)) : PJ 156 [(2, 217), (0, k), (0, x)] M (-2) (up2 M 218 0 (M 218 0 + 1)) := by
  refine Cl.intro (L := [(2, 217), (0, k), (0, x), (9, 0), (9, 0), (9, 0), (9, 0), (9, 0), (9, 0), (9, 0)]) (rcv_v ow_156.2.1 sh_217) (by unfold entl; rw [mx_156]; rfl) (by rw [mx_156]; exact Nat.le_of_ble_eq_true rfl) rfl ?_
  have hbad := m_bad M (hb 0 (by omega) (by omega))
  refine r_iload_n d_156_0 rfl ?_
  refine r_callsp d_156_1 q_156_178 rfl rfl (m_isModule M k) ?_
  by_cases hk : 0 ≤ k ∧ k ≤ 3
  · rw [if_pos hk]
    refine r_if_eq (t := 17) d_156_4 rfl (fun hz => absurd hz (by decide)) (fun _ => ?_)
    refine r_iload_n d_156_7 rfl ?_
    refine r_iconst d_156_8 rfl ?_
    refine r_ldc (c := 0) d_156_9 q_156_189 ?_
    refine r_callsp d_156_11 q_156_118 rfl rfl (m_in M x 0 999999) ?_
    rw [if_neg (fun q => h ⟨hk, q⟩)]
    refine r_if_ne (t := 22) d_156_14 rfl (fun hz => absurd hz (by decide)) (fun _ => ?_)
    refine r_aload_n d_156_17 rfl (by omega) ?_
    refine r_callvj d_156_18 q_156_172 rfl rfl hbad ?_
    refine r_iret d_156_21 rt_156 ?_
    exact ⟨rfl, rfl⟩
  · rw [if_neg hk]
    refine r_if_eq (t := 17) d_156_4 rfl (fun _ => ?_) (fun hz => absurd (by decide) hz)
    refine r_aload_n d_156_17 rfl (by omega) ?_
    refine r_callvj d_156_18 q_156_172 rfl rfl hbad ?_
    refine r_iret d_156_21 rt_156 ?_
    exact ⟨rfl, rfl⟩
def drE (p s : Int) (n : Nat) (g i j : Nat) : Int := drw p s (g * (n * n) + i * n + j)
theorem sm_nz {f : Nat → Int} : ∀ n : Nat, 0 ≤ sm (fun c => nz (f c)) n ∧ sm (fun c => nz (f c)) n ≤ n
  | 0 => ⟨Int.le_refl _, Int.le_refl _⟩
  | n + 1 => by
    have := sm_nz (f := f) n
    show 0 ≤ sm (fun c => nz (f c)) n + nz (f n) ∧ sm (fun c => nz (f c)) n + nz (f n) ≤ ((n + 1 : Nat) : Int)
    have h2 : 0 ≤ nz (f n) ∧ nz (f n) ≤ 1 := by
      unfold nz
      split <;> omega
    omega
theorem m_draws {M : Mo} {s : Sst} {H : List Sst} (hv : vs s) (hc : cu M s) (hH : hi M H) {k : Nat} {x0 : Int} (hk : k < 4) (hx : 0 ≤ x0 ∧ x0 ≤ 999999) : CI 156 [(2, 217), (0, (k : Int)), (0, x0)] M (fun z M' => z = sm (fun c => nz (drw (pI s.1) x0 c)) (2 * (s.2.1 k * s.2.1 k)) ∧ chg M M' (setm s k (s.2.1 k) (drE (pI s.1) x0 (s.2.1 k))) (psh H s)) := by
  refine Cl.intro (L := [(2, 217), (0, (k : Int)), (0, x0), (9, 0), (9, 0), (9, 0), (9, 0), (9, 0), (9, 0), (9, 0)]) (rcv_v ow_156.2.1 sh_217) (by unfold entl; rw [mx_156]; rfl) (by rw [mx_156]; exact Nat.le_of_ble_eq_true rfl) rfl ?_
  have hpb := (pI23 hv.1).b
  have h6 := vs_6 hv hk
  have h1 := (hv.2 k hk).1
  refine r_iload_n d_156_0 rfl ?_
  refine r_callsp d_156_1 q_156_178 rfl rfl (m_isModule M k) ?_
  rw [if_pos (by omega)]
  refine r_if_eq (t := 17) d_156_4 rfl (fun hz => absurd hz (by decide)) (fun _ => ?_)
  refine r_iload_n d_156_7 rfl ?_
  refine r_iconst d_156_8 rfl ?_
  refine r_ldc (c := 0) d_156_9 q_156_189 ?_
  refine r_callsp d_156_11 q_156_118 rfl rfl (m_in M x0 0 999999) ?_
  rw [if_pos hx]
  refine r_if_ne (t := 22) d_156_14 rfl (fun _ => ?_) (fun hz => absurd (by decide) hz)
  refine r_aload_n d_156_22 rfl (by omega) ?_
  refine r_callvr d_156_23 q_156_175 rfl rfl (m_leavesState M hv hc hH) (fun M1 hM1 => ?_)
  obtain ⟨hF1, h5, hH1⟩ := hM1
  have hc1 : cu M1 s := cu.fr hv hc hF1 (fun x y q => by unfold WL at q; omega)
  have hsz := (hc1.2 k hk).1
  have fini := fun {M2 : Mo} {E : Nat → Nat → Nat → Int} {f : Int → Int} => chg_place (M2 := M2) (E := E) (f := f) hv hc hk hF1 h5 hH1
  generalize s.2.1 k = n at *
  have hnn : (n : Int) * (n : Int) = ((n * n : Nat) : Int) := (Int.natCast_mul n n).symm
  have h2nn : 2 * (n : Int) * (n : Int) = ((2 * (n * n) : Nat) : Int) := by
    rw [Int.mul_assoc, hnn]
    omega
  have hnn36 : n * n ≤ 36 := Nat.mul_le_mul h6 h6
  have hnn1 : 1 ≤ n * n := Nat.mul_le_mul h1 h1
  have hpp : ∀ f, sr M1 220 f 217 1 = pI s.1 := fun f => by rw [sr_ne _ _ (by decide)]; exact hc1.1
  refine r_iload_n d_156_26 rfl ?_
  refine r_i2l d_156_27 ?_
  refine r_lstore_n d_156_28 rfl (stw_10_3 rfl rfl) ?_
  refine r_aload_n d_156_29 rfl (by omega) ?_
  refine r_getc (ki := 2) d_156_30 q_156_17 rfl sh_217 fx_217_2 (by omega) ?_
  refine r_iload_n d_156_33 rfl ?_
  refine r_ialoadv d_156_34 sh_219 (by omega) (by omega) hsz ?_
  refine r_istore d_156_35 rfl (stl_10_5 rfl rfl) ?_
  refine r_iconst d_156_37 rfl ?_
  refine r_istore d_156_38 rfl (stl_10_6 rfl rfl) ?_
  refine r_iconst d_156_40 rfl ?_
  refine r_istore d_156_41 rfl (stl_10_7 rfl rfl) ?_
  refine dn_ind (R := fun c => ∀ (f : Int → Int) (x : Int) (y8 y9 : AV), x = lcg x0 c.toNat → (∀ y : Int, ¬ (72 * (k : Int) ≤ y ∧ y < 72 * k + 72) → f y = M1 220 y) → fic (72 * k) n (drE (pI s.1) x0 n) f c.toNat → Rn 156 43 [(2, 217), (0, (k : Int)), (0, x0), (1, x), (9, 0), (0, (n : Int)), (0, sm (fun c => nz (drw (pI s.1) x0 c)) c.toNat), (0, c), y8, y9] [] (sr M1 220 f) _) (lo := 0) (n := ((2 * (n * n) : Nat) : Int)) ?_ ?_ 0 (by omega) (by omega) (M1 220) x0 _ _ rfl (fun y _ => rfl) fic.start |> (fun k => by rw [sr_self] at k; exact k)
  · intro f x y8 y9 hx ho hf
    refine r_iload d_156_43 rfl ?_
    refine r_iconst d_156_45 rfl ?_
    refine r_iload d_156_46 rfl ?_
    refine r_imul d_156_48 (by omega) ?_
    refine r_iload d_156_49 rfl ?_
    refine r_imul d_156_51 (mr (a := 12) (b := 6) (by omega) (by omega) (by decide)) ?_
    rw [h2nn]
    refine r_icmp_ge (t := 143) d_156_52 rfl (fun _ => ?_) (fun hz => absurd (by omega) hz)
    refine r_iload d_156_143 rfl ?_
    refine r_iret d_156_145 rt_156 ?_
    refine ⟨_, rfl, by rw [Int.toNat_natCast], fini rfl ho (fun g i j a1 a2 a3 => ?_)⟩
    rw [Int.toNat_natCast] at hf
    exact hf.fin a1 a2 a3
  · intro c c1 c2 ih f x y8 y9 hxx ho hf
    obtain ⟨g, i, j, d1, d2, d3, d4, d5, d6, d7⟩ := cdec h1 c1 c2
    have hlr := lcg_rng hx c.toNat
    rw [← hxx] at hlr
    have hmr := sm_nz (f := drw (pI s.1) x0) c.toNat
    generalize hmm : sm (fun c => nz (drw (pI s.1) x0 c)) c.toNat = m at *
    refine r_iload d_156_43 rfl ?_
    refine r_iconst d_156_45 rfl ?_
    refine r_iload d_156_46 rfl ?_
    refine r_imul d_156_48 (by omega) ?_
    refine r_iload d_156_49 rfl ?_
    refine r_imul d_156_51 (mr (a := 12) (b := 6) (by omega) (by omega) (by decide)) ?_
    rw [h2nn]
    refine r_icmp_ge (t := 143) d_156_52 rfl (fun hz => absurd hz (by omega)) (fun _ => ?_)
    have hx' : (x * 1103515245 + 12345) % 2147483648 = lcg x0 (c.toNat + 1) := by
      rw [hxx]
      rfl
    refine r_lload_n d_156_55 rfl ?_
    refine r_ldc2_w d_156_56 q_156_190 ?_
    refine r_lmul d_156_59 (by omega) ?_
    refine r_ldc2_w d_156_60 q_156_192 ?_
    refine r_ladd d_156_63 (by omega) ?_
    refine r_ldc2_w d_156_64 q_156_194 ?_
    refine r_lrem d_156_67 (by omega) (by omega) ?_
    rw [hx']
    have hlr2 := lcg_rng hx (c.toNat + 1)
    have hdr : lcg x0 (c.toNat + 1) / 65536 % pI s.1 = drw (pI s.1) x0 c.toNat := rfl
    have hdb := emb (x := lcg x0 (c.toNat + 1) / 65536) (pI23 hv.1)
    rw [hdr] at hdb
    refine r_lstore_n d_156_68 rfl (stw_10_3 rfl rfl) ?_
    refine r_lload_n d_156_69 rfl ?_
    refine r_ldc2_w d_156_70 q_156_196 ?_
    refine r_ldiv d_156_73 (by omega) (by omega) ?_
    refine r_aload_n d_156_74 rfl (by omega) ?_
    refine r_getfv (ki := 1) d_156_75 q_156_13 rfl sh_217 (hpp f) ?_
    refine r_i2l d_156_78 ?_
    refine r_lrem d_156_79 (by omega) (by omega) ?_
    rw [hdr]
    refine r_l2i d_156_80 (by omega) ?_
    refine r_istore d_156_81 rfl (stl_10_8 rfl rfl) ?_
    refine r_iload d_156_83 rfl ?_
    refine r_iload d_156_85 rfl ?_
    refine r_iload d_156_87 rfl ?_
    refine r_imul d_156_89 (mr (a := 6) (b := 6) (by omega) (by omega) (by decide)) ?_
    rw [hnn]
    refine r_iremn d_156_90 (by omega) (by omega) ?_
    refine r_istore d_156_91 rfl (stl_10_9 rfl rfl) ?_
    refine r_aload_n d_156_93 rfl (by omega) ?_
    refine r_getc (ki := 3) d_156_94 q_156_20 rfl sh_217 fx_217_3 (by omega) ?_
    refine r_iload_n d_156_97 rfl ?_
    refine r_iload d_156_98 rfl ?_
    refine r_iload d_156_100 rfl ?_
    refine r_iload d_156_102 rfl ?_
    refine r_imul d_156_104 (mr (a := 6) (b := 6) (by omega) (by omega) (by decide)) ?_
    rw [hnn]
    have hcm := Int.emod_nonneg c (show ((n * n : Nat) : Int) ≠ 0 by omega)
    have hcm2 := Int.emod_lt_of_pos c (show 0 < ((n * n : Nat) : Int) by omega)
    refine r_idivn d_156_105 (by omega) (by omega) ?_
    refine r_iload d_156_106 rfl ?_
    refine r_iload d_156_108 rfl ?_
    refine r_idivn d_156_110 (by omega) (by omega) ?_
    refine r_iload d_156_111 rfl ?_
    refine r_iload d_156_113 rfl ?_
    refine r_iremn d_156_115 (by omega) (by omega) ?_
    rw [d1, d2, d3]
    refine r_callsp d_156_116 q_156_114 rfl rfl (m_cell _ k g i j (by omega) (by omega) (by omega) (by omega)) ?_
    refine r_iload d_156_119 rfl ?_
    refine r_iastore d_156_121 sh_220 (by omega) (by omega) ?_
    rw [up_sr]
    have hput := hf.put ⟨h1, h6⟩ d5 d6 d7 (x := drw (pI s.1) x0 c.toNat) (y := 72 * (k : Int) + 36 * g + 6 * i + j) (by unfold drE; rw [d7]) rfl
    have hnext := ih (u1 f (72 * (k : Int) + 36 * g + 6 * i + j) (drw (pI s.1) x0 c.toNat)) (lcg x0 (c.toNat + 1)) (0, drw (pI s.1) x0 c.toNat) (0, c % ((n * n : Nat) : Int)) (by rw [show (c + 1).toNat = c.toNat + 1 by omega]) (fun y hy => by rw [u1_ne _ _ (by omega)]; exact ho y hy) (by rw [show (c + 1).toNat = c.toNat + 1 by omega]; exact hput)
    have hsum : sm (fun c => nz (drw (pI s.1) x0 c)) (c + 1).toNat = m + nz (drw (pI s.1) x0 c.toNat) := by
      rw [show (c + 1).toNat = c.toNat + 1 by omega, ← hmm]
      rfl
    rw [hsum] at hnext
    by_cases hz : drw (pI s.1) x0 c.toNat = 0
    · have e1 : nz (drw (pI s.1) x0 c.toNat) = 0 := if_pos hz
      rw [e1] at hnext
      refine r_iload d_156_122 rfl ?_
      refine r_iload d_156_124 rfl ?_
      refine r_if_ne (t := 133) d_156_126 rfl (fun hz => absurd hz (by omega)) (fun _ => ?_)
      refine r_iconst d_156_129 rfl ?_
      refine r_goto (t := 134) d_156_130 rfl ?_
      refine r_iadd d_156_134 (by omega) ?_
      refine r_istore d_156_135 rfl (stl_10_6 rfl rfl) ?_
      refine r_iinc d_156_137 rfl (by omega) (stl_10_7 rfl rfl) ?_
      refine r_goto (t := 43) d_156_140 rfl ?_
      exact hnext
    · have e1 : nz (drw (pI s.1) x0 c.toNat) = 1 := if_neg hz
      rw [e1] at hnext
      refine r_iload d_156_122 rfl ?_
      refine r_iload d_156_124 rfl ?_
      refine r_if_ne (t := 133) d_156_126 rfl (fun _ => ?_) (fun hz => absurd (by omega) hz)
      refine r_iconst d_156_133 rfl ?_
      refine r_iadd d_156_134 (by omega) ?_
      refine r_istore d_156_135 rfl (stl_10_6 rfl rfl) ?_
      refine r_iinc d_156_137 rfl (by omega) (stl_10_7 rfl rfl) ?_
      refine r_goto (t := 43) d_156_140 rfl ?_
      exact hnext
def trnE (p : Int) (X : Nat → Nat → Nat → Int) (i j : Nat) (c : Int) (g h q : Nat) : Int :=
  if q = j then ((X g h q + if h = i then c * X g j q else 0) + (p - c) * (X g h i + if h = i then c * X g j i else 0)) % p else (X g h q + if h = i then c * X g j q else 0) % p
theorem m_turned (M : Mo) {p : Int} (hp : M 217 1 = p) (h23 : p23 p) {X : Nat → Nat → Nat → Int} {k n : Nat} (hk : k < 4) (hn : n ≤ 6) (hX : ∀ g i j : Nat, g < 2 → i < n → j < n → M 220 (72 * k + 36 * g + 6 * i + j) = X g i j) (hr : ∀ g i j : Nat, g < 2 → i < n → j < n → 0 ≤ X g i j ∧ X g i j ≤ p - 1) {i j : Nat} {c : Int} (hi : i < n) (hj : j < n) (hc : 0 ≤ c ∧ c ≤ p - 1) (b0 : M 229 0 = i) (b1 : M 229 1 = j) (b2 : M 229 2 = c) {g h q : Nat} (hg : g < 2) (hh : h < n) (hq : q < n) : PI 157 [(2, 217), (0, (k : Int)), (0, (g : Int)), (0, (h : Int)), (0, (q : Int)), (2, 229)] M (trnE p X i j c g h q) := by
  refine Cl.intro (L := [(2, 217), (0, (k : Int)), (0, (g : Int)), (0, (h : Int)), (0, (q : Int)), (2, 229), (9, 0), (9, 0)]) (rcv_v ow_157.2.1 sh_217) (by unfold entl; rw [mx_157]; rfl) (by rw [mx_157]; exact Nat.le_of_ble_eq_true rfl) rfl ?_
  have hb := h23.b
  have r1 := hr g h q hg hh hq
  have r2 := hr g j q hg hj hq
  have r3 := hr g h i hg hh hi
  have r4 := hr g j i hg hj hi
  have a1 := hX g h q hg hh hq
  have a2 := hX g j q hg hj hq
  have a3 := hX g h i hg hh hi
  have a4 := hX g j i hg hj hi
  have m2 := mb (a := 2) (b := 2) (x := c) (y := X g j q) (by omega) (by omega)
  have m4 := mb (a := 2) (b := 2) (x := c) (y := X g j i) (by omega) (by omega)
  have fin : ∀ o a : Int, o = (X g h q + if h = i then c * X g j q else 0) → a = (X g h i + if h = i then c * X g j i else 0) → 0 ≤ o ∧ o ≤ 6 → 0 ≤ a ∧ a ≤ 6 → Rn 157 102 [(2, 217), (0, (k : Int)), (0, (g : Int)), (0, (h : Int)), (0, (q : Int)), (2, 229), (0, o), (0, a)] [] M (fun v M' => v = some (0, trnE p X i j c g h q) ∧ M' = M) := by
    intro o a ho ha ho6 ha6
    have m5 := mb (a := 3) (b := 6) (x := p - c) (y := a) (by omega) (by omega)
    by_cases hqj : q = j
    · refine r_iload d_157_102 rfl ?_
      refine r_aload d_157_104 rfl (by omega) ?_
      refine r_iconst d_157_106 rfl ?_
      refine r_ialoadv d_157_107 sh_229 (by omega) (by omega) b1 ?_
      refine r_icmp_ne (t := 134) d_157_108 rfl (fun hz => absurd hz (by omega)) (fun _ => ?_)
      refine r_iload d_157_111 rfl ?_
      refine r_aload_n d_157_113 rfl (by omega) ?_
      refine r_getfv (ki := 1) d_157_114 q_157_13 rfl sh_217 hp ?_
      refine r_aload d_157_117 rfl (by omega) ?_
      refine r_iconst d_157_119 rfl ?_
      refine r_ialoadv d_157_120 sh_229 (by omega) (by omega) b2 ?_
      refine r_isub d_157_121 (by omega) ?_
      refine r_iload d_157_122 rfl ?_
      refine r_imul d_157_124 (by omega) ?_
      refine r_iadd d_157_125 (by omega) ?_
      refine r_aload_n d_157_126 rfl (by omega) ?_
      refine r_getfv (ki := 1) d_157_127 q_157_13 rfl sh_217 hp ?_
      refine r_iremn d_157_130 (by omega) (by omega) ?_
      refine r_goto (t := 141) d_157_131 rfl ?_
      refine r_iret d_157_141 rt_157 ?_
      refine ⟨?_, rfl⟩
      unfold trnE
      rw [if_pos hqj, ← ho, ← ha]
    · refine r_iload d_157_102 rfl ?_
      refine r_aload d_157_104 rfl (by omega) ?_
      refine r_iconst d_157_106 rfl ?_
      refine r_ialoadv d_157_107 sh_229 (by omega) (by omega) b1 ?_
      refine r_icmp_ne (t := 134) d_157_108 rfl (fun _ => ?_) (fun hz => absurd (by omega) hz)
      refine r_iload d_157_134 rfl ?_
      refine r_aload_n d_157_136 rfl (by omega) ?_
      refine r_getfv (ki := 1) d_157_137 q_157_13 rfl sh_217 hp ?_
      refine r_iremn d_157_140 (by omega) (by omega) ?_
      refine r_iret d_157_141 rt_157 ?_
      refine ⟨?_, rfl⟩
      unfold trnE
      rw [if_neg hqj, ← ho]
  refine r_aload_n d_157_0 rfl (by omega) ?_
  refine r_getc (ki := 3) d_157_1 q_157_20 rfl sh_217 fx_217_3 (by omega) ?_
  refine r_iload_n d_157_4 rfl ?_
  refine r_iload_n d_157_5 rfl ?_
  refine r_iload_n d_157_6 rfl ?_
  refine r_iload d_157_7 rfl ?_
  refine r_callsp d_157_9 q_157_114 rfl rfl (m_cell M k g h q (by omega) (by omega) (by omega) (by omega)) ?_
  refine r_ialoadv d_157_12 sh_220 (by omega) (by omega) a1 ?_
  refine r_iload_n d_157_13 rfl ?_
  refine r_aload d_157_14 rfl (by omega) ?_
  refine r_iconst d_157_16 rfl ?_
  refine r_ialoadv d_157_17 sh_229 (by omega) (by omega) b0 ?_
  by_cases hhi : h = i
  · refine r_icmp_ne (t := 45) d_157_18 rfl (fun hz => absurd hz (by omega)) (fun _ => ?_)
    refine r_aload d_157_21 rfl (by omega) ?_
    refine r_iconst d_157_23 rfl ?_
    refine r_ialoadv d_157_24 sh_229 (by omega) (by omega) b2 ?_
    refine r_aload_n d_157_25 rfl (by omega) ?_
    refine r_getc (ki := 3) d_157_26 q_157_20 rfl sh_217 fx_217_3 (by omega) ?_
    refine r_iload_n d_157_29 rfl ?_
    refine r_iload_n d_157_30 rfl ?_
    refine r_aload d_157_31 rfl (by omega) ?_
    refine r_iconst d_157_33 rfl ?_
    refine r_ialoadv d_157_34 sh_229 (by omega) (by omega) b1 ?_
    refine r_iload d_157_35 rfl ?_
    refine r_callsp d_157_37 q_157_114 rfl rfl (m_cell M k g j q (by omega) (by omega) (by omega) (by omega)) ?_
    refine r_ialoadv d_157_40 sh_220 (by omega) (by omega) a2 ?_
    refine r_imul d_157_41 (by omega) ?_
    refine r_goto (t := 46) d_157_42 rfl ?_
    refine r_iadd d_157_46 (by omega) ?_
    refine r_istore d_157_47 rfl (stl_8_6 rfl rfl) ?_
    refine r_aload_n d_157_49 rfl (by omega) ?_
    refine r_getc (ki := 3) d_157_50 q_157_20 rfl sh_217 fx_217_3 (by omega) ?_
    refine r_iload_n d_157_53 rfl ?_
    refine r_iload_n d_157_54 rfl ?_
    refine r_iload_n d_157_55 rfl ?_
    refine r_aload d_157_56 rfl (by omega) ?_
    refine r_iconst d_157_58 rfl ?_
    refine r_ialoadv d_157_59 sh_229 (by omega) (by omega) b0 ?_
    refine r_callsp d_157_60 q_157_114 rfl rfl (m_cell M k g h i (by omega) (by omega) (by omega) (by omega)) ?_
    refine r_ialoadv d_157_63 sh_220 (by omega) (by omega) a3 ?_
    refine r_iload_n d_157_64 rfl ?_
    refine r_aload d_157_65 rfl (by omega) ?_
    refine r_iconst d_157_67 rfl ?_
    refine r_ialoadv d_157_68 sh_229 (by omega) (by omega) b0 ?_
    refine r_icmp_ne (t := 98) d_157_69 rfl (fun hz => absurd hz (by omega)) (fun _ => ?_)
    refine r_aload d_157_72 rfl (by omega) ?_
    refine r_iconst d_157_74 rfl ?_
    refine r_ialoadv d_157_75 sh_229 (by omega) (by omega) b2 ?_
    refine r_aload_n d_157_76 rfl (by omega) ?_
    refine r_getc (ki := 3) d_157_77 q_157_20 rfl sh_217 fx_217_3 (by omega) ?_
    refine r_iload_n d_157_80 rfl ?_
    refine r_iload_n d_157_81 rfl ?_
    refine r_aload d_157_82 rfl (by omega) ?_
    refine r_iconst d_157_84 rfl ?_
    refine r_ialoadv d_157_85 sh_229 (by omega) (by omega) b1 ?_
    refine r_aload d_157_86 rfl (by omega) ?_
    refine r_iconst d_157_88 rfl ?_
    refine r_ialoadv d_157_89 sh_229 (by omega) (by omega) b0 ?_
    refine r_callsp d_157_90 q_157_114 rfl rfl (m_cell M k g j i (by omega) (by omega) (by omega) (by omega)) ?_
    refine r_ialoadv d_157_93 sh_220 (by omega) (by omega) a4 ?_
    refine r_imul d_157_94 (by omega) ?_
    refine r_goto (t := 99) d_157_95 rfl ?_
    refine r_iadd d_157_99 (by omega) ?_
    refine r_istore d_157_100 rfl (stl_8_7 rfl rfl) ?_
    exact fin _ _ (by rw [if_pos hhi]) (by rw [if_pos hhi]) (by omega) (by omega)
  · refine r_icmp_ne (t := 45) d_157_18 rfl (fun _ => ?_) (fun hz => absurd (by omega) hz)
    refine r_iconst d_157_45 rfl ?_
    refine r_iadd d_157_46 (by omega) ?_
    refine r_istore d_157_47 rfl (stl_8_6 rfl rfl) ?_
    refine r_aload_n d_157_49 rfl (by omega) ?_
    refine r_getc (ki := 3) d_157_50 q_157_20 rfl sh_217 fx_217_3 (by omega) ?_
    refine r_iload_n d_157_53 rfl ?_
    refine r_iload_n d_157_54 rfl ?_
    refine r_iload_n d_157_55 rfl ?_
    refine r_aload d_157_56 rfl (by omega) ?_
    refine r_iconst d_157_58 rfl ?_
    refine r_ialoadv d_157_59 sh_229 (by omega) (by omega) b0 ?_
    refine r_callsp d_157_60 q_157_114 rfl rfl (m_cell M k g h i (by omega) (by omega) (by omega) (by omega)) ?_
    refine r_ialoadv d_157_63 sh_220 (by omega) (by omega) a3 ?_
    refine r_iload_n d_157_64 rfl ?_
    refine r_aload d_157_65 rfl (by omega) ?_
    refine r_iconst d_157_67 rfl ?_
    refine r_ialoadv d_157_68 sh_229 (by omega) (by omega) b0 ?_
    refine r_icmp_ne (t := 98) d_157_69 rfl (fun _ => ?_) (fun hz => absurd (by omega) hz)
    refine r_iconst d_157_98 rfl ?_
    refine r_iadd d_157_99 (by omega) ?_
    refine r_istore d_157_100 rfl (stl_8_7 rfl rfl) ?_
    exact fin _ _ (by rw [if_neg hhi]) (by rw [if_neg hhi]) (by omega) (by omega)
