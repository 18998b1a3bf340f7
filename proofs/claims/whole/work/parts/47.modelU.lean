/-! The model: told, digest. -/
/-- numbers that are told -/
def tdV (b0 b1 b2 : Int) (h : Nat) (p : Int) (L : Nat) (what : Int) : Int := if what < 3 then (if what = 0 then b0 else if what = 1 then b1 else b2) else if what = 3 then h else if what = 4 then p else L
theorem m_toldBy {M : Mo} {b0 b1 b2 p : Int} {h L : Nat} (h0 : M 218 0 = b0) (h1 : M 218 1 = b1) (h2 : M 218 2 = b2) (h3 : M 217 13 = h) (h4 : M 217 1 = p) (h5 : M 217 31 = L) {x : Int} (hx : 0 ≤ x ∧ x ≤ 5) : PI 212 [(2, 217), (0, x)] M (tdV b0 b1 b2 h p L x) := by
  refine Cl.intro (L := [(2, 217), (0, x)]) (rcv_v ow_212.2.1 sh_217) (by unfold entl; rw [mx_212]; rfl) (by rw [mx_212]; exact Nat.le_of_ble_eq_true rfl) rfl ?_
  unfold tdV
  by_cases hx3 : x < 3
  · rw [if_pos hx3]
    have hv : M 218 x = if x = 0 then b0 else if x = 1 then b1 else b2 := by
      rcases (show x = 0 ∨ x = 1 ∨ x = 2 by omega) with rfl | rfl | rfl
      · exact h0
      · exact h1
      · exact h2
    refine r_iload_n d_212_0 rfl ?_
    refine r_iconst d_212_1 rfl ?_
    refine r_icmp_ge (t := 14) d_212_2 rfl (fun hz => absurd hz (by omega)) (fun _ => ?_)
    refine r_aload_n d_212_5 rfl (by omega) ?_
    refine r_getc (ki := 0) d_212_6 q_212_7 rfl sh_217 fx_217_0 (by omega) ?_
    refine r_iload_n d_212_9 rfl ?_
    refine r_ialoadv d_212_10 sh_218 (by omega) (by omega) hv ?_
    refine r_goto (t := 42) d_212_11 rfl ?_
    refine r_iret d_212_42 rt_212 ?_
    exact ⟨rfl, rfl⟩
  · rw [if_neg hx3]
    refine r_iload_n d_212_0 rfl ?_
    refine r_iconst d_212_1 rfl ?_
    refine r_icmp_ge (t := 14) d_212_2 rfl (fun _ => ?_) (fun hz => absurd (by omega) hz)
    by_cases e3 : x = 3
    · rw [if_pos e3]
      refine r_iload_n d_212_14 rfl ?_
      refine r_iconst d_212_15 rfl ?_
      refine r_icmp_ne (t := 26) d_212_16 rfl (fun hz => absurd hz (by omega)) (fun _ => ?_)
      refine r_aload_n d_212_19 rfl (by omega) ?_
      refine r_getfv (ki := 13) d_212_20 q_212_165 rfl sh_217 h3 ?_
      refine r_goto (t := 42) d_212_23 rfl ?_
      refine r_iret d_212_42 rt_212 ?_
      exact ⟨rfl, rfl⟩
    · rw [if_neg e3]
      refine r_iload_n d_212_14 rfl ?_
      refine r_iconst d_212_15 rfl ?_
      refine r_icmp_ne (t := 26) d_212_16 rfl (fun _ => ?_) (fun hz => absurd e3 hz)
      by_cases e4 : x = 4
      · rw [if_pos e4]
        refine r_iload_n d_212_26 rfl ?_
        refine r_iconst d_212_27 rfl ?_
        refine r_icmp_ne (t := 38) d_212_28 rfl (fun hz => absurd hz (by omega)) (fun _ => ?_)
        refine r_aload_n d_212_31 rfl (by omega) ?_
        refine r_getfv (ki := 1) d_212_32 q_212_13 rfl sh_217 h4 ?_
        refine r_goto (t := 42) d_212_35 rfl ?_
        refine r_iret d_212_42 rt_212 ?_
        exact ⟨rfl, rfl⟩
      · rw [if_neg e4]
        refine r_iload_n d_212_26 rfl ?_
        refine r_iconst d_212_27 rfl ?_
        refine r_icmp_ne (t := 38) d_212_28 rfl (fun _ => ?_) (fun hz => absurd e4 hz)
        refine r_aload_n d_212_38 rfl (by omega) ?_
        refine r_getfv (ki := 31) d_212_39 q_212_276 rfl sh_217 h5 ?_
        refine r_iret d_212_42 rt_212 ?_
        exact ⟨rfl, rfl⟩
theorem m_told_bad (M : Mo) (hb : cb M) {x : Int} (h : ¬ (0 ≤ x ∧ x ≤ 5)) : PJ 213 [(2, 217), (0, x)] M (-2) (up2 M 218 0 (M 218 0 + 1)) := by
  refine Cl.intro (L := [(2, 217), (0, x)]) (rcv_v ow_213.2.1 sh_217) (by unfold entl; rw [mx_213]; rfl) (by rw [mx_213]; exact Nat.le_of_ble_eq_true rfl) rfl ?_
  have hbad := m_bad M (hb 0 (by omega) (by omega))
  refine r_iload_n d_213_0 rfl ?_
  refine r_iconst d_213_1 rfl ?_
  refine r_iconst d_213_2 rfl ?_
  refine r_callsp d_213_3 q_213_118 rfl rfl (m_in M x 0 5) ?_
  rw [if_neg h]
  refine r_if_eq (t := 17) d_213_6 rfl (fun _ => ?_) (fun hz => absurd (by decide) hz)
  refine r_aload_n d_213_17 rfl (by omega) ?_
  refine r_callvj d_213_18 q_213_172 rfl rfl hbad ?_
  refine r_iret d_213_21 rt_213 ?_
  exact ⟨rfl, rfl⟩
theorem m_told {M : Mo} {b0 b1 b2 p : Int} {h L : Nat} (h0 : M 218 0 = b0) (h1 : M 218 1 = b1) (h2 : M 218 2 = b2) (h3 : M 217 13 = h) (h4 : M 217 1 = p) (h5 : M 217 31 = L) {x : Int} (hx : 0 ≤ x ∧ x ≤ 5) : PI 213 [(2, 217), (0, x)] M (tdV b0 b1 b2 h p L x) := by
  refine Cl.intro (L := [(2, 217), (0, x)]) (rcv_v ow_213.2.1 sh_217) (by unfold entl; rw [mx_213]; rfl) (by rw [mx_213]; exact Nat.le_of_ble_eq_true rfl) rfl ?_
  refine r_iload_n d_213_0 rfl ?_
  refine r_iconst d_213_1 rfl ?_
  refine r_iconst d_213_2 rfl ?_
  refine r_callsp d_213_3 q_213_118 rfl rfl (m_in M x 0 5) ?_
  rw [if_pos hx]
  refine r_if_eq (t := 17) d_213_6 rfl (fun hz => absurd hz (by decide)) (fun _ => ?_)
  refine r_aload_n d_213_9 rfl (by omega) ?_
  refine r_iload_n d_213_10 rfl ?_
  refine r_callvp d_213_11 q_213_312 rfl rfl (m_toldBy h0 h1 h2 h3 h4 h5 hx) ?_
  refine r_goto (t := 21) d_213_14 rfl ?_
  refine r_iret d_213_21 rt_213 ?_
  exact ⟨rfl, rfl⟩
/-! digests -/
def dgs (h x : Int) : Int := lw (lw (31 * h) + x)
def fd (f : Nat → Int) (h : Int) : Nat → Int
  | 0 => h
  | m + 1 => dgs (fd f h m) (f m)
def fdM (s : Sst) (k : Nat) (h : Int) : Int := fd (fun c => s.2.2 k (c / (s.2.1 k * s.2.1 k)) (c % (s.2.1 k * s.2.1 k) / s.2.1 k) (c % (s.2.1 k * s.2.1 k) % s.2.1 k)) (dgs h (s.2.1 k)) (2 * (s.2.1 k * s.2.1 k))
def fdA (s : Sst) (h : Int) : Nat → Int
  | 0 => h
  | k + 1 => fdM s k (fdA s h k)
theorem lw_id {x : Int} (h : -9223372036854775808 ≤ x ∧ x < 9223372036854775808) : lw x = x := lw_eq h
theorem m_digest {M : Mo} {s : Sst} (hv : vs s) (hc : cu M s) {l : Nat} {w : Nat → Int} (hw : Wd M l w) {b0 b1 b2 : Int} {h L : Nat} (h0 : M 218 0 = b0) (h1 : M 218 1 = b1) (h2 : M 218 2 = b2) (h3 : M 217 13 = h) (h5 : M 217 31 = L) : CL 214 [(2, 217)] M (fun z M' => z = fd (fun a => vl (wrow (s.2.1 0) (mdA s 0) w l (a / s.2.1 0) (a % s.2.1 0))) (fdA s (fd (fun x => tdV b0 b1 b2 h (pI s.1) L x) 1562 6) 4) (s.2.1 0 * s.2.1 0) ∧ Fr W1 M M') := by
  refine Cl.intro (L := [(2, 217), (9, 0), (9, 0), (9, 0), (9, 0), (9, 0), (9, 0)]) (rcv_v ow_214.2.1 sh_217) (by unfold entl; rw [mx_214]; rfl) (by rw [mx_214]; exact Nat.le_of_ble_eq_true rfl) rfl ?_
  refine r_ldc2_w d_214_0 q_214_315 ?_
  refine r_lstore_n d_214_3 rfl (stw_7_1 rfl rfl) ?_
  refine r_iconst d_214_4 rfl ?_
  refine r_istore_n d_214_5 rfl (stl_7_3 rfl rfl) ?_
  refine dn_ind (R := fun x => ∀ y : AV, Rn 214 6 [(2, 217), (1, fd (fun x => tdV b0 b1 b2 h (pI s.1) L x) 1562 x.toNat), (9, 0), (0, x), (9, 0), (9, 0), y] [] M _) (lo := 0) (n := 6) ?_ ?_ 0 (by omega) (by omega) _
  · intro y
    rw [show Int.toNat 6 = 6 from rfl]
    generalize fd (fun x => tdV b0 b1 b2 h (pI s.1) L x) 1562 6 = H0
    refine r_iload_n d_214_6 rfl ?_
    refine r_bipush d_214_7 rfl ?_
    refine r_icmp_ge (t := 31) d_214_9 rfl (fun _ => ?_) (fun hz => absurd (by omega) hz)
    refine r_iconst d_214_31 rfl ?_
    refine r_istore_n d_214_32 rfl (stl_7_3 rfl rfl) ?_
    refine dn_ind (R := fun k => ∀ y4 y5 y6 : AV, Rn 214 33 [(2, 217), (1, fdA s H0 k.toNat), (9, 0), (0, k), y4, y5, y6] [] M _) (lo := 0) (n := 4) ?_ ?_ 0 (by omega) (by omega) _ _ _
    · intro y4 y5 y6
      rw [show Int.toNat 4 = 4 from rfl]
      generalize fdA s H0 4 = H1
      have h6 := vs_6 hv (k := 0) (by omega)
      have hn1 := (hv.2 0 (by omega)).1
      refine r_iload_n d_214_33 rfl ?_
      refine r_iconst d_214_34 rfl ?_
      refine r_icmp_ge (t := 128) d_214_35 rfl (fun _ => ?_) (fun hz => absurd (by omega) hz)
      refine r_aload_n d_214_128 rfl (by omega) ?_
      refine r_iconst d_214_129 rfl ?_
      refine r_callvr d_214_130 q_214_297 rfl rfl (m_tellsWord hv.1 M hc.1 (k := 0) (by omega) (hc.MM (k := 0) hv (by omega)) hw) (fun M1 hM1 => ?_)
      obtain ⟨hF1, hr⟩ := hM1
      have hr2 : rws (s.2.1 0) (M1 244) (wrow (s.2.1 0) (mdA s 0) w l) := hr
      have hsz : M1 219 0 = (s.2.1 0 : Nat) := (hF1 _ _ (by unfold W1; omega)).trans (hc.2 0 (by omega)).1
      generalize mdA s 0 = A at *
      generalize s.2.1 0 = n at *
      generalize wrow n A w l = W at *
      have hnn : (n : Int) * (n : Int) = ((n * n : Nat) : Int) := (Int.natCast_mul n n).symm
      have hnn36 : n * n ≤ 36 := Nat.mul_le_mul h6 h6
      refine r_aload_n d_214_133 rfl (by omega) ?_
      refine r_getc (ki := 2) d_214_134 q_214_17 rfl sh_217 fx_217_2 (by omega) ?_
      refine r_iconst d_214_137 rfl ?_
      refine r_ialoadv d_214_138 sh_219 (by omega) (by omega) hsz ?_
      refine r_istore_n d_214_139 rfl (stl_7_3 rfl rfl) ?_
      refine r_iconst d_214_140 rfl ?_
      refine r_istore d_214_141 rfl (stl_7_4 rfl rfl) ?_
      refine dn_ind (R := fun a => Rn 214 143 [(2, 217), (1, fd (fun a => vl (W (a / n) (a % n))) H1 a.toNat), (9, 0), (0, (n : Int)), (0, a), y5, y6] [] M1 _) (lo := 0) (n := ((n * n : Nat) : Int)) ?_ ?_ 0 (by omega) (by omega)
      · rw [Int.toNat_natCast]
        refine r_iload d_214_143 rfl ?_
        refine r_iload_n d_214_145 rfl ?_
        refine r_iload_n d_214_146 rfl ?_
        refine r_imul d_214_147 (mr (a := 6) (b := 6) (by omega) (by omega) (by decide)) ?_
        rw [hnn]
        refine r_icmp_ge (t := 182) d_214_148 rfl (fun _ => ?_) (fun hz => absurd (by omega) hz)
        refine r_lload_n d_214_182 rfl ?_
        refine r_lret d_214_183 rt_214 ?_
        exact ⟨_, rfl, rfl, hF1⟩
      · intro a a1 a2 ih
        obtain ⟨i, j, d1, d2, d3, d4, d5⟩ := adec hn1 a1 a2
        have hij : a.toNat / n = i ∧ a.toNat % n = j := by
          rw [d5]
          exact ⟨by rw [Nat.mul_comm, Nat.mul_add_div hn1, Nat.div_eq_of_lt d4, Nat.add_zero], by rw [Nat.mul_comm, Nat.mul_add_mod, Nat.mod_eq_of_lt d4]⟩
        refine r_iload d_214_143 rfl ?_
        refine r_iload_n d_214_145 rfl ?_
        refine r_iload_n d_214_146 rfl ?_
        refine r_imul d_214_147 (mr (a := 6) (b := 6) (by omega) (by omega) (by decide)) ?_
        rw [hnn]
        refine r_icmp_ge (t := 182) d_214_148 rfl (fun hz => absurd hz (by omega)) (fun _ => ?_)
        refine r_ldc2_w d_214_151 q_214_317 ?_
        refine r_lload_n d_214_154 rfl ?_
        refine r_lmulw d_214_155 ?_
        refine r_aload_n d_214_156 rfl (by omega) ?_
        refine r_getc (ki := 34) d_214_157 q_214_98 rfl sh_217 fx_217_34 (by omega) ?_
        refine r_bipush d_214_160 rfl ?_
        refine r_iload d_214_162 rfl ?_
        refine r_iload_n d_214_164 rfl ?_
        refine r_idivn d_214_165 (by omega) (by omega) ?_
        rw [d1]
        refine r_imul d_214_166 (by omega) ?_
        refine r_iload d_214_167 rfl ?_
        refine r_iload_n d_214_169 rfl ?_
        refine r_iremn d_214_170 (by omega) (by omega) ?_
        rw [d2]
        refine r_iadd d_214_171 (by omega) ?_
        refine r_ialoadv d_214_172 sh_244 (by omega) (by omega) (hr2.2 i j d3 d4) ?_
        refine r_i2l d_214_173 ?_
        refine r_laddw d_214_174 ?_
        refine r_lstore_n d_214_175 rfl (stw_7_1 rfl rfl) ?_
        refine r_iinc d_214_176 rfl (by omega) (stl_7_4 rfl rfl) ?_
        refine r_goto (t := 143) d_214_179 rfl ?_
        have hn2 : fd (fun a => vl (W (a / n) (a % n))) H1 (a + 1).toNat = dgs (fd (fun a => vl (W (a / n) (a % n))) H1 a.toNat) (vl (W i j)) := by
          rw [show (a + 1).toNat = a.toNat + 1 by omega]
          show dgs _ (vl (W (a.toNat / n) (a.toNat % n))) = _
          rw [hij.1, hij.2]
        rw [hn2] at ih
        exact ih
    · intro k k1 k2 ih y4 y5 y6
      have h6 := vs_6 hv (k := k.toNat) (by omega)
      have hn1 := (hv.2 k.toNat (by omega)).1
      have hcu := hc.2 k.toNat (by omega)
      rw [show ((k.toNat : Nat) : Int) = k by omega] at hcu
      have hfdA : fdA s H0 (k + 1).toNat = fdM s k.toNat (fdA s H0 k.toNat) := by
        rw [show (k + 1).toNat = k.toNat + 1 by omega]
        rfl
      have hih := ih
      rw [hfdA] at hih
      unfold fdM at hih
      generalize fdA s H0 k.toNat = H1 at *
      generalize s.2.1 k.toNat = n at *
      generalize s.2.2 k.toNat = X at *
      have hnn : (n : Int) * (n : Int) = ((n * n : Nat) : Int) := (Int.natCast_mul n n).symm
      have h2nn : 2 * (n : Int) * (n : Int) = ((2 * (n * n) : Nat) : Int) := by
        rw [Int.mul_assoc, hnn]
        omega
      have hnn36 : n * n ≤ 36 := Nat.mul_le_mul h6 h6
      have hnn1 : 1 ≤ n * n := Nat.mul_le_mul hn1 hn1
      refine r_iload_n d_214_33 rfl ?_
      refine r_iconst d_214_34 rfl ?_
      refine r_icmp_ge (t := 128) d_214_35 rfl (fun hz => absurd hz (by omega)) (fun _ => ?_)
      refine r_aload_n d_214_38 rfl (by omega) ?_
      refine r_getc (ki := 2) d_214_39 q_214_17 rfl sh_217 fx_217_2 (by omega) ?_
      refine r_iload_n d_214_42 rfl ?_
      refine r_ialoadv d_214_43 sh_219 (by omega) (by omega) hcu.1 ?_
      refine r_istore d_214_44 rfl (stl_7_4 rfl rfl) ?_
      refine r_ldc2_w d_214_46 q_214_317 ?_
      refine r_lload_n d_214_49 rfl ?_
      refine r_lmulw d_214_50 ?_
      refine r_iload d_214_51 rfl ?_
      refine r_i2l d_214_53 ?_
      refine r_laddw d_214_54 ?_
      refine r_lstore_n d_214_55 rfl (stw_7_1 rfl rfl) ?_
      refine r_iconst d_214_56 rfl ?_
      refine r_istore d_214_57 rfl (stl_7_5 rfl rfl) ?_
      refine dn_ind (R := fun c => ∀ y6 : AV, Rn 214 59 [(2, 217), (1, fd (fun c => X (c / (n * n)) (c % (n * n) / n) (c % (n * n) % n)) (dgs H1 n) c.toNat), (9, 0), (0, k), (0, (n : Int)), (0, c), y6] [] M _) (lo := 0) (n := ((2 * (n * n) : Nat) : Int)) ?_ ?_ 0 (by omega) (by omega) _
      · intro y6
        rw [Int.toNat_natCast]
        refine r_iload d_214_59 rfl ?_
        refine r_iconst d_214_61 rfl ?_
        refine r_iload d_214_62 rfl ?_
        refine r_imul d_214_64 (by omega) ?_
        refine r_iload d_214_65 rfl ?_
        refine r_imul d_214_67 (mr (a := 12) (b := 6) (by omega) (by omega) (by decide)) ?_
        rw [h2nn]
        refine r_icmp_ge (t := 122) d_214_68 rfl (fun _ => ?_) (fun hz => absurd (by omega) hz)
        refine r_iinc d_214_122 rfl (by omega) (stl_7_3 rfl rfl) ?_
        refine r_goto (t := 33) d_214_125 rfl ?_
        exact hih _ _ _
      · intro c c1 c2 ih2 y6
        obtain ⟨g, i, j, d1, d2, d3, d4, d5, d6, d7⟩ := cdec hn1 c1 c2
        have ec := cenc (n := n) (g := g) ⟨hn1, h6⟩ d5 d6
        rw [← d7] at ec
        have hcell := hcu.2 g i j d4 d5 d6
        refine r_iload d_214_59 rfl ?_
        refine r_iconst d_214_61 rfl ?_
        refine r_iload d_214_62 rfl ?_
        refine r_imul d_214_64 (by omega) ?_
        refine r_iload d_214_65 rfl ?_
        refine r_imul d_214_67 (mr (a := 12) (b := 6) (by omega) (by omega) (by decide)) ?_
        rw [h2nn]
        refine r_icmp_ge (t := 122) d_214_68 rfl (fun hz => absurd hz (by omega)) (fun _ => ?_)
        refine r_iload d_214_71 rfl ?_
        refine r_iload d_214_73 rfl ?_
        refine r_iload d_214_75 rfl ?_
        refine r_imul d_214_77 (mr (a := 6) (b := 6) (by omega) (by omega) (by decide)) ?_
        rw [hnn]
        have hcm := Int.emod_nonneg c (show ((n * n : Nat) : Int) ≠ 0 by omega)
        have hcm2 := Int.emod_lt_of_pos c (show 0 < ((n * n : Nat) : Int) by omega)
        refine r_iremn d_214_78 (by omega) (by omega) ?_
        refine r_istore d_214_79 rfl (stl_7_6 rfl rfl) ?_
        refine r_ldc2_w d_214_81 q_214_317 ?_
        refine r_lload_n d_214_84 rfl ?_
        refine r_lmulw d_214_85 ?_
        refine r_aload_n d_214_86 rfl (by omega) ?_
        refine r_getc (ki := 3) d_214_87 q_214_20 rfl sh_217 fx_217_3 (by omega) ?_
        refine r_iload_n d_214_90 rfl ?_
        refine r_iload d_214_91 rfl ?_
        refine r_iload d_214_93 rfl ?_
        refine r_iload d_214_95 rfl ?_
        refine r_imul d_214_97 (mr (a := 6) (b := 6) (by omega) (by omega) (by decide)) ?_
        rw [hnn]
        refine r_idivn d_214_98 (by omega) (by omega) ?_
        refine r_iload d_214_99 rfl ?_
        refine r_iload d_214_101 rfl ?_
        refine r_idivn d_214_103 (by omega) (by omega) ?_
        refine r_iload d_214_104 rfl ?_
        refine r_iload d_214_106 rfl ?_
        refine r_iremn d_214_108 (by omega) (by omega) ?_
        rw [d1, d2, d3]
        refine r_callsp d_214_109 q_214_114 rfl rfl (m_cell _ k g i j (by omega) (by omega) (by omega) (by omega)) ?_
        refine r_ialoadv d_214_112 sh_220 (by omega) (by omega) hcell ?_
        refine r_i2l d_214_113 ?_
        refine r_laddw d_214_114 ?_
        refine r_lstore_n d_214_115 rfl (stw_7_1 rfl rfl) ?_
        refine r_iinc d_214_116 rfl (by omega) (stl_7_5 rfl rfl) ?_
        refine r_goto (t := 59) d_214_119 rfl ?_
        have hn2 : fd (fun c => X (c / (n * n)) (c % (n * n) / n) (c % (n * n) % n)) (dgs H1 n) (c + 1).toNat = dgs (fd (fun c => X (c / (n * n)) (c % (n * n) / n) (c % (n * n) % n)) (dgs H1 n) c.toNat) (X g i j) := by
          rw [show (c + 1).toNat = c.toNat + 1 by omega]
          show dgs _ (X (c.toNat / (n * n)) (c.toNat % (n * n) / n) (c.toNat % (n * n) % n)) = _
          rw [ec.1, ec.2.1, ec.2.2]
        rw [hn2] at ih2
        exact ih2 _
  · intro x x1 x2 ih y
    refine r_iload_n d_214_6 rfl ?_
    refine r_bipush d_214_7 rfl ?_
    refine r_icmp_ge (t := 31) d_214_9 rfl (fun hz => absurd hz (by omega)) (fun _ => ?_)
    refine r_ldc2_w d_214_12 q_214_317 ?_
    refine r_lload_n d_214_15 rfl ?_
    refine r_lmulw d_214_16 ?_
    refine r_aload_n d_214_17 rfl (by omega) ?_
    refine r_iload_n d_214_18 rfl ?_
    refine r_callvp d_214_19 q_214_312 rfl rfl (m_toldBy h0 h1 h2 h3 hc.1 h5 (by omega)) ?_
    refine r_i2l d_214_22 ?_
    refine r_laddw d_214_23 ?_
    refine r_lstore_n d_214_24 rfl (stw_7_1 rfl rfl) ?_
    refine r_iinc d_214_25 rfl (by omega) (stl_7_3 rfl rfl) ?_
    refine r_goto (t := 6) d_214_28 rfl ?_
    have hn2 : fd (fun x => tdV b0 b1 b2 h (pI s.1) L x) 1562 (x + 1).toNat = dgs (fd (fun x => tdV b0 b1 b2 h (pI s.1) L x) 1562 x.toNat) (tdV b0 b1 b2 h (pI s.1) L x) := by
      rw [show (x + 1).toNat = x.toNat + 1 by omega]
      show dgs _ (tdV b0 b1 b2 h (pI s.1) L (x.toNat : Nat)) = _
      rw [show ((x.toNat : Nat) : Int) = x by omega]
    rw [hn2] at ih
    exact ih _
