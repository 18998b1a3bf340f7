/-! The model: ways. -/
theorem kinj {m k l k' l' : Nat} (hm : 1 ≤ m ∧ m ≤ 6) (hl : l < m) (hl' : l' < m) (h : m * k + l = m * k' + l') : k = k' ∧ l = l' := by
  rcases (show m = 1 ∨ m = 2 ∨ m = 3 ∨ m = 4 ∨ m = 5 ∨ m = 6 by omega) with rfl | rfl | rfl | rfl | rfl | rfl <;> omega
theorem kbnd {m n k l : Nat} (hm : m ≤ 6) (hn : n ≤ 6) (hk : k < n) (hl : l < m) : m * k + l < 36 := by
  have : m * k ≤ 6 * 5 := Nat.mul_le_mul hm (by omega)
  omega
/-- the equation of an entry -/
def eqV {e : Nat} (n m : Nat) (X Y : Nat → Nat → Nat → Kf e) (g i j : Nat) : Vc e := fun c => if c < n * m then (if c % m = j then X g i (c / m) else 0) - (if c / m = i then Y g (c % m) j else 0) else 0
theorem eqV_sup {e n m : Nat} {X Y : Nat → Nat → Nat → Kf e} {g i j : Nat} : sup (n * m) (eqV n m X Y g i j) := fun c hc => by
  unfold eqV
  rw [if_neg (by omega)]
theorem vl_sub {e : Nat} (a b : Kf e) : vl (a - b) = (vl a + (pI e - vl b)) % pI e := by
  have h1 : a - b = a + kI e (pI e - vl b) := by
    rw [kI_neg]
    grind
  rw [h1, vl_add, vl_kI, Int.add_emod_emod]
theorem m_tellsEquation {e : Nat} (he : e ≤ 1) (M : Mo) (hp : M 217 1 = pI e) {x y : Int} {n m : Nat} {X Y : Nat → Nat → Nat → Kf e} (hx : 0 ≤ x ∧ x ≤ 10) (hy : 0 ≤ y ∧ y ≤ 10) (hX : MM e M x n X) (hY : MM e M y m Y) {g i j : Nat} (hg : g < 2) (hi : i < n) (hj : j < m) {q L D : Int → Int} : CV 186 [(2, 217), (0, x), (0, y), (0, (g : Int)), (0, (i : Int)), (0, (j : Int))] (NE M q L D) (fun M' => ∃ q', M' = NE M q' L D ∧ ∀ c : Nat, c < n * m → q' c = vl (eqV n m X Y g i j c)) := by
  refine Cl.intro (L := [(2, 217), (0, x), (0, y), (0, (g : Int)), (0, (i : Int)), (0, (j : Int)), (9, 0), (9, 0), (9, 0)]) (rcv_v ow_186.2.1 sh_217) (by unfold entl; rw [mx_186]; rfl) (by rw [mx_186]; exact Nat.le_of_ble_eq_true rfl) rfl ?_
  have h23 := pI23 he
  have hpb := h23.b
  have hp2 : ∀ a b c, NE M a b c 217 1 = pI e := fun a b c => (NE_o (by decide)).trans hp
  have hn6 : n ≤ 6 := by have := hX.2.1; unfold nb at this; omega
  have hm6 : m ≤ 6 := by have := hY.2.1; unfold nb at this; omega
  have hm1 : 1 ≤ m ∧ m ≤ 6 := by omega
  refine r_aload_n d_186_0 rfl (by omega) ?_
  refine r_getc (ki := 2) d_186_1 q_186_17 rfl sh_217 fx_217_2 (by omega) ?_
  refine r_iload_n d_186_4 rfl ?_
  refine r_ialoadv d_186_5 sh_219 (by omega) (by omega) ((NE_o ⟨by decide, by decide, by decide⟩).trans hX.1) ?_
  refine r_istore d_186_6 rfl (stl_9_6 rfl rfl) ?_
  refine r_aload_n d_186_8 rfl (by omega) ?_
  refine r_getc (ki := 2) d_186_9 q_186_17 rfl sh_217 fx_217_2 (by omega) ?_
  refine r_iload_n d_186_12 rfl ?_
  refine r_ialoadv d_186_13 sh_219 (by omega) (by omega) ((NE_o ⟨by decide, by decide, by decide⟩).trans hY.1) ?_
  refine r_istore d_186_14 rfl (stl_9_7 rfl rfl) ?_
  refine r_iconst d_186_16 rfl ?_
  refine r_istore d_186_17 rfl (stl_9_8 rfl rfl) ?_
  refine dn_ind (R := fun c => ∀ q : Int → Int, (∀ c' : Int, 0 ≤ c' → c' < c → q c' = 0) → Rn 186 19 [(2, 217), (0, x), (0, y), (0, (g : Int)), (0, (i : Int)), (0, (j : Int)), (0, (n : Int)), (0, (m : Int)), (0, c)] [] (NE M q L D) _) (lo := 0) (n := 36) ?_ ?_ 0 (by omega) (by omega) q (fun c' h1 h2 => by omega)
  · intro q hq
    refine r_iload d_186_19 rfl ?_
    refine r_bipush d_186_21 rfl ?_
    refine r_icmp_ge (t := 40) d_186_23 rfl (fun _ => ?_) (fun hz => absurd (by omega) hz)
    refine r_iconst d_186_40 rfl ?_
    refine r_istore d_186_41 rfl (stl_9_8 rfl rfl) ?_
    refine dn_ind (R := fun k => ∀ q : Int → Int, (∀ c : Int, 0 ≤ c → c < 36 → 0 ≤ q c ∧ q c ≤ 2 * k) → (∀ k' l : Nat, k' < n → l < m → q ((m * k' + l : Nat) : Int) = if l = j ∧ (k' : Int) < k then vl (X g i k') else 0) → Rn 186 43 [(2, 217), (0, x), (0, y), (0, (g : Int)), (0, (i : Int)), (0, (j : Int)), (0, (n : Int)), (0, (m : Int)), (0, k)] [] (NE M q L D) _) (lo := 0) (n := (n : Int)) ?_ ?_ 0 (by omega) (by omega) q (fun c h1 h2 => by rw [hq c h1 h2]; omega) (fun k' l h1 h2 => ?_)
    · intro q b1 b2
      refine r_iload d_186_43 rfl ?_
      refine r_iload d_186_45 rfl ?_
      refine r_icmp_ge (t := 86) d_186_47 rfl (fun _ => ?_) (fun hz => absurd (by omega) hz)
      refine r_iconst d_186_86 rfl ?_
      refine r_istore d_186_87 rfl (stl_9_8 rfl rfl) ?_
      refine dn_ind (R := fun l0 => ∀ q : Int → Int, (∀ c : Int, 0 ≤ c → c < 36 → 0 ≤ q c ∧ q c ≤ 12 + 3 * l0) → (∀ k' l : Nat, k' < n → l < m → q ((m * k' + l : Nat) : Int) = (if l = j then vl (X g i k') else 0) + if k' = i ∧ (l : Int) < l0 then pI e - vl (Y g l j) else 0) → Rn 186 89 [(2, 217), (0, x), (0, y), (0, (g : Int)), (0, (i : Int)), (0, (j : Int)), (0, (n : Int)), (0, (m : Int)), (0, l0)] [] (NE M q L D) _) (lo := 0) (n := (m : Int)) ?_ ?_ 0 (by omega) (by omega) q (fun c h1 h2 => by have := b1 c h1 h2; omega) (fun k' l h1 h2 => ?_)
      · intro q d1 d2
        refine r_iload d_186_89 rfl ?_
        refine r_iload d_186_91 rfl ?_
        refine r_icmp_ge (t := 137) d_186_93 rfl (fun _ => ?_) (fun hz => absurd (by omega) hz)
        refine r_iconst d_186_137 rfl ?_
        refine r_istore d_186_138 rfl (stl_9_8 rfl rfl) ?_
        refine dn_ind (R := fun c => ∀ q' : Int → Int, (∀ c' : Int, c ≤ c' → q' c' = q c') → (∀ c' : Int, 0 ≤ c' → c' < c → q' c' = q c' % pI e) → Rn 186 140 [(2, 217), (0, x), (0, y), (0, (g : Int)), (0, (i : Int)), (0, (j : Int)), (0, (n : Int)), (0, (m : Int)), (0, c)] [] (NE M q' L D) _) (lo := 0) (n := 36) ?_ ?_ 0 (by omega) (by omega) q (fun c' h1 => rfl) (fun c' h1 h2 => by omega)
        · intro q' f1 f2
          refine r_iload d_186_140 rfl ?_
          refine r_bipush d_186_142 rfl ?_
          refine r_icmp_ge (t := 167) d_186_144 rfl (fun _ => ?_) (fun hz => absurd (by omega) hz)
          refine r_vret d_186_167 rt_186 ?_
          refine ⟨rfl, q', rfl, fun c hc => ?_⟩
          have hk : c / m < n := Nat.div_lt_of_lt_mul (by rw [Nat.mul_comm]; exact hc)
          have hl : c % m < m := Nat.mod_lt _ (by omega)
          have hcd := Nat.div_add_mod c m
          have hc36 := kbnd hm6 hn6 hk hl
          rw [f2 c (by omega) (by omega)]
          have := d2 (c / m) (c % m) hk hl
          rw [hcd] at this
          rw [this]
          unfold eqV
          rw [if_pos hc, vl_sub]
          have e1 : vl (if c % m = j then X g i (c / m) else 0) = if c % m = j then vl (X g i (c / m)) else 0 := by
            split
            · rfl
            · exact vl_0
          have e2 : (if c / m = i ∧ ((c % m : Nat) : Int) < (m : Int) then pI e - vl (Y g (c % m) j) else 0) = if c / m = i then pI e - vl (Y g (c % m) j) else 0 := by
            by_cases hci : c / m = i
            · rw [if_pos ⟨hci, by omega⟩, if_pos hci]
            · rw [if_neg (fun q => hci q.1), if_neg hci]
          have e3 : vl (if c / m = i then Y g (c % m) j else 0) = if c / m = i then vl (Y g (c % m) j) else 0 := by
            split
            · rfl
            · exact vl_0
          rw [e1, e2, e3]
          generalize (if c % m = j then vl (X g i (c / m)) else 0) = a0
          by_cases hci : c / m = i
          · rw [if_pos hci, if_pos hci]
          · rw [if_neg hci, if_neg hci, Int.add_zero, Int.sub_zero, Int.add_emod_right]
        · intro c c1 c2 ih q' f1 f2
          have hqc := d1 c c1 c2
          refine r_iload d_186_140 rfl ?_
          refine r_bipush d_186_142 rfl ?_
          refine r_icmp_ge (t := 167) d_186_144 rfl (fun hz => absurd hz (by omega)) (fun _ => ?_)
          refine r_aload_n d_186_147 rfl (by omega) ?_
          refine r_getc (ki := 25) d_186_148 q_186_74 rfl sh_217 fx_217_25 (by omega) ?_
          refine r_iload d_186_151 rfl ?_
          refine r_dup2 d_186_153 rfl ?_
          refine r_ialoadv d_186_154 sh_237 (by omega) (by omega) (NE_a.trans (f1 c (Int.le_refl c))) ?_
          refine r_aload_n d_186_155 rfl (by omega) ?_
          refine r_getfv (ki := 1) d_186_156 q_186_13 rfl sh_217 (hp2 _ _ _) ?_
          refine r_iremn d_186_159 (by omega) (by omega) ?_
          refine r_iastore d_186_160 sh_237 (by omega) (by omega) ?_
          rw [NE_ua]
          refine r_iinc d_186_161 rfl (by omega) (stl_9_8 rfl rfl) ?_
          refine r_goto (t := 140) d_186_164 rfl ?_
          refine ih _ (fun c' h1 => ?_) (fun c' h1 h2 => ?_)
          · rw [u1_ne _ _ (by omega)]
            exact f1 c' (by omega)
          · by_cases hcc : c' = c
            · rw [hcc, u1_eq]
            · rw [u1_ne _ _ hcc]
              exact f2 c' h1 (by omega)
      · intro l0 l1 l2 ih q d1 d2
        have hcell := hY.2.2 g l0.toNat j hg (by omega) hj
        rw [show ((l0.toNat : Nat) : Int) = l0 by omega] at hcell
        have hmi : m * i ≤ 6 * 5 := Nat.mul_le_mul hm6 (by omega)
        have hidx : (m : Int) * (i : Int) = ((m * i : Nat) : Int) := (Int.natCast_mul m i).symm
        have hyb := vl_rng (Y g l0.toNat j)
        have hold := d2 i l0.toNat hi (by omega)
        rw [show ((m * i + l0.toNat : Nat) : Int) = ((m * i : Nat) : Int) + l0 by omega] at hold
        have hqb := d1 (((m * i : Nat) : Int) + l0) (by omega) (by omega)
        refine r_iload d_186_89 rfl ?_
        refine r_iload d_186_91 rfl ?_
        refine r_icmp_ge (t := 137) d_186_93 rfl (fun hz => absurd hz (by omega)) (fun _ => ?_)
        refine r_aload_n d_186_96 rfl (by omega) ?_
        refine r_getc (ki := 25) d_186_97 q_186_74 rfl sh_217 fx_217_25 (by omega) ?_
        refine r_iload d_186_100 rfl ?_
        refine r_iload d_186_102 rfl ?_
        refine r_imul d_186_104 (mr (a := 6) (b := 6) (by omega) (by omega) (by decide)) ?_
        rw [hidx]
        refine r_iload d_186_105 rfl ?_
        refine r_iadd d_186_107 (by omega) ?_
        refine r_dup2 d_186_108 rfl ?_
        refine r_ialoadv d_186_109 sh_237 (by omega) (by omega) NE_a ?_
        refine r_aload_n d_186_110 rfl (by omega) ?_
        refine r_getfv (ki := 1) d_186_111 q_186_13 rfl sh_217 (hp2 _ _ _) ?_
        refine r_aload_n d_186_114 rfl (by omega) ?_
        refine r_getc (ki := 3) d_186_115 q_186_20 rfl sh_217 fx_217_3 (by omega) ?_
        refine r_iload_n d_186_118 rfl ?_
        refine r_iload_n d_186_119 rfl ?_
        refine r_iload d_186_120 rfl ?_
        refine r_iload d_186_122 rfl ?_
        refine r_callsp d_186_124 q_186_114 rfl rfl (m_cell _ y g l0 j (by omega) (by omega) (by omega) (by omega)) ?_
        refine r_ialoadv d_186_127 sh_220 (by omega) (by omega) ((NE_o ⟨by decide, by decide, by decide⟩).trans hcell) ?_
        refine r_isub d_186_128 (by omega) ?_
        refine r_iadd d_186_129 (by omega) ?_
        refine r_iastore d_186_130 sh_237 (by omega) (by omega) ?_
        rw [NE_ua]
        refine r_iinc d_186_131 rfl (by omega) (stl_9_8 rfl rfl) ?_
        refine r_goto (t := 89) d_186_134 rfl ?_
        refine ih _ (fun c h1 h2 => ?_) (fun k' l h1 h2 => ?_)
        · by_cases hc : c = ((m * i : Nat) : Int) + l0
          · rw [hc, u1_eq]
            omega
          · rw [u1_ne _ _ hc]
            have := d1 c h1 h2
            omega
        · by_cases hq2 : k' = i ∧ l = l0.toNat
          · obtain ⟨rfl, rfl⟩ := hq2
            have e4 : (if k' = k' ∧ ((l0.toNat : Nat) : Int) < l0 then pI e - vl (Y g l0.toNat j) else 0) = 0 := if_neg (fun q => by omega)
            have e5 : (if k' = k' ∧ ((l0.toNat : Nat) : Int) < l0 + 1 then pI e - vl (Y g l0.toNat j) else 0) = pI e - vl (Y g l0.toNat j) := if_pos ⟨rfl, by omega⟩
            rw [show ((m * k' + l0.toNat : Nat) : Int) = ((m * k' : Nat) : Int) + l0 by omega, u1_eq, hold, e4, e5, Int.add_zero]
          · have hne : ((m * k' + l : Nat) : Int) ≠ ((m * i : Nat) : Int) + l0 := fun q => hq2 (kinj hm1 h2 (show l0.toNat < m by omega) (by omega))
            rw [u1_ne _ _ hne, d2 k' l h1 h2]
            congr 1
            by_cases hk : k' = i ∧ (l : Int) < l0
            · rw [if_pos hk, if_pos ⟨hk.1, by omega⟩]
            · rw [if_neg hk, if_neg (fun q => hk ⟨q.1, by have := fun q3 => hq2 ⟨q.1, q3⟩; omega⟩)]
      · rw [b2 k' l h1 h2, if_neg (fun q : k' = i ∧ (l : Int) < 0 => by omega), Int.add_zero]
        by_cases hlj : l = j
        · rw [if_pos ⟨hlj, by omega⟩, if_pos hlj]
        · rw [if_neg (fun q => hlj q.1), if_neg hlj]
    · intro k k1 k2 ih q b1 b2
      have hcell := hX.2.2 g i k.toNat hg hi (by omega)
      rw [show ((k.toNat : Nat) : Int) = k by omega] at hcell
      have hmk : m * k.toNat ≤ 6 * 5 := Nat.mul_le_mul hm6 (by omega)
      have hidx : (m : Int) * k = ((m * k.toNat : Nat) : Int) := by rw [Int.natCast_mul, show ((k.toNat : Nat) : Int) = k by omega]
      have hxb := vl_b he (X g i k.toNat)
      have hold := b2 k.toNat j (by omega) hj
      rw [show ((m * k.toNat + j : Nat) : Int) = ((m * k.toNat : Nat) : Int) + j by omega] at hold
      have hqb := b1 (((m * k.toNat : Nat) : Int) + j) (by omega) (by omega)
      refine r_iload d_186_43 rfl ?_
      refine r_iload d_186_45 rfl ?_
      refine r_icmp_ge (t := 86) d_186_47 rfl (fun hz => absurd hz (by omega)) (fun _ => ?_)
      refine r_aload_n d_186_50 rfl (by omega) ?_
      refine r_getc (ki := 25) d_186_51 q_186_74 rfl sh_217 fx_217_25 (by omega) ?_
      refine r_iload d_186_54 rfl ?_
      refine r_iload d_186_56 rfl ?_
      refine r_imul d_186_58 (mr (a := 6) (b := 6) (by omega) (by omega) (by decide)) ?_
      rw [hidx]
      refine r_iload d_186_59 rfl ?_
      refine r_iadd d_186_61 (by omega) ?_
      refine r_dup2 d_186_62 rfl ?_
      refine r_ialoadv d_186_63 sh_237 (by omega) (by omega) NE_a ?_
      refine r_aload_n d_186_64 rfl (by omega) ?_
      refine r_getc (ki := 3) d_186_65 q_186_20 rfl sh_217 fx_217_3 (by omega) ?_
      refine r_iload_n d_186_68 rfl ?_
      refine r_iload_n d_186_69 rfl ?_
      refine r_iload d_186_70 rfl ?_
      refine r_iload d_186_72 rfl ?_
      refine r_callsp d_186_74 q_186_114 rfl rfl (m_cell _ x g i k (by omega) (by omega) (by omega) (by omega)) ?_
      refine r_ialoadv d_186_77 sh_220 (by omega) (by omega) ((NE_o ⟨by decide, by decide, by decide⟩).trans hcell) ?_
      refine r_iadd d_186_78 (by omega) ?_
      refine r_iastore d_186_79 sh_237 (by omega) (by omega) ?_
      rw [NE_ua]
      refine r_iinc d_186_80 rfl (by omega) (stl_9_8 rfl rfl) ?_
      refine r_goto (t := 43) d_186_83 rfl ?_
      refine ih _ (fun c h1 h2 => ?_) (fun k' l h1 h2 => ?_)
      · by_cases hc : c = ((m * k.toNat : Nat) : Int) + j
        · rw [hc, u1_eq]
          omega
        · rw [u1_ne _ _ hc]
          have := b1 c h1 h2
          omega
      · by_cases hq2 : k' = k.toNat ∧ l = j
        · obtain ⟨rfl, rfl⟩ := hq2
          rw [show ((m * k.toNat + l : Nat) : Int) = ((m * k.toNat : Nat) : Int) + l by omega, u1_eq, hold, if_neg (fun q => by omega), if_pos ⟨rfl, by omega⟩]
          omega
        · have hne : ((m * k' + l : Nat) : Int) ≠ ((m * k.toNat : Nat) : Int) + j := fun q => hq2 (kinj hm1 h2 hj (by omega))
          rw [u1_ne _ _ hne, b2 k' l h1 h2]
          by_cases hk : l = j ∧ (k' : Int) < k
          · rw [if_pos hk, if_pos ⟨hk.1, by omega⟩]
          · rw [if_neg hk, if_neg (fun q => hk ⟨q.1, by have := fun q3 => hq2 ⟨q3, q.1⟩; omega⟩)]
    · have hb := kbnd hm6 hn6 h1 h2
      rw [hq _ (by omega) (by omega), if_neg (fun q => by omega)]
  · intro c c1 c2 ih q hq
    refine r_iload d_186_19 rfl ?_
    refine r_bipush d_186_21 rfl ?_
    refine r_icmp_ge (t := 40) d_186_23 rfl (fun hz => absurd hz (by omega)) (fun _ => ?_)
    refine r_aload_n d_186_26 rfl (by omega) ?_
    refine r_getc (ki := 25) d_186_27 q_186_74 rfl sh_217 fx_217_25 (by omega) ?_
    refine r_iload d_186_30 rfl ?_
    refine r_iconst d_186_32 rfl ?_
    refine r_iastore d_186_33 sh_237 (by omega) (by omega) ?_
    rw [NE_ua]
    refine r_iinc d_186_34 rfl (by omega) (stl_9_8 rfl rfl) ?_
    refine r_goto (t := 19) d_186_37 rfl ?_
    refine ih _ (fun c' h1 h2 => ?_)
    by_cases hc : c' = c
    · rw [hc, u1_eq]
    · rw [u1_ne _ _ hc]
      exact hq c' h1 (by omega)
