/-! The model: what the word is in a module. -/
def b36 (f : Int → Int) : Prop := ∀ c : Int, 0 ≤ c → c < 36 → 0 ≤ f c ∧ f c ≤ 2
def WD (M : Mo) (a b c : Int → Int) : Mo := sr (sr (sr M 244 a) 245 b) 246 c
theorem WD_self (M : Mo) : WD M (M 244) (M 245) (M 246) = M := by
  funext x y
  unfold WD sr
  by_cases h1 : x = 246
  · simp [h1]
  · by_cases h2 : x = 245
    · simp [h2]
    · by_cases h3 : x = 244
      · simp [h3]
      · simp [h1, h2, h3]
theorem WD_a {M : Mo} {a b c : Int → Int} {y : Int} : WD M a b c 244 y = a y := by simp [WD, sr]
theorem WD_b {M : Mo} {a b c : Int → Int} {y : Int} : WD M a b c 245 y = b y := by simp [WD, sr]
theorem WD_c {M : Mo} {a b c : Int → Int} {y : Int} : WD M a b c 246 y = c y := by simp [WD, sr]
theorem WD_o {M : Mo} {a b c : Int → Int} {x y : Int} (hx : x ≠ 244 ∧ x ≠ 245 ∧ x ≠ 246) : WD M a b c x y = M x y := by simp [WD, sr, hx]
theorem WD_ua {M : Mo} {a b c : Int → Int} {i v : Int} : up2 (WD M a b c) 244 i v = WD M (u1 a i v) b c := by
  unfold WD
  rw [up_srn _ _ _ _ (by decide), up_srn _ _ _ _ (by decide), up_sr]
theorem WD_ub {M : Mo} {a b c : Int → Int} {i v : Int} : up2 (WD M a b c) 245 i v = WD M a (u1 b i v) c := by
  unfold WD
  rw [up_srn _ _ _ _ (by decide), up_sr]
theorem WD_uc {M : Mo} {a b c : Int → Int} {i v : Int} : up2 (WD M a b c) 246 i v = WD M a b (u1 c i v) := by
  unfold WD
  rw [up_sr]
theorem WD_fr {M : Mo} {a b c : Int → Int} : Fr W1 M (WD M a b c) := fun x y hn => by
  unfold W1 at hn
  exact WD_o (by omega)
/-- rows in a 6 by 6 array -/
def rws {e : Nat} (n : Nat) (f : Int → Int) (ν : Nat → Vc e) : Prop := b36 f ∧ ∀ i j : Nat, i < n → j < n → f (6 * i + j) = vl (ν i j)
theorem m_beginsTerm {e : Nat} (M : Mo) (n : Nat) (hn : n ≤ 6) (a b c : Int → Int) : CV 201 [(2, 217)] (WD M a b c) (fun M' => ∃ b', M' = WD M a b' c ∧ rws (e := e) n b' un) := by
  refine Cl.intro (L := [(2, 217), (9, 0)]) (rcv_v ow_201.2.1 sh_217) (by unfold entl; rw [mx_201]; rfl) (by rw [mx_201]; exact Nat.le_of_ble_eq_true rfl) rfl ?_
  refine r_iconst d_201_0 rfl ?_
  refine r_istore_n d_201_1 rfl (stl_2_1 rfl rfl) ?_
  refine dn_ind (R := fun k => ∀ b : Int → Int, (∀ x : Int, 0 ≤ x → x < k → b x = if x / 6 = x % 6 then 1 else 0) → Rn 201 2 [(2, 217), (0, k)] [] (WD M a b c) _) (lo := 0) (n := 36) ?_ ?_ 0 (by omega) (by omega) b (fun x h1 h2 => by omega)
  · intro b hb
    refine r_iload_n d_201_2 rfl ?_
    refine r_bipush d_201_3 rfl ?_
    refine r_icmp_ge (t := 36) d_201_5 rfl (fun _ => ?_) (fun hz => absurd (by omega) hz)
    refine r_vret d_201_36 rt_201 ?_
    refine ⟨rfl, b, rfl, fun x h1 h2 => ?_, fun i j h1 h2 => ?_⟩
    · rw [hb x h1 h2]
      split <;> omega
    · rw [hb _ (by omega) (by omega)]
      unfold un
      by_cases hij : j = i
      · rw [if_pos (by omega), if_pos hij, vl_1]
      · rw [if_neg (by omega), if_neg hij, vl_0]
  · intro k k1 k2 ih b hb
    refine r_iload_n d_201_2 rfl ?_
    refine r_bipush d_201_3 rfl ?_
    refine r_icmp_ge (t := 36) d_201_5 rfl (fun hz => absurd hz (by omega)) (fun _ => ?_)
    refine r_aload_n d_201_8 rfl (by omega) ?_
    refine r_getc (ki := 35) d_201_9 q_201_101 rfl sh_217 fx_217_35 (by omega) ?_
    refine r_iload_n d_201_12 rfl ?_
    refine r_iload_n d_201_13 rfl ?_
    refine r_bipush d_201_14 rfl ?_
    refine r_idivn d_201_16 (by omega) (by omega) ?_
    refine r_iload_n d_201_17 rfl ?_
    refine r_bipush d_201_18 rfl ?_
    refine r_iremn d_201_20 (by omega) (by omega) ?_
    by_cases hq : k / 6 = k % 6
    · refine r_icmp_ne (t := 28) d_201_21 rfl (fun hz => absurd hz (by omega)) (fun _ => ?_)
      refine r_iconst d_201_24 rfl ?_
      refine r_goto (t := 29) d_201_25 rfl ?_
      refine r_iastore d_201_29 sh_245 (by omega) (by omega) ?_
      rw [WD_ub]
      refine r_iinc d_201_30 rfl (by omega) (stl_2_1 rfl rfl) ?_
      refine r_goto (t := 2) d_201_33 rfl ?_
      refine ih _ (fun x h1 h2 => ?_)
      by_cases hx : x = k
      · rw [hx, u1_eq, if_pos hq]
      · rw [u1_ne _ _ hx]
        exact hb x h1 (by omega)
    · refine r_icmp_ne (t := 28) d_201_21 rfl (fun _ => ?_) (fun hz => absurd hq hz)
      refine r_iconst d_201_28 rfl ?_
      refine r_iastore d_201_29 sh_245 (by omega) (by omega) ?_
      rw [WD_ub]
      refine r_iinc d_201_30 rfl (by omega) (stl_2_1 rfl rfl) ?_
      refine r_goto (t := 2) d_201_33 rfl ?_
      refine ih _ (fun x h1 h2 => ?_)
      by_cases hx : x = k
      · rw [hx, u1_eq, if_neg hq]
      · rw [u1_ne _ _ hx]
        exact hb x h1 (by omega)
theorem m_endsTerm {e : Nat} (he : e ≤ 1) (M : Mo) (hp : M 217 1 = pI e) {n : Nat} (hn : n ≤ 6) {a b c : Int → Int} {σ ν : Nat → Vc e} (ha : rws n a σ) (hb : rws n b ν) {o : Int} (ho : 0 ≤ o ∧ o ≤ 2) : CV 203 [(2, 217), (0, o)] (WD M a b c) (fun M' => ∃ a', M' = WD M a' b c ∧ rws n a' (fun i => lc (σ i) (kI e o) (ν i))) := by
  refine Cl.intro (L := [(2, 217), (0, o), (9, 0)]) (rcv_v ow_203.2.1 sh_217) (by unfold entl; rw [mx_203]; rfl) (by rw [mx_203]; exact Nat.le_of_ble_eq_true rfl) rfl ?_
  have h23 := pI23 he
  have hpb := h23.b
  refine r_iconst d_203_0 rfl ?_
  refine r_istore_n d_203_1 rfl (stl_3_2 rfl rfl) ?_
  refine dn_ind (R := fun k => ∀ a' : Int → Int, (∀ x : Int, k ≤ x → a' x = a x) → (∀ x : Int, 0 ≤ x → x < k → a' x = (a x + o * b x) % pI e) → Rn 203 2 [(2, 217), (0, o), (0, k)] [] (WD M a' b c) _) (lo := 0) (n := 36) ?_ ?_ 0 (by omega) (by omega) a (fun x h1 => rfl) (fun x h1 h2 => by omega)
  · intro a' h1 h2
    refine r_iload_n d_203_2 rfl ?_
    refine r_bipush d_203_3 rfl ?_
    refine r_icmp_ge (t := 40) d_203_5 rfl (fun _ => ?_) (fun hz => absurd (by omega) hz)
    refine r_vret d_203_40 rt_203 ?_
    refine ⟨rfl, a', rfl, fun x h3 h4 => ?_, fun i j h3 h4 => ?_⟩
    · rw [h2 x h3 h4]
      have := emb (x := a x + o * b x) h23
      omega
    · rw [h2 _ (by omega) (by omega), ha.2 i j h3 h4, hb.2 i j h3 h4]
      unfold lc
      have h9 : o % pI e * vl (ν i j) % pI e = o * vl (ν i j) % pI e := by rw [Int.mul_emod, Int.emod_emod, ← Int.mul_emod]
      rw [vl_add, vl_mul, vl_kI, h9, Int.add_emod_emod]
  · intro k k1 k2 ih a' h1 h2
    have hak := ha.1 k k1 k2
    have hbk := hb.1 k k1 k2
    have hm := mb (a := 2) (b := 2) (x := o) (y := b k) ho hbk
    refine r_iload_n d_203_2 rfl ?_
    refine r_bipush d_203_3 rfl ?_
    refine r_icmp_ge (t := 40) d_203_5 rfl (fun hz => absurd hz (by omega)) (fun _ => ?_)
    refine r_aload_n d_203_8 rfl (by omega) ?_
    refine r_getc (ki := 34) d_203_9 q_203_98 rfl sh_217 fx_217_34 (by omega) ?_
    refine r_iload_n d_203_12 rfl ?_
    refine r_aload_n d_203_13 rfl (by omega) ?_
    refine r_getc (ki := 34) d_203_14 q_203_98 rfl sh_217 fx_217_34 (by omega) ?_
    refine r_iload_n d_203_17 rfl ?_
    refine r_ialoadv d_203_18 sh_244 (by omega) (by omega) (WD_a.trans (h1 k (Int.le_refl k))) ?_
    refine r_iload_n d_203_19 rfl ?_
    refine r_aload_n d_203_20 rfl (by omega) ?_
    refine r_getc (ki := 35) d_203_21 q_203_101 rfl sh_217 fx_217_35 (by omega) ?_
    refine r_iload_n d_203_24 rfl ?_
    refine r_ialoadv d_203_25 sh_245 (by omega) (by omega) WD_b ?_
    refine r_imul d_203_26 (by omega) ?_
    refine r_iadd d_203_27 (by omega) ?_
    refine r_aload_n d_203_28 rfl (by omega) ?_
    refine r_getfv (ki := 1) d_203_29 q_203_13 rfl sh_217 ((WD_o (by decide)).trans hp) ?_
    refine r_iremn d_203_32 (by omega) (by omega) ?_
    refine r_iastore d_203_33 sh_244 (by omega) (by omega) ?_
    rw [WD_ua]
    refine r_iinc d_203_34 rfl (by omega) (stl_3_2 rfl rfl) ?_
    refine r_goto (t := 2) d_203_37 rfl ?_
    refine ih _ (fun x q => ?_) (fun x q1 q2 => ?_)
    · rw [u1_ne _ _ (by omega)]
      exact h1 x (by omega)
    · by_cases hx : x = k
      · rw [hx, u1_eq]
      · rw [u1_ne _ _ hx]
        exact h2 x q1 (by omega)
theorem m_goesOn {e : Nat} (he : e ≤ 1) (M : Mo) (hp : M 217 1 = pI e) {k : Int} {n : Nat} {A : Nat → Nat → Nat → Kf e} (hk : 0 ≤ k ∧ k ≤ 10) (hM : MM e M k n A) {a b c : Int → Int} {ν : Nat → Vc e} (hb : rws n b ν) {g : Int} {gn : Nat} (hg : g = gn) (hg2 : gn < 2) : CV 202 [(2, 217), (0, k), (0, g)] (WD M a b c) (fun M' => ∃ b' c', M' = WD M a b' c' ∧ rws n b' (fun i => mv n (A gn) (ν i))) := by
  refine Cl.intro (L := [(2, 217), (0, k), (0, g), (9, 0), (9, 0), (9, 0), (9, 0), (9, 0)]) (rcv_v ow_202.2.1 sh_217) (by unfold entl; rw [mx_202]; rfl) (by rw [mx_202]; exact Nat.le_of_ble_eq_true rfl) rfl ?_
  have h23 := pI23 he
  have hpb := h23.b
  obtain ⟨hnn, hnb, hA⟩ := hM
  have hn6 : n ≤ 6 := by unfold nb at hnb; omega
  refine r_aload_n d_202_0 rfl (by omega) ?_
  refine r_getc (ki := 2) d_202_1 q_202_17 rfl sh_217 fx_217_2 (by omega) ?_
  refine r_iload_n d_202_4 rfl ?_
  refine r_ialoadv d_202_5 sh_219 (by omega) (by omega) ((WD_o ⟨by decide, by decide, by decide⟩).trans hnn) ?_
  refine r_istore_n d_202_6 rfl (stl_8_3 rfl rfl) ?_
  refine r_iconst d_202_7 rfl ?_
  refine r_istore d_202_8 rfl (stl_8_4 rfl rfl) ?_
  refine dn_ind (R := fun i => ∀ (c : Int → Int) (y5 y6 y7 : AV), (∀ i' j' : Nat, (i' : Int) < i → j' < n → c (6 * i' + j') = vl (mv n (A gn) (ν i') j')) → Rn 202 10 [(2, 217), (0, k), (0, g), (0, (n : Int)), (0, i), y5, y6, y7] [] (WD M a b c) _) (lo := 0) (n := (n : Int)) ?_ ?_ 0 (by omega) (by omega) c _ _ _ (fun i' j' h1 h2 => by omega)
  · intro c y5 y6 y7 hc
    refine r_iload d_202_10 rfl ?_
    refine r_iload_n d_202_12 rfl ?_
    refine r_icmp_ge (t := 108) d_202_13 rfl (fun _ => ?_) (fun hz => absurd (by omega) hz)
    refine r_iconst d_202_108 rfl ?_
    refine r_istore d_202_109 rfl (stl_8_4 rfl rfl) ?_
    refine dn_ind (R := fun x => ∀ b : Int → Int, (∀ x' : Int, 0 ≤ x' → x' < x → b x' = if x' / 6 < n ∧ x' % 6 < n then c x' else 0) → Rn 202 111 [(2, 217), (0, k), (0, g), (0, (n : Int)), (0, x), y5, y6, y7] [] (WD M a b c) _) (lo := 0) (n := 36) ?_ ?_ 0 (by omega) (by omega) b (fun x' h1 h2 => by omega)
    · intro b hb2
      refine r_iload d_202_111 rfl ?_
      refine r_bipush d_202_113 rfl ?_
      refine r_icmp_ge (t := 160) d_202_115 rfl (fun _ => ?_) (fun hz => absurd (by omega) hz)
      refine r_vret d_202_160 rt_202 ?_
      refine ⟨rfl, b, c, rfl, fun x h1 h2 => ?_, fun i j h1 h2 => ?_⟩
      · rw [hb2 x h1 h2]
        by_cases hq : x / 6 < n ∧ x % 6 < n
        · rw [if_pos hq]
          have := hc (x / 6).toNat (x % 6).toNat (by omega) (by omega)
          rw [show 6 * (((x / 6).toNat : Nat) : Int) + (((x % 6).toNat : Nat) : Int) = x by omega] at this
          rw [this]
          exact vl_b he _
        · rw [if_neg hq]
          omega
      · rw [hb2 _ (by omega) (by omega), if_pos (by omega)]
        exact hc i j (by omega) h2
    · intro x x1 x2 ih b hb2
      refine r_iload d_202_111 rfl ?_
      refine r_bipush d_202_113 rfl ?_
      refine r_icmp_ge (t := 160) d_202_115 rfl (fun hz => absurd hz (by omega)) (fun _ => ?_)
      refine r_aload_n d_202_118 rfl (by omega) ?_
      refine r_getc (ki := 35) d_202_119 q_202_101 rfl sh_217 fx_217_35 (by omega) ?_
      refine r_iload d_202_122 rfl ?_
      refine r_iload d_202_124 rfl ?_
      refine r_bipush d_202_126 rfl ?_
      refine r_idivn d_202_128 (by omega) (by omega) ?_
      refine r_iload_n d_202_129 rfl ?_
      have next : ∀ v : Int, v = (if x / 6 < n ∧ x % 6 < n then c x else 0) → Rn 202 153 [(2, 217), (0, k), (0, g), (0, (n : Int)), (0, x), y5, y6, y7] [(0, v), (0, x), (2, 245)] (WD M a b c) (fun v M' => v = none ∧ ∃ b' c', M' = WD M a b' c' ∧ rws n b' (fun i => mv n (A gn) (ν i))) := by
        intro v hvv
        refine r_iastore d_202_153 sh_245 (by omega) (by omega) ?_
        rw [WD_ub]
        refine r_iinc d_202_154 rfl (by omega) (stl_8_4 rfl rfl) ?_
        refine r_goto (t := 111) d_202_157 rfl ?_
        refine ih _ (fun x' q1 q2 => ?_)
        by_cases hx : x' = x
        · rw [hx, u1_eq, hvv]
        · rw [u1_ne _ _ hx]
          exact hb2 x' q1 (by omega)
      by_cases hq1 : x / 6 < n
      · refine r_icmp_ge (t := 152) d_202_130 rfl (fun hz => absurd hz (by omega)) (fun _ => ?_)
        refine r_iload d_202_133 rfl ?_
        refine r_bipush d_202_135 rfl ?_
        refine r_iremn d_202_137 (by omega) (by omega) ?_
        refine r_iload_n d_202_138 rfl ?_
        by_cases hq2 : x % 6 < n
        · refine r_icmp_ge (t := 152) d_202_139 rfl (fun hz => absurd hz (by omega)) (fun _ => ?_)
          refine r_aload_n d_202_142 rfl (by omega) ?_
          refine r_getc (ki := 36) d_202_143 q_202_104 rfl sh_217 fx_217_36 (by omega) ?_
          refine r_iload d_202_146 rfl ?_
          refine r_ialoadv d_202_148 sh_246 (by omega) (by omega) WD_c ?_
          refine r_goto (t := 153) d_202_149 rfl ?_
          exact next _ (if_pos ⟨hq1, hq2⟩).symm
        · refine r_icmp_ge (t := 152) d_202_139 rfl (fun _ => ?_) (fun hz => absurd (by omega) hz)
          refine r_iconst d_202_152 rfl ?_
          exact next _ (if_neg (fun q => hq2 q.2)).symm
      · refine r_icmp_ge (t := 152) d_202_130 rfl (fun _ => ?_) (fun hz => absurd (by omega) hz)
        refine r_iconst d_202_152 rfl ?_
        exact next _ (if_neg (fun q => hq1 q.1)).symm
  · intro i i1 i2 ih c y5 y6 y7 hc
    refine r_iload d_202_10 rfl ?_
    refine r_iload_n d_202_12 rfl ?_
    refine r_icmp_ge (t := 108) d_202_13 rfl (fun hz => absurd hz (by omega)) (fun _ => ?_)
    refine r_iconst d_202_16 rfl ?_
    refine r_istore d_202_17 rfl (stl_8_5 rfl rfl) ?_
    refine dn_ind (R := fun j => ∀ (c : Int → Int) (y6 y7 : AV), (∀ i' j' : Nat, (i' : Int) < i ∨ (i' : Int) = i ∧ (j' : Int) < j → j' < n → c (6 * i' + j') = vl (mv n (A gn) (ν i') j')) → Rn 202 19 [(2, 217), (0, k), (0, g), (0, (n : Int)), (0, i), (0, j), y6, y7] [] (WD M a b c) _) (lo := 0) (n := (n : Int)) ?_ ?_ 0 (by omega) (by omega) c _ _ (fun i' j' h1 h2 => hc i' j' (by omega) h2)
    · intro c y6 y7 hc
      refine r_iload d_202_19 rfl ?_
      refine r_iload_n d_202_21 rfl ?_
      refine r_icmp_ge (t := 102) d_202_22 rfl (fun _ => ?_) (fun hz => absurd (by omega) hz)
      refine r_iinc d_202_102 rfl (by omega) (stl_8_4 rfl rfl) ?_
      refine r_goto (t := 10) d_202_105 rfl ?_
      exact ih _ _ _ _ (fun i' j' h1 h2 => hc i' j' (by omega) h2)
    · intro j j1 j2 ih2 c y6 y7 hc
      have hjn : j.toNat < n := by omega
      refine r_iload d_202_19 rfl ?_
      refine r_iload_n d_202_21 rfl ?_
      refine r_icmp_ge (t := 102) d_202_22 rfl (fun hz => absurd hz (by omega)) (fun _ => ?_)
      refine r_iconst d_202_25 rfl ?_
      refine r_istore d_202_26 rfl (stl_8_6 rfl rfl) ?_
      refine r_iconst d_202_28 rfl ?_
      refine r_istore d_202_29 rfl (stl_8_7 rfl rfl) ?_
      refine dn_ind (R := fun l => ∀ x : Int, x = sm (fun l => vl (ν i.toNat l) * vl (A gn l j.toNat)) l.toNat → 0 ≤ x ∧ x ≤ 4 * l → Rn 202 31 [(2, 217), (0, k), (0, g), (0, (n : Int)), (0, i), (0, j), (0, x), (0, l)] [] (WD M a b c) _) (lo := 0) (n := (n : Int)) ?_ ?_ 0 (by omega) (by omega) 0 rfl (by omega)
      · intro x hx hxb
        have hxm : x % pI e = vl (mv n (A gn) (ν i.toNat) j.toNat) := by
          unfold mv
          rw [if_pos hjn, vl_sK (g := fun l => vl (ν i.toNat l) * vl (A gn l j.toNat)) (fun i _ => vl_mul _ _), hx]
          rfl
        refine r_iload d_202_31 rfl ?_
        refine r_iload_n d_202_33 rfl ?_
        refine r_icmp_ge (t := 76) d_202_34 rfl (fun _ => ?_) (fun hz => absurd (by omega) hz)
        refine r_aload_n d_202_76 rfl (by omega) ?_
        refine r_getc (ki := 36) d_202_77 q_202_104 rfl sh_217 fx_217_36 (by omega) ?_
        refine r_bipush d_202_80 rfl ?_
        refine r_iload d_202_82 rfl ?_
        refine r_imul d_202_84 (by omega) ?_
        refine r_iload d_202_85 rfl ?_
        refine r_iadd d_202_87 (by omega) ?_
        refine r_iload d_202_88 rfl ?_
        refine r_aload_n d_202_90 rfl (by omega) ?_
        refine r_getfv (ki := 1) d_202_91 q_202_13 rfl sh_217 ((WD_o (by decide)).trans hp) ?_
        refine r_iremn d_202_94 (by omega) (by omega) ?_
        rw [hxm]
        refine r_iastore d_202_95 sh_246 (by omega) (by omega) ?_
        rw [WD_uc]
        refine r_iinc d_202_96 rfl (by omega) (stl_8_5 rfl rfl) ?_
        refine r_goto (t := 19) d_202_99 rfl ?_
        refine ih2 _ _ _ (fun i' j' h1 h2 => ?_)
        by_cases hq : (i' : Int) = i ∧ (j' : Int) = j
        · rw [show 6 * (i' : Int) + j' = 6 * i + j by omega, u1_eq, show i' = i.toNat by omega, show j' = j.toNat by omega]
        · rw [u1_ne _ _ (by omega)]
          exact hc i' j' (by omega) h2
      · intro l l1 l2 ih3 x hx hxb
        have hbl := hb.2 i.toNat l.toNat (by omega) (by omega)
        rw [show ((i.toNat : Nat) : Int) = i by omega, show ((l.toNat : Nat) : Int) = l by omega] at hbl
        have hcell : WD M a b c 220 (72 * k + 36 * g + 6 * l + j) = vl (A gn l.toNat j.toNat) := by
          have := hA gn l.toNat j.toNat hg2 (by omega) hjn
          rw [show ((l.toNat : Nat) : Int) = l by omega, show ((j.toNat : Nat) : Int) = j by omega, ← hg] at this
          rw [WD_o ⟨by decide, by decide, by decide⟩]
          exact this
        have a1 := vl_b he (ν i.toNat l.toNat)
        have a2 := vl_b he (A gn l.toNat j.toNat)
        have a3 := mb a1 a2
        refine r_iload d_202_31 rfl ?_
        refine r_iload_n d_202_33 rfl ?_
        refine r_icmp_ge (t := 76) d_202_34 rfl (fun hz => absurd hz (by omega)) (fun _ => ?_)
        refine r_iload d_202_37 rfl ?_
        refine r_aload_n d_202_39 rfl (by omega) ?_
        refine r_getc (ki := 35) d_202_40 q_202_101 rfl sh_217 fx_217_35 (by omega) ?_
        refine r_bipush d_202_43 rfl ?_
        refine r_iload d_202_45 rfl ?_
        refine r_imul d_202_47 (by omega) ?_
        refine r_iload d_202_48 rfl ?_
        refine r_iadd d_202_50 (by omega) ?_
        refine r_ialoadv d_202_51 sh_245 (by omega) (by omega) (WD_b.trans hbl) ?_
        refine r_aload_n d_202_52 rfl (by omega) ?_
        refine r_getc (ki := 3) d_202_53 q_202_20 rfl sh_217 fx_217_3 (by omega) ?_
        refine r_iload_n d_202_56 rfl ?_
        refine r_iload_n d_202_57 rfl ?_
        refine r_iload d_202_58 rfl ?_
        refine r_iload d_202_60 rfl ?_
        refine r_callsp d_202_62 q_202_114 rfl rfl (m_cell _ k g l j (by omega) (by omega) (by omega) (by omega)) ?_
        refine r_ialoadv d_202_65 sh_220 (by omega) (by omega) hcell ?_
        refine r_imul d_202_66 (by omega) ?_
        refine r_iadd d_202_67 (by omega) ?_
        refine r_istore d_202_68 rfl (stl_8_6 rfl rfl) ?_
        refine r_iinc d_202_70 rfl (by omega) (stl_8_7 rfl rfl) ?_
        refine r_goto (t := 31) d_202_73 rfl ?_
        refine ih3 _ ?_ (by omega)
        rw [show (l + 1).toNat = l.toNat + 1 by omega, hx]
        rfl
