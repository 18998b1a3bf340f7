/-! The class: sizes and matrices (Action). -/
theorem uq_eq {M : Mo} {a i v : Int} : up2 M a i v a i = v := by simp [up2]
theorem uq_ne {M : Mo} {a i v x y : Int} (h : x ≠ a ∨ y ≠ i) : up2 M a i v x y = M x y := by
  unfold up2
  rw [if_neg (by omega)]
theorem sh_ne {a b : Int} {x y : Nat × Nat} (h1 : shp S0 a = x) (h2 : shp S0 b = y) (h : x ≠ y) : a ≠ b := fun q => h (by rw [← h1, ← h2, q])
theorem sh_pos {a : Int} {x : Nat × Nat} (h1 : shp S0 a = x) (h : x ≠ (99, 0)) : 0 ≤ a := by
  apply Classical.byContradiction
  intro q
  apply h
  rw [← h1]
  unfold shp
  rw [if_pos (by omega)]
theorem shA_pos {a : Int} (h : shp S0 a = (0, 3)) : 0 ≤ a := sh_pos h (by decide)
theorem shA_1 {a : Int} (h : shp S0 a = (0, 3)) : a ≠ 1 ∧ a + 1 ≠ 1 := ⟨sh_ne h sh_1 (by decide), sh_ne (shA1 h) sh_1 (by decide)⟩
theorem shA_AA {a b : Int} (h : shp S0 a = (0, 3)) (h2 : shp S0 b = (0, 3)) : a + 1 ≠ b ∧ b + 1 ≠ a := ⟨sh_ne (shA1 h) h2 (by decide), sh_ne (shA1 h2) h (by decide)⟩
def WA (a x y : Int) : Prop := (x = a ∧ y = 1) ∨ x = a + 1
section
variable {e : Nat}
/-- a row of a matrix, 0 outside of the size -/
def rv (n : Nat) (A : Nat → Nat → Nat → Kf e) (g i : Nat) : Vc e := fun j => if i < n ∧ j < n then A g i j else 0
def AA (e : Nat) (M : Mo) (a : Int) (n : Nat) (A : Nat → Nat → Nat → Kf e) : Prop := M a 1 = n ∧ nb e n ∧ ∀ g i : Nat, g < 2 → i < 6 → M (a + 1) (6 * g + i) = pv (rv n A g i)
theorem rv_sup {n : Nat} {A : Nat → Nat → Nat → Kf e} {g i : Nat} : sup n (rv n A g i) := fun j hj => by
  unfold rv
  rw [if_neg (by omega)]
theorem AA.n6 {M : Mo} {a : Int} {n : Nat} {A : Nat → Nat → Nat → Kf e} (h : AA e M a n A) : n ≤ 6 := by
  have := h.2.1
  unfold nb at this
  omega
theorem AA.fr {M M1 : Mo} {P : Int → Int → Prop} {a : Int} {n : Nat} {A : Nat → Nat → Nat → Kf e} (h : AA e M a n A) (hF : Fr P M M1) (hP : ∀ x y, WA a x y → ¬ P x y) : AA e M1 a n A := ⟨(hF _ _ (hP _ _ (Or.inl ⟨rfl, rfl⟩))).trans h.1, h.2.1, fun g i h1 h2 => (hF _ _ (hP _ _ (Or.inr rfl))).trans (h.2.2 g i h1 h2)⟩
theorem AA.congr {M : Mo} {a : Int} {n : Nat} {A B : Nat → Nat → Nat → Kf e} (h : AA e M a n A) (hB : ∀ g i j, g < 2 → i < n → j < n → A g i j = B g i j) : AA e M a n B := ⟨h.1, h.2.1, fun g i h1 h2 => by
  rw [h.2.2 g i h1 h2]
  refine pv_congr (fun j _ => ?_)
  unfold rv
  by_cases q : i < n ∧ j < n
  · rw [if_pos q, if_pos q, hB g i j h1 q.1 q.2]
  · rw [if_neg q, if_neg q]⟩
theorem c_elemV (he : e ≤ 1) (M : Mo) (w : Vc e) {i : Nat} (hi : i < 12) : PI 120 [(1, pv w), (0, (i : Int))] M (vl (w i)) := c_element M (dv he w) hi
theorem c_empties (M : Mo) {a : Int} (ha : shp S0 a = (0, 3)) {n : Int} : CV 1 [(2, a), (0, n)] M (fun M' => Fr (WA a) M M' ∧ M' a 1 = n ∧ ∀ c : Int, 0 ≤ c → c < 12 → M' (a + 1) c = 0) := by
  refine Cl.intro (L := [(2, a), (0, n), (9, 0)]) (rcv_v ow_1.2.1 ha) (by unfold entl; rw [mx_1]; rfl) (by rw [mx_1]; exact Nat.le_of_ble_eq_true rfl) rfl ?_
  have ha0 := shA_pos ha
  refine r_aload_n d_1_0 rfl (by omega) ?_
  refine r_iload_n d_1_1 rfl ?_
  refine r_putf (ki := 1) d_1_2 q_1_9 rfl ha (fxA1 ha) ?_
  refine r_iconst d_1_5 rfl ?_
  refine r_istore_n d_1_6 rfl (stl_3_2 rfl rfl) ?_
  refine dn_ind (R := fun i => ∀ f : Int → Int, (∀ c : Int, 0 ≤ c → c < i → f c = 0) → Rn 1 7 [(2, a), (0, n), (0, i)] [] (sr (up2 M a 1 n) (a + 1) f) _) (lo := 0) (n := 12) ?_ ?_ 0 (by omega) (by omega) (up2 M a 1 n (a + 1)) (fun c h1 h2 => by omega) |> (fun k => by rw [sr_self] at k; exact k)
  · intro f hf
    refine r_iload_n d_1_7 rfl ?_
    refine r_bipush d_1_8 rfl ?_
    refine r_icmp_ge (t := 26) d_1_10 rfl (fun _ => ?_) (fun hz => absurd (by omega) hz)
    refine r_vret d_1_26 rt_1 ?_
    refine ⟨rfl, fun x y hn => ?_, ?_, fun c h1 h2 => ?_⟩
    · unfold WA at hn
      rw [sr_ne _ _ (by omega), uq_ne (by omega)]
    · rw [sr_ne _ _ (by omega), uq_eq]
    · rw [sr_eq]
      exact hf c h1 h2
  · intro i i1 i2 ih f hf
    refine r_iload_n d_1_7 rfl ?_
    refine r_bipush d_1_8 rfl ?_
    refine r_icmp_ge (t := 26) d_1_10 rfl (fun hz => absurd hz (by omega)) (fun _ => ?_)
    refine r_aload_n d_1_13 rfl (by omega) ?_
    refine r_getc (ki := 2) d_1_14 q_1_15 rfl ha (fxA2 ha) (by omega) ?_
    refine r_iload_n d_1_17 rfl ?_
    refine r_lconst d_1_18 rfl ?_
    refine r_lastore d_1_19 (shA1 ha) (by omega) (by omega) ?_
    rw [up_sr]
    refine r_iinc d_1_20 rfl (by omega) (stl_3_2 rfl rfl) ?_
    refine r_goto (t := 7) d_1_23 rfl ?_
    refine ih _ (fun c h1 h2 => ?_)
    by_cases q : c = i
    · rw [q, u1_eq]
      rfl
    · rw [u1_ne _ _ q]
      exact hf c h1 (by omega)
theorem rv_zero {n g i : Nat} : pv (rv n (fun _ _ _ => (0 : Kf e)) g i) = 0 := by
  rw [← pv_z0 (e := e)]
  refine pv_congr (fun j _ => ?_)
  unfold rv
  split <;> rfl
theorem AA.zero {M : Mo} {a : Int} {n : Nat} (hn : nb e n) (h1 : M a 1 = n) (h2 : ∀ c : Int, 0 ≤ c → c < 12 → M (a + 1) c = 0) : AA e M a n (fun _ _ _ => 0) := ⟨h1, hn, fun g i hg hi => by rw [h2 _ (by omega) (by omega), rv_zero]⟩
theorem c_copies (M : Mo) {a b : Int} (ha : shp S0 a = (0, 3)) (hb : shp S0 b = (0, 3)) : CV 2 [(2, a), (2, b)] M (fun M' => Fr (WA a) M M' ∧ M' a 1 = M b 1 ∧ ∀ c : Int, 0 ≤ c → c < 12 → M' (a + 1) c = M (b + 1) c) := by
  refine Cl.intro (L := [(2, a), (2, b)]) (rcv_v ow_2.2.1 ha) (by unfold entl; rw [mx_2]; rfl) (by rw [mx_2]; exact Nat.le_of_ble_eq_true rfl) rfl ?_
  have ha0 := shA_pos ha
  have hb0 := shA_pos hb
  have hab := shA_AA ha hb
  refine r_aload_n d_2_0 rfl (by omega) ?_
  refine r_aload_n d_2_1 rfl (by omega) ?_
  refine r_getf (ki := 1) d_2_2 q_2_9 rfl hb ?_
  refine r_putf (ki := 1) d_2_5 q_2_9 rfl ha (fxA1 ha) ?_
  refine r_aload_n d_2_8 rfl (by omega) ?_
  refine r_getc (ki := 2) d_2_9 q_2_15 rfl hb (fxA2 hb) (by omega) ?_
  refine r_iconst d_2_12 rfl ?_
  refine r_aload_n d_2_13 rfl (by omega) ?_
  refine r_getc (ki := 2) d_2_14 q_2_15 rfl ha (fxA2 ha) (by omega) ?_
  refine r_iconst d_2_17 rfl ?_
  refine r_bipush d_2_18 rfl ?_
  refine r_acopy d_2_20 q_2_23 (by rw [ow_2.2.2]; rfl) (Or.inr rfl) (shA1 ha) (shA1 hb) (by omega) (by omega) (by omega) (by omega) (by omega) rfl ?_
  refine r_vret d_2_23 rt_2 ?_
  refine ⟨rfl, fun x y hn => ?_, ?_, fun c h1 h2 => ?_⟩
  · unfold WA at hn
    unfold cp2
    rw [if_neg (by omega), uq_ne (by omega)]
  · unfold cp2
    rw [if_neg (by omega), uq_eq]
  · unfold cp2
    rw [if_pos ⟨rfl, by omega, by omega⟩, uq_ne (by omega)]
    congr 1
    omega
theorem AA.copy {M M' : Mo} {a b : Int} {n : Nat} {A : Nat → Nat → Nat → Kf e} (h : AA e M b n A) (h1 : M' a 1 = M b 1) (h2 : ∀ c : Int, 0 ≤ c → c < 12 → M' (a + 1) c = M (b + 1) c) : AA e M' a n A := ⟨h1.trans h.1, h.2.1, fun g i hg hi => (h2 _ (by omega) (by omega)).trans (h.2.2 g i hg hi)⟩
theorem c_entryR (he : e ≤ 1) (M : Mo) {a : Int} (ha : shp S0 a = (0, 3)) {g i j : Nat} (hg : g < 2) (hi : i < 6) (hj : j < 12) {w : Vc e} (hw : M (a + 1) (6 * g + i) = pv w) : PI 3 [(2, a), (0, (g : Int)), (0, (i : Int)), (0, (j : Int))] M (vl (w j)) := by
  refine Cl.intro (L := [(2, a), (0, (g : Int)), (0, (i : Int)), (0, (j : Int))]) (rcv_v ow_3.2.1 ha) (by unfold entl; rw [mx_3]; rfl) (by rw [mx_3]; exact Nat.le_of_ble_eq_true rfl) rfl ?_
  have ha0 := shA_pos ha
  refine r_aload_n d_3_0 rfl (by omega) ?_
  refine r_getc (ki := 2) d_3_1 q_3_15 rfl ha (fxA2 ha) (by omega) ?_
  refine r_bipush d_3_4 rfl ?_
  refine r_iload_n d_3_6 rfl ?_
  refine r_imul d_3_7 (by omega) ?_
  refine r_iload_n d_3_8 rfl ?_
  refine r_iadd d_3_9 (by omega) ?_
  refine r_laloadv d_3_10 (shA1 ha) (by omega) (by omega) hw ?_
  refine r_iload_n d_3_11 rfl ?_
  refine r_callsp d_3_12 q_3_29 rfl rfl (c_elemV he M w hj) ?_
  refine r_iret d_3_15 rt_3 ?_
  exact ⟨rfl, rfl⟩
theorem c_entry (he : e ≤ 1) {M : Mo} {a : Int} (ha : shp S0 a = (0, 3)) {n : Nat} {A : Nat → Nat → Nat → Kf e} (hA : AA e M a n A) {g i j : Nat} (hg : g < 2) (hi : i < n) (hj : j < n) : PI 3 [(2, a), (0, (g : Int)), (0, (i : Int)), (0, (j : Int))] M (vl (A g i j)) := by
  have h6 := hA.n6
  have h := c_entryR he M ha hg (show i < 6 by omega) (show j < 12 by omega) (hA.2.2 g i hg (by omega))
  have e1 : rv n A g i j = A g i j := if_pos ⟨hi, hj⟩
  rw [e1] at h
  exact h
def upv (w : Vc e) (j : Nat) (c : Kf e) : Vc e := fun j' => if j' = j then c else w j'
theorem pv_put (w : Vc e) {j : Nat} (hj : j < 12) (c : Kf e) : pv w + (vl c - vl (w j)) * 16 ^ (11 - j) = pv (upv w j c) := by
  rw [dg12 _ hj]
  unfold pv
  rw [← hx_add]
  refine hx_congr (fun i _ => ?_)
  unfold dgt upv
  by_cases q : i = j
  · rw [if_pos q, if_pos q, q]
    omega
  · rw [if_neg q, if_neg q]
    omega
theorem p16b {j : Nat} : 1 ≤ (16 : Int) ^ (11 - j) ∧ (16 : Int) ^ (11 - j) ≤ 17592186044416 := by
  have h1 : (16 : Nat) ^ (11 - j) ≤ 16 ^ 11 := Nat.pow_le_pow_right (by decide) (by omega)
  have h2 : 1 ≤ (16 : Nat) ^ (11 - j) := Nat.pow_pos (by decide)
  have e1 : (16 : Int) ^ (11 - j) = ((16 ^ (11 - j) : Nat) : Int) := by rw [Int.natCast_pow]; rfl
  rw [e1]
  have h3 : (16 : Nat) ^ 11 = 17592186044416 := by decide
  omega
theorem c_puts (he : e ≤ 1) (M : Mo) {a : Int} (ha : shp S0 a = (0, 3)) {g i j : Nat} (hg : g < 2) (hi : i < 6) (hj : j < 12) {w : Vc e} (hw : M (a + 1) (6 * g + i) = pv w) {v : Int} {c : Kf e} (hv : v = vl c) : PV 4 [(2, a), (0, (g : Int)), (0, (i : Int)), (0, (j : Int)), (0, v)] M (up2 M (a + 1) (6 * g + i) (pv (upv w j c))) := by
  refine Cl.intro (L := [(2, a), (0, (g : Int)), (0, (i : Int)), (0, (j : Int)), (0, v), (9, 0)]) (rcv_v ow_4.2.1 ha) (by unfold entl; rw [mx_4]; rfl) (by rw [mx_4]; exact Nat.le_of_ble_eq_true rfl) rfl ?_
  have ha0 := shA_pos ha
  have h1 := vl_b he c
  have h2 := vl_b he (w j)
  have h3 := pv_put w hj c
  have h4 := pv_rng he w
  have h5 := pv_rng he (upv w j c)
  have h6 := p16b (j := j)
  subst hv
  refine r_bipush d_4_0 rfl ?_
  refine r_iload_n d_4_2 rfl ?_
  refine r_imul d_4_3 (by omega) ?_
  refine r_iload_n d_4_4 rfl ?_
  refine r_iadd d_4_5 (by omega) ?_
  refine r_istore d_4_6 rfl (stl_6_5 rfl rfl) ?_
  refine r_aload_n d_4_8 rfl (by omega) ?_
  refine r_getc (ki := 2) d_4_9 q_4_15 rfl ha (fxA2 ha) (by omega) ?_
  refine r_iload d_4_12 rfl ?_
  refine r_dup2 d_4_14 rfl ?_
  refine r_laloadv d_4_15 (shA1 ha) (by omega) (by omega) hw ?_
  refine r_iload d_4_16 rfl ?_
  refine r_aload_n d_4_18 rfl (by omega) ?_
  refine r_getc (ki := 2) d_4_19 q_4_15 rfl ha (fxA2 ha) (by omega) ?_
  refine r_iload d_4_22 rfl ?_
  refine r_laloadv d_4_24 (shA1 ha) (by omega) (by omega) hw ?_
  refine r_iload_n d_4_25 rfl ?_
  refine r_callsp d_4_26 q_4_29 rfl rfl (c_elemV he M w hj) ?_
  refine r_isub d_4_29 (by omega) ?_
  refine r_i2l d_4_30 ?_
  refine r_iload_n d_4_31 rfl ?_
  refine r_callsl d_4_32 q_4_33 rfl rfl (c_unit M hj) ?_
  refine r_lmul d_4_35 (by omega) ?_
  refine r_ladd d_4_36 (by omega) ?_
  rw [h3]
  refine r_lastore d_4_37 (shA1 ha) (by omega) (by omega) ?_
  refine r_vret d_4_38 rt_4 ?_
  exact ⟨rfl, rfl⟩
def setA (A : Nat → Nat → Nat → Kf e) (g i j : Nat) (c : Kf e) (g' i' j' : Nat) : Kf e := if g' = g ∧ i' = i ∧ j' = j then c else A g' i' j'
theorem AA.put {M : Mo} {a : Int} {n : Nat} {A : Nat → Nat → Nat → Kf e} (h : AA e M a n A) {g i j : Nat} (hg : g < 2) (hi : i < n) (hj : j < n) (c : Kf e) : AA e (up2 M (a + 1) (6 * g + i) (pv (upv (rv n A g i) j c))) a n (setA A g i j c) := by
  have h6 := h.n6
  refine ⟨by rw [uq_ne (by omega)]; exact h.1, h.2.1, fun g' i' h1 h2 => ?_⟩
  by_cases q : g' = g ∧ i' = i
  · obtain ⟨rfl, rfl⟩ := q
    rw [uq_eq]
    refine pv_congr (fun j' _ => ?_)
    unfold upv rv setA
    by_cases q : j' = j
    · rw [if_pos q, if_pos (by omega), if_pos ⟨rfl, rfl, q⟩]
    · rw [if_neg q]
      by_cases q2 : i' < n ∧ j' < n
      · rw [if_pos q2, if_pos q2, if_neg (fun z => q z.2.2)]
      · rw [if_neg q2, if_neg q2]
  · rw [uq_ne (by omega), h.2.2 g' i' h1 h2]
    refine pv_congr (fun j' _ => ?_)
    unfold rv setA
    by_cases q2 : i' < n ∧ j' < n
    · rw [if_pos q2, if_pos q2, if_neg (fun z => q ⟨z.1, z.2.1⟩)]
    · rw [if_neg q2, if_neg q2]
def mvs (n : Nat) (A : Nat → Nat → Kf e) (v : Vc e) (m : Nat) : Vc e := fun j => if j < n then sK (fun i => v i * A i j) m else 0
theorem c_image (he : e ≤ 1) {M : Mo} (hp : M 1 0 = pI e) {a : Int} (ha : shp S0 a = (0, 3)) {n : Nat} {A : Nat → Nat → Nat → Kf e} (hA : AA e M a n A) {g : Nat} (hg : g < 2) (v : Vc e) : PL 5 [(2, a), (0, (g : Int)), (1, pv v)] M (pv (mv n (A g) v)) := by
  refine Cl.intro (L := [(2, a), (0, (g : Int)), (1, pv v), (9, 0), (9, 0), (9, 0), (9, 0), (9, 0)]) (rcv_v ow_5.2.1 ha) (by unfold entl; rw [mx_5]; rfl) (by rw [mx_5]; exact Nat.le_of_ble_eq_true rfl) rfl ?_
  have ha0 := shA_pos ha
  have h6 := hA.n6
  have hs := hA.1
  refine r_lconst d_5_0 rfl ?_
  refine r_lstore d_5_1 rfl (stw_8_4 rfl rfl) ?_
  refine r_iconst d_5_3 rfl ?_
  refine r_istore d_5_4 rfl (stl_8_6 rfl rfl) ?_
  refine dn_ind (R := fun i => ∀ (s : Int) (y : AV), s = pv (mvs n (A g) v i.toNat) → Rn 5 6 [(2, a), (0, (g : Int)), (1, pv v), (9, 0), (1, s), (9, 0), (0, i), y] [] M _) (lo := 0) (n := n) ?_ ?_ 0 (by omega) (by omega) 0 (9, 0) ?_
  · intro s y hq
    refine r_iload d_5_6 rfl ?_
    refine r_aload_n d_5_8 rfl (by omega) ?_
    refine r_getfv (ki := 1) d_5_9 q_5_9 rfl ha hs ?_
    refine r_icmp_ge (t := 59) d_5_12 rfl (fun _ => ?_) (fun hz => absurd (by omega) hz)
    refine r_lload d_5_59 rfl ?_
    refine r_lret d_5_61 rt_5 ?_
    exact ⟨by rw [hq]; rfl, rfl⟩
  · intro i i1 i2 ih s y hq
    obtain ⟨k, rfl⟩ : ∃ k : Nat, i = k := ⟨i.toNat, by omega⟩
    have hvb := vl_b he (v k)
    have hrow := hA.2.2 g k hg (by omega)
    have e1 : mvs n (A g) v ((k : Int) + 1).toNat = lc (mvs n (A g) v k) (v k) (rv n A g k) := by
      funext j
      rw [show ((k : Int) + 1).toNat = k + 1 by omega]
      unfold mvs lc rv
      dsimp only
      by_cases q : j < n
      · rw [if_pos q, if_pos q, if_pos ⟨by omega, q⟩]
        rfl
      · rw [if_neg q, if_neg q, if_neg (fun z => q z.2)]
        grind
    rw [show ((k : Int)).toNat = k by omega] at hq
    refine r_iload d_5_6 rfl ?_
    refine r_aload_n d_5_8 rfl (by omega) ?_
    refine r_getfv (ki := 1) d_5_9 q_5_9 rfl ha hs ?_
    refine r_icmp_ge (t := 59) d_5_12 rfl (fun hz => absurd hz (by omega)) (fun _ => ?_)
    refine r_lload_n d_5_15 rfl ?_
    refine r_iload d_5_16 rfl ?_
    refine r_callsp d_5_18 q_5_29 rfl rfl (c_elemV he M v (by omega)) ?_
    refine r_istore d_5_21 rfl (stl_8_7 rfl rfl) ?_
    refine r_iload d_5_23 rfl ?_
    refine r_if_eq (t := 53) d_5_25 rfl (fun hz => ?_) (fun hz => ?_)
    · refine r_iinc d_5_53 rfl (by omega) (stl_8_6 rfl rfl) ?_
      refine r_goto (t := 6) d_5_56 rfl ?_
      refine ih _ _ ?_
      rw [e1, hq]
      congr 1
      rw [vl_eq0.mp hz, lc_0]
    · have hpt := c_plusTimes he M hp (mvs n (A g) v k) (rv n A g k) (c := vl (v k)) (by omega)
      rw [← hq, kI_vl, ← e1] at hpt
      refine r_aload_n d_5_28 rfl (by omega) ?_
      refine r_getc (ki := 0) d_5_29 q_5_19 rfl ha (fxA0 ha) (by omega) ?_
      refine r_lload d_5_32 rfl ?_
      refine r_iload d_5_34 rfl ?_
      refine r_aload_n d_5_36 rfl (by omega) ?_
      refine r_getc (ki := 2) d_5_37 q_5_15 rfl ha (fxA2 ha) (by omega) ?_
      refine r_bipush d_5_40 rfl ?_
      refine r_iload_n d_5_42 rfl ?_
      refine r_imul d_5_43 (by omega) ?_
      refine r_iload d_5_44 rfl ?_
      refine r_iadd d_5_46 (by omega) ?_
      refine r_laloadv d_5_47 (shA1 ha) (by omega) (by omega) hrow ?_
      refine r_callvl d_5_48 q_5_37 rfl rfl hpt ?_
      refine r_lstore d_5_51 rfl (stw_8_4 rfl rfl) ?_
      refine r_iinc d_5_53 rfl (by omega) (stl_8_6 rfl rfl) ?_
      refine r_goto (t := 6) d_5_56 rfl ?_
      exact ih _ _ rfl
  · rw [← pv_z0 (e := e)]
    refine pv_congr (fun j _ => ?_)
    unfold mvs
    show (0 : Kf e) = _
    split <;> rfl
end
