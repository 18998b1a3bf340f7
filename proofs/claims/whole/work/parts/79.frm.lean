/-! Subspaces by their pivots and the free elements of their bases. -/
theorem bt_01 (x k : Nat) : bt x k = 0 ∨ bt x k = 1 := by
  unfold bt
  omega
def cf (P f : Nat) : Nat → Nat
  | 0 => 0
  | j + 1 => cf P f j + if f < j ∧ bt P j = 0 then 1 else 0
def ix0 (P n : Nat) : Nat → Nat
  | 0 => 0
  | f + 1 => ix0 P n f + if bt P f = 1 then cf P f n else 0
def pcn (P : Nat) : Nat → Nat
  | 0 => 0
  | f + 1 => pcn P f + bt P f
theorem cf_lo {P f : Nat} : ∀ {j : Nat}, j ≤ f + 1 → cf P f j = 0
  | 0, _ => rfl
  | j + 1, h => by
    show cf P f j + (if f < j ∧ bt P j = 0 then 1 else 0) = 0
    rw [cf_lo (by omega), if_neg (by omega)]
theorem cf_le {P f : Nat} : ∀ j : Nat, cf P f j ≤ j
  | 0 => Nat.le_refl _
  | j + 1 => by
    have := cf_le (P := P) (f := f) j
    show cf P f j + (if f < j ∧ bt P j = 0 then 1 else 0) ≤ j + 1
    split <;> omega
theorem cf_mono {P f : Nat} {i : Nat} : ∀ {j : Nat}, i ≤ j → cf P f i ≤ cf P f j
  | 0, h => by rw [Nat.le_zero.mp h]; exact Nat.le_refl _
  | j + 1, h => by
    by_cases q : i = j + 1
    · rw [q]; exact Nat.le_refl _
    · have := cf_mono (P := P) (f := f) (i := i) (j := j) (by omega)
      show cf P f i ≤ cf P f j + (if f < j ∧ bt P j = 0 then 1 else 0)
      omega
theorem ix0_mono {P n : Nat} {i : Nat} : ∀ {j : Nat}, i ≤ j → ix0 P n i ≤ ix0 P n j
  | 0, h => by rw [Nat.le_zero.mp h]; exact Nat.le_refl _
  | j + 1, h => by
    by_cases q : i = j + 1
    · rw [q]; exact Nat.le_refl _
    · have := ix0_mono (P := P) (n := n) (i := i) (j := j) (by omega)
      show ix0 P n i ≤ ix0 P n j + (if bt P j = 1 then cf P j n else 0)
      omega
theorem pcn_le {P : Nat} : ∀ j : Nat, pcn P j ≤ j
  | 0 => Nat.le_refl _
  | j + 1 => by
    have := pcn_le (P := P) j
    have h2 := bt_01 P j
    show pcn P j + bt P j ≤ j + 1
    omega
/-- at most four free elements -/
theorem ix0_f : ∀ P : Fin 16, ∀ n : Fin 5, ix0 P.val n.val n.val ≤ 4 := by decide +kernel
theorem ix0_4 {P n : Nat} (hP : P < 16) (hn : n ≤ 4) : ix0 P n n ≤ 4 := ix0_f ⟨P, hP⟩ ⟨n, by omega⟩
section
variable {e n P : Nat} {c : Int}
def frw (e n P : Nat) (c : Int) (f : Nat) : Vc e := fun j => if j = f then 1 else if f < j ∧ j < n ∧ bt P j = 0 then kI e (dg (pI e) c (ix0 P n f + cf P f j)) else 0
def fS (e n P : Nat) (c : Int) (w : Vc e) : Prop := sup n w ∧ ∀ j, j < n → bt P j = 0 → w j = sK (fun f => if bt P f = 1 then w f * frw e n P c f j else 0) n
theorem sK_zero {f : Nat → Kf e} : ∀ {m : Nat}, (∀ i, i < m → f i = 0) → sK f m = 0
  | 0, _ => rfl
  | m + 1, h => by
    show sK f m + f m = 0
    rw [sK_zero (fun i hi => h i (by omega)), h m (by omega)]
    grind
theorem sK_one {i : Nat} {x : Kf e} {f : Nat → Kf e} (hf : ∀ k, k ≠ i → f k = 0) (hx : f i = x) : ∀ {m : Nat}, i < m → sK f m = x
  | 0, h => by omega
  | m + 1, h => by
    show sK f m + f m = x
    by_cases q : i = m
    · subst q
      rw [sK_zero (fun k hk => hf k (by omega)), hx]
      grind
    · rw [sK_one hf hx (m := m) (by omega), hf m (fun z => q z.symm)]
      grind
theorem fS_sub : Sub n (fS e n P c) := by
  refine ⟨⟨sup_z0, fun j _ _ => ?_⟩, fun u w d hu hw => ⟨sup_lc hu.1 hw.1, fun j hj hb => ?_⟩, fun w hw => hw.1⟩
  · rw [sK_zero (fun f _ => by
      unfold z0
      split
      · grind
      · rfl)]
    rfl
  · show u j + d * w j = _
    rw [hu.2 j hj hb, hw.2 j hj hb, ← sK_lc]
    refine sK_congr (fun f _ => ?_)
    unfold lc
    by_cases q : bt P f = 1
    · rw [if_pos q, if_pos q, if_pos q]
      grind
    · rw [if_neg q, if_neg q, if_neg q]
      grind
theorem frw_p {f f' : Nat} (h : bt P f' = 1) : frw e n P c f f' = if f' = f then 1 else 0 := by
  unfold frw
  by_cases q : f' = f
  · rw [if_pos q, if_pos q]
  · rw [if_neg q, if_neg q, if_neg (by omega)]
theorem frw_sup {f : Nat} (hf : f < n) : sup n (frw e n P c f) := fun j hj => by
  unfold frw
  rw [if_neg (by omega), if_neg (by omega)]
theorem frw_in {f : Nat} (hf : f < n) (hb : bt P f = 1) : fS e n P c (frw e n P c f) := by
  refine ⟨frw_sup hf, fun j hj hj0 => ?_⟩
  refine (sK_one (i := f) (fun k hk => ?_) ?_ hf).symm
  · by_cases q : bt P k = 1
    · rw [if_pos q, frw_p q, if_neg hk]
      grind
    · rw [if_neg q]
  · rw [if_pos hb, frw_p hb, if_pos rfl]
    grind
theorem frw_fp {f : Nat} : fp (frw e n P c f) f := ⟨by
    unfold frw
    rw [if_pos rfl]
    exact k10, fun j hj => by
    unfold frw
    rw [if_neg (by omega), if_neg (by omega)]⟩
theorem fS_Lp {i : Nat} : Lp (fS e n P c) i ↔ i < n ∧ bt P i = 1 := by
  constructor
  · rintro ⟨w, hw, hf⟩
    have hi : i < n := by
      rcases Nat.lt_or_ge i n with q | q
      · exact q
      · exact absurd (hw.1 i q) hf.1
    refine ⟨hi, ?_⟩
    rcases bt_01 P i with q | q
    · exfalso
      apply hf.1
      rw [hw.2 i hi q]
      refine sK_zero (fun f _ => ?_)
      by_cases z : bt P f = 1
      · rw [if_pos z]
        rcases Nat.lt_or_ge f i with z2 | z2
        · rw [hf.2 f z2]
          grind
        · have : frw e n P c f i = 0 := by
            unfold frw
            rw [if_neg (fun z3 => by rw [z3] at q; omega), if_neg (by omega)]
          rw [this]
          grind
      · rw [if_neg z]
    · exact q
  · rintro ⟨h1, h2⟩
    exact ⟨_, frw_in h1 h2, frw_fp⟩
theorem fS_crow (he : e ≤ 1) {f : Nat} (hf : f < n) (hb : bt P f = 1) : crow (fS e n P c) f = frw e n P c f := by
  refine crow_eq he fS_sub ⟨frw_in hf hb, frw_fp, ?_, fun j hj hL => ?_⟩
  · unfold frw
    rw [if_pos rfl]
  · rw [frw_p (fS_Lp.mp hL).2, if_neg hj]
theorem fS_cnt : ∀ {i : Nat}, i ≤ n → cnt (Lp (fS e n P c)) i = pcn P i
  | 0, _ => rfl
  | i + 1, h => by
    show cnt (Lp (fS e n P c)) i + ifp (Lp (fS e n P c) i) 1 0 = pcn P i + bt P i
    rw [fS_cnt (by omega)]
    rcases bt_01 P i with q | q
    · rw [q, ifp_f (fun z => by have := (fS_Lp.mp z).2; omega)]
    · rw [q, ifp_t (fS_Lp.mpr ⟨by omega, q⟩)]
theorem fS_dm : dm n (fS e n P c) = pcn P n := fS_cnt (Nat.le_refl _)
theorem fS_cr (he : e ≤ 1) {i : Nat} : cr (fS e n P c) i = if i < n ∧ bt P i = 1 then frw e n P c i else z0 := by
  unfold cr
  by_cases q : i < n ∧ bt P i = 1
  · rw [ifp_t (fS_Lp.mpr q), if_pos q, fS_crow he q.1 q.2]
  · rw [ifp_f (fun z => q (fS_Lp.mp z)), if_neg q]
/-- the space is invariant -/
def kin (n : Nat) (A : Nat → Nat → Nat → Kf e) (P : Nat) (c : Int) : Prop := ∀ f, f < n → bt P f = 1 → ∀ g, g < 2 → fS e n P c (mv n (A g) (frw e n P c f))
/-- how many invariant spaces of dimension d there are -/
noncomputable def spcI (n : Nat) (A : Nat → Nat → Nat → Kf e) (P : Nat) : Int := sm (fun c => ifp (kin n A P c) 1 0) (pI e ^ ix0 P n n).toNat
noncomputable def spcN (n : Nat) (A : Nat → Nat → Nat → Kf e) (d : Int) : Int := sm (fun P => if (pcn P n : Int) = d then spcI n A P else 0) (2 ^ n)
theorem spcI_rng (he : e ≤ 1) {A : Nat → Nat → Nat → Kf e} (hP : P < 16) (hn : n ≤ 4) (m : Nat) (hm : m ≤ (pI e ^ ix0 P n n).toNat) : 0 ≤ sm (fun c => ifp (kin n A P c) (1 : Int) 0) m ∧ sm (fun c => ifp (kin n A P c) (1 : Int) 0) m ≤ m ∧ m ≤ 81 := by
  have h1 := pw_le (pI23 he) (ix0_4 hP hn)
  have h2 : pI e ^ 4 ≤ 81 := by rcases pI23 he with h | h <;> rw [h] <;> decide
  have h3 := sm_01 (f := fun c => ifp (kin n A P c) (1 : Int) 0) (fun c => by
    by_cases q : kin n A P c
    · rw [ifp_t q]; exact Or.inr rfl
    · rw [ifp_f q]; exact Or.inl rfl) m
  omega
end
theorem shl_f : ∀ k : Fin 8, (Int32.ofInt 1 <<< (Int32.ofInt (k.val : Int) &&& 31)).toInt = ((2 ^ k.val : Nat) : Int) := by decide +kernel
theorem shl_ok {k : Nat} (hk : k < 8) : (Int32.ofInt 1 <<< (Int32.ofInt (k : Int) &&& 31)).toInt = ((2 ^ k : Nat) : Int) := shl_f ⟨k, hk⟩
