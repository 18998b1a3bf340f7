/-! What a state of the abstract machine is in the JVM. -/
def va_AOA (t : FieldType) (U : State) : Prop := (Cond.arrayOver (.array t)).before #[] U = true
def rfo (ad : Nat → Nat) (z : Int) : Option Nat := if z < 0 then none else some (ad z.toNat)
def cv (ad : Nat → Nat) (bb : Nat) (v : AV) : Value :=
  if v.1 = 0 then .int (Int32.ofInt v.2) else if v.1 = 1 then .long (Int64.ofInt v.2) else if v.1 = 2 then va_rf (rfo ad v.2) else .ref bb
theorem cv0 (ad : Nat → Nat) (bb : Nat) (z : Int) : cv ad bb (0, z) = .int (Int32.ofInt z) := rfl
theorem cv1 (ad : Nat → Nat) (bb : Nat) (z : Int) : cv ad bb (1, z) = .long (Int64.ofInt z) := rfl
theorem cv2 (ad : Nat → Nat) (bb : Nat) {z : Int} (h : 0 ≤ z) : cv ad bb (2, z) = .ref (ad z.toNat) := by
  show va_rf (rfo ad z) = _
  rw [rfo, if_neg (by omega)]
  rfl
theorem cv4 (ad : Nat → Nat) (bb : Nat) (z : Int) : cv ad bb (4, z) = .ref bb := rfl
theorem cv_cat (ad : Nat → Nat) (bb : Nat) (v : AV) : (cv ad bb v).category = catv v := by
  obtain ⟨t, z⟩ := v
  unfold cv catv
  by_cases h0 : t = 0
  · subst h0; rfl
  · by_cases h1 : t = 1
    · subst h1; rfl
    · by_cases h2 : t = 2
      · subst h2
        simp only [rfo]
        by_cases hz : z < 0 <;> simp [hz, va_rf, Value.category]
      · simp [h0, h1, h2, Value.category]
def aty (kd : Nat) : Option FieldType := if kd = 20 then some .int else if kd = 21 then some .long else if kd = 22 then some (.object (cn 0)) else if kd = 23 then some (.array .int) else if kd = 24 then some (.array .long) else none
def tgk (kd j : Nat) : Nat := if kd < 20 then tgf kd j else if kd = 20 then 0 else if kd = 21 then 1 else 2
def arc (ad : Nat → Nat) (ac : Nat → ClassId) (k kd ln : Nat) (row : Int → Int) : va_E :=
  if kd < 20 then .inr (kd, (List.range ln).map (fun j => cv ad 0 (tgf kd j, row j)))
  else if kd = 20 then .inl (ac k, ln, .inl (fun j => Int32.ofInt (row j)))
  else if kd = 21 then .inl (ac k, ln, .inr (.inl (fun j => Int64.ofInt (row j))))
  else .inl (ac k, ln, .inr (.inr (.inr (.inr (fun j => if j < ln then rfo ad (row j) else none)))))
def sg (σ : Sh) (k : Nat) : Nat × Nat := σ.getD k (99, 0)
def wso (ad : Nat → Nat) (ac : Nat → ClassId) (σ : Sh) (M : Mo) : va_W := (List.range σ.length).map (fun k => (ad k, arc ad ac k (sg σ k).1 (sg σ k).2 (M k)))
def wfz (n t : Nat) (z : Int) : Prop := (t = 0 → -2147483648 ≤ z ∧ z < 2147483648) ∧ (t = 1 → -9223372036854775808 ≤ z ∧ z < 9223372036854775808) ∧ (t = 2 → -1 ≤ z ∧ z < n)
def wfm (σ : Sh) (M : Mo) : Prop := ∀ k : Nat, k < σ.length → ∀ j : Nat, j < (sg σ k).2 → wfz σ.length (tgk (sg σ k).1 j) (M k j)
def wsh (σ : Sh) : Prop := ∀ k : Nat, k < σ.length → (sg σ k).1 < 11 ∧ (sg σ k).2 = nfl (sg σ k).1 ∨ 20 ≤ (sg σ k).1 ∧ (sg σ k).1 ≤ 24
def okv (o : Option (List Int)) (n : Nat) (v : AV) : Prop := wfz n v.1 v.2 ∧ (v.1 = 2 → 0 ≤ v.2) ∧ (v.1 = 4 → o ≠ none) ∧ (v.1 ≤ 2 ∨ v.1 = 4 ∨ v.1 = 9)
def tot (σ : Sh) : Nat := (σ.map (fun q => q.2)).sum
def TG : List Cond := lw_tbl.filter goodWord
def Tb (D : va_G) (U : State) : Prop := va_K D vwCl [] U ∧ (∀ e ∈ mT, 3 ≤ e.2.2.2.1 → e.2.2.2.1 ≤ 5 → va_Nw (.methodLinkNest (cn e.1) e.2.1 (nmm e.2.2.1) "SpunModules") U) ∧ va_AO (cn 0) U ∧ va_AOA .int U ∧ va_AOA .long U
def Cx (f : Nat) (o : Option (List Int)) (p : Program) (R : Room) (s : State) (m : MethodId) (args : Array Value) (meth : Method) (c : Code) (base bb : Nat) (D : va_G) : Prop :=
  p.tables.exec = Jvm.exec ∧ c.code = bc f ∧ c.maxLocals = mxl f ∧ s.vm.findClass (cn (own f)) = some m.cls ∧ (∀ w ∈ TG, w.before args s = true) ∧ meth.sig.returnType = rty f ∧ meth.locks = false ∧ ((nmm f).name = "<init>" → meth.name = "<init>") ∧ hgt f ≤ R.frames ∧ 40 * hgt f ≤ R.locals ∧ Tb D s ∧ base ≤ s.heap.size ∧
  (∀ xs, o = some xs → va_X bb xs.length (fun j => Int32.ofInt (xs.getD j 0)) s s.heap ∧ bb < base ∧ xs.length < 2147483648 ∧ ∀ j, -2147483648 ≤ xs.getD j 0 ∧ xs.getD j 0 < 2147483648)
def Lc (ad : Nat → Nat) (bb f : Nat) (lsm : Array Slot) (ls : List AV) : Prop := lsm.size = mxl f ∧ lv_wf lsm ∧ ls.length = mxl f ∧ ∀ (i : Nat) (v : AV), ls[i]? = some v → v.1 ≠ 9 → lsm[i]? = some (.val (cv ad bb v))
def Wo (D : va_G) (ad : Nat → Nat) (ac : Nat → ClassId) (base : Nat) (s : State) (σ : Sh) (M : Mo) (H : Heap) : Prop :=
  va_P D vwCl (wso ad ac σ M) H ∧ va_D (fun q => base ≤ q) (wso ad ac σ M) ∧ (∀ k : Nat, k < σ.length → ∀ ty, aty (sg σ k).1 = some ty → ArrOfT s (ac k) ty ∧ va_RA s (ac k) ty) ∧ wfm σ M ∧ wsh σ
def Ok (D : va_G) (base bb : Nat) (o : Option (List Int)) (f n0 s0 : Nat) (ad0 : Nat → Nat) (ac0 : Nat → ClassId) (s : State) (H : Heap) (locs : List Loc) (cells slots : Nat) (lsm : Array Slot) (ls st : List AV) (σ : Sh) (M : Mo) (ad : Nat → Nat) (ac : Nat → ClassId) : Prop :=
  Wo D ad ac base s σ M H ∧ va_S (fun q => base ≤ q) s.heap H locs ∧ Lc ad bb f lsm ls ∧ (∀ v ∈ ls, okv o σ.length v) ∧ (∀ v ∈ st, okv o σ.length v ∧ v.1 ≠ 9) ∧ cells + n0 = σ.length ∧ slots + s0 = tot σ ∧ ∀ k, k < n0 → ad k = ad0 k ∧ ac k = ac0 k
def G (p : Program) (l : Launch) (e : Env) (R : Room) (s : State) (m : MethodId) (args : Array Value) (below : List Frame) (meth : Method) (c : Code) (Q : State → Prop) (D : va_G) (base bb : Nat) (o : Option (List Int)) (f n0 s0 : Nat) (ad0 : Nat → Nat) (ac0 : Nat → ClassId) (pc : Nat) (ls st : List AV) (σ : Sh) (M : Mo) : Prop :=
  ∀ (H : Heap) (locs : List Loc) (cells slots : Nat) (lsm : Array Slot) (ad : Nat → Nat) (ac : Nat → ClassId), Ok D base bb o f n0 s0 ad0 ac0 s H locs cells slots lsm ls st σ M ad ac → W p l e R s m args below meth c H locs cells slots Q (F0 m pc lsm (st.map (cv ad bb)))
/-! numbers -/
theorem i32_rng (x : Int32) : -2147483648 ≤ x.toInt ∧ x.toInt < 2147483648 := ⟨Int32.le_toInt x, Int32.toInt_lt x⟩
theorem i64_rng (x : Int64) : -9223372036854775808 ≤ x.toInt ∧ x.toInt < 9223372036854775808 := ⟨Int64.le_toInt x, Int64.toInt_lt x⟩
theorem i32_of {z : Int} (h : -2147483648 ≤ z ∧ z < 2147483648) : (Int32.ofInt z).toInt = z := by
  rw [Int32.toInt_ofInt, show Int32.size = 4294967296 from rfl, Int.bmod_eq_of_le (by omega) (by omega)]
theorem i64_of {z : Int} (h : -9223372036854775808 ≤ z ∧ z < 9223372036854775808) : (Int64.ofInt z).toInt = z := by
  rw [Int64.toInt_ofInt, show Int64.size = 18446744073709551616 from rfl, Int.bmod_eq_of_le (by omega) (by omega)]
theorem i32_lt {x y : Int} (hx : -2147483648 ≤ x ∧ x < 2147483648) (hy : -2147483648 ≤ y ∧ y < 2147483648) : Int32.ofInt x < Int32.ofInt y ↔ x < y := by
  rw [Int32.lt_iff_toInt_lt, i32_of hx, i32_of hy]
theorem i32_le {x y : Int} (hx : -2147483648 ≤ x ∧ x < 2147483648) (hy : -2147483648 ≤ y ∧ y < 2147483648) : Int32.ofInt x ≤ Int32.ofInt y ↔ x ≤ y := by
  rw [Int32.le_iff_toInt_le, i32_of hx, i32_of hy]
theorem i32_eq {x y : Int} (hx : -2147483648 ≤ x ∧ x < 2147483648) (hy : -2147483648 ≤ y ∧ y < 2147483648) : Int32.ofInt x = Int32.ofInt y ↔ x = y := by
  rw [← Int32.toInt_inj, i32_of hx, i32_of hy]
theorem i64_lt {x y : Int} (hx : -9223372036854775808 ≤ x ∧ x < 9223372036854775808) (hy : -9223372036854775808 ≤ y ∧ y < 9223372036854775808) : Int64.ofInt x < Int64.ofInt y ↔ x < y := by
  rw [Int64.lt_iff_toInt_lt, i64_of hx, i64_of hy]
theorem i64_eq {x y : Int} (hx : -9223372036854775808 ≤ x ∧ x < 9223372036854775808) (hy : -9223372036854775808 ≤ y ∧ y < 9223372036854775808) : Int64.ofInt x = Int64.ofInt y ↔ x = y := by
  rw [← Int64.toInt_inj, i64_of hx, i64_of hy]
theorem okv_i (o : Option (List Int)) (n : Nat) (x : Int32) : okv o n (0, x.toInt) := ⟨⟨fun _ => i32_rng x, fun h => absurd h (by simp), fun h => absurd h (by simp)⟩, fun h => absurd h (by simp), fun h => absurd h (by simp), Or.inl (by simp)⟩
theorem okv_l (o : Option (List Int)) (n : Nat) (x : Int64) : okv o n (1, x.toInt) := ⟨⟨fun h => absurd h (by simp), fun _ => i64_rng x, fun h => absurd h (by simp)⟩, fun h => absurd h (by simp), fun h => absurd h (by simp), Or.inl (by simp)⟩
theorem okv_z {o : Option (List Int)} {n : Nat} {z : Int} (h : -2147483648 ≤ z ∧ z < 2147483648) : okv o n (0, z) := by
  have := okv_i o n (Int32.ofInt z)
  rwa [i32_of h] at this
theorem okv_w {o : Option (List Int)} {n : Nat} {z : Int} (h : -9223372036854775808 ≤ z ∧ z < 9223372036854775808) : okv o n (1, z) := by
  have := okv_l o n (Int64.ofInt z)
  rwa [i64_of h] at this
theorem okv_r {o : Option (List Int)} {n : Nat} {z : Int} (h : 0 ≤ z ∧ z < n) : okv o n (2, z) := ⟨⟨fun h => absurd h (by simp), fun h => absurd h (by simp), fun _ => ⟨by omega, h.2⟩⟩, fun _ => h.1, fun h => absurd h (by simp), Or.inl (by simp)⟩
theorem vp_in_i {i : Int} {n : Nat} (h0 : 0 ≤ i) (h1 : i < n) (hr : -2147483648 ≤ i ∧ i < 2147483648) : vp_in (Int32.ofInt i) n ∧ (Int32.ofInt i).toNatClampNeg = i.toNat := by
  have h := i32_of hr
  constructor
  · rw [vp_in_iff, h]; exact ⟨h0, h1⟩
  · unfold Int32.toNatClampNeg
    rw [h]
/-! cells -/
theorem shp_spec {σ : Sh} {a : Int} {kd ln : Nat} (h : shp σ a = (kd, ln)) (hk : kd ≠ 99) : ∃ k : Nat, a = k ∧ k < σ.length ∧ sg σ k = (kd, ln) := by
  unfold shp at h
  by_cases ha : a < 0
  · rw [if_pos ha] at h
    cases h
    exact absurd rfl hk
  · rw [if_neg ha] at h
    refine ⟨a.toNat, by omega, ?_, h⟩
    rcases Nat.lt_or_ge a.toNat σ.length with q | q
    · exact q
    · rw [List.getD_eq_getElem?_getD, List.getElem?_eq_none q] at h
      cases h
      exact absurd rfl hk
theorem wso_len (ad : Nat → Nat) (ac : Nat → ClassId) (σ : Sh) (M : Mo) : (wso ad ac σ M).length = σ.length := by simp [wso]
theorem wso_get (ad : Nat → Nat) (ac : Nat → ClassId) (σ : Sh) (M : Mo) {k : Nat} (h : k < σ.length) : (wso ad ac σ M)[k]? = some (ad k, arc ad ac k (sg σ k).1 (sg σ k).2 (M k)) := by
  simp [wso, h]
theorem wso_set (ad : Nat → Nat) (ac : Nat → ClassId) (σ : Sh) (M M' : Mo) {k : Nat} {e' : va_E} (h : k < σ.length) (he : arc ad ac k (sg σ k).1 (sg σ k).2 (M' k) = e') (ho : ∀ j : Nat, j ≠ k → M' j = M j) : (wso ad ac σ M).set k (ad k, e') = wso ad ac σ M' := by
  apply List.ext_getElem?
  intro j
  by_cases hj : j = k
  · subst hj
    rw [List.getElem?_set_self (by rw [wso_len]; exact h), wso_get _ _ _ _ h, he]
  · rw [List.getElem?_set_ne (Ne.symm hj)]
    by_cases hl : j < σ.length
    · rw [wso_get _ _ _ _ hl, wso_get _ _ _ _ hl, ho j hj]
    · rw [List.getElem?_eq_none (by rw [wso_len]; omega), List.getElem?_eq_none (by rw [wso_len]; omega)]
theorem up2_ne (M : Mo) (k : Nat) (i v : Int) {j : Nat} (h : j ≠ k) : up2 M k i v j = M j := by
  funext y
  unfold up2
  rw [if_neg (by rintro ⟨q, -⟩; exact h (by exact_mod_cast q))]
theorem up2_eq (M : Mo) (k : Nat) (i v : Int) : up2 M k i v k = fun y => if y = i then v else M k y := by
  funext y
  unfold up2
  simp
theorem wfm_up {σ : Sh} {M : Mo} (h : wfm σ M) {k : Nat} {i : Int} {v : Int} (hv : ∀ j : Nat, (j : Int) = i → wfz σ.length (tgk (sg σ k).1 j) v) : wfm σ (up2 M k i v) := by
  intro q hq j hj
  by_cases e : q = k
  · subst e
    rw [up2_eq]
    dsimp only
    split
    · rename_i hi
      exact hv j hi
    · exact h q hq j hj
  · rw [up2_ne _ _ _ _ e]
    exact h q hq j hj
theorem sg_app_lt {σ τ : Sh} {k : Nat} (h : k < σ.length) : sg (σ ++ τ) k = sg σ k := by
  unfold sg
  rw [List.getD_eq_getElem?_getD, List.getD_eq_getElem?_getD, List.getElem?_append_left h]
theorem sg_app_eq {σ : Sh} {x : Nat × Nat} : sg (σ ++ [x]) σ.length = x := by
  unfold sg
  rw [List.getD_eq_getElem?_getD, List.getElem?_append_right (Nat.le_refl _)]
  simp
theorem wfz_mono {n n' t : Nat} {z : Int} (h : wfz n t z) (hn : n ≤ n') : wfz n' t z := ⟨h.1, h.2.1, fun q => ⟨(h.2.2 q).1, by have := (h.2.2 q).2; omega⟩⟩
theorem okv_mono {o : Option (List Int)} {n n' : Nat} {v : AV} (h : okv o n v) (hn : n ≤ n') : okv o n' v := ⟨wfz_mono h.1 hn, h.2⟩
theorem cv_ad {o : Option (List Int)} {n : Nat} {ad ad' : Nat → Nat} {bb : Nat} {v : AV} (h : okv o n v) (ha : ∀ k, k < n → ad' k = ad k) : cv ad' bb v = cv ad bb v := by
  obtain ⟨t, z⟩ := v
  by_cases h2 : t = 2
  · subst h2
    have h0 : 0 ≤ z := h.2.1 rfl
    have h1 : z < n := (h.1.2.2 rfl).2
    rw [cv2 _ _ h0, cv2 _ _ h0, ha _ (by omega)]
  · unfold cv
    simp only [h2, if_false]
theorem rfo_ad {n : Nat} {ad ad' : Nat → Nat} {z : Int} (h : z < n) (ha : ∀ k, k < n → ad' k = ad k) : rfo ad' z = rfo ad z := by
  unfold rfo
  by_cases hz : z < 0
  · rw [if_pos hz, if_pos hz]
  · rw [if_neg hz, if_neg hz, ha _ (by omega)]
/-! locals -/
def asl (ad : Nat → Nat) (bb : Nat) (ls : List AV) : List (Nat × Value) := (List.range ls.length).filterMap (fun i => (ls[i]?).bind (fun v => if v.1 = 9 then none else some (i, cv ad bb v)))
theorem asl_mem {ad : Nat → Nat} {bb : Nat} {ls : List AV} {q : Nat × Value} : q ∈ asl ad bb ls ↔ ∃ v : AV, ls[q.1]? = some v ∧ v.1 ≠ 9 ∧ q.2 = cv ad bb v := by
  unfold asl
  rw [List.mem_filterMap]
  constructor
  · rintro ⟨i, hi, h⟩
    cases hv : ls[i]? with
    | none => rw [hv] at h; cases h
    | some v =>
      rw [hv] at h
      simp only [Option.bind_some] at h
      by_cases h9 : v.1 = 9
      · rw [if_pos h9] at h; cases h
      · rw [if_neg h9] at h
        cases h
        exact ⟨v, hv, h9, rfl⟩
  · rintro ⟨v, hv, h9, he⟩
    refine ⟨q.1, List.mem_range.mpr (List.getElem?_eq_some_iff.mp hv).1, ?_⟩
    rw [hv]
    simp only [Option.bind_some, if_neg h9]
    rw [← he]
theorem Lc.has {ad : Nat → Nat} {bb f : Nat} {lsm : Array Slot} {ls : List AV} (h : Lc ad bb f lsm ls) : lv_has lsm (mxl f) (asl ad bb ls) := by
  refine ⟨h.1, h.2.1, fun q hq => ?_⟩
  obtain ⟨v, h1, h2, h3⟩ := asl_mem.mp hq
  rw [h3]
  exact h.2.2.2 q.1 v h1 h2
theorem stl_len (ls : List AV) (i : Nat) (v : AV) : (stl ls i v).length = ls.length := by
  unfold stl
  cases i with
  | zero => dsimp only; split <;> simp
  | succ j =>
    dsimp only
    split <;> split <;> simp
theorem stl_get {ls : List AV} {i j : Nat} {v w : AV} (hi : i < ls.length) (hw : (stl ls i v)[j]? = some w) (h9 : w.1 ≠ 9) : (j = i ∧ w = v) ∨ (j ≠ i ∧ (v.1 = 1 → j ≠ i + 1) ∧ ls[j]? = some w ∧ ¬ (j + 1 = i ∧ w.1 = 1)) := by
  have key : ∀ (l1 : List AV), l1 = (if v.1 = 1 then (ls.set i v).set (i + 1) (9, 0) else ls.set i v) → l1[j]? = some w → (j = i ∧ w = v) ∨ (j ≠ i ∧ (v.1 = 1 → j ≠ i + 1) ∧ ls[j]? = some w) := by
    intro l1 hl hw
    subst hl
    by_cases h1 : v.1 = 1
    · rw [if_pos h1] at hw
      by_cases e1 : j = i + 1
      · subst e1
        by_cases hlt : i + 1 < ls.length
        · rw [List.getElem?_set_self (by simpa using hlt)] at hw
          cases hw
          exact absurd rfl h9
        · rw [List.getElem?_eq_none (by simp; omega)] at hw
          cases hw
      · rw [List.getElem?_set_ne (Ne.symm e1)] at hw
        by_cases e2 : j = i
        · subst e2
          rw [List.getElem?_set_self hi] at hw
          cases hw
          exact Or.inl ⟨rfl, rfl⟩
        · rw [List.getElem?_set_ne (Ne.symm e2)] at hw
          exact Or.inr ⟨e2, fun _ => e1, hw⟩
    · rw [if_neg h1] at hw
      by_cases e2 : j = i
      · subst e2
        rw [List.getElem?_set_self hi] at hw
        cases hw
        exact Or.inl ⟨rfl, rfl⟩
      · rw [List.getElem?_set_ne (Ne.symm e2)] at hw
        exact Or.inr ⟨e2, fun h => absurd h h1, hw⟩
  unfold stl at hw
  cases i with
  | zero =>
    rcases key _ rfl hw with h | ⟨a, b, d⟩
    · exact Or.inl h
    · exact Or.inr ⟨a, b, d, fun q => absurd q.1 (by omega)⟩
  | succ i =>
    dsimp only at hw
    split at hw
    · rename_i z hz
      by_cases e : j = i
      · subst e
        rw [List.getElem?_set_self (by split <;> simp <;> omega)] at hw
        cases hw
        exact absurd rfl h9
      · rw [List.getElem?_set_ne (Ne.symm e)] at hw
        rcases key _ rfl hw with h | ⟨a, b, d⟩
        · exact Or.inl h
        · exact Or.inr ⟨a, b, d, fun q => e (by omega)⟩
    · rename_i hz
      rcases key _ rfl hw with h | ⟨a, b, d⟩
      · exact Or.inl h
      · refine Or.inr ⟨a, b, d, fun q => ?_⟩
        have e : j = i := by omega
        subst e
        obtain ⟨t, z⟩ := w
        have : t = 1 := q.2
        subst this
        exact hz z d
theorem stl_ok {o : Option (List Int)} {n : Nat} {ls : List AV} {i : Nat} {v : AV} (h : ∀ w ∈ ls, okv o n w) (hv : okv o n v) (hi : i < ls.length) : ∀ w ∈ stl ls i v, okv o n w := by
  intro w hw
  obtain ⟨j, hj⟩ := List.getElem?_of_mem hw
  by_cases h9 : w.1 = 9
  · exact ⟨⟨fun q => by omega, fun q => by omega, fun q => by omega⟩, fun q => by omega, fun q => by omega, Or.inr (Or.inr h9)⟩
  · rcases stl_get hi hj h9 with ⟨-, rfl⟩ | ⟨-, -, h1, -⟩
    · exact hv
    · exact h w (List.mem_of_getElem? h1)
theorem Lc.st1 {ad : Nat → Nat} {bb f : Nat} {lsm ls' : Array Slot} {ls : List AV} {i : Nat} {v : AV} (h : Lc ad bb f lsm ls) (hi : i < ls.length) (hn : lv_has ls' (mxl f) ((i, cv ad bb v) :: (asl ad bb ls).filter (fun q => !(q.1 == i) && !(q.1 + 1 == i && q.2.category == 2)))) : Lc ad bb f ls' (stl ls i v) := by
  refine ⟨hn.1, hn.2.1, by rw [stl_len]; exact h.2.2.1, fun j w hw h9 => ?_⟩
  rcases stl_get hi hw h9 with ⟨rfl, rfl⟩ | ⟨h1, h2, h3, h4⟩
  · exact hn.2.2 _ List.mem_cons_self
  · refine hn.2.2 (j, cv ad bb w) (List.mem_cons_of_mem _ (List.mem_filter.mpr ⟨asl_mem.mpr ⟨w, h3, h9, rfl⟩, ?_⟩))
    simp only [cv_cat]
    have hc : ¬ (j + 1 = i ∧ catv w = 2) := fun q => h4 ⟨q.1, by
      have := q.2
      unfold catv at this
      by_cases e : w.1 = 1
      · exact e
      · rw [if_neg e] at this; omega⟩
    simp only [Bool.and_eq_true, Bool.not_eq_true', beq_eq_false_iff_ne, ne_eq, Bool.and_eq_false_iff]
    refine ⟨h1, ?_⟩
    by_cases e : j + 1 = i
    · exact Or.inr (fun q => hc ⟨e, q⟩)
    · exact Or.inl e
theorem Lc.st2 {ad : Nat → Nat} {bb f : Nat} {lsm ls' : Array Slot} {ls : List AV} {i : Nat} {v : AV} (h : Lc ad bb f lsm ls) (hv : v.1 = 1) (hi : i < ls.length) (hn : lv_has ls' (mxl f) ((i, cv ad bb v) :: (asl ad bb ls).filter (fun q => !(q.1 == i) && (!(q.1 == i + 1) && !(q.1 + 1 == i && q.2.category == 2))))) : Lc ad bb f ls' (stl ls i v) := by
  refine ⟨hn.1, hn.2.1, by rw [stl_len]; exact h.2.2.1, fun j w hw h9 => ?_⟩
  rcases stl_get hi hw h9 with ⟨rfl, rfl⟩ | ⟨h1, h2, h3, h4⟩
  · exact hn.2.2 _ List.mem_cons_self
  · refine hn.2.2 (j, cv ad bb w) (List.mem_cons_of_mem _ (List.mem_filter.mpr ⟨asl_mem.mpr ⟨w, h3, h9, rfl⟩, ?_⟩))
    simp only [cv_cat]
    have hc : ¬ (j + 1 = i ∧ catv w = 2) := fun q => h4 ⟨q.1, by
      have := q.2
      unfold catv at this
      by_cases e : w.1 = 1
      · exact e
      · rw [if_neg e] at this; omega⟩
    simp only [Bool.and_eq_true, Bool.not_eq_true', beq_eq_false_iff_ne, ne_eq, Bool.and_eq_false_iff]
    refine ⟨h1, h2 hv, ?_⟩
    by_cases e : j + 1 = i
    · exact Or.inr (fun q => hc ⟨e, q⟩)
    · exact Or.inl e
