/-! Determinants by rows and columns, over the integers. -/
theorem sm_add (f g : Nat → Int) : ∀ m : Nat, sm (fun i => f i + g i) m = sm f m + sm g m
  | 0 => rfl
  | m + 1 => by
    show sm (fun i => f i + g i) m + (f m + g m) = sm f m + f m + (sm g m + g m)
    rw [sm_add f g m]
    omega
theorem sm_mul (c : Int) (f : Nat → Int) : ∀ m : Nat, sm (fun i => c * f i) m = c * sm f m
  | 0 => by
    show (0 : Int) = c * 0
    omega
  | m + 1 => by
    show sm (fun i => c * f i) m + c * f m = c * (sm f m + f m)
    rw [sm_mul c f m, Int.mul_add]
theorem sm_0 {f : Nat → Int} : ∀ {m : Nat}, (∀ i, i < m → f i = 0) → sm f m = 0
  | 0, _ => rfl
  | m + 1, h => by
    show sm f m + f m = 0
    rw [sm_0 (fun i hi => h i (by omega)), h m (by omega)]
    rfl
theorem sm_comm (F : Nat → Nat → Int) (m : Nat) : ∀ k : Nat, sm (fun a => sm (fun b => F a b) m) k = sm (fun b => sm (fun a => F a b) k) m
  | 0 => (sm_0 (fun _ _ => rfl)).symm
  | k + 1 => by
    show sm (fun a => sm (fun b => F a b) m) k + sm (fun b => F k b) m = sm (fun b => sm (fun a => F a b) k + F k b) m
    rw [sm_add, sm_comm F m k]
theorem sm_neg (f : Nat → Int) (m : Nat) : sm (fun i => -(f i)) m = -(sm f m) := by
  have h := sm_mul (-1) f m
  have e1 : sm (fun i => -1 * f i) m = sm (fun i => -(f i)) m := sm_congr (fun i _ => by omega)
  rw [e1] at h
  omega
theorem sm_1 {f : Nat → Int} {i : Nat} (hf : ∀ k, k ≠ i → f k = 0) : ∀ {m : Nat}, i < m → sm f m = f i
  | 0, h => by omega
  | m + 1, h => by
    show sm f m + f m = f i
    by_cases q : i = m
    · subst q
      rw [sm_0 (fun k hk => hf k (by omega))]
      omega
    · rw [sm_1 hf (m := m) (by omega), hf m (fun z => q z.symm)]
      omega
def sgz (k : Nat) : Int := if k % 2 = 0 then 1 else -1
theorem sgz_s (k : Nat) : sgz (k + 1) = -(sgz k) := by
  unfold sgz
  by_cases h : k % 2 = 0
  · rw [if_pos h, if_neg (by omega)]
  · rw [if_neg h, if_pos (by omega)]
    rfl
theorem sgz_sq (k : Nat) : sgz k * sgz k = 1 := by
  unfold sgz
  split <;> rfl
abbrev Cs : Type := Nat → Bool
def rmv (C : Cs) (j : Nat) : Cs := fun i => C i && !(decide (i = j))
theorem rmv_t {C : Cs} {i j : Nat} : rmv C j i = true ↔ C i = true ∧ i ≠ j := by
  unfold rmv
  simp
theorem rmv_c (C : Cs) (i j : Nat) : rmv (rmv C i) j = rmv (rmv C j) i := by
  funext k
  unfold rmv
  cases C k <;> simp [Bool.and_comm]
/-- how many of a set stand above a place, below t -/
def abt (C : Cs) (j : Nat) : Nat → Nat
  | 0 => 0
  | t + 1 => abt C j t + if j < t ∧ C t = true then 1 else 0
def sn (C : Cs) (j : Nat) : Int := sgz (abt C j 6)
theorem abt_rm {C : Cs} {j : Nat} (hj : C j = true) (i : Nat) : ∀ t : Nat, abt C i t = abt (rmv C j) i t + if i < j ∧ j < t then 1 else 0
  | 0 => by
    show 0 = 0 + (if i < j ∧ j < 0 then 1 else 0)
    rw [if_neg (by omega)]
  | t + 1 => by
    show abt C i t + (if i < t ∧ C t = true then 1 else 0) = abt (rmv C j) i t + (if i < t ∧ rmv C j t = true then 1 else 0) + _
    rw [abt_rm hj i t]
    by_cases q : t = j
    · subst q
      have h1 : ¬ rmv C t t = true := fun z => (rmv_t.mp z).2 rfl
      rw [if_neg (show ¬ (i < t ∧ t < t) by omega), if_neg (show ¬ (i < t ∧ rmv C t t = true) from fun z => h1 z.2)]
      by_cases q2 : i < t
      · rw [if_pos ⟨q2, hj⟩, if_pos ⟨q2, by omega⟩]
      · rw [if_neg (fun z => q2 z.1), if_neg (fun z => q2 z.1)]
    · have h1 : rmv C j t = true ↔ C t = true := by
        rw [rmv_t]
        exact ⟨fun z => z.1, fun z => ⟨z, q⟩⟩
      have h2 : (if i < t ∧ rmv C j t = true then 1 else 0) = if i < t ∧ C t = true then 1 else 0 := by
        by_cases q2 : i < t ∧ C t = true
        · rw [if_pos q2, if_pos ⟨q2.1, h1.mpr q2.2⟩]
        · rw [if_neg q2, if_neg (fun z => q2 ⟨z.1, h1.mp z.2⟩)]
      rw [h2]
      by_cases q3 : i < j ∧ j < t
      · rw [if_pos q3, if_pos (show i < j ∧ j < t + 1 by omega)]
        omega
      · rw [if_neg q3, if_neg (show ¬ (i < j ∧ j < t + 1) by omega)]
        omega
theorem sn_sw {C : Cs} {i j : Nat} (hi : C i = true) (hj : C j = true) (hne : i ≠ j) (hi6 : i < 6) (hj6 : j < 6) : sn C j * sn (rmv C j) i = -(sn C i * sn (rmv C i) j) := by
  have h1 := abt_rm hj i 6
  have h2 := abt_rm hi j 6
  unfold sn
  rcases Nat.lt_or_ge i j with q | q
  · rw [if_pos ⟨q, hj6⟩] at h1
    rw [if_neg (by omega)] at h2
    rw [h1, h2, sgz_s, Nat.add_zero, Int.neg_mul, Int.neg_neg, Int.mul_comm]
  · rw [if_neg (by omega)] at h1
    rw [if_pos ⟨by omega, hi6⟩] at h2
    rw [h1, h2, sgz_s, Nat.add_zero, Int.neg_mul, Int.mul_comm]
/-- one more row -/
def ro (u : Nat → Int) (F : Cs → Int) (C : Cs) : Int := sm (fun j => if C j = true then sn C j * u j * F (rmv C j) else 0) 6
theorem ro_0 {u : Nat → Int} {F : Cs → Int} (h : ∀ C, F C = 0) (C : Cs) : ro u F C = 0 := sm_0 (fun j _ => by
  rw [h]
  split
  · omega
  · rfl)
theorem ro_sw (u w : Nat → Int) (F : Cs → Int) (C : Cs) : ro u (ro w F) C = -(ro w (ro u F) C) := by
  have key : ∀ u w : Nat → Int, ro u (ro w F) C = sm (fun a => sm (fun b => if C a = true ∧ C b = true ∧ a ≠ b then sn C a * sn (rmv C a) b * (u a * w b) * F (rmv (rmv C a) b) else 0) 6) 6 := by
    intro u w
    unfold ro
    refine sm_congr (fun a _ => ?_)
    by_cases h : C a = true
    · rw [if_pos h, ← sm_mul]
      refine sm_congr (fun b _ => ?_)
      by_cases h2 : C b = true ∧ a ≠ b
      · rw [if_pos (rmv_t.mpr ⟨h2.1, fun z => h2.2 z.symm⟩), if_pos ⟨h, h2.1, h2.2⟩]
        grind
      · rw [if_neg (fun z => h2 ⟨(rmv_t.mp z).1, fun y => (rmv_t.mp z).2 y.symm⟩), if_neg (fun z => h2 z.2)]
        omega
    · rw [if_neg h, sm_0 (fun b _ => if_neg (fun z => h z.1))]
  rw [key u w, key w u, sm_comm, ← sm_neg]
  refine sm_congr (fun b hb => ?_)
  rw [← sm_neg]
  refine sm_congr (fun a ha => ?_)
  by_cases h : C a = true ∧ C b = true ∧ a ≠ b
  · rw [if_pos h, if_pos ⟨h.2.1, h.1, fun z => h.2.2 z.symm⟩, rmv_c C b a, sn_sw h.2.1 h.1 (fun z => h.2.2 z.symm) hb ha]
    grind
  · rw [if_neg h, if_neg (fun z => h ⟨z.2.1, z.1, fun y => z.2.2 y.symm⟩)]
    rfl
theorem ro_lin (u w : Nat → Int) (c : Int) (F : Cs → Int) (C : Cs) : ro (fun j => u j + c * w j) F C = ro u F C + c * ro w F C := by
  unfold ro
  rw [← sm_mul, ← sm_add]
  refine sm_congr (fun j _ => ?_)
  by_cases h : C j = true
  · rw [if_pos h, if_pos h, if_pos h]
    grind
  · rw [if_neg h, if_neg h, if_neg h]
    omega
theorem ro_F (u : Nat → Int) (c : Int) (F G H : Cs → Int) (C : Cs) (h : ∀ D, H D = F D + c * G D) : ro u H C = ro u F C + c * ro u G C := by
  unfold ro
  rw [← sm_mul, ← sm_add]
  refine sm_congr (fun j _ => ?_)
  by_cases q : C j = true
  · rw [if_pos q, if_pos q, if_pos q, h]
    grind
  · rw [if_neg q, if_neg q, if_neg q]
    omega
def DD (R : Nat → Nat → Int) (S : Cs) : Nat → Cs → Int
  | 0, _ => 1
  | t + 1, C => if S t = true then ro (R t) (DD R S t) C else DD R S t C
theorem DD_y {R : Nat → Nat → Int} {S : Cs} {t : Nat} (h : S t = true) : DD R S (t + 1) = ro (R t) (DD R S t) := funext (fun C => if_pos h)
theorem DD_n {R : Nat → Nat → Int} {S : Cs} {t : Nat} (h : ¬ S t = true) : DD R S (t + 1) = DD R S t := funext (fun C => if_neg h)
theorem DD_al {R : Nat → Nat → Int} {S : Cs} {i : Nat} {u : Nat → Int} (hi : S i = true) (hu : R i = u) : ∀ {t : Nat}, i < t → ∀ C, ro u (DD R S t) C = 0
  | 0, h, _ => by omega
  | t + 1, h, C => by
    by_cases q : i = t
    · subst q
      rw [DD_y hi, hu]
      have := ro_sw u u (DD R S i) C
      omega
    · have ih := DD_al hi hu (t := t) (by omega)
      by_cases h2 : S t = true
      · rw [DD_y h2, ro_sw, ro_0 ih]
        rfl
      · rw [DD_n h2]
        exact ih C
theorem DD_eq {R : Nat → Nat → Int} {S : Cs} {i j : Nat} (hi : S i = true) (hj : S j = true) (hij : i < j) (hR : R i = R j) : ∀ {t : Nat}, j < t → ∀ C, DD R S t C = 0
  | 0, h, _ => by omega
  | t + 1, h, C => by
    by_cases q : j = t
    · subst q
      rw [DD_y hj]
      exact DD_al hi hR hij C
    · have ih := DD_eq hi hj hij hR (t := t) (by omega)
      by_cases h2 : S t = true
      · rw [DD_y h2]
        exact ro_0 ih C
      · rw [DD_n h2]
        exact ih C
def upR (R : Nat → Nat → Int) (j : Nat) (v : Nat → Int) : Nat → Nat → Int := fun t => if t = j then v else R t
theorem upR_e {R : Nat → Nat → Int} {j : Nat} {v : Nat → Int} : upR R j v j = v := if_pos rfl
theorem upR_n {R : Nat → Nat → Int} {j t : Nat} {v : Nat → Int} (h : t ≠ j) : upR R j v t = R t := if_neg h
theorem upR_c {R : Nat → Nat → Int} {i j : Nat} {u v : Nat → Int} (h : i ≠ j) : upR (upR R i u) j v = upR (upR R j v) i u := by
  funext t
  unfold upR
  by_cases h1 : t = i
  · rw [if_pos h1, if_pos h1, if_neg (by omega)]
  · rw [if_neg h1, if_neg h1]
theorem DD_dep {R R' : Nat → Nat → Int} {S : Cs} : ∀ {t : Nat} {C : Cs}, (∀ k, k < t → S k = true → ∀ j, C j = true → R k j = R' k j) → DD R S t C = DD R' S t C
  | 0, _, _ => rfl
  | t + 1, C, h => by
    by_cases h2 : S t = true
    · rw [DD_y h2, DD_y h2]
      unfold ro
      refine sm_congr (fun j _ => ?_)
      by_cases q : C j = true
      · rw [if_pos q, if_pos q, h t (by omega) h2 j q, DD_dep (fun k hk hS i hi => h k (by omega) hS i (rmv_t.mp hi).1)]
      · rw [if_neg q, if_neg q]
    · rw [DD_n h2, DD_n h2]
      exact DD_dep (fun k hk hS i hi => h k (by omega) hS i hi)
theorem DD_lo {R : Nat → Nat → Int} {S : Cs} {j : Nat} {v : Nat → Int} {t : Nat} (ht : t ≤ j) : DD (upR R j v) S t = DD R S t := funext (fun C => DD_dep (fun k hk _ i _ => by rw [upR_n (by omega)]))
theorem DD_lin {R : Nat → Nat → Int} {S : Cs} {j : Nat} (hj : S j = true) (u w : Nat → Int) (c : Int) : ∀ {t : Nat}, j < t → ∀ C, DD (upR R j (fun i => u i + c * w i)) S t C = DD (upR R j u) S t C + c * DD (upR R j w) S t C
  | 0, h, _ => by omega
  | t + 1, h, C => by
    by_cases q : j = t
    · subst q
      rw [DD_y hj, DD_y hj, DD_y hj, upR_e, upR_e, upR_e, DD_lo (Nat.le_refl j), DD_lo (Nat.le_refl j), DD_lo (Nat.le_refl j)]
      exact ro_lin u w c _ C
    · have ih := DD_lin hj u w c (t := t) (R := R) (by omega)
      by_cases h2 : S t = true
      · rw [DD_y h2, DD_y h2, DD_y h2, upR_n (fun z => q z.symm), upR_n (fun z => q z.symm), upR_n (fun z => q z.symm)]
        exact ro_F _ c _ _ _ C ih
      · rw [DD_n h2, DD_n h2, DD_n h2]
        exact ih C
/-- two rows change places -/
theorem DD_sw {R : Nat → Nat → Int} {S : Cs} {i j : Nat} (hi : S i = true) (hj : S j = true) (hne : i ≠ j) (u v : Nat → Int) {t : Nat} (hit : i < t) (hjt : j < t) (C : Cs) : DD (upR (upR R i u) j v) S t C = -(DD (upR (upR R i v) j u) S t C) := by
  have hz : ∀ x : Nat → Int, DD (upR (upR R i x) j x) S t C = 0 := fun x => by
    rcases Nat.lt_or_ge i j with q | q
    · exact DD_eq hi hj q (by rw [upR_n (by omega), upR_e, upR_e]) hjt C
    · exact DD_eq hj hi (by omega) (by rw [upR_n hne, upR_e, upR_e]) hit C
  have h1 := hz (fun k => u k + 1 * v k)
  rw [DD_lin hj u v 1 hjt C] at h1
  have h2 : ∀ x : Nat → Int, DD (upR (upR R i (fun k => u k + 1 * v k)) j x) S t C = DD (upR (upR R i u) j x) S t C + 1 * DD (upR (upR R i v) j x) S t C := fun x => by
    rw [upR_c hne, upR_c hne, upR_c hne]
    exact DD_lin hi u v 1 hit C
  rw [h2, h2, hz u, hz v] at h1
  omega
def e1v (l : Nat) : Nat → Int := fun k => if k = l then 1 else 0
theorem DD_S {R : Nat → Nat → Int} {S S' : Cs} : ∀ {t : Nat}, (∀ k, k < t → S k = S' k) → DD R S t = DD R S' t
  | 0, _ => rfl
  | t + 1, h => by
    have ih := DD_S (R := R) (S := S) (S' := S') (t := t) (fun k hk => h k (by omega))
    by_cases h2 : S t = true
    · rw [DD_y h2, DD_y (by rw [← h t (by omega)]; exact h2), ih]
    · rw [DD_n h2, DD_n (by rw [← h t (by omega)]; exact h2), ih]
/-- a row with a single 1 -/
theorem DD_un {R : Nat → Nat → Int} {S : Cs} {i : Nat} (hi : S i = true) (hi6 : i < 6) (hR : R i = e1v i) : ∀ {t : Nat}, i < t → t ≤ 6 → ∀ C, DD R S t C = if C i = true then sn C i * sgz (abt S i t) * DD R (rmv S i) t (rmv C i) else 0
  | 0, h, _, _ => by omega
  | t + 1, h, h6, C => by
    by_cases q : i = t
    · subst q
      have hlo : DD R (rmv S i) (i + 1) = DD R S i := by
        rw [DD_n (fun z => (rmv_t.mp z).2 rfl)]
        exact DD_S (fun k hk => by
          unfold rmv
          have : decide (k = i) = false := decide_eq_false (by omega)
          rw [this]
          simp)
      rw [DD_y hi, hR, hlo]
      have hab : ∀ t : Nat, t ≤ i + 1 → abt S i t = 0 := by
        intro t
        induction t with
        | zero => intro _; rfl
        | succ t ih =>
          intro ht
          show abt S i t + (if i < t ∧ S t = true then 1 else 0) = 0
          rw [ih (by omega), if_neg (by omega)]
      rw [hab (i + 1) (Nat.le_refl _)]
      unfold ro
      rw [sm_1 (i := i) (fun k hk => by
        unfold e1v
        rw [if_neg hk]
        split
        · rw [Int.mul_zero, Int.zero_mul]
        · rfl) hi6]
      by_cases z : C i = true
      · rw [if_pos z, if_pos z]
        unfold e1v
        rw [if_pos rfl]
        have : sgz 0 = 1 := rfl
        rw [this]
      · rw [if_neg z, if_neg z]
    · have ih := DD_un hi hi6 hR (t := t) (by omega) (by omega)
      by_cases h2 : S t = true
      · have h3 : rmv S i t = true := rmv_t.mpr ⟨h2, fun z => q z.symm⟩
        have hst : abt S i (t + 1) = abt S i t + 1 := by
          show abt S i t + (if i < t ∧ S t = true then 1 else 0) = _
          rw [if_pos ⟨by omega, h2⟩]
        rw [DD_y h2, DD_y h3, hst, sgz_s]
        by_cases z : C i = true
        · rw [if_pos z]
          unfold ro
          rw [← sm_mul]
          refine sm_congr (fun j hj => ?_)
          by_cases z2 : C j = true
          · rw [if_pos z2, ih]
            by_cases z3 : j = i
            · subst z3
              rw [if_neg (fun y => (rmv_t.mp y).2 rfl), if_neg (fun y => (rmv_t.mp y).2 rfl)]
              omega
            · rw [if_pos (rmv_t.mpr ⟨z, fun y => z3 y.symm⟩), if_pos (rmv_t.mpr ⟨z2, z3⟩), rmv_c C j i]
              have hsw := sn_sw z z2 (fun y => z3 y.symm) hi6 hj
              have g1 : sn C j * R t j * (sn (rmv C j) i * sgz (abt S i t) * DD R (rmv S i) t (rmv (rmv C i) j)) = (sn C j * sn (rmv C j) i) * (R t j * sgz (abt S i t) * DD R (rmv S i) t (rmv (rmv C i) j)) := by grind
              rw [g1, hsw]
              grind
          · rw [if_neg z2, if_neg (fun y => z2 (rmv_t.mp y).1)]
            omega
        · rw [if_neg z]
          refine sm_0 (fun j _ => ?_)
          by_cases z2 : C j = true
          · rw [if_pos z2, ih, if_neg (fun y => z (rmv_t.mp y).1)]
            omega
          · rw [if_neg z2]
      · have h3 : ¬ rmv S i t = true := fun z => h2 (rmv_t.mp z).1
        have hst : abt S i (t + 1) = abt S i t := by
          show abt S i t + (if i < t ∧ S t = true then 1 else 0) = _
          rw [if_neg (fun z => h2 z.2)]
          omega
        rw [DD_n h2, DD_n h3, hst]
        exact ih C
