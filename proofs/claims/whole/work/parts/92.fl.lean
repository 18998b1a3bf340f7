/-! Sums of principal minors, and the matrices of the method of Faddeev and LeVerrier. -/
def ad (S : Cs) (i : Nat) : Cs := fun k => S k || decide (k = i)
theorem ad_t {S : Cs} {i k : Nat} : ad S i k = true ↔ S k = true ∨ k = i := by
  unfold ad
  simp
theorem ad_e {S : Cs} {i : Nat} : ad S i i = true := ad_t.mpr (Or.inr rfl)
theorem ad_n {S : Cs} {i k : Nat} (h : k ≠ i) : ad S i k = S k := by
  unfold ad
  rw [decide_eq_false h, Bool.or_false]
theorem ad_c (S : Cs) (i j : Nat) : ad (ad S i) j = ad (ad S j) i := by
  funext k
  unfold ad
  cases S k <;> simp [Bool.or_comm]
theorem rm_ad {S : Cs} {i : Nat} (h : ¬ S i = true) : rmv (ad S i) i = S := by
  funext k
  unfold rmv ad
  by_cases q : k = i
  · rw [decide_eq_true q, q]
    simp only [Bool.or_true, Bool.not_true, Bool.and_false]
    cases hs : S i
    · rfl
    · exact absurd hs h
  · rw [decide_eq_false q]
    simp
def cdS (S : Cs) : Nat → Nat
  | 0 => 0
  | t + 1 => cdS S t + if S t = true then 1 else 0
theorem cd_ad {S : Cs} {i : Nat} (h : ¬ S i = true) : ∀ t : Nat, cdS (ad S i) t = cdS S t + if i < t then 1 else 0
  | 0 => rfl
  | t + 1 => by
    show cdS (ad S i) t + (if ad S i t = true then 1 else 0) = cdS S t + (if S t = true then 1 else 0) + _
    rw [cd_ad h t]
    by_cases q : t = i
    · rw [q, if_pos ad_e, if_neg h, if_neg (by omega), if_pos (by omega)]
    · rw [ad_n q]
      by_cases q2 : i < t
      · rw [if_pos q2, if_pos (show i < t + 1 by omega)]
        omega
      · rw [if_neg q2, if_neg (show ¬ i < t + 1 by omega)]
        omega
theorem cd_cut {S : Cs} {n : Nat} (h : ∀ k, n ≤ k → S k = false) : ∀ {t : Nat}, n ≤ t → cdS S t = cdS S n
  | 0, ht => by rw [show n = 0 by omega]
  | t + 1, ht => by
    by_cases q : n = t + 1
    · rw [q]
    · show cdS S t + (if S t = true then 1 else 0) = _
      rw [cd_cut h (by omega), h t (by omega), if_neg (by decide)]
      omega
/-- sums over the subsets of the first n places -/
def sumS : Nat → (Cs → Int) → Int
  | 0, f => f (fun _ => false)
  | n + 1, f => sumS n f + sumS n (fun S => f (ad S n))
def inn (n : Nat) (S : Cs) : Prop := ∀ k, n ≤ k → S k = false
theorem inn_ad {n : Nat} {S : Cs} (h : inn n S) : inn (n + 1) (ad S n) := fun k hk => by rw [ad_n (by omega)]; exact h k (by omega)
theorem inn_up {n : Nat} {S : Cs} (h : inn n S) : inn (n + 1) S := fun k hk => h k (by omega)
theorem sumS_congr : ∀ {n : Nat} {f g : Cs → Int}, (∀ S, inn n S → f S = g S) → sumS n f = sumS n g
  | 0, f, g, h => h _ (fun _ _ => rfl)
  | n + 1, f, g, h => by
    show sumS n f + sumS n (fun S => f (ad S n)) = sumS n g + sumS n (fun S => g (ad S n))
    rw [sumS_congr (fun S hS => h S (inn_up hS)), sumS_congr (g := fun S => g (ad S n)) (fun S hS => h _ (inn_ad hS))]
theorem sumS_add : ∀ {n : Nat} (f g : Cs → Int), sumS n (fun S => f S + g S) = sumS n f + sumS n g
  | 0, _, _ => rfl
  | n + 1, f, g => by
    show sumS n (fun S => f S + g S) + sumS n (fun S => f (ad S n) + g (ad S n)) = sumS n f + sumS n (fun S => f (ad S n)) + (sumS n g + sumS n (fun S => g (ad S n)))
    rw [sumS_add f g, sumS_add (fun S => f (ad S n)) (fun S => g (ad S n))]
    omega
theorem sumS_mul (c : Int) : ∀ {n : Nat} (f : Cs → Int), sumS n (fun S => c * f S) = c * sumS n f
  | 0, _ => rfl
  | n + 1, f => by
    show sumS n (fun S => c * f S) + sumS n (fun S => c * f (ad S n)) = c * (sumS n f + sumS n (fun S => f (ad S n)))
    rw [sumS_mul c f, sumS_mul c (fun S => f (ad S n)), Int.mul_add]
theorem sumS_0 : ∀ {n : Nat}, sumS n (fun _ => 0) = 0
  | 0 => rfl
  | n + 1 => by
    show sumS n (fun _ => 0) + sumS n (fun _ => 0) = 0
    rw [sumS_0]
    rfl
theorem sumS_sm {n : Nat} (F : Nat → Cs → Int) : ∀ m : Nat, sumS n (fun S => sm (fun l => F l S) m) = sm (fun l => sumS n (F l)) m
  | 0 => sumS_0
  | m + 1 => by
    show sumS n (fun S => sm (fun l => F l S) m + F m S) = sm (fun l => sumS n (F l)) m + sumS n (F m)
    rw [sumS_add, sumS_sm F m]
theorem sumS_tg : ∀ {n i : Nat}, i < n → ∀ g : Cs → Int, sumS n (fun S => if S i = true then 0 else g (ad S i)) = sumS n (fun S => if S i = true then g S else 0)
  | 0, i, h, _ => by omega
  | n + 1, i, h, g => by
    show sumS n (fun S => if S i = true then 0 else g (ad S i)) + sumS n (fun S => if ad S n i = true then 0 else g (ad (ad S n) i)) = sumS n (fun S => if S i = true then g S else 0) + sumS n (fun S => if ad S n i = true then g (ad S n) else 0)
    by_cases q : i = n
    · subst q
      have e1 : sumS i (fun S => if S i = true then 0 else g (ad S i)) = sumS i (fun S => g (ad S i)) := sumS_congr (fun S hS => by rw [hS i (Nat.le_refl i), if_neg (by decide)])
      have e2 : sumS i (fun S => if ad S i i = true then 0 else g (ad (ad S i) i)) = 0 := (sumS_congr (g := fun _ => 0) (fun S _ => if_pos ad_e)).trans sumS_0
      have e3 : sumS i (fun S => if S i = true then g S else 0) = 0 := (sumS_congr (g := fun _ => 0) (fun S hS => by rw [hS i (Nat.le_refl i), if_neg (by decide)])).trans sumS_0
      have e4 : sumS i (fun S => if ad S i i = true then g (ad S i) else 0) = sumS i (fun S => g (ad S i)) := sumS_congr (fun S _ => if_pos ad_e)
      rw [e1, e2, e3, e4]
      omega
    · have ih1 := sumS_tg (n := n) (i := i) (by omega) g
      have ih2 := sumS_tg (n := n) (i := i) (by omega) (fun S => g (ad S n))
      rw [ih1]
      congr 1
      have e1 : sumS n (fun S => if ad S n i = true then 0 else g (ad (ad S n) i)) = sumS n (fun S => if S i = true then 0 else g (ad (ad S i) n)) := sumS_congr (fun S _ => by rw [ad_n q, ad_c])
      have e2 : sumS n (fun S => if ad S n i = true then g (ad S n) else 0) = sumS n (fun S => if S i = true then g (ad S n) else 0) := sumS_congr (fun S _ => by rw [ad_n q])
      rw [e1, e2]
      exact ih2
section
variable {R : Nat → Nat → Int}
def aj (R : Nat → Nat → Int) (S : Cs) (l j : Nat) : Int := DD (upR R j (e1v l)) S 6 S
def pm (R : Nat → Nat → Int) (S : Cs) : Int := DD R S 6 S
theorem DD_z {S : Cs} {j : Nat} (hj : S j = true) (hj6 : j < 6) (C : Cs) : DD (upR R j (fun _ => 0)) S 6 C = 0 := by
  have h := DD_lin (R := R) hj (fun _ => 0) (fun _ => 0) (-1) (t := 6) hj6 C
  have e1 : (fun i : Nat => (fun _ : Nat => (0 : Int)) i + -1 * (fun _ : Nat => (0 : Int)) i) = fun _ => 0 := by
    funext i
    omega
  rw [e1] at h
  omega
theorem aj_sum {S : Cs} {j n : Nat} (hj : S j = true) (hj6 : j < 6) (hS : inn n S) (v : Nat → Int) : sm (fun l => if S l = true then v l * aj R S l j else 0) n = DD (upR R j v) S 6 S := by
  have key : ∀ m : Nat, sm (fun l => if S l = true then v l * aj R S l j else 0) m = DD (upR R j (fun l => if l < m ∧ S l = true then v l else 0)) S 6 S := by
    intro m
    induction m with
    | zero =>
      have e1 : (fun l => if l < 0 ∧ S l = true then v l else 0) = fun _ => 0 := funext (fun l => if_neg (fun z => Nat.not_lt_zero l z.1))
      rw [e1, DD_z hj hj6]
      rfl
    | succ m ih =>
      show _ + (if S m = true then v m * aj R S m j else 0) = _
      rw [ih]
      have h := DD_lin (R := R) hj (fun l => if l < m ∧ S l = true then v l else 0) (e1v m) (if S m = true then v m else 0) (t := 6) hj6 S
      have e1 : (fun i : Nat => (fun l => if l < m ∧ S l = true then v l else 0) i + (if S m = true then v m else 0) * e1v m i) = fun l => if l < m + 1 ∧ S l = true then v l else 0 := by
        funext i
        unfold e1v
        dsimp only
        by_cases q : i = m
        · subst q
          rw [if_neg (by omega), if_pos rfl]
          by_cases q2 : S i = true
          · rw [if_pos q2, if_pos ⟨by omega, q2⟩]
            omega
          · rw [if_neg q2, if_neg (fun z => q2 z.2)]
            omega
        · rw [if_neg q, Int.mul_zero, Int.add_zero]
          by_cases q2 : i < m ∧ S i = true
          · rw [if_pos q2, if_pos (show i < m + 1 ∧ S i = true from ⟨by omega, q2.2⟩)]
          · rw [if_neg q2, if_neg (show ¬ (i < m + 1 ∧ S i = true) from fun z => q2 ⟨by omega, z.2⟩)]
      rw [e1] at h
      rw [h]
      by_cases q : S m = true
      · rw [if_pos q, if_pos q]
        rfl
      · rw [if_neg q, if_neg q]
        omega
  rw [key n]
  refine DD_dep (fun k _ _ l hl => ?_)
  unfold upR
  by_cases q : k = j
  · rw [if_pos q, if_pos q]
    have : l < n := by
      rcases Nat.lt_or_ge l n with z | z
      · exact z
      · rw [hS l z] at hl
        exact absurd hl (by decide)
    rw [if_pos ⟨this, hl⟩]
  · rw [if_neg q, if_neg q]
theorem DD_un6 {S : Cs} {i : Nat} (hi : S i = true) (hi6 : i < 6) {Q : Nat → Nat → Int} (hQ : Q i = e1v i) : DD Q S 6 S = DD Q (rmv S i) 6 (rmv S i) := by
  rw [DD_un hi hi6 hQ hi6 (Nat.le_refl 6), if_pos hi]
  have : sn S i = sgz (abt S i 6) := rfl
  rw [this, sgz_sq, Int.one_mul]
theorem DD_rm {S : Cs} {i : Nat} (hi : ¬ S i = true) {v : Nat → Int} : DD (upR R i v) S 6 S = DD R S 6 S := DD_dep (fun k _ hk l _ => by
  have hne : k ≠ i := fun z => hi (by rw [← z]; exact hk)
  rw [upR_n hne])
theorem aj_d {S : Cs} {i : Nat} (hi : S i = true) (hi6 : i < 6) : aj R S i i = pm R (rmv S i) := by
  unfold aj pm
  rw [DD_un6 hi hi6 upR_e, DD_rm (fun z => (rmv_t.mp z).2 rfl)]
theorem upR_s (j : Nat) : upR R j (R j) = R := by
  funext t
  unfold upR
  by_cases q : t = j
  · rw [if_pos q, q]
  · rw [if_neg q]
theorem aj_row {S : Cs} {i j : Nat} (hj : S j = true) (hj6 : j < 6) (hi6 : i < 6) : DD (upR R j (R i)) S 6 S = if S i = true then (if i = j then pm R S else 0) else -(aj R (ad S i) i j) := by
  by_cases hi : S i = true
  · rw [if_pos hi]
    by_cases q : i = j
    · rw [if_pos q, q, upR_s]
      rfl
    · rw [if_neg q]
      rcases Nat.lt_or_ge i j with z | z
      · exact DD_eq hi hj z (by rw [upR_n q, upR_e]) hj6 S
      · exact DD_eq hj hi (by omega) (by rw [upR_n q, upR_e]) hi6 S
  · rw [if_neg hi]
    have hne : i ≠ j := fun z => hi (z ▸ hj)
    have hij : ad S i j = true := ad_t.mpr (Or.inl hj)
    unfold aj
    have h1 := DD_sw (R := R) (S := ad S i) ad_e hij hne (R i) (e1v i) hi6 hj6 (ad S i)
    rw [upR_s] at h1
    rw [h1, Int.neg_neg, DD_un6 ad_e hi6 (by rw [upR_n hne, upR_e]), rm_ad hi, upR_c hne, DD_rm hi]
theorem aj_AB {S : Cs} {i j n : Nat} (hj : S j = true) (hj6 : j < 6) (hi6 : i < 6) (hS : inn n S) : sm (fun l => if S l = true then R i l * aj R S l j else 0) n = if S i = true then (if i = j then pm R S else 0) else -(aj R (ad S i) i j) := by
  rw [aj_sum hj hj6 hS, aj_row hj hj6 hi6]
def Bk (R : Nat → Nat → Int) (n k l j : Nat) : Int := sumS n (fun S => if cdS S 6 = k ∧ S l = true ∧ S j = true then aj R S l j else 0)
def ek (R : Nat → Nat → Int) (n k : Nat) : Int := sumS n (fun S => if cdS S 6 = k then pm R S else 0)
theorem AB_S {n k i j : Nat} (hn : n ≤ 6) (hi : i < n) (hj : j < n) : sm (fun l => R i l * Bk R n k l j) n = sumS n (fun S => if cdS S 6 = k ∧ S j = true then (if S i = true then (if i = j then pm R S else 0) else -(aj R (ad S i) i j)) else 0) := by
  have e1 : sm (fun l => R i l * Bk R n k l j) n = sm (fun l => sumS n (fun S => R i l * (if cdS S 6 = k ∧ S l = true ∧ S j = true then aj R S l j else 0))) n := sm_congr (fun l _ => by rw [sumS_mul]; rfl)
  rw [e1, ← sumS_sm]
  refine sumS_congr (fun S hS => ?_)
  by_cases q : cdS S 6 = k ∧ S j = true
  · rw [if_pos q, ← aj_AB q.2 (by omega) (by omega) hS]
    refine sm_congr (fun l _ => ?_)
    by_cases q2 : S l = true
    · rw [if_pos q2, if_pos ⟨q.1, q2, q.2⟩]
    · rw [if_neg q2, if_neg (fun z => q2 z.2.1)]
      omega
  · rw [if_neg q]
    refine sm_0 (fun l _ => ?_)
    rw [if_neg (fun z => q ⟨z.1, z.2.2⟩)]
    omega
theorem AB_d {n k i : Nat} (hn : n ≤ 6) (hi : i < n) : sm (fun l => R i l * Bk R n k l i) n = sumS n (fun S => if cdS S 6 = k ∧ S i = true then pm R S else 0) := by
  rw [AB_S hn hi hi]
  refine sumS_congr (fun S _ => ?_)
  by_cases q : cdS S 6 = k ∧ S i = true
  · rw [if_pos q, if_pos q, if_pos q.2, if_pos rfl]
  · rw [if_neg q, if_neg q]
theorem AB {n k i j : Nat} (hn : n ≤ 6) (hi : i < n) (hj : j < n) : sm (fun l => R i l * Bk R n k l j) n = (if i = j then ek R n k else 0) - Bk R n (k + 1) i j := by
  have hcd : ∀ S : Cs, ¬ S i = true → (cdS (ad S i) 6 = k + 1 ↔ cdS S 6 = k) := fun S hS => by
    rw [cd_ad hS, if_pos (by omega)]
    omega
  by_cases hij : i = j
  · subst hij
    rw [if_pos rfl, AB_d hn hi]
    have e1 : Bk R n (k + 1) i i = sumS n (fun S => if S i = true then 0 else (if cdS S 6 = k then pm R S else 0)) := by
      have h := sumS_tg hi (fun S => if cdS S 6 = k + 1 then aj R S i i else 0)
      have e2 : Bk R n (k + 1) i i = sumS n (fun S => if S i = true then (if cdS S 6 = k + 1 then aj R S i i else 0) else 0) := sumS_congr (fun S _ => by
        by_cases q : S i = true
        · rw [if_pos q]
          by_cases q2 : cdS S 6 = k + 1
          · rw [if_pos q2, if_pos ⟨q2, q, q⟩]
          · rw [if_neg q2, if_neg (fun z => q2 z.1)]
        · rw [if_neg q, if_neg (fun z => q z.2.1)])
      rw [e2, ← h]
      refine sumS_congr (fun S _ => ?_)
      by_cases q : S i = true
      · rw [if_pos q, if_pos q]
      · rw [if_neg q, if_neg q, aj_d ad_e (by omega), rm_ad q]
        by_cases q2 : cdS S 6 = k
        · rw [if_pos q2, if_pos ((hcd S q).mpr q2)]
        · rw [if_neg q2, if_neg (fun z => q2 ((hcd S q).mp z))]
    have e3 : ek R n k = sumS n (fun S => if cdS S 6 = k ∧ S i = true then pm R S else 0) + Bk R n (k + 1) i i := by
      rw [e1, ← sumS_add]
      refine sumS_congr (fun S _ => ?_)
      by_cases q : S i = true
      · rw [if_pos q]
        by_cases q2 : cdS S 6 = k
        · rw [if_pos q2, if_pos ⟨q2, q⟩]
          omega
        · rw [if_neg q2, if_neg (fun z => q2 z.1)]
          rfl
      · rw [if_neg q, if_neg (show ¬ (cdS S 6 = k ∧ S i = true) from fun z => q z.2)]
        omega
    omega
  · rw [if_neg hij, AB_S hn hi hj]
    have h := sumS_tg hi (fun S => if cdS S 6 = k + 1 ∧ S j = true then aj R S i j else 0)
    have e2 : Bk R n (k + 1) i j = sumS n (fun S => if S i = true then (if cdS S 6 = k + 1 ∧ S j = true then aj R S i j else 0) else 0) := sumS_congr (fun S _ => by
      by_cases q : S i = true
      · rw [if_pos q]
        by_cases q2 : cdS S 6 = k + 1 ∧ S j = true
        · rw [if_pos q2, if_pos ⟨q2.1, q, q2.2⟩]
        · rw [if_neg q2, if_neg (fun z => q2 ⟨z.1, z.2.2⟩)]
      · rw [if_neg q, if_neg (fun z => q z.2.1)])
    have e3 : sumS n (fun S => if cdS S 6 = k ∧ S j = true then (if S i = true then (if i = j then pm R S else 0) else -(aj R (ad S i) i j)) else 0) = -1 * Bk R n (k + 1) i j := by
      rw [e2, ← h, ← sumS_mul]
      refine sumS_congr (fun S _ => ?_)
      by_cases q : S i = true
      · rw [if_pos q, if_pos q, if_neg hij]
        split <;> rfl
      · rw [if_neg q, if_neg q, ad_n (fun z => hij z.symm)]
        by_cases q2 : cdS S 6 = k ∧ S j = true
        · rw [if_pos q2, if_pos ⟨(hcd S q).mpr q2.1, q2.2⟩]
          omega
        · rw [if_neg q2, if_neg (fun z => q2 ⟨(hcd S q).mp z.1, z.2⟩)]
          rfl
    rw [e3]
    omega
theorem AB_tr {n k : Nat} (hn : n ≤ 6) : sm (fun i => sm (fun l => R i l * Bk R n k l i) n) n = k * ek R n k := by
  have e1 : sm (fun i => sm (fun l => R i l * Bk R n k l i) n) n = sm (fun i => sumS n (fun S => if cdS S 6 = k ∧ S i = true then pm R S else 0)) n := sm_congr (fun i hi => AB_d hn hi)
  rw [e1, ← sumS_sm]
  unfold ek
  rw [← sumS_mul]
  refine sumS_congr (fun S hS => ?_)
  by_cases q : cdS S 6 = k
  · rw [if_pos q]
    have key : ∀ m : Nat, sm (fun i => if cdS S 6 = k ∧ S i = true then pm R S else 0) m = (cdS S m : Nat) * pm R S := by
      intro m
      induction m with
      | zero =>
        show (0 : Int) = ((0 : Nat) : Int) * pm R S
        omega
      | succ m ih =>
        show _ + (if cdS S 6 = k ∧ S m = true then pm R S else 0) = ((cdS S m + (if S m = true then 1 else 0) : Nat) : Int) * pm R S
        rw [ih]
        by_cases q2 : S m = true
        · rw [if_pos ⟨q, q2⟩, if_pos q2, Int.natCast_add, Int.add_mul]
          have : ((1 : Nat) : Int) * pm R S = pm R S := Int.one_mul _
          rw [this]
        · rw [if_neg (fun z => q2 z.2), if_neg q2, Nat.add_zero, Int.add_zero]
    rw [key n, ← cd_cut hS hn, q]
  · rw [if_neg q, sm_0 (fun i _ => if_neg (fun z => q z.1))]
    omega
theorem cd_0 {S : Cs} {i : Nat} (h : S i = true) : ∀ {t : Nat}, i < t → 0 < cdS S t
  | 0, ht => by omega
  | t + 1, ht => by
    show 0 < cdS S t + (if S t = true then 1 else 0)
    by_cases q : i = t
    · rw [← q, if_pos h]
      omega
    · have := cd_0 h (t := t) (by omega)
      omega
theorem Bk_0 {n l j : Nat} (hl : l < 6) : Bk R n 0 l j = 0 := by
  unfold Bk
  refine (sumS_congr (g := fun _ => 0) (fun S _ => ?_)).trans sumS_0
  rw [if_neg]
  rintro ⟨h1, h2, -⟩
  have := cd_0 h2 hl
  omega
theorem ek_0 : ∀ {n : Nat}, n ≤ 6 → ek R n 0 = 1
  | 0, _ => by
    show (if cdS (fun _ => false) 6 = 0 then pm R (fun _ => false) else 0) = 1
    rfl
  | n + 1, hn => by
    have ih := ek_0 (n := n) (by omega)
    show sumS n (fun S => if cdS S 6 = 0 then pm R S else 0) + sumS n (fun S => if cdS (ad S n) 6 = 0 then pm R (ad S n) else 0) = 1
    have e1 : sumS n (fun S => if cdS (ad S n) 6 = 0 then pm R (ad S n) else 0) = 0 := by
      refine (sumS_congr (g := fun _ => 0) (fun S _ => ?_)).trans sumS_0
      rw [if_neg]
      have := cd_0 (S := ad S n) (i := n) ad_e (t := 6) (by omega)
      omega
    rw [e1]
    have : sumS n (fun S => if cdS S 6 = 0 then pm R S else 0) = 1 := ih
    omega
theorem Bk_1 {n i j : Nat} (hn : n ≤ 6) (hi : i < n) (hj : j < n) : Bk R n 1 i j = if i = j then 1 else 0 := by
  have h := AB (R := R) (k := 0) hn hi hj
  have h0 : sm (fun l => R i l * Bk R n 0 l j) n = 0 := sm_0 (fun l hl => by rw [Bk_0 (by omega), Int.mul_zero])
  rw [h0, ek_0 hn] at h
  by_cases q : i = j
  · rw [if_pos q] at h ⊢
    have h2 : Bk R n (0 + 1) i j = Bk R n 1 i j := rfl
    omega
  · rw [if_neg q] at h ⊢
    have h2 : Bk R n (0 + 1) i j = Bk R n 1 i j := rfl
    omega
end
