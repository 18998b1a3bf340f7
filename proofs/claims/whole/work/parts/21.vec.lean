/-! Vectors over the field with e + 2 elements (e = 0, 1); numbers of vectors. -/
abbrev Kf (e : Nat) : Type := Fin (e + 2)
abbrev Vc (e : Nat) : Type := Nat → Kf e
def pI (e : Nat) : Int := (e : Int) + 2
def vl {e : Nat} (x : Kf e) : Int := (x.val : Int)
def kI (e : Nat) (z : Int) : Kf e := Fin.ofNat (e + 2) (z % pI e).toNat
theorem pI23 {e : Nat} (he : e ≤ 1) : p23 (pI e) := by
  unfold p23 pI
  omega
theorem vl_rng {e : Nat} (x : Kf e) : 0 ≤ vl x ∧ vl x ≤ pI e - 1 := by
  have := x.isLt
  unfold vl pI
  omega
theorem vl_inj {e : Nat} {x y : Kf e} (h : vl x = vl y) : x = y := by
  apply Fin.ext
  unfold vl at h
  omega
theorem vl_add {e : Nat} (x y : Kf e) : vl (x + y) = (vl x + vl y) % pI e := by
  unfold vl pI
  rw [Fin.val_add, Int.natCast_emod, Int.natCast_add, Int.natCast_add]
  rfl
theorem vl_mul {e : Nat} (x y : Kf e) : vl (x * y) = (vl x * vl y) % pI e := by
  unfold vl pI
  rw [Fin.val_mul]
  rw [Int.natCast_emod, Int.natCast_mul, Int.natCast_add]
  rfl
theorem vl_kI {e : Nat} (z : Int) : vl (kI e z) = z % pI e := by
  unfold vl kI
  rw [Fin.val_ofNat]
  have hp : pI e = ((e + 2 : Nat) : Int) := by unfold pI; omega
  have h1 := Int.emod_nonneg z (by rw [hp]; omega : pI e ≠ 0)
  have h2 := Int.emod_lt_of_pos z (by rw [hp]; omega : 0 < pI e)
  rw [hp] at h1 h2 ⊢
  rw [Nat.mod_eq_of_lt (by omega)]
  omega
theorem kI_vl {e : Nat} (x : Kf e) : kI e (vl x) = x := by
  apply vl_inj
  rw [vl_kI]
  have := vl_rng x
  exact Int.emod_eq_of_lt this.1 (by omega)
theorem vl_0 {e : Nat} : vl (0 : Kf e) = 0 := rfl
theorem vl_1 {e : Nat} : vl (1 : Kf e) = 1 := rfl
theorem vl_eq0 {e : Nat} {x : Kf e} : vl x = 0 ↔ x = 0 := ⟨fun h => vl_inj (h.trans vl_0.symm), fun h => by rw [h]; rfl⟩
/-- 1 and 2 are their own inverses -/
theorem sq1 {e : Nat} (he : e ≤ 1) {x : Kf e} (hx : x ≠ 0) : x * x = 1 := by
  rcases (show e = 0 ∨ e = 1 by omega) with rfl | rfl
  · revert x
    decide
  · revert x
    decide
theorem ring_test {e : Nat} (a b c : Kf e) : (a + b) * c - b * c = c * a := by grind
def num {e : Nat} (n : Nat) (w : Vc e) : Int := nu (pI e) (fun i => vl (w i)) n
def toV (e : Nat) (n : Nat) (v : Int) : Vc e := fun i => if i < n then kI e (dg (pI e) v i) else 0
def sup {e : Nat} (n : Nat) (w : Vc e) : Prop := ∀ i, n ≤ i → w i = 0
theorem num_rng {e : Nat} (he : e ≤ 1) (n : Nat) (w : Vc e) : 0 ≤ num n w ∧ num n w < pI e ^ n := nu_rng (pI23 he) (fun i _ => vl_rng (w i))
theorem dg_nu {p : Int} (hp : p23 p) {d : Nat → Int} : ∀ {n i : Nat}, i < n → (∀ i, i < n → 0 ≤ d i ∧ d i ≤ p - 1) → dg p (nu p d n) i = d i
  | 0, i, h, _ => absurd h (Nat.not_lt_zero i)
  | n + 1, i, h, hd => by
    have h1 := nu_rng hp (d := d) (n := n) (fun i hi => hd i (by omega))
    have h2 := pw_pos hp n
    have hb := hp.b
    show (nu p d n + d n * p ^ n) / p ^ i % p = d i
    rcases Nat.lt_or_ge i n with q | q
    · have ih := dg_nu hp q (fun i hi => hd i (by omega))
      have e1 : d n * p ^ n = (d n * p ^ (n - i - 1) * p) * p ^ i := by
        rw [Int.mul_assoc, Int.mul_assoc, ← Int.pow_succ', ← Int.pow_add]
        congr 2
        omega
      have h3 := pw_pos hp i
      rw [e1, Int.add_mul_ediv_right _ _ (by omega), Int.add_mul_emod_self_right]
      exact ih
    · have : i = n := by omega
      subst this
      rw [Int.add_mul_ediv_right _ _ (by omega), Int.ediv_eq_zero_of_lt h1.1 h1.2, Int.zero_add]
      exact Int.emod_eq_of_lt (hd i (by omega)).1 (by have := (hd i (by omega)).2; omega)
theorem dg_num {e : Nat} (he : e ≤ 1) {n i : Nat} (w : Vc e) (h : i < n) : dg (pI e) (num n w) i = vl (w i) := dg_nu (pI23 he) h (fun i _ => vl_rng (w i))
theorem nu_dg {p v : Int} (hp : p23 p) : ∀ {n : Nat}, 0 ≤ v → v < p ^ n → nu p (fun i => dg p v i) n = v := by
  have key : ∀ n : Nat, 0 ≤ v → nu p (fun i => dg p v i) n = v % p ^ n := by
    intro n h0
    induction n with
    | zero =>
      show (0 : Int) = v % p ^ 0
      rw [Int.pow_zero]
      omega
    | succ n ih =>
      show nu p (fun i => dg p v i) n + dg p v n * p ^ n = v % p ^ (n + 1)
      rw [ih]
      unfold dg
      have h2 := pw_pos hp n
      have hb := hp.b
      have a1 := Int.emod_add_mul_ediv v (p ^ n)
      have a2 := Int.emod_add_mul_ediv (v / p ^ n) p
      have a3 := Int.emod_add_mul_ediv v (p ^ (n + 1))
      have a4 : v / p ^ (n + 1) = v / p ^ n / p := ediv_pw hp n
      rw [a4] at a3
      have a5 : p ^ n * (v / p ^ n) = p ^ n * (v / p ^ n % p) + p ^ (n + 1) * (v / p ^ n / p) := by
        rw [Int.pow_succ, Int.mul_assoc, ← Int.mul_add, a2]
      rw [Int.mul_comm (v / p ^ n % p)]
      omega
  intro n h0 h1
  rw [key n h0, Int.emod_eq_of_lt h0 h1]
theorem num_toV {e : Nat} (he : e ≤ 1) {n : Nat} {v : Int} (h0 : 0 ≤ v) (h1 : v < pI e ^ n) : num n (toV e n v) = v := by
  have e1 : num n (toV e n v) = nu (pI e) (fun i => dg (pI e) v i) n := by
    unfold num
    apply nu_congr
    intro i hi
    have h3 := dg_rng (p := pI e) (v := v) (pI23 he) i
    show vl (toV e n v i) = dg (pI e) v i
    unfold toV
    rw [if_pos hi, vl_kI]
    exact Int.emod_eq_of_lt h3.1 (by omega)
  rw [e1]
  exact nu_dg (pI23 he) h0 h1
theorem toV_sup {e n : Nat} {v : Int} : sup n (toV e n v) := fun i hi => by
  unfold toV
  rw [if_neg (by omega)]
theorem num_inj {e : Nat} (he : e ≤ 1) {n : Nat} {u w : Vc e} (h : num n u = num n w) {i : Nat} (hi : i < n) : u i = w i := by
  apply vl_inj
  rw [← dg_num he u hi, ← dg_num he w hi, h]
theorem sup_ext {e n : Nat} {u w : Vc e} (hu : sup n u) (hw : sup n w) (h : ∀ i, i < n → u i = w i) : u = w := by
  funext i
  rcases Nat.lt_or_ge i n with q | q
  · exact h i q
  · rw [hu i q, hw i q]
theorem num_inj2 {e : Nat} (he : e ≤ 1) {n : Nat} {u w : Vc e} (hu : sup n u) (hw : sup n w) (h : num n u = num n w) : u = w := sup_ext hu hw (fun i hi => num_inj he h hi)
theorem toV_num {e : Nat} (he : e ≤ 1) {n : Nat} {w : Vc e} (hw : sup n w) : toV e n (num n w) = w := num_inj2 he toV_sup hw (num_toV he (num_rng he n w).1 (num_rng he n w).2)
theorem num_ext {e n m : Nat} {w : Vc e} (hw : sup n w) (hn : n ≤ m) : num m w = num n w := by
  induction m with
  | zero => rw [Nat.le_zero.mp hn]
  | succ m ih =>
    rcases Nat.lt_or_ge m n with q | q
    · rw [show n = m + 1 by omega]
    · show num m w + vl (w m) * pI e ^ m = num n w
      rw [ih q, hw m q, vl_0]
      omega
/-- u and c times w -/
def lc {e : Nat} (u : Vc e) (c : Kf e) (w : Vc e) : Vc e := fun i => u i + c * w i
theorem sup_lc {e n : Nat} {u w : Vc e} {c : Kf e} (hu : sup n u) (hw : sup n w) : sup n (lc u c w) := fun i hi => by
  unfold lc
  rw [hu i hi, hw i hi]
  grind
/-- sums in the field -/
def sK {e : Nat} (f : Nat → Kf e) : Nat → Kf e
  | 0 => 0
  | n + 1 => sK f n + f n
theorem vl_sK {e : Nat} {f : Nat → Kf e} {g : Nat → Int} : ∀ {n : Nat}, (∀ i, i < n → vl (f i) = g i % pI e) → vl (sK f n) = sm g n % pI e
  | 0, _ => by
    show (0 : Int) = 0 % pI e
    rw [Int.zero_emod]
  | n + 1, h => by
    show vl (sK f n + f n) = (sm g n + g n) % pI e
    rw [vl_add, vl_sK (fun i hi => h i (by omega)), h n (by omega)]
    exact (Int.add_emod _ _ _).symm
/-- the product of a vector and a matrix -/
def mv {e : Nat} (n : Nat) (A : Nat → Nat → Kf e) (v : Vc e) : Vc e := fun j => if j < n then sK (fun i => v i * A i j) n else 0
theorem sup_mv {e n : Nat} {A : Nat → Nat → Kf e} {v : Vc e} : sup n (mv n A v) := fun i hi => by
  unfold mv
  rw [if_neg (by omega)]
