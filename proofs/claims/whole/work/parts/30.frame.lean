/-! Frames: which places of the memory a call leaves as they are. -/
def Fr (P : Int → Int → Prop) (M M' : Mo) : Prop := ∀ x y, ¬ P x y → M' x y = M x y
theorem Fr.trans {P Q R : Int → Int → Prop} {M M1 M2 : Mo} (h1 : Fr P M M1) (h2 : Fr Q M1 M2) (hp : ∀ x y, P x y → R x y) (hq : ∀ x y, Q x y → R x y) : Fr R M M2 := fun x y h => (h2 x y (fun q => h (hq x y q))).trans (h1 x y (fun q => h (hp x y q)))
theorem Fr.mono {P R : Int → Int → Prop} {M M1 : Mo} (h1 : Fr P M M1) (hp : ∀ x y, P x y → R x y) : Fr R M M1 := fun x y h => h1 x y (fun q => h (hp x y q))
theorem Fr.refl {P : Int → Int → Prop} {M : Mo} : Fr P M M := fun _ _ _ => rfl
/-- the model's scratch -/
def W1 (x y : Int) : Prop := (x = 217 ∧ y = 7) ∨ (221 ≤ x ∧ x ≤ 227) ∨ x = 232 ∨ x = 233 ∨ (237 ≤ x ∧ x ≤ 241) ∨ (244 ≤ x ∧ x ≤ 247)
/-- the row registers and the fresh matrices -/
def WR (x _ : Int) : Prop := 225 ≤ x ∧ x ≤ 227
def WF (x _ : Int) : Prop := x = 221 ∨ 225 ≤ x ∧ x ≤ 227
/-- module k -/
def WK (k x y : Int) : Prop := (x = 219 ∧ y = k) ∨ (x = 220 ∧ 72 * k ≤ y ∧ y < 72 * k + 72)
def W2 (k x y : Int) : Prop := WF x y ∨ WK k x y
theorem MS_fr {M : Mo} {d : Int} {h t w : Int → Int} : Fr W1 M (MS M d h t w) := fun x y hn => by
  unfold W1 at hn
  by_cases h1 : x = 217
  · subst h1
    exact MS_217 (by omega)
  · exact MS_o (by omega)
theorem FR_fr {M : Mo} {f r s : Int → Int} : Fr WR M (FR M f r s) := fun x y hn => by
  unfold WR at hn
  exact FR_o (by omega)
theorem sr_fr {M : Mo} {a : Int} {r : Int → Int} {P : Int → Int → Prop} (h : ∀ y, P a y) : Fr P M (sr M a r) := fun x y hn => by
  by_cases h1 : x = a
  · subst h1
    exact absurd (h y) hn
  · rw [sr_ne _ _ h1]
theorem MM.fr {e : Nat} {M M1 : Mo} {P : Int → Int → Prop} {k : Int} {n : Nat} {A : Nat → Nat → Nat → Kf e} (h : MM e M k n A) (hF : Fr P M M1) (hP : ∀ x y, WK k x y → ¬ P x y) : MM e M1 k n A := by
  have hn6 : n ≤ 6 := by have := h.2.1; unfold nb at this; omega
  refine ⟨(hF _ _ (hP _ _ (Or.inl ⟨rfl, rfl⟩))).trans h.1, h.2.1, fun g i j h1 h2 h3 => (hF _ _ (hP _ _ (Or.inr ⟨rfl, by omega, by omega⟩))).trans (h.2.2 g i j h1 h2 h3)⟩
/-- the result of a spin -/
def SP {e : Nat} (n : Nat) (M : Mo) (T : List (Vc e)) : Prop := M 217 7 = T.length ∧ tk n (M 223) T ∧ hs n (M 222) (spn T)
theorem m_spinsF {e : Nat} (he : e ≤ 1) (M : Mo) (hp : M 217 1 = pI e) {k : Int} {n : Nat} {A : Nat → Nat → Nat → Kf e} (hk : 0 ≤ k ∧ k ≤ 10) (hM : MM e M k n A) {v : Vc e} (hv : sup n v) : CV 144 [(2, 217), (0, k), (0, num n v)] M (fun M' => Fr W1 M M' ∧ SP n M' (spin n A [] v)) := by
  refine Cl.mono (m_spins he M hp hk hM hv) (fun v M' h => ⟨h.1, ?_⟩)
  obtain ⟨-, h', t', w', rfl, g1, g2⟩ := h
  refine ⟨MS_fr, MS_d, fun j hj => ?_, fun w hw => ?_⟩
  · rw [MS_t]
    exact g1 j hj
  · rw [MS_h]
    exact g2 w hw
theorem m_spinsOnF {e : Nat} (he : e ≤ 1) (M : Mo) (hp : M 217 1 = pI e) {k : Int} {n : Nat} {A : Nat → Nat → Nat → Kf e} (hk : 0 ≤ k ∧ k ≤ 10) (hM : MM e M k n A) {T : List (Vc e)} (hG : Good n T) (hT : SP n M T) {v : Vc e} (hv : sup n v) : CV 143 [(2, 217), (0, k), (0, num n v)] M (fun M' => Fr W1 M M' ∧ SP n M' (spin n A T v)) := by
  have h := m_spinsOn he M hp hk hM hG (h := M 222) (t := M 223) (w := M 224) hT.2.1 hT.2.2 hv
  rw [← hT.1, MS_self] at h
  refine Cl.mono h (fun v M' h => ⟨h.1, ?_⟩)
  obtain ⟨-, h', t', w', rfl, g1, g2⟩ := h
  refine ⟨MS_fr, MS_d, fun j hj => ?_, fun w hw => ?_⟩
  · rw [MS_t]
    exact g1 j hj
  · rw [MS_h]
    exact g2 w hw
theorem m_findsRowsF {e : Nat} (he : e ≤ 1) (M : Mo) (hp : M 217 1 = pI e) {n : Nat} (hn : nb e n) {S : Vc e → Prop} (hS : Sub n S) (hh : hs n (M 222) S) : CV 147 [(2, 217), (0, (n : Int))] M (fun M' => Fr WR M M' ∧ FRs n S (M' 225) (M' 226) (M' 227)) := by
  refine Cl.mono (m_findsRows he M hp hn hS hh) (fun v M' h => ⟨h.1, ?_⟩)
  obtain ⟨-, f, r, s, rfl, g⟩ := h
  refine ⟨FR_fr, ?_⟩
  have e1 : FR M f r s 225 = f := funext (fun y => FR_f)
  have e2 : FR M f r s 226 = r := funext (fun y => FR_r)
  have e3 : FR M f r s 227 = s := funext (fun y => FR_s)
  rw [e1, e2, e3]
  exact g
/-- the i-th place of a set -/
noncomputable def pl (P : Nat → Prop) (d : Nat) : Nat := @Classical.epsilon Nat ⟨0⟩ (fun i => P i ∧ cnt P i = d)
theorem pl_spec {P : Nat → Prop} {n d : Nat} (h : d < cnt P n) : P (pl P d) ∧ cnt P (pl P d) = d := by
  obtain ⟨i, h1, h2, h3⟩ := cnt_at h
  exact Classical.epsilon_spec (p := fun i => P i ∧ cnt P i = d) ⟨i, h2, h3⟩
theorem cnt_inj {P : Nat → Prop} {i j : Nat} (hi : P i) (hj : P j) (h : cnt P i = cnt P j) : i = j := by
  rcases Nat.lt_trichotomy i j with q | q | q
  · have := cnt_lt q hi
    omega
  · exact q
  · have := cnt_lt q hj
    omega
theorem pl_cnt {P : Nat → Prop} {i : Nat} (hi : P i) : pl P (cnt P i) = i := by
  have h := Classical.epsilon_spec (p := fun j => P j ∧ cnt P j = cnt P i) ⟨i, hi, rfl⟩
  exact cnt_inj h.1 hi h.2
theorem pl_lt {P : Nat → Prop} {n d : Nat} (h : d < cnt P n) : pl P d < n := by
  obtain ⟨i, h1, h2, h3⟩ := cnt_at h
  rw [← h3, pl_cnt h2]
  exact h1
/-- filling a pair of matrices entry by entry -/
def fil (d : Nat) (B : Nat → Nat → Nat → Int) (f : Int → Int) (g i j : Int) : Prop := ∀ g' i' j' : Nat, g' < 2 → i' < d → j' < d → ((g' : Int) < g ∨ (g' : Int) = g ∧ ((i' : Int) < i ∨ (i' : Int) = i ∧ (j' : Int) < j)) → f (36 * g' + 6 * i' + j') = B g' i' j'
theorem fil.start {d : Nat} {B : Nat → Nat → Nat → Int} {f : Int → Int} : fil d B f 0 0 0 := fun g' i' j' _ _ _ h => by omega
theorem fil.put {d : Nat} {B : Nat → Nat → Nat → Int} {f : Int → Int} {g i j : Int} (h : fil d B f g i j) (h6 : d ≤ 6) {gn i2 j2 : Nat} (hg : g = gn) (hi : i = i2) (hj : j = j2) (hi2 : i2 < d) (hj2 : j2 < d) {x c : Int} (hx : x = B gn i2 j2) (hc : c = 36 * g + 6 * i + j) : fil d B (u1 f c x) g i (j + 1) := by
  intro g' i' j' a1 a2 a3 a4
  by_cases e1 : g' = gn ∧ i' = i2 ∧ j' = j2
  · obtain ⟨rfl, rfl, rfl⟩ := e1
    rw [show 36 * (g' : Int) + 6 * i' + j' = c by omega, u1_eq]
    exact hx
  · rw [u1_ne _ _ (by omega)]
    exact h g' i' j' a1 a2 a3 (by omega)
theorem fil.ni {d : Nat} {B : Nat → Nat → Nat → Int} {f : Int → Int} {g i j : Int} (h : fil d B f g i j) (hj : (d : Int) ≤ j) : fil d B f g (i + 1) 0 := fun g' i' j' a1 a2 a3 a4 => h g' i' j' a1 a2 a3 (by omega)
theorem fil.ng {d : Nat} {B : Nat → Nat → Nat → Int} {f : Int → Int} {g i j : Int} (h : fil d B f g i j) (hj : (d : Int) ≤ i) : fil d B f (g + 1) 0 0 := fun g' i' j' a1 a2 a3 a4 => h g' i' j' a1 a2 a3 (by omega)
theorem fil.fin {d : Nat} {B : Nat → Nat → Nat → Int} {f : Int → Int} {i j : Int} (h : fil d B f 2 i j) {g' i' j' : Nat} (h1 : g' < 2) (h2 : i' < d) (h3 : j' < d) : f (36 * g' + 6 * i' + j') = B g' i' j' := h g' i' j' h1 h2 h3 (by omega)
