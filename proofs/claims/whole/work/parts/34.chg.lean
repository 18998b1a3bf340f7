/-! The model: calls that change a module. -/
def WC (x y : Int) : Prop := W1 x y ∨ WL x y ∨ (x = 217 ∧ y = 1) ∨ (x = 219 ∧ y < 4) ∨ (x = 220 ∧ y < 288) ∨ x = 229
def chg (M M' : Mo) (s' : Sst) (H' : List Sst) : Prop := Fr WC M M' ∧ M' 217 5 = -1 ∧ cu M' s' ∧ hi M' H'
def setm (s : Sst) (k n : Nat) (E : Nat → Nat → Nat → Int) : Sst := (s.1, fun k' => if k' = k then n else s.2.1 k', fun k' => if k' = k then E else s.2.2 k')
theorem hi.fr {M M' : Mo} {H : List Sst} {P : Int → Int → Prop} (h : hi M H) (hF : Fr P M M') (hP : ∀ x y, P x y → x ≠ 228 ∧ ¬ (x = 217 ∧ y = 13)) : hi M' H := by
  have h228 : ∀ y, M' 228 y = M 228 y := fun y => hF _ _ (fun q => (hP _ _ q).1 rfl)
  refine ⟨(hF _ _ (fun q => (hP _ _ q).2 ⟨rfl, rfl⟩)).trans h.1, h.2.1, h.2.2.1, fun i hi => ?_⟩
  have := h.2.2.2 i hi
  exact ⟨by rw [h228]; exact this.1, fun k hk => ⟨by rw [h228]; exact (this.2 k hk).1, fun g i j a1 a2 a3 => by rw [h228]; exact (this.2 k hk).2 g i j a1 a2 a3⟩⟩
theorem cu.fr {M M' : Mo} {s : Sst} {P : Int → Int → Prop} (hv : vs s) (h : cu M s) (hF : Fr P M M') (hP : ∀ x y, P x y → ¬ (x = 217 ∧ y = 1) ∧ ¬ (x = 219 ∧ 0 ≤ y ∧ y < 4) ∧ ¬ (x = 220 ∧ 0 ≤ y ∧ y < 288)) : cu M' s := by
  refine ⟨(hF _ _ (fun q => (hP _ _ q).1 ⟨rfl, rfl⟩)).trans h.1, fun k hk => ⟨(hF _ _ (fun q => (hP _ _ q).2.1 ⟨rfl, by omega, by omega⟩)).trans (h.2 k hk).1, fun g i j a1 a2 a3 => ?_⟩⟩
  have h6 := vs_6 hv hk
  exact (hF _ _ (fun q => (hP _ _ q).2.2 ⟨rfl, by omega, by omega⟩)).trans ((h.2 k hk).2 g i j a1 a2 a3)
theorem cu.MM {M : Mo} {s : Sst} (hv : vs s) (h : cu M s) {k : Nat} (hk : k < 4) : MM s.1 M k (s.2.1 k) (fun g i j => kI s.1 (s.2.2 k g i j)) := by
  refine ⟨(h.2 k hk).1, (hv.2 k hk).2.1, fun g i j a1 a2 a3 => ?_⟩
  rw [(h.2 k hk).2 g i j a1 a2 a3, vl_kI]
  have := (hv.2 k hk).2.2 g i j a1 a2 a3
  exact (Int.emod_eq_of_lt this.1 (by omega)).symm
theorem chg_fin {M M1 M2 M3 : Mo} {s : Sst} {H' : List Sst} {P : Int → Int → Prop} {k n : Nat} {E : Nat → Nat → Nat → Int} (hv : vs s) (hc : cu M s) (hk : k < 4) (hn : n ≤ 6) (h1 : Fr WL M M1) (h5 : M1 217 5 = -1) (hH : hi M1 H') (h2 : Fr P M1 M2) (hP : ∀ x y, P x y → W1 x y ∨ x = 229) (h3 : Fr (WK k) M2 M3) (hs : M3 219 k = n) (h4 : ∀ c : Int, 0 ≤ c → c < 72 → M3 220 (72 * k + c) = M2 221 c) (hE : ∀ g i j : Nat, g < 2 → i < n → j < n → M2 221 (36 * g + 6 * i + j) = E g i j) : chg M M3 (setm s k n E) H' := by
  have hP2 : ∀ x y, P x y → ¬ (x = 217 ∧ y ≠ 7) ∧ x ≠ 218 ∧ x ≠ 219 ∧ x ≠ 220 ∧ x ≠ 228 := fun x y q => by
    have := hP x y q
    unfold W1 at this
    omega
  refine ⟨?_, ?_, ⟨?_, fun k' hk' => ?_⟩, ?_⟩
  · have h12 : Fr WC M M2 := h1.trans h2 (fun x y q => Or.inr (Or.inl q)) (fun x y q => by
      rcases hP x y q with q | q
      · exact Or.inl q
      · exact Or.inr (Or.inr (Or.inr (Or.inr (Or.inr q)))))
    refine h12.trans h3 (fun x y q => q) (fun x y q => ?_)
    rcases q with q | q
    · exact Or.inr (Or.inr (Or.inr (Or.inl ⟨q.1, by omega⟩)))
    · exact Or.inr (Or.inr (Or.inr (Or.inr (Or.inl ⟨q.1, by omega⟩))))
  · rw [h3 _ _ (by unfold WK; omega), h2 _ _ (fun q => (hP2 _ _ q).1 ⟨rfl, by decide⟩)]
    exact h5
  · rw [h3 _ _ (by unfold WK; omega), h2 _ _ (fun q => (hP2 _ _ q).1 ⟨rfl, by decide⟩), h1 _ _ (by unfold WL; omega)]
    exact hc.1
  · by_cases hkk : k' = k
    · subst hkk
      unfold setm
      simp only [if_pos]
      refine ⟨hs, fun g i j a1 a2 a3 => ?_⟩
      have := h4 (36 * g + 6 * i + j) (by omega) (by omega)
      rw [hE g i j a1 a2 a3] at this
      rw [← this]
      congr 1
      omega
    · unfold setm
      simp only [if_neg hkk]
      have hold := hc.2 k' hk'
      refine ⟨?_, fun g i j a1 a2 a3 => ?_⟩
      · rw [h3 _ _ (by unfold WK; omega), h2 _ _ (fun q => (hP2 _ _ q).2.2.1 rfl), h1 _ _ (by unfold WL; omega)]
        exact hold.1
      · have h6 := vs_6 hv hk'
        rw [h3 _ _ (by unfold WK; omega), h2 _ _ (fun q => (hP2 _ _ q).2.2.2.1 rfl), h1 _ _ (by unfold WL; omega)]
        exact hold.2 g i j a1 a2 a3
  · refine hi.fr (hi.fr hH h2 (fun x y q => ⟨(hP2 x y q).2.2.2.2, fun q2 => (hP2 x y q).1 ⟨q2.1, by omega⟩⟩)) h3 (fun x y q => ?_)
    unfold WK at q
    omega
theorem Fr.up {P : Int → Int → Prop} {M : Mo} {a i v : Int} (h : P a i) : Fr P M (up2 M a i v) := fun x y hn => by
  unfold up2
  rw [if_neg (fun q => hn (by rw [q.1, q.2]; exact h))]
