/-! Subspaces. -/
section
variable {e n : Nat}
def z0 : Vc e := fun _ => 0
def Sub (n : Nat) (S : Vc e → Prop) : Prop := S z0 ∧ (∀ u w c, S u → S w → S (lc u c w)) ∧ ∀ w, S w → sup n w
def ext (S : Vc e → Prop) (x : Vc e) : Vc e → Prop := fun w => ∃ c, S (lc w c x)
theorem lc_0 (w x : Vc e) : lc w 0 x = w := by
  funext i
  unfold lc
  grind
theorem lc_neg (x : Vc e) : lc x (-1) x = z0 := by
  funext i
  unfold lc z0
  grind
theorem lc_lc (w x : Vc e) (c d : Kf e) : lc (lc w c x) d x = lc w (c + d) x := by
  funext i
  unfold lc
  grind
theorem sup_z0 : sup n (z0 : Vc e) := fun _ _ => rfl
theorem Sub.zero : Sub n (fun w : Vc e => w = z0) := by
  refine ⟨rfl, ?_, ?_⟩
  · rintro u w c rfl rfl
    funext i
    unfold lc z0
    grind
  · rintro w rfl
    exact sup_z0
theorem ext_old {S : Vc e → Prop} {x w : Vc e} (h : S w) : ext S x w := ⟨0, by rw [lc_0]; exact h⟩
theorem ext_new {S : Vc e → Prop} {x : Vc e} (h : Sub n S) : ext S x x := ⟨-1, by rw [lc_neg]; exact h.1⟩
theorem ext_sub {S : Vc e → Prop} {x : Vc e} (h : Sub n S) (hx : sup n x) : Sub n (ext S x) := by
  refine ⟨ext_old h.1, ?_, ?_⟩
  · rintro u w c ⟨c1, h1⟩ ⟨c2, h2⟩
    refine ⟨c1 + c * c2, ?_⟩
    have := h.2.1 _ _ c h1 h2
    have e1 : lc (lc u c1 x) c (lc w c2 x) = lc (lc u c w) (c1 + c * c2) x := by
      funext i
      unfold lc
      grind
    rw [e1] at this
    exact this
  · rintro w ⟨c, hc⟩ i hi
    have h1 := h.2.2 _ hc i hi
    have h2 := hx i hi
    unfold lc at h1
    rw [h2] at h1
    grind
theorem ext_min {S T : Vc e → Prop} {x w : Vc e} (hT : Sub n T) (hS : ∀ u, S u → T u) (hx : T x) (h : ext S x w) : T w := by
  obtain ⟨c, hc⟩ := h
  have h1 := hT.2.1 _ _ (-c) (hS _ hc) hx
  rw [lc_lc] at h1
  have : c + -c = 0 := by grind
  rw [this, lc_0] at h1
  exact h1
theorem ext_in {S : Vc e → Prop} {x w : Vc e} (h : Sub n S) (hx : S x) : ext S x w ↔ S w := ⟨fun q => ext_min h (fun _ q => q) hx q, ext_old⟩
theorem sub_sc {S : Vc e → Prop} {x : Vc e} (h : Sub n S) (hx : S x) (c : Kf e) : S (fun i => c * x i) := by
  have h1 := h.2.1 _ _ c h.1 hx
  have e1 : lc z0 c x = fun i => c * x i := by
    funext i
    unfold lc z0
    grind
  rw [e1] at h1
  exact h1
theorem lc_not {S : Vc e → Prop} {u x : Vc e} (he : e ≤ 1) (h : Sub n S) (hx : ¬ S x) (hu : S u) {c : Kf e} (hc : c ≠ 0) : ¬ S (lc u c x) := by
  intro q
  apply hx
  have h1 := h.2.1 _ _ (-1) q hu
  have h2 := sub_sc h h1 c
  have e1 : (fun i => c * lc (lc u c x) (-1) u i) = x := by
    funext i
    have h3 := sq1 he hc
    unfold lc
    have : c * (u i + c * x i + -1 * u i) = (c * c) * x i := by grind
    rw [this, h3]
    grind
  rw [e1] at h2
  exact h2
theorem ext_iff {S : Vc e → Prop} {x w : Vc e} (he : e ≤ 1) : ext S x w ↔ S w ∨ ∃ u c, S u ∧ c ≠ 0 ∧ w = lc u c x := by
  constructor
  · rintro ⟨c, hc⟩
    by_cases h0 : c = 0
    · subst h0
      rw [lc_0] at hc
      exact Or.inl hc
    · refine Or.inr ⟨_, -c, hc, ?_, ?_⟩
      · intro q
        apply h0
        have : c = -(-c) := by grind
        rw [this, q]
        grind
      · rw [lc_lc]
        have : c + -c = 0 := by grind
        rw [this, lc_0]
  · rintro (h | ⟨u, c, hu, -, rfl⟩)
    · exact ext_old h
    · refine ⟨-c, ?_⟩
      rw [lc_lc]
      have : c + -c = 0 := by grind
      rw [this, lc_0]
      exact hu
end
/-! memory with rows replaced -/
def sr (M : Mo) (a : Int) (r : Int → Int) : Mo := fun x y => if x = a then r y else M x y
def u1 (r : Int → Int) (i v : Int) : Int → Int := fun y => if y = i then v else r y
theorem up_sr (M : Mo) (a : Int) (r : Int → Int) (i v : Int) : up2 (sr M a r) a i v = sr M a (u1 r i v) := by
  funext x y
  unfold up2 sr u1
  by_cases h : x = a
  · by_cases h2 : y = i
    · simp [h, h2]
    · simp [h, h2]
  · simp [h]
theorem up_s0 (M : Mo) (a i v : Int) : up2 M a i v = sr M a (u1 (M a) i v) := by
  funext x y
  unfold up2 sr u1
  by_cases h : x = a
  · by_cases h2 : y = i
    · simp [h, h2]
    · simp [h, h2]
  · simp [h]
theorem up_srn (M : Mo) {a b : Int} (r : Int → Int) (i v : Int) (h : b ≠ a) : up2 (sr M b r) a i v = sr (up2 M a i v) b r := by
  funext x y
  unfold up2 sr
  by_cases h1 : x = a
  · have : ¬ x = b := fun q => h (q.symm.trans h1)
    simp [this]
  · simp [h1]
theorem sr_eq (M : Mo) (a : Int) (r : Int → Int) : sr M a r a = r := by
  funext y
  simp [sr]
theorem sr_ne (M : Mo) {a b : Int} (r : Int → Int) (h : b ≠ a) : sr M a r b = M b := by
  funext y
  simp [sr, h]
theorem sr_sr (M : Mo) (a : Int) (r s : Int → Int) : sr (sr M a r) a s = sr M a s := by
  funext x y
  unfold sr
  by_cases h : x = a <;> simp [h]
theorem sr_self (M : Mo) (a : Int) : sr M a (M a) = M := by
  funext x y
  unfold sr
  by_cases h : x = a <;> simp [h]
theorem u1_eq (r : Int → Int) (i v : Int) : u1 r i v i = v := if_pos rfl
theorem u1_ne (r : Int → Int) {i j : Int} (v : Int) (h : j ≠ i) : u1 r i v j = r j := if_neg h
/-- the model's spinning registers: dimension, has, taken, waiting -/
def MS (M : Mo) (d : Int) (h t w : Int → Int) : Mo := sr (sr (sr (sr M 217 (u1 (M 217) 7 d)) 222 h) 223 t) 224 w
theorem MS_self (M : Mo) : MS M (M 217 7) (M 222) (M 223) (M 224) = M := by
  funext x y
  unfold MS sr u1
  by_cases h1 : x = 224
  · simp [h1]
  · by_cases h2 : x = 223
    · simp [h2]
    · by_cases h3 : x = 222
      · simp [h3]
      · by_cases h4 : x = 217
        · by_cases h5 : y = 7
          · simp [h4, h5]
          · simp [h4, h5]
        · simp [h1, h2, h3, h4]
theorem MS_217 {M : Mo} {d : Int} {h t w : Int → Int} {y : Int} (hy : y ≠ 7) : MS M d h t w 217 y = M 217 y := by simp [MS, sr, u1, hy]
theorem MS_d {M : Mo} {d : Int} {h t w : Int → Int} : MS M d h t w 217 7 = d := by simp [MS, sr, u1]
theorem MS_h {M : Mo} {d : Int} {h t w : Int → Int} {y : Int} : MS M d h t w 222 y = h y := by simp [MS, sr]
theorem MS_t {M : Mo} {d : Int} {h t w : Int → Int} {y : Int} : MS M d h t w 223 y = t y := by simp [MS, sr]
theorem MS_w {M : Mo} {d : Int} {h t w : Int → Int} {y : Int} : MS M d h t w 224 y = w y := by simp [MS, sr]
theorem MS_o {M : Mo} {d : Int} {h t w : Int → Int} {x y : Int} (hx : x ≠ 217 ∧ x ≠ 222 ∧ x ≠ 223 ∧ x ≠ 224) : MS M d h t w x y = M x y := by simp [MS, sr, hx]
theorem MS_ud {M : Mo} {d : Int} {h t w : Int → Int} {v : Int} : up2 (MS M d h t w) 217 7 v = MS M v h t w := by
  unfold MS
  rw [up_srn _ _ _ _ (by decide), up_srn _ _ _ _ (by decide), up_srn _ _ _ _ (by decide), up_sr]
  congr 4
  funext y
  unfold u1
  by_cases hy : y = 7 <;> simp [hy]
theorem MS_uh {M : Mo} {d : Int} {h t w : Int → Int} {i v : Int} : up2 (MS M d h t w) 222 i v = MS M d (u1 h i v) t w := by
  unfold MS
  rw [up_srn _ _ _ _ (by decide), up_srn _ _ _ _ (by decide), up_sr]
theorem MS_ut {M : Mo} {d : Int} {h t w : Int → Int} {i v : Int} : up2 (MS M d h t w) 223 i v = MS M d h (u1 t i v) w := by
  unfold MS
  rw [up_srn _ _ _ _ (by decide), up_sr]
theorem MS_uw {M : Mo} {d : Int} {h t w : Int → Int} {i v : Int} : up2 (MS M d h t w) 224 i v = MS M d h t (u1 w i v) := by
  unfold MS
  rw [up_sr]
theorem MS_MS {M : Mo} {d d' : Int} {h t w h' t' w' : Int → Int} : MS (MS M d h t w) d' h' t' w' = MS M d' h' t' w' := by
  funext x y
  unfold MS sr u1
  by_cases h1 : x = 224
  · simp [h1]
  · by_cases h2 : x = 223
    · simp [h2]
    · by_cases h3 : x = 222
      · simp [h3]
      · by_cases h4 : x = 217
        · by_cases h5 : y = 7
          · simp [h4, h5]
          · simp [h4, h5]
        · simp [h1, h2, h3, h4]
