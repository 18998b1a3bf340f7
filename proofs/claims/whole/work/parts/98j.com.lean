/-! How many types two lists share. -/
section
variable {e n m : Nat}
def sL (f : Nat × List Int → Nat) : List (Nat × List Int) → Nat
  | [] => 0
  | t :: D => f t + sL f D
theorem sL_perm {f : Nat × List Int → Nat} {D D' : List (Nat × List Int)} (h : D.Perm D') : sL f D = sL f D' := by
  induction h with
  | nil => rfl
  | cons x _ ih =>
    show f x + sL f _ = f x + sL f _
    rw [ih]
  | swap x y l =>
    show f y + (f x + sL f l) = f x + (f y + sL f l)
    omega
  | trans _ _ ih1 ih2 => rw [ih1, ih2]
theorem sL_filter {f : Nat × List Int → Nat} {P : Nat × List Int → Bool} (h : ∀ t, P t = false → f t = 0) : ∀ D, sL f (D.filter P) = sL f D
  | [] => rfl
  | t :: D => by
    rw [List.filter_cons]
    by_cases q : P t = true
    · rw [if_pos q]
      show f t + sL f (D.filter P) = f t + sL f D
      rw [sL_filter h D]
    · rw [if_neg q, sL_filter h D]
      show sL f D = f t + sL f D
      rw [h t (by simpa using q)]
      omega
theorem sL_cg {f g : Nat × List Int → Nat} : ∀ {D : List (Nat × List Int)}, (∀ t ∈ D, f t = g t) → sL f D = sL g D
  | [], _ => rfl
  | t :: D, h => by
    show f t + sL f D = g t + sL g D
    rw [h t (List.mem_cons_self), sL_cg (fun u hu => h u (List.mem_cons_of_mem _ hu))]
theorem sL_up {f g : Nat × List Int → Nat} {t : Nat × List Int} {d : Nat} (h1 : ∀ u, u ≠ t → g u = f u) (h2 : g t = f t + d) : ∀ {D : List (Nat × List Int)}, D.Nodup → t ∈ D → sL g D = sL f D + d
  | [], _, ht => absurd ht List.not_mem_nil
  | u :: D, hD, ht => by
    obtain ⟨d1, d2⟩ := List.nodup_cons.mp hD
    show g u + sL g D = f u + sL f D + d
    by_cases q : u = t
    · subst q
      rw [h2, sL_cg (f := g) (g := f) (fun w hw => h1 w (fun z => d1 (z ▸ hw)))]
      omega
    · have := sL_up h1 h2 d2 ((List.mem_cons.mp ht).resolve_left (fun z => q z.symm))
      rw [h1 u q]
      omega
theorem dedup_ex : ∀ L : List (Nat × List Int), ∃ D : List (Nat × List Int), D.Nodup ∧ ∀ t ∈ L, t ∈ D
  | [] => ⟨[], List.nodup_nil, fun t h => absurd h List.not_mem_nil⟩
  | u :: L => by
    obtain ⟨D, d1, d2⟩ := dedup_ex L
    by_cases q : u ∈ D
    · refine ⟨D, d1, fun t ht => ?_⟩
      rcases List.mem_cons.mp ht with z | z
      · rw [z]
        exact q
      · exact d2 t z
    · refine ⟨u :: D, List.nodup_cons.mpr ⟨q, d1⟩, fun t ht => ?_⟩
      rcases List.mem_cons.mp ht with z | z
      · rw [z]
        exact List.mem_cons_self
      · exact List.mem_cons_of_mem _ (d2 t z)
def comP (n : Nat) (A : Nat → Nat → Nat → Kf e) (m : Nat) (C : Nat → Nat → Nat → Kf e) (z : Int) : Prop := ∃ S S', srtL n A S ∧ srtL m C S' ∧ ∃ D : List (Nat × List Int), D.Nodup ∧ (∀ t ∈ S, t ∈ D) ∧ z = (sL (fun t => min (S.count t) (S'.count t)) D : Nat)
theorem comP_eq {A C : Nat → Nat → Nat → Kf e} (he : e ≤ 1) (hn : n ≤ 6) (hm : m ≤ 6) {y z : Int} (h : comP n A m C y) (h' : comP n A m C z) : y = z := by
  obtain ⟨S, S', a1, a2, D, a3, a4, a5⟩ := h
  obtain ⟨R, R', b1, b2, E, b3, b4, b5⟩ := h'
  obtain rfl := srtL_eq he hn a1 b1
  obtain rfl := srtL_eq he hm a2 b2
  have hz : ∀ t, decide (t ∈ S) = false → (fun t => min (S.count t) (S'.count t)) t = 0 := fun t ht => by
    have h1 : S.count t = 0 := List.count_eq_zero.mpr (by simpa using ht)
    show min (S.count t) (S'.count t) = 0
    rw [h1]
    exact Nat.zero_min _
  rw [a5, b5, ← sL_filter hz D, ← sL_filter hz E]
  congr 1
  refine sL_perm ((List.perm_ext_iff_of_nodup (a3.filter _) (b3.filter _)).mpr (fun t => ?_))
  rw [List.mem_filter, List.mem_filter]
  constructor
  · rintro ⟨-, h⟩
    exact ⟨b4 t (by simpa using h), h⟩
  · rintro ⟨-, h⟩
    exact ⟨a4 t (by simpa using h), h⟩
/-- counts as sums -/
theorem ct_rng {f : Nat → Nat × List Int} {t : Nat × List Int} : ∀ {q : Nat}, ((List.range q).map f).count t = sN (fun b => if f b = t then 1 else 0) q
  | 0 => rfl
  | q + 1 => by
    rw [List.range_succ, List.map_append, List.count_append, ct_rng (q := q), List.map_singleton, List.count_singleton]
    show _ = sN _ q + (if f q = t then 1 else 0)
    congr 1
    by_cases z : f q = t
    · rw [if_pos z, if_pos (by simpa using z)]
    · rw [if_neg z, if_neg (by simpa using z)]
theorem sN_pos {f : Nat → Nat} : ∀ {p : Nat}, 0 < sN f p → ∃ b, b < p ∧ 0 < f b
  | 0, h => absurd h (Nat.lt_irrefl 0)
  | p + 1, h => by
    have h1 : 0 < sN f p + f p := h
    by_cases q : 0 < f p
    · exact ⟨p, by omega, q⟩
    · obtain ⟨b, b1, b2⟩ := sN_pos (f := f) (p := p) (by omega)
      exact ⟨b, by omega, b2⟩
theorem sN_0 {f : Nat → Nat} : ∀ {p : Nat}, (∀ b, b < p → f b = 0) → sN f p = 0
  | 0, _ => rfl
  | p + 1, h => by
    show sN f p + f p = 0
    rw [sN_0 (fun b hb => h b (by omega)), h p (by omega)]
/-- one step of the matching -/
def cRn (met : Nat → Int) (f : Nat → Nat × List Int) (p : Nat) (t : Nat × List Int) : Nat := sN (fun b => if met b = 0 ∧ f b = t then 1 else 0) p
def cXn (f : Nat → Nat × List Int) (p : Nat) (t : Nat × List Int) : Nat := sN (fun b => if f b = t then 1 else 0) p
theorem cXn_s {f : Nat → Nat × List Int} {p : Nat} {t : Nat × List Int} : cXn f (p + 1) t = cXn f p t + if f p = t then 1 else 0 := rfl
theorem mt_yes {met : Nat → Int} {f g : Nat → Nat × List Int} {p q b : Nat} {D : List (Nat × List Int)} {z : Nat} (hD : D.Nodup) (hin : g q ∈ D) (h1 : ∀ t, cRn met f p t = cXn f p t - cXn g q t) (h2 : z = sL (fun t => min (cXn f p t) (cXn g q t)) D) (hb : b < p) (hm : met b = 0) (hf : f b = g q) : (∀ t, cRn (ud met b 1) f p t = cXn f p t - cXn g (q + 1) t) ∧ z + 1 = sL (fun t => min (cXn f p t) (cXn g (q + 1) t)) D := by
  have hR : ∀ t, cRn (ud met b 1) f p t + (if g q = t then 1 else 0) = cRn met f p t := fun t => by
    unfold cRn
    have e1 : (fun c => if ud met b 1 c = 0 ∧ f c = t then 1 else 0) = ud (fun c => if met c = 0 ∧ f c = t then 1 else 0) b 0 := by
      funext c
      by_cases z : c = b
      · subst z
        rw [ud_e, ud_e, if_neg (fun w => by omega)]
      · rw [ud_n z, ud_n z]
    have h3 := sN_u (f := fun c => if met c = 0 ∧ f c = t then 1 else 0) (i := b) (d := 0) hb
    rw [e1]
    have e2 : (if met b = 0 ∧ f b = t then 1 else 0) = if g q = t then 1 else 0 := by
      rw [hf]
      by_cases z : g q = t
      · rw [if_pos ⟨hm, z⟩, if_pos z]
      · rw [if_neg (fun w => z w.2), if_neg z]
    rw [e2] at h3
    omega
  constructor
  · intro t
    have k1 := hR t
    have k2 := h1 t
    rw [cXn_s]
    by_cases z : g q = t
    · rw [if_pos z] at k1 ⊢
      omega
    · rw [if_neg z] at k1 ⊢
      omega
  · rw [h2]
    symm
    have k1 := hR (g q)
    have k2 := h1 (g q)
    rw [if_pos rfl] at k1
    refine sL_up (t := g q) (fun u hu => ?_) ?_ hD hin
    · show min _ _ = min _ _
      rw [cXn_s, if_neg (fun z => hu z.symm), Nat.add_zero]
    · show min _ _ = min _ _ + 1
      rw [cXn_s, if_pos rfl]
      omega
theorem mt_no {met : Nat → Int} {f g : Nat → Nat × List Int} {p q : Nat} {D : List (Nat × List Int)} {z : Nat} (h1 : ∀ t, cRn met f p t = cXn f p t - cXn g q t) (h2 : z = sL (fun t => min (cXn f p t) (cXn g q t)) D) (hn : ∀ b, b < p → ¬ (met b = 0 ∧ f b = g q)) : (∀ t, cRn met f p t = cXn f p t - cXn g (q + 1) t) ∧ z = sL (fun t => min (cXn f p t) (cXn g (q + 1) t)) D := by
  have h0 : cRn met f p (g q) = 0 := sN_0 (fun b hb => if_neg (hn b hb))
  have k2 := h1 (g q)
  constructor
  · intro t
    rw [h1 t, cXn_s]
    by_cases z : g q = t
    · subst z
      rw [if_pos rfl]
      omega
    · rw [if_neg z, Nat.add_zero]
  · rw [h2]
    refine sL_cg (fun u _ => ?_)
    show min _ _ = min _ _
    rw [cXn_s]
    by_cases z : g q = u
    · subst z
      rw [if_pos rfl]
      omega
    · rw [if_neg z, Nat.add_zero]
end
