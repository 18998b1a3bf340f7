/-! Sums of subspaces; the socle from spun spaces in ascending order of their dimensions. -/
section
variable {e n : Nat} {A : Nat → Nat → Nat → Kf e}
theorem snoc_ind {α : Type} {P : List α → Prop} (h0 : P []) (h1 : ∀ l x, P l → P (l ++ [x])) (l : List α) : P l := by
  have key : ∀ m : List α, P m.reverse := by
    intro m
    induction m with
    | nil => exact h0
    | cons x m ih =>
      rw [List.reverse_cons]
      exact h1 _ _ ih
  have := key l.reverse
  rw [List.reverse_reverse] at this
  exact this
theorem fold_add : ∀ (R : List (Vc e)) (S : Vc e → Prop) (x : Vc e), R.foldl ext S x ↔ ∃ t, spn R t ∧ S (lc x (-1) t) := by
  intro R
  induction R with
  | nil =>
    intro S x
    constructor
    · intro h
      refine ⟨z0, rfl, ?_⟩
      rw [lc_z0]
      exact h
    · rintro ⟨t, ht, h⟩
      have : t = z0 := ht
      rw [this, lc_z0] at h
      exact h
  | cons y R ih =>
    intro S x
    have hy : ∀ t', spn (y :: R) t' ↔ ∃ t, spn R t ∧ ext (fun w => w = z0) y (lc t' (-1) t) := fun t' => ih (ext (fun w => w = z0) y) t'
    show R.foldl ext (ext S y) x ↔ _
    rw [ih]
    constructor
    · rintro ⟨t, ht, c, hc⟩
      refine ⟨lc t (-c) y, (hy _).mpr ⟨t, ht, c, ?_⟩, ?_⟩
      · funext i
        unfold lc z0
        grind
      · have e1 : lc x (-1) (lc t (-c) y) = lc (lc x (-1) t) c y := by
          funext i
          unfold lc
          grind
        rw [e1]
        exact hc
    · rintro ⟨t', ht', h⟩
      obtain ⟨t, ht, c, hc⟩ := (hy t').mp ht'
      refine ⟨t, ht, c, ?_⟩
      have e1 : lc (lc x (-1) t) c y = lc x (-1) t' := by
        funext i
        have h2 := congrFun hc i
        unfold lc z0 at h2
        unfold lc
        grind
      rw [e1]
      exact h
theorem spn_add {T R : List (Vc e)} {x : Vc e} : spn (T ++ R) x ↔ ∃ t, spn R t ∧ spn T (lc x (-1) t) := by
  have h := fold_add R (spn T) x
  have e1 : spn (T ++ R) = R.foldl ext (spn T) := by
    unfold spn
    rw [List.foldl_append]
  rw [e1]
  exact h
theorem dm_len (he : e ≤ 1) (P : List (Vc e)) : (∀ x ∈ P, sup n x) → dm n (spn P) ≤ P.length := by
  refine snoc_ind (P := fun P => (∀ x ∈ P, sup n x) → dm n (spn P) ≤ P.length) ?_ ?_ P
  · intro _
    have : dm n (spn ([] : List (Vc e))) = 0 := dm_zero
    omega
  · intro l x ih hs
    have hl : ∀ y ∈ l, sup n y := fun y hy => hs y (List.mem_append_left _ hy)
    have hx := hs x (List.mem_append_right _ (List.mem_singleton.mpr rfl))
    have h1 := ih hl
    rw [spn_app, List.length_append, List.length_singleton]
    by_cases q : spn l x
    · have : dm n (ext (spn l) x) = dm n (spn l) := dm_congr (fun w => ext_in (spn_sub hl) q)
      omega
    · have := dm_ext he (spn_sub hl) hx q
      omega
theorem good_pre (he : e ≤ 1) {P : List (Vc e)} {x : Vc e} (h : Good n (P ++ [x])) : Good n P ∧ ¬ spn P x := by
  have hl : ∀ y ∈ P, sup n y := fun y hy => h.1 y (List.mem_append_left _ hy)
  have hx := h.1 x (List.mem_append_right _ (List.mem_singleton.mpr rfl))
  have h1 := h.2
  have h2 := dm_len (n := n) he P hl
  rw [spn_app, List.length_append, List.length_singleton] at h1
  by_cases q : spn P x
  · have : dm n (ext (spn P) x) = dm n (spn P) := dm_congr (fun w => ext_in (spn_sub hl) q)
    omega
  · have := dm_ext he (spn_sub hl) hx q
    exact ⟨⟨hl, by omega⟩, q⟩
theorem dm_sum (he : e ≤ 1) {T : List (Vc e)} (hT : ∀ x ∈ T, sup n x) (P : List (Vc e)) : (∀ x ∈ P, sup n x) → dm n (spn (T ++ P)) ≤ dm n (spn T) + P.length := by
  refine snoc_ind (P := fun P => (∀ x ∈ P, sup n x) → dm n (spn (T ++ P)) ≤ dm n (spn T) + P.length) ?_ ?_ P
  · intro _
    rw [List.append_nil]
    exact Nat.le_add_right _ _
  · intro l x ih hs
    have hl : ∀ y ∈ l, sup n y := fun y hy => hs y (List.mem_append_left _ hy)
    have hx := hs x (List.mem_append_right _ (List.mem_singleton.mpr rfl))
    have h1 := ih hl
    have hTl : ∀ y ∈ T ++ l, sup n y := fun y hy => (List.mem_append.mp hy).elim (hT y) (hl y)
    rw [← List.append_assoc, spn_app, List.length_append, List.length_singleton]
    by_cases q : spn (T ++ l) x
    · have : dm n (ext (spn (T ++ l)) x) = dm n (spn (T ++ l)) := dm_congr (fun w => ext_in (spn_sub hTl) q)
      omega
    · have := dm_ext he (spn_sub hTl) hx q
      omega
/-- a sum is direct just if dimensions add -/
theorem dm_dir (he : e ≤ 1) {T : List (Vc e)} (hT : ∀ x ∈ T, sup n x) (P : List (Vc e)) : Good n P → (dm n (spn (T ++ P)) = dm n (spn T) + P.length ↔ ∀ x, spn T x → spn P x → x = z0) := by
  have hS : Sub n (spn T) := spn_sub hT
  refine snoc_ind (P := fun P => Good n P → (dm n (spn (T ++ P)) = dm n (spn T) + P.length ↔ ∀ x, spn T x → spn P x → x = z0)) ?_ ?_ P
  · intro _
    rw [List.append_nil]
    exact ⟨fun _ x _ hx => hx, fun _ => rfl⟩
  · intro l x ih hG
    obtain ⟨hGl, hxl⟩ := good_pre he hG
    have hx := hG.1 x (List.mem_append_right _ (List.mem_singleton.mpr rfl))
    have hTl : ∀ y ∈ T ++ l, sup n y := fun y hy => (List.mem_append.mp hy).elim (hT y) (hGl.1 y)
    have hE : Sub n (spn (T ++ l)) := spn_sub hTl
    have hb := dm_sum (n := n) he hT l hGl.1
    rw [← List.append_assoc, spn_app (T ++ l) x, List.length_append, List.length_singleton]
    constructor
    · intro hd
      have hxE : ¬ spn (T ++ l) x := fun q => by
        have : dm n (ext (spn (T ++ l)) x) = dm n (spn (T ++ l)) := dm_congr (fun w => ext_in hE q)
        omega
      have h1 := dm_ext he hE hx hxE
      have h2 := (ih hGl).mp (by omega)
      intro y hy hy2
      rw [spn_app] at hy2
      obtain ⟨c, hc⟩ := hy2
      by_cases hc0 : c = 0
      · rw [hc0, lc_0] at hc
        exact h2 y hy hc
      · exfalso
        apply hxE
        have g1 : spn (T ++ l) y := spn_mono _ hy
        have g2 : spn (T ++ l) (lc y c x) := spn_add.mpr ⟨_, hc, by rw [lc_neg]; exact hS.1⟩
        have g3 := hE.2.1 _ _ (-1) g2 g1
        have g4 := sub_sc hE g3 c
        have e1 : (fun i => c * lc (lc y c x) (-1) y i) = x := by
          funext i
          unfold lc
          have := sq1 he hc0
          have h5 : c * (y i + c * x i + -1 * y i) = (c * c) * x i := by grind
          rw [h5, this]
          grind
        rw [e1] at g4
        exact g4
    · intro hd
      have h2 := (ih hGl).mpr (fun y hy hy2 => hd y hy (by rw [spn_app]; exact ext_old hy2))
      have hxE : ¬ spn (T ++ l) x := fun q => by
        obtain ⟨t, ht, hs⟩ := spn_add.mp q
        have hz := hd _ hs (by
          rw [spn_app]
          refine ⟨-1, ?_⟩
          have e1 : lc (lc x (-1) t) (-1) x = fun i => -1 * t i := by
            funext i
            unfold lc
            grind
          rw [e1]
          exact sub_sc hGl.sub ht (-1))
        apply hxl
        have e1 : x = t := by
          funext i
          have := congrFun hz i
          unfold lc z0 at this
          grind
        rw [e1]
        exact ht
      have h1 := dm_ext he hE hx hxE
      omega
theorem spn_addv {T : List (Vc e)} (hT : ∀ x ∈ T, sup n x) (x : Vc e) : spn (addv T x) = ext (spn T) x := by
  unfold addv
  by_cases h : spn T x
  · rw [ifp_t h, ext_mem (spn_sub hT) h]
  · rw [ifp_f h, spn_app]
/-- a simple spun space -/
theorem smp_in (he : e ≤ 1) (hn : n ≤ 6) {u w : Int} (hu : smp n A u) (hw : 1 ≤ w) (hw2 : w < pI e ^ n) (h : spS n A (toV e n u) (toV e n w)) : smp n A w ∧ ∀ x, spS n A (toV e n u) x → spS n A (toV e n w) x := by
  obtain ⟨u1, u2, u3⟩ := spS_ok (A := A) he hn (toV_sup (e := e) (n := n) (v := u))
  obtain ⟨w1, w2, w3⟩ := spS_ok (A := A) he hn (toV_sup (e := e) (n := n) (v := w))
  have hsub : ∀ x, spS n A (toV e n w) x → spS n A (toV e n u) x := spS_min u1 u2 h
  have hsl := hu w hw hw2 h
  rw [sl_dm he, sl_dm he] at hsl
  have hall := dm_all he w1 u1 hsub (by omega)
  refine ⟨fun v v1 v2 v3 => ?_, hall⟩
  have := hu v v1 v2 (hsub _ v3)
  rw [this, sl_dm he, sl_dm he, hsl]
theorem smp_in_ex (he : e ≤ 1) (hn : n ≤ 6) {u : Int} (h1 : 1 ≤ u) (h2 : u < pI e ^ n) : ∃ v : Int, 1 ≤ v ∧ v < pI e ^ n ∧ smp n A v ∧ spS n A (toV e n u) (toV e n v) ∧ sl n A v ≤ sl n A u := by
  have key : ∀ (d : Nat) (v : Int), 1 ≤ v → v < pI e ^ n → sl n A v ≤ d → ∃ w : Int, 1 ≤ w ∧ w < pI e ^ n ∧ smp n A w ∧ spS n A (toV e n v) (toV e n w) ∧ sl n A w ≤ sl n A v := by
    intro d
    induction d with
    | zero =>
      intro v a1 a2 a3
      have := sl_pos (A := A) he hn a1 a2
      omega
    | succ d ih =>
      intro v a1 a2 a3
      by_cases hs : smp n A v
      · exact ⟨v, a1, a2, hs, (spS_ok he hn toV_sup).2.2, Nat.le_refl _⟩
      · have : ∃ w : Int, 1 ≤ w ∧ w < pI e ^ n ∧ spS n A (toV e n v) (toV e n w) ∧ sl n A w ≠ sl n A v := by
          apply Classical.byContradiction
          intro q
          apply hs
          intro w b1 b2 b3
          apply Classical.byContradiction
          intro q2
          exact q ⟨w, b1, b2, b3, q2⟩
        obtain ⟨w, b1, b2, b3, b4⟩ := this
        have hle := sl_in he hn b3
        obtain ⟨x, x1, x2, x3, x4, x5⟩ := ih w b1 b2 (by omega)
        obtain ⟨v1, v2, v3⟩ := spS_ok (A := A) he hn (toV_sup (e := e) (n := n) (v := v))
        exact ⟨x, x1, x2, x3, spS_min v1 v2 b3 _ x4, by omega⟩
  exact key _ u h1 h2 (Nat.le_refl _)
theorem smp_sc (he : e ≤ 1) (hn : n ≤ 6) {u v : Int} {c : Kf e} (hc : c ≠ 0) (h : toV e n u = scv c (toV e n v)) (hv : smp n A v) : smp n A u := by
  have hs : ∀ x, spS n A (toV e n u) x ↔ spS n A (toV e n v) x := fun x => by rw [h]; exact spS_sc he hn toV_sup hc x
  intro w w1 w2 w3
  have h1 := hv w w1 w2 ((hs _).mp w3)
  have h2 : sl n A u = sl n A v := by rw [sl_dm he, sl_dm he]; exact dm_congr hs
  omega
theorem sc_back (he : e ≤ 1) {S : Vc e → Prop} (hS : Sub n S) {u v : Vc e} {c : Kf e} (hc : c ≠ 0) (h : u = scv c v) (hu : S u) : S v := by
  have h1 := sub_sc hS hu c
  have e1 : (fun i => c * u i) = v := by
    funext i
    rw [h]
    unfold scv
    have h5 : c * (c * v i) = (c * c) * v i := by grind
    rw [h5, sq1 he hc]
    grind
  rw [e1] at h1
  exact h1
/-- what the socle is -/
def socS (n : Nat) (A : Nat → Nat → Nat → Kf e) : Vc e → Prop := spn (scT n A (pI e ^ n - 1).toNat)
theorem socS_mem (he : e ≤ 1) {v : Int} (h1 : 1 ≤ v) (h2 : v < pI e ^ n) (h3 : smp n A v) : socS n A (toV e n v) := scT_mem he _ v h1 (by omega) h3
theorem socS_sub (he : e ≤ 1) : Sub n (socS n A) := (scT_good he _).sub
theorem socS_min (he : e ≤ 1) {U : Vc e → Prop} (hU : Sub n U) (h : ∀ v : Int, 1 ≤ v → v < pI e ^ n → smp n A v → U (toV e n v)) : ∀ x, socS n A x → U x := by
  have hpw := pw_pos (pI23 he) n
  have key : ∀ m : Nat, (m : Int) < pI e ^ n → ∀ x ∈ scT n A m, U x := by
    intro m
    induction m with
    | zero => intro _ x hx; exact absurd hx List.not_mem_nil
    | succ m ih =>
      intro hm x hx
      unfold scT at hx
      by_cases hs : smp n A ((m : Int) + 1)
      · rw [ifp_t hs] at hx
        unfold addv at hx
        by_cases hq : spn (scT n A m) (toV e n ((m : Int) + 1))
        · rw [ifp_t hq] at hx
          exact ih (by omega) x hx
        · rw [ifp_f hq] at hx
          rcases List.mem_append.mp hx with z | z
          · exact ih (by omega) x z
          · rw [List.mem_singleton.mp z]
            exact h _ (by omega) (by omega) hs
      · rw [ifp_f hs] at hx
        exact ih (by omega) x hx
  exact spn_min hU (key _ (by omega))
end
