/-! Coordinates with respect to a list; canonical sequences; isomorphisms. -/
section
variable {e n m : Nat}
def cmb (T : List (Vc e)) (c : Vc e) : Vc e := fun i => sK (fun j => c j * T.getD j z0 i) T.length
theorem cmb_app (T : List (Vc e)) (x : Vc e) (c : Vc e) : cmb (T ++ [x]) c = lc (cmb T c) (c T.length) x := by
  funext i
  unfold cmb lc
  rw [List.length_append, List.length_singleton]
  show sK (fun j => c j * (T ++ [x]).getD j z0 i) T.length + c T.length * (T ++ [x]).getD T.length z0 i = _
  rw [getD_new]
  congr 1
  exact sK_congr (fun j hj => by rw [getD_app hj])
theorem cmb_lc (T : List (Vc e)) (u w : Vc e) (c : Kf e) : cmb T (lc u c w) = lc (cmb T u) c (cmb T w) := by
  funext i
  unfold cmb lc
  rw [← sK_lc]
  exact sK_congr (fun j _ => by grind)
theorem cmb_congr {T : List (Vc e)} {c d : Vc e} (h : ∀ j, j < T.length → c j = d j) : cmb T c = cmb T d := by
  funext i
  unfold cmb
  exact sK_congr (fun j hj => by rw [h j hj])
theorem spn_cmb (T : List (Vc e)) : ∀ w, spn T w ↔ ∃ c, sup T.length c ∧ cmb T c = w := by
  refine snoc_ind (P := fun T => ∀ w, spn T w ↔ ∃ c, sup T.length c ∧ cmb T c = w) ?_ ?_ T
  · intro w
    constructor
    · intro h
      have : w = z0 := h
      exact ⟨z0, sup_z0, by rw [this]; rfl⟩
    · rintro ⟨c, -, rfl⟩
      rfl
  · intro T x ih w
    rw [spn_app]
    constructor
    · rintro ⟨d, hd⟩
      obtain ⟨c, c1, c2⟩ := (ih _).mp hd
      refine ⟨fun j => if j = T.length then -d else c j, fun j hj => ?_, ?_⟩
      · rw [List.length_append, List.length_singleton] at hj
        dsimp only
        rw [if_neg (by omega), c1 j (by omega)]
      · have e1 : cmb T (fun j => if j = T.length then -d else c j) = cmb T c := cmb_congr (fun j hj => by rw [if_neg (by omega)])
        rw [cmb_app, e1, c2, if_pos rfl, lc_lc]
        have : d + -d = 0 := by grind
        rw [this, lc_0]
    · rintro ⟨c, c1, rfl⟩
      rw [cmb_app]
      refine ⟨-(c T.length), ?_⟩
      rw [lc_lc]
      have : c T.length + -(c T.length) = 0 := by grind
      rw [this, lc_0]
      refine (ih _).mpr ⟨fun j => if j < T.length then c j else 0, fun j hj => if_neg (by omega), cmb_congr (fun j hj => if_pos hj)⟩
theorem cmb_z (he : e ≤ 1) (T : List (Vc e)) : Good n T → ∀ c, cmb T c = z0 → ∀ j, j < T.length → c j = 0 := by
  refine snoc_ind (P := fun T => Good n T → ∀ c, cmb T c = z0 → ∀ j, j < T.length → c j = 0) ?_ ?_ T
  · intro _ c _ j hj
    exact absurd hj (Nat.not_lt_zero j)
  · intro T x ih hG c hc j hj
    obtain ⟨hG1, hx⟩ := good_pre he hG
    rw [cmb_app] at hc
    have hk : c T.length = 0 := by
      apply Classical.byContradiction
      intro q
      apply hx
      refine (spn_cmb T x).mpr ⟨fun j => if j < T.length then -(c T.length) * c j else 0, fun j hj => if_neg (by omega), ?_⟩
      have e1 : cmb T (fun j => if j < T.length then -(c T.length) * c j else 0) = cmb T (lc z0 (-(c T.length)) c) := cmb_congr (fun j hj => by
        rw [if_pos hj]
        unfold lc z0
        grind)
      have e2 : cmb T (z0 : Vc e) = z0 := by
        funext i
        exact sK_zero (fun j _ => by unfold z0; grind)
      rw [e1, cmb_lc, e2]
      funext i
      have h1 := congrFun hc i
      have h2 := sq1 he q
      unfold lc z0 at h1 ⊢
      have h3 : cmb T c i = -(c T.length * x i) := by grind
      rw [h3]
      have h4 : 0 + -(c T.length) * -(c T.length * x i) = (c T.length * c T.length) * x i := by grind
      rw [h4, h2]
      grind
    rw [hk, lc_0] at hc
    rw [List.length_append, List.length_singleton] at hj
    by_cases q : j = T.length
    · rw [q]
      exact hk
    · exact ih hG1 c hc j (by omega)
theorem cmb_inj (he : e ≤ 1) {T : List (Vc e)} (hG : Good n T) {c d : Vc e} (hc : sup T.length c) (hd : sup T.length d) (h : cmb T c = cmb T d) : c = d := by
  have h1 : cmb T (lc c (-1) d) = z0 := by rw [cmb_lc, h, lc_neg]
  have h2 := cmb_z he T hG _ h1
  refine sup_ext hc hd (fun j hj => ?_)
  have h3 : c j + -1 * d j = 0 := h2 j hj
  grind
noncomputable def cod (T : List (Vc e)) (w : Vc e) : Vc e := @Classical.epsilon (Vc e) ⟨z0⟩ (fun c => sup T.length c ∧ cmb T c = w)
theorem cod_spec {T : List (Vc e)} {w : Vc e} (h : spn T w) : sup T.length (cod T w) ∧ cmb T (cod T w) = w := Classical.epsilon_spec (p := fun c => sup T.length c ∧ cmb T c = w) ((spn_cmb T w).mp h)
theorem cod_eq (he : e ≤ 1) {T : List (Vc e)} (hG : Good n T) {w c : Vc e} (hc : sup T.length c) (h : cmb T c = w) : cod T w = c := by
  have h1 := cod_spec ((spn_cmb T w).mpr ⟨c, hc, h⟩)
  exact cmb_inj he hG h1.1 hc (by rw [h1.2, h])
/-- the matrices with respect to what a vector spins -/
noncomputable def tel (n : Nat) (A : Nat → Nat → Nat → Kf e) (v : Vc e) (g i j : Nat) : Kf e := cod (spin n A [] v) (mv n (A g) ((spin n A [] v).getD i z0)) j
noncomputable def sqT (n : Nat) (A : Nat → Nat → Nat → Kf e) (v : Vc e) : Nat → Int := sqA n (tel n A v)
/-- the least sequence -/
def canP (n : Nat) (A : Nat → Nat → Nat → Kf e) (F : Nat → Int) : Prop := (∃ v, sup n v ∧ v ≠ z0 ∧ ∀ c, c < 2 * (n * n) → F c = sqT n A v c) ∧ ∀ v, sup n v → v ≠ z0 → 0 ≤ fdx (sqT n A v) F (2 * (n * n))
theorem fdx_congr {f g f' g' : Nat → Int} : ∀ {N : Nat}, (∀ c, c < N → f c = f' c ∧ g c = g' c) → fdx f g N = fdx f' g' N
  | 0, _ => rfl
  | N + 1, h => by
    show (if fdx f g N ≠ 0 then fdx f g N else f N - g N) = (if fdx f' g' N ≠ 0 then fdx f' g' N else f' N - g' N)
    rw [fdx_congr (fun c hc => h c (by omega)), (h N (by omega)).1, (h N (by omega)).2]
theorem fdx_neg {f g : Nat → Int} : ∀ {N : Nat}, fdx f g N = -(fdx g f N)
  | 0 => rfl
  | N + 1 => by
    have ih := fdx_neg (f := f) (g := g) (N := N)
    show (if fdx f g N ≠ 0 then fdx f g N else f N - g N) = -(if fdx g f N ≠ 0 then fdx g f N else g N - f N)
    by_cases q : fdx f g N = 0
    · rw [if_neg (fun z => z q), if_neg (fun z => z (by omega))]
      omega
    · rw [if_pos q, if_pos (by omega)]
      omega
theorem canP_eq {A : Nat → Nat → Nat → Kf e} {F G : Nat → Int} (hF : canP n A F) (hG : canP n A G) : ∀ c, c < 2 * (n * n) → F c = G c := by
  obtain ⟨⟨v, v1, v2, v3⟩, hF2⟩ := hF
  obtain ⟨⟨w, w1, w2, w3⟩, hG2⟩ := hG
  have h1 : fdx F G (2 * (n * n)) = fdx (sqT n A v) G (2 * (n * n)) := fdx_congr (fun c hc => ⟨v3 c hc, rfl⟩)
  have h2 : fdx G F (2 * (n * n)) = fdx (sqT n A w) F (2 * (n * n)) := fdx_congr (fun c hc => ⟨w3 c hc, rfl⟩)
  have h3 := hG2 v v1 v2
  have h4 := hF2 w w1 w2
  have h5 := fdx_neg (f := F) (g := G) (N := 2 * (n * n))
  exact fdx_z.mp (by omega)
/-- an isomorphism of modules, on their vectors -/
def isoM (n : Nat) (A : Nat → Nat → Nat → Kf e) (m : Nat) (B : Nat → Nat → Nat → Kf e) (ψ : Vc e → Vc e) : Prop := (∀ u c w, sup n u → sup n w → ψ (lc u c w) = lc (ψ u) c (ψ w)) ∧ (∀ w, sup n w → sup m (ψ w)) ∧ (∀ w, sup n w → ψ w = z0 → w = z0) ∧ (∀ y, sup m y → ∃ w, sup n w ∧ ψ w = y) ∧ ∀ g, g < 2 → ∀ w, sup n w → ψ (mv n (A g) w) = mv m (B g) (ψ w)
section
variable {A : Nat → Nat → Nat → Kf e} {B : Nat → Nat → Nat → Kf e} {ψ : Vc e → Vc e}
theorem iso_z0 (h : isoM n A m B ψ) : ψ z0 = z0 := by
  have h1 := h.1 z0 (-1) z0 sup_z0 sup_z0
  rw [lc_neg] at h1
  exact h1.trans (lc_neg _)
theorem iso_inj (h : isoM n A m B ψ) {u w : Vc e} (hu : sup n u) (hw : sup n w) (hq : ψ u = ψ w) : u = w := by
  have h1 := h.1 u (-1) w hu hw
  rw [hq, lc_neg] at h1
  have h2 := h.2.2.1 _ (sup_lc hu hw) h1
  funext i
  have := congrFun h2 i
  unfold lc z0 at this
  grind
theorem map_getD (h0 : ψ z0 = z0) (T : List (Vc e)) (i : Nat) : (T.map ψ).getD i z0 = ψ (T.getD i z0) := by
  rw [List.getD_eq_getElem?_getD, List.getD_eq_getElem?_getD, List.getElem?_map]
  cases T[i]? with
  | none => exact h0.symm
  | some x => rfl
theorem iso_cmb (h : isoM n A m B ψ) (T : List (Vc e)) : (∀ x ∈ T, sup n x) → ∀ c, sup n (cmb T c) ∧ ψ (cmb T c) = cmb (T.map ψ) c := by
  refine snoc_ind (P := fun T => (∀ x ∈ T, sup n x) → ∀ c, sup n (cmb T c) ∧ ψ (cmb T c) = cmb (T.map ψ) c) ?_ ?_ T
  · intro _ c
    exact ⟨sup_z0, iso_z0 h⟩
  · intro T x ih hs c
    have hT : ∀ y ∈ T, sup n y := fun y hy => hs y (List.mem_append_left _ hy)
    have hx := hs x (List.mem_append_right _ (List.mem_singleton.mpr rfl))
    obtain ⟨h1, h2⟩ := ih hT c
    rw [List.map_append, List.map_singleton, cmb_app, cmb_app, List.length_map]
    exact ⟨sup_lc h1 hx, by rw [h.1 _ _ _ h1 hx, h2]⟩
theorem iso_spn (h : isoM n A m B ψ) {T : List (Vc e)} (hT : ∀ x ∈ T, sup n x) {x : Vc e} (hx : sup n x) : spn (T.map ψ) (ψ x) ↔ spn T x := by
  rw [spn_cmb, spn_cmb, List.length_map]
  constructor
  · rintro ⟨c, c1, c2⟩
    have h1 := iso_cmb h T hT c
    exact ⟨c, c1, iso_inj h h1.1 hx (by rw [h1.2, c2])⟩
  · rintro ⟨c, c1, c2⟩
    have h1 := iso_cmb h T hT c
    exact ⟨c, c1, by rw [← h1.2, c2]⟩
theorem iso_addv (h : isoM n A m B ψ) {T : List (Vc e)} (hT : ∀ x ∈ T, sup n x) {x : Vc e} (hx : sup n x) : addv (T.map ψ) (ψ x) = (addv T x).map ψ := by
  unfold addv
  by_cases q : spn T x
  · rw [ifp_t q, ifp_t ((iso_spn h hT hx).mpr q)]
  · rw [ifp_f q, ifp_f (fun z => q ((iso_spn h hT hx).mp z)), List.map_append, List.map_singleton]
theorem mem_sup {T : List (Vc e)} (h : ∀ x ∈ T, sup n x) (i : Nat) : sup n (T.getD i z0) := by
  rw [List.getD_eq_getElem?_getD]
  cases hq : T[i]? with
  | none => exact sup_z0
  | some x => exact h x (List.mem_of_getElem? hq)
theorem iso_sps (h : isoM n A m B ψ) {b : Nat} : ∀ {f : Nat} {T : List (Vc e)} {c : Nat}, (∀ x ∈ T, sup n x) → sps m B b f (T.map ψ) c = (sps n A b f T c).map ψ
  | 0, _, _, _ => rfl
  | f + 1, T, c, hT => by
    unfold sps
    rw [List.length_map]
    by_cases q : b + c / 2 < T.length
    · rw [if_pos q, if_pos q]
      have e1 : cand m B b (T.map ψ) c = ψ (cand n A b T c) := by
        unfold cand
        rw [map_getD (iso_z0 h), h.2.2.2.2 _ (Nat.mod_lt _ (by omega)) _ (mem_sup hT _)]
      rw [e1, iso_addv h hT cand_sup]
      exact iso_sps h (addv_sup hT cand_sup)
    · rw [if_neg q, if_neg q]
theorem iso_spin (h : isoM n A m B ψ) {v : Vc e} (hv : sup n v) : spin m B [] (ψ v) = (spin n A [] v).map ψ := by
  rw [spin_nil, spin_nil]
  have e1 : addv [] (ψ v) = (addv [] v).map ψ := iso_addv h (T := []) (fun x hx => absurd hx List.not_mem_nil) hv
  rw [e1]
  exact iso_sps h (addv_sup (fun x hx => absurd hx List.not_mem_nil) hv)
theorem iso_tel (he : e ≤ 1) (h : isoM n A m B ψ) {v : Vc e} (hv : sup n v) (hfull : ∀ w, sup n w → spn (spin n A [] v) w) (hG' : Good m (spin m B [] (ψ v))) {g i : Nat} (hg : g < 2) : tel m B (ψ v) g i = tel n A v g i := by
  have hG : Good n (spin n A [] v) := spin_good he Good.nil hv
  have hs := iso_spin h hv
  have hi : sup n ((spin n A [] v).getD i z0) := mem_sup hG.1 i
  obtain ⟨c1, c2⟩ := cod_spec (hfull _ (sup_mv (n := n) (A := A g) (v := (spin n A [] v).getD i z0)))
  funext j
  unfold tel
  have e1 : mv m (B g) ((spin m B [] (ψ v)).getD i z0) = ψ (mv n (A g) ((spin n A [] v).getD i z0)) := by
    rw [hs, map_getD (iso_z0 h), h.2.2.2.2 g hg _ hi]
  rw [e1]
  have e2 : cod (spin m B [] (ψ v)) (ψ (mv n (A g) ((spin n A [] v).getD i z0))) = cod (spin n A [] v) (mv n (A g) ((spin n A [] v).getD i z0)) := by
    refine cod_eq he hG' (by rw [hs, List.length_map]; exact c1) ?_
    rw [hs, ← (iso_cmb h _ hG.1 _).2, c2]
  rw [e2]
end
end
