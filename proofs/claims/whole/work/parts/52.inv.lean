/-! What is spun is the smallest invariant space. -/
section
variable {e n : Nat} {A : Nat → Nat → Nat → Kf e}
theorem sK_lc {f g : Nat → Kf e} {c : Kf e} : ∀ {m : Nat}, sK (fun i => f i + c * g i) m = sK f m + c * sK g m
  | 0 => by
    show (0 : Kf e) = 0 + c * 0
    grind
  | m + 1 => by
    show sK (fun i => f i + c * g i) m + (f m + c * g m) = sK f m + f m + c * (sK g m + g m)
    rw [sK_lc]
    grind
theorem sK_congr {f g : Nat → Kf e} : ∀ {m : Nat}, (∀ i, i < m → f i = g i) → sK f m = sK g m
  | 0, _ => rfl
  | m + 1, h => by
    show sK f m + f m = sK g m + g m
    rw [sK_congr (fun i hi => h i (by omega)), h m (by omega)]
theorem mv_lc {B : Nat → Nat → Kf e} (u w : Vc e) (c : Kf e) : mv n B (lc u c w) = lc (mv n B u) c (mv n B w) := by
  funext j
  show (if j < n then sK (fun i => (u i + c * w i) * B i j) n else 0) = (if j < n then sK (fun i => u i * B i j) n else 0) + c * (if j < n then sK (fun i => w i * B i j) n else 0)
  by_cases h : j < n
  · rw [if_pos h, if_pos h, if_pos h, ← sK_lc]
    refine sK_congr (fun i _ => ?_)
    grind
  · rw [if_neg h, if_neg h, if_neg h]
    grind
theorem mv_z0 {B : Nat → Nat → Kf e} : mv n B z0 = z0 := by
  funext j
  unfold mv
  by_cases h : j < n
  · rw [if_pos h]
    have key : ∀ m : Nat, sK (fun i => (z0 : Vc e) i * B i j) m = 0 := by
      intro m
      induction m with
      | zero => rfl
      | succ m ih =>
        show sK (fun i => (z0 : Vc e) i * B i j) m + (z0 : Vc e) m * B m j = 0
        rw [ih]
        unfold z0
        grind
    exact key n
  · rw [if_neg h]
    rfl
def Inv (n : Nat) (A : Nat → Nat → Nat → Kf e) (S : Vc e → Prop) : Prop := ∀ g, g < 2 → ∀ w, S w → S (mv n (A g) w)
theorem spn_min {U : Vc e → Prop} (hU : Sub n U) : ∀ {T : List (Vc e)}, (∀ x ∈ T, U x) → ∀ w, spn T w → U w := by
  have key : ∀ (T : List (Vc e)) (S : Vc e → Prop), (∀ w, S w → U w) → (∀ x ∈ T, U x) → ∀ w, T.foldl ext S w → U w := by
    intro T
    induction T with
    | nil => intro S hS _ w hw; exact hS w hw
    | cons x T ih =>
      intro S hS hx w hw
      exact ih (ext S x) (fun w hw => ext_min hU hS (hx x List.mem_cons_self) hw) (fun y hy => hx y (List.mem_cons_of_mem _ hy)) w hw
  intro T hT w hw
  refine key T _ (fun w hw => ?_) hT w hw
  have : w = z0 := hw
  rw [this]
  exact hU.1
theorem spn_mono {T R : List (Vc e)} : ∀ w, spn T w → spn (T ++ R) w := by
  have key : ∀ (R : List (Vc e)) (S : Vc e → Prop) (w : Vc e), S w → R.foldl ext S w := by
    intro R
    induction R with
    | nil => intro S w h; exact h
    | cons x R ih => intro S w h; exact ih (ext S x) w (ext_old h)
  intro w hw
  unfold spn at *
  rw [List.foldl_append]
  exact key R _ w hw
theorem addv_ex {T : List (Vc e)} {x : Vc e} (hs : ∀ y ∈ T, sup n y) (hx : sup n x) : (∃ R, addv T x = T ++ R) ∧ spn (addv T x) x := by
  unfold addv
  by_cases h : spn T x
  · rw [ifp_t h]
    exact ⟨⟨[], (List.append_nil T).symm⟩, h⟩
  · rw [ifp_f h]
    refine ⟨⟨[x], rfl⟩, ?_⟩
    rw [spn_app]
    exact ext_new (spn_sub hs)
theorem getD_appl {T R : List (Vc e)} {i : Nat} (h : i < T.length) : (T ++ R).getD i z0 = T.getD i z0 := by
  rw [List.getD_eq_getElem?_getD, List.getD_eq_getElem?_getD, List.getElem?_append_left h]
theorem sps_cl (he : e ≤ 1) {b : Nat} : ∀ {f : Nat} {T : List (Vc e)} {c : Nat}, Good n T → 2 * n + 1 ≤ f + c → (∀ t g, b ≤ t → t < T.length → g < 2 → 2 * (t - b) + g < c → spn T (mv n (A g) (T.getD t z0))) → (∀ t g, b ≤ t → t < (sps n A b f T c).length → g < 2 → spn (sps n A b f T c) (mv n (A g) ((sps n A b f T c).getD t z0))) ∧ ∃ R, sps n A b f T c = T ++ R
  | 0, T, c, hG, hf, hc => by
    refine ⟨fun t g h1 h2 h3 => ?_, [], (List.append_nil T).symm⟩
    have h2' : t < T.length := h2
    have := hG.len
    exact hc t g h1 h2' h3 (by omega)
  | f + 1, T, c, hG, hf, hc => by
    unfold sps
    by_cases hq : b + c / 2 < T.length
    · rw [if_pos hq]
      have hxs : sup n (cand n A b T c) := cand_sup
      obtain ⟨⟨R, hR⟩, hx⟩ := addv_ex hG.1 hxs
      have hG1 := hG.add he hxs
      have ih := sps_cl he (b := b) (f := f) (T := addv T (cand n A b T c)) (c := c + 1) hG1 (by omega) (fun t g h1 h2 h3 h4 => by
        by_cases ht : t < T.length
        · have hg : (addv T (cand n A b T c)).getD t z0 = T.getD t z0 := by
            rw [hR]
            exact getD_appl ht
          rw [hg]
          by_cases h5 : 2 * (t - b) + g < c
          · have := hc t g h1 ht h3 h5
            rw [hR]
            exact spn_mono _ this
          · have e1 : t = b + c / 2 := by omega
            have e2 : g = c % 2 := by omega
            rw [e1, e2]
            exact hx
        · exfalso
          omega)
      refine ⟨ih.1, ?_⟩
      obtain ⟨R2, hR2⟩ := ih.2
      exact ⟨R ++ R2, by rw [hR2, hR, List.append_assoc]⟩
    · rw [if_neg hq]
      exact ⟨fun t g h1 h2 h3 => hc t g h1 h2 h3 (by omega), [], (List.append_nil T).symm⟩
theorem mem_getD {T : List (Vc e)} {x : Vc e} (h : x ∈ T) : ∃ t, t < T.length ∧ T.getD t z0 = x := by
  obtain ⟨t, ht, hx⟩ := List.mem_iff_getElem.mp h
  refine ⟨t, ht, ?_⟩
  rw [List.getD_eq_getElem?_getD, List.getElem?_eq_getElem ht]
  exact hx
theorem inv_of {T : List (Vc e)} (hG : Good n T) (h : ∀ t g, t < T.length → g < 2 → spn T (mv n (A g) (T.getD t z0))) : Inv n A (spn T) := by
  intro g hg w hw
  have hS := hG.sub
  have hU : Sub n (fun w => sup n w ∧ spn T (mv n (A g) w)) := by
    refine ⟨⟨sup_z0, ?_⟩, fun u w c hu hw => ⟨sup_lc hu.1 hw.1, ?_⟩, fun w hw => hw.1⟩
    · rw [mv_z0]
      exact hS.1
    · rw [mv_lc]
      exact hS.2.1 _ _ c hu.2 hw.2
  refine (spn_min hU (fun x hx => ⟨hG.1 x hx, ?_⟩) w hw).2
  obtain ⟨t, ht, rfl⟩ := mem_getD hx
  exact h t g ht hg
theorem spn_mem {T : List (Vc e)} (hG : Good n T) {x : Vc e} (hx : x ∈ T) : spn T x := by
  have key : ∀ (T : List (Vc e)) (S : Vc e → Prop), Sub n S → (∀ y ∈ T, sup n y) → ∀ x ∈ T, T.foldl ext S x := by
    intro T
    induction T with
    | nil => intro S _ _ x hx; exact absurd hx List.not_mem_nil
    | cons y T ih =>
      intro S hS hs x hx
      have hy := hs y List.mem_cons_self
      have hE := ext_sub hS hy
      rcases List.mem_cons.mp hx with rfl | hx
      · have : ∀ (R : List (Vc e)) (S : Vc e → Prop) (w : Vc e), S w → R.foldl ext S w := by
          intro R
          induction R with
          | nil => intro S w h; exact h
          | cons x R ih => intro S w h; exact ih (ext S x) w (ext_old h)
        exact this T _ _ (ext_new hS)
      · exact ih (ext S y) hE (fun z hz => hs z (List.mem_cons_of_mem _ hz)) x hx
  exact key T _ Sub.zero hG.1 x hx
theorem spin_inv (he : e ≤ 1) (hn : n ≤ 6) {T : List (Vc e)} (hG : Good n T) (hI : Inv n A (spn T)) {v : Vc e} (hv : sup n v) : Inv n A (spn (spin n A T v)) ∧ (∃ R, spin n A T v = T ++ R) ∧ spn (spin n A T v) v := by
  unfold spin
  by_cases h : spn T v
  · rw [ifp_t h]
    exact ⟨hI, ⟨[], (List.append_nil T).symm⟩, h⟩
  · rw [ifp_f h]
    have hG1 := hG.app he hv h
    obtain ⟨h1, R, hR⟩ := sps_cl (A := A) he (b := T.length) (f := 20) (T := T ++ [v]) (c := 0) hG1 (by omega) (fun t g _ _ _ q => absurd q (Nat.not_lt_zero _))
    have hG2 : Good n (sps n A T.length 20 (T ++ [v]) 0) := sps_good he hG1
    refine ⟨inv_of hG2 (fun t g ht hg => ?_), ⟨v :: R, by rw [hR, List.append_assoc]; rfl⟩, ?_⟩
    · by_cases hb : T.length ≤ t
      · exact h1 t g hb ht hg
      · have e1 : (sps n A T.length 20 (T ++ [v]) 0).getD t z0 = T.getD t z0 := by
          rw [hR, List.append_assoc]
          exact getD_appl (by omega)
        have hm : T.getD t z0 ∈ T := by
          rw [List.getD_eq_getElem?_getD, List.getElem?_eq_getElem (by omega)]
          exact List.getElem_mem _
        rw [e1]
        have h2 := hI g hg _ (spn_mem hG hm)
        rw [hR, List.append_assoc]
        exact spn_mono _ h2
    · rw [hR]
      refine spn_mono _ ?_
      rw [spn_app]
      exact ext_new hG.sub
theorem spin_min {U : Vc e → Prop} (hU : Sub n U) (hI : Inv n A U) {T : List (Vc e)} (hT : ∀ x ∈ T, U x) {v : Vc e} (hv : U v) : ∀ x ∈ spin n A T v, U x := by
  have hadd : ∀ {T : List (Vc e)} {x : Vc e}, (∀ y ∈ T, U y) → U x → ∀ y ∈ addv T x, U y := by
    intro T x hT hx y hy
    unfold addv at hy
    by_cases h : spn T x
    · rw [ifp_t h] at hy
      exact hT y hy
    · rw [ifp_f h] at hy
      rcases List.mem_append.mp hy with q | q
      · exact hT y q
      · rw [List.mem_singleton.mp q]
        exact hx
  have hsps : ∀ (f b : Nat) (T : List (Vc e)) (c : Nat), (∀ x ∈ T, U x) → ∀ x ∈ sps n A b f T c, U x := by
    intro f b
    induction f with
    | zero => intro T c h; exact h
    | succ f ih =>
      intro T c h
      unfold sps
      by_cases hq : b + c / 2 < T.length
      · rw [if_pos hq]
        refine ih _ _ (hadd h ?_)
        unfold cand
        refine hI _ (Nat.mod_lt _ (by omega)) _ (h _ ?_)
        rw [List.getD_eq_getElem?_getD, List.getElem?_eq_getElem hq]
        exact List.getElem_mem _
      · rw [if_neg hq]
        exact h
  unfold spin
  by_cases h : spn T v
  · rw [ifp_t h]
    exact hT
  · rw [ifp_f h]
    refine hsps _ _ _ _ (fun x hx => ?_)
    rcases List.mem_append.mp hx with q | q
    · exact hT x q
    · rw [List.mem_singleton.mp q]
      exact hv
end
