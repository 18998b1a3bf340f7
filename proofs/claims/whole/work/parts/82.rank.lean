/-! Linear maps: kernels and images; the space of homomorphisms by its equations and by its values. -/
section
variable {e N K : Nat}
def dot (N : Nat) (w h : Vc e) : Kf e := sK (fun i => w i * h i) N
theorem dot_l {u w h : Vc e} {c : Kf e} : dot N (lc u c w) h = dot N u h + c * dot N w h := by
  unfold dot
  rw [← sK_lc]
  refine sK_congr (fun i _ => ?_)
  unfold lc
  grind
theorem dot_r {w h k : Vc e} {c : Kf e} : dot N w (lc h c k) = dot N w h + c * dot N w k := by
  unfold dot
  rw [← sK_lc]
  refine sK_congr (fun i _ => ?_)
  unfold lc
  grind
theorem dot_0 {h : Vc e} : dot N z0 h = 0 := sK_zero (fun i _ => by unfold z0; grind)
theorem dot_un {w : Vc e} {c : Nat} (hc : c < N) : dot N w (un c) = w c := sK_one (i := c) (fun k hk => by
    unfold un
    rw [if_neg hk]
    grind) (by
    unfold un
    rw [if_pos rfl]
    grind) hc
def linM (L : Vc e → Vc e) : Prop := ∀ u c w, L (lc u c w) = lc (L u) c (L w)
theorem lin_z0 {L : Vc e → Vc e} (hL : linM L) : L z0 = z0 := by
  have h := hL z0 (-1) z0
  rw [lc_neg] at h
  exact h.trans (lc_neg _)
def imT (L : Vc e → Vc e) : Nat → List (Vc e)
  | 0 => []
  | k + 1 => imT L k ++ [L (un k)]
theorem imT_sup {L : Vc e → Vc e} (hs : ∀ h, sup K (L h)) : ∀ {k : Nat}, ∀ x ∈ imT L k, sup K x
  | 0, x, hx => absurd hx List.not_mem_nil
  | k + 1, x, hx => by
    rcases List.mem_append.mp hx with q | q
    · exact imT_sup hs x q
    · rw [List.mem_singleton.mp q]
      exact hs _
theorem cut_sup {k : Nat} {h : Vc e} (hs : sup (k + 1) h) : sup k (lc h (-(h k)) (un k)) := fun i hi => by
  unfold lc un
  by_cases q : i = k
  · rw [if_pos q, q]
    grind
  · rw [if_neg q, hs i (by omega)]
    grind
theorem im_iff {L : Vc e → Vc e} (hL : linM L) : ∀ (k : Nat) (y : Vc e), spn (imT L k) y ↔ ∃ h, sup k h ∧ L h = y
  | 0, y => by
    constructor
    · intro hy
      have : y = z0 := hy
      exact ⟨z0, sup_z0, by rw [lin_z0 hL, this]⟩
    · rintro ⟨h, h1, h2⟩
      have : h = z0 := funext (fun i => h1 i (Nat.zero_le i))
      show y = z0
      rw [← h2, this, lin_z0 hL]
  | k + 1, y => by
    show spn (imT L k ++ [L (un k)]) y ↔ _
    rw [spn_app]
    constructor
    · rintro ⟨c, hc⟩
      obtain ⟨h, h1, h2⟩ := (im_iff hL k _).mp hc
      refine ⟨lc h (-c) (un k), fun i hi => ?_, ?_⟩
      · unfold lc un
        rw [if_neg (by omega), h1 i (by omega)]
        grind
      · rw [hL, h2, lc_lc]
        have : c + -c = 0 := by grind
        rw [this, lc_0]
    · rintro ⟨h, h1, h2⟩
      refine ⟨-(h k), (im_iff hL k _).mpr ⟨_, cut_sup h1, ?_⟩⟩
      rw [hL, h2]
def ker (k : Nat) (L : Vc e → Vc e) (h : Vc e) : Prop := sup k h ∧ L h = z0
theorem ker_sub {L : Vc e → Vc e} (hL : linM L) {k : Nat} (hk : k ≤ N) : Sub N (ker k L) := by
  refine ⟨⟨sup_z0, lin_z0 hL⟩, fun u w c hu hw => ⟨sup_lc hu.1 hw.1, ?_⟩, fun w hw => sup_le hw.1 hk⟩
  rw [hL, hu.2, hw.2, lc_z0]
theorem rk_null (he : e ≤ 1) {L : Vc e → Vc e} (hL : linM L) (hs : ∀ h, sup K (L h)) : ∀ {k : Nat}, k ≤ N → dm N (ker k L) + dm K (spn (imT L k)) = k
  | 0, _ => by
    have h1 : dm N (ker 0 L) = 0 := by
      have h3 : dm N (ker 0 L) = dm N (fun w : Vc e => w = z0) := by
        refine dm_congr (fun w => ⟨fun h => funext (fun i => h.1 i (Nat.zero_le i)), fun h => ?_⟩)
        have : w = z0 := h
        rw [this]
        exact ⟨sup_z0, lin_z0 hL⟩
      rw [h3]
      exact dm_zero
    have h2 : dm K (spn (imT L 0)) = 0 := dm_zero
    omega
  | k + 1, hk => by
    have ih := rk_null he hL hs (k := k) (by omega)
    have hSub : Sub K (spn (imT L k)) := spn_sub (imT_sup hs)
    have e1 : spn (imT L (k + 1)) = ext (spn (imT L k)) (L (un k)) := spn_app _ _
    by_cases hx : spn (imT L k) (L (un k))
    · have e2 : dm K (spn (imT L (k + 1))) = dm K (spn (imT L k)) := by
        rw [e1]
        exact dm_congr (fun w => ext_in hSub hx)
      obtain ⟨h1, h2, h3⟩ := (im_iff hL k _).mp hx
      have hker : Sub N (ker k L) := ker_sub hL (by omega)
      have h0s : sup N (lc (un k) (-1) h1) := fun i hi => by
        unfold lc un
        rw [if_neg (by omega), h2 i (by omega)]
        grind
      have h0k : lc (un k) (-1) h1 k = 1 := by
        unfold lc un
        rw [if_pos rfl, h2 k (Nat.le_refl k)]
        grind
      have h0n : ¬ ker k L (lc (un k) (-1) h1) := fun q => by
        have := q.1 k (Nat.le_refl k)
        rw [h0k] at this
        exact k10 this
      have h0L : L (lc (un k) (-1) h1) = z0 := by
        rw [hL, h3, lc_neg]
      have e3 : dm N (ker (k + 1) L) = dm N (ker k L) + 1 := by
        rw [← dm_ext he hker h0s h0n]
        refine dm_congr (fun w => ⟨fun hw => ⟨-(w k), ⟨fun i hi => ?_, ?_⟩⟩, ?_⟩)
        · show w i + -(w k) * lc (un k) (-1) h1 i = 0
          by_cases q : i = k
          · rw [q, h0k]
            grind
          · have : lc (un k) (-1) h1 i = 0 := by
              unfold lc un
              rw [if_neg q, h2 i hi]
              grind
            rw [this, hw.1 i (by omega)]
            grind
        · rw [hL, hw.2, h0L, lc_z0]
        · rintro ⟨c, hc1, hc2⟩
          have hz : L w = z0 := by
            rw [hL, h0L, lc_z0] at hc2
            exact hc2
          refine ⟨fun i hi => ?_, hz⟩
          have h5 := hc1 i (by omega)
          have : lc (un k) (-1) h1 i = 0 := by
            unfold lc un
            rw [if_neg (by omega), h2 i (by omega)]
            grind
          have h6 : w i + c * lc (un k) (-1) h1 i = 0 := h5
          rw [this] at h6
          grind
      omega
    · have e2 : dm K (spn (imT L (k + 1))) = dm K (spn (imT L k)) + 1 := by
        rw [e1]
        exact dm_ext he hSub (hs _) hx
      have e3 : dm N (ker (k + 1) L) = dm N (ker k L) := by
        refine dm_congr (fun w => ⟨fun hw => ⟨fun i hi => ?_, hw.2⟩, fun hw => ⟨sup_le hw.1 (by omega), hw.2⟩⟩)
        by_cases q : i = k
        · apply Classical.byContradiction
          intro hne
          rw [q] at hne
          apply hx
          refine (im_iff hL k _).mpr ⟨scv (-(w k)) (lc w (-(w k)) (un k)), fun j hj => ?_, ?_⟩
          · unfold scv
            rw [cut_sup hw.1 j hj]
            grind
          · have e4 : scv (-(w k)) (lc w (-(w k)) (un k)) = lc z0 (-(w k)) (lc w (-(w k)) (un k)) := by
              funext j
              unfold scv lc z0
              grind
            rw [e4, hL, hL, hw.2, lin_z0 hL]
            funext j
            unfold lc z0
            have := sq1 he hne
            have h7 : 0 + -(w k) * (0 + -(w k) * L (un k) j) = (w k * w k) * L (un k) j := by grind
            rw [h7, this]
            grind
        · exact hw.1 i (by omega)
      omega
def perp (N : Nat) (S : Vc e → Prop) (h : Vc e) : Prop := sup N h ∧ ∀ w, S w → dot N w h = 0
theorem perp_dm (he : e ≤ 1) {S : Vc e → Prop} (hS : Sub N S) : dm N S + dm N (perp N S) = N := by
  have hLt : ∀ i, Lp S i → i < N := fun i hi => Lp_lt hS hi
  let L : Vc e → Vc e := fun h i => ifp (Lp S i) (dot N (crow S i) h) 0
  have hLd : ∀ h i, L h i = ifp (Lp S i) (dot N (crow S i) h) 0 := fun _ _ => rfl
  have hL : linM L := by
    intro u c w
    funext i
    show L (lc u c w) i = L u i + c * L w i
    rw [hLd, hLd, hLd]
    by_cases q : Lp S i
    · rw [ifp_t q, ifp_t q, ifp_t q, dot_r]
    · rw [ifp_f q, ifp_f q, ifp_f q]
      grind
  have hs : ∀ h, sup N (L h) := fun h i hi => by
    rw [hLd, ifp_f (fun q => by have := hLt i q; omega)]
  have h1 := rk_null (N := N) he hL hs (Nat.le_refl N)
  have h2 : dm N (ker N L) = dm N (perp N S) := by
    refine dm_congr (fun h => ⟨fun q => ⟨q.1, fun w hw => ?_⟩, fun q => ⟨q.1, ?_⟩⟩)
    · have hz : ∀ i, Lp S i → dot N (crow S i) h = 0 := fun i hi => by
        have h3 := congrFun q.2 i
        rw [hLd, ifp_t hi] at h3
        exact h3
      have key : ∀ m : Nat, dot N (rds S w m) h = dot N w h := by
        intro m
        induction m with
        | zero => rfl
        | succ m ih =>
          show dot N (lc (rds S w m) (-(rds S w m m)) (cr S m)) h = _
          rw [dot_l, ih]
          have : dot N (cr S m) h = 0 := by
            unfold cr
            by_cases z : Lp S m
            · rw [ifp_t z]; exact hz m z
            · rw [ifp_f z]; exact dot_0
          rw [this]
          grind
      have h4 := key N
      have h5 : rds S w N = z0 := (rd_z0 he hS hLt).mpr hw
      rw [h5, dot_0] at h4
      exact h4.symm
    · funext i
      rw [hLd]
      by_cases z : Lp S i
      · rw [ifp_t z]
        exact q.2 _ (crow_spec he hS z).1
      · rw [ifp_f z]
        rfl
  have h3 : dm N (spn (imT L N)) = dm N S := by
    have himg : ∀ y, spn (imT L N) y ↔ sup N y ∧ ∀ i, ¬ Lp S i → y i = 0 := by
      intro y
      rw [im_iff hL]
      constructor
      · rintro ⟨h, h5, rfl⟩
        exact ⟨hs h, fun i hi => by rw [hLd, ifp_f hi]⟩
      · rintro ⟨y1, y2⟩
        refine ⟨y, y1, ?_⟩
        funext i
        rw [hLd]
        by_cases z : Lp S i
        · rw [ifp_t z]
          refine sK_one (i := i) (fun k hk => ?_) ?_ (hLt i z)
          · by_cases z2 : Lp S k
            · rw [(crow_spec he hS z).2.2.2 k hk z2]
              grind
            · rw [y2 k z2]
              grind
          · rw [(crow_spec he hS z).2.2.1]
            grind
        · rw [ifp_f z, y2 i z]
    refine cnt_congr (fun i hi => ⟨?_, ?_⟩)
    · rintro ⟨w, hw, hf⟩
      apply Classical.byContradiction
      intro z
      exact hf.1 (((himg w).mp hw).2 i z)
    · intro z
      refine ⟨un i, (himg _).mpr ⟨un_sup hi, fun j hj => ?_⟩, ?_, fun j hj => ?_⟩
      · unfold un
        rw [if_neg (fun q => hj (by rw [q]; exact z))]
      · unfold un
        rw [if_pos rfl]
        exact k10
      · unfold un
        rw [if_neg (by omega)]
  omega
theorem perp_spn {T : List (Vc e)} (hT : ∀ x ∈ T, sup N x) {h : Vc e} (hh : sup N h) (hz : ∀ x ∈ T, dot N x h = 0) : perp N (spn T) h := by
  refine ⟨hh, fun w hw => ?_⟩
  have hU : Sub N (fun w => sup N w ∧ dot N w h = 0) := by
    refine ⟨⟨sup_z0, dot_0⟩, fun u w c hu hw => ⟨sup_lc hu.1 hw.1, ?_⟩, fun w hw => hw.1⟩
    rw [dot_l, hu.2, hw.2]
    grind
  exact (spn_min hU (fun x hx => ⟨hT x hx, hz x hx⟩) w hw).2
end
section
variable {e n m : Nat} {X Y : Nat → Nat → Nat → Kf e}
/-- homomorphisms, as vectors -/
def hom (n m : Nat) (X Y : Nat → Nat → Nat → Kf e) (h : Vc e) : Prop := sup (n * m) h ∧ ∀ g i j, g < 2 → i < n → j < m → dot (n * m) (eqV n m X Y g i j) h = 0
theorem eqT_sup : ∀ {t : Nat}, ∀ x ∈ eqT n m X Y t, sup (n * m) x
  | 0, x, hx => absurd hx List.not_mem_nil
  | t + 1, x, hx => by
    rcases List.mem_append.mp hx with q | q
    · exact eqT_sup x q
    · rw [List.mem_singleton.mp q]
      exact eqV_sup
theorem eqT_mem {k : Nat} : ∀ {t : Nat}, k < t → eqV n m X Y (k / (n * m)) (k % (n * m) / m) (k % (n * m) % m) ∈ eqT n m X Y t
  | 0, h => by omega
  | t + 1, h => by
    by_cases q : k = t
    · rw [q]
      exact List.mem_append_right _ (List.mem_singleton.mpr rfl)
    · exact List.mem_append_left _ (eqT_mem (t := t) (by omega))
theorem eqT_of : ∀ {t : Nat}, t ≤ 2 * (n * m) → ∀ x ∈ eqT n m X Y t, ∃ g i j, g < 2 ∧ i < n ∧ j < m ∧ x = eqV n m X Y g i j
  | 0, _, x, hx => absurd hx List.not_mem_nil
  | t + 1, ht, x, hx => by
    rcases List.mem_append.mp hx with q | q
    · exact eqT_of (t := t) (by omega) x q
    · have h0 : 0 < n * m := by omega
      have hm : 0 < m := Nat.pos_of_mul_pos_left h0
      refine ⟨t / (n * m), t % (n * m) / m, t % (n * m) % m, Nat.div_lt_of_lt_mul (by rw [Nat.mul_comm]; omega), Nat.div_lt_of_lt_mul (by have := Nat.mod_lt t h0; rw [Nat.mul_comm m n]; exact this), Nat.mod_lt _ hm, List.mem_singleton.mp q⟩
theorem hom_perp : ∀ h, hom n m X Y h ↔ perp (n * m) (spn (eqT n m X Y (2 * (n * m)))) h := by
  intro h
  constructor
  · rintro ⟨h1, h2⟩
    refine perp_spn eqT_sup h1 (fun x hx => ?_)
    obtain ⟨g, i, j, a1, a2, a3, rfl⟩ := eqT_of (Nat.le_refl _) x hx
    exact h2 g i j a1 a2 a3
  · rintro ⟨h1, h2⟩
    refine ⟨h1, fun g i j a1 a2 a3 => h2 _ ?_⟩
    have b1 : i * m + j < n * m := by
      have := Nat.mul_le_mul_right m (show i + 1 ≤ n by omega)
      rw [Nat.add_mul] at this
      omega
    have b2 : g * (n * m) ≤ 1 * (n * m) := Nat.mul_le_mul_right _ (by omega)
    have hmem := eqT_mem (n := n) (m := m) (X := X) (Y := Y) (k := g * (n * m) + (i * m + j)) (t := 2 * (n * m)) (by omega)
    have c1 : (g * (n * m) + (i * m + j)) / (n * m) = g := by rw [Nat.mul_comm g, Nat.mul_add_div (by omega), Nat.div_eq_of_lt b1]; omega
    have c2 : (g * (n * m) + (i * m + j)) % (n * m) = i * m + j := by rw [Nat.mul_comm g, Nat.mul_add_mod, Nat.mod_eq_of_lt b1]
    have c3 : (i * m + j) / m = i := by rw [Nat.mul_comm i, Nat.mul_add_div (by omega), Nat.div_eq_of_lt a3]; omega
    have c4 : (i * m + j) % m = j := by rw [Nat.mul_comm i, Nat.mul_add_mod, Nat.mod_eq_of_lt a3]
    rw [c1, c2, c3, c4] at hmem
    have key : ∀ {T : List (Vc e)} {x : Vc e}, (∀ y ∈ T, sup (n * m) y) → x ∈ T → spn T x := by
      intro T x hT hx
      have : ∀ (T : List (Vc e)) (S : Vc e → Prop), Sub (n * m) S → (∀ y ∈ T, sup (n * m) y) → ∀ x ∈ T, T.foldl ext S x := by
        intro T
        induction T with
        | nil => intro S _ _ x hx; exact absurd hx List.not_mem_nil
        | cons y T ih =>
          intro S hS hs x hx
          have hy := hs y List.mem_cons_self
          have hE := ext_sub hS hy
          rcases List.mem_cons.mp hx with rfl | hx
          · have : ∀ (R : List (Vc e)) (S : Vc e → Prop) (w : Vc e), S w → R.foldl ext S w := by
              intro R
              induction R with
              | nil => intro S w h; exact h
              | cons x R ih => intro S w h; exact ih (ext S x) w (ext_old h)
            exact this T _ _ (ext_new hS)
          · exact ih (ext S y) hE (fun z hz => hs z (List.mem_cons_of_mem _ hz)) x hx
      exact this T _ Sub.zero hT x hx
    exact key eqT_sup hmem
theorem wys_hom (he : e ≤ 1) : wys n m X Y = (dm (n * m) (hom n m X Y) : Nat) := by
  have h1 := perp_dm he (eqT_sub (n := n) (m := m) (X := X) (Y := Y) (2 * (n * m)))
  have h2 : dm (n * m) (hom n m X Y) = dm (n * m) (perp (n * m) (spn (eqT n m X Y (2 * (n * m))))) := dm_congr hom_perp
  unfold wys
  omega
/-- the values of h: place 12 i + 6 g + j -/
def hvl (n m : Nat) (X Y : Nat → Nat → Nat → Kf e) (h : Vc e) : Vc e := fun t => if t / 12 < n ∧ t % 6 < m then dot (n * m) (eqV n m X Y (t % 12 / 6) (t / 12) (t % 6)) h else 0
theorem hvl_lin : linM (hvl n m X Y) := by
  intro u c w
  funext t
  unfold hvl lc
  dsimp only
  by_cases q : t / 12 < n ∧ t % 6 < m
  · rw [if_pos q, if_pos q, if_pos q, ← dot_r]
    rfl
  · rw [if_neg q, if_neg q, if_neg q]
    grind
theorem hvl_sup (hn : n ≤ 6) (h : Vc e) : sup 72 (hvl n m X Y h) := fun t ht => by
  unfold hvl
  rw [if_neg (by omega)]
theorem wys_im (he : e ≤ 1) (hn : n ≤ 6) (hm : m ≤ 6) : wys n m X Y = ((n * m : Nat) : Int) - (dm 72 (spn (imT (hvl n m X Y) (n * m))) : Nat) := by
  have h1 := rk_null (N := n * m) he (hvl_lin (n := n) (m := m) (X := X) (Y := Y)) (hvl_sup hn) (Nat.le_refl _)
  have h2 : dm (n * m) (ker (n * m) (hvl n m X Y)) = dm (n * m) (hom n m X Y) := by
    refine dm_congr (fun h => ⟨fun q => ⟨q.1, fun g i j a1 a2 a3 => ?_⟩, fun q => ⟨q.1, ?_⟩⟩)
    · have h3 := congrFun q.2 (12 * i + 6 * g + j)
      unfold hvl at h3
      rw [if_pos (by omega), show (12 * i + 6 * g + j) % 12 / 6 = g by omega, show (12 * i + 6 * g + j) / 12 = i by omega, show (12 * i + 6 * g + j) % 6 = j by omega] at h3
      exact h3
    · funext t
      unfold hvl
      by_cases z : t / 12 < n ∧ t % 6 < m
      · rw [if_pos z]
        exact q.2 _ _ _ (by omega) z.1 z.2
      · rw [if_neg z]
        rfl
  rw [wys_hom he]
  omega
end
