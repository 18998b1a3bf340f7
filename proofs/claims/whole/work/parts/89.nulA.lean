/-! The class: null spaces. -/
section
variable {e n : Nat}
/-- a vector's image, with the vector itself carried along -/
def phv (n : Nat) (W : Nat → Vc e) (c : Vc e) : Vc e := fun p => if p < 6 then mv n W c p else if p < 12 then c (p - 6) else 0
theorem phv_lc {W : Nat → Vc e} (u w : Vc e) (c : Kf e) : phv n W (lc u c w) = lc (phv n W u) c (phv n W w) := by
  funext p
  unfold phv
  show (if p < 6 then mv n W (lc u c w) p else if p < 12 then lc u c w (p - 6) else 0) = (if p < 6 then mv n W u p else if p < 12 then u (p - 6) else 0) + c * (if p < 6 then mv n W w p else if p < 12 then w (p - 6) else 0)
  by_cases q : p < 6
  · rw [if_pos q, if_pos q, if_pos q, mv_lc]
    rfl
  · rw [if_neg q, if_neg q, if_neg q]
    by_cases q2 : p < 12
    · rw [if_pos q2, if_pos q2, if_pos q2]
      rfl
    · rw [if_neg q2, if_neg q2, if_neg q2]
      grind
theorem phv_sup {W : Nat → Vc e} {c : Vc e} : sup 12 (phv n W c) := fun p hp => by
  unfold phv
  rw [if_neg (by omega), if_neg (by omega)]
/-- after i rows: the images that were taken, the null vectors -/
def nlI (n : Nat) (W : Nat → Vc e) (i : Nat) (T N : List (Vc e)) : Prop := (∀ y, spn T y → ∃ c, sup i c ∧ y = phv n W c) ∧ (∀ h, sup i h → ∃ c, sup i c ∧ spn T (phv n W c) ∧ mv n W c = mv n W h) ∧ ∀ w, spn N w ↔ sup i w ∧ mv n W w = z0
theorem nlI_0 {W : Nat → Vc e} : nlI n W 0 ([] : List (Vc e)) [] := by
  have hz : ∀ h : Vc e, sup 0 h → h = z0 := fun h hh => funext (fun i => hh i (Nat.zero_le i))
  have hp0 : phv n W z0 = z0 := by
    funext p
    unfold phv
    rw [mv_z0]
    unfold z0
    split
    · rfl
    · split <;> rfl
  refine ⟨fun y hy => ⟨z0, sup_z0, ?_⟩, fun h hh => ⟨z0, sup_z0, ?_, by rw [hz h hh]⟩, fun w => ⟨fun h => ?_, fun h => hz w h.1⟩⟩
  · rw [hp0]
    exact hy
  · rw [hp0]
    rfl
  · have : w = z0 := h
    rw [this]
    exact ⟨sup_z0, mv_z0⟩
theorem un_pc {W : Nat → Vc e} {i : Nat} (hi : i < n) (hW : ∀ j, sup n (W j)) (hn : n ≤ 6) : mv n W (un i) = W i := by
  rw [mv_un hi]
  funext j
  by_cases q : j < n
  · rw [if_pos q]
  · rw [if_neg q, hW i j (by omega)]
/-- what the reduction of the next image is -/
theorem nlI_red (he : e ≤ 1) {W : Nat → Vc e} {i : Nat} (hi : i < n) (hn : n ≤ 6) {T N : List (Vc e)} (hS : Sub 12 (spn T)) (hI : nlI n W i T N) : ∃ c, sup i c ∧ rd n (spn T) (phv n W (un i)) = phv n W (lc (un i) 1 c) := by
  have h1 := rd_in (n := n) he hS (phv n W (un i))
  obtain ⟨c, hc, hq⟩ := hI.1 _ h1
  refine ⟨c, hc, ?_⟩
  rw [phv_lc, ← hq]
  funext j
  unfold lc
  grind
theorem nlI_null (he : e ≤ 1) {W : Nat → Vc e} {i : Nat} (hi : i < n) (hn : n ≤ 6) {T N : List (Vc e)} (hNs : ∀ x ∈ N, sup n x) (hI : nlI n W i T N) {c : Vc e} (hc : sup i c) (h0 : mv n W (lc (un i) 1 c) = z0) : ¬ spn N (lc (un i) 1 c) ∧ nlI n W (i + 1) T (N ++ [lc (un i) 1 c]) := by
  obtain ⟨i1, i2, i3⟩ := hI
  have hci : lc (un i) 1 c i = 1 := by
    unfold lc un
    rw [if_pos rfl, hc i (Nat.le_refl i)]
    grind
  have hcs : sup (i + 1) (lc (un i) 1 c) := fun j hj => by
    unfold lc un
    rw [if_neg (by omega), hc j (by omega)]
    grind
  refine ⟨fun q => ?_, fun y hy => ?_, fun h hh => ?_, fun w => ?_⟩
  · have := ((i3 _).mp q).1 i (Nat.le_refl i)
    rw [hci] at this
    exact k10 this
  · obtain ⟨d, d1, d2⟩ := i1 y hy
    exact ⟨d, sup_le d1 (by omega), d2⟩
  · have hs : sup i (lc h (-(h i)) (lc (un i) 1 c)) := fun j hj => by
      show h j + -(h i) * lc (un i) 1 c j = 0
      by_cases q : j = i
      · rw [q, hci]
        grind
      · rw [hh j (by omega), hcs j (by omega)]
        grind
    obtain ⟨d, d1, d2, d3⟩ := i2 _ hs
    refine ⟨d, sup_le d1 (by omega), d2, ?_⟩
    rw [d3, mv_lc, h0, lc_z0]
  · rw [spn_app]
    constructor
    · rintro ⟨d, hd⟩
      obtain ⟨a1, a2⟩ := (i3 _).mp hd
      rw [mv_lc, h0, lc_z0] at a2
      refine ⟨fun j hj => ?_, a2⟩
      have h3 : w j + d * lc (un i) 1 c j = 0 := a1 j (by omega)
      rw [hcs j (by omega)] at h3
      grind
    · rintro ⟨a1, a2⟩
      refine ⟨-(w i), (i3 _).mpr ⟨fun j hj => ?_, ?_⟩⟩
      · show w j + -(w i) * lc (un i) 1 c j = 0
        by_cases q : j = i
        · rw [q, hci]
          grind
        · rw [a1 j (by omega), hcs j (by omega)]
          grind
      · rw [mv_lc, a2, h0, lc_z0]
theorem nlI_take (he : e ≤ 1) {W : Nat → Vc e} {i : Nat} (hi : i < n) (hn : n ≤ 6) {T N : List (Vc e)} (hS : Sub 12 (spn T)) (hL : ∀ j, Lp (spn T) j → j < n) (hI : nlI n W i T N) (h0 : ∃ p, p < n ∧ fp (rd n (spn T) (phv n W (un i))) p) : nlI n W (i + 1) (T ++ [phv n W (un i)]) N := by
  obtain ⟨i1, i2, i3⟩ := hI
  obtain ⟨p, hp, hfp⟩ := h0
  have hno : ¬ ∃ h, sup i h ∧ mv n W h = mv n W (un i) := by
    rintro ⟨h, h1, h2⟩
    obtain ⟨c, c1, c2, c3⟩ := i2 h h1
    have g1 := rd_in (n := n) he hS (phv n W (un i))
    have g2 := hS.2.1 _ _ 1 g1 c2
    have e1 : ∀ j, j < 6 → lc (lc (rd n (spn T) (phv n W (un i))) (-1) (phv n W (un i))) 1 (phv n W c) j = rd n (spn T) (phv n W (un i)) j := fun j hj => by
      have e2 : phv n W c j = phv n W (un i) j := by
        unfold phv
        rw [if_pos hj, if_pos hj, c3, h2]
      unfold lc
      rw [e2]
      grind
    have g3 := Lp_eq hS g2 hS.1 (fun j hj => by
      rw [e1 j (by have := hL j hj; omega), rd_at he hS hL _ hj]
      rfl)
    apply hfp.1
    rw [← e1 p (by omega), g3]
    rfl
  refine ⟨fun y hy => ?_, fun h hh => ?_, fun w => ?_⟩
  · rw [spn_app] at hy
    obtain ⟨d, hd⟩ := hy
    obtain ⟨c, c1, c2⟩ := i1 _ hd
    refine ⟨lc c (-d) (un i), fun j hj => ?_, ?_⟩
    · unfold lc un
      rw [if_neg (by omega), c1 j (by omega)]
      grind
    · rw [phv_lc, ← c2, lc_lc]
      have : d + -d = 0 := by grind
      rw [this, lc_0]
  · have hs : sup i (lc h (-(h i)) (un i)) := cut_sup hh
    obtain ⟨c, c1, c2, c3⟩ := i2 _ hs
    refine ⟨lc c (h i) (un i), fun j hj => ?_, ?_, ?_⟩
    · unfold lc un
      rw [if_neg (by omega), c1 j (by omega)]
      grind
    · rw [spn_app, phv_lc]
      refine ⟨-(h i), ?_⟩
      rw [lc_lc]
      have : h i + -(h i) = 0 := by grind
      rw [this, lc_0]
      exact c2
    · rw [mv_lc, c3, mv_lc, lc_lc]
      have : -(h i) + h i = 0 := by grind
      rw [this, lc_0]
  · rw [i3]
    constructor
    · rintro ⟨a1, a2⟩
      exact ⟨sup_le a1 (by omega), a2⟩
    · rintro ⟨a1, a2⟩
      refine ⟨fun j hj => ?_, a2⟩
      by_cases q : j = i
      · apply Classical.byContradiction
        intro hne
        rw [q] at hne
        apply hno
        refine ⟨scv (-(w i)) (lc w (-(w i)) (un i)), fun k hk => ?_, ?_⟩
        · unfold scv
          rw [cut_sup a1 k hk]
          grind
        · have e4 : scv (-(w i)) (lc w (-(w i)) (un i)) = lc z0 (-(w i)) (lc w (-(w i)) (un i)) := by
            funext k
            unfold scv lc z0
            grind
          rw [e4, mv_lc, mv_lc, a2, mv_z0]
          funext k
          unfold lc z0
          have := sq1 he hne
          have h7 : 0 + -(w i) * (0 + -(w i) * mv n W (un i) k) = (w i * w i) * mv n W (un i) k := by grind
          rw [h7, this]
          grind
      · exact a1 j (by omega)
theorem wrow_sup {A : Nat → Nat → Nat → Kf e} {w : Nat → Int} {l i : Nat} (hi : i < n) : sup n (wrow n A w l i) := by
  have key : ∀ k : Nat, sup n (wfold n A w i k).1 ∧ sup n (wfold n A w i k).2.2 := by
    intro k
    induction k with
    | zero => exact ⟨sup_z0, un_sup hi⟩
    | succ k ih =>
      unfold wfold
      by_cases h1 : isF (w k)
      · rw [if_pos h1]
        exact ih
      · rw [if_neg h1]
        by_cases h2 : isLt (w k)
        · rw [if_pos h2]
          exact ⟨ih.1, sup_mv⟩
        · rw [if_neg h2]
          exact ⟨sup_lc ih.1 ih.2, un_sup hi⟩
  exact sup_lc (key l).1 (key l).2
theorem shl24 {c : Vc e} (he : e ≤ 1) {x : Vc e} (hx0 : ∀ p, p < 6 → x p = 0) (hc : ∀ p, p < 6 → x (6 + p) = c p) (hcs : sup 6 c) : (Int64.ofInt (pv x) <<< ((Int32.ofInt 24).toInt64 &&& 63)).toInt = pv c := by
  have h1 : pv x = hx (fun p => vl (x p)) 12 := rfl
  have h6 : hx (fun p => vl (x p)) 6 = 0 := (hx_z6 (dv he x)).mpr (fun i hi => by rw [hx0 i hi]; rfl)
  have h2 : pv c = pv x * 16777216 := by
    have e1 : pv c = hx (fun p => vl (c p)) 12 := rfl
    have a1 : hx (fun p => vl (x p)) 12 = hx (fun p => vl (c p)) 6 := by
      have e2 : ∀ m : Nat, m ≤ 6 → hx (fun p => vl (x p)) (6 + m) = hx (fun p => vl (c p)) m := by
        intro m
        induction m with
        | zero => intro _; exact h6
        | succ m ih =>
          intro hm
          show 16 * hx (fun p => vl (x p)) (6 + m) + vl (x (6 + m)) = 16 * hx (fun p => vl (c p)) m + vl (c m)
          rw [ih (by omega), hc m (by omega)]
      exact e2 6 (by omega)
    have a2 : hx (fun p => vl (c p)) 12 = hx (fun p => vl (c p)) 6 * 16777216 := by
      have e2 : ∀ m : Nat, hx (fun p => vl (c p)) (6 + (m + 1)) = 16 * hx (fun p => vl (c p)) (6 + m) := by
        intro m
        show 16 * hx (fun p => vl (c p)) (6 + m) + vl (c (6 + m)) = _
        rw [hcs (6 + m) (by omega), vl_0]
        omega
      have b1 := e2 0
      have b2 := e2 1
      have b3 := e2 2
      have b4 := e2 3
      have b5 := e2 4
      have b6 := e2 5
      simp only [Nat.reduceAdd] at b1 b2 b3 b4 b5 b6
      omega
    rw [e1, a2, h1, a1]
  obtain ⟨z, hz⟩ : ∃ z : Nat, pv x = z := ⟨(pv x).toNat, by have := (pv_rng he x).1; omega⟩
  have hr := (pv_rng he c).2
  rw [hz] at h2
  rw [hz, h2]
  have := lshl_ok (n := z) (k := 24) (by omega) (by omega)
  refine Eq.trans this ?_
  omega
theorem c_findsNulls (he : e ≤ 1) {M : Mo} (hp : M 1 0 = pI e) {b : Int} (hb : shp S0 b = (0, 3)) {A : Nat → Nat → Nat → Kf e} (hA : AA e M b n A) {l : Nat} {w : Nat → Int} (hw : WdC M l w) (hne : ∀ x y, WA b x y → ¬ (WP 5 x y ∨ WP 78 x y)) : CV 70 [(2, 75), (2, b), (2, 5)] M (fun M' => Fr (fun x y => WP 5 x y ∨ WP 78 x y) M M' ∧ ∃ N, ST M' 5 n N ∧ (∀ x ∈ N, sup n x) ∧ ∀ v, spn N v ↔ nsp n (wrow n A w l) v) := by
  have hb0 := shA_pos hb
  have h6 := hA.n6
  have hfr : ∀ M1, Fr (fun x y => WP 5 x y ∨ WP 78 x y) M M1 → AA e M1 b n A ∧ M1 1 0 = pI e ∧ WdC M1 l w := fun M1 hF => ⟨hA.fr hF hne, (hF 1 0 (by unfold WP; omega)).trans hp, ⟨(hF _ _ (by unfold WP; omega)).trans hw.1, hw.2.1, fun i hi => ⟨(hF _ _ (by unfold WP; omega)).trans (hw.2.2 i hi).1, (hw.2.2 i hi).2⟩⟩⟩
  have hW : ∀ i, i < n → sup n (wrow n A w l i) := fun i hi => wrow_sup hi
  refine Cl.intro (L := [(2, 75), (2, b), (2, 5), (9, 0), (9, 0), (9, 0), (9, 0), (9, 0)]) (rcv_v ow_70.2.1 sh_75) (by unfold entl; rw [mx_70]; rfl) (by rw [mx_70]; exact Nat.le_of_ble_eq_true rfl) rfl ?_
  refine r_aload_n d_70_0 rfl (by omega) ?_
  refine r_aload_n d_70_1 rfl (by omega) ?_
  refine r_getfv (ki := 1) d_70_2 q_70_77 rfl hb hA.1 ?_
  refine r_callvr d_70_5 q_70_80 rfl rfl (c_sempties (e := e) M sh_5 h6) (fun M1 hM1 => ?_)
  obtain ⟨hF1, hT1⟩ := hM1
  have hF1a : Fr (fun x y => WP 5 x y ∨ WP 78 x y) M M1 := hF1.mono (fun _ _ q => Or.inl q)
  refine r_aload_n d_70_8 rfl (by omega) ?_
  refine r_getc (ki := 5) d_70_9 q_70_34 rfl sh_75 fx_75_5 (by omega) ?_
  refine r_aload_n d_70_12 rfl (by omega) ?_
  refine r_getfv (ki := 1) d_70_13 q_70_77 rfl hb (hfr M1 hF1a).1.1 ?_
  refine r_callvr d_70_16 q_70_80 rfl rfl (c_sempties (e := e) M1 sh_78 h6) (fun M2 hM2 => ?_)
  obtain ⟨hF2, hT2⟩ := hM2
  have hF2a : Fr (fun x y => WP 5 x y ∨ WP 78 x y) M M2 := hF1a.trans hF2 (fun _ _ q => q) (fun _ _ q => Or.inr q)
  have hT12 : ST M2 5 n ([] : List (Vc e)) := hT1.fr hF2 (fun x y z1 z2 => by unfold WP at z1 z2; omega)
  refine r_iconst d_70_19 rfl ?_
  refine r_istore_n d_70_20 rfl (stl_8_3 rfl rfl) ?_
  refine dn_ind (R := fun i => ∀ (M3 : Mo) (T N : List (Vc e)) (y1 y2 y3 y4 : AV), Fr (fun x y => WP 5 x y ∨ WP 78 x y) M M3 → ST M3 78 n T → ST M3 5 n N → (∀ x ∈ N, sup n x) → nlI n (wrow n A w l) i.toNat T N → Rn 70 21 [(2, 75), (2, b), (2, 5), (0, i), y1, y2, y3, y4] [] M3 _) (lo := 0) (n := n) ?_ ?_ 0 (by omega) (by omega) M2 [] [] (9, 0) (9, 0) (9, 0) (9, 0) hF2a hT2 hT12 (fun x hx => absurd hx List.not_mem_nil) nlI_0
  · intro M3 T N y1 y2 y3 y4 hF hT hN hNs hI
    rw [show ((n : Int)).toNat = n by omega] at hI
    refine r_iload_n d_70_21 rfl ?_
    refine r_aload_n d_70_22 rfl (by omega) ?_
    refine r_getfv (ki := 1) d_70_23 q_70_77 rfl hb (hfr M3 hF).1.1 ?_
    refine r_icmp_ge (t := 91) d_70_26 rfl (fun _ => ?_) (fun hz => absurd (by omega) hz)
    refine r_vret d_70_91 rt_70 ?_
    exact ⟨rfl, hF, N, hN, hNs, hI.2.2⟩
  · intro i i1 i2 ih M3 T N y1 y2 y3 y4 hF hT hN hNs hI
    obtain ⟨k, rfl⟩ : ∃ k : Nat, i = k := ⟨i.toNat, by omega⟩
    rw [show ((k : Int)).toNat = k by omega] at hI
    rw [show ((k : Int) + 1).toNat = k + 1 by omega] at ih
    obtain ⟨hA3, hp3, hw3⟩ := hfr M3 hF
    have hkn : k < n := by omega
    have hvr := c_valueRow he hp3 hb hA3 hw3 (i := k) (by omega)
    have hun := c_unit M3 (i := 6 + k) (by omega)
    rw [show ((6 + k : Nat) : Int) = 6 + (k : Int) by omega] at hun
    have hmu : mv n (wrow n A w l) (un k) = wrow n A w l k := by
      rw [mv_un hkn]
      funext j
      by_cases q : j < n
      · rw [if_pos q]
      · rw [if_neg q, hW k hkn j (by omega)]
    have hor := hx_or (dv he (wrow n A w l k)) (dgt_d (i := 6 + k) (c := 1) (by omega)) (fun t _ => by
      unfold dgt
      by_cases q : t = 6 + k
      · refine Or.inl ?_
        rw [hW k hkn t (by omega)]
        rfl
      · exact Or.inr (if_neg q))
    have him : hx (fun t => vl (wrow n A w l k t) + dgt (6 + k) 1 t) 12 = pv (phv n (wrow n A w l) (un k)) := by
      refine hx_congr (fun t ht => ?_)
      unfold phv dgt
      rw [hmu]
      by_cases q : t < 6
      · rw [if_pos q, if_neg (by omega)]
        omega
      · rw [if_neg q, if_pos ht, hW k hkn t (by omega), vl_0]
        unfold un
        by_cases q2 : t = 6 + k
        · rw [if_pos q2, if_pos (by omega), vl_1]
          omega
        · rw [if_neg q2, if_neg (by omega), vl_0]
          rfl
    have e16 : (16 : Int) ^ (11 - (6 + k)) = hx (dgt (6 + k) 1) 12 := by
      have := dg12 1 (i := 6 + k) (by omega)
      rw [Int.one_mul] at this
      exact this
    obtain ⟨c, hc, hrd⟩ := nlI_red he hkn h6 hT.1.2.2.2.1 hI
    have hred := c_reduced he hp3 sh_78 hT.1 (phv n (wrow n A w l) (un k))
    rw [hrd] at hred
    have hcs : sup (k + 1) (lc (un k) 1 c) := fun j hj => by
      unfold lc un
      rw [if_neg (by omega), hc j (by omega)]
      grind
    have hcn : sup n (lc (un k) 1 c) := sup_le hcs (by omega)
    have hz : (∀ p, p < 6 → vl (phv n (wrow n A w l) (lc (un k) 1 c) p) = 0) ↔ mv n (wrow n A w l) (lc (un k) 1 c) = z0 := by
      constructor
      · intro h
        refine sup_ext (sup_mv (n := n)) sup_z0 (fun p hp => ?_)
        have h3 := vl_eq0.mp (h p (by omega))
        unfold phv at h3
        rw [if_pos (by omega)] at h3
        exact h3
      · intro h p hp
        unfold phv
        rw [if_pos hp, h]
        rfl
    refine r_iload_n d_70_21 rfl ?_
    refine r_aload_n d_70_22 rfl (by omega) ?_
    refine r_getfv (ki := 1) d_70_23 q_70_77 rfl hb hA3.1 ?_
    refine r_icmp_ge (t := 91) d_70_26 rfl (fun hz => absurd hz (by omega)) (fun _ => ?_)
    refine r_aload_n d_70_29 rfl (by omega) ?_
    refine r_aload_n d_70_30 rfl (by omega) ?_
    refine r_iload_n d_70_31 rfl ?_
    refine r_callvl d_70_32 q_70_84 rfl rfl hvr ?_
    refine r_bipush d_70_35 rfl ?_
    refine r_iload_n d_70_37 rfl ?_
    refine r_iadd d_70_38 (by omega) ?_
    refine r_callsl d_70_39 q_70_57 rfl rfl hun ?_
    rw [e16]
    refine r_lor d_70_42 hor ?_
    rw [him]
    refine r_lstore d_70_43 rfl (stw_8_4 rfl rfl) ?_
    refine r_aload_n d_70_45 rfl (by omega) ?_
    refine r_getc (ki := 5) d_70_46 q_70_34 rfl sh_75 fx_75_5 (by omega) ?_
    refine r_lload d_70_49 rfl ?_
    refine r_callvl d_70_51 q_70_88 rfl rfl hred ?_
    refine r_lstore d_70_54 rfl (stw_8_6 rfl rfl) ?_
    refine r_lload d_70_56 rfl ?_
    refine r_callsp d_70_58 q_70_92 rfl rfl (c_isZero M3 (dv he _)) ?_
    by_cases hq : mv n (wrow n A w l) (lc (un k) 1 c) = z0
    · rw [ifp_t (hz.mpr hq)]
      have hsl := shl24 (c := lc (un k) 1 c) he (x := phv n (wrow n A w l) (lc (un k) 1 c)) (fun p hp => vl_eq0.mp (hz.mpr hq p hp)) (fun p hp => by
        unfold phv
        rw [if_neg (by omega), if_pos (by omega), show 6 + p - 6 = p by omega]) (sup_le hcn h6)
      obtain ⟨hnn, hI2⟩ := nlI_null he hkn h6 hNs hI hc hq
      have hadd : addv N (lc (un k) 1 c) = N ++ [lc (un k) 1 c] := ifp_f hnn
      refine r_if_eq (t := 76) d_70_61 rfl (fun hz => absurd hz (by decide)) (fun _ => ?_)
      refine r_aload_n d_70_64 rfl (by omega) ?_
      refine r_lload d_70_65 rfl ?_
      refine r_bipush d_70_67 rfl ?_
      refine r_lshl d_70_69 hsl ?_
      refine r_callvr d_70_70 q_70_96 rfl rfl (c_takesP he hp3 sh_5 hN hNs hcn) (fun M4 hM4 => ?_)
      obtain ⟨hF4, hN4⟩ := hM4
      rw [hadd] at hN4
      refine r_goto (t := 85) d_70_73 rfl ?_
      refine r_iinc d_70_85 rfl (by omega) (stl_8_3 rfl rfl) ?_
      refine r_goto (t := 21) d_70_88 rfl ?_
      exact ih M4 T _ _ _ _ _ (hF.trans hF4 (fun _ _ q => q) (fun _ _ q => Or.inl q)) (hT.fr hF4 (fun x y z1 z2 => by unfold WP at z1 z2; omega)) hN4 (by rw [← hadd]; exact addv_sup hNs hcn) hI2
    · rw [ifp_f (fun z => hq (hz.mp z))]
      have hex : ∃ p, p < n ∧ fp (rd n (spn T) (phv n (wrow n A w l) (un k))) p := by
        rw [hrd]
        obtain ⟨p, hp, hf⟩ := fp_ex (sup_mv (n := n) (A := wrow n A w l) (v := lc (un k) 1 c)) hq
        refine ⟨p, hp, ?_, fun j hj => ?_⟩
        · unfold phv
          rw [if_pos (by omega)]
          exact hf.1
        · unfold phv
          rw [if_pos (by omega)]
          exact hf.2 j hj
      have htk : tkv n T (phv n (wrow n A w l) (un k)) = T ++ [phv n (wrow n A w l) (un k)] := ifp_t hex
      have hI2 := nlI_take he hkn h6 hT.1.2.2.2.1 hT.1.2.2.2.2 hI hex
      refine r_if_eq (t := 76) d_70_61 rfl (fun _ => ?_) (fun hz => absurd rfl hz)
      refine r_aload_n d_70_76 rfl (by omega) ?_
      refine r_getc (ki := 5) d_70_77 q_70_34 rfl sh_75 fx_75_5 (by omega) ?_
      refine r_lload d_70_80 rfl ?_
      refine r_callvr d_70_82 q_70_96 rfl rfl (c_takes he hp3 sh_78 hT phv_sup) (fun M4 hM4 => ?_)
      obtain ⟨hF4, hT4⟩ := hM4
      rw [htk] at hT4
      refine r_iinc d_70_85 rfl (by omega) (stl_8_3 rfl rfl) ?_
      refine r_goto (t := 21) d_70_88 rfl ?_
      exact ih M4 _ N _ _ _ _ (hF.trans hF4 (fun _ _ q => q) (fun _ _ q => Or.inr q)) hT4 (hN.fr hF4 (fun x y z1 z2 => by unfold WP at z1 z2; omega)) hNs hI2
end
