/-! The class: submodules, quotients, duals as modules. -/
section
variable {e : Nat}
theorem ST.dim {M : Mo} {a : Int} {n : Nat} {T : List (Vc e)} (h : ST M a n T) : T.length = dm n (spn T) := by
  have h1 := h.2.2.2.2
  have h2 : dm 12 (spn T) = cnt (Lp (spn T)) n := cnt_cut h.1.2.2.2.2 (by have := h.1.2.1; omega)
  rw [← h1, h2]
  rfl
theorem WA_p {a : Int} (ha : shp S0 a = (0, 3)) {M M1 : Mo} (hF : Fr (WA a) M M1) {p : Int} (hp : M 1 0 = p) : M1 1 0 = p := by
  have := shA_1 ha
  exact (hF 1 0 (by unfold WA; omega)).trans hp
theorem WA_A {a b : Int} (ha : shp S0 a = (0, 3)) (hb : shp S0 b = (0, 3)) (hne : a ≠ b) {M M1 : Mo} (hF : Fr (WA a) M M1) {n : Nat} {A : Nat → Nat → Nat → Kf e} (hA : AA e M b n A) : AA e M1 b n A := by
  have := shA_AA ha hb
  exact hA.fr hF (fun x y h1 h2 => by unfold WA at h1 h2; omega)
theorem WA_S {a c : Int} (ha : shp S0 a = (0, 3)) (hc : shp S0 c = (7, 5)) {M M1 : Mo} (hF : Fr (WA a) M M1) {n : Nat} {S : Vc e → Prop} (hS : SC M c n S) : SC M1 c n S := by
  have := shS_A hc ha
  exact hS.fr hF (fun x y h1 h2 => by unfold WP at h1; unfold WA at h2; omega)
theorem WA_T {a c : Int} (ha : shp S0 a = (0, 3)) (hc : shp S0 c = (7, 5)) {M M1 : Mo} (hF : Fr (WA a) M M1) {n : Nat} {T : List (Vc e)} (hS : ST M c n T) : ST M1 c n T := by
  have := shS_A hc ha
  exact hS.fr hF (fun x y h1 h2 => by unfold WP at h1; unfold WA at h2; omega)
theorem WA_sr {a : Int} {M M1 : Mo} (hF : Fr (WA a) M M1) (f : Int → Int) : Fr (WA a) M (sr M1 (a + 1) f) := fun x y hn => by
  have : x ≠ a + 1 := fun q => hn (Or.inr q)
  rw [sr_ne _ _ this]
  exact hF x y hn
theorem mv_un {n : Nat} {B : Nat → Nat → Kf e} {i : Nat} (hi : i < n) : mv n B (un i) = fun j => if j < n then B i j else 0 := by
  funext j
  unfold mv
  by_cases h : j < n
  · rw [if_pos h, if_pos h]
    have key : ∀ m : Nat, sK (fun k => (un i : Vc e) k * B k j) m = if i < m then B i j else 0 := by
      intro m
      induction m with
      | zero => rfl
      | succ m ih =>
        show sK (fun k => (un i : Vc e) k * B k j) m + (un i : Vc e) m * B m j = _
        rw [ih]
        unfold un
        by_cases q : m = i
        · subst q
          rw [if_neg (by omega), if_pos rfl, if_pos (by omega)]
          grind
        · rw [if_neg q]
          by_cases q2 : i < m
          · rw [if_pos q2, if_pos (by omega)]
            grind
          · rw [if_neg q2, if_neg (by omega)]
            grind
    rw [key n, if_pos hi]
  · rw [if_neg h, if_neg h]
theorem rv_un {n : Nat} {A : Nat → Nat → Nat → Kf e} {g i : Nat} (hi : i < n) : rv n A g i = mv n (A g) (un i) := by
  rw [mv_un hi]
  funext j
  unfold rv
  by_cases h : j < n
  · rw [if_pos h, if_pos ⟨hi, h⟩]
  · rw [if_neg h, if_neg (fun q => h q.2)]
/-- rows that are put one after another, for the places of a set -/
def rwp (n : Nat) (P : Nat → Prop) (W : Nat → Nat → Vc e) (q gd : Nat) (f : Int → Int) : Prop := ∀ g i : Nat, g < 2 → i < 6 → (i < cnt P q ∨ i = cnt P q ∧ g < gd → f (6 * g + i) = pv (pck n P (W g (pl P i)))) ∧ (¬ (i < cnt P q ∨ i = cnt P q ∧ g < gd) → f (6 * g + i) = 0)
theorem rwp.put {n : Nat} {P : Nat → Prop} {W : Nat → Nat → Vc e} {q gd : Nat} {f : Int → Int} (h : rwp n P W q gd f) (hq : P q) (hc : cnt P q < 6) (hg : gd < 2) : rwp n P W q (gd + 1) (u1 f (6 * gd + (cnt P q : Nat)) (pv (pck n P (W gd q)))) := by
  intro g i hg2 hi
  by_cases e1 : g = gd ∧ i = cnt P q
  · obtain ⟨rfl, rfl⟩ := e1
    refine ⟨fun _ => ?_, fun z => absurd (Or.inr ⟨rfl, by omega⟩) z⟩
    rw [u1_eq, pl_cnt hq]
  · rw [u1_ne _ _ (by omega)]
    exact ⟨fun z => (h g i hg2 hi).1 (by omega), fun z => (h g i hg2 hi).2 (by omega)⟩
theorem rwp.next {n : Nat} {P : Nat → Prop} {W : Nat → Nat → Vc e} {q : Nat} {f : Int → Int} (h : rwp n P W q 2 f) (hq : P q) : rwp n P W (q + 1) 0 f := by
  intro g i hg2 hi
  have ec : cnt P (q + 1) = cnt P q + 1 := by
    show cnt P q + ifp (P q) 1 0 = cnt P q + 1
    rw [ifp_t hq]
  rw [ec]
  exact ⟨fun z => (h g i hg2 hi).1 (by omega), fun z => (h g i hg2 hi).2 (by omega)⟩
theorem rwp.skip {n : Nat} {P : Nat → Prop} {W : Nat → Nat → Vc e} {q : Nat} {f : Int → Int} (h : rwp n P W q 0 f) (hq : ¬ P q) : rwp n P W (q + 1) 0 f := by
  intro g i hg2 hi
  have ec : cnt P (q + 1) = cnt P q := by
    show cnt P q + ifp (P q) 1 0 = cnt P q
    rw [ifp_f hq]
    omega
  rw [ec]
  exact h g i hg2 hi
theorem rwp.AA {M : Mo} {a : Int} {n : Nat} {P : Nat → Prop} {W : Nat → Nat → Vc e} {f : Int → Int} (h : rwp n P W n 0 f) (hs : M a 1 = (cnt P n : Nat)) (hn : nb e n) : AA e (sr M (a + 1) f) a (cnt P n) (fun g i j => W g (pl P i) (pl P j)) := by
  have hc := cnt_le P n
  refine ⟨by rw [sr_ne _ _ (by omega)]; exact hs, by unfold nb at hn ⊢; omega, fun g i hg hi => ?_⟩
  rw [sr_eq]
  by_cases q : i < cnt P n
  · rw [(h g i hg hi).1 (Or.inl q)]
    refine pv_congr (fun j _ => ?_)
    unfold pck rv
    by_cases q2 : j < cnt P n
    · rw [if_pos q2, if_pos ⟨q, q2⟩]
    · rw [if_neg q2, if_neg (fun z => q2 z.2)]
  · rw [(h g i hg hi).2 (by omega), ← pv_z0 (e := e)]
    refine pv_congr (fun j _ => ?_)
    unfold rv
    rw [if_neg (fun z => q z.1)]
    rfl
theorem c_restricts (he : e ≤ 1) {M : Mo} (hp : M 1 0 = pI e) {a b c : Int} (ha : shp S0 a = (0, 3)) (hb : shp S0 b = (0, 3)) (hc : shp S0 c = (7, 5)) (hne : a ≠ b) {n : Nat} {A : Nat → Nat → Nat → Kf e} (hA : AA e M b n A) {T : List (Vc e)} (hT : ST M c n T) : CV 13 [(2, a), (2, b), (2, c)] M (fun M' => Fr (WA a) M M' ∧ AA e M' a T.length (prt n A (spn T))) := by
  refine Cl.intro (L := [(2, a), (2, b), (2, c), (9, 0), (9, 0), (9, 0)]) (rcv_v ow_13.2.1 ha) (by unfold entl; rw [mx_13]; rfl) (by rw [mx_13]; exact Nat.le_of_ble_eq_true rfl) rfl ?_
  have ha0 := shA_pos ha
  have hb0 := shA_pos hb
  have hc0 := shS_pos hc
  have h6 := hA.n6
  have hdim := hT.dim
  have hdn := cnt_le (Lp (spn T)) n
  have hsub := hT.1.2.2.2.1
  refine r_aload_n d_13_0 rfl (by omega) ?_
  refine r_aload_n d_13_1 rfl (by omega) ?_
  refine r_getfv (ki := 2) d_13_2 q_13_73 rfl hc hT.2.1 ?_
  refine r_callvr d_13_5 q_13_61 rfl rfl (c_empties M ha) (fun M1 hM1 => ?_)
  obtain ⟨hF1, hs1, hz1⟩ := hM1
  refine r_iconst d_13_8 rfl ?_
  refine r_istore_n d_13_9 rfl (stl_6_3 rfl rfl) ?_
  refine r_iconst d_13_10 rfl ?_
  refine r_istore d_13_11 rfl (stl_6_4 rfl rfl) ?_
  refine dn_ind (R := fun q => ∀ (f : Int → Int) (l : Int) (y : AV), l = (cnt (Lp (spn T)) q.toNat : Nat) → rwp n (Lp (spn T)) (fun g i => mv n (A g) (cr (spn T) i)) q.toNat 0 f → Rn 13 13 [(2, a), (2, b), (2, c), (0, l), (0, q), y] [] (sr M1 (a + 1) f) _) (lo := 0) (n := n) ?_ ?_ 0 (by omega) (by omega) (M1 (a + 1)) 0 (9, 0) rfl ?_ |> (fun k => by rw [sr_self] at k; exact k)
  · intro f l y hl hr
    have hF := WA_sr hF1 f
    have hA2 := WA_A ha hb hne hF hA
    refine r_iload d_13_13 rfl ?_
    refine r_aload_n d_13_15 rfl (by omega) ?_
    refine r_getfv (ki := 1) d_13_16 q_13_9 rfl hb hA2.1 ?_
    refine r_icmp_ge (t := 85) d_13_19 rfl (fun _ => ?_) (fun hz => absurd (by omega) hz)
    refine r_vret d_13_85 rt_13 ?_
    refine ⟨rfl, hF, ?_⟩
    rw [show ((n : Int)).toNat = n by omega] at hr
    have h1 := hr.AA (M := M1) (a := a) (by rw [hs1, hdim]; rfl) hA.2.1
    rw [hdim]
    refine h1.congr (fun g i j hg hi hj => ?_)
    have hL := (pl_spec (P := Lp (spn T)) (n := n) hi).1
    have e1 : cr (spn T) (pl (Lp (spn T)) i) = crow (spn T) (pl (Lp (spn T)) i) := ifp_t hL
    show mv n (A g) (cr (spn T) (pl (Lp (spn T)) i)) (pl (Lp (spn T)) j) = prt n A (spn T) g i j
    rw [e1]
    rfl
  · intro q q1 q2 ih f l y hl hr
    obtain ⟨k, rfl⟩ : ∃ k : Nat, q = k := ⟨q.toNat, by omega⟩
    rw [show ((k : Int)).toNat = k by omega] at hl hr
    have e9 : ((k : Int) + 1).toNat = k + 1 := by omega
    rw [e9] at ih
    have hck := cnt_le (Lp (spn T)) k
    have hA2 : ∀ f, AA e (sr M1 (a + 1) f) b n A := fun f => WA_A ha hb hne (WA_sr hF1 f) hA
    have hS2 : ∀ f, SC (sr M1 (a + 1) f) c n (spn T) := fun f => WA_S ha hc (WA_sr hF1 f) hT.1
    have hp2 : ∀ f, sr M1 (a + 1) f 1 0 = pI e := fun f => WA_p ha (WA_sr hF1 f) hp
    refine r_iload d_13_13 rfl ?_
    refine r_aload_n d_13_15 rfl (by omega) ?_
    refine r_getfv (ki := 1) d_13_16 q_13_9 rfl hb (hA2 f).1 ?_
    refine r_icmp_ge (t := 85) d_13_19 rfl (fun hz => absurd hz (by omega)) (fun _ => ?_)
    refine r_aload_n d_13_22 rfl (by omega) ?_
    refine r_iload d_13_23 rfl ?_
    refine r_callvp d_13_25 q_13_78 rfl rfl (c_hasPivot he hc (hS2 f) (by omega)) ?_
    by_cases hP : Lp (spn T) k
    · rw [ifp_t hP]
      refine r_if_eq (t := 79) d_13_28 rfl (fun hz => absurd hz (by decide)) (fun _ => ?_)
      refine r_iconst d_13_31 rfl ?_
      refine r_istore d_13_32 rfl (stl_6_5 rfl rfl) ?_
      refine dn_ind (R := fun g => ∀ (f : Int → Int), rwp n (Lp (spn T)) (fun g i => mv n (A g) (cr (spn T) i)) k g.toNat f → Rn 13 34 [(2, a), (2, b), (2, c), (0, l), (0, (k : Int)), (0, g)] [] (sr M1 (a + 1) f) _) (lo := 0) (n := 2) ?_ ?_ 0 (by omega) (by omega) f hr
      · intro f hr
        refine r_iload d_13_34 rfl ?_
        refine r_iconst d_13_36 rfl ?_
        refine r_icmp_ge (t := 76) d_13_37 rfl (fun _ => ?_) (fun hz => absurd (by omega) hz)
        refine r_iinc d_13_76 rfl (by omega) (stl_6_3 rfl rfl) ?_
        refine r_iinc d_13_79 rfl (by omega) (stl_6_4 rfl rfl) ?_
        refine r_goto (t := 13) d_13_82 rfl ?_
        refine ih f _ _ ?_ (hr.next hP)
        have ec : cnt (Lp (spn T)) (k + 1) = cnt (Lp (spn T)) k + 1 := by
          show cnt (Lp (spn T)) k + ifp (Lp (spn T) k) 1 0 = _
          rw [ifp_t hP]
        rw [ec, hl]
        omega
      · intro g g1 g2 ih2 f hr
        obtain ⟨gn, rfl⟩ : ∃ gn : Nat, g = gn := ⟨g.toNat, by omega⟩
        rw [show ((gn : Int)).toNat = gn by omega] at hr
        rw [show ((gn : Int) + 1).toNat = gn + 1 by omega] at ih2
        have hrow := (hS2 f).2.2.1 k (by omega)
        have him := c_image he (hp2 f) hb (hA2 f) (g := gn) (by omega) (cr (spn T) k)
        have hpk := c_picks he hc (hS2 f) (mv n (A gn) (cr (spn T) k)) (P := Lp (spn T)) (z := 1) (fun i _ => by
          by_cases z : Lp (spn T) i
          · rw [ifp_t z]
            exact ⟨fun _ => z, fun _ => rfl⟩
          · rw [ifp_f z]
            exact ⟨fun q => absurd q (by decide), fun q => absurd q z⟩)
        refine r_iload d_13_34 rfl ?_
        refine r_iconst d_13_36 rfl ?_
        refine r_icmp_ge (t := 76) d_13_37 rfl (fun hz => absurd hz (by omega)) (fun _ => ?_)
        refine r_aload_n d_13_40 rfl (by omega) ?_
        refine r_getc (ki := 2) d_13_41 q_13_15 rfl ha (fxA2 ha) (by omega) ?_
        refine r_bipush d_13_44 rfl ?_
        refine r_iload d_13_46 rfl ?_
        refine r_imul d_13_48 (by omega) ?_
        refine r_iload_n d_13_49 rfl ?_
        refine r_iadd d_13_50 (by omega) ?_
        refine r_aload_n d_13_51 rfl (by omega) ?_
        refine r_aload_n d_13_52 rfl (by omega) ?_
        refine r_iload d_13_53 rfl ?_
        refine r_aload_n d_13_55 rfl (by omega) ?_
        refine r_getc (ki := 3) d_13_56 q_13_82 rfl hc (fxS3 hc) (by omega) ?_
        refine r_iload d_13_59 rfl ?_
        refine r_laloadv d_13_61 (shS1 hc) (by omega) (by omega) hrow ?_
        refine r_callvl d_13_62 q_13_83 rfl rfl him ?_
        refine r_iconst d_13_65 rfl ?_
        refine r_callvl d_13_66 q_13_87 rfl rfl hpk ?_
        refine r_lastore d_13_69 (shA1 ha) (by omega) (by omega) ?_
        rw [up_sr]
        refine r_iinc d_13_70 rfl (by omega) (stl_6_5 rfl rfl) ?_
        refine r_goto (t := 34) d_13_73 rfl ?_
        refine ih2 _ ?_
        have := hr.put hP (by omega) (by omega)
        rw [← hl] at this
        exact this
    · rw [ifp_f hP]
      refine r_if_eq (t := 79) d_13_28 rfl (fun _ => ?_) (fun hz => absurd rfl hz)
      refine r_iinc d_13_79 rfl (by omega) (stl_6_4 rfl rfl) ?_
      refine r_goto (t := 13) d_13_82 rfl ?_
      refine ih f _ _ ?_ (hr.skip hP)
      have ec : cnt (Lp (spn T)) (k + 1) = cnt (Lp (spn T)) k := by
        show cnt (Lp (spn T)) k + ifp (Lp (spn T) k) 1 0 = _
        rw [ifp_f hP]
        omega
      rw [ec, hl]
  · intro g i hg hi
    refine ⟨fun z => ?_, fun _ => hz1 _ (by omega) (by omega)⟩
    have e0 : cnt (Lp (spn T)) (Int.toNat 0) = 0 := rfl
    rw [e0] at z
    omega
theorem c_divides (he : e ≤ 1) {M : Mo} (hp : M 1 0 = pI e) {a b c : Int} (ha : shp S0 a = (0, 3)) (hb : shp S0 b = (0, 3)) (hc : shp S0 c = (7, 5)) (hne : a ≠ b) {n : Nat} {A : Nat → Nat → Nat → Kf e} (hA : AA e M b n A) {T : List (Vc e)} (hT : ST M c n T) (hTs : ∀ x ∈ T, sup n x) : CV 14 [(2, a), (2, b), (2, c)] M (fun M' => Fr (WA a) M M' ∧ AA e M' a (n - T.length) (rst n A (spn T))) := by
  refine Cl.intro (L := [(2, a), (2, b), (2, c), (9, 0), (9, 0), (9, 0)]) (rcv_v ow_14.2.1 ha) (by unfold entl; rw [mx_14]; rfl) (by rw [mx_14]; exact Nat.le_of_ble_eq_true rfl) rfl ?_
  have ha0 := shA_pos ha
  have hb0 := shA_pos hb
  have hc0 := shS_pos hc
  have h6 := hA.n6
  have hdim := hT.dim
  have hcn := nL_cnt (n := n) (spn T)
  have hsub : Sub n (spn T) := spn_sub hTs
  have hlen := hT.len
  refine r_aload_n d_14_0 rfl (by omega) ?_
  refine r_aload_n d_14_1 rfl (by omega) ?_
  refine r_getfv (ki := 1) d_14_2 q_14_9 rfl hb hA.1 ?_
  refine r_aload_n d_14_5 rfl (by omega) ?_
  refine r_getfv (ki := 2) d_14_6 q_14_73 rfl hc hT.2.1 ?_
  refine r_isub d_14_9 (by omega) ?_
  refine r_callvr d_14_10 q_14_61 rfl rfl (c_empties M ha) (fun M1 hM1 => ?_)
  obtain ⟨hF1, hs1, hz1⟩ := hM1
  refine r_iconst d_14_13 rfl ?_
  refine r_istore_n d_14_14 rfl (stl_6_3 rfl rfl) ?_
  refine r_iconst d_14_15 rfl ?_
  refine r_istore d_14_16 rfl (stl_6_4 rfl rfl) ?_
  refine dn_ind (R := fun q => ∀ (f : Int → Int) (l : Int) (y : AV), l = (cnt (nL (spn T)) q.toNat : Nat) → rwp n (nL (spn T)) (fun g i => rd n (spn T) (rv n A g i)) q.toNat 0 f → Rn 14 18 [(2, a), (2, b), (2, c), (0, l), (0, q), y] [] (sr M1 (a + 1) f) _) (lo := 0) (n := n) ?_ ?_ 0 (by omega) (by omega) (M1 (a + 1)) 0 (9, 0) rfl ?_ |> (fun k => by rw [sr_self] at k; exact k)
  · intro f l y hl hr
    have hF := WA_sr hF1 f
    have hA2 := WA_A ha hb hne hF hA
    refine r_iload d_14_18 rfl ?_
    refine r_aload_n d_14_20 rfl (by omega) ?_
    refine r_getfv (ki := 1) d_14_21 q_14_9 rfl hb hA2.1 ?_
    refine r_icmp_ge (t := 94) d_14_24 rfl (fun _ => ?_) (fun hz => absurd (by omega) hz)
    refine r_vret d_14_94 rt_14 ?_
    refine ⟨rfl, hF, ?_⟩
    rw [show ((n : Int)).toNat = n by omega] at hr
    have h1 := hr.AA (M := M1) (a := a) (by rw [hs1]; omega) hA.2.1
    rw [show n - T.length = cnt (nL (spn T)) n by omega]
    refine h1.congr (fun g i j hg hi hj => ?_)
    have hL := pl_lt (P := nL (spn T)) (n := n) hi
    show rd n (spn T) (rv n A g (pl (nL (spn T)) i)) (pl (nL (spn T)) j) = rst n A (spn T) g i j
    unfold rst
    rw [wo_rd he hsub, rv_un hL]
  · intro q q1 q2 ih f l y hl hr
    obtain ⟨k, rfl⟩ : ∃ k : Nat, q = k := ⟨q.toNat, by omega⟩
    rw [show ((k : Int)).toNat = k by omega] at hl hr
    have e9 : ((k : Int) + 1).toNat = k + 1 := by omega
    rw [e9] at ih
    have hck := cnt_le (nL (spn T)) k
    have hA2 : ∀ f, AA e (sr M1 (a + 1) f) b n A := fun f => WA_A ha hb hne (WA_sr hF1 f) hA
    have hS2 : ∀ f, SC (sr M1 (a + 1) f) c n (spn T) := fun f => WA_S ha hc (WA_sr hF1 f) hT.1
    have hp2 : ∀ f, sr M1 (a + 1) f 1 0 = pI e := fun f => WA_p ha (WA_sr hF1 f) hp
    refine r_iload d_14_18 rfl ?_
    refine r_aload_n d_14_20 rfl (by omega) ?_
    refine r_getfv (ki := 1) d_14_21 q_14_9 rfl hb (hA2 f).1 ?_
    refine r_icmp_ge (t := 94) d_14_24 rfl (fun hz => absurd hz (by omega)) (fun _ => ?_)
    refine r_aload_n d_14_27 rfl (by omega) ?_
    refine r_iload d_14_28 rfl ?_
    refine r_callvp d_14_30 q_14_78 rfl rfl (c_hasPivot he hc (hS2 f) (by omega)) ?_
    by_cases hP : nL (spn T) k
    · rw [ifp_f hP]
      refine r_if_ne (t := 88) d_14_33 rfl (fun hz => absurd hz (by decide)) (fun _ => ?_)
      refine r_iconst d_14_36 rfl ?_
      refine r_istore d_14_37 rfl (stl_6_5 rfl rfl) ?_
      refine dn_ind (R := fun g => ∀ (f : Int → Int), rwp n (nL (spn T)) (fun g i => rd n (spn T) (rv n A g i)) k g.toNat f → Rn 14 39 [(2, a), (2, b), (2, c), (0, l), (0, (k : Int)), (0, g)] [] (sr M1 (a + 1) f) _) (lo := 0) (n := 2) ?_ ?_ 0 (by omega) (by omega) f hr
      · intro f hr
        refine r_iload d_14_39 rfl ?_
        refine r_iconst d_14_41 rfl ?_
        refine r_icmp_ge (t := 85) d_14_42 rfl (fun _ => ?_) (fun hz => absurd (by omega) hz)
        refine r_iinc d_14_85 rfl (by omega) (stl_6_3 rfl rfl) ?_
        refine r_iinc d_14_88 rfl (by omega) (stl_6_4 rfl rfl) ?_
        refine r_goto (t := 18) d_14_91 rfl ?_
        refine ih f _ _ ?_ (hr.next hP)
        have ec : cnt (nL (spn T)) (k + 1) = cnt (nL (spn T)) k + 1 := by
          show cnt (nL (spn T)) k + ifp (nL (spn T) k) 1 0 = _
          rw [ifp_t hP]
        rw [ec, hl]
        omega
      · intro g g1 g2 ih2 f hr
        obtain ⟨gn, rfl⟩ : ∃ gn : Nat, g = gn := ⟨g.toNat, by omega⟩
        rw [show ((gn : Int)).toNat = gn by omega] at hr
        rw [show ((gn : Int) + 1).toNat = gn + 1 by omega] at ih2
        have hrow := (hA2 f).2.2 gn k (by omega) (by omega)
        have hrd := c_reduced he (hp2 f) hc (hS2 f) (rv n A gn k)
        have hpk := c_picks he hc (hS2 f) (rd n (spn T) (rv n A gn k)) (P := nL (spn T)) (z := 0) (fun i _ => by
          by_cases z : Lp (spn T) i
          · rw [ifp_t z]
            exact ⟨fun q => absurd q (by decide), fun q => absurd z q⟩
          · rw [ifp_f z]
            exact ⟨fun _ => z, fun _ => rfl⟩)
        refine r_iload d_14_39 rfl ?_
        refine r_iconst d_14_41 rfl ?_
        refine r_icmp_ge (t := 85) d_14_42 rfl (fun hz => absurd hz (by omega)) (fun _ => ?_)
        refine r_aload_n d_14_45 rfl (by omega) ?_
        refine r_getc (ki := 2) d_14_46 q_14_15 rfl ha (fxA2 ha) (by omega) ?_
        refine r_bipush d_14_49 rfl ?_
        refine r_iload d_14_51 rfl ?_
        refine r_imul d_14_53 (by omega) ?_
        refine r_iload_n d_14_54 rfl ?_
        refine r_iadd d_14_55 (by omega) ?_
        refine r_aload_n d_14_56 rfl (by omega) ?_
        refine r_aload_n d_14_57 rfl (by omega) ?_
        refine r_aload_n d_14_58 rfl (by omega) ?_
        refine r_getc (ki := 2) d_14_59 q_14_15 rfl hb (fxA2 hb) (by omega) ?_
        refine r_bipush d_14_62 rfl ?_
        refine r_iload d_14_64 rfl ?_
        refine r_imul d_14_66 (by omega) ?_
        refine r_iload d_14_67 rfl ?_
        refine r_iadd d_14_69 (by omega) ?_
        refine r_laloadv d_14_70 (shA1 hb) (by omega) (by omega) hrow ?_
        refine r_callvl d_14_71 q_14_91 rfl rfl hrd ?_
        refine r_iconst d_14_74 rfl ?_
        refine r_callvl d_14_75 q_14_87 rfl rfl hpk ?_
        refine r_lastore d_14_78 (shA1 ha) (by omega) (by omega) ?_
        rw [up_sr]
        refine r_iinc d_14_79 rfl (by omega) (stl_6_5 rfl rfl) ?_
        refine r_goto (t := 39) d_14_82 rfl ?_
        refine ih2 _ ?_
        have := hr.put hP (by omega) (by omega)
        rw [← hl] at this
        exact this
    · have hP2 : Lp (spn T) k := Classical.byContradiction hP
      rw [ifp_t hP2]
      refine r_if_ne (t := 88) d_14_33 rfl (fun _ => ?_) (fun hz => absurd (by decide) hz)
      refine r_iinc d_14_88 rfl (by omega) (stl_6_4 rfl rfl) ?_
      refine r_goto (t := 18) d_14_91 rfl ?_
      refine ih f _ _ ?_ (hr.skip hP)
      have ec : cnt (nL (spn T)) (k + 1) = cnt (nL (spn T)) k := by
        show cnt (nL (spn T)) k + ifp (nL (spn T) k) 1 0 = _
        rw [ifp_f hP]
        omega
      rw [ec, hl]
  · intro g i hg hi
    refine ⟨fun z => ?_, fun _ => hz1 _ (by omega) (by omega)⟩
    have e0 : cnt (nL (spn T)) (Int.toNat 0) = 0 := rfl
    rw [e0] at z
    omega
end
