/-! How many vectors a subspace has; what many vectors spin. -/
theorem nd_len : ∀ {l1 l2 : List Int}, l1.Nodup → (∀ x ∈ l1, x ∈ l2) → l1.length ≤ l2.length
  | [], l2, _, _ => Nat.zero_le _
  | x :: l1, l2, hn, hs => by
    have h1 := List.nodup_cons.mp hn
    have hx : x ∈ l2 := hs x List.mem_cons_self
    have ih := nd_len (l1 := l1) (l2 := l2.erase x) h1.2 (fun y hy => by
      have hne : y ≠ x := fun q => h1.1 (q ▸ hy)
      exact (List.mem_erase_of_ne hne).mpr (hs y (List.mem_cons_of_mem _ hy)))
    have h2 := List.length_erase_of_mem hx
    have h3 : 0 < l2.length := List.length_pos_of_mem hx
    rw [List.length_cons]
    omega
section
variable {e n : Nat}
/-- the numbers of the vectors of a span -/
def lsN (e n : Nat) : List (Vc e) → List (Vc e)
  | [] => [z0]
  | x :: T => (List.range (e + 2)).flatMap (fun c : Nat => (lsN e n T).map (fun w => lc w (kI e (c : Int)) x))
theorem fm_len {α β : Type} (f : α → List β) (m : Nat) : ∀ l : List α, (∀ a ∈ l, (f a).length = m) → (l.flatMap f).length = l.length * m
  | [], _ => by simp
  | a :: l, h => by
    rw [List.flatMap_cons, List.length_append, h a List.mem_cons_self, fm_len f m l (fun b hb => h b (List.mem_cons_of_mem _ hb)), List.length_cons, Nat.add_mul]
    omega
theorem lsN_len : ∀ T : List (Vc e), (lsN e n T).length = (e + 2) ^ T.length
  | [] => rfl
  | x :: T => by
    show ((List.range (e + 2)).flatMap _).length = _
    rw [fm_len _ ((e + 2) ^ T.length) _ (fun c _ => by rw [List.length_map, lsN_len T]), List.length_range, List.length_cons, Nat.pow_succ, Nat.mul_comm]
theorem kI_sur (x : Kf e) : ∃ c, c ∈ List.range (e + 2) ∧ kI e (c : Int) = x := ⟨x.val, List.mem_range.mpr x.isLt, kI_vl x⟩
theorem lsN_mem : ∀ (T : List (Vc e)) (w : Vc e), w ∈ lsN e n T ↔ ∃ t, spn T.reverse t ∧ w = t := by
  have key : ∀ (T : List (Vc e)) (w : Vc e), w ∈ lsN e n T ↔ spn T.reverse w := by
    intro T
    induction T with
    | nil =>
      intro w
      show w ∈ [z0] ↔ w = z0
      exact List.mem_singleton
    | cons x T ih =>
      intro w
      rw [List.reverse_cons, spn_app]
      show w ∈ (List.range (e + 2)).flatMap _ ↔ _
      rw [List.mem_flatMap]
      constructor
      · rintro ⟨c, -, hc⟩
        obtain ⟨u, hu, rfl⟩ := List.mem_map.mp hc
        refine ⟨-(kI e (c : Int)), ?_⟩
        rw [lc_lc]
        have : kI e (c : Int) + -(kI e (c : Int)) = 0 := by grind
        rw [this, lc_0]
        exact (ih u).mp hu
      · rintro ⟨c, hc⟩
        obtain ⟨d, hd, hd2⟩ := kI_sur (-c)
        refine ⟨d, hd, List.mem_map.mpr ⟨_, (ih _).mpr hc, ?_⟩⟩
        rw [hd2, lc_lc]
        have : c + -c = 0 := by grind
        rw [this, lc_0]
  intro T w
  rw [key]
  exact ⟨fun h => ⟨w, h, rfl⟩, fun ⟨t, ht, hw⟩ => hw ▸ ht⟩
theorem nd_map {α β : Type} {f : α → β} : ∀ {l : List α}, l.Nodup → (∀ x ∈ l, ∀ y ∈ l, f x = f y → x = y) → (l.map f).Nodup
  | [], _, _ => List.nodup_nil
  | a :: l, hn, h => by
    have h1 := List.nodup_cons.mp hn
    rw [List.map_cons]
    refine List.nodup_cons.mpr ⟨fun q => ?_, nd_map h1.2 (fun x hx y hy => h x (List.mem_cons_of_mem _ hx) y (List.mem_cons_of_mem _ hy))⟩
    obtain ⟨b, hb, hq⟩ := List.mem_map.mp q
    have := h b (List.mem_cons_of_mem _ hb) a List.mem_cons_self hq
    rw [this] at hb
    exact h1.1 hb
theorem nd_app {α : Type} : ∀ {l m : List α}, l.Nodup → m.Nodup → (∀ x ∈ l, x ∉ m) → (l ++ m).Nodup
  | [], m, _, hm, _ => hm
  | a :: l, m, hl, hm, h => by
    have h1 := List.nodup_cons.mp hl
    refine List.nodup_cons.mpr ⟨fun q => ?_, nd_app h1.2 hm (fun x hx => h x (List.mem_cons_of_mem _ hx))⟩
    rcases List.mem_append.mp q with z | z
    · exact h1.1 z
    · exact h a List.mem_cons_self z
theorem nd_flat {α β : Type} {f : α → List β} : ∀ {l : List α}, l.Nodup → (∀ a ∈ l, (f a).Nodup) → (∀ a ∈ l, ∀ b ∈ l, ∀ x, x ∈ f a → x ∈ f b → a = b) → (l.flatMap f).Nodup
  | [], _, _, _ => by simp
  | a :: l, hn, h1, h2 => by
    have h3 := List.nodup_cons.mp hn
    rw [List.flatMap_cons]
    refine nd_app (h1 a List.mem_cons_self) (nd_flat h3.2 (fun b hb => h1 b (List.mem_cons_of_mem _ hb)) (fun b hb c hc => h2 b (List.mem_cons_of_mem _ hb) c (List.mem_cons_of_mem _ hc))) (fun x hx q => ?_)
    obtain ⟨b, hb, hxb⟩ := List.mem_flatMap.mp q
    have := h2 a List.mem_cons_self b (List.mem_cons_of_mem _ hb) x hx hxb
    rw [this] at h3
    exact h3.1 hb
theorem lsN_nd (he : e ≤ 1) : ∀ T : List (Vc e), Good n T.reverse → (lsN e n T).Nodup
  | [], _ => by
    show [z0].Nodup
    simp
  | x :: T, hG => by
    rw [List.reverse_cons] at hG
    obtain ⟨hG1, hx⟩ := good_pre he hG
    have ih := lsN_nd he T hG1
    have hS := hG1.sub
    have hin : ∀ w, w ∈ lsN e n T → spn T.reverse w := fun w hw => by
      obtain ⟨t, ht, hq⟩ := (lsN_mem T w).mp hw
      exact hq ▸ ht
    show ((List.range (e + 2)).flatMap _).Nodup
    refine nd_flat List.nodup_range (fun c _ => nd_map ih (fun u _ v _ huv => ?_)) (fun c hc d hd y hy hz => ?_)
    · funext i
      have h1 := congrFun huv i
      unfold lc at h1
      grind
    · obtain ⟨u, hu, hyu⟩ := List.mem_map.mp hy
      obtain ⟨v, hv, hyv⟩ := List.mem_map.mp hz
      apply Classical.byContradiction
      intro hne
      have hcd : kI e (c : Int) + -(kI e (d : Int)) ≠ 0 := fun q => by
        have h5 : kI e (c : Int) = kI e (d : Int) := by grind
        have h6 := congrArg vl h5
        rw [vl_kI, vl_kI] at h6
        have h7 := List.mem_range.mp hc
        have h8 := List.mem_range.mp hd
        have h9 : pI e = (e : Int) + 2 := rfl
        rw [Int.emod_eq_of_lt (by omega) (by omega), Int.emod_eq_of_lt (by omega) (by omega)] at h6
        omega
      have h5 := hS.2.1 _ _ (-1) (hin v hv) (hin u hu)
      have h6 : lc v (-1) u = fun i => (kI e (c : Int) + -(kI e (d : Int))) * x i := by
        funext i
        have h7 := congrFun (hyu.trans hyv.symm) i
        unfold lc at h7 ⊢
        grind
      rw [h6] at h5
      have h8 := sub_sc hS h5 (kI e (c : Int) + -(kI e (d : Int)))
      have h9 : (fun i => (kI e (c : Int) + -(kI e (d : Int))) * ((kI e (c : Int) + -(kI e (d : Int))) * x i)) = x := by
        funext i
        have := sq1 he hcd
        have h10 : (kI e (c : Int) + -(kI e (d : Int))) * ((kI e (c : Int) + -(kI e (d : Int))) * x i) = ((kI e (c : Int) + -(kI e (d : Int))) * (kI e (c : Int) + -(kI e (d : Int)))) * x i := by grind
        rw [h10, this]
        grind
      rw [h9] at h8
      exact hx h8
/-- numbers with a property, counted -/
noncomputable def cnN (P : Int → Prop) (m : Nat) : List Int := @List.filter Int (fun v => @decide (P v) (Classical.propDecidable _)) ((List.range m).map (fun k : Nat => (k : Int)))
theorem cnN_mem {P : Int → Prop} {m : Nat} {v : Int} : v ∈ cnN P m ↔ (0 ≤ v ∧ v < m) ∧ P v := by
  unfold cnN
  rw [List.mem_filter, List.mem_map]
  constructor
  · rintro ⟨⟨k, hk, rfl⟩, h⟩
    have := List.mem_range.mp hk
    exact ⟨by omega, @of_decide_eq_true _ (Classical.propDecidable _) h⟩
  · rintro ⟨h1, h2⟩
    exact ⟨⟨v.toNat, List.mem_range.mpr (by omega), by omega⟩, @decide_eq_true _ (Classical.propDecidable _) h2⟩
theorem cnN_nd {P : Int → Prop} {m : Nat} : (cnN P m).Nodup := by
  unfold cnN
  exact List.Pairwise.filter _ (nd_map List.nodup_range (fun x _ y _ h => by omega))
theorem good_rev (he : e ≤ 1) {T : List (Vc e)} (hT : Good n T) : ∃ R : List (Vc e), R.reverse = T ∧ R.length = T.length := ⟨T.reverse, List.reverse_reverse T, List.length_reverse⟩
theorem cn_pow (he : e ≤ 1) {T : List (Vc e)} (hG : Good n T) : (cnN (fun v => spn T (toV e n v)) (pI e ^ n).toNat).length = (e + 2) ^ T.length := by
  have hpw := pw_pos (pI23 he) n
  have hG2 : Good n (T.reverse).reverse := by rw [List.reverse_reverse]; exact hG
  have hmem : ∀ w, w ∈ lsN e n T.reverse ↔ spn T w := fun w => by
    rw [lsN_mem, List.reverse_reverse]
    exact ⟨fun ⟨t, ht, hw⟩ => hw ▸ ht, fun h => ⟨w, h, rfl⟩⟩
  have hnd : ((lsN e n T.reverse).map (num n)).Nodup := nd_map (lsN_nd he _ hG2) (fun x hx y hy h => num_inj2 he (hG.sub.2.2 x ((hmem x).mp hx)) (hG.sub.2.2 y ((hmem y).mp hy)) h)
  have hlen : ((lsN e n T.reverse).map (num n)).length = (e + 2) ^ T.length := by rw [List.length_map, lsN_len, List.length_reverse]
  rw [← hlen]
  apply Nat.le_antisymm
  · refine nd_len cnN_nd (fun v hv => ?_)
    obtain ⟨h1, h2⟩ := cnN_mem.mp hv
    exact List.mem_map.mpr ⟨toV e n v, (hmem _).mpr h2, num_toV he h1.1 (by omega)⟩
  · refine nd_len hnd (fun v hv => ?_)
    obtain ⟨w, hw, rfl⟩ := List.mem_map.mp hv
    have hw2 := (hmem w).mp hw
    have hs := hG.sub.2.2 w hw2
    have hr := num_rng he n w
    exact cnN_mem.mpr ⟨by omega, by rw [toV_num he hs]; exact hw2⟩
theorem cnN_sum {P : Int → Prop} : ∀ m : Nat, (cnN P (m + 1)).length = (cnN P m).length + ifp (P m) 1 0 := by
  intro m
  unfold cnN
  rw [List.range_succ, List.map_append, List.filter_append, List.length_append]
  congr 1
  by_cases h : P m
  · rw [ifp_t h]
    rw [List.map_singleton, List.filter_cons, if_pos (@decide_eq_true _ (Classical.propDecidable _) h)]
    rfl
  · rw [ifp_f h]
    rw [List.map_singleton, List.filter_cons, if_neg (fun q => h (@of_decide_eq_true _ (Classical.propDecidable _) q))]
    rfl
end
section
variable {e n : Nat} {A : Nat → Nat → Nat → Kf e}
/-- what is spun from a list: invariant, the smallest one -/
theorem spsL (he : e ≤ 1) (hn : n ≤ 6) {T : List (Vc e)} (hG : Good n T) : Good n (sps n A 0 20 T 0) ∧ Inv n A (spn (sps n A 0 20 T 0)) ∧ (∀ w, spn T w → spn (sps n A 0 20 T 0) w) ∧ ∀ U : Vc e → Prop, Sub n U → Inv n A U → (∀ x ∈ T, U x) → ∀ w, spn (sps n A 0 20 T 0) w → U w := by
  obtain ⟨h1, R, hR⟩ := sps_cl (A := A) he (b := 0) (f := 20) (T := T) (c := 0) hG (by omega) (fun t g _ _ _ q => absurd q (Nat.not_lt_zero _))
  have hG2 : Good n (sps n A 0 20 T 0) := sps_good he hG
  refine ⟨hG2, inv_of hG2 (fun t g ht hg => h1 t g (Nat.zero_le t) ht hg), fun w hw => by rw [hR]; exact spn_mono _ hw, fun U hU hI hT => ?_⟩
  have hsps : ∀ (f : Nat) (T : List (Vc e)) (c : Nat), (∀ x ∈ T, U x) → ∀ x ∈ sps n A 0 f T c, U x := by
    intro f
    induction f with
    | zero => intro T c h; exact h
    | succ f ih =>
      intro T c h
      unfold sps
      by_cases hq : 0 + c / 2 < T.length
      · rw [if_pos hq]
        refine ih _ _ (fun y hy => ?_)
        unfold addv at hy
        by_cases hs : spn T (cand n A 0 T c)
        · rw [ifp_t hs] at hy
          exact h y hy
        · rw [ifp_f hs] at hy
          rcases List.mem_append.mp hy with z | z
          · exact h y z
          · rw [List.mem_singleton.mp z]
            unfold cand
            refine hI _ (Nat.mod_lt _ (by omega)) _ (h _ ?_)
            rw [List.getD_eq_getElem?_getD, List.getElem?_eq_getElem hq]
            exact List.getElem_mem _
      · rw [if_neg hq]
        exact h
  exact spn_min hU (hsps 20 T 0 hT)
/-- the model's list of what all null vectors spin -/
theorem nsT_spec (he : e ≤ 1) (hn : n ≤ 6) {W : Nat → Vc e} : ∀ m : Nat, (m : Int) ≤ pI e ^ n → Inv n A (spn (nsT n A W m)) ∧ (∀ u : Int, pI e ^ n - m ≤ u → u < pI e ^ n → nsp n W (toV e n u) → spn (nsT n A W m) (toV e n u)) ∧ ∀ U : Vc e → Prop, Sub n U → Inv n A U → (∀ w, nsp n W w → U w) → ∀ x ∈ nsT n A W m, U x
  | 0, _ => ⟨inv_z0, fun u h1 h2 => by omega, fun U _ _ _ x hx => absurd hx List.not_mem_nil⟩
  | m + 1, hm => by
    obtain ⟨i1, i2, i3⟩ := nsT_spec he hn m (by omega)
    have hG := nsT_good he (n := n) (A := A) (W := W) m
    unfold nsT
    by_cases h : nsp n W (toV e n (pI e ^ n - 1 - m))
    · rw [ifp_t h]
      obtain ⟨s1, ⟨R, s2⟩, s3⟩ := spin_inv (A := A) he hn hG i1 (toV_sup (e := e) (n := n) (v := pI e ^ n - 1 - m))
      refine ⟨s1, fun u h1 h2 h3 => ?_, fun U hU hI hw => spin_min hU hI (i3 U hU hI hw) (hw _ h)⟩
      by_cases z : u = pI e ^ n - 1 - m
      · rw [z]
        exact s3
      · rw [s2]
        exact spn_mono _ (i2 u (by omega) h2 h3)
    · rw [ifp_f h]
      refine ⟨i1, fun u h1 h2 h3 => ?_, i3⟩
      by_cases z : u = pI e ^ n - 1 - m
      · rw [z] at h3
        exact absurd h3 h
      · exact i2 u (by omega) h2 h3
theorem nsp_sub {W : Nat → Vc e} : Sub n (nsp n W) := by
  refine ⟨⟨sup_z0, mv_z0⟩, fun u w c hu hw => ⟨sup_lc hu.1 hw.1, ?_⟩, fun w hw => hw.1⟩
  rw [mv_lc, hu.2, hw.2, lc_z0]
/-- dimension of what the null space spins -/
theorem nsT_len (he : e ≤ 1) (hn : n ≤ 6) {W : Nat → Vc e} {T : List (Vc e)} (hG : Good n T) (hT : ∀ w, spn T w ↔ nsp n W w) : (nsT n A W (pI e ^ n).toNat).length = (sps n A 0 20 T 0).length := by
  have hpw := pw_pos (pI23 he) n
  obtain ⟨g1, g2, g3, g4⟩ := spsL (A := A) he hn hG
  obtain ⟨i1, i2, i3⟩ := nsT_spec (A := A) he hn (W := W) (pI e ^ n).toNat (by omega)
  have hG2 := nsT_good he (n := n) (A := A) (W := W) (pI e ^ n).toNat
  rw [← hG2.2, ← g1.2]
  refine dm_congr (fun w => ⟨?_, ?_⟩)
  · exact spn_min g1.sub (i3 _ g1.sub g2 (fun w hw => g3 w ((hT w).mpr hw))) w
  · refine g4 _ hG2.sub i1 (fun x hx => ?_) w
    have hx2 := (hT x).mp (spn_mem hG hx)
    have hr := num_rng he n x
    have h1 := i2 (num n x) (by omega) hr.2 (by rw [toV_num he hx2.1]; exact hx2)
    rw [toV_num he hx2.1] at h1
    exact h1
/-- the number of null vectors -/
theorem nsC_pow (he : e ≤ 1) {W : Nat → Vc e} {T : List (Vc e)} (hG : Good n T) (hT : ∀ w, spn T w ↔ nsp n W w) : (nsC n W (pI e ^ n).toNat : Int) = pI e ^ T.length := by
  have hpw := pw_pos (pI23 he) n
  have key : ∀ m : Nat, (m : Int) ≤ pI e ^ n → nsC n W m + (cnN (fun v => spn T (toV e n v)) ((pI e ^ n).toNat - m)).length = (cnN (fun v => spn T (toV e n v)) (pI e ^ n).toNat).length := by
    intro m
    induction m with
    | zero => intro _; show 0 + _ = _; rw [Nat.zero_add, Nat.sub_zero]
    | succ m ih =>
      intro hm
      have h1 := ih (by omega)
      have e1 : (pI e ^ n).toNat - m = ((pI e ^ n).toNat - (m + 1)) + 1 := by omega
      rw [e1, cnN_sum] at h1
      have e2 : (((pI e ^ n).toNat - (m + 1) : Nat) : Int) = pI e ^ n - 1 - m := by omega
      rw [e2] at h1
      show nsC n W m + ifp (nsp n W (toV e n (pI e ^ n - 1 - m))) 1 0 + _ = _
      by_cases h : nsp n W (toV e n (pI e ^ n - 1 - m))
      · rw [ifp_t ((hT _).mpr h)] at h1
        rw [ifp_t h]
        omega
      · rw [ifp_f (fun q => h ((hT _).mp q))] at h1
        rw [ifp_f h]
        omega
  have h1 := key (pI e ^ n).toNat (by omega)
  rw [Nat.sub_self, cn_pow he hG] at h1
  have e3 : (cnN (fun v => spn T (toV e n v)) 0).length = 0 := rfl
  rw [e3, Nat.add_zero] at h1
  rw [h1]
  have e4 : pI e = ((e + 2 : Nat) : Int) := by unfold pI; omega
  rw [e4, Int.natCast_pow]
end
