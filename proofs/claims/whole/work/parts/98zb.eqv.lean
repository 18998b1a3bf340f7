/-! Each pair of calls: the class answers as the model does. -/
section
variable {c : Int} {S : Sg}
theorem nex {x : Int} (h : 0 ≤ x) : ∃ k : Nat, x = k := ⟨x.toNat, by omega⟩
theorem q_begins (hc : c < 1000000000) (h : okG c S) (x : Int) : EQ c 74 153 [(0, x)] S := by
  by_cases hx : 2 ≤ x ∧ x ≤ 3
  · obtain ⟨e, he, hq⟩ : ∃ e : Nat, e ≤ 1 ∧ x = pI e := ⟨(x - 2).toNat, by omega, by unfold pI; omega⟩
    exact eq_ch h (vs_s11 he) (fun M hR => c_begins h.1 hR.1 hR.2.1 hq he) (fun M hR => m_begins h.1 hR.1 hR.2.1 hq he)
  · exact eq_bad hc h (i := 0) (j := 11) (by omega) rfl (fun M hb hR => c_begins_bad M hb hx) (fun M hb hR => m_begins_bad M hb hx)
theorem q_sizes (hc : c < 1000000000) (h : okG c S) (x y : Int) : EQ c 75 154 [(0, x), (0, y)] S := by
  by_cases hx : (0 ≤ x ∧ x ≤ 3) ∧ 1 ≤ y ∧ y ≤ 6 - S.1.1
  · obtain ⟨k, rfl⟩ := nex hx.1.1
    obtain ⟨n, rfl⟩ := nex (show 0 ≤ y by omega)
    have hn : 1 ≤ n ∧ nb S.1.1 n := ⟨by omega, by unfold nb; omega⟩
    exact eq_ch h (vs_setm h.1 hn (fun g i j _ _ _ => by show (0 : Int) ≤ 0 ∧ (0 : Int) ≤ pI S.1.1 - 1; unfold pI; omega)) (fun M hR => c_sizes h.1 hR.1 hR.2.1 (by omega) hn) (fun M hR => m_sizes h.1 hR.1 hR.2.1 (by omega) hn)
  · exact eq_bad hc h (i := 0) (j := 11) (by omega) rfl (fun M hb hR => c_sizes_bad M hb h.1 hR.1 hx) (fun M hb hR => m_sizes_bad M hb h.1 hR.1 hx)
theorem q_sets (hc : c < 1000000000) (h : okG c S) (k g i j v : Int) : EQ c 76 155 [(0, k), (0, g), (0, i), (0, j), (0, v)] S := by
  by_cases hx : okE S.1 k g i j ∧ 0 ≤ v ∧ v ≤ pI S.1.1 - 1
  · obtain ⟨hk, hg, hi, hj⟩ := hx.1
    obtain ⟨k, rfl⟩ := nex hk.1
    obtain ⟨g, rfl⟩ := nex hg.1
    obtain ⟨i, rfl⟩ := nex hi.1
    obtain ⟨j, rfl⟩ := nex hj.1
    rw [Int.toNat_natCast] at hi hj
    have hk4 : k < 4 := by omega
    have hvk := h.1.2 k hk4
    exact eq_ch h (vs_setm h.1 ⟨hvk.1, hvk.2.1⟩ (fun g' i' j' a1 a2 a3 => by
      unfold setE
      split
      · exact hx.2
      · exact hvk.2.2 g' i' j' a1 a2 a3)) (fun M hR => c_sets h.1 hR.1 hR.2.1 hk4 (by omega) (by omega) (by omega) hx.2) (fun M hR => m_sets h.1 hR.1 hR.2.1 hk4 (by omega) (by omega) (by omega) hx.2)
  · exact eq_bad hc h (i := 0) (j := 11) (by omega) rfl (fun M hb hR => c_sets_bad M hb hR.1 hx) (fun M hb hR => m_sets_bad M hb h.1 hR.1 hx)
theorem q_draws (hc : c < 1000000000) (h : okG c S) (k x : Int) : EQ c 77 156 [(0, k), (0, x)] S := by
  by_cases hx : (0 ≤ k ∧ k ≤ 3) ∧ 0 ≤ x ∧ x ≤ 999999
  · obtain ⟨k, rfl⟩ := nex hx.1.1
    have hk4 : k < 4 := by omega
    have hvk := h.1.2 k hk4
    exact eq_ch h (vs_setm h.1 ⟨hvk.1, hvk.2.1⟩ (fun g' i' j' a1 a2 a3 => md_b _)) (fun M hR => c_draws h.1 hR.1 hR.2.1 hk4 hx.2) (fun M hR => m_draws h.1 hR.1 hR.2.1 hk4 hx.2)
  · exact eq_bad hc h (i := 0) (j := 11) (by omega) rfl (fun M hb hR => c_draws_bad M hb hx) (fun M hb hR => m_draws_bad M hb hx)
theorem q_turns (hc : c < 1000000000) (h : okG c S) (k i j v : Int) : EQ c 78 158 [(0, k), (0, i), (0, j), (0, v)] S := by
  by_cases hx : okT S.1 k i j v
  · obtain ⟨hk, hi, hj, hij, hcc⟩ := hx
    obtain ⟨k, rfl⟩ := nex hk.1
    obtain ⟨i, rfl⟩ := nex hi.1
    obtain ⟨j, rfl⟩ := nex hj.1
    rw [Int.toNat_natCast] at hi hj
    have hk4 : k < 4 := by omega
    have hvk := h.1.2 k hk4
    exact eq_ch h (vs_setm h.1 ⟨hvk.1, hvk.2.1⟩ (fun g' i' j' a1 a2 a3 => by
      unfold trnE
      split
      · exact md_b _
      · exact md_b _)) (fun M hR => c_turns h.1 hR.1 hR.2.1 hk4 (by omega) (by omega) (by omega) hcc) (fun M hR => m_turns h.1 hR.1 hR.2.1 hk4 (by omega) (by omega) (by omega) hcc)
  · exact eq_bad hc h (i := 0) (j := 11) (by omega) rfl (fun M hb hR => c_turns_bad M hb hR.1 hx) (fun M hb hR => m_turns_bad M hb h.1 hR.1 hx)
theorem q_adds (hc : c < 1000000000) (h : okG c S) (k x y : Int) : EQ c 79 159 [(0, k), (0, x), (0, y)] S := by
  by_cases hx : (0 ≤ k ∧ k ≤ 3) ∧ (0 ≤ x ∧ x ≤ 3) ∧ 0 ≤ y ∧ y ≤ 3
  · obtain ⟨k, rfl⟩ := nex hx.1.1
    obtain ⟨x, rfl⟩ := nex hx.2.1.1
    obtain ⟨y, rfl⟩ := nex hx.2.2.1
    have hk4 : k < 4 := by omega
    have hx4 : x < 4 := by omega
    have hy4 : y < 4 := by omega
    have hvx := h.1.2 x hx4
    have hvy := h.1.2 y hy4
    by_cases hn : nb S.1.1 (S.1.2.1 x + S.1.2.1 y)
    · exact eq_ch h (vs_setm h.1 ⟨by omega, hn⟩ (fun g' i' j' a1 a2 a3 => by
        unfold addE
        by_cases w : i' < S.1.2.1 x ∧ j' < S.1.2.1 x
        · rw [if_pos w]
          exact hvx.2.2 g' i' j' a1 w.1 w.2
        · rw [if_neg w]
          by_cases w2 : S.1.2.1 x ≤ i' ∧ S.1.2.1 x ≤ j'
          · rw [if_pos w2]
            exact hvy.2.2 g' _ _ a1 (by omega) (by omega)
          · rw [if_neg w2]
            unfold pI
            omega)) (fun M hR => c_adds h.1 hR.1 hR.2.1 hk4 hx4 hy4 hn) (fun M hR => m_adds h.1 hR.1 hR.2.1 hk4 hx4 hy4 hn)
    · exact eq_bad hc h (i := 1) (j := 12) (by omega) rfl (fun M hb hR => c_adds_no M hb h.1 hR.1 hk4 hx4 hy4 hn) (fun M hb hR => m_adds_no M hb h.1 hR.1 hk4 hx4 hy4 hn)
  · exact eq_bad hc h (i := 0) (j := 11) (by omega) rfl (fun M hb hR => c_adds_bad M hb hx) (fun M hb hR => m_adds_bad M hb hx)
theorem q_times (hc : c < 1000000000) (h : okG c S) (k x y : Int) : EQ c 80 160 [(0, k), (0, x), (0, y)] S := by
  by_cases hx : (0 ≤ k ∧ k ≤ 3) ∧ (0 ≤ x ∧ x ≤ 3) ∧ 0 ≤ y ∧ y ≤ 3
  · obtain ⟨k, rfl⟩ := nex hx.1.1
    obtain ⟨x, rfl⟩ := nex hx.2.1.1
    obtain ⟨y, rfl⟩ := nex hx.2.2.1
    have hk4 : k < 4 := by omega
    have hx4 : x < 4 := by omega
    have hy4 : y < 4 := by omega
    have hvx := h.1.2 x hx4
    have hvy := h.1.2 y hy4
    by_cases hn : nb S.1.1 (S.1.2.1 x * S.1.2.1 y)
    · exact eq_ch h (vs_setm h.1 ⟨Nat.mul_pos hvx.1 hvy.1, hn⟩ (fun g' i' j' a1 a2 a3 => md_b _)) (fun M hR => c_times h.1 hR.1 hR.2.1 hk4 hx4 hy4 hn) (fun M hR => m_times h.1 hR.1 hR.2.1 hk4 hx4 hy4 hn)
    · exact eq_bad hc h (i := 1) (j := 12) (by omega) rfl (fun M hb hR => c_times_no M hb h.1 hR.1 hk4 hx4 hy4 hn) (fun M hb hR => m_times_no M hb h.1 hR.1 hk4 hx4 hy4 hn)
  · exact eq_bad hc h (i := 0) (j := 11) (by omega) rfl (fun M hb hR => c_times_bad M hb hx) (fun M hb hR => m_times_bad M hb hx)
theorem q_over (hc : c < 1000000000) (h : okG c S) (k x : Int) : EQ c 81 161 [(0, k), (0, x)] S := by
  by_cases hx : (0 ≤ k ∧ k ≤ 3) ∧ 0 ≤ x ∧ x ≤ 3
  · obtain ⟨k, rfl⟩ := nex hx.1.1
    obtain ⟨x, rfl⟩ := nex hx.2.1
    have hk4 : k < 4 := by omega
    have hx4 : x < 4 := by omega
    have hvx := h.1.2 x hx4
    exact eq_ch h (vs_setm h.1 ⟨hvx.1, hvx.2.1⟩ (fun g' i' j' a1 a2 a3 => hvx.2.2 g' j' i' a1 a3 a2)) (fun M hR => c_over h.1 hR.1 hR.2.1 hk4 hx4) (fun M hR => m_over h.1 hR.1 hR.2.1 hk4 hx4)
  · exact eq_bad hc h (i := 0) (j := 11) (by omega) rfl (fun M hb hR => c_over_bad M hb hx) (fun M hb hR => m_over_bad M hb hx)
theorem spT_b {s : Sst} (hv : vs s) {x : Nat} (hx : x < 4) {v : Int} (h0 : 0 < v) (h1 : v < pI s.1 ^ s.2.1 x) : 1 ≤ (spT s x v).length ∧ (spT s x v).length ≤ s.2.1 x := sl_pos hv.1 (vs_6 hv hx) (show 1 ≤ v by omega) h1
theorem q_parts (hc : c < 1000000000) (h : okG c S) (k x v : Int) : EQ c 82 162 [(0, k), (0, x), (0, v)] S := by
  by_cases hx : (0 ≤ k ∧ k ≤ 3) ∧ okV S.1 x v
  · obtain ⟨hk, hxx, hv0, hv1⟩ := hx
    obtain ⟨k, rfl⟩ := nex hk.1
    obtain ⟨x, rfl⟩ := nex hxx.1
    rw [Int.toNat_natCast] at hv1
    have hk4 : k < 4 := by omega
    have hx4 : x < 4 := by omega
    have hvx := h.1.2 x hx4
    by_cases hz : v = 0
    · subst hz
      exact eq_bad hc h (i := 1) (j := 12) (by omega) rfl (fun M hb hR => c_parts_no M hb h.1 hR.1 hk4 hx4) (fun M hb hR => m_parts_no M hb h.1 hR.1 hk4 hx4)
    · have hl := spT_b h.1 hx4 (show 0 < v by omega) hv1
      have hnb := hvx.2.1
      exact eq_ch h (vs_setm h.1 ⟨hl.1, by unfold nb at *; omega⟩ (fun g' i' j' a1 a2 a3 => vl_rng _)) (fun M hR => c_parts h.1 hR.1 hR.2.1 hk4 hx4 (by omega) hv1) (fun M hR => m_parts h.1 hR.1 hR.2.1 hk4 hx4 (by omega) hv1)
  · exact eq_bad hc h (i := 0) (j := 11) (by omega) rfl (fun M hb hR => c_parts_bad M hb h.1 hR.1 hx) (fun M hb hR => m_parts_bad M hb h.1 hR.1 hx)
theorem q_rests (hc : c < 1000000000) (h : okG c S) (k x v : Int) : EQ c 83 163 [(0, k), (0, x), (0, v)] S := by
  by_cases hx : (0 ≤ k ∧ k ≤ 3) ∧ okV S.1 x v
  · obtain ⟨hk, hxx, hv0, hv1⟩ := hx
    obtain ⟨k, rfl⟩ := nex hk.1
    obtain ⟨x, rfl⟩ := nex hxx.1
    rw [Int.toNat_natCast] at hv1
    have hk4 : k < 4 := by omega
    have hx4 : x < 4 := by omega
    have hvx := h.1.2 x hx4
    by_cases hd : (spT S.1 x v).length = S.1.2.1 x
    · refine ⟨cU S 1, fun y => y = -3, h.up 1, uni (-3), fun M hR => Cl.mono (c_rests_no (h.cbC hc hR) h.1 hR.1 hk4 hx4 hv0 hv1 hd) (fun v M' q => ?_), fun M hR => Cl.mono (m_rests_no M (h.cb hc hR) h.1 hR.1 hk4 hx4 hv0 hv1 hd) (fun v M' q => ?_)⟩
      · obtain ⟨z, q1, q2, M1, q3, rfl⟩ := q
        refine ⟨z, q1, q2, kc_up (hR.fr q3 (fun x y w => by unfold WX at w; unfold QC; omega)) (by omega) rfl (by rw [q3 _ _ (by unfold WX; omega)]), fun x y n => ?_⟩
        rw [uq_ne (by unfold FC at n; omega)]
        exact q3 _ _ (fun w => n (by unfold WX at w; unfold FC; omega))
      · obtain ⟨z, q1, q2, M1, q3, rfl⟩ := q
        refine ⟨z, q1, q2, km_up h.1 (hR.fr h.1 q3 (fun x y w => by unfold W1 at w; unfold QM; omega)) (by omega) (by rw [q3 _ _ (by unfold W1; omega)]), fun x y n => ?_⟩
        rw [uq_ne (by unfold FM at n; omega)]
        exact q3 _ _ (fun w => n (by unfold W1 at w; unfold FM; omega))
    · have hl := (spT_good h.1 (x := x) (v := v)).len
      have hnb := hvx.2.1
      exact eq_ch h (vs_setm h.1 ⟨by omega, by unfold nb at *; omega⟩ (fun g' i' j' a1 a2 a3 => vl_rng _)) (fun M hR => c_rests h.1 hR.1 hR.2.1 hk4 hx4 hv0 hv1 hd) (fun M hR => m_rests h.1 hR.1 hR.2.1 hk4 hx4 hv0 hv1 hd)
  · exact eq_bad hc h (i := 0) (j := 11) (by omega) rfl (fun M hb hR => c_rests_bad M hb h.1 hR.1 hx) (fun M hb hR => m_rests_bad M hb h.1 hR.1 hx)
theorem q_size (hc : c < 1000000000) (h : okG c S) (k : Int) : EQ c 84 164 [(0, k)] S := by
  by_cases hx : 0 ≤ k ∧ k ≤ 3
  · obtain ⟨k, rfl⟩ := nex hx.1
    exact eq_same h (fun M hR => c_size hR.1 (by omega)) (fun M hR => m_size hR.1 (by omega))
  · exact eq_bad hc h (i := 0) (j := 11) (by omega) rfl (fun M hb hR => c_size_bad M hb hx) (fun M hb hR => m_size_bad M hb hx)
theorem q_at (hc : c < 1000000000) (h : okG c S) (k g i j : Int) : EQ c 85 165 [(0, k), (0, g), (0, i), (0, j)] S := by
  by_cases hx : okE S.1 k g i j
  · obtain ⟨hk, hg, hi, hj⟩ := hx
    obtain ⟨k, rfl⟩ := nex hk.1
    obtain ⟨g, rfl⟩ := nex hg.1
    obtain ⟨i, rfl⟩ := nex hi.1
    obtain ⟨j, rfl⟩ := nex hj.1
    rw [Int.toNat_natCast] at hi hj
    exact eq_same h (fun M hR => c_at h.1 hR.1 (by omega) (by omega) (by omega) (by omega)) (fun M hR => m_at h.1 hR.1 (by omega) (by omega) (by omega) (by omega))
  · exact eq_bad hc h (i := 0) (j := 11) (by omega) rfl (fun M hb hR => c_at_bad M hb hR.1 hx) (fun M hb hR => m_at_bad M hb h.1 hR.1 hx)
theorem q_moved (hc : c < 1000000000) (h : okG c S) (k g v : Int) : EQ c 86 166 [(0, k), (0, g), (0, v)] S := by
  by_cases hx : (0 ≤ g ∧ g ≤ 1) ∧ okV S.1 k v
  · obtain ⟨hg, hk, hv0, hv1⟩ := hx
    obtain ⟨k, rfl⟩ := nex hk.1
    obtain ⟨g, rfl⟩ := nex hg.1
    rw [Int.toNat_natCast] at hv1
    exact eq_same h (fun M hR => c_moved h.1 hR.1 (by omega) (by omega) hv0 hv1) (fun M hR => m_moved h.1 hR.1 (by omega) (by omega) hv0 hv1)
  · exact eq_bad hc h (i := 0) (j := 11) (by omega) rfl (fun M hb hR => c_moved_bad M hb h.1 hR.1 hx) (fun M hb hR => m_moved_bad M hb h.1 hR.1 hx)
theorem q_spun (hc : c < 1000000000) (h : okG c S) (k v : Int) : EQ c 87 167 [(0, k), (0, v)] S := by
  by_cases hx : okV S.1 k v
  · obtain ⟨hk, hv0, hv1⟩ := hx
    obtain ⟨k, rfl⟩ := nex hk.1
    rw [Int.toNat_natCast] at hv1
    exact eq_fr h (fun M hR => c_spun h.1 hR.1 (by omega) hv0 hv1) (fun M hR => m_spun h.1 hR.1 (by omega) hv0 hv1)
  · exact eq_bad hc h (i := 0) (j := 11) (by omega) rfl (fun M hb hR => c_spun_bad M hb h.1 hR.1 hx) (fun M hb hR => m_spun_bad M hb h.1 hR.1 hx)
theorem q_row (hc : c < 1000000000) (h : okG c S) (k v i : Int) : EQ c 88 168 [(0, k), (0, v), (0, i)] S := by
  by_cases hx : okV S.1 k v ∧ 0 ≤ i
  · obtain ⟨⟨hk, hv0, hv1⟩, hi⟩ := hx
    obtain ⟨k, rfl⟩ := nex hk.1
    rw [Int.toNat_natCast] at hv1
    exact eq_fr h (fun M hR => c_row h.1 hR.1 (by omega) hv0 hv1 hi) (fun M hR => m_row h.1 hR.1 (by omega) hv0 hv1 hi)
  · exact eq_bad hc h (i := 0) (j := 11) (by omega) rfl (fun M hb hR => c_row_bad M hb h.1 hR.1 hx) (fun M hb hR => m_row_bad M hb h.1 hR.1 hx)
theorem q_simple (hc : c < 1000000000) (h : okG c S) (k : Int) : EQ c 89 170 [(0, k)] S := by
  by_cases hx : 0 ≤ k ∧ k ≤ 3
  · obtain ⟨k, rfl⟩ := nex hx.1
    exact eq_fr h (fun M hR => c_simple h.1 hR.1 (by omega)) (fun M hR => m_simple h.1 hR.1 (by omega))
  · exact eq_bad hc h (i := 0) (j := 11) (by omega) rfl (fun M hb hR => c_simple_bad M hb hx) (fun M hb hR => m_simple_bad M hb hx)
theorem q_least (hc : c < 1000000000) (h : okG c S) (k : Int) : EQ c 90 171 [(0, k)] S := by
  by_cases hx : 0 ≤ k ∧ k ≤ 3
  · obtain ⟨k, rfl⟩ := nex hx.1
    exact ⟨S, leaP (S.1.2.1 k) (mdA S.1 k), h.same, fun y z a b => leaP_eq a b, kc_fr (fun M hR => c_least h.1 hR.1 (by omega)), km_fr h.1 (fun M hR => m_least h.1 hR.1 (by omega))⟩
  · exact eq_bad hc h (i := 0) (j := 11) (by omega) rfl (fun M hb hR => c_least_bad M hb hx) (fun M hb hR => m_least_bad M hb hx)
theorem wcu_m {p : Int → Prop} {M : Mo} {g : Nat} {as : List AV} {k0 : Nat} (h : CI g as M (fun z M' => p z ∧ Fr WCu M M' ∧ M' 217 5 = k0 ∧ CT M' (S.1.2.1 k0) (mdA S.1 k0))) : CI g as M (fun z M' => p z ∧ Fr WCm M M' ∧ M' 217 5 = k0 ∧ CT M' (S.1.2.1 k0) (mdA S.1 k0)) := Cl.mono h (fun v M' q => by
  obtain ⟨x, q1, q2, q3, q4⟩ := q
  exact ⟨x, q1, q2, q3.mono (fun x y w => Or.inl w), q4⟩)
theorem q_factors (hc : c < 1000000000) (h : okG c S) (k : Int) : EQ c 91 179 [(0, k)] S := by
  by_cases hx : 0 ≤ k ∧ k ≤ 3
  · obtain ⟨k, rfl⟩ := nex hx.1
    have hk4 : k < 4 := by omega
    exact eq_fc h (fun y z a b => facP_eq h.1.1 (vs_6 h.1 hk4) a b) (k0 := k) (fun M hR => c_factors h.1 hR.1 hR.2.2.2.2.2 hk4) (fun M hR => wcu_m (m_factors h.1 hR.1 hk4 (hR.2.2.2.2.2 k hk4)))
  · exact eq_bad hc h (i := 0) (j := 11) (by omega) rfl (fun M hb hR => c_factors_bad M hb hx) (fun M hb hR => m_factors_bad M hb hx)
theorem q_factor (hc : c < 1000000000) (h : okG c S) (k i w : Int) : EQ c 92 181 [(0, k), (0, i), (0, w)] S := by
  by_cases hx : (0 ≤ k ∧ k ≤ 3) ∧ 0 ≤ i ∧ 0 ≤ w ∧ w ≤ 3
  · obtain ⟨k, rfl⟩ := nex hx.1.1
    obtain ⟨i, rfl⟩ := nex hx.2.1
    obtain ⟨w, rfl⟩ := nex hx.2.2.1
    have hk4 : k < 4 := by omega
    have hw4 : w < 4 := by omega
    exact eq_fc h (fun y z a b => facV_eq h.1.1 (vs_6 h.1 hk4) hw4 a b) (k0 := k) (fun M hR => c_factor h.1 hR.1 hR.2.2.2.2.2 hk4 hw4) (fun M hR => wcu_m (m_factor h.1 hR.1 hk4 hw4 (hR.2.2.2.2.2 k hk4)))
  · exact eq_bad hc h (i := 0) (j := 11) (by omega) rfl (fun M hb hR => c_factor_bad M hb hx) (fun M hb hR => m_factor_bad M hb hx)
theorem q_telling (hc : c < 1000000000) (h : okG c S) (k i j : Int) (hj2 : j < 2147483648) : EQ c 93 182 [(0, k), (0, i), (0, j)] S := by
  by_cases hx : (0 ≤ k ∧ k ≤ 3) ∧ 0 ≤ i ∧ 0 ≤ j
  · obtain ⟨k, rfl⟩ := nex hx.1.1
    obtain ⟨i, rfl⟩ := nex hx.2.1
    have hk4 : k < 4 := by omega
    exact eq_fc h (fun y z a b => telV_eq h.1.1 (vs_6 h.1 hk4) hx.2.2 a b) (k0 := k) (fun M hR => c_telling h.1 hR.1 hR.2.2.2.2.2 hk4 hx.2.2 hj2) (fun M hR => wcu_m (m_telling h.1 hR.1 hk4 hx.2.2 (hR.2.2.2.2.2 k hk4)))
  · exact eq_bad hc h (i := 0) (j := 11) (by omega) rfl (fun M hb hR => c_telling_bad M hb hx) (fun M hb hR => m_telling_bad M hb hx)
theorem q_common (hc : c < 1000000000) (h : okG c S) (x y : Int) : EQ c 94 184 [(0, x), (0, y)] S := by
  by_cases hx : (0 ≤ x ∧ x ≤ 3) ∧ 0 ≤ y ∧ y ≤ 3
  · obtain ⟨x, rfl⟩ := nex hx.1.1
    obtain ⟨y, rfl⟩ := nex hx.2.1
    have hx4 : x < 4 := by omega
    have hy4 : y < 4 := by omega
    exact eq_fc h (fun _ _ a b => comP_eq h.1.1 (vs_6 h.1 hx4) (vs_6 h.1 hy4) a b) (k0 := y) (fun M hR => c_common h.1 hR.1 hR.2.2.2.2.2 hx4 hy4) (fun M hR => m_common h.1 hR.1 hx4 hy4 hR.2.2.2.2.2)
  · exact eq_bad hc h (i := 0) (j := 11) (by omega) rfl (fun M hb hR => c_common_bad M hb hx) (fun M hb hR => m_common_bad M hb hx)
theorem q_ways (hc : c < 1000000000) (h : okG c S) (x y : Int) : EQ c 95 188 [(0, x), (0, y)] S := by
  by_cases hx : (0 ≤ x ∧ x ≤ 3) ∧ 0 ≤ y ∧ y ≤ 3
  · obtain ⟨x, rfl⟩ := nex hx.1.1
    obtain ⟨y, rfl⟩ := nex hx.2.1
    exact eq_fr h (fun M hR => c_ways h.1 hR.1 (by omega) (by omega)) (fun M hR => m_ways h.1 hR.1 (by omega) (by omega))
  · exact eq_bad hc h (i := 0) (j := 11) (by omega) rfl (fun M hb hR => c_ways_bad M hb hx) (fun M hb hR => m_ways_bad M hb hx)
theorem q_layer (hc : c < 1000000000) (h : okG c S) (k i : Int) (hi2 : i < 2147483648) : EQ c 96 191 [(0, k), (0, i)] S := by
  by_cases hx : (0 ≤ k ∧ k ≤ 3) ∧ 0 ≤ i
  · obtain ⟨k, rfl⟩ := nex hx.1.1
    refine ⟨S, fun y => y = lay 7 (S.1.2.1 k) (mdA S.1 k) i.toNat, h.same, uni _, kc_fr (fun M hR => c_layer h.1 hR.1 (by omega) ⟨hx.2, hi2⟩), fun M hR => Cl.mono (m_layer h.1 hR.1 (by omega) hx.2) (fun v M' q => ?_)⟩
    obtain ⟨x, q1, q2, q3⟩ := q
    exact ⟨x, q1, q2, hR.fr h.1 q3 (fun x y w => by unfold WY WK W1 at w; unfold QM; omega), q3.mono (fun x y w => by unfold WY WK W1 at w; unfold FM; omega)⟩
  · exact eq_bad hc h (i := 0) (j := 11) (by omega) rfl (fun M hb hR => c_layer_bad M hb hx) (fun M hb hR => m_layer_bad M hb hx)
theorem q_spaces (hc : c < 1000000000) (h : okG c S) (k d : Int) : EQ c 97 195 [(0, k), (0, d)] S := by
  by_cases hx : (0 ≤ k ∧ k ≤ 3) ∧ 0 ≤ d ∧ d ≤ 6
  · obtain ⟨k, rfl⟩ := nex hx.1.1
    have hk4 : k < 4 := by omega
    by_cases h4 : 4 < S.1.2.1 k
    · exact eq_bad hc h (i := 1) (j := 12) (by omega) rfl (fun M hb hR => c_spaces_no M hb hR.1 hk4 hx.2 h4) (fun M hb hR => m_spaces_no M hb hR.1 hk4 hx.2 h4)
    · exact eq_fr h (fun M hR => c_spaces h.1 hR.1 hk4 hx.2 (by omega)) (fun M hR => m_spaces h.1 hR.1 hk4 hx.2 (by omega))
  · exact eq_bad hc h (i := 0) (j := 11) (by omega) rfl (fun M hb hR => c_spaces_bad M hb hx) (fun M hb hR => m_spaces_bad M hb hx)
theorem q_word (hc : c < 1000000000) (h : okG c S) (k i j : Int) : EQ c 101 205 [(0, k), (0, i), (0, j)] S := by
  by_cases hx : okW S.1 k i j
  · obtain ⟨hk, hi, hj⟩ := hx
    obtain ⟨k, rfl⟩ := nex hk.1
    obtain ⟨i, rfl⟩ := nex hi.1
    obtain ⟨j, rfl⟩ := nex hj.1
    rw [Int.toNat_natCast] at hi hj
    exact ⟨S, _, h.same, uni _, kc_same (fun M hR => c_word h.1 hR.1 hR.2.2.2.1 (by omega) (by omega) (by omega)), km_fr h.1 (fun M hR => m_word h.1 hR.1 hR.2.2.2.1 (by omega) (by omega) (by omega))⟩
  · exact eq_bad hc h (i := 0) (j := 11) (by omega) rfl (fun M hb hR => c_word_bad M hb hR.1 hx) (fun M hb hR => m_word_bad M hb h.1 hR.1 hx)
theorem q_nulls (hc : c < 1000000000) (h : okG c S) (k x : Int) : EQ c 102 207 [(0, k), (0, x)] S := by
  by_cases hx : (0 ≤ k ∧ k ≤ 3) ∧ 0 ≤ x ∧ x ≤ 2
  · obtain ⟨k, rfl⟩ := nex hx.1.1
    exact ⟨S, nulP (S.1.2.1 k) (mdA S.1 k) (wrow (S.1.2.1 k) (mdA S.1 k) S.2.2.2.1.2 S.2.2.2.1.1) x, h.same, fun y z a b => nulP_eq h.1.1 hx.2 a b, kc_fr (fun M hR => c_nulls h.1 hR.1 hR.2.2.2.1 (by omega) hx.2), km_fr h.1 (fun M hR => m_nulls h.1 hR.1 hR.2.2.2.1 (by omega) hx.2)⟩
  · exact eq_bad hc h (i := 0) (j := 11) (by omega) rfl (fun M hb hR => c_nulls_bad M hb hx) (fun M hb hR => m_nulls_bad M hb hx)
theorem q_poly (hc : c < 1000000000) (h : okG c S) (k i : Int) : EQ c 103 211 [(0, k), (0, i)] S := by
  by_cases hx : okP S.1 k i
  · obtain ⟨hk, hi0, hi1⟩ := hx
    obtain ⟨k, rfl⟩ := nex hk.1
    obtain ⟨i, rfl⟩ := nex hi0
    rw [Int.toNat_natCast] at hi1
    exact eq_fr h (fun M hR => c_poly h.1 hR.1 hR.2.2.2.1 (by omega) (by omega)) (fun M hR => m_poly h.1 hR.1 hR.2.2.2.1 (by omega) (by omega))
  · exact eq_bad hc h (i := 0) (j := 11) (by omega) rfl (fun M hb hR => c_poly_bad M hb hR.1 hx) (fun M hb hR => m_poly_bad M hb hR.1 hx)
theorem q_told (hc : c < 1000000000) (h : okG c S) (x : Int) : EQ c 105 213 [(0, x)] S := by
  by_cases hx : 0 ≤ x ∧ x ≤ 5
  · exact eq_same h (z := tdV (S.2.2.2.2 0) (S.2.2.2.2 1) (S.2.2.2.2 2) (S.2.1.length : Nat) (pI S.1.1) (S.2.2.1.1 : Nat) x) (fun M hR => c_told (hR.2.2.2.2.1 0 (by omega) (by omega)) (hR.2.2.2.2.1 1 (by omega) (by omega)) (hR.2.2.2.2.1 2 (by omega) (by omega)) (by obtain ⟨q, q1, q2, q3, q4⟩ := hR.2.1; exact q3) hR.1.1 hR.2.2.1.1 hx) (fun M hR => m_told (hR.2.2.2.2.1 0 (by omega) (by omega)) (hR.2.2.2.2.1 1 (by omega) (by omega)) (hR.2.2.2.2.1 2 (by omega) (by omega)) hR.2.1.1 hR.1.1 hR.2.2.1.1 hx)
  · exact eq_bad hc h (i := 0) (j := 11) (by omega) rfl (fun M hb hR => c_told_bad M hb hx) (fun M hb hR => m_told_bad M hb hx)
end
