/-! Packed vectors that carry numbers; the order of packed rows; coordinates in a longer list. -/
section
variable {e n : Nat}
theorem pv_or (he : e ≤ 1) {x : Vc e} (hx6 : sup 6 x) {i : Nat} (hi : i < 6) : (Int64.ofInt (pv x) ||| Int64.ofInt (16 ^ (11 - (6 + i)))).toInt = pv (auv x i) := by
  have e1 : (16 : Int) ^ (11 - (6 + i)) = hx (dgt (6 + i) 1) 12 := by
    rw [← dg12 1 (show 6 + i < 12 by omega), Int.one_mul]
  rw [e1]
  unfold pv
  rw [hx_or (dv he x) (dgt_d (by omega)) (fun k hk => ?_)]
  · refine hx_congr (fun k hk => ?_)
    unfold dgt auv lc un
    by_cases q : k = 6 + i
    · rw [if_pos q, if_pos q, hx6 k (by omega)]
      have h1 : (0 : Kf e) + 1 * 1 = 1 := by grind
      rw [h1, vl_0, vl_1]
      rfl
    · rw [if_neg q, if_neg q]
      have h1 : x k + 1 * 0 = x k := by grind
      rw [h1]
      omega
  · by_cases q : k < 6
    · right
      unfold dgt
      rw [if_neg (by omega)]
    · left
      rw [hx6 k (by omega)]
      exact vl_0
theorem hx_tail {f : Nat → Int} {k : Nat} (h : ∀ i, k ≤ i → f i = 0) : ∀ m : Nat, hx f (k + m) = 16 ^ m * hx f k
  | 0 => by
    rw [Int.pow_zero, Int.one_mul]
    rfl
  | m + 1 => by
    show 16 * hx f (k + m) + f (k + m) = _
    rw [hx_tail h m, h (k + m) (by omega), Int.pow_succ, Int.add_zero, ← Int.mul_assoc]
    congr 1
    exact Int.mul_comm _ _
theorem pv_shl (he : e ≤ 1) {d : Nat} (hd : d ≤ 6) {c : Vc e} (hc : sup d c) : (Int64.ofInt (pv (shv d c)) <<< ((Int32.ofInt 24).toInt64 &&& 63)).toInt = pv c := by
  have e1 : pv (shv d c) = hx (fun i => vl (c i)) 6 := by
    have h1 := hx_mv (f := fun i => vl (c i)) (k := 6) (by omega)
    rw [show (12 - 6 : Nat) = 6 from rfl] at h1
    rw [← h1]
    unfold pv
    refine hx_congr (fun i hi => ?_)
    unfold shv
    by_cases q : i < 6
    · rw [if_neg (by omega), if_pos q]
      exact vl_0
    · rw [if_neg q]
      by_cases z : i < 6 + d
      · rw [if_pos ⟨by omega, z⟩]
      · rw [if_neg (fun w => z w.2), hc (i - 6) (by omega)]
  have e2 : pv c = 16 ^ 6 * hx (fun i => vl (c i)) 6 := hx_tail (f := fun i => vl (c i)) (k := 6) (fun i hi => by
    show vl (c i) = 0
    rw [hc i (by omega)]
    exact vl_0) 6
  have hr := hx_rng (dv he c) 6
  obtain ⟨a, ha⟩ : ∃ a : Nat, hx (fun i => vl (c i)) 6 = a := ⟨(hx (fun i => vl (c i)) 6).toNat, by omega⟩
  rw [e1, e2, ha]
  rw [ha] at hr
  have h16 : ((16 ^ 6 : Nat) : Int) = 16777216 := by decide
  rw [h16] at hr
  have h1 := lshl_ok (n := a) (k := 24) (by omega) (by omega)
  refine h1.trans ?_
  have h2 : (16 : Int) ^ 6 = 16777216 := by decide
  rw [h2]
  omega
theorem row_gt (he : e ≤ 1) {A B : Nat → Nat → Nat → Kf e} {i0 : Nat} (hi0 : i0 < n) (hbef : ∀ i j, i < i0 → j < n → A 0 i j = B 0 i j) (hgt : pv (rv n B 0 i0) < pv (rv n A 0 i0)) : 0 < fdx (sqA n A) (sqA n B) (2 * (n * n)) := by
  by_cases hz : fdx (sqA n A) (sqA n B) (2 * (n * n)) = 0
  · exfalso
    have : pv (rv n A 0 i0) = pv (rv n B 0 i0) := pv_congr (fun j _ => by
      unfold rv
      by_cases q : i0 < n ∧ j < n
      · rw [if_pos q, if_pos q]
        exact sqA_inj he (fdx_z.mp hz) (by omega) q.1 q.2
      · rw [if_neg q, if_neg q])
    omega
  · obtain ⟨c0, hc0, hb, hne, hval⟩ := fdx_first hz
    obtain ⟨g1, i1, j1, hg1, hi1, hj1, hcc⟩ := ixs hc0
    subst hcc
    rw [sqA_at hi1 hj1, sqA_at hi1 hj1] at hne hval
    have hrow : g1 = 0 ∧ i1 = i0 := by
      by_cases q : g1 = 0 ∧ i1 < i0
      · obtain ⟨rfl, q2⟩ := q
        exact absurd (by rw [hbef i1 j1 q2 hj1]) hne
      · by_cases q2 : g1 = 0 ∧ i1 = i0
        · exact q2
        · exfalso
          have : pv (rv n A 0 i0) = pv (rv n B 0 i0) := pv_congr (fun j _ => by
            unfold rv
            by_cases q : i0 < n ∧ j < n
            · rw [if_pos q, if_pos q]
              apply vl_inj
              have := hb _ (ixlt (n := n) (g := 0) (i := i0) (j := j) (g0 := g1) (i0 := i1) (j0 := j1) q.1 q.2 hi1 (by omega) hg1 (by omega))
              rw [sqA_at q.1 q.2, sqA_at q.1 q.2] at this
              exact this
            · rw [if_neg q, if_neg q])
          omega
    obtain ⟨rfl, rfl⟩ := hrow
    rw [hval]
    have hsame : ∀ j, j < j1 → vl (rv n A 0 i1 j) = vl (rv n B 0 i1 j) := fun j hj => by
      unfold rv
      rw [if_pos ⟨hi1, by omega⟩, if_pos ⟨hi1, by omega⟩]
      have := hb (0 * (n * n) + i1 * n + j) (by omega)
      rw [sqA_at hi1 (by omega), sqA_at hi1 (by omega)] at this
      exact this
    have hA0 : rv n A 0 i1 j1 = A 0 i1 j1 := if_pos ⟨hi1, hj1⟩
    have hB0 : rv n B 0 i1 j1 = B 0 i1 j1 := if_pos ⟨hi1, hj1⟩
    by_cases q : vl (A 0 i1 j1) < vl (B 0 i1 j1)
    · exfalso
      by_cases z : j1 < 12
      · have h1 := hx_lt (dv he (rv n A 0 i1)) (dv he (rv n B 0 i1)) (i := j1) hsame (by rw [hA0, hB0]; exact q) (n := 12) z
        have h2 : pv (rv n A 0 i1) < pv (rv n B 0 i1) := h1
        omega
      · have : pv (rv n A 0 i1) = pv (rv n B 0 i1) := hx_congr (fun j hj => hsame j (by omega))
        omega
    · omega
theorem cod_pre (he : e ≤ 1) {T R : List (Vc e)} (hG : Good n (T ++ R)) {w : Vc e} (hw : spn T w) : cod (T ++ R) w = cod T w := by
  obtain ⟨c1, c2⟩ := cod_spec hw
  refine cod_eq he hG (fun i hi => c1 i (by rw [List.length_append] at hi; omega)) ?_
  refine Eq.trans ?_ c2
  funext i
  unfold cmb
  rw [List.length_append, sK_add]
  have h1 : sK (fun k => cod T w (T.length + k) * (T ++ R).getD (T.length + k) z0 i) R.length = 0 := sK_zero (fun k _ => by
    rw [c1 (T.length + k) (by omega)]
    grind)
  have h2 : sK (fun j => cod T w j * (T ++ R).getD j z0 i) T.length = sK (fun j => cod T w j * T.getD j z0 i) T.length := sK_congr (fun j hj => by rw [getD_appl hj])
  rw [h1, h2]
  grind
theorem sps_pre {A : Nat → Nat → Nat → Kf e} {b : Nat} : ∀ (f : Nat) (T : List (Vc e)) (c : Nat), ∃ R, sps n A b f T c = T ++ R
  | 0, T, c => ⟨[], (List.append_nil T).symm⟩
  | f + 1, T, c => by
    unfold sps
    by_cases q : b + c / 2 < T.length
    · rw [if_pos q]
      obtain ⟨R, hR⟩ := sps_pre f (addv T (cand n A b T c)) (c + 1)
      rw [hR]
      unfold addv
      by_cases z : spn T (cand n A b T c)
      · rw [ifp_t z]
        exact ⟨R, rfl⟩
      · rw [ifp_f z]
        exact ⟨[cand n A b T c] ++ R, by rw [List.append_assoc]⟩
    · rw [if_neg q]
      exact ⟨[], (List.append_nil T).symm⟩
end
