/-! A vector less the vector of a space that is as it at the leading places; one more vector in a space. -/
section
variable {e n N : Nat} {S : Vc e → Prop}
noncomputable def cr (S : Vc e → Prop) (i : Nat) : Vc e := ifp (Lp S i) (crow S i) z0
noncomputable def rds (S : Vc e → Prop) (v : Vc e) : Nat → Vc e
  | 0 => v
  | i + 1 => lc (rds S v i) (-(rds S v i i)) (cr S i)
noncomputable def rd (n : Nat) (S : Vc e → Prop) (v : Vc e) : Vc e := rds S v n
theorem lc_z0 (u : Vc e) (c : Kf e) : lc u c z0 = u := by
  funext i
  unfold lc z0
  grind
theorem cr_in (he : e ≤ 1) (hS : Sub N S) (i : Nat) : S (cr S i) := by
  unfold cr
  by_cases h : Lp S i
  · rw [ifp_t h]
    exact (crow_spec he hS h).1
  · rw [ifp_f h]
    exact hS.1
theorem cr_sup (he : e ≤ 1) (hS : Sub N S) (i : Nat) : sup N (cr S i) := hS.2.2 _ (cr_in he hS i)
theorem cr_eq0 (he : e ≤ 1) (hS : Sub N S) {i : Nat} : cr S i = z0 ↔ ¬ Lp S i := by
  unfold cr
  by_cases h : Lp S i
  · rw [ifp_t h]
    exact ⟨fun q => absurd q (fp_ne (crow_spec he hS h).2.1), fun q => absurd h q⟩
  · rw [ifp_f h]
    exact ⟨fun _ => h, fun _ => rfl⟩
theorem rds_at (he : e ≤ 1) (hS : Sub N S) (v : Vc e) : ∀ (m j : Nat), Lp S j → rds S v m j = if j < m then 0 else v j
  | 0, j, _ => by rw [if_neg (Nat.not_lt_zero j)]; rfl
  | m + 1, j, hj => by
    show rds S v m j + -(rds S v m m) * cr S m j = _
    have ih := rds_at he hS v m j hj
    by_cases hm : Lp S m
    · have hs := crow_spec he hS hm
      have e1 : cr S m = crow S m := ifp_t hm
      rw [e1]
      by_cases q : j = m
      · subst q
        rw [hs.2.2.1, if_pos (by omega)]
        grind
      · rw [hs.2.2.2 j q hj, ih]
        by_cases q2 : j < m
        · rw [if_pos q2, if_pos (by omega)]
          grind
        · rw [if_neg q2, if_neg (by omega)]
          grind
    · have e1 : cr S m = z0 := ifp_f hm
      have q : j ≠ m := fun q => hm (q ▸ hj)
      rw [e1, ih]
      unfold z0
      by_cases q2 : j < m
      · rw [if_pos q2, if_pos (by omega)]
        grind
      · rw [if_neg q2, if_neg (by omega)]
        grind
theorem rds_in (he : e ≤ 1) (hS : Sub N S) (v : Vc e) : ∀ m : Nat, S (lc (rds S v m) (-1) v)
  | 0 => by
    show S (lc v (-1) v)
    rw [lc_neg]
    exact hS.1
  | m + 1 => by
    have h1 := hS.2.1 _ _ (-(rds S v m m)) (rds_in he hS v m) (cr_in he hS m)
    have e1 : lc (lc (rds S v m) (-1) v) (-(rds S v m m)) (cr S m) = lc (rds S v (m + 1)) (-1) v := by
      funext j
      show rds S v m j + -1 * v j + -(rds S v m m) * cr S m j = rds S v m j + -(rds S v m m) * cr S m j + -1 * v j
      grind
    rw [e1] at h1
    exact h1
theorem rds_sup (he : e ≤ 1) (hS : Sub N S) {v : Vc e} (hv : sup N v) : ∀ m : Nat, sup N (rds S v m)
  | 0 => hv
  | m + 1 => sup_lc (rds_sup he hS hv m) (cr_sup he hS m)
theorem rd_uniq (hS : Sub N S) {v r s : Vc e} (h1 : S (lc r (-1) v)) (h2 : ∀ j, Lp S j → r j = 0) (h3 : S (lc s (-1) v)) (h4 : ∀ j, Lp S j → s j = 0) : r = s := by
  have h5 := hS.2.1 _ _ (-1) h1 h3
  have e1 : lc (lc r (-1) v) (-1) (lc s (-1) v) = lc r (-1) s := by
    funext j
    unfold lc
    grind
  rw [e1] at h5
  have h6 := Lp_eq hS h5 hS.1 (fun j hj => by
    show r j + -1 * s j = (z0 : Vc e) j
    rw [h2 j hj, h4 j hj]
    unfold z0
    grind)
  funext j
  have := congrFun h6 j
  unfold lc z0 at this
  grind
theorem rd_in (he : e ≤ 1) (hS : Sub N S) (v : Vc e) : S (lc (rd n S v) (-1) v) := rds_in he hS v n
theorem rd_at (he : e ≤ 1) (hS : Sub N S) (hL : ∀ i, Lp S i → i < n) (v : Vc e) {j : Nat} (hj : Lp S j) : rd n S v j = 0 := by
  unfold rd
  rw [rds_at he hS v n j hj, if_pos (hL j hj)]
theorem rd_eq (he : e ≤ 1) (hS : Sub N S) (hL : ∀ i, Lp S i → i < n) {v r : Vc e} (h1 : S (lc r (-1) v)) (h2 : ∀ j, Lp S j → r j = 0) : rd n S v = r := rd_uniq hS (rd_in he hS v) (fun _ hj => rd_at he hS hL v hj) h1 h2
theorem rd_z0 (he : e ≤ 1) (hS : Sub N S) (hL : ∀ i, Lp S i → i < n) {v : Vc e} : rd n S v = z0 ↔ S v := by
  constructor
  · intro h
    have h1 := rd_in (n := n) he hS v
    rw [h] at h1
    have h2 := sub_sc hS h1 (-1)
    have e1 : (fun i => -1 * lc z0 (-1) v i) = v := by
      funext i
      unfold lc z0
      grind
    rw [e1] at h2
    exact h2
  · intro h
    refine rd_eq he hS hL ?_ (fun _ _ => rfl)
    have h2 := sub_sc hS h (-1)
    have e1 : lc z0 (-1) v = fun i => -1 * v i := by
      funext i
      unfold lc z0
      grind
    rw [e1]
    exact h2
theorem wo_rd (he : e ≤ 1) (hS : Sub n S) (v : Vc e) : wo n S v = rd n S v := by
  have hL : ∀ i, Lp S i → i < n := fun i hi => Lp_lt hS hi
  have key : ∀ r : Nat, r ≤ dm n S → S (lc (wos S v r) (-1) v) ∧ ∀ j, Lp S j → wos S v r j = if cnt (Lp S) j < r then 0 else v j := by
    intro r
    induction r with
    | zero =>
      intro _
      refine ⟨?_, fun j hj => ?_⟩
      · show S (lc v (-1) v)
        rw [lc_neg]
        exact hS.1
      · rw [if_neg (Nat.not_lt_zero _)]
        rfl
    | succ r ih =>
      intro hr
      obtain ⟨h1, h2⟩ := ih (by omega)
      obtain ⟨p1, p2⟩ := pl_spec (show r < cnt (Lp S) n from hr)
      have hs := crow_spec he hS p1
      refine ⟨?_, fun j hj => ?_⟩
      · have h3 := hS.2.1 _ _ (-(v (pl (Lp S) r))) h1 hs.1
        have e1 : lc (lc (wos S v r) (-1) v) (-(v (pl (Lp S) r))) (crow S (pl (Lp S) r)) = lc (wos S v (r + 1)) (-1) v := by
          funext j
          show wos S v r j + -1 * v j + -(v (pl (Lp S) r)) * crow S (pl (Lp S) r) j = wos S v r j + -(v (pl (Lp S) r)) * crow S (pl (Lp S) r) j + -1 * v j
          grind
        rw [e1] at h3
        exact h3
      · show wos S v r j + -(v (pl (Lp S) r)) * crow S (pl (Lp S) r) j = _
        rw [h2 j hj]
        by_cases q : j = pl (Lp S) r
        · have e1 : cnt (Lp S) j = r := by rw [q, p2]
          rw [if_neg (by omega), if_pos (by omega), q, hs.2.2.1]
          grind
        · rw [hs.2.2.2 j q hj]
          have e1 : cnt (Lp S) j ≠ r := fun z => q (by rw [← z, pl_cnt hj])
          by_cases q2 : cnt (Lp S) j < r
          · rw [if_pos q2, if_pos (by omega)]
            grind
          · rw [if_neg q2, if_neg (by omega)]
            grind
  obtain ⟨h1, h2⟩ := key (dm n S) (Nat.le_refl _)
  refine (rd_eq he hS hL h1 (fun j hj => ?_)).symm
  show wos S v (dm n S) j = 0
  rw [h2 j hj, if_pos (show cnt (Lp S) j < dm n S from cnt_lt (hL j hj) hj)]
theorem cnt_cut {P : Nat → Prop} {n : Nat} (h : ∀ i, P i → i < n) : ∀ {m : Nat}, n ≤ m → cnt P m = cnt P n
  | 0, hm => by rw [show n = 0 by omega]
  | m + 1, hm => by
    by_cases q : n = m + 1
    · rw [q]
    · show cnt P m + ifp (P m) 1 0 = cnt P n
      rw [cnt_cut h (by omega), ifp_f (fun z => by have := h m z; omega)]
      omega
theorem good_12 {T : List (Vc e)} (hT : ∀ x ∈ T, sup n x) (hn : n ≤ 12) : Good n T ↔ Good 12 T := by
  have e1 : dm 12 (spn T) = dm n (spn T) := cnt_cut (fun i hi => Lp_lt (spn_sub hT) hi) hn
  unfold Good
  rw [e1]
  exact ⟨fun h => ⟨fun x hx => fun i hi => hT x hx i (by omega), h.2⟩, fun h => ⟨hT, h.2⟩⟩
/-- the space of one more vector -/
theorem cr_ext (he : e ≤ 1) (hS : Sub N S) (hL : ∀ i, Lp S i → i < n) {v : Vc e} (hv : sup N v) {i : Nat} (hi : fp (rd n S v) i) : (∀ j, Lp (ext S v) j ↔ Lp S j ∨ j = i) ∧ ∀ j, cr (ext S v) j = if j = i then (fun k => rd n S v i * rd n S v k) else lc (cr S j) (-(cr S j i)) (fun k => rd n S v i * rd n S v k) := by
  have hE : Sub N (ext S v) := ext_sub hS hv
  have hin : ext S v (rd n S v) := ⟨-1, rd_in he hS v⟩
  have hr0 : ∀ j, Lp S j → rd n S v j = 0 := fun j hj => rd_at he hS hL v hj
  have hni : ¬ Lp S i := fun q => hi.1 (hr0 i q)
  have hnv : ¬ S v := fun q => fp_ne hi ((rd_z0 he hS hL).mpr q)
  obtain ⟨i2, -, h2, h3⟩ := Lp_ext he hS hv hnv
  have e2 : i = i2 := ((h3 i).mp ⟨_, hin, hi⟩).resolve_left hni
  subst e2
  refine ⟨h3, ?_⟩
  have hsq := sq1 he hi.1
  have hrin : ext S v (fun k => rd n S v i * rd n S v k) := sub_sc hE hin _
  intro j
  by_cases q : j = i
  · subst q
    rw [if_pos rfl]
    have : cr (ext S v) j = crow (ext S v) j := ifp_t ((h3 j).mpr (Or.inr rfl))
    rw [this]
    refine crow_eq he hE ⟨hrin, ⟨?_, fun k hk => ?_⟩, hsq, fun k hk hLk => ?_⟩
    · show rd n S v j * rd n S v j ≠ 0
      rw [hsq]
      exact k10
    · show rd n S v j * rd n S v k = 0
      rw [hi.2 k hk]
      grind
    · show rd n S v j * rd n S v k = 0
      rw [hr0 k (((h3 k).mp hLk).resolve_right hk)]
      grind
  · rw [if_neg q]
    by_cases hj : Lp S j
    · have e1 : cr (ext S v) j = crow (ext S v) j := ifp_t ((h3 j).mpr (Or.inl hj))
      have e2 : cr S j = crow S j := ifp_t hj
      have hs := crow_spec he hS hj
      rw [e1, e2]
      refine crow_eq he hE ⟨hE.2.1 _ _ _ (ext_old hs.1) hrin, ⟨?_, fun k hk => ?_⟩, ?_, fun k hk hLk => ?_⟩
      · show crow S j j + -(crow S j i) * (rd n S v i * rd n S v j) ≠ 0
        rw [hs.2.2.1, hr0 j hj]
        intro z
        apply k10 (e := e)
        grind
      · show crow S j k + -(crow S j i) * (rd n S v i * rd n S v k) = 0
        rw [hs.2.1.2 k hk]
        rcases Nat.lt_or_ge i j with z | z
        · rw [hs.2.1.2 i z]
          grind
        · rw [hi.2 k (by omega)]
          grind
      · show crow S j j + -(crow S j i) * (rd n S v i * rd n S v j) = 1
        rw [hs.2.2.1, hr0 j hj]
        grind
      · show crow S j k + -(crow S j i) * (rd n S v i * rd n S v k) = 0
        by_cases z : k = i
        · subst z
          rw [hsq]
          grind
        · have hk2 := ((h3 k).mp hLk).resolve_right z
          rw [hs.2.2.2 k hk hk2, hr0 k hk2]
          grind
    · have e1 : cr (ext S v) j = z0 := ifp_f (fun z => ((h3 j).mp z).elim hj q)
      have e2 : cr S j = z0 := ifp_f hj
      rw [e1, e2]
      funext k
      unfold lc z0
      grind
/-- the list with one more vector, if it enlarges the space at the first n places -/
noncomputable def tkv (n : Nat) (T : List (Vc e)) (v : Vc e) : List (Vc e) := ifp (∃ i, i < n ∧ fp (rd n (spn T) v) i) (T ++ [v]) T
theorem tkv_add (he : e ≤ 1) {T : List (Vc e)} (hT : ∀ x ∈ T, sup n x) {v : Vc e} (hv : sup n v) : tkv n T v = addv T v := by
  have hS : Sub n (spn T) := spn_sub hT
  have hL : ∀ i, Lp (spn T) i → i < n := fun i hi => Lp_lt hS hi
  unfold tkv addv
  by_cases h : spn T v
  · rw [ifp_t h, ifp_f]
    rintro ⟨i, -, hi⟩
    exact fp_ne hi ((rd_z0 he hS hL).mpr h)
  · rw [ifp_f h, ifp_t]
    exact fp_ex (rds_sup he hS hv n) (fun q => h ((rd_z0 he hS hL).mp q))
theorem sps_full (he : e ≤ 1) {A : Nat → Nat → Nat → Kf e} {b : Nat} : ∀ {f : Nat} {T : List (Vc e)} {c : Nat}, Good n T → T.length = n → sps n A b f T c = T
  | 0, _, _, _, _ => rfl
  | f + 1, T, c, hG, hl => by
    unfold sps
    by_cases hq : b + c / 2 < T.length
    · rw [if_pos hq]
      have e1 : addv T (cand n A b T c) = T := by
        unfold addv
        by_cases hs : spn T (cand n A b T c)
        · rw [ifp_t hs]
        · have := hG.len' he cand_sup hs
          omega
      rw [e1]
      exact sps_full he hG hl
    · rw [if_neg hq]
end
