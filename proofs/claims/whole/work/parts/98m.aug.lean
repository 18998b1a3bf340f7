/-! A list whose vectors carry their numbers. -/
section
variable {e n : Nat}
def auv (x : Vc e) (i : Nat) : Vc e := lc x 1 (un (6 + i))
def au (T : List (Vc e)) : List (Vc e) := (List.range T.length).map (fun i => auv (T.getD i z0) i)
theorem au_len {T : List (Vc e)} : (au T).length = T.length := by
  unfold au
  rw [List.length_map, List.length_range]
theorem au_app {T : List (Vc e)} {x : Vc e} : au (T ++ [x]) = au T ++ [auv x T.length] := by
  unfold au
  rw [List.length_append, List.length_singleton, List.range_succ, List.map_append, List.map_singleton, getD_new]
  congr 1
  exact List.map_congr_left (fun i hi => by rw [getD_app (List.mem_range.mp hi)])
theorem au_getD {T : List (Vc e)} {i : Nat} (hi : i < T.length) : (au T).getD i z0 = auv (T.getD i z0) i := by
  unfold au
  rw [rng_getD hi]
def shv (d : Nat) (c : Vc e) : Vc e := fun k => if 6 ≤ k ∧ k < 6 + d then c (k - 6) else 0
theorem cmb_au {T : List (Vc e)} {c : Vc e} : cmb (au T) c = lc (cmb T c) 1 (shv T.length c) := by
  funext k
  show cmb ((List.range T.length).map (fun i => auv (T.getD i z0) i)) c k = _
  rw [cmb_rng]
  have e1 : sK (fun i => c i * auv (T.getD i z0) i k) T.length = sK (fun i => c i * T.getD i z0 k + 1 * (c i * (un (6 + i) : Vc e) k)) T.length := sK_congr (fun i _ => by
    unfold auv lc
    grind)
  rw [e1, sK_lc]
  show cmb T c k + 1 * sK (fun i => c i * (un (6 + i) : Vc e) k) T.length = cmb T c k + 1 * shv T.length c k
  congr 2
  unfold shv
  by_cases q : 6 ≤ k ∧ k < 6 + T.length
  · rw [if_pos q]
    refine sK_one' (k - 6) (by omega) (fun i _ hi => ?_) ?_
    · unfold un
      rw [if_neg (by omega)]
      grind
    · unfold un
      rw [if_pos (by omega)]
      grind
  · rw [if_neg q]
    refine sK_zero (fun i hi => ?_)
    unfold un
    rw [if_neg (by omega)]
    grind
theorem au_sup (hn : n ≤ 6) {T : List (Vc e)} (hT : ∀ x ∈ T, sup n x) (hl : T.length ≤ 6) : ∀ x ∈ au T, sup 12 x := fun x hx => by
  obtain ⟨i, hi, rfl⟩ := List.mem_map.mp hx
  have h1 := List.mem_range.mp hi
  intro j hj
  show T.getD i z0 j + 1 * (un (6 + i) : Vc e) j = 0
  rw [mem_sup hT i j (by omega)]
  unfold un
  rw [if_neg (by omega)]
  grind
theorem au_Lp (he : e ≤ 1) (hn : n ≤ 6) {T : List (Vc e)} (hG : Good n T) {j : Nat} (h : Lp (spn (au T)) j) : Lp (spn T) j ∧ j < n := by
  obtain ⟨w, w1, w2, w3⟩ := h
  obtain ⟨c, c1, rfl⟩ := (spn_cmb _ _).mp w1
  rw [au_len] at c1
  have hsub := hG.sub
  have hin : spn T (cmb T c) := (spn_cmb _ _).mpr ⟨c, c1, rfl⟩
  have hlow : ∀ k, k < 6 → cmb (au T) c k = cmb T c k := fun k hk => by
    rw [cmb_au]
    show cmb T c k + 1 * shv T.length c k = _
    unfold shv
    rw [if_neg (by omega)]
    grind
  by_cases q : j < 6
  · have h1 : Lp (spn T) j := ⟨cmb T c, hin, by rw [← hlow j q]; exact w2, fun k hk => by rw [← hlow k (by omega)]; exact w3 k hk⟩
    exact ⟨h1, Lp_lt hsub h1⟩
  · exfalso
    have h0 : cmb T c = z0 := by
      refine sup_ext (hsub.2.2 _ hin) sup_z0 (fun k hk => ?_)
      rw [← hlow k (by omega)]
      exact w3 k (by omega)
    have hc := cmb_z he T hG c h0
    apply w2
    rw [cmb_au, h0]
    show (z0 : Vc e) j + 1 * shv T.length c j = 0
    unfold shv z0
    by_cases z : 6 ≤ j ∧ j < 6 + T.length
    · rw [if_pos z, hc _ (by omega)]
      grind
    · rw [if_neg z]
      grind
theorem rd_au (he : e ≤ 1) (hn : n ≤ 6) {T : List (Vc e)} (hG : Good n T) {v c : Vc e} (hc1 : sup T.length c) (hc : cmb T c = lc v (-1) (rd n (spn T) v)) : rd n (spn (au T)) v = lc (rd n (spn T) v) (-1) (shv T.length c) := by
  have hlen : T.length ≤ 6 := Nat.le_trans hG.len hn
  have hS : Sub 12 (spn (au T)) := spn_sub (au_sup hn hG.1 hlen)
  refine rd_eq he hS (fun i hi => (au_Lp he hn hG hi).2) ?_ (fun j hj => ?_)
  · have h1 : spn (au T) (cmb (au T) c) := (spn_cmb _ _).mpr ⟨c, by rw [au_len]; exact hc1, rfl⟩
    have h2 := sub_sc hS h1 (-1)
    have e1 : (fun i => -1 * cmb (au T) c i) = lc (lc (rd n (spn T) v) (-1) (shv T.length c)) (-1) v := by
      funext i
      rw [cmb_au, hc]
      unfold lc
      grind
    rw [e1] at h2
    exact h2
  · obtain ⟨h1, h2⟩ := au_Lp he hn hG hj
    show rd n (spn T) v j + -1 * shv T.length c j = 0
    rw [rd_at he hG.sub (fun i hi => Lp_lt hG.sub hi) v h1]
    unfold shv
    rw [if_neg (by omega)]
    grind
theorem au_c (he : e ≤ 1) {T : List (Vc e)} (hG : Good n T) (v : Vc e) : ∃ c, sup T.length c ∧ cmb T c = lc v (-1) (rd n (spn T) v) := by
  have h1 := sub_sc hG.sub (rd_in (n := n) he hG.sub v) (-1)
  have e1 : (fun i => -1 * lc (rd n (spn T) v) (-1) v i) = lc v (-1) (rd n (spn T) v) := by
    funext i
    unfold lc
    grind
  rw [e1] at h1
  exact (spn_cmb _ _).mp h1
/-- what is left of a vector: nothing at the first places if it is in the span, and its coordinates, negated, at the others -/
theorem rd_au_in (he : e ≤ 1) (hn : n ≤ 6) {T : List (Vc e)} (hG : Good n T) {v : Vc e} (hv : spn T v) : rd n (spn (au T)) v = lc z0 (-1) (shv T.length (cod T v)) := by
  have h0 : rd n (spn T) v = z0 := (rd_z0 he hG.sub (fun i hi => Lp_lt hG.sub hi)).mpr hv
  obtain ⟨c1, c2⟩ := cod_spec hv
  rw [rd_au he hn hG (c := cod T v) c1 (by rw [c2, h0, lc_z0]), h0]
theorem rd_au_low (he : e ≤ 1) (hn : n ≤ 6) {T : List (Vc e)} (hG : Good n T) {v : Vc e} {k : Nat} (hk : k < 6) : rd n (spn (au T)) v k = rd n (spn T) v k := by
  obtain ⟨c, c1, c2⟩ := au_c he hG v
  rw [rd_au he hn hG c1 c2]
  show rd n (spn T) v k + -1 * shv T.length c k = _
  unfold shv
  rw [if_neg (by omega)]
  grind
theorem au_take (he : e ≤ 1) (hn : n ≤ 6) {T : List (Vc e)} (hG : Good n T) {v : Vc e} (hv : sup n v) (hs : ¬ spn T v) : tkv n (au T) (auv v T.length) = au (T ++ [v]) := by
  have hlen : T.length ≤ 6 := Nat.le_trans hG.len hn
  have hS : Sub 12 (spn (au T)) := spn_sub (au_sup hn hG.1 hlen)
  have hL : ∀ i, Lp (spn (au T)) i → i < n := fun i hi => (au_Lp he hn hG hi).2
  have hr : rd n (spn (au T)) (auv v T.length) = lc (rd n (spn (au T)) v) 1 (un (6 + T.length)) := by
    refine rd_eq he hS hL ?_ (fun j hj => ?_)
    · have h1 := rd_in (n := n) he hS v
      have e1 : lc (rd n (spn (au T)) v) (-1) v = lc (lc (rd n (spn (au T)) v) 1 (un (6 + T.length))) (-1) (auv v T.length) := by
        funext i
        unfold auv lc
        grind
      rw [e1] at h1
      exact h1
    · have h2 := hL j hj
      show rd n (spn (au T)) v j + 1 * (un (6 + T.length) : Vc e) j = 0
      rw [rd_at he hS hL v hj]
      unfold un
      rw [if_neg (by omega)]
      grind
  have hne : rd n (spn T) v ≠ z0 := fun q => hs ((rd_z0 he hG.sub (fun i hi => Lp_lt hG.sub hi)).mp q)
  have hsup : sup n (rd n (spn T) v) := rds_sup he hG.sub hv n
  obtain ⟨i, i1, i2⟩ := fp_ex hsup hne
  have hat : ∀ k, k < 6 → rd n (spn (au T)) (auv v T.length) k = rd n (spn T) v k := fun k hk => by
    rw [hr]
    show rd n (spn (au T)) v k + 1 * (un (6 + T.length) : Vc e) k = _
    rw [rd_au_low he hn hG hk]
    unfold un
    rw [if_neg (by omega)]
    grind
  unfold tkv
  rw [ifp_t ⟨i, i1, by rw [hat i (by omega)]; exact i2.1, fun j hj => by rw [hat j (by omega)]; exact i2.2 j hj⟩, au_app]
end
