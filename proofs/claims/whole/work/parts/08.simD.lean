/-! Instructions that make cells. -/
theorem tot_app (σ τ : Sh) : tot (σ ++ τ) = tot σ + tot τ := by
  unfold tot
  rw [List.map_append, List.sum_append]
def adn {α : Type} (ad : Nat → α) (n : Nat) (q : α) : Nat → α := fun k => if k = n then q else ad k
theorem adn_lt {α : Type} {ad : Nat → α} {n k : Nat} {q : α} (h : k < n) : adn ad n q k = ad k := if_neg (by omega)
theorem adn_eq {α : Type} {ad : Nat → α} {n : Nat} {q : α} : adn ad n q n = q := if_pos rfl
theorem arc_ad {ad ad' : Nat → Nat} {ac ac' : Nat → ClassId} {k kd ln n : Nat} {row : Int → Int} (ha : ∀ j, j < n → ad' j = ad j) (hc : ac' k = ac k) (hr : ∀ j : Nat, j < ln → wfz n (tgk kd j) (row j)) : arc ad' ac' k kd ln row = arc ad ac k kd ln row := by
  unfold arc
  by_cases h0 : kd < 20
  · rw [if_pos h0, if_pos h0]
    congr 2
    apply List.map_congr_left
    intro j hj
    have h1 := hr j (List.mem_range.mp hj)
    unfold tgk at h1
    rw [if_pos h0] at h1
    by_cases h2 : tgf kd j = 2
    · show cv ad' 0 (tgf kd j, row j) = cv ad 0 (tgf kd j, row j)
      rw [h2]
      show va_rf (rfo ad' (row j)) = va_rf (rfo ad (row j))
      rw [rfo_ad (h1.2.2 h2).2 ha]
    · show cv ad' 0 (tgf kd j, row j) = cv ad 0 (tgf kd j, row j)
      unfold cv
      dsimp only
      rw [if_neg h2, if_neg h2]
  · rw [if_neg h0, if_neg h0]
    by_cases h1 : kd = 20
    · rw [if_pos h1, if_pos h1, hc]
    · rw [if_neg h1, if_neg h1]
      by_cases h2 : kd = 21
      · rw [if_pos h2, if_pos h2, hc]
      · rw [if_neg h2, if_neg h2, hc]
        congr 7
        funext j
        by_cases hj : j < ln
        · rw [if_pos hj, if_pos hj]
          have h3 := hr j hj
          unfold tgk at h3
          rw [if_neg h0, if_neg h1, if_neg h2] at h3
          exact rfo_ad (h3.2.2 rfl).2 ha
        · rw [if_neg hj, if_neg hj]
theorem nwc_lt {σ : Sh} {M : Mo} {kd k : Nat} (h : k < σ.length) : nwc σ M kd k = M k := by
  funext y
  unfold nwc
  rw [if_neg (by omega)]
theorem nwc_eq {σ : Sh} {M : Mo} {kd : Nat} : nwc σ M kd (σ.length : Int) = fun y => dfv kd y.toNat := by
  funext y
  unfold nwc
  rw [if_pos rfl]
section
variable {p : Program} {l : Launch} {e : Env} {R : Room} {s : State} {m : MethodId} {args : Array Value} {below : List Frame} {meth : Method} {c : Code} {Q : State → Prop} {D : va_G} {base bb : Nat} {o : Option (List Int)} {f n0 s0 : Nat} {ad0 : Nat → Nat} {ac0 : Nat → ClassId}
variable {pc pc' len : Nat} {ls st ls' st' : List AV} {σ σ' : Sh} {M M' : Mo}
theorem wso_new {ad : Nat → Nat} {ac : Nat → ClassId} {kd ln q : Nat} {cA : ClassId} (hw : wfm σ M) : wso (adn ad σ.length q) (adn ac σ.length cA) (σ ++ [(kd, ln)]) (nwc σ M kd) = wso ad ac σ M ++ [(q, arc (adn ad σ.length q) (adn ac σ.length cA) σ.length kd ln (fun y => dfv kd y.toNat))] := by
  unfold wso
  rw [List.length_append, List.length_singleton, List.range_succ, List.map_append]
  congr 1
  · apply List.map_congr_left
    intro k hk
    have hk := List.mem_range.mp hk
    rw [adn_lt hk, sg_app_lt hk, nwc_lt hk]
    congr 1
    exact arc_ad (n := σ.length) (fun j hj => adn_lt hj) (adn_lt hk) (hw k hk)
  · rw [List.map_singleton, sg_app_eq, adn_eq, nwc_eq]
theorem dfv_wf {n kd ln j : Nat} (h : kd < 11 ∧ ln = nfl kd ∨ 20 ≤ kd ∧ kd ≤ 24) (hj : j < ln) : wfz n (tgk kd j) (dfv kd j) := by
  unfold tgk dfv
  rcases h with ⟨h, h2⟩ | h
  · rw [if_pos (by omega), if_pos h]
    by_cases h3 : tgf kd j = 2
    · rw [if_pos h3, h3]
      exact ⟨fun q => absurd q (by decide), fun q => absurd q (by decide), fun _ => ⟨by omega, by omega⟩⟩
    · rw [if_neg h3]
      exact ⟨fun q => by omega, fun q => by omega, fun q => absurd q h3⟩
  · rw [if_neg (show ¬ kd < 20 by omega), if_neg (show ¬ kd < 11 by omega)]
    by_cases h1 : kd = 20
    · rw [if_pos h1, if_pos (by omega)]
      exact ⟨fun q => by omega, fun q => by omega, fun q => by omega⟩
    · rw [if_neg h1]
      by_cases h2 : kd = 21
      · rw [if_pos h2, if_pos (by omega)]
        exact ⟨fun q => by omega, fun q => by omega, fun q => by omega⟩
      · rw [if_neg h2, if_neg (by omega)]
        exact ⟨fun q => by omega, fun q => by omega, fun q => ⟨by omega, by omega⟩⟩
/-- a new cell -/
theorem Ok.mk1 {H H1 : Heap} {locs : List Loc} {cells slots : Nat} {lsm : Array Slot} {ad : Nat → Nat} {ac : Nat → ClassId} {kd ln q : Nat} {cA : ClassId} (h : Ok D base bb o f n0 s0 ad0 ac0 s H locs cells slots lsm ls st σ M ad ac) (hkd : kd < 11 ∧ ln = nfl kd ∨ 20 ≤ kd ∧ kd ≤ 24)
    (hP : va_P D vwCl (wso ad ac σ M ++ [(q, arc (adn ad σ.length q) (adn ac σ.length cA) σ.length kd ln (fun y => dfv kd y.toNat))]) H1) (hD : va_D (fun q => base ≤ q) (wso ad ac σ M ++ [(q, arc (adn ad σ.length q) (adn ac σ.length cA) σ.length kd ln (fun y => dfv kd y.toNat))])) (hS : va_S (fun q => base ≤ q) s.heap H1 locs)
    (hty : ∀ ty, aty kd = some ty → ArrOfT s cA ty ∧ va_RA s cA ty) (hst : ∀ v ∈ st', okv o (σ.length + 1) v ∧ v.1 ≠ 9) : Ok D base bb o f n0 s0 ad0 ac0 s H1 locs (cells + 1) (slots + ln) lsm ls st' (σ ++ [(kd, ln)]) (nwc σ M kd) (adn ad σ.length q) (adn ac σ.length cA) := by
  obtain ⟨⟨w1, w2, w3, w4, w5⟩, h2, h3, h4, h5, h6, h7, h8⟩ := h
  have hlen : (σ ++ [(kd, ln)]).length = σ.length + 1 := by simp
  rw [← wso_new w4] at hP hD
  refine ⟨⟨hP, hD, ?_, ?_, ?_⟩, hS, ?_, ?_, ?_, ?_, ?_, ?_⟩
  · intro k hk ty ht
    rw [hlen] at hk
    by_cases e : k = σ.length
    · subst e
      rw [sg_app_eq] at ht
      rw [adn_eq]
      exact hty ty ht
    · have hk : k < σ.length := by omega
      rw [sg_app_lt hk] at ht
      rw [adn_lt hk]
      exact w3 k hk ty ht
  · intro k hk j hj
    rw [hlen] at hk ⊢
    by_cases e : k = σ.length
    · subst e
      rw [sg_app_eq] at hj ⊢
      rw [nwc_eq]
      dsimp only
      rw [Int.toNat_natCast]
      exact dfv_wf hkd hj
    · have hk : k < σ.length := by omega
      rw [sg_app_lt hk] at hj ⊢
      rw [nwc_lt hk]
      exact wfz_mono (w4 k hk j hj) (by omega)
  · intro k hk
    rw [hlen] at hk
    by_cases e : k = σ.length
    · subst e
      rw [sg_app_eq]
      exact hkd
    · have hk : k < σ.length := by omega
      rw [sg_app_lt hk]
      exact w5 k hk
  · refine ⟨h3.1, h3.2.1, h3.2.2.1, fun i v hv h9 => ?_⟩
    rw [cv_ad (h4 v (List.mem_of_getElem? hv)) (fun k hk => adn_lt hk)]
    exact h3.2.2.2 i v hv h9
  · intro v hv
    rw [hlen]
    exact okv_mono (h4 v hv) (by omega)
  · rw [hlen]
    exact hst
  · rw [hlen]
    omega
  · rw [tot_app]
    show slots + ln + s0 = tot σ + (ln + 0)
    omega
  · intro k hk
    have : k < σ.length := by omega
    rw [adn_lt this, adn_lt this]
    exact h8 k hk
theorem map_cv {n : Nat} {ad ad' : Nat → Nat} {st : List AV} (h : ∀ v ∈ st, okv o n v ∧ v.1 ≠ 9) (ha : ∀ k, k < n → ad' k = ad k) : st.map (cv ad' bb) = st.map (cv ad bb) := List.map_congr_left (fun v hv => cv_ad (h v hv).1 ha)
theorem ok_mono {n n' : Nat} {st : List AV} (h : ∀ v ∈ st, okv o n v ∧ v.1 ≠ 9) (hn : n ≤ n') : ∀ v ∈ st, okv o n' v ∧ v.1 ≠ 9 := fun v hv => ⟨okv_mono (h v hv).1 hn, (h v hv).2⟩
/-- the room that is left -/
def Rm (R : Room) (n0 s0 : Nat) (σ' : Sh) : Prop := σ'.length ≤ n0 + R.cells ∧ tot σ' ≤ s0 + R.slots
theorem g_new (C : Cx f o p R s m args meth c base bb D) {n : Nat} (hd : decode (bc f) pc = .ok (.new n, len)) (hR : Rm R n0 s0 σ')
    (h : astep o f pc (.new n) len ls st σ M = some (.inl (pc', ls', st', σ', M'))) (hG : G p l e R s m args below meth c Q D base bb o f n0 s0 ad0 ac0 pc' ls' st' σ' M') : G p l e R s m args below meth c Q D base bb o f n0 s0 ad0 ac0 pc ls st σ M := by
  obtain ⟨hx, hb, hml, hown, hts, -, -, -, -, -, hT, hbs, -⟩ := C
  unfold astep at h
  dsimp only at h
  split at h
  · rename_i hl
    subst hl
    split at h
    · rename_i x hnl
      obtain ⟨rfl, rfl, rfl, rfl, rfl⟩ := nx_inj h
      have f1 := List.find?_some hnl
      have f2 := List.mem_of_find?_eq_some hnl
      simp only [Bool.and_eq_true, beq_iff_eq] at f1
      obtain ⟨g1, g2, g3, g4⟩ := nT_ok x f2
      rw [f1.1, f1.2] at g2
      intro H locs cells slots lsm ad ac hk2
      obtain ⟨r1, r2⟩ := hR
      rw [List.length_append] at r1
      rw [tot_app] at r2
      have r2 : tot σ + (nfl x.2.2.1 + 0) ≤ s0 + R.slots := r2
      have r1 : σ.length + 1 ≤ n0 + R.cells := r1
      have e1 := hk2.2.2.2.2.2.1
      have e2 := hk2.2.2.2.2.2.2.1
      refine va_new hx hb hts (u_in g1) (fty x.2.2.1) (fun j hj => (fty_ok _ (List.mem_range.mpr g1) _ (List.mem_range.mpr hj)).1) hown (hts _ (TG_in g2 rfl)) (hts _ (TG_in g3 rfl)) (hts _ (TG_in g4 rfl)) hT.1 hk2.1.1 hk2.1.2.1 hk2.2.1 (fun q hq => by show base ≤ q; omega) (vw_get2 g1) (fs := (List.range (nfl x.2.2.1)).map (fun j => cv ad 0 (tgf x.2.2.1 j, dfv x.2.2.1 j))) ?_ (by omega) (by omega) hd ?_
      · intro j hj
        unfold vp_V
        rw [List.getD_eq_getElem?_getD, List.getElem?_map, List.getElem?_range hj]
        show _ = cv ad 0 (tgf x.2.2.1 j, dfv x.2.2.1 j)
        unfold dfv
        rw [if_pos g1]
        rcases (fty_ok _ (List.mem_range.mpr g1) _ (List.mem_range.mpr hj)).2.2 with ⟨q1, q2⟩ | ⟨q1, q2⟩
        · rw [q1, q2]
          rfl
        · rw [q1, q2]
          rfl
      · intro q H1 hP hD hS
        have ha : arc (adn ad σ.length q) (adn ac σ.length 0) σ.length x.2.2.1 (nfl x.2.2.1) (fun y => dfv x.2.2.1 y.toNat) = .inr (x.2.2.1, (List.range (nfl x.2.2.1)).map (fun j => cv ad 0 (tgf x.2.2.1 j, dfv x.2.2.1 j))) := by
          rw [arc_o g1]
          congr 2
          apply List.map_congr_left
          intro j hj
          rw [Int.toNat_natCast]
          have h1 := dfv_wf (n := 0) (Or.inl ⟨g1, rfl⟩) (List.mem_range.mp hj)
          unfold tgk at h1
          rw [if_pos (by omega)] at h1
          by_cases h2 : tgf x.2.2.1 j = 2
          · rw [h2]
            show va_rf (rfo _ _) = va_rf (rfo _ _)
            rw [rfo_ad (h1.2.2 h2).2 (fun k hk => absurd hk (by omega))]
          · unfold cv
            dsimp only
            rw [if_neg h2, if_neg h2]
        rw [← ha] at hP hD
        have kk := hG H1 locs (cells + 1) (slots + nfl x.2.2.1) lsm _ _ (hk2.mk1 (Or.inl ⟨g1, rfl⟩) hP hD hS (fun ty ht => by
          unfold aty at ht
          rw [if_neg (by omega), if_neg (by omega), if_neg (by omega), if_neg (by omega), if_neg (by omega)] at ht
          cases ht) (ok_c1 (okv_r ⟨by omega, by omega⟩) (by simp) (ok_mono hk2.sto (by omega))))
        rw [List.map_cons, cv2 _ _ (by omega), Int.toNat_natCast, adn_eq, map_cv hk2.sto (fun k hk => adn_lt hk)] at kk
        exact kk
    · cases h
  · cases h
end
