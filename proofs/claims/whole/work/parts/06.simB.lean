/-! The heap's instructions. -/
theorem TG_in {p : Nat} {w : Cond} (h : atp p = some w) (hg : goodWord w = true) : w ∈ TG := List.mem_filter.mpr ⟨atp_in h, hg⟩
theorem vw_get {ci : Nat} (h : ci < 11) : vwCl[ci]? = some (vwCl.getD ci ("", TX0, 0)) := by
  rw [List.getD_eq_getElem?_getD, List.getElem?_eq_getElem (by rw [cl_len]; exact h)]
  rfl
theorem vw_get2 {ci : Nat} (h : ci < 11) : vwCl[ci]? = some (cn ci, fdt ci, nfl ci) := by
  rw [vw_get h]
  have h1 := (cl_ok ci (List.mem_range.mpr h)).1
  show some ((vwCl.getD ci ("", TX0, 0)).1, (vwCl.getD ci ("", TX0, 0)).2.1, (vwCl.getD ci ("", TX0, 0)).2.2) = _
  rw [h1]
  rfl
/-- the words of a class's fields -/
theorem lay_in : ∀ ci ∈ List.range 11, ∀ k ∈ List.range (nfl ci), atp ((lyL.getD ci []).getD k 0) = some (u_lay (cn ci) (fdt ci) k) := by decide +kernel
theorem u_in {ci : Nat} (h : ci < 11) : ∀ w ∈ u_ws (cn ci) (fdt ci) (nfl ci), w ∈ TG := by
  intro w hw
  obtain ⟨k, hk, rfl⟩ := List.mem_map.mp hw
  have hp := lay_in ci (List.mem_range.mpr h) k hk
  refine TG_in hp ?_
  unfold u_lay
  split <;> rfl
def fty (ci k : Nat) : FieldType := (parseFieldDescriptor (fdt ci k).2.2.1).getD .int
theorem fty_ok : ∀ ci ∈ List.range 11, ∀ k ∈ List.range (nfl ci), parseFieldDescriptor (fdt ci k).2.2.1 = some (fty ci k) ∧ (fdt ci k).1 = cn ci ∧ (tgf ci k = 0 ∧ fty ci k = .int ∨ tgf ci k = 2 ∧ (defaultValue (fty ci k) = .null)) := by decide +kernel
theorem fnm_ok : ∀ ci ∈ List.range 11, ∀ a ∈ List.range (nfl ci), ∀ b ∈ List.range (nfl ci), a ≠ b → (fdt ci a).2.1 ≠ (fdt ci b).2.1 := by decide +kernel
theorem okv_wfz {o : Option (List Int)} {n t : Nat} {z : Int} (h : wfz n t z) (ht : t ≤ 2) (h2 : t = 2 → 0 ≤ z) : okv o n (t, z) := ⟨h, h2, fun q => by have q : t = 4 := q; omega, Or.inl ht⟩
theorem cv_bb {ad : Nat → Nat} {b b' : Nat} {v : AV} (h : v.1 ≤ 2) : cv ad b v = cv ad b' v := by
  obtain ⟨t, z⟩ := v
  have h : t ≤ 2 := h
  rcases (show t = 0 ∨ t = 1 ∨ t = 2 by omega) with rfl | rfl | rfl <;> rfl
theorem arc_o {ad : Nat → Nat} {ac : Nat → ClassId} {k kd ln : Nat} {row : Int → Int} (h : kd < 11) : arc ad ac k kd ln row = .inr (kd, (List.range ln).map (fun j => cv ad 0 (tgf kd j, row j))) := by
  unfold arc
  rw [if_pos (by omega)]
theorem arc_i {ad : Nat → Nat} {ac : Nat → ClassId} {k ln : Nat} {row : Int → Int} : arc ad ac k 20 ln row = .inl (ac k, ln, .inl (fun j => Int32.ofInt (row j))) := rfl
theorem arc_l {ad : Nat → Nat} {ac : Nat → ClassId} {k ln : Nat} {row : Int → Int} : arc ad ac k 21 ln row = .inl (ac k, ln, .inr (.inl (fun j => Int64.ofInt (row j)))) := rfl
theorem arc_r {ad : Nat → Nat} {ac : Nat → ClassId} {k kd ln : Nat} {row : Int → Int} (h : 22 ≤ kd) : arc ad ac k kd ln row = .inl (ac k, ln, .inr (.inr (.inr (.inr (fun j => if j < ln then rfo ad (row j) else none))))) := by
  unfold arc
  rw [if_neg (by omega), if_neg (by omega), if_neg (by omega)]
theorem tgf_le : ∀ ci ∈ List.range 11, ∀ k ∈ List.range (nfl ci), tgf ci k = 0 ∨ tgf ci k = 2 := by decide +kernel
theorem fl_spec {oc idx : Nat} {x : Nat × Nat × Nat × Nat × Nat} (h : fl oc idx = some x) : x.1 = oc ∧ x.2.1 = idx ∧ x.2.2.1 < 11 ∧ x.2.2.2.1 < nfl x.2.2.1 ∧ (Cond.fieldLink (cn oc) idx (cn x.2.2.1) (fdt x.2.2.1 x.2.2.2.1).2.1 (fdt x.2.2.1 x.2.2.2.1).2.2.1) ∈ TG := by
  have h1 := List.find?_some h
  have h2 := List.mem_of_find?_eq_some h
  simp only [Bool.and_eq_true, beq_iff_eq] at h1
  obtain ⟨g1, g2, g3⟩ := fT_ok x h2
  rw [h1.1, h1.2] at g3
  exact ⟨h1.1, h1.2, g1, g2, TG_in g3 rfl⟩
section
variable {p : Program} {l : Launch} {e : Env} {R : Room} {s : State} {m : MethodId} {args : Array Value} {below : List Frame} {meth : Method} {c : Code} {Q : State → Prop} {D : va_G} {base bb : Nat} {o : Option (List Int)} {f n0 s0 : Nat} {ad0 : Nat → Nat} {ac0 : Nat → ClassId}
variable {pc pc' len : Nat} {ls st ls' st' : List AV} {σ σ' : Sh} {M M' : Mo}
theorem Wo.up {ad : Nat → Nat} {ac : Nat → ClassId} {H H1 : Heap} {k : Nat} {i v : Int} {e' : va_E} (h : Wo D ad ac base s σ M H) (hk : k < σ.length) (he : arc ad ac k (sg σ k).1 (sg σ k).2 (up2 M k i v k) = e')
    (hP : va_P D vwCl ((wso ad ac σ M).set k (ad k, e')) H1) (hD : va_D (fun q => base ≤ q) ((wso ad ac σ M).set k (ad k, e'))) (hv : ∀ j : Nat, (j : Int) = i → wfz σ.length (tgk (sg σ k).1 j) v) : Wo D ad ac base s σ (up2 M k i v) H1 := by
  rw [wso_set ad ac σ M (up2 M k i v) hk he (fun j hj => up2_ne M k i v hj)] at hP hD
  exact ⟨hP, hD, h.2.2.1, wfm_up h.2.2.2.1 hv, h.2.2.2.2⟩
theorem g_get (C : Cx f o p R s m args meth c base bb D) {n : Nat} (hd : decode (bc f) pc = .ok (.getfield n, len))
    (h : astep o f pc (.getfield n) len ls st σ M = some (.inl (pc', ls', st', σ', M'))) (hG : G p l e R s m args below meth c Q D base bb o f n0 s0 ad0 ac0 pc' ls' st' σ' M') : G p l e R s m args below meth c Q D base bb o f n0 s0 ad0 ac0 pc ls st σ M := by
  obtain ⟨hx, hb, hml, hown, hts, -, -, -, -, -, hT, -, -⟩ := C
  unfold astep at h
  dsimp only at h
  split at h
  · rename_i hl
    subst hl
    split at h
    · rename_i x a st0 hfl
      split at h
      · rename_i hc
        obtain ⟨rfl, rfl, rfl, rfl, rfl⟩ := nx_inj h
        obtain ⟨h1, h2, h3, h4, h5⟩ := fl_spec hfl
        obtain ⟨k, rfl, hk, hsg⟩ := shp_spec hc.1 (by omega)
        intro H locs cells slots lsm ad ac hk2
        have hwf := hk2.1.2.2.2.1 k hk x.2.2.2.1 (by rw [hsg]; exact h4)
        rw [hsg] at hwf
        have htg := tgf_le _ (List.mem_range.mpr h3) _ (List.mem_range.mpr h4)
        have htk : tgk x.2.2.1 x.2.2.2.1 = tgf x.2.2.1 x.2.2.2.1 := by unfold tgk; rw [if_pos (by omega)]
        dsimp only at hwf
        rw [htk] at hwf
        have kk := hG H locs cells slots lsm ad ac (hk2.stk (ok_c1 (okv_wfz hwf (by omega) hc.2) (by show tgf _ _ ≠ 9; omega) (ok_t1 hk2.sto)))
        rw [List.map_cons] at kk
        have h0 : (0 : Int) ≤ k := by omega
        rw [List.map_cons, cv2 _ _ h0, Int.toNat_natCast]
        have hg := wso_get ad ac σ' M' hk
        rw [hsg] at hg
        dsimp only at hg
        rw [arc_o h3] at hg
        refine va_get hx hb hts (u_in h3) hown hT.1 hk2.1.1 k hg (vw_get2 h3) x.2.2.2.1 h4 (hts _ h5) (fun y hy => ?_) (v := cv ad bb (tgf x.2.2.1 x.2.2.2.1, M' k x.2.2.2.1)) ?_ hd kk
        · rw [(fty_ok _ (List.mem_range.mpr h3) _ (List.mem_range.mpr h4)).2.1] at hy
          exact hy
        · rw [List.getElem?_map, List.getElem?_range h4, Option.map_some]
          rw [cv_bb (b := 0) (b' := bb) (by show tgf _ _ ≤ 2; omega)]
      · cases h
    · cases h
  · cases h
theorem g_put (C : Cx f o p R s m args meth c base bb D) {n : Nat} (hd : decode (bc f) pc = .ok (.putfield n, len))
    (h : astep o f pc (.putfield n) len ls st σ M = some (.inl (pc', ls', st', σ', M'))) (hG : G p l e R s m args below meth c Q D base bb o f n0 s0 ad0 ac0 pc' ls' st' σ' M') : G p l e R s m args below meth c Q D base bb o f n0 s0 ad0 ac0 pc ls st σ M := by
  obtain ⟨hx, hb, hml, hown, hts, -, -, hnm, -, -, hT, -, -⟩ := C
  unfold astep at h
  dsimp only at h
  split at h
  · rename_i hl
    subst hl
    split at h
    · rename_i x v a st0 hfl
      split at h
      · rename_i hc
        obtain ⟨rfl, rfl, rfl, rfl, rfl⟩ := nx_inj h
        obtain ⟨h1, h2, h3, h4, h5⟩ := fl_spec hfl
        obtain ⟨hc1, hc2, hc3⟩ := hc
        obtain ⟨k, rfl, hk, hsg⟩ := shp_spec hc1 (by omega)
        intro H locs cells slots lsm ad ac hk2
        have htg := tgf_le _ (List.mem_range.mpr h3) _ (List.mem_range.mpr h4)
        obtain ⟨q1, q2, q3⟩ := fty_ok _ (List.mem_range.mpr h3) _ (List.mem_range.mpr h4)
        have h0 : (0 : Int) ≤ k := by omega
        rw [List.map_cons, List.map_cons, cv2 _ _ h0, Int.toNat_natCast]
        have hg := wso_get ad ac σ' M hk
        rw [hsg] at hg
        dsimp only at hg
        rw [arc_o h3] at hg
        have hvo := (hk2.sto v List.mem_cons_self).1
        obtain ⟨t, z⟩ := v
        have hc2 : t = tgf x.2.2.1 x.2.2.2.1 := hc2
        have hfit : narrow (fty x.2.2.1 x.2.2.2.1) (cv ad bb (t, z)) = cv ad bb (t, z) ∧ fits (fty x.2.2.1 x.2.2.2.1) (cv ad bb (t, z)) = true := by
          rcases q3 with ⟨g1, g2⟩ | ⟨g1, g2⟩
          · rw [g1] at hc2
            subst hc2
            rw [g2]
            exact ⟨rfl, rfl⟩
          · rw [g1] at hc2
            subst hc2
            rw [cv2 _ _ (hvo.2.1 rfl)]
            generalize fty x.2.2.1 x.2.2.2.1 = ty at g2
            cases ty <;> first | exact ⟨rfl, rfl⟩ | cases g2
        have hset : ∀ H1 : Heap, ∀ locs1 : List Loc, va_P D vwCl ((wso ad ac σ' M).set k (ad k, .inr (x.2.2.1, ((List.range (nfl x.2.2.1)).map (fun j => cv ad 0 (tgf x.2.2.1 j, M k j))).set x.2.2.2.1 (cv ad bb (t, z))))) H1 → va_D (fun q => base ≤ q) ((wso ad ac σ' M).set k (ad k, .inr (x.2.2.1, ((List.range (nfl x.2.2.1)).map (fun j => cv ad 0 (tgf x.2.2.1 j, M k j))).set x.2.2.2.1 (cv ad bb (t, z))))) → va_S (fun q => base ≤ q) s.heap H1 locs1 → W p l e R s m args below meth c H1 locs1 cells slots Q (F0 m (pc + 3) lsm (List.map (cv ad bb) st')) := by
          intro H1 locs1 hP hD hS
          refine hG H1 locs1 cells slots lsm ad ac ⟨hk2.1.up hk ?_ hP hD ?_, hS, hk2.2.2.1, hk2.2.2.2.1, ok_t1 (ok_t1 hk2.sto), hk2.2.2.2.2.2⟩
          · rw [hsg]
            dsimp only
            rw [arc_o h3]
            congr 2
            apply List.ext_getElem?
            intro j
            by_cases hj : j = x.2.2.2.1
            · subst hj
              rw [List.getElem?_set_self (by simpa using h4), List.getElem?_map, List.getElem?_range h4, Option.map_some, up2_eq]
              simp only [if_true]
              rw [cv_bb (b := 0) (b' := bb) (by show tgf _ _ ≤ 2; omega), hc2]
            · rw [List.getElem?_set_ne (Ne.symm hj), List.getElem?_map, List.getElem?_map, up2_eq]
              by_cases hl : j < nfl x.2.2.1
              · rw [List.getElem?_range hl, Option.map_some, Option.map_some]
                dsimp only
                rw [if_neg (by intro q; exact hj (by exact_mod_cast q))]
              · rw [List.getElem?_eq_none (by simpa using hl)]
                rfl
          · intro j hj
            rw [hsg]
            dsimp only
            have : j = x.2.2.2.1 := by exact_mod_cast hj
            subst this
            unfold tgk
            rw [if_pos (by omega), ← hc2]
            exact hvo.1
        rcases Bool.eq_false_or_eq_true (fdt x.2.2.1 x.2.2.2.1).2.2.2 with hf | hf
        · rcases hc3 with hc3 | hc3
          · rw [hf] at hc3; cases hc3
          · refine va_putF hx hb hts (u_in h3) (fty x.2.2.1) (fun j hj => (fty_ok _ (List.mem_range.mpr h3) _ (List.mem_range.mpr hj)).1) (fun a ha b hb => fnm_ok _ (List.mem_range.mpr h3) a (List.mem_range.mpr ha) b (List.mem_range.mpr hb)) hown hT.1 hk2.1.1 hk2.1.2.1 hk2.2.1 k hg (vw_get2 h3) x.2.2.2.1 h4 (hts _ h5) (fun y hy => by rw [q2] at hy; exact hy) hf (hnm hc3.1) (by rw [q2, hc3.2]) q1 hfit.1 hfit.2 (by simpa using h4) hd (fun H1 locs1 hP hD hS => hset H1 locs1 hP hD hS)
        · refine va_put hx hb hts (u_in h3) (fty x.2.2.1) (fun j hj => (fty_ok _ (List.mem_range.mpr h3) _ (List.mem_range.mpr hj)).1) (fun a ha b hb => fnm_ok _ (List.mem_range.mpr h3) a (List.mem_range.mpr ha) b (List.mem_range.mpr hb)) hown hT.1 hk2.1.1 hk2.1.2.1 hk2.2.1 k hg (vw_get2 h3) x.2.2.2.1 h4 (hts _ h5) (fun y hy => by rw [q2] at hy; exact hy) hf q1 hfit.1 hfit.2 (by simpa using h4) hd (fun H1 locs1 hP hD hS => hset H1 locs1 hP hD hS)
      · cases h
    · cases h
  · cases h
end
