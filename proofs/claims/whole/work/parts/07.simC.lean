/-! Arrays. -/
section
variable {p : Program} {l : Launch} {e : Env} {R : Room} {s : State} {m : MethodId} {args : Array Value} {below : List Frame} {meth : Method} {c : Code} {Q : State → Prop} {D : va_G} {base bb : Nat} {o : Option (List Int)} {f n0 s0 : Nat} {ad0 : Nat → Nat} {ac0 : Nat → ClassId}
variable {pc pc' len : Nat} {ls st ls' st' : List AV} {σ σ' : Sh} {M M' : Mo}

theorem Wo.tys {ad : Nat → Nat} {ac : Nat → ClassId} {H : Heap} {k : Nat} {ty : FieldType} (h : Wo D ad ac base s σ M H) (hT : Tb D s) (hk : k < σ.length) (ht : aty (sg σ k).1 = some ty) : va_K D vwCl [(ac k, ty)] s :=
  ⟨hT.1.1, fun j q hj => by
    have h0 : j < 1 := (List.getElem?_eq_some_iff.mp hj).1
    rw [show j = 0 by omega] at hj
    cases hj
    exact h.2.2.1 k hk ty ht⟩
theorem shp_arr {a : Int} {kd : Nat} (h : (shp σ a).1 = kd) (hk : kd ≠ 99) : ∃ k : Nat, a = k ∧ k < σ.length ∧ sg σ k = (kd, (shp σ a).2) := shp_spec (Prod.ext h rfl) hk

theorem g_iald (C : Cx f o p R s m args meth c base bb D) (hd : decode (bc f) pc = .ok (.iaload, len))
    (h : astep o f pc (.iaload) len ls st σ M = some (.inl (pc', ls', st', σ', M'))) (hG : G p l e R s m args below meth c Q D base bb o f n0 s0 ad0 ac0 pc' ls' st' σ' M') : G p l e R s m args below meth c Q D base bb o f n0 s0 ad0 ac0 pc ls st σ M := by
  obtain ⟨hx, hb, hml, hown, hts, -, -, -, -, -, hT, hbs, hscr⟩ := C
  unfold astep at h
  dsimp only at h
  split at h
  · rename_i hl
    subst hl
    split at h
    · rename_i xs i z st0
      split at h
      · rename_i hc
        obtain ⟨rfl, rfl, rfl, rfl, rfl⟩ := nx_inj h
        obtain ⟨hX, hbb, hlen, hrng⟩ := hscr xs rfl
        intro H locs cells slots lsm ad ac hk2
        have hi := ok_rng hk2.sto
        obtain ⟨v1, v2⟩ := vp_in_i hc.1 hc.2 hi
        have kk := hG H locs cells slots lsm ad ac (hk2.stk (ok_c1 (okv_z (hrng _)) (by simp) (ok_t1 (ok_t1 hk2.sto))))
        rw [List.map_cons, cv0] at kk
        rw [List.map_cons, List.map_cons, cv0, cv4]
        refine va_sld hx hb hX (by omega) (by show ¬ base ≤ bb; omega) hk2.2.1 v1 hd ?_
        rw [v2]
        exact kk
      · cases h
    · rename_i i a st0
      split at h
      · rename_i hc
        obtain ⟨rfl, rfl, rfl, rfl, rfl⟩ := nx_inj h
        obtain ⟨k, rfl, hk, hsg⟩ := shp_arr hc.1 (by decide)
        intro H locs cells slots lsm ad ac hk2
        have hi := ok_rng hk2.sto
        obtain ⟨v1, v2⟩ := vp_in_i hc.2.1 hc.2.2 hi
        have hwf := hk2.1.2.2.2.1 k hk i.toNat (by rw [hsg]; show i.toNat < (shp σ' ↑k).2; omega)
        rw [hsg, show ((i.toNat : Nat) : Int) = i by omega] at hwf
        have kk := hG H locs cells slots lsm ad ac (hk2.stk (ok_c1 (okv_wfz hwf (by decide) (fun q => absurd q (by decide))) (by simp) (ok_t1 (ok_t1 hk2.sto))))
        rw [List.map_cons, cv0] at kk
        rw [List.map_cons, List.map_cons, cv0, cv2 _ _ (show (0 : Int) ≤ k by omega), Int.toNat_natCast]
        have hg := wso_get ad ac σ' M' hk
        rw [hsg] at hg
        dsimp only at hg
        rw [arc_i] at hg
        refine va_iald hx hb (hk2.1.tys hT hk (by rw [hsg]; rfl)) hk2.1.1 k 0 hg rfl v1 hd ?_
        rw [v2, show ((i.toNat : Nat) : Int) = i by omega]
        exact kk
      · cases h
    · cases h
  · cases h

theorem g_lald (C : Cx f o p R s m args meth c base bb D) (hd : decode (bc f) pc = .ok (.laload, len))
    (h : astep o f pc (.laload) len ls st σ M = some (.inl (pc', ls', st', σ', M'))) (hG : G p l e R s m args below meth c Q D base bb o f n0 s0 ad0 ac0 pc' ls' st' σ' M') : G p l e R s m args below meth c Q D base bb o f n0 s0 ad0 ac0 pc ls st σ M := by
  obtain ⟨hx, hb, hml, hown, hts, -, -, -, -, -, hT, hbs, hscr⟩ := C
  unfold astep at h
  dsimp only at h
  split at h
  · rename_i hl
    subst hl
    split at h
    · rename_i i a st0
      split at h
      · rename_i hc
        obtain ⟨rfl, rfl, rfl, rfl, rfl⟩ := nx_inj h
        obtain ⟨k, rfl, hk, hsg⟩ := shp_arr hc.1 (by decide)
        intro H locs cells slots lsm ad ac hk2
        have hi := ok_rng hk2.sto
        obtain ⟨v1, v2⟩ := vp_in_i hc.2.1 hc.2.2 hi
        have hwf := hk2.1.2.2.2.1 k hk i.toNat (by rw [hsg]; show i.toNat < (shp σ' ↑k).2; omega)
        rw [hsg, show ((i.toNat : Nat) : Int) = i by omega] at hwf
        have kk := hG H locs cells slots lsm ad ac (hk2.stk (ok_c1 (okv_wfz hwf (by decide) (fun q => absurd q (by decide))) (by simp) (ok_t1 (ok_t1 hk2.sto))))
        rw [List.map_cons, cv1] at kk
        rw [List.map_cons, List.map_cons, cv0, cv2 _ _ (show (0 : Int) ≤ k by omega), Int.toNat_natCast]
        have hg := wso_get ad ac σ' M' hk
        rw [hsg] at hg
        dsimp only at hg
        rw [arc_l] at hg
        refine va_lald hx hb (hk2.1.tys hT hk (by rw [hsg]; rfl)) hk2.1.1 k 0 hg rfl v1 hd ?_
        rw [v2, show ((i.toNat : Nat) : Int) = i by omega]
        exact kk
      · cases h
    · cases h
  · cases h

theorem g_aald (C : Cx f o p R s m args meth c base bb D) (hd : decode (bc f) pc = .ok (.aaload, len))
    (h : astep o f pc (.aaload) len ls st σ M = some (.inl (pc', ls', st', σ', M'))) (hG : G p l e R s m args below meth c Q D base bb o f n0 s0 ad0 ac0 pc' ls' st' σ' M') : G p l e R s m args below meth c Q D base bb o f n0 s0 ad0 ac0 pc ls st σ M := by
  obtain ⟨hx, hb, hml, hown, hts, -, -, -, -, -, hT, hbs, hscr⟩ := C
  unfold astep at h
  dsimp only at h
  split at h
  · rename_i hl
    subst hl
    split at h
    · rename_i i a st0
      split at h
      · rename_i hc
        obtain ⟨rfl, rfl, rfl, rfl, rfl⟩ := nx_inj h
        obtain ⟨k, rfl, hk, hsg⟩ := shp_arr (rfl : (shp σ' a).1 = (shp σ' a).1) (by omega)
        intro H locs cells slots lsm ad ac hk2
        have hi := ok_rng hk2.sto
        obtain ⟨v1, v2⟩ := vp_in_i hc.2.2.1 hc.2.2.2.1 hi
        have hwf := hk2.1.2.2.2.1 k hk i.toNat (by rw [hsg]; show i.toNat < (shp σ' ↑k).2; omega)
        rw [hsg, show ((i.toNat : Nat) : Int) = i by omega] at hwf
        have ht2 : tgk (shp σ' ↑k).1 i.toNat = 2 := by unfold tgk; rw [if_neg (by omega), if_neg (by omega), if_neg (by omega)]
        dsimp only at hwf
        rw [ht2] at hwf
        have kk := hG H locs cells slots lsm ad ac (hk2.stk (ok_c1 (okv_wfz hwf (by decide) (fun _ => hc.2.2.2.2)) (by simp) (ok_t1 (ok_t1 hk2.sto))))
        rw [List.map_cons] at kk
        rw [List.map_cons, List.map_cons, cv0, cv2 _ _ (show (0 : Int) ≤ k by omega), Int.toNat_natCast]
        have hg := wso_get ad ac σ' M' hk
        rw [hsg] at hg
        dsimp only at hg
        rw [arc_r hc.1] at hg
        have hP := hk2.1.1 k _ hg
        have hlt : (Int32.ofInt i).toNatClampNeg < (shp σ' ↑k).2 := by rw [v2]; omega
        obtain ⟨ty, hty, hrf⟩ : ∃ ty, aty (sg σ' k).1 = some ty ∧ ty.isReference = true := by
          rw [hsg]
          rcases (show (shp σ' ↑k).1 = 22 ∨ (shp σ' ↑k).1 = 23 ∨ (shp σ' ↑k).1 = 24 by omega) with q | q | q <;> (dsimp only; rw [q]; exact ⟨_, rfl, rfl⟩)
        refine W.aald (v := va_rf (rfo ad (M' k i))) (ty := ty) hx hb hP ((hk2.1.2.2.1 k hk ty hty).1 _ (fun j => va_rf (if j < (shp σ' ↑k).2 then rfo ad (M' k j) else none))) hrf (fun q => by cases q) (by show ¬ (Int32.ofInt i < 0 ∨ (arrV _ _ _).slots.size ≤ _); rw [arrV_size]; exact v1) (by show (arrV _ _ _).slots[_]? = _; rw [arrV_read _ _ hlt, v2]; dsimp only; rw [if_pos (by omega), show ((i.toNat : Nat) : Int) = i by omega]) rfl rfl hd kk
      · cases h
    · cases h
  · cases h

theorem g_iast (C : Cx f o p R s m args meth c base bb D) (hd : decode (bc f) pc = .ok (.iastore, len))
    (h : astep o f pc (.iastore) len ls st σ M = some (.inl (pc', ls', st', σ', M'))) (hG : G p l e R s m args below meth c Q D base bb o f n0 s0 ad0 ac0 pc' ls' st' σ' M') : G p l e R s m args below meth c Q D base bb o f n0 s0 ad0 ac0 pc ls st σ M := by
  obtain ⟨hx, hb, hml, hown, hts, -, -, -, -, -, hT, hbs, hscr⟩ := C
  unfold astep at h
  dsimp only at h
  split at h
  · rename_i hl
    subst hl
    split at h
    · rename_i x i a st0
      split at h
      · rename_i hc
        obtain ⟨rfl, rfl, rfl, rfl, rfl⟩ := nx_inj h
        obtain ⟨k, rfl, hk, hsg⟩ := shp_arr hc.1 (by decide)
        intro H locs cells slots lsm ad ac hk2
        have hi := ok_rng (ok_t1 hk2.sto)
        have hxo := (hk2.sto _ List.mem_cons_self).1
        obtain ⟨v1, v2⟩ := vp_in_i hc.2.1 hc.2.2 hi
        rw [List.map_cons, List.map_cons, List.map_cons, cv0, cv0, cv2 _ _ (show (0 : Int) ≤ k by omega), Int.toNat_natCast]
        have hg := wso_get ad ac σ' M hk
        rw [hsg] at hg
        dsimp only at hg
        rw [arc_i] at hg
        refine va_iast hx hb (hk2.1.tys hT hk (by rw [hsg]; rfl)) hk2.1.1 hk2.1.2.1 hk2.2.1 k 0 hg rfl v1 hd (fun H1 locs1 hP hD hS => ?_)
        refine hG H1 locs1 cells slots lsm ad ac ⟨hk2.1.up hk ?_ hP hD ?_, hS, hk2.2.2.1, hk2.2.2.2.1, ok_t1 (ok_t1 (ok_t1 hk2.sto)), hk2.2.2.2.2.2⟩
        · rw [hsg]
          dsimp only
          rw [arc_i, up2_eq, v2]
          congr 4
          funext j
          unfold upd
          dsimp only
          by_cases hj : j = i.toNat
          · rw [if_pos hj, if_pos (by omega)]
          · rw [if_neg hj, if_neg (by omega)]
        · intro j hj
          rw [hsg]
          exact hxo.1
      · cases h
    · cases h
  · cases h

theorem g_last (C : Cx f o p R s m args meth c base bb D) (hd : decode (bc f) pc = .ok (.lastore, len))
    (h : astep o f pc (.lastore) len ls st σ M = some (.inl (pc', ls', st', σ', M'))) (hG : G p l e R s m args below meth c Q D base bb o f n0 s0 ad0 ac0 pc' ls' st' σ' M') : G p l e R s m args below meth c Q D base bb o f n0 s0 ad0 ac0 pc ls st σ M := by
  obtain ⟨hx, hb, hml, hown, hts, -, -, -, -, -, hT, hbs, hscr⟩ := C
  unfold astep at h
  dsimp only at h
  split at h
  · rename_i hl
    subst hl
    split at h
    · rename_i x i a st0
      split at h
      · rename_i hc
        obtain ⟨rfl, rfl, rfl, rfl, rfl⟩ := nx_inj h
        obtain ⟨k, rfl, hk, hsg⟩ := shp_arr hc.1 (by decide)
        intro H locs cells slots lsm ad ac hk2
        have hi := ok_rng (ok_t1 hk2.sto)
        have hxo := (hk2.sto _ List.mem_cons_self).1
        obtain ⟨v1, v2⟩ := vp_in_i hc.2.1 hc.2.2 hi
        rw [List.map_cons, List.map_cons, List.map_cons, cv0, cv1, cv2 _ _ (show (0 : Int) ≤ k by omega), Int.toNat_natCast]
        have hg := wso_get ad ac σ' M hk
        rw [hsg] at hg
        dsimp only at hg
        rw [arc_l] at hg
        refine va_last hx hb (hk2.1.tys hT hk (by rw [hsg]; rfl)) hk2.1.1 hk2.1.2.1 hk2.2.1 k 0 hg rfl v1 hd (fun H1 locs1 hP hD hS => ?_)
        refine hG H1 locs1 cells slots lsm ad ac ⟨hk2.1.up hk ?_ hP hD ?_, hS, hk2.2.2.1, hk2.2.2.2.1, ok_t1 (ok_t1 (ok_t1 hk2.sto)), hk2.2.2.2.2.2⟩
        · rw [hsg]
          dsimp only
          rw [arc_l, up2_eq, v2]
          congr 5
          funext j
          unfold vp_updL
          dsimp only
          by_cases hj : j = i.toNat
          · rw [if_pos hj, if_pos (by omega)]
          · rw [if_neg hj, if_neg (by omega)]
        · intro j hj
          rw [hsg]
          exact hxo.1
      · cases h
    · cases h
  · cases h

theorem g_aast (C : Cx f o p R s m args meth c base bb D) (hd : decode (bc f) pc = .ok (.aastore, len))
    (h : astep o f pc (.aastore) len ls st σ M = some (.inl (pc', ls', st', σ', M'))) (hG : G p l e R s m args below meth c Q D base bb o f n0 s0 ad0 ac0 pc' ls' st' σ' M') : G p l e R s m args below meth c Q D base bb o f n0 s0 ad0 ac0 pc ls st σ M := by
  obtain ⟨hx, hb, hml, hown, hts, -, -, -, -, -, hT, hbs, hscr⟩ := C
  unfold astep at h
  dsimp only at h
  split at h
  · rename_i hl
    subst hl
    split at h
    · rename_i x i a st0
      split at h
      · rename_i hc
        obtain ⟨rfl, rfl, rfl, rfl, rfl⟩ := nx_inj h
        obtain ⟨k, rfl, hk, hsg⟩ := shp_arr hc.1 (by decide)
        obtain ⟨kx, rfl, hkx, hsx⟩ := shp_spec hc.2.2.2 (by decide)
        intro H locs cells slots lsm ad ac hk2
        have hi := ok_rng (ok_t1 hk2.sto)
        have hxo := (hk2.sto _ List.mem_cons_self).1
        obtain ⟨v1, v2⟩ := vp_in_i hc.2.1 hc.2.2.1 hi
        rw [List.map_cons, List.map_cons, List.map_cons, cv0, cv2 _ _ (show (0 : Int) ≤ k by omega), cv2 _ _ (show (0 : Int) ≤ kx by omega), Int.toNat_natCast, Int.toNat_natCast]
        have hg := wso_get ad ac σ' M hk
        rw [hsg] at hg
        dsimp only at hg
        rw [arc_r (by decide)] at hg
        have hgx := wso_get ad ac σ' M hkx
        rw [hsx] at hgx
        dsimp only at hgx
        rw [arc_o (by decide)] at hgx
        refine va_astq hx hb (hk2.1.tys hT hk (by rw [hsg]; rfl)) hk2.1.1 hk2.1.2.1 hk2.2.1 k 0 kx 0 hg rfl hgx (vw_get2 (by decide)) v1 hd (fun H1 locs1 hP hD hS => ?_)
        refine hG H1 locs1 cells slots lsm ad ac ⟨hk2.1.up hk ?_ hP hD ?_, hS, hk2.2.2.1, hk2.2.2.2.1, ok_t1 (ok_t1 (ok_t1 hk2.sto)), hk2.2.2.2.2.2⟩
        · rw [hsg]
          dsimp only
          rw [arc_r (by decide), up2_eq, v2]
          congr 7
          funext j
          unfold va_up
          dsimp only
          by_cases hj : j = i.toNat
          · rw [if_pos hj, if_pos (by omega), if_pos (by omega), rfo, if_neg (by omega), Int.toNat_natCast]
          · rw [if_neg hj]
            by_cases hl : j < (shp σ' ↑k).2
            · rw [if_pos hl, if_pos hl, if_neg (by omega)]
            · rw [if_neg hl, if_neg hl]
        · intro j hj
          rw [hsg]
          exact hxo.1
      · cases h
    · cases h
  · cases h

theorem g_alen (C : Cx f o p R s m args meth c base bb D) (hd : decode (bc f) pc = .ok (.arraylength, len))
    (h : astep o f pc (.arraylength) len ls st σ M = some (.inl (pc', ls', st', σ', M'))) (hG : G p l e R s m args below meth c Q D base bb o f n0 s0 ad0 ac0 pc' ls' st' σ' M') : G p l e R s m args below meth c Q D base bb o f n0 s0 ad0 ac0 pc ls st σ M := by
  obtain ⟨hx, hb, hml, hown, hts, -, -, -, -, -, hT, hbs, hscr⟩ := C
  unfold astep at h
  dsimp only at h
  split at h
  · rename_i hl
    subst hl
    split at h
    · rename_i xs z st0
      obtain ⟨rfl, rfl, rfl, rfl, rfl⟩ := nx_inj h
      obtain ⟨hX, hbb, hlen, hrng⟩ := hscr xs rfl
      intro H locs cells slots lsm ad ac hk2
      have kk := hG H locs cells slots lsm ad ac (hk2.stk (ok_c1 (okv_z (by omega)) (by simp) (ok_t1 hk2.sto)))
      rw [List.map_cons, cv0] at kk
      rw [List.map_cons, cv4]
      exact va_slen hx hb hX (by omega) (by show ¬ base ≤ bb; omega) hk2.2.1 hd kk
    · cases h
  · cases h

end
