/-! New arrays, Object's constructor, arraycopy. -/
theorem tg_acI : Cond.arrayClass .int ∈ TG := TG_in (p := 1116) (by decide +kernel) rfl
theorem tg_acJ : Cond.arrayClass .long ∈ TG := TG_in (p := 1061) (by decide +kernel) rfl
theorem tg_oin : Cond.instanceMethod Lib.objectInit ∈ TG := TG_in (p := 1022) (by decide +kernel) rfl
theorem tg_oco : Cond.code Lib.objectInit ⟨#[0xb1]⟩ 1 none ∈ TG := TG_in (p := 1023) (by decide +kernel) rfl
theorem tg_nat : Cond.native arraycopyName ∈ TG := TG_in (p := 2081) (by decide +kernel) rfl
theorem tg_sta : Cond.static arraycopyName ∈ TG := TG_in (p := 2080) (by decide +kernel) rfl
theorem tg_sys : Cond.initialized "java/lang/System" ∈ TG := TG_in (p := 1012) (by decide +kernel) rfl

section
variable {p : Program} {l : Launch} {e : Env} {R : Room} {s : State} {m : MethodId} {args : Array Value} {below : List Frame} {meth : Method} {c : Code} {Q : State → Prop} {D : va_G} {base bb : Nat} {o : Option (List Int)} {f n0 s0 : Nat} {ad0 : Nat → Nat} {ac0 : Nat → ClassId}
variable {pc pc' len : Nat} {ls st ls' st' : List AV} {σ σ' : Sh} {M M' : Mo}

theorem n32 {n : Int} (h : 0 ≤ n ∧ n < 65536) : ¬ Int32.ofInt n < 0 ∧ (Int32.ofInt n).toNatClampNeg = n.toNat := by
  have hr : -2147483648 ≤ n ∧ n < 2147483648 := by omega
  have h0 := i32_of hr
  refine ⟨fun q => ?_, ?_⟩
  · rw [show (0 : Int32) = Int32.ofInt 0 from rfl, i32_lt hr (by omega)] at q
    omega
  · unfold Int32.toNatClampNeg
    rw [h0]

theorem g_newa (C : Cx f o p R s m args meth c base bb D) {t : ArrayType} (hd : decode (bc f) pc = .ok (.newarray t, len)) (hR : Rm R n0 s0 σ')
    (h : astep o f pc (.newarray t) len ls st σ M = some (.inl (pc', ls', st', σ', M'))) (hG : G p l e R s m args below meth c Q D base bb o f n0 s0 ad0 ac0 pc' ls' st' σ' M') : G p l e R s m args below meth c Q D base bb o f n0 s0 ad0 ac0 pc ls st σ M := by
  obtain ⟨hx, hb, hml, hown, hts, -, -, -, -, -, hT, hbs, -⟩ := C
  unfold astep at h
  dsimp only at h
  split at h
  · rename_i hl
    subst hl
    split at h
    · rename_i n st0
      split at h
      · rename_i hn
        obtain ⟨n1, n2⟩ := n32 hn
        split at h

        · obtain ⟨rfl, rfl, rfl, rfl, rfl⟩ := nx_inj h
          intro H locs cells slots lsm ad ac hk2
          obtain ⟨r1, r2⟩ := hR
          rw [List.length_append] at r1
          rw [tot_app] at r2
          have r2 : tot σ + (n.toNat + 0) ≤ s0 + R.slots := r2
          have r1 : σ.length + 1 ≤ n0 + R.cells := r1
          have e1 := hk2.2.2.2.2.2.1
          have e2 := hk2.2.2.2.2.2.2.1
          rw [List.map_cons, cv0]
          refine va_newa (atype := .int) (ty := .int) hx hb (hts _ tg_acI) rfl hT.1 hk2.1.1 hk2.1.2.1 hk2.2.1 (fun q hq => by show base ≤ q; omega) (N' := n.toNat) (a0 := (n.toNat, .inl (fun _ => (0 : Int32)))) (fun cA => rfl) n1 n2 (by show n.toNat * 4 ≤ 536870912; omega) (by omega) (by omega) hd ?_
          intro q cA H1 hK hP hD hS
          have ha : arc (adn ad σ.length q) (adn ac σ.length cA) σ.length 20 n.toNat (fun y => dfv 20 y.toNat) = .inl (cA, n.toNat, .inl (fun _ => 0)) := by
            rw [arc_i, adn_eq]
            rfl
          rw [← ha] at hP hD
          have hst := ok_t1 hk2.sto
          have kk := hG H1 locs (cells + 1) (slots + n.toNat) lsm _ _ (hk2.mk1 (cA := cA) (Or.inr ⟨by decide, by decide⟩) hP hD hS (fun ty ht => by
            cases ht
            exact hK.2 0 _ rfl) (ok_c1 (okv_r ⟨by omega, by omega⟩) (by simp) (ok_mono hst (by omega))))
          rw [List.map_cons, cv2 _ _ (by omega), Int.toNat_natCast, adn_eq, map_cv hst (fun k hk => adn_lt hk)] at kk
          exact kk
        · obtain ⟨rfl, rfl, rfl, rfl, rfl⟩ := nx_inj h
          intro H locs cells slots lsm ad ac hk2
          obtain ⟨r1, r2⟩ := hR
          rw [List.length_append] at r1
          rw [tot_app] at r2
          have r2 : tot σ + (n.toNat + 0) ≤ s0 + R.slots := r2
          have r1 : σ.length + 1 ≤ n0 + R.cells := r1
          have e1 := hk2.2.2.2.2.2.1
          have e2 := hk2.2.2.2.2.2.2.1
          rw [List.map_cons, cv0]
          refine va_newa (atype := .long) (ty := .long) hx hb (hts _ tg_acJ) rfl hT.1 hk2.1.1 hk2.1.2.1 hk2.2.1 (fun q hq => by show base ≤ q; omega) (N' := n.toNat) (a0 := (n.toNat, .inr (.inl (fun _ => (0 : Int64))))) (fun cA => rfl) n1 n2 (by show n.toNat * 8 ≤ 536870912; omega) (by omega) (by omega) hd ?_
          intro q cA H1 hK hP hD hS
          have ha : arc (adn ad σ.length q) (adn ac σ.length cA) σ.length 21 n.toNat (fun y => dfv 21 y.toNat) = .inl (cA, n.toNat, .inr (.inl (fun _ => 0))) := by
            rw [arc_l, adn_eq]
            rfl
          rw [← ha] at hP hD
          have hst := ok_t1 hk2.sto
          have kk := hG H1 locs (cells + 1) (slots + n.toNat) lsm _ _ (hk2.mk1 (cA := cA) (Or.inr ⟨by decide, by decide⟩) hP hD hS (fun ty ht => by
            cases ht
            exact hK.2 0 _ rfl) (ok_c1 (okv_r ⟨by omega, by omega⟩) (by simp) (ok_mono hst (by omega))))
          rw [List.map_cons, cv2 _ _ (by omega), Int.toNat_natCast, adn_eq, map_cv hst (fun k hk => adn_lt hk)] at kk
          exact kk
        · cases h
      · cases h
    · cases h
  · cases h

theorem g_newq (C : Cx f o p R s m args meth c base bb D) {k : Nat} (hd : decode (bc f) pc = .ok (.anewarray k, len)) (hR : Rm R n0 s0 σ')
    (h : astep o f pc (.anewarray k) len ls st σ M = some (.inl (pc', ls', st', σ', M'))) (hG : G p l e R s m args below meth c Q D base bb o f n0 s0 ad0 ac0 pc' ls' st' σ' M') : G p l e R s m args below meth c Q D base bb o f n0 s0 ad0 ac0 pc ls st σ M := by
  obtain ⟨hx, hb, hml, hown, hts, -, -, -, -, -, hT, hbs, -⟩ := C
  unfold astep at h
  dsimp only at h
  split at h
  · rename_i hl
    subst hl
    split at h
    · rename_i x n st0 hal
      split at h
      · rename_i hn
        obtain ⟨n1, n2⟩ := n32 hn
        obtain ⟨rfl, rfl, rfl, rfl, rfl⟩ := nx_inj h
        have f1 := List.find?_some hal
        have f2 := List.mem_of_find?_eq_some hal
        simp only [Bool.and_eq_true, beq_iff_eq] at f1
        have g2 := aT_ok x f2
        rw [f1.1, f1.2] at g2
        intro H locs cells slots lsm ad ac hk2
        obtain ⟨r1, r2⟩ := hR
        rw [List.length_append] at r1
        rw [tot_app] at r2
        have r2 : tot σ + (n.toNat + 0) ≤ s0 + R.slots := r2
        have r1 : σ.length + 1 ≤ n0 + R.cells := r1
        have e1 := hk2.2.2.2.2.2.1
        have e2 := hk2.2.2.2.2.2.2.1
        rw [List.map_cons, cv0]
        refine va_newq hx hb hown (hts _ (TG_in g2 rfl)) hT.2.2.1 hT.1 hk2.1.1 hk2.1.2.1 hk2.2.1 (fun q hq => by show base ≤ q; omega) (N' := n.toNat) n1 n2 (by omega) (by omega) (by omega) hd ?_
        intro q cA H1 hK hP hD hS
        have hst := ok_t1 hk2.sto
        have ha : arc (adn ad σ.length q) (adn ac σ.length cA) σ.length 22 n.toNat (fun y => dfv 22 y.toNat) = .inl (cA, n.toNat, .inr (.inr (.inr (.inr (fun _ => none))))) := by
          rw [arc_r (by decide), adn_eq]
          congr 7
          funext j
          split
          · rfl
          · rfl
        rw [← ha] at hP hD
        have kk := hG H1 locs (cells + 1) (slots + n.toNat) lsm _ _ (hk2.mk1 (cA := cA) (Or.inr ⟨by decide, by decide⟩) hP hD hS (fun ty ht => by
          cases ht
          exact hK.2 0 _ rfl) (ok_c1 (okv_r ⟨by omega, by omega⟩) (by simp) (ok_mono hst (by omega))))
        rw [List.map_cons, cv2 _ _ (by omega), Int.toNat_natCast, adn_eq, map_cv hst (fun k hk => adn_lt hk)] at kk
        exact kk
      · cases h
    · cases h
  · cases h

theorem cats_cv (ad : Nat → Nat) (st : List AV) : ((st.map (cv ad bb)).map fun v => v.category).sum = cats st := by
  unfold cats
  rw [List.map_map]
  congr 1
  apply List.map_congr_left
  intro v _
  exact cv_cat ad bb v
theorem mlk_spec {oc idx : Nat} {x : Nat × Nat × Nat × Nat × Nat × Nat × Nat × Nat} (h : mlk oc idx = some x) : x.1 = oc ∧ x.2.1 = idx ∧ x ∈ mT ∧ mOk x = true := by
  have h1 := List.find?_some h
  have h2 := List.mem_of_find?_eq_some h
  simp only [Bool.and_eq_true, beq_iff_eq] at h1
  exact ⟨h1.1, h1.2, h2, mT_ok x h2⟩

theorem g_oini (C : Cx f o p R s m args meth c base bb D) {n : Nat} (hd : decode (bc f) pc = .ok (.invokespecial n, len)) (hm : (mlk (own f) n).map (fun e => e.2.2.2.1) = some 6)
    (h : (if len = 3 then match st with
      | (2, _) :: st => if cats st ≤ 8 ∧ 1 ≤ hgt f then nx (pc + 3) ls st σ M else none
      | _ => none
      else none) = some (.inl (pc', ls', st', σ', M'))) (hG : G p l e R s m args below meth c Q D base bb o f n0 s0 ad0 ac0 pc' ls' st' σ' M') : G p l e R s m args below meth c Q D base bb o f n0 s0 ad0 ac0 pc ls st σ M := by
  obtain ⟨hx, hb, hml, hown, hts, -, -, -, hfr, hlo, hT, hbs, -⟩ := C
  split at h
  · rename_i hl
    subst hl
    split at h
    · rename_i a st0
      split at h
      · rename_i hc
        obtain ⟨rfl, rfl, rfl, rfl, rfl⟩ := nx_inj h
        obtain ⟨x, hx1, hx2⟩ := Option.map_eq_some_iff.mp hm
        obtain ⟨g1, g2, g3, g4⟩ := mlk_spec hx1
        unfold mOk at g4
        rw [if_pos hx2, decide_eq_true_eq, g1, g2] at g4
        intro H locs cells slots lsm ad ac hk2
        have hr := ok_rngr hk2.sto
        rw [List.map_cons, cv2 _ _ hr.1]
        refine W.objInit hx hb hown (hts _ (TG_in g4 rfl)) (hts _ tg_oin) (hts _ tg_oco) rfl (by rw [hml]; exact hk2.2.2.1.1) rfl hd (by omega) (by show 2 * 0 + _ + 12 ≤ _; rw [cats_cv]; omega) ?_
        exact hG H locs cells slots lsm ad ac (hk2.stk (ok_t1 hk2.sto))
      · cases h
    · cases h
  · cases h
theorem cp2_ne (M : Mo) (b sp dp n : Int) (k : Nat) {j : Nat} (h : j ≠ k) : cp2 M b sp k dp n j = M j := by
  funext y
  unfold cp2
  rw [if_neg (by rintro ⟨q, -⟩; exact h (by exact_mod_cast q))]
theorem cp2_eq (M : Mo) (b sp dp n : Int) (k : Nat) : cp2 M b sp k dp n k = fun y => if dp ≤ y ∧ y < dp + n then M b (sp + (y - dp)) else M k y := by
  funext y
  unfold cp2
  simp
theorem tys2 {ad : Nat → Nat} {ac : Nat → ClassId} {H : Heap} {k j : Nat} {ty : FieldType} (h : Wo D ad ac base s σ M H) (hT : Tb D s) (hk : k < σ.length) (hj : j < σ.length) (ht : aty (sg σ k).1 = some ty) (ht2 : aty (sg σ j).1 = some ty) : va_K D vwCl [(ac k, ty), (ac j, ty)] s :=
  ⟨hT.1.1, fun i q hi => by
    match i, hi with
    | 0, hi => cases hi; exact h.2.2.1 k hk ty ht
    | 1, hi => cases hi; exact h.2.2.1 j hj ty ht2
    | i + 2, hi => simp at hi⟩
theorem g_acp (C : Cx f o p R s m args meth c base bb D) {n : Nat} (hd : decode (bc f) pc = .ok (.invokestatic n, len)) (hm : (mlk (own f) n).map (fun e => e.2.2.2.1) = some 7)
    (h : (if len = 3 then match st with
      | (0, n) :: (0, dp) :: (2, a) :: (0, sp) :: (2, b) :: st => if ((shp σ a).1 = 20 ∧ (shp σ b).1 = 20 ∨ (shp σ a).1 = 21 ∧ (shp σ b).1 = 21) ∧ 0 ≤ n ∧ 0 ≤ sp ∧ 0 ≤ dp ∧ sp + n ≤ (shp σ b).2 ∧ dp + n ≤ (shp σ a).2 ∧ cats st ≤ 8 ∧ 1 ≤ hgt f then nx (pc + 3) ls st σ (cp2 M b sp a dp n) else none
      | _ => none
      else none) = some (.inl (pc', ls', st', σ', M'))) (hG : G p l e R s m args below meth c Q D base bb o f n0 s0 ad0 ac0 pc' ls' st' σ' M') : G p l e R s m args below meth c Q D base bb o f n0 s0 ad0 ac0 pc ls st σ M := by
  obtain ⟨hx, hb, hml, hown, hts, -, -, -, hfr, hlo, hT, hbs, -⟩ := C
  split at h
  · rename_i hl
    subst hl
    split at h
    · rename_i n dp a sp b st0
      split at h
      · rename_i hc
        obtain ⟨rfl, rfl, rfl, rfl, rfl⟩ := nx_inj h
        obtain ⟨x, hx1, hx2⟩ := Option.map_eq_some_iff.mp hm
        obtain ⟨g1, g2, g3, g4⟩ := mlk_spec hx1
        unfold mOk at g4
        rw [if_neg (by omega), if_pos hx2, decide_eq_true_eq, g1, g2] at g4
        obtain ⟨hc0, hn0, hs0, hd0, hc4, hc5, hc6, hc7⟩ := hc
        obtain ⟨k, rfl, hk, hsg⟩ := shp_arr (rfl : (shp σ' a).1 = (shp σ' a).1) (by omega)
        obtain ⟨j, rfl, hj, hsj⟩ := shp_arr (rfl : (shp σ' b).1 = (shp σ' b).1) (by omega)
        intro H locs cells slots lsm ad ac hk2
        have rn := ok_rng hk2.sto
        have rd := ok_rng (ok_t1 hk2.sto)
        have rs := ok_rng (ok_t1 (ok_t1 (ok_t1 hk2.sto)))
        have hst := ok_t1 (ok_t1 (ok_t1 (ok_t1 (ok_t1 hk2.sto))))
        have z3 : ∀ z : Int, 0 ≤ z → (-2147483648 ≤ z ∧ z < 2147483648) → ¬ Int32.ofInt z < 0 ∧ (Int32.ofInt z).toNatClampNeg = z.toNat := by
          intro z h0 hr
          refine ⟨fun q => ?_, ?_⟩
          · rw [show (0 : Int32) = Int32.ofInt 0 from rfl, i32_lt hr (by omega)] at q
            omega
          · unfold Int32.toNatClampNeg
            rw [i32_of hr]
        obtain ⟨n1, n2⟩ := z3 n hn0 rn
        obtain ⟨d1, d2⟩ := z3 dp hd0 rd
        obtain ⟨s1, s2⟩ := z3 sp hs0 rs
        rw [List.map_cons, List.map_cons, List.map_cons, List.map_cons, List.map_cons, cv0, cv0, cv0, cv2 _ _ (show (0 : Int) ≤ k by omega), cv2 _ _ (show (0 : Int) ≤ j by omega), Int.toNat_natCast, Int.toNat_natCast]
        have hg := wso_get ad ac σ' M hk
        have hgj := wso_get ad ac σ' M hj
        rw [hsg] at hg
        rw [hsj] at hgj
        dsimp only at hg hgj
        have hfin : ∀ (H1 : Heap) (locs1 : List Loc) (e' : va_E), arc ad ac k (sg σ' k).1 (sg σ' k).2 (cp2 M j sp k dp n k) = e' → va_P D vwCl ((wso ad ac σ' M).set k (ad k, e')) H1 → va_D (fun q => base ≤ q) ((wso ad ac σ' M).set k (ad k, e')) → va_S (fun q => base ≤ q) s.heap H1 locs1 → W p l e R s m args below meth c H1 locs1 cells slots Q (F0 m (pc + 3) lsm (List.map (cv ad bb) st')) := by
          intro H1 locs1 e' he hP hD hS
          rw [wso_set ad ac σ' M (cp2 M j sp k dp n) hk he (fun i hi => cp2_ne M j sp dp n k hi)] at hP hD
          refine hG H1 locs1 cells slots lsm ad ac ⟨⟨hP, hD, hk2.1.2.2.1, ?_, hk2.1.2.2.2.2⟩, hS, hk2.2.2.1, hk2.2.2.2.1, hst, hk2.2.2.2.2.2⟩
          intro q hq i hi
          by_cases hqk : q = k
          · subst hqk
            rw [cp2_eq]
            dsimp only
            split
            · rename_i hin
              have h1 := hk2.1.2.2.2.1 j hj (sp + (i - dp)).toNat (by rw [hsj]; show (sp + (i - dp)).toNat < (shp σ' ↑j).2; omega)
              rw [show (((sp + (i - dp)).toNat : Nat) : Int) = sp + (i - dp) by omega] at h1
              have ht : tgk (sg σ' j).1 (sp + (i - dp)).toNat = tgk (sg σ' q).1 i := by
                rw [hsj, hsg]
                unfold tgk
                dsimp only
                rcases hc0 with ⟨u1, u2⟩ | ⟨u1, u2⟩ <;> rw [u1, u2] <;> rfl
              rw [ht] at h1
              exact h1
            · exact hk2.1.2.2.2.1 q hq i hi
          · rw [cp2_ne _ _ _ _ _ _ hqk]
            exact hk2.1.2.2.2.1 q hq i hi
        rcases hc0 with ⟨u1, u2⟩ | ⟨u1, u2⟩
        · rw [u1, arc_i] at hg
          rw [u2, arc_i] at hgj
          refine va_copyi hx hb (by rw [hml]; exact hk2.2.2.1.1.symm) hown (hts _ (TG_in g4 rfl)) (hts _ tg_nat) (hts _ tg_sta) (hts _ tg_sys) (tys2 (ty := .int) hk2.1 hT hj hk (by rw [hsj]; dsimp only; rw [u2]; rfl) (by rw [hsg]; dsimp only; rw [u1]; rfl)) hk2.1.1 hk2.1.2.1 hk2.2.1 j k 0 1 hgj hg rfl rfl rfl s1 d1 n1 (by rw [s2, n2]; omega) (by rw [d2, n2]; omega) (fun _ _ => rfl) (by omega) (by rw [cats_cv, show nativeFrameWords "java/lang/System" "arraycopy" 5 = 7 by decide]; omega) hd (fun H1 locs1 hP hD hS => hfin H1 locs1 _ ?_ hP hD hS)
          rw [hsg]
          dsimp only
          rw [u1, arc_i, cp2_eq, s2, d2, n2]
          congr 4
          funext i
          unfold va_cpy
          dsimp only
          by_cases hi : dp ≤ i ∧ i < dp + n
          · rw [if_pos hi, if_pos (by omega)]
            congr 2
            omega
          · rw [if_neg hi, if_neg (by omega)]
        · rw [u1, arc_l] at hg
          rw [u2, arc_l] at hgj
          refine va_copyl hx hb (by rw [hml]; exact hk2.2.2.1.1.symm) hown (hts _ (TG_in g4 rfl)) (hts _ tg_nat) (hts _ tg_sta) (hts _ tg_sys) (tys2 (ty := .long) hk2.1 hT hj hk (by rw [hsj]; dsimp only; rw [u2]; rfl) (by rw [hsg]; dsimp only; rw [u1]; rfl)) hk2.1.1 hk2.1.2.1 hk2.2.1 j k 0 1 hgj hg rfl rfl rfl s1 d1 n1 (by rw [s2, n2]; omega) (by rw [d2, n2]; omega) (fun _ _ => rfl) (by omega) (by rw [cats_cv, show nativeFrameWords "java/lang/System" "arraycopy" 5 = 7 by decide]; omega) hd (fun H1 locs1 hP hD hS => hfin H1 locs1 _ ?_ hP hD hS)
          rw [hsg]
          dsimp only
          rw [u1, arc_l, cp2_eq, s2, d2, n2]
          congr 5
          funext i
          unfold va_cpy
          dsimp only
          by_cases hi : dp ≤ i ∧ i < dp + n
          · rw [if_pos hi, if_pos (by omega)]
            congr 2
            omega
          · rw [if_neg hi, if_neg (by omega)]
      · cases h
    · cases h
  · cases h

end
