/-! Calls; the abstract machine's run is the JVM's. -/
theorem aoa_spec {t : FieldType} {s : State} (h : va_AOA t s) : ∃ comp c k, s.vm.findClass (FieldType.array t).toString = some comp ∧ (s.vm.classes.findIdx? fun (x : Class) => match x.kind with | .array component _ => component == comp | _ => false) = some c ∧ s.vm.classes[c]? = some k ∧ k.kind = .array comp (.array t) ∧ s.vm.findClass ("[" ++ (FieldType.array t).toString) = some c := by
  unfold va_AOA Cond.before at h
  simp only [Cond.holds, Cond.value, beq_iff_eq] at h
  cases hc : s.vm.findClass (FieldType.array t).toString with
  | none => simp [hc] at h
  | some comp =>
    simp only [hc, Option.bind_some, Option.bind_eq_some_iff, Option.map_eq_some_iff] at h
    obtain ⟨c, hi, k, hk, hb⟩ := h
    obtain ⟨hlt, hp, -⟩ := Array.findIdx?_eq_some_iff_getElem.mp hi
    have hkk : s.vm.classes[c] = k := (Array.getElem?_eq_some_iff.mp hk).2
    rw [hkk] at hp
    cases hkind : k.kind with
    | array component ty =>
      rw [hkind] at hb hp
      simp at hb hp
      exact ⟨comp, c, k, rfl, hi, hk, by rw [hkind, hp, hb.1], hb.2⟩
    | _ => rw [hkind] at hb; simp at hb
theorem va_AOA.moved {t : FieldType} {u U : State} (hvm : u.vm.Alike U.vm) (h : va_AOA t u) : va_AOA t U := by
  obtain ⟨comp, c, k, h1, h2, h3, h4, h5⟩ := aoa_spec h
  obtain ⟨k', hk', he⟩ := hvm.2.2 _ _ h3
  have hi : (U.vm.classes.findIdx? fun (x : Class) => match x.kind with | .array component _ => component == comp | _ => false) = some c := by
    have e := va_idx_bare U.vm comp
    first | rw [hvm.bare_eq] at e | rw [← hvm.bare_eq] at e
    exact e.symm.trans ((va_idx_bare u.vm comp).trans h2)
  have hkind : k'.kind = .array comp (.array t) := by rw [he]; exact h4
  have f1 : U.vm.findClass (FieldType.array t).toString = some comp := by rw [hvm.findClass]; exact h1
  have f2 : U.vm.findClass ("[" ++ (FieldType.array t).toString) = some c := by rw [hvm.findClass]; exact h5
  unfold va_AOA Cond.before Cond.holds
  simp only [Cond.value]
  rw [f1, Option.bind_some]
  refine (congrArg (fun o : Option Nat => (o.bind (fun c => (U.vm.classes[c]?).map fun (k : Class) => match k.kind with | .array _ ty => decide (ty = FieldType.array t) && decide (U.vm.findClass ("[" ++ (FieldType.array t).toString) = some c) | _ => false) == some true)) hi).trans ?_
  simp [hk', hkind, f2]
def wsg (g : Nat) : List Cond := Cond.code (nmm g) (bc g) (mxl g) (rty g) :: TG
theorem wsg_good {g : Nat} (h : g < 221) : GoodIn TG (wsg g) := by
  intro w hw
  have hm : w ∈ TG := by
    rcases List.mem_cons.mp hw with rfl | hw
    · exact TG_in (cw_all h) rfl
    · exact hw
  exact ⟨hm, good_of_word (List.mem_filter.mp hm).2⟩
theorem Met.ofWF {l : Launch} {y : MethodName} {ws ws' : List Cond} {rm : Room} {Pc : Array Value → State → Prop} {Qc : Array Value → State → Outcome → State → Prop} {mc ms : Nat} {free : Addr → Prop} {cc : ByteArray} {maxL : Nat} {ret : Option FieldType}
    (hy : plainFor y = true) (hw : ws = Cond.code y cc maxL ret :: ws')
    (body : ∀ p e s m args below meth c s₁, BodyLoose p l y (headSpec ws rm) cc maxL ret e s m args below meth c s₁ → c.maxLocals = maxL → Pc args s →
      W p l e (headSpec ws rm).room s m args below meth c s.heap [] 0 0 (MQ below Qc args s mc ms free) (entryFrame m args maxL)) : Met l y ws rm Pc Qc mc ms free := by
  refine MetFree.of_bodySF (code := cc) (maxLocals := maxL) (ret := ret) hy ?_ ?_
  · intro args s m h hn
    obtain ⟨meth, c, h1, h2, h3, h4, h5, h6, -, -⟩ := Cond.code_spec hn (atoms_spec (ws := ws) h _ (by rw [hw]; exact List.mem_cons_self))
    exact ⟨meth, c, h1, h2, h3, h4, h5, h6⟩
  · intro p e s m args below meth c s₁ B hml hP _
    have hh0 : s₁.heap = s.heap := by rw [B.state]; rfl
    obtain ⟨t, a1, o, b1, b2, b3⟩ := body p e s m args below meth c s₁ B hml hP s₁ hh0 (Stand.of_body B)
    exact ⟨t, o, a1, b1, b2, ⟨b3.1, b3.2⟩⟩
theorem Wo.moved {D : va_G} {ad : Nat → Nat} {ac : Nat → ClassId} {base : Nat} {s U : State} {σ : Sh} {M : Mo} {H : Heap} (hvm : s.vm.Alike U.vm) (h : Wo D ad ac base s σ M H) : Wo D ad ac base U σ M H :=
  ⟨h.1, h.2.1, fun k hk ty ht => ⟨arrOfT_moved hvm (h.2.2.1 k hk ty ht).1, (h.2.2.1 k hk ty ht).2.moved hvm⟩, h.2.2.2⟩
theorem Tb.warm {D : va_G} {s U : State} (hW : s.WarmedH U.vm) (h : Tb D s) : Tb D U :=
  ⟨h.1.moved hW.alike, fun e he h3 h5 => va_Nw.warmM hW (h.2.1 e he h3 h5), h.2.2.1.moved hW.alike, h.2.2.2.1.moved hW.alike, h.2.2.2.2.moved hW.alike⟩
theorem Tb.same {D : va_G} {s U : State} (hv : s.vm = U.vm) (h : Tb D s) : Tb D U :=
  ⟨h.1.moved (by rw [hv]; exact Vm.Alike.refl _), fun e he h3 h5 => va_Nw.same rfl hv (h.2.1 e he h3 h5), h.2.2.1.moved (by rw [hv]; exact Vm.Alike.refl _), h.2.2.2.1.moved (by rw [hv]; exact Vm.Alike.refl _), h.2.2.2.2.moved (by rw [hv]; exact Vm.Alike.refl _)⟩
/-- a call's start and its end -/
def PcG (D : va_G) (base : Nat) (as : List AV) (σ : Sh) (M : Mo) (ad : Nat → Nat) (ac : Nat → ClassId) : Array Value → State → Prop := fun v U => v = (as.map (cv ad 0)).toArray ∧ Wo D ad ac base U σ M U.heap ∧ Tb D U ∧ base ≤ U.heap.size
def QcG (D : va_G) (base n0 : Nat) (v : Option AV) (σ' : Sh) (M' : Mo) (ad : Nat → Nat) (ac : Nat → ClassId) : Array Value → State → Outcome → State → Prop := fun _ st oc t => ∃ (ad' : Nat → Nat) (ac' : Nat → ClassId), oc = .returned (v.map (cv ad' 0)) ∧ Wo D ad' ac' base t σ' M' t.heap ∧ (∀ k, k < n0 → ad' k = ad k ∧ ac' k = ac k) ∧ (∀ w, v = some w → okv none σ'.length w ∧ w.1 ≤ 1) ∧ st.heap.size ≤ t.heap.size ∧ ∀ q : Nat, q < st.heap.size → ¬ base ≤ q → t.heap[q]? = st.heap[q]?
theorem PcG.blind {D : va_G} {base : Nat} {as : List AV} {σ : Sh} {M : Mo} {ad : Nat → Nat} {ac : Nat → ClassId} : FrameBlind (PcG D base as σ M ad ac) := fun a U g mk q => ⟨q.1, Wo.moved (U := U.calling g mk a) (Vm.Alike.refl U.vm) q.2.1, q.2.2.1.same rfl, q.2.2.2⟩
def rmg (g mc ms : Nat) : Room := { frames := hgt g, cells := mc, slots := ms, locals := 40 * hgt g }
theorem pops_spec : ∀ {n : Nat} {st as r : List AV}, pops n st = some (as, r) → st = as.reverse ++ r ∧ as.length = n
  | 0, st, as, r, h => by
    unfold pops at h
    cases h
    exact ⟨rfl, rfl⟩
  | n + 1, [], as, r, h => by
    unfold pops at h
    cases h
  | n + 1, v :: st, as, r, h => by
    unfold pops at h
    split at h
    · rename_i as0 r0 h0
      cases h
      obtain ⟨h1, h2⟩ := pops_spec h0
      exact ⟨by rw [h1, List.reverse_append]; rfl, by rw [List.length_append, h2]; rfl⟩
    · cases h
theorem ava_spec {f len : Nat} {st : List AV} {σ : Sh} {idx : Nat} {kds : List Nat} {g : Nat} {as r : List AV} (h : ava f len st σ idx kds = some (.inr (.inr (g, as, r)))) : len = 3 ∧ ∃ x, mlk (own f) idx = some x ∧ kds.contains x.2.2.2.1 = true ∧ x.2.2.1 = g ∧ pops (npr g + (if sta g then 0 else 1)) st = some (as, r) ∧ cats r ≤ 8 ∧ hgt g < hgt f ∧ rcv σ g as = true ∧ (ent as).length ≤ mxl g ∧ (as.all fun v => v.1 == 0 || v.1 == 1 || v.1 == 2) = true := by
  unfold ava at h
  split at h
  · rename_i hl
    split at h
    · rename_i x hx
      split at h
      · rename_i hk
        split at h
        · rename_i as0 r0 hp
          split at h
          · rename_i hc
            cases h
            exact ⟨hl, x, hx, hk, rfl, hp, hc⟩
          · cases h
        · cases h
      · cases h
    · cases h
  · cases h
theorem cv_all {ad : Nat → Nat} {b b' : Nat} {as : List AV} (h : (as.all fun v => v.1 == 0 || v.1 == 1 || v.1 == 2) = true) : as.map (cv ad b) = as.map (cv ad b') := by
  apply List.map_congr_left
  intro v hv
  have := List.all_eq_true.mp h v hv
  simp only [Bool.or_eq_true, beq_iff_eq] at this
  exact cv_bb (by omega)
section
variable {p : Program} {l : Launch} {e : Env} {R : Room} {s : State} {m : MethodId} {args : Array Value} {below : List Frame} {meth : Method} {c : Code} {Q : State → Prop} {D : va_G} {base bb : Nat} {o : Option (List Int)} {f n0 s0 : Nat} {ad0 : Nat → Nat} {ac0 : Nat → ClassId}
variable {pc pc' len : Nat} {ls st ls' st' : List AV} {σ σ' : Sh} {M M' : Mo}
/-- behind a call -/
theorem g_ret {g mc ms : Nat} {as r : List AV} {v : Option AV} {st0 : List Value} {H : Heap} {locs : List Loc} {cells slots : Nat} {lsm : Array Slot} {ad : Nat → Nat} {ac : Nat → ClassId}
    (hk2 : Ok D base bb o f n0 s0 ad0 ac0 s H locs cells slots lsm ls st σ M ad ac) (hr : ∀ w ∈ r, okv o σ.length w ∧ w.1 ≠ 9) (hmc : σ.length + mc = σ'.length) (hms : tot σ + ms = tot σ')
    (run : va_Run p l e R s m args below meth c H locs cells slots mc ms (F0 m pc lsm st0) (r.map (cv ad bb)) (QcG D base σ.length v σ' M' ad ac (as.map (cv ad 0)).toArray) (fun q => base ≤ q))
    (hG : G p l e R s m args below meth c Q D base bb o f n0 s0 ad0 ac0 (pc + 3) ls (v.toList ++ r) σ' M') : W p l e R s m args below meth c H locs cells slots Q (F0 m pc lsm st0) := by
  intro T hT X
  obtain ⟨v', st₀, t, T', L, h0, X', hL, e1, e2, ⟨ad', ac', hv, hW, hext, hok, hz, hkp⟩, stp⟩ := run T hT X
  have hal : s.vm.Alike t.vm := by rw [← e2]; exact X'.warmed.alike
  cases hv
  rw [h0] at hz hkp
  have hS : va_S (fun q => base ≤ q) s.heap T'.heap (locs ++ L) := ⟨Nat.le_trans hk2.2.1.1 (by rw [e1]; exact hz), fun q h1 h2 => by rw [e1, hkp q (Nat.lt_of_lt_of_le h1 hk2.2.1.1) h2]; exact hk2.2.1.2.1 q h1 h2, fun q hq => by
      rcases List.mem_append.mp hq with h | h
      · exact hk2.2.1.2.2 q h
      · exact hL q h⟩
  have hle : σ.length ≤ σ'.length := by omega
  have had : ∀ k, k < σ.length → ad' k = ad k := fun k hk => (hext k hk).1
  have hOk : Ok D base bb o f n0 s0 ad0 ac0 s T'.heap (locs ++ L) (cells + mc) (slots + ms) lsm ls (v.toList ++ r) σ' M' ad' ac' := by
    refine ⟨by rw [e1]; exact hW.moved hal.symm, hS, ⟨hk2.2.2.1.1, hk2.2.2.1.2.1, hk2.2.2.1.2.2.1, fun i w hw h9 => ?_⟩, fun w hw => okv_mono (hk2.2.2.2.1 w hw) hle, ?_, by have := hk2.2.2.2.2.2.1; omega, by have := hk2.2.2.2.2.2.2.1; omega, fun k hk => ?_⟩
    · rw [cv_ad (hk2.2.2.2.1 w (List.mem_of_getElem? hw)) had]
      exact hk2.2.2.1.2.2.2 i w hw h9
    · intro w hw
      rcases List.mem_append.mp hw with h | h
      · cases v with
        | none => cases h
        | some w0 =>
          have : w = w0 := by simpa using h
          subst this
          obtain ⟨q1, q2⟩ := hok w rfl
          exact ⟨⟨q1.1, q1.2.1, fun q => by omega, q1.2.2.2⟩, by omega⟩
      · exact ⟨okv_mono (hr w h).1 hle, (hr w h).2⟩
    · have h1 := hk2.2.2.2.2.2.2.2 k hk
      have h2 : k < σ.length := by have := hk2.2.2.2.2.2.1; omega
      obtain ⟨h3, h4⟩ := hext k h2
      exact ⟨h3.trans h1.1, h4.trans h1.2⟩
  obtain ⟨t2, a1, b1⟩ := hG T'.heap (locs ++ L) (cells + mc) (slots + ms) lsm ad' ac' hOk T' rfl X'
  refine ⟨t2, stp t2 ?_, b1⟩
  have hst : (v.toList ++ r).map (cv ad' bb) = (v.map (cv ad' 0)).toList ++ r.map (cv ad bb) := by
    rw [List.map_append, map_cv hr had]
    congr 1
    cases v with
    | none => rfl
    | some w =>
      obtain ⟨q1, q2⟩ := hok w rfl
      show [cv ad' bb w] = [cv ad' 0 w]
      rw [cv_bb (b := bb) (b' := 0) (by omega)]
  rw [hst] at a1
  exact a1
set_option maxHeartbeats 2000000 in
theorem g_call (C : Cx f o p R s m args meth c base bb D) {i : Instr} (hd : decode (bc f) pc = .ok (i, len)) {g : Nat} {as r : List AV} {v : Option AV} (h : astep o f pc i len ls st σ M = some (.inr (.inr (g, as, r)))) (hR : Rm R n0 s0 σ') (hmono : σ.length ≤ σ'.length ∧ tot σ ≤ tot σ')
    (hM : g < 221 → ∀ (ad : Nat → Nat) (ac : Nat → ClassId), (∀ w ∈ as, okv none σ.length w ∧ w.1 ≤ 2) → (ent as).length ≤ mxl g → Met l (nmm g) (wsg g) (rmg g (σ'.length - σ.length) (tot σ' - tot σ)) (PcG D base as σ M ad ac) (QcG D base σ.length v σ' M' ad ac) (σ'.length - σ.length) (tot σ' - tot σ) (fun q => base ≤ q))
    (hG : G p l e R s m args below meth c Q D base bb o f n0 s0 ad0 ac0 (pc + 3) ls (v.toList ++ r) σ' M') : G p l e R s m args below meth c Q D base bb o f n0 s0 ad0 ac0 pc ls st σ M := by
  obtain ⟨hx, hb, hml, hown, hts, -, -, -, hfr, hlo, hT, hbs, -⟩ := C
  -- the three kinds
  have main : ∀ (idx : Nat) (kds : List Nat), ava f len st σ idx kds = some (.inr (.inr (g, as, r))) → (kds = [0, 3] ∧ i = .invokevirtual idx ∨ kds = [1, 4] ∧ i = .invokestatic idx ∨ kds = [2, 5] ∧ i = .invokespecial idx) → G p l e R s m args below meth c Q D base bb o f n0 s0 ad0 ac0 pc ls st σ M := by
    intro idx kds hav hkd
    obtain ⟨rfl, x, hx1, hx2, hx3, hpop, hcat, hht, hrc, hent, hall⟩ := ava_spec hav
    obtain ⟨hst, hlen⟩ := pops_spec hpop
    obtain ⟨m1, m2, m3, m4⟩ := mlk_spec hx1
    have hknd : x.2.2.2.1 = 0 ∨ x.2.2.2.1 = 3 ∨ x.2.2.2.1 = 1 ∨ x.2.2.2.1 = 4 ∨ x.2.2.2.1 = 2 ∨ x.2.2.2.1 = 5 := by
      rcases hkd with ⟨rfl, -⟩ | ⟨rfl, -⟩ | ⟨rfl, -⟩ <;> simp only [List.contains_cons, List.contains_nil, Bool.or_false, Bool.or_eq_true, beq_iff_eq] at hx2 <;> omega
    unfold mOk at m4
    rw [if_neg (by omega), if_neg (by omega), decide_eq_true_eq, m1, m2, hx3] at m4
    obtain ⟨-, hg222, w1, w2, w3, w4, w5⟩ := m4
    have hg : g < 221 := by
      rcases Nat.lt_or_ge g 221 with q | q
      · exact q
      · have : g = 221 := by omega
        subst this
        exact absurd hht (by
          have : hgt f ≤ 8 := by
            have : ∀ f, hgt f ≤ 8 := by
              intro f
              unfold hgt mt
              rw [List.getD_eq_getElem?_getD]
              cases hq : mtL[f]? with
              | none => decide
              | some y =>
                have hy := List.mem_of_getElem? hq
                have : ∀ y ∈ mtL, y.2.2.2.2.2.1 ≤ 8 := by decide +kernel
                exact this y hy
            exact this f
          have : hgt 221 = 8 := by decide +kernel
          omega)
    have hcl := g_cls g (List.mem_range.mpr hg222)
    have hnm := g_nam g (List.mem_range.mpr hg222)
    have hnp := g_npr g (List.mem_range.mpr hg222)
    intro H locs cells slots lsm ad ac hk2
    have hokst := hk2.sto
    have hokr : ∀ w ∈ r, okv o σ.length w ∧ w.1 ≠ 9 := fun w hw => hokst w (by rw [hst]; exact List.mem_append_right _ hw)
    have hoka : ∀ w ∈ as, okv none σ.length w ∧ w.1 ≤ 2 := fun w hw => by
      have h1 := hokst w (by rw [hst]; exact List.mem_append_left _ (List.mem_reverse.mpr hw))
      have h2 := List.all_eq_true.mp hall w hw
      simp only [Bool.or_eq_true, beq_iff_eq] at h2
      exact ⟨⟨h1.1.1, h1.1.2.1, fun q => by omega, Or.inl (by omega)⟩, by omega⟩
    have hMet := hM hg ad ac hoka hent
    obtain ⟨r1, r2⟩ := hR
    have e1 := hk2.2.2.2.2.2.1
    have e2 := hk2.2.2.2.2.2.2.1
    have hroom : (rmg g (σ'.length - σ.length) (tot σ' - tot σ)).frames + 1 ≤ R.frames ∧ 8 + (mxl g + 11) + (rmg g (σ'.length - σ.length) (tot σ' - tot σ)).locals ≤ R.locals := ⟨by show hgt g + 1 ≤ _; omega, by show 8 + (mxl g + 11) + 40 * hgt g ≤ _; have := hcl.2; omega⟩
    have hcr : cells + (σ'.length - σ.length) ≤ R.cells ∧ slots + (tot σ' - tot σ) ≤ R.slots := by omega
    have hini : (Cond.initialized (nmm g).cls).before args s = true := hts _ (TG_in w1 rfl)
    have hdd : (nmm g).cls ≠ "java/lang/invoke/MethodHandle" ∧ (nmm g).cls ≠ "java/lang/invoke/VarHandle" ∧ (parseMethodDescriptor (nmm g).desc).map (fun d => d.parameters.length) = some (npr g) := ⟨hnm.1, hnm.2, hnp⟩
    have hmapst : st.map (cv ad bb) = (as.map (cv ad 0)).reverse ++ r.map (cv ad bb) := by
      rw [hst, List.map_append, List.map_reverse, cv_all (b := bb) (b' := 0) hall]
    have hPc : ∀ U : State, U.heap = H → s.WarmedH U.vm → PcG D base as σ M ad ac (as.map (cv ad 0)).toArray U := fun U hU hW => ⟨rfl, by rw [hU]; exact hk2.1.moved hW.alike, hT.warm hW, by rw [hU]; have := hk2.2.1.1; omega⟩
    have fix : CallFix p m c (bc f) (mxl f) s args TG (cn (own f)) := ⟨hx, hb, hml, hown, hts⟩
    have hcw : (r.map (cv ad bb) |>.map fun v => v.category).sum ≤ 8 := by rw [cats_cv]; exact hcat
    rw [hmapst]
    refine g_ret (g := g) (mc := σ'.length - σ.length) (ms := tot σ' - tot σ) (as := as) (v := v) hk2 hokr (by omega) (by omega) ?_ hG
    have hB : x.2.2.2.1 < 3 → CallB R s args (cn (own f)) idx (nmm g) (bc g) (mxl g) (rty g) (wsg g) (rmg g (σ'.length - σ.length) (tot σ' - tot σ)) (σ'.length - σ.length) (tot σ' - tot σ) (npr g) := fun h3 => by
      rw [if_pos h3] at w2
      exact callB_of (npr g) hts (wsg_good hg) rfl rfl rfl hini (hts _ (TG_in w2 rfl)) hdd hroom
    have hN : 3 ≤ x.2.2.2.1 → va_CN R s args (cn (own f)) idx (nmm g) "SpunModules" (bc g) (mxl g) (rty g) (wsg g) (rmg g (σ'.length - σ.length) (tot σ' - tot σ)) (σ'.length - σ.length) (tot σ' - tot σ) (npr g) := fun h3 => by
      have hw := hT.2.1 x m3 h3 (by omega)
      rw [m1, m2, hx3] at hw
      exact va_cnB (npr g) hts (wsg_good hg) rfl rfl rfl hw hini hdd hroom
    rcases hkd with ⟨rfl, rfl⟩ | ⟨rfl, rfl⟩ | ⟨rfl, rfl⟩
    · -- virtual
      have hk3 : x.2.2.2.1 % 3 = 0 := by
        simp only [List.contains_cons, List.contains_nil, Bool.or_false, Bool.or_eq_true, beq_iff_eq] at hx2
        omega
      rw [if_neg (by omega)] at w3
      rw [if_pos hk3] at w4
      have hsta : sta g = false := w3.2
      rw [hsta] at hlen
      unfold rcv at hrc
      rw [hsta] at hrc
      cases as with
      | nil => simp at hrc
      | cons a0 as0 =>
        obtain ⟨t0, z0⟩ := a0
        have ht0 : t0 = 2 := by
          rcases (show t0 = 2 ∨ t0 ≠ 2 by omega) with q | q
          · exact q
          · simp only [Bool.false_or] at hrc
            split at hrc
            · rename_i heq
              cases heq
              rfl
            · cases hrc
        subst ht0
        simp only [Bool.false_or, decide_eq_true_eq] at hrc
        have hown11 : own g < 11 := by
          have h1 := (hoka _ List.mem_cons_self).1.2.1 rfl
          have h2 := ((hoka _ List.mem_cons_self).1.1.2.2 rfl).2
          have h1 : 0 ≤ z0 := h1
          have h2 : z0 < σ.length := h2
          have h3 := hk2.1.2.2.2.2 z0.toNat (by omega)
          unfold shp at hrc
          rw [if_neg (by omega)] at hrc
          have hsg : sg σ z0.toNat = (own g, nfl (own g)) := hrc
          rw [hsg] at h3
          dsimp only at h3
          rcases h3 with h3 | h3
          · exact h3.1
          · have : ∀ g ∈ List.range 222, own g < 20 := by decide +kernel
            have := this g (List.mem_range.mpr hg222)
            omega
        obtain ⟨k, rfl, hk, hsg⟩ := shp_spec hrc (by omega)
        have hgk := wso_get ad ac σ M hk
        rw [hsg] at hgk
        dsimp only at hgk
        rw [arc_o hown11] at hgk
        have hrcv := va_recv hT.1 hk2.1.1 (vw_get2 hown11) hgk
        have hmp : ((2, (k : Int)) :: as0).map (cv ad 0) = .ref (ad k) :: as0.map (cv ad 0) := by
          rw [List.map_cons, cv2 _ _ (by omega), Int.toNat_natCast]
        have hrs : (((2, (k : Int)) :: as0).map (cv ad 0)).reverse = (as0.map (cv ad 0)).reverse ++ [.ref (ad k)] := by rw [hmp, List.reverse_cons]
        have hpre : PreV s H (nmm g).cls (ad k) (PcG D base ((2, (k : Int)) :: as0) σ M ad ac) (as0.map (cv ad 0)) := ⟨PcG.blind, by rw [hcl.1]; exact hrcv, fun U hU hW => by rw [← hmp]; exact hPc U hU hW⟩
        have hin : (Cond.instanceMethod (nmm g)).before args s = true := hts _ (TG_in w3.1 rfl)
        have hse : (Cond.selects (nmm g).cls (nmm g) (nmm g)).before args s = true := hts _ (TG_in w4 rfl)
        have hl0 : (as0.map (cv ad 0)).length = npr g := by rw [List.length_map]; simpa using hlen
        have hstk : (((2, (k : Int)) :: as0).map (cv ad 0)).reverse ++ r.map (cv ad bb) = (as0.map (cv ad 0)).reverse ++ .ref (ad k) :: r.map (cv ad bb) := by rw [hrs, List.append_assoc]; rfl
        rw [hstk, hmp]
        by_cases hq3 : x.2.2.2.1 < 3
        · exact va_runV fix hMet ⟨hB hq3, hin, hse⟩ hpre rfl hl0 hk2.2.2.1.1 rfl (lv_room hcw) hd hcr
        · exact va_runVN fix hMet ⟨hN (by omega), hin, hse⟩ hpre rfl hl0 hk2.2.2.1.1 rfl (lv_room hcw) hd hcr
    · -- static
      have hk3 : x.2.2.2.1 % 3 = 1 := by
        simp only [List.contains_cons, List.contains_nil, Bool.or_false, Bool.or_eq_true, beq_iff_eq] at hx2
        omega
      rw [if_pos hk3] at w3
      rw [w3.2] at hlen
      have hstt : (Cond.static (nmm g)).before args s = true := hts _ (TG_in w3.1 rfl)
      have hpre : PreS s H (PcG D base as σ M ad ac) (as.map (cv ad 0)) := ⟨PcG.blind, hPc⟩
      have hl0 : (as.map (cv ad 0)).length = npr g := by rw [List.length_map]; simpa using hlen
      by_cases hq3 : x.2.2.2.1 < 3
      · exact va_runS fix hMet ⟨hB hq3, hstt⟩ hpre rfl hl0 hk2.2.2.1.1 rfl (lv_room hcw) hd hcr
      · exact va_runSN fix hMet ⟨hN (by omega), hstt, trivial⟩ hpre rfl hl0 hk2.2.2.1.1 rfl (lv_room hcw) hd hcr
    · -- a constructor
      have hk3 : x.2.2.2.1 % 3 = 2 := by
        simp only [List.contains_cons, List.contains_nil, Bool.or_false, Bool.or_eq_true, beq_iff_eq] at hx2
        omega
      rw [if_neg (by omega)] at w3
      rw [if_pos hk3] at w5
      have hsta : sta g = false := w3.2
      rw [hsta] at hlen
      unfold rcv at hrc
      rw [hsta] at hrc
      cases as with
      | nil => simp at hrc
      | cons a0 as0 =>
        obtain ⟨t0, z0⟩ := a0
        have ht0 : t0 = 2 := by
          rcases (show t0 = 2 ∨ t0 ≠ 2 by omega) with q | q
          · exact q
          · simp only [Bool.false_or] at hrc
            split at hrc
            · rename_i heq
              cases heq
              rfl
            · cases hrc
        subst ht0
        have h0 : 0 ≤ z0 := (hoka _ List.mem_cons_self).1.2.1 rfl
        have hmp : ((2, z0) :: as0).map (cv ad 0) = .ref (ad z0.toNat) :: as0.map (cv ad 0) := by
          rw [List.map_cons, cv2 _ _ h0]
        have hrs : (((2, z0) :: as0).map (cv ad 0)).reverse = (as0.map (cv ad 0)).reverse ++ [.ref (ad z0.toNat)] := by rw [hmp, List.reverse_cons]
        have hpre : PreS s H (PcG D base ((2, z0) :: as0) σ M ad ac) (.ref (ad z0.toNat) :: as0.map (cv ad 0)) := ⟨PcG.blind, fun U hU hW => by rw [← hmp]; exact hPc U hU hW⟩
        have hin : (Cond.instanceMethod (nmm g)).before args s = true := hts _ (TG_in w3.1 rfl)
        have hl0 : (as0.map (cv ad 0)).length = npr g := by rw [List.length_map]; simpa using hlen
        have hstk : (((2, z0) :: as0).map (cv ad 0)).reverse ++ r.map (cv ad bb) = (as0.map (cv ad 0)).reverse ++ .ref (ad z0.toNat) :: r.map (cv ad bb) := by rw [hrs, List.append_assoc]; rfl
        rw [hstk, hmp]
        rw [w5.2] at hB hN
        by_cases hq3 : x.2.2.2.1 < 3
        · exact va_runI fix hMet ⟨hB hq3, w5.1, hin⟩ hpre rfl hl0 hk2.2.2.1.1 rfl (lv_room hcw) hd hcr
        · exact va_runIN fix hMet ⟨hN (by omega), w5.1, hin⟩ hpre rfl hl0 hk2.2.2.1.1 rfl (lv_room hcw) hd hcr
  cases i with
  | invokevirtual n => exact main n [0, 3] h (Or.inl ⟨rfl, rfl⟩)
  | invokestatic n =>
    unfold astep at h
    dsimp only at h
    split at h
    · exfalso
      split at h
      · split at h
        · split at h <;> cases h
        · cases h
      · cases h
    · exact main n [1, 4] h (Or.inr (Or.inl ⟨rfl, rfl⟩))
  | invokespecial n =>
    unfold astep at h
    dsimp only at h
    split at h
    · exfalso
      split at h
      · split at h
        · split at h <;> cases h
        · cases h
      · cases h
    · exact main n [2, 5] h (Or.inr (Or.inr ⟨rfl, rfl⟩))
  | _ =>
    exfalso
    simp only [astep, ald, alda, ast, cst, bi, bz, bl, blz, bs, jm, nx] at h
    repeat' (first | (cases h; done) | split at h)
end
