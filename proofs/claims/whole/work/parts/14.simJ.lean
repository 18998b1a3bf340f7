/-! A run of the abstract machine is a run of the JVM. -/
theorem astep_ext {o : Option (List Int)} {f pc pc' len : Nat} {i : Instr} {ls st ls' st' : List AV} {σ σ' : Sh} {M M' : Mo} (h : astep o f pc i len ls st σ M = some (.inl (pc', ls', st', σ', M'))) : ∃ τ, σ' = σ ++ τ := by
  cases i <;> simp only [astep, ald, alda, ast, cst, bi, bz, bl, blz, bs, ava, jm, nx] at h <;> repeat' (first | (cases h; done) | (cases h; exact ⟨[], (List.append_nil _).symm⟩) | (cases h; exact ⟨_, rfl⟩) | (cases h; exact ⟨_, List.append_assoc _ _ _⟩) | split at h)
theorem arun_ext : ∀ (n : Nat) {o : Option (List Int)} {f pc : Nat} {ls st : List AV} {σ σ' : Sh} {M M' : Mo} {v : Option AV}, arun o n f pc ls st σ M = some (v, σ', M') → ∃ τ, σ' = σ ++ τ
  | 0, _, _, _, _, _, _, _, _, _, _, h => by
    unfold arun at h
    cases h
  | n + 1, _, _, _, _, _, _, _, _, _, _, h => by
    unfold arun at h
    split at h
    · split at h
      · rename_i h1
        obtain ⟨τ, rfl⟩ := astep_ext h1
        obtain ⟨τ2, rfl⟩ := arun_ext n h
        exact ⟨_, List.append_assoc _ _ _⟩
      · cases h
        exact ⟨[], (List.append_nil _).symm⟩
      · split at h
        · rename_i h1
          obtain ⟨τ, rfl⟩ := arun_ext n h1
          obtain ⟨τ2, rfl⟩ := arun_ext n h
          exact ⟨_, List.append_assoc _ _ _⟩
        · cases h
      · cases h
    · cases h
theorem ext_le {σ σ' : Sh} (h : ∃ τ, σ' = σ ++ τ) : σ.length ≤ σ'.length ∧ tot σ ≤ tot σ' := by
  obtain ⟨τ, rfl⟩ := h
  rw [List.length_append, tot_app]
  omega
def RetOK (f pc : Nat) (v : Option AV) : Prop := match v with
  | none => decode (bc f) pc = .ok (.return_, 1) ∧ rty f = none
  | some (t, x) => (t = 0 ∧ decode (bc f) pc = .ok (.ireturn, 1) ∧ (rty f = some .int ∨ rty f = some .boolean ∧ (x = 0 ∨ x = 1))) ∨ (t = 1 ∧ decode (bc f) pc = .ok (.lreturn, 1) ∧ rty f = some .long)
theorem ret_spec {o : Option (List Int)} {f pc len : Nat} {i : Instr} {ls st : List AV} {σ : Sh} {M : Mo} {v : Option AV} (hd : decode (bc f) pc = .ok (i, len)) (h : astep o f pc i len ls st σ M = some (.inr (.inl v))) : RetOK f pc v ∧ st = v.toList := by
  cases i with
  | ireturn =>
    unfold astep at h
    dsimp only at h
    split at h
    · rename_i hl
      subst hl
      split at h
      · split at h
        · rename_i hr
          cases h
          exact ⟨Or.inl ⟨rfl, hd, hr⟩, rfl⟩
        · cases h
      · cases h
    · cases h
  | lreturn =>
    unfold astep at h
    dsimp only at h
    split at h
    · rename_i hl
      subst hl
      split at h
      · split at h
        · rename_i hr
          cases h
          exact ⟨Or.inr ⟨rfl, hd, hr⟩, rfl⟩
        · cases h
      · cases h
    · cases h
  | return_ =>
    unfold astep at h
    dsimp only at h
    split at h
    · rename_i hl
      subst hl
      split at h
      · split at h
        · rename_i hr
          cases h
          exact ⟨⟨hd, hr⟩, rfl⟩
        · cases h
      · cases h
    · cases h
  | _ =>
    exfalso
    simp only [astep, ald, alda, ast, cst, bi, bz, bl, blz, bs, ava, jm, nx] at h
    repeat' (first | (cases h; done) | split at h)
theorem lg_cons (v : Value) (vs : List Value) : lg_sl (v :: vs) = (if v.category = 2 then [.val v, .second] else [.val v]) ++ lg_sl vs := by
  unfold lg_sl
  rw [List.flatMap_cons]
theorem ent_len (ad : Nat → Nat) : ∀ as : List AV, (lg_sl (as.map (cv ad 0))).length = (ent as).length
  | [] => rfl
  | v :: as => by
    rw [List.map_cons, lg_cons, cv_cat]
    unfold ent catv
    by_cases h : v.1 = 1
    · rw [if_pos h, if_pos rfl, if_pos h, List.length_append, ent_len ad as]
      simp
      omega
    · rw [if_neg h, if_neg (by decide), if_neg h, List.length_append, ent_len ad as]
      simp
      omega
theorem ent_get (ad : Nat → Nat) : ∀ (as : List AV) (i : Nat) (v : AV), (ent as)[i]? = some v → v.1 ≠ 9 → (lg_sl (as.map (cv ad 0)))[i]? = some (.val (cv ad 0 v))
  | [], i, v, h, _ => by
    unfold ent at h
    simp at h
  | w :: as, i, v, h, h9 => by
    rw [List.map_cons, lg_cons, cv_cat]
    unfold ent at h
    unfold catv
    by_cases h1 : w.1 = 1
    · rw [if_pos h1] at h
      rw [if_pos h1, if_pos rfl]
      match i, h with
      | 0, h =>
        cases h
        rfl
      | 1, h =>
        cases h
        exact absurd rfl h9
      | i + 2, h => exact ent_get ad as i v h h9
    · rw [if_neg h1] at h
      rw [if_neg h1, if_neg (by decide)]
      match i, h with
      | 0, h =>
        cases h
        rfl
      | i + 1, h => exact ent_get ad as i v h h9
theorem ent_ok {o : Option (List Int)} {n : Nat} : ∀ {as : List AV}, (∀ w ∈ as, okv o n w) → ∀ w ∈ ent as, okv o n w
  | [], _, w, hw => by
    unfold ent at hw
    cases hw
  | v :: as, h, w, hw => by
    have h9 : okv o n (9, 0) := ⟨⟨fun q => absurd q (by simp), fun q => absurd q (by simp), fun q => absurd q (by simp)⟩, fun q => absurd q (by simp), fun q => absurd q (by simp), Or.inr (Or.inr rfl)⟩
    have ih := fun w hw => ent_ok (fun w hw => h w (List.mem_cons_of_mem _ hw)) w hw
    unfold ent at hw
    split at hw
    · rcases List.mem_cons.mp hw with rfl | hw
      · exact h _ List.mem_cons_self
      · rcases List.mem_cons.mp hw with rfl | hw
        · exact h9
        · exact ih w hw
    · rcases List.mem_cons.mp hw with rfl | hw
      · exact h _ List.mem_cons_self
      · exact ih w hw
theorem Lc.entry {ad : Nat → Nat} {g : Nat} {as : List AV} (hl : (ent as).length ≤ mxl g) : Lc ad 0 g ((lg_sl (as.map (cv ad 0)) ++ List.replicate (mxl g - (lg_sl (as.map (cv ad 0))).length) Slot.unset).toArray) (entl g as) := by
  have h1 := lv_entry (as.map (cv ad 0)) (n := mxl g) (by rw [ent_len]; exact hl)
  refine ⟨h1.1, h1.2.1, ?_, fun i v hv h9 => ?_⟩
  · unfold entl
    rw [List.length_append, List.length_replicate]
    omega
  · unfold entl at hv
    by_cases hi : i < (ent as).length
    · rw [List.getElem?_append_left hi] at hv
      have h2 := ent_get ad as i v hv h9
      rw [List.getElem?_toArray, List.getElem?_append_left (by rw [ent_len]; exact hi)]
      exact h2
    · rw [List.getElem?_append_right (by omega), List.getElem?_replicate] at hv
      split at hv
      · cases hv
        exact absurd rfl h9
      · cases hv
theorem hrm {g mc ms : Nat} {ws : List Cond} : (headSpec ws (rmg g mc ms)).room = rmg g mc ms := rfl
set_option maxHeartbeats 2000000 in
theorem met_of {l : Launch} {g : Nat} (hg : g < 221) {as : List AV} {σ σ' : Sh} {M M' : Mo} {v : Option AV} {D : va_G} {base : Nat} (hle : σ.length ≤ σ'.length ∧ tot σ ≤ tot σ')
    (IH : ∀ {p : Program} {e : Env} {R : Room} {s : State} {m : MethodId} {args : Array Value} {below : List Frame} {meth : Method} {c : Code} {Q : State → Prop} {n0 s0 : Nat} {ad0 : Nat → Nat} {ac0 : Nat → ClassId}, Cx g none p R s m args meth c base 0 D → Rm R n0 s0 σ' → (∀ pc' ls', RetOK g pc' v → G p l e R s m args below meth c Q D base 0 none g n0 s0 ad0 ac0 pc' ls' v.toList σ' M') → G p l e R s m args below meth c Q D base 0 none g n0 s0 ad0 ac0 0 (entl g as) [] σ M)
    (ad : Nat → Nat) (ac : Nat → ClassId) (hok : ∀ w ∈ as, okv none σ.length w ∧ w.1 ≤ 2) (hent : (ent as).length ≤ mxl g) : Met l (nmm g) (wsg g) (rmg g (σ'.length - σ.length) (tot σ' - tot σ)) (PcG D base as σ M ad ac) (QcG D base σ.length v σ' M' ad ac) (σ'.length - σ.length) (tot σ' - tot σ) (fun q => base ≤ q) := by
  have hg2 : g ∈ List.range 222 := List.mem_range.mpr (by omega)
  refine Met.ofWF (cc := bc g) (maxL := mxl g) (ret := rty g) (g_pln g hg2) rfl ?_
  intro p e s m args below meth c s₁ B hml hv
  obtain ⟨rfl, hW, hT, hbs⟩ := hv
  have hts := atoms_spec (ws := wsg g) B.pre
  have hown : s.vm.findClass (nmm g).cls = some m.cls := findClass_of_methodNamed B.named
  rw [(g_cls g hg2).1] at hown
  have C : Cx g none p (rmg g (σ'.length - σ.length) (tot σ' - tot σ)) s m (as.map (cv ad 0)).toArray meth c base 0 D := ⟨B.exec, B.bytes, hml, hown, fun w hw => hts w (List.mem_cons_of_mem _ hw), B.returns, B.notSynchronized, fun h => by rw [(name_of_methodNamed B.named B.method).1]; exact h, Nat.le_refl _, Nat.le_refl _, hT, hbs, fun xs h => by cases h⟩
  rw [lg_entry_eq, hrm]
  have hres := IH (p := p) (e := e) (below := below) (Q := MQ below (QcG D base σ.length v σ' M' ad ac) (as.map (cv ad 0)).toArray s (σ'.length - σ.length) (tot σ' - tot σ) (fun q => base ≤ q)) (n0 := σ.length) (s0 := tot σ) (ad0 := ad) (ac0 := ac) C ⟨by show _ ≤ _ + (σ'.length - σ.length); omega, by show _ ≤ _ + (tot σ' - tot σ); omega⟩ ?_
  · have hcat : ∀ w ∈ entl g as, okv none σ.length w := by
      intro w hw
      unfold entl at hw
      rcases List.mem_append.mp hw with h | h
      · exact ent_ok (fun w hw => (hok w hw).1) w h
      · rw [(List.mem_replicate.mp h).2]
        exact ⟨⟨fun q => absurd q (by simp), fun q => absurd q (by simp), fun q => absurd q (by simp)⟩, fun q => absurd q (by simp), fun q => absurd q (by simp), Or.inr (Or.inr rfl)⟩
    exact hres s.heap [] 0 0 _ ad ac ⟨hW, va_S.rf, Lc.entry hent, hcat, (fun w hw => absurd hw List.not_mem_nil), by omega, by omega, fun k _ => ⟨rfl, rfl⟩⟩
  · intro pc' ls' hro H locs cells slots lsm ad' ac' hk
    have e1 := hk.2.2.2.2.2.1
    have e2 := hk.2.2.2.2.2.2.1
    have hc1 : cells = σ'.length - σ.length := by omega
    have hc2 : slots = tot σ' - tot σ := by omega
    subst hc1
    subst hc2
    have hq : ∀ t : State, t.heap = H → s.WarmedH t.vm → (∀ w, v = some w → okv none σ'.length w ∧ w.1 ≤ 1) → QcG D base σ.length v σ' M' ad ac (as.map (cv ad 0)).toArray s (.returned (v.map (cv ad' 0))) t := fun t ht hWt hvk =>
      ⟨ad', ac', rfl, by rw [ht]; exact hk.1.moved hWt.alike, hk.2.2.2.2.2.2.2, hvk, by rw [ht]; exact hk.2.1.1, fun q h1 h2 => by rw [ht]; exact hk.2.1.2.1 q h1 h2⟩
    have hf : ∀ q ∈ locs, base ≤ q.base := hk.2.1.2.2
    have hlocks := B.notSynchronized
    cases v with
    | none =>
      obtain ⟨h1, h2⟩ := hro
      exact W.vret B.exec B.bytes (by rw [B.returns]; exact h2) (fun t ht hWt => hq t ht hWt (fun w hw => by cases hw)) hf h1
    | some w =>
      have hwk := (hk.2.2.2.2.1 w List.mem_cons_self).1
      obtain ⟨t0, x⟩ := w
      rcases hro with ⟨rfl, h1, h2⟩ | ⟨rfl, h1, h2⟩
      · rcases h2 with h2 | ⟨h2, h3⟩
        · exact W.iret B.exec B.bytes (by rw [B.returns]; exact h2) (fun t ht hWt => hq t ht hWt (fun w hw => by cases hw; exact ⟨hwk, by simp⟩)) hf h1
        · exact W.zret (ty := .boolean) B.exec B.bytes (by rw [B.returns]; exact h2) (by rcases h3 with rfl | rfl <;> rfl) (fun t ht hWt => hq t ht hWt (fun w hw => by cases hw; exact ⟨hwk, by show (0 : Nat) ≤ 1; omega⟩)) hf h1
      · exact W.lret B.exec B.bytes (by rw [B.returns]; exact h2) (fun t ht hWt => hq t ht hWt (fun w hw => by cases hw; exact ⟨hwk, by simp⟩)) hf h1
theorem sim {l : Launch} {D : va_G} {base : Nat} : ∀ (n : Nat) {o : Option (List Int)} {f pc : Nat} {ls st : List AV} {σ σ' : Sh} {M M' : Mo} {v : Option AV}, arun o n f pc ls st σ M = some (v, σ', M') →
    ∀ {p : Program} {e : Env} {R : Room} {s : State} {m : MethodId} {args : Array Value} {below : List Frame} {meth : Method} {c : Code} {Q : State → Prop} {bb n0 s0 : Nat} {ad0 : Nat → Nat} {ac0 : Nat → ClassId}, Cx f o p R s m args meth c base bb D → Rm R n0 s0 σ' → (∀ pc' ls', RetOK f pc' v → G p l e R s m args below meth c Q D base bb o f n0 s0 ad0 ac0 pc' ls' v.toList σ' M') → G p l e R s m args below meth c Q D base bb o f n0 s0 ad0 ac0 pc ls st σ M
  | 0, _, _, _, _, _, _, _, _, _, _, h => by
    unfold arun at h
    cases h
  | n + 1, _, _, _, _, _, σ, σ', _, _, _, h => by
    intro C hR hret
    unfold arun at h
    split at h
    · rename_i i len hd
      split at h
      · rename_i pc1 ls1 st1 σ1 M1 h1
        have hx := ext_le (arun_ext n h)
        exact g_step C hd ⟨by have := hR.1; omega, by have := hR.2; omega⟩ h1 (sim n h C hR hret)
      · rename_i v0 h1
        cases h
        obtain ⟨h2, rfl⟩ := ret_spec hd h1
        exact hret _ _ h2
      · rename_i g as r h1
        split at h
        · rename_i v1 σ1 M1 h2
          have hx1 := ext_le (arun_ext n h2)
          have hx2 := ext_le (arun_ext n h)
          exact g_call C hd h1 ⟨by have := hR.1; omega, by have := hR.2; omega⟩ hx1 (fun hg ad ac hok hent => met_of hg hx1 (fun C2 hR2 hret2 => sim n h2 C2 hR2 hret2) ad ac hok hent) (sim n h C hR hret)
        · cases h
      · cases h
    · cases h
