/-! Each simple instruction of the abstract machine is one of the JVM. -/
section
variable {p : Program} {l : Launch} {e : Env} {R : Room} {s : State} {m : MethodId} {args : Array Value} {below : List Frame} {meth : Method} {c : Code} {Q : State → Prop} {D : va_G} {base bb : Nat} {o : Option (List Int)} {f n0 s0 : Nat} {ad0 : Nat → Nat} {ac0 : Nat → ClassId}
variable {pc pc' len : Nat} {ls st ls' st' : List AV} {σ σ' : Sh} {M M' : Mo}
theorem nx_inj {pc pc' : Nat} {ls st ls' st' : List AV} {σ σ' : Sh} {M M' : Mo} (h : nx pc ls st σ M = some (.inl (pc', ls', st', σ', M'))) : pc' = pc ∧ ls' = ls ∧ st' = st ∧ σ' = σ ∧ M' = M := by
  unfold nx at h
  cases h
  exact ⟨rfl, rfl, rfl, rfl, rfl⟩
theorem Ok.stk {H : Heap} {locs : List Loc} {cells slots : Nat} {lsm : Array Slot} {ad : Nat → Nat} {ac : Nat → ClassId} (h : Ok D base bb o f n0 s0 ad0 ac0 s H locs cells slots lsm ls st σ M ad ac) (hs : ∀ v ∈ st', okv o σ.length v ∧ v.1 ≠ 9) : Ok D base bb o f n0 s0 ad0 ac0 s H locs cells slots lsm ls st' σ M ad ac :=
  ⟨h.1, h.2.1, h.2.2.1, h.2.2.2.1, hs, h.2.2.2.2.2⟩
theorem Ok.sto {H : Heap} {locs : List Loc} {cells slots : Nat} {lsm : Array Slot} {ad : Nat → Nat} {ac : Nat → ClassId} (h : Ok D base bb o f n0 s0 ad0 ac0 s H locs cells slots lsm ls st σ M ad ac) : ∀ v ∈ st, okv o σ.length v ∧ v.1 ≠ 9 := h.2.2.2.2.1
theorem ok_c1 {n : Nat} {v : AV} {st : List AV} (hv : okv o n v) (h9 : v.1 ≠ 9) (h : ∀ w ∈ st, okv o n w ∧ w.1 ≠ 9) : ∀ w ∈ v :: st, okv o n w ∧ w.1 ≠ 9 := by
  intro w hw
  rcases List.mem_cons.mp hw with rfl | hw
  · exact ⟨hv, h9⟩
  · exact h w hw
theorem ok_t1 {n : Nat} {v : AV} {st : List AV} (h : ∀ w ∈ v :: st, okv o n w ∧ w.1 ≠ 9) : ∀ w ∈ st, okv o n w ∧ w.1 ≠ 9 := fun w hw => h w (List.mem_cons_of_mem _ hw)
theorem ok_rng {n : Nat} {x : Int} {st : List AV} (h : ∀ w ∈ (0, x) :: st, okv o n w ∧ w.1 ≠ 9) : -2147483648 ≤ x ∧ x < 2147483648 := (h _ List.mem_cons_self).1.1.1 rfl
theorem ok_rngl {n : Nat} {x : Int} {st : List AV} (h : ∀ w ∈ (1, x) :: st, okv o n w ∧ w.1 ≠ 9) : -9223372036854775808 ≤ x ∧ x < 9223372036854775808 := (h _ List.mem_cons_self).1.1.2.1 rfl
theorem ok_rngr {n : Nat} {x : Int} {st : List AV} (h : ∀ w ∈ (2, x) :: st, okv o n w ∧ w.1 ≠ 9) : 0 ≤ x ∧ x < n := ⟨(h _ List.mem_cons_self).1.2.1 rfl, ((h _ List.mem_cons_self).1.1.2.2 rfl).2⟩
theorem g_bi {g : Int32 → Int32 → Int32} (row : len = 1 → ∀ (H : Heap) (locs : List Loc) (cells slots : Nat) (lsm : Array Slot) (x y : Int32) (rest : List Value), W p l e R s m args below meth c H locs cells slots Q (F0 m (pc + 1) lsm (.int (g x y) :: rest)) → W p l e R s m args below meth c H locs cells slots Q (F0 m pc lsm (.int y :: .int x :: rest)))
    (h : bi g len pc ls st σ M = some (.inl (pc', ls', st', σ', M'))) (hG : G p l e R s m args below meth c Q D base bb o f n0 s0 ad0 ac0 pc' ls' st' σ' M') : G p l e R s m args below meth c Q D base bb o f n0 s0 ad0 ac0 pc ls st σ M := by
  unfold bi at h
  split at h
  · rename_i hl
    split at h
    · rename_i y x st0
      obtain ⟨rfl, rfl, rfl, rfl, rfl⟩ := nx_inj h
      intro H locs cells slots lsm ad ac hk
      have k := hG H locs cells slots lsm ad ac (hk.stk (ok_c1 (okv_i _ _ _) (by simp) (ok_t1 (ok_t1 hk.sto))))
      rw [List.map_cons, cv0, Int32.ofInt_toInt] at k
      exact row hl H locs cells slots lsm _ _ _ k
    · cases h
  · cases h
theorem g_bz {g : Int32 → Int32 → Int32} (row : len = 1 → ∀ (H : Heap) (locs : List Loc) (cells slots : Nat) (lsm : Array Slot) (x y : Int32) (rest : List Value), ¬ y = 0 → W p l e R s m args below meth c H locs cells slots Q (F0 m (pc + 1) lsm (.int (g x y) :: rest)) → W p l e R s m args below meth c H locs cells slots Q (F0 m pc lsm (.int y :: .int x :: rest)))
    (h : bz g len pc ls st σ M = some (.inl (pc', ls', st', σ', M'))) (hG : G p l e R s m args below meth c Q D base bb o f n0 s0 ad0 ac0 pc' ls' st' σ' M') : G p l e R s m args below meth c Q D base bb o f n0 s0 ad0 ac0 pc ls st σ M := by
  unfold bz at h
  split at h
  · rename_i hl
    split at h
    · rename_i y x st0
      split at h
      · cases h
      · rename_i hne
        obtain ⟨rfl, rfl, rfl, rfl, rfl⟩ := nx_inj h
        intro H locs cells slots lsm ad ac hk
        have k := hG H locs cells slots lsm ad ac (hk.stk (ok_c1 (okv_i _ _ _) (by simp) (ok_t1 (ok_t1 hk.sto))))
        rw [List.map_cons, cv0, Int32.ofInt_toInt] at k
        exact row hl H locs cells slots lsm _ _ _ hne k
    · cases h
  · cases h
theorem g_bl {g : Int64 → Int64 → Int64} (row : len = 1 → ∀ (H : Heap) (locs : List Loc) (cells slots : Nat) (lsm : Array Slot) (x y : Int64) (rest : List Value), W p l e R s m args below meth c H locs cells slots Q (F0 m (pc + 1) lsm (.long (g x y) :: rest)) → W p l e R s m args below meth c H locs cells slots Q (F0 m pc lsm (.long y :: .long x :: rest)))
    (h : bl g len pc ls st σ M = some (.inl (pc', ls', st', σ', M'))) (hG : G p l e R s m args below meth c Q D base bb o f n0 s0 ad0 ac0 pc' ls' st' σ' M') : G p l e R s m args below meth c Q D base bb o f n0 s0 ad0 ac0 pc ls st σ M := by
  unfold bl at h
  split at h
  · rename_i hl
    split at h
    · rename_i y x st0
      obtain ⟨rfl, rfl, rfl, rfl, rfl⟩ := nx_inj h
      intro H locs cells slots lsm ad ac hk
      have k := hG H locs cells slots lsm ad ac (hk.stk (ok_c1 (okv_l _ _ _) (by simp) (ok_t1 (ok_t1 hk.sto))))
      rw [List.map_cons, cv1, Int64.ofInt_toInt] at k
      exact row hl H locs cells slots lsm _ _ _ k
    · cases h
  · cases h
theorem g_blz {g : Int64 → Int64 → Int64} (row : len = 1 → ∀ (H : Heap) (locs : List Loc) (cells slots : Nat) (lsm : Array Slot) (x y : Int64) (rest : List Value), ¬ y = 0 → W p l e R s m args below meth c H locs cells slots Q (F0 m (pc + 1) lsm (.long (g x y) :: rest)) → W p l e R s m args below meth c H locs cells slots Q (F0 m pc lsm (.long y :: .long x :: rest)))
    (h : blz g len pc ls st σ M = some (.inl (pc', ls', st', σ', M'))) (hG : G p l e R s m args below meth c Q D base bb o f n0 s0 ad0 ac0 pc' ls' st' σ' M') : G p l e R s m args below meth c Q D base bb o f n0 s0 ad0 ac0 pc ls st σ M := by
  unfold blz at h
  split at h
  · rename_i hl
    split at h
    · rename_i y x st0
      split at h
      · cases h
      · rename_i hne
        obtain ⟨rfl, rfl, rfl, rfl, rfl⟩ := nx_inj h
        intro H locs cells slots lsm ad ac hk
        have k := hG H locs cells slots lsm ad ac (hk.stk (ok_c1 (okv_l _ _ _) (by simp) (ok_t1 (ok_t1 hk.sto))))
        rw [List.map_cons, cv1, Int64.ofInt_toInt] at k
        exact row hl H locs cells slots lsm _ _ _ hne k
    · cases h
  · cases h
theorem g_bs {g : Int64 → Int32 → Int64} (row : len = 1 → ∀ (H : Heap) (locs : List Loc) (cells slots : Nat) (lsm : Array Slot) (x : Int64) (y : Int32) (rest : List Value), W p l e R s m args below meth c H locs cells slots Q (F0 m (pc + 1) lsm (.long (g x y) :: rest)) → W p l e R s m args below meth c H locs cells slots Q (F0 m pc lsm (.int y :: .long x :: rest)))
    (h : bs g len pc ls st σ M = some (.inl (pc', ls', st', σ', M'))) (hG : G p l e R s m args below meth c Q D base bb o f n0 s0 ad0 ac0 pc' ls' st' σ' M') : G p l e R s m args below meth c Q D base bb o f n0 s0 ad0 ac0 pc ls st σ M := by
  unfold bs at h
  split at h
  · rename_i hl
    split at h
    · rename_i y x st0
      obtain ⟨rfl, rfl, rfl, rfl, rfl⟩ := nx_inj h
      intro H locs cells slots lsm ad ac hk
      have k := hG H locs cells slots lsm ad ac (hk.stk (ok_c1 (okv_l _ _ _) (by simp) (ok_t1 (ok_t1 hk.sto))))
      rw [List.map_cons, cv1, Int64.ofInt_toInt] at k
      exact row hl H locs cells slots lsm _ _ _ k
    · cases h
  · cases h
theorem g_push {v : AV} (hv : okv o σ.length v) (h9 : v.1 ≠ 9) (row : ∀ (H : Heap) (locs : List Loc) (cells slots : Nat) (lsm : Array Slot) (ad : Nat → Nat) (rest : List Value), W p l e R s m args below meth c H locs cells slots Q (F0 m pc' lsm (cv ad bb v :: rest)) → W p l e R s m args below meth c H locs cells slots Q (F0 m pc lsm rest))
    (hG : G p l e R s m args below meth c Q D base bb o f n0 s0 ad0 ac0 pc' ls (v :: st) σ M) : G p l e R s m args below meth c Q D base bb o f n0 s0 ad0 ac0 pc ls st σ M := by
  intro H locs cells slots lsm ad ac hk
  exact row H locs cells slots lsm ad _ (hG H locs cells slots lsm ad ac (hk.stk (ok_c1 hv h9 hk.sto)))
theorem g_cst {z : Int} {k : Nat} (row : len = k → -128 ≤ z → z < 128 → ∀ (H : Heap) (locs : List Loc) (cells slots : Nat) (lsm : Array Slot) (rest : List Value), W p l e R s m args below meth c H locs cells slots Q (F0 m (pc + k) lsm (.int (Int32.ofInt z) :: rest)) → W p l e R s m args below meth c H locs cells slots Q (F0 m pc lsm rest))
    (h : cst z len k pc ls st σ M = some (.inl (pc', ls', st', σ', M'))) (hG : G p l e R s m args below meth c Q D base bb o f n0 s0 ad0 ac0 pc' ls' st' σ' M') : G p l e R s m args below meth c Q D base bb o f n0 s0 ad0 ac0 pc ls st σ M := by
  unfold cst at h
  split at h
  · rename_i hl
    obtain ⟨rfl, rfl, rfl, rfl, rfl⟩ := nx_inj h
    exact g_push (okv_z (by omega)) (by simp) (fun H locs cells slots lsm ad rest kk => row hl.1 hl.2.1 hl.2.2 H locs cells slots lsm rest kk) hG
  · cases h
theorem g_ald {t k i : Nat} (row : len = k → ∀ (H : Heap) (locs : List Loc) (cells slots : Nat) (lsm : Array Slot) (ad : Nat → Nat) (z : Int) (rest : List Value), lsm[i]? = some (.val (cv ad bb (t, z))) → W p l e R s m args below meth c H locs cells slots Q (F0 m (pc + k) lsm (cv ad bb (t, z) :: rest)) → W p l e R s m args below meth c H locs cells slots Q (F0 m pc lsm rest)) (ht : t ≠ 9)
    (h : ald t len k pc i ls st σ M = some (.inl (pc', ls', st', σ', M'))) (hG : G p l e R s m args below meth c Q D base bb o f n0 s0 ad0 ac0 pc' ls' st' σ' M') : G p l e R s m args below meth c Q D base bb o f n0 s0 ad0 ac0 pc ls st σ M := by
  unfold ald at h
  split at h
  · rename_i hl
    split at h
    · rename_i v hv
      split at h
      · rename_i ht2
        obtain ⟨rfl, rfl, rfl, rfl, rfl⟩ := nx_inj h
        intro H locs cells slots lsm ad ac hk
        have hm := List.mem_of_getElem? hv
        have k2 := hG H locs cells slots lsm ad ac (hk.stk (ok_c1 (hk.2.2.2.1 v hm) (by rw [ht2]; exact ht) hk.sto))
        have k3 := hk.2.2.1.2.2.2 i v hv (by rw [ht2]; exact ht)
        obtain ⟨t', z⟩ := v
        have ht2 : t' = t := ht2
        subst ht2
        exact row hl H locs cells slots lsm ad z _ k3 k2
      · cases h
    · cases h
  · cases h
theorem g_alda {k i : Nat} (row : len = k → ∀ (H : Heap) (locs : List Loc) (cells slots : Nat) (lsm : Array Slot) (a : Nat) (rest : List Value), lsm[i]? = some (.val (.ref a)) → W p l e R s m args below meth c H locs cells slots Q (F0 m (pc + k) lsm (.ref a :: rest)) → W p l e R s m args below meth c H locs cells slots Q (F0 m pc lsm rest))
    (h : alda len k pc i ls st σ M = some (.inl (pc', ls', st', σ', M'))) (hG : G p l e R s m args below meth c Q D base bb o f n0 s0 ad0 ac0 pc' ls' st' σ' M') : G p l e R s m args below meth c Q D base bb o f n0 s0 ad0 ac0 pc ls st σ M := by
  unfold alda at h
  split at h
  · rename_i hl
    split at h
    · rename_i v hv
      split at h
      · rename_i ht2
        obtain ⟨rfl, rfl, rfl, rfl, rfl⟩ := nx_inj h
        intro H locs cells slots lsm ad ac hk
        have hm := List.mem_of_getElem? hv
        have h9 : v.1 ≠ 9 := by omega
        have k2 := hG H locs cells slots lsm ad ac (hk.stk (ok_c1 (hk.2.2.2.1 v hm) h9 hk.sto))
        have k3 := hk.2.2.1.2.2.2 i v hv h9
        obtain ⟨t', z⟩ := v
        have ht2 : t' = 2 ∧ 0 ≤ z ∨ t' = 4 := ht2
        rcases ht2 with ⟨rfl, h0⟩ | rfl
        · rw [List.map_cons, cv2 _ _ h0] at k2
          rw [cv2 _ _ h0] at k3
          exact row hl H locs cells slots lsm _ _ k3 k2
        · rw [List.map_cons, cv4] at k2
          rw [cv4] at k3
          exact row hl H locs cells slots lsm _ _ k3 k2
      · cases h
    · cases h
  · cases h
theorem g_ast {t k i : Nat} (ht : t ≤ 2) (row : len = k → ∀ (H : Heap) (locs : List Loc) (cells slots : Nat) (lsm : Array Slot) (ad : Nat → Nat) (z : Int) (rest : List Value), i + (if t = 1 then 1 else 0) < mxl f → (t = 2 → 0 ≤ z) → lv_has lsm (mxl f) (asl ad bb ls) → (∀ ls' : Array Slot, lv_has ls' (mxl f) ((i, cv ad bb (t, z)) :: (asl ad bb ls).filter (fun q => !(q.1 == i) && (if t = 1 then (!(q.1 == i + 1) && !(q.1 + 1 == i && q.2.category == 2)) else !(q.1 + 1 == i && q.2.category == 2)))) → W p l e R s m args below meth c H locs cells slots Q (F0 m (pc + k) ls' rest)) → W p l e R s m args below meth c H locs cells slots Q (F0 m pc lsm (cv ad bb (t, z) :: rest)))
    (h : ast t len k pc i ls st σ M = some (.inl (pc', ls', st', σ', M'))) (hG : G p l e R s m args below meth c Q D base bb o f n0 s0 ad0 ac0 pc' ls' st' σ' M') : G p l e R s m args below meth c Q D base bb o f n0 s0 ad0 ac0 pc ls st σ M := by
  unfold ast at h
  split at h
  · rename_i hl
    split at h
    · rename_i v st0
      by_cases hc : v.1 = t ∧ i + (if t = 1 then 1 else 0) < ls.length ∧ (t = 2 → 0 ≤ v.2)
      · rw [if_pos hc] at h
        obtain ⟨rfl, rfl, rfl, rfl, rfl⟩ := nx_inj h
        intro H locs cells slots lsm ad ac hk
        obtain ⟨t', z⟩ := v
        obtain ⟨hc1, hc2, hc3⟩ := hc
        have hc1 : t' = t := hc1
        subst hc1
        have hi : i < ls.length := by split at hc2 <;> omega
        have hlen : ls.length = mxl f := hk.2.2.1.2.2.1
        refine row hl H locs cells slots lsm ad z _ (by rw [← hlen]; exact hc2) hc3 hk.2.2.1.has (fun ls' hn => ?_)
        have hvk := (hk.sto _ List.mem_cons_self).1
        refine hG H locs cells slots ls' ad ac ⟨hk.1, hk.2.1, ?_, stl_ok hk.2.2.2.1 hvk hi, ok_t1 hk.sto, hk.2.2.2.2.2⟩
        by_cases h1 : t' = 1
        · subst h1
          simp only [if_true] at hn
          exact hk.2.2.1.st2 rfl hi hn
        · simp only [if_neg h1] at hn
          exact hk.2.2.1.st1 hi hn
      · rw [if_neg hc] at h
        cases h
    · cases h
  · cases h
theorem jm_spec {off : Int} (h : jm pc off ls st σ M = some (.inl (pc', ls', st', σ', M'))) : (pc : Int) + off = (pc' : Int) ∧ ls' = ls ∧ st' = st ∧ σ' = σ ∧ M' = M := by
  unfold jm at h
  split at h
  · obtain ⟨rfl, h2⟩ := nx_inj h
    exact ⟨by omega, h2⟩
  · cases h
end
