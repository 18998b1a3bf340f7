/-! The law's own frame. -/
def R_law : String := "SpunModulesLaw"
def lw_P (b : Addr) (xs : List Int32) (args : Array Value) (s : State) : Prop := args = #[.ref b] ∧ s.IntsAt b xs ∧ xs.length ≤ 3072 ∧ (Jvm.Cond.and given_1 narrow_1).before args s = true
def lw_Q (_ : Array Value) (s : State) (o : Outcome) (t : State) : Prop := o = .returned (some (.int 1)) ∧ Framed s o t [] 600000 7302250
def lw_Z (below : List Frame) (a : Array Value) (s : State) : State → Prop := fun t => ∃ o, t.status = .running ∧ Ended t below o ∧ lw_Q a s o t
/-- the law's own end, with 1 on the stack, nothing written that was there before, its room as the claim has it -/
theorem lw_ret {p : Program} {l : Launch} {e : Env} {s : State} {m : MethodId} {below : List Frame} {meth : Method} {c : Code} {b : Nat} (hx : p.tables.exec = Jvm.exec) (hb : c.code = code) (hr : meth.sig.returnType = ret) (hlocks : meth.locks = false) {pc : Nat} {H : Heap} {ls : Array Slot} (hdg : decode code pc = .ok (.ireturn, 1)) : W p l e room_1 s m #[Value.ref b] below meth c H [] 600000 7302250 (lw_Z below #[Value.ref b] s) (F0 m pc ls [.int 1]) := by
  intro T hT X
  obtain ⟨fs, hret, hrun, hended, hW, hframe⟩ := X.leave (v := some (.int 1)) (hlocks := hlocks) (fun h => by rw [hr] at h; cases h)
  have hmeth' : T.vm.method? m = some meth := X.method'
  refine ⟨T.setFrames fs, ?_, .returned (some (.int 1)), hrun, hended, rfl, ⟨_, rfl⟩, hW, hframe⟩
  jvm_step X.here [X.here.top, hx, hb, hdg, hmeth', hr, ret, narrow_b1]
  (try refine ⟨rfl, ?_⟩); (try refine ⟨rfl, ?_⟩)
  first | (intro acts; rw [hret _ acts rfl rfl rfl]) | rw [hret _ _ rfl rfl rfl]
  exact Steps.refl _
/-- what holds at the law's entry: the machine, the code, the tables' words (any of lw_tbl by 'hts w (by decide +kernel)'), the script of L ints xs at the cell b, what the Statement gives of the start (any of its parts by flat_of_before) -/
def lw_At (p : Program) (s : State) (m : MethodId) (meth : Method) (c : Code) (b L : Nat) (xs : Nat → Int32) : Prop :=
  p.tables.exec = Jvm.exec ∧ c.code = code ∧ meth.sig.returnType = ret ∧ c.maxLocals = 4 ∧ s.vm.findClass R_law = some m.cls ∧ (∀ w ∈ lw_tbl, w.before #[Value.ref b] s = true) ∧ va_X b L xs s s.heap ∧ b < s.heap.size ∧ meth.locks = false ∧ (Jvm.Cond.and given_1 narrow_1).before #[Value.ref b] s = true

/-- what is left: the abstract machine's run of the law, for every script -/
def ClaimA : Prop := ∀ xs : List Int, xs.length ≤ 3072 → (∀ x ∈ xs, -2147483648 ≤ x ∧ x < 2147483648) → ∃ (n : Nat) (σ' : Sh) (M' : Mo), arun (some xs) n 221 0 [(4, 0), (9, 0), (9, 0), (9, 0)] [] [] (fun _ _ => 0) = some (some (0, 1), σ', M') ∧ σ'.length ≤ 600000 ∧ tot σ' ≤ 7302250
theorem all11 {P : Nat → Prop} (h : ∀ c ∈ List.range 11, P c) {c : Nat} (hc : c < 11) : P c := h c (List.mem_range.mpr hc)
theorem kn_all {args : Array Value} {s : State} (hts : ∀ w ∈ TG, w.before args s = true) : ∃ D : va_G, va_K D vwCl [] s := by
  have hinst : ∀ ci ∈ List.range 11, ∃ x ∈ nT, x.2.2.1 = ci := by decide +kernel
  have h : ∀ ci : Nat, ∃ (q : ClassId × (Nat → Nat)), ci < 11 → u_Kn s (cn ci) (fdt ci) (nfl ci) q.1 q.2 := by
    intro ci
    by_cases hc : ci < 11
    · obtain ⟨x, hx, hxc⟩ := hinst ci (List.mem_range.mpr hc)
      have hi := (nT_ok x hx).2.2.1
      rw [hxc] at hi
      obtain ⟨cC, iS, hK⟩ := u_known hts (u_in hc) (hts _ (TG_in hi rfl))
      exact ⟨(cC, iS), fun _ => hK⟩
    · exact ⟨(0, fun _ => 0), fun h => absurd h hc⟩
  refine ⟨(fun ci => (Classical.choose (h ci)).1, fun ci => (Classical.choose (h ci)).2), fun ci q hq => ?_, fun k q hk => by simp at hk⟩
  have hc : ci < 11 := by
    have := (List.getElem?_eq_some_iff.mp hq).1
    rwa [cl_len] at this
  rw [vw_get2 hc] at hq
  cases hq
  exact Classical.choose_spec (h ci) hc
theorem ov0 : Cond.arrayOver (.object (cn 0)) ∈ lw_tbl := atp_in (p := 1037) (by decide +kernel)
theorem ov1 : Cond.arrayOver (.array .long) ∈ lw_tbl := atp_in (p := 1189) (by decide +kernel)
theorem ov2 : Cond.arrayOver (.array .int) ∈ lw_tbl := atp_in (p := 2005) (by decide +kernel)
theorem tb_start {args : Array Value} {s : State} (hts : ∀ w ∈ lw_tbl, w.before args s = true) : ∃ D : va_G, Tb D s := by
  obtain ⟨D, hK⟩ := kn_all (args := args) (s := s) (fun w hw => hts w (List.mem_filter.mp hw).1)
  refine ⟨D, hK, fun x hx h3 h5 => ?_, va_AO.of (hts _ ov0), hts _ ov2, hts _ ov1⟩
  have m4 := mT_ok x hx
  unfold mOk at m4
  rw [if_neg (by omega), if_neg (by omega), decide_eq_true_eq] at m4
  obtain ⟨-, -, -, w2, -⟩ := m4
  rw [if_neg (by omega)] at w2
  exact va_Nw.of rfl (hts _ (atp_in w2))
theorem bc_law : bc 221 = code := rfl
theorem own_law : own 221 = 11 := by decide +kernel
theorem rty_law : rty 221 = some .boolean := by decide +kernel
theorem mxl_law : mxl 221 = 4 := by decide +kernel
theorem hgt_law : hgt 221 = 8 := by decide +kernel
theorem nam_law : (nmm 221).name = "law" := by decide +kernel
theorem cn_law : cn 11 = R_law := rfl
theorem ret_law : ret = some .boolean := rfl
set_option maxHeartbeats 2000000 in
theorem whole_of (hA : ClaimA) {p : Program} {e : Env} {s : State} {m : MethodId} {below : List Frame} {meth : Method} {c : Code} (l : Launch) {b L : Nat} {xs : Nat → Int32} (hL : L ≤ 3072) (C0 : lw_At p s m meth c b L xs) : W p l e room_1 s m #[Value.ref b] below meth c s.heap [] 0 0 (lw_Z below #[Value.ref b] s) (entryFrame m ([Value.ref b] : List Value).toArray 4) := by
  obtain ⟨hx, hb, hr, hml, hown, hts, hX, hbl, hlocks, hgv⟩ := C0
  obtain ⟨D, hT⟩ := tb_start hts
  have hlen : ((List.range L).map (fun j => (xs j).toInt)).length = L := by simp
  have hget : ∀ j, j < L → ((List.range L).map (fun j => (xs j).toInt)).getD j 0 = (xs j).toInt := fun j hj => by
    rw [List.getD_eq_getElem?_getD, rng_get hj]
    rfl
  obtain ⟨n, σ', M', hrun, hc1, hc2⟩ := hA ((List.range L).map (fun j => (xs j).toInt)) (by rw [hlen]; exact hL) (fun x hx => by
    obtain ⟨j, -, rfl⟩ := List.mem_map.mp hx
    exact i32_rng _)
  have C : Cx 221 (some ((List.range L).map (fun j => (xs j).toInt))) p room_1 s m #[Value.ref b] meth c s.heap.size b D := by
    refine ⟨hx, by rw [bc_law]; exact hb, by rw [mxl_law]; exact hml, by rw [own_law, cn_law]; exact hown, fun w hw => hts w (List.mem_filter.mp hw).1, by rw [rty_law, hr]; exact ret_law, hlocks, fun h => by rw [nam_law] at h; exact absurd h (by decide), by rw [hgt_law]; show 8 ≤ 10; decide, by rw [hgt_law]; show 40 * 8 ≤ 406; decide, hT, Nat.le_refl _, fun ys hys => ?_⟩
    cases hys
    refine ⟨?_, hbl, by rw [hlen]; omega, fun j => ?_⟩
    · rw [hlen]
      obtain ⟨scr, x1, x2, x3, x4, x5⟩ := hX
      refine ⟨scr, x1, x2, x3, x4, fun j hj => ?_⟩
      dsimp only
      rw [x5 j hj, hget j hj, Int32.ofInt_toInt]
    · by_cases hj : j < L
      · rw [hget j hj]
        exact i32_rng _
      · rw [List.getD_eq_getElem?_getD, List.getElem?_eq_none (by rw [hlen]; omega)]
        exact ⟨by decide, by decide⟩
  have hres := sim (l := l) (D := D) (base := s.heap.size) n hrun (e := e) (below := below) (Q := lw_Z below #[Value.ref b] s) (n0 := 0) (s0 := 0) (ad0 := fun _ => 0) (ac0 := fun _ => 0) C ⟨by show _ ≤ 0 + 600000; omega, by show _ ≤ 0 + 7302250; omega⟩ ?_
  · rw [lg_entry_eq]
    have hl := lv_entry ([.ref b]) (n := 4) (Nat.le_of_ble_eq_true rfl)
    refine hres s.heap [] 0 0 _ (fun _ => 0) (fun _ => 0) ⟨⟨fun k q h => by simp [wso] at h, ⟨fun i j p q h => by simp [wso] at h, fun k q h => by simp [wso] at h⟩, fun k hk => absurd hk (by simp), fun k hk => absurd hk (by simp), fun k hk => absurd hk (by simp)⟩, va_S.rf, ⟨by rw [mxl_law]; exact hl.1, hl.2.1, by rw [mxl_law]; rfl, fun i v hv h9 => ?_⟩, fun v hv => ?_, (fun w hw => absurd hw List.not_mem_nil), rfl, rfl, fun k hk => absurd hk (by omega)⟩
    · match i, hv with
      | 0, hv =>
        cases hv
        exact hl.2.2 (0, .ref b) List.mem_cons_self
      | 1, hv => cases hv; exact absurd rfl h9
      | 2, hv => cases hv; exact absurd rfl h9
      | 3, hv => cases hv; exact absurd rfl h9
      | i + 4, hv => simp at hv
    · have ok9 : okv (some ((List.range L).map (fun j => (xs j).toInt))) 0 (9, 0) := ⟨⟨fun q => absurd q (by simp), fun q => absurd q (by simp), fun q => absurd q (by simp)⟩, fun q => absurd q (by simp), fun q => absurd q (by simp), Or.inr (Or.inr rfl)⟩
      have ok4 : okv (some ((List.range L).map (fun j => (xs j).toInt))) 0 (4, 0) := ⟨⟨fun q => absurd q (by simp), fun q => absurd q (by simp), fun q => absurd q (by simp)⟩, fun q => absurd q (by simp), (fun _ => Option.some_ne_none _), Or.inr (Or.inl rfl)⟩
      simp only [List.mem_cons, List.not_mem_nil, or_false] at hv
      rcases hv with rfl | rfl | rfl | rfl
      · exact ok4
      · exact ok9
      · exact ok9
      · exact ok9
  · intro pc' ls' hro H locs cells slots lsm ad ac hk
    have e1 := hk.2.2.2.2.2.1
    have e2 := hk.2.2.2.2.2.2.1
    rcases hro with ⟨-, h1, -⟩ | ⟨h1, -⟩
    · rw [bc_law] at h1
      exact va_forget hk.2.1.2.2 (W.widen (by omega) (by omega) (lw_ret hx hb hr hlocks h1))
    · exact absurd h1 (by decide)
