/-! The start: behind both constructors the relation holds; the whole claim. -/
section
def Sg0 : Sg := (s11 0, [], (0, fun _ => 0), (1, fun _ => 97), fun _ => 0)
theorem rga {n : Nat} {p : Nat → Bool} (h : (List.range n).all p = true) {k : Nat} (hk : k < n) : p k = true := List.all_eq_true.mp h k (List.mem_range.mpr hk)
theorem okL_Lay {M : Mo} (h : okL M = true) : Lay M := by
  intro a i z hz
  have hb : 0 ≤ i ∧ i < (shp S0 a).2 := by
    unfold fx at hz
    split at hz
    · assumption
    · cases hz
  have ha : 0 ≤ a := by
    by_cases q : a < 0
    · unfold shp at hb
      rw [if_pos q] at hb
      have : (((99, 0) : Nat × Nat).2 : Int) = 0 := rfl
      omega
    · omega
  obtain ⟨x, rfl⟩ := nex ha
  obtain ⟨y, rfl⟩ := nex hb.1
  rw [shp_nat] at hb
  have hx : x < 248 := by
    by_cases q : x < 248
    · exact q
    · have : sg S0 x = (99, 0) := by
        show S0.getD x (99, 0) = _
        rw [List.getD_eq_getElem?_getD, List.getElem?_eq_none (by rw [S0_len]; omega)]
        rfl
      rw [this] at hb
      have : (((99, 0) : Nat × Nat).2 : Int) = 0 := rfl
      omega
  have h1 := rga h hx
  by_cases w : (sg S0 x).1 = 20 ∨ (sg S0 x).1 = 21
  · have : fx (x : Int) (y : Int) = none := fx_arr (by rw [shp_nat]; exact w)
    rw [this] at hz
    cases hz
  · rw [if_neg w] at h1
    have h2 := rga h1 (show y < (sg S0 x).2 by omega)
    rw [hz] at h2
    exact of_decide_eq_true h2
theorem okC_RC {M : Mo} (h : okC M = true) : RC M Sg0 := by
  unfold okC at h
  simp only [Bool.and_eq_true, decide_eq_true_eq] at h
  obtain ⟨⟨⟨⟨⟨⟨⟨⟨h1, h2⟩, h3⟩, h4⟩, h5⟩, h6⟩, h7⟩, h8⟩, h9⟩ := h
  refine ⟨⟨h1, fun k hk => ?_⟩, ⟨0, h3, by omega, h2, by show 0 ≤ 8; omega, fun s hs => absurd hs List.not_mem_nil, fun i hi => absurd hi (Nat.not_lt_zero i)⟩, ⟨h4, by show 0 ≤ 40; omega, fun i hi => absurd hi (Nat.not_lt_zero i)⟩, ⟨h5, by show 1 ≤ 40; omega, fun i hi => ?_⟩, fun i a b => ?_, ⟨fun k => 83 + 2 * (k : Int), fun k hk => ?_, fun k q hk hq w => by dsimp only at w; omega⟩, ⟨fun k => 108 + 2 * (k : Int), fun k hk => ?_, fun k q hk hq w => by dsimp only at w; omega⟩⟩
  · have q := rga h8 hk
    simp only [Bool.and_eq_true, decide_eq_true_eq] at q
    refine ⟨q.1, by show 1 + 0 ≤ 6; omega, fun g i hg hi => ?_⟩
    have q2 := of_decide_eq_true (rga q.2 (show 6 * g + i < 12 by omega))
    rw [show ((6 * g + i : Nat) : Int) = 6 * (g : Int) + i by omega] at q2
    exact q2.trans rv_zero.symm
  · have : i = 0 := by
      have hi2 : i < 1 := hi
      omega
    subst this
    exact ⟨h6, Or.inr (Or.inl (by unfold isLt; decide))⟩
  · obtain ⟨j, rfl⟩ := nex a
    exact of_decide_eq_true (rga h7 (show j < 3 by omega))
  · have q := rga h9 hk
    simp only [Bool.and_eq_true, decide_eq_true_eq] at q
    refine ⟨q.1, ?_, by dsimp only; omega, by dsimp only; omega⟩
    have : k = 0 ∨ k = 1 ∨ k = 2 ∨ k = 3 ∨ k = 4 ∨ k = 5 := by omega
    rcases this with rfl | rfl | rfl | rfl | rfl | rfl
    · exact sh_83
    · exact sh_85
    · exact sh_87
    · exact sh_89
    · exact sh_91
    · exact sh_93
  · have q := rga h9 hk
    simp only [Bool.and_eq_true, decide_eq_true_eq] at q
    refine ⟨q.2, ?_, by dsimp only; omega, by dsimp only; omega⟩
    have : k = 0 ∨ k = 1 ∨ k = 2 ∨ k = 3 ∨ k = 4 ∨ k = 5 := by omega
    rcases this with rfl | rfl | rfl | rfl | rfl | rfl
    · exact sh_108
    · exact sh_110
    · exact sh_112
    · exact sh_114
    · exact sh_116
    · exact sh_118
theorem okM_RM {M : Mo} (h : okM M = true) : RM M Sg0 := by
  unfold okM at h
  simp only [Bool.and_eq_true, decide_eq_true_eq] at h
  obtain ⟨⟨⟨⟨⟨⟨⟨h1, h2⟩, h3⟩, h4⟩, h5⟩, h6⟩, h7⟩, h8⟩ := h
  refine ⟨⟨h1, fun k hk => ?_⟩, ⟨h3, by show 0 ≤ 8; omega, fun s hs => absurd hs List.not_mem_nil, fun i hi => absurd hi (Nat.not_lt_zero i)⟩, ⟨h4, by show 0 ≤ 40; omega, fun i hi => absurd hi (Nat.not_lt_zero i)⟩, ⟨h5, by show 1 ≤ 40; omega, fun i hi => ?_⟩, fun i a b => ?_, fun k hk w => by omega⟩
  · have q := rga h8 hk
    simp only [Bool.and_eq_true, decide_eq_true_eq] at q
    refine ⟨q.1.1, fun g i j hg hi hj => ?_⟩
    have hi2 : i < 1 := hi
    have hj2 : j < 1 := hj
    show _ = (0 : Int)
    have : g = 0 ∨ g = 1 := by omega
    rcases this with rfl | rfl
    · rw [show (72 * (k : Int) + 36 * ((0 : Nat) : Int) + 6 * (i : Int) + j) = 72 * (k : Int) by omega]
      exact q.1.2
    · rw [show (72 * (k : Int) + 36 * ((1 : Nat) : Int) + 6 * (i : Int) + j) = 72 * (k : Int) + 36 by omega]
      exact q.2
  · have : i = 0 := by
      have hi2 : i < 1 := hi
      omega
    subst this
    exact ⟨h6, Or.inr (Or.inl (by unfold isLt; decide))⟩
  · obtain ⟨j, rfl⟩ := nex a
    exact of_decide_eq_true (rga h7 (show j < 3 by omega))
theorem ctors : ∃ (σ2 : Sh) (M2 M3 : Mo), arun none 3000 73 0 (entl 73 [(2, 0)]) [] [(9, 14)] (nwc [] (fun _ _ => 0) 9) = some (none, σ2, M2) ∧ σ2.length = 217 ∧ arun none 1000 125 0 (entl 125 [(2, 217)]) [] (σ2 ++ [(10, 38)]) (nwc σ2 M2 10) = some (none, S0, M3) ∧ Lay M3 ∧ RC M3 Sg0 ∧ RM M3 Sg0 := by
  have h := ZZ_ok
  unfold ZZ at h
  split at h
  · rename_i σ2 M2 h1
    rw [Bool.and_eq_true] at h
    obtain ⟨h2, h3⟩ := h
    split at h3
    · rename_i σ3 M3 h4
      simp only [Bool.and_eq_true] at h3
      obtain ⟨⟨⟨e1, e2⟩, e3⟩, e4⟩ := h3
      have e5 := of_decide_eq_true e1
      subst e5
      exact ⟨σ2, M2, M3, brun_ok _ h1, of_decide_eq_true h2, brun_ok _ h4, okL_Lay e2, okC_RC e3, okM_RM e4⟩
    · cases h3
  · cases h
/-! the law's first steps -/
def RG (xs : List Int) (pc : Nat) (ls st : List AV) (σ : Sh) (M : Mo) : Prop := ∃ (n : Nat) (M' : Mo), arun (some xs) n 221 pc ls st σ M = some (some (0, 1), S0, M')
variable {xs : List Int} {pc : Nat} {ls st : List AV} {σ : Sh} {M : Mo}
theorem gg_step {len pc' : Nat} {ins : Instr} {ls' st' : List AV} {σ' : Sh} {M' : Mo} (hd : decode (bc 221) pc = .ok (ins, len)) (hs : astep (some xs) 221 pc ins len ls st σ M = some (.inl (pc', ls', st', σ', M'))) (k : RG xs pc' ls' st' σ' M') : RG xs pc ls st σ M := by
  obtain ⟨n, M2, h1⟩ := k
  refine ⟨n + 1, M2, ?_⟩
  unfold arun
  rw [hd]
  dsimp only
  rw [hs]
  exact h1
theorem gg_new {n ci N : Nat} (hd : decode (bc 221) pc = .ok (.new n, 3)) (hq : (nlk (own 221) n).map (fun e => (e.2.2.1, nfl e.2.2.1)) = some (ci, N)) (k : RG xs (pc + 3) ls ((2, (σ.length : Int)) :: st) (σ ++ [(ci, N)]) (nwc σ M ci)) : RG xs pc ls st σ M := by
  obtain ⟨e, h1, h2⟩ := Option.map_eq_some_iff.mp hq
  cases h2
  refine gg_step hd ?_ k
  unfold astep
  dsimp only
  rw [if_pos rfl, h1]
  rfl
theorem gg_init {n g m : Nat} {a : Int} {r : List AV} {v : Option AV} {σ' : Sh} {M' : Mo} (hd : decode (bc 221) pc = .ok (.invokespecial n, 3)) (hq : cq 221 n [2, 5] = some (g, 1)) (hcat : Nat.ble (cats r) 8 = true) (hrc : rcv σ g [(2, a)] = true) (hmx : 1 ≤ mxl g) (hC : arun none m g 0 (entl g [(2, a)]) [] σ M = some (v, σ', M')) (k : RG xs (pc + 3) ls (v.toList ++ r) σ' M') : RG xs pc ls ((2, a) :: r) σ M := by
  have hs : astep (some xs) 221 pc (.invokespecial n) 3 ls ((2, a) :: r) σ M = some (.inr (.inr (g, [(2, a)], r))) := by
    unfold cq at hq
    split at hq
    · rename_i e he
      split at hq
      · rename_i hc
        obtain ⟨c1, c2, c3⟩ := hc
        have hg : e.2.2.1 = g ∧ npr e.2.2.1 + (if sta e.2.2.1 then 0 else 1) = 1 := by
          have := Option.some.inj hq
          exact ⟨congrArg Prod.fst this, congrArg Prod.snd this⟩
        unfold astep
        dsimp only
        rw [he]
        rw [if_neg (by simp; omega)]
        unfold ava
        rw [if_pos rfl, he]
        dsimp only
        rw [if_pos c1, hg.2]
        rw [show pops 1 ((2, a) :: r) = some ([(2, a)], r) from rfl]
        dsimp only
        rw [hg.1] at c2 ⊢
        rw [if_pos ⟨Nat.le_of_ble_eq_true hcat, c2, hrc, hmx, rfl⟩]
      · cases hq
    · cases hq
  obtain ⟨n2, M2, g1⟩ := k
  refine ⟨(m + n2) + 1, M2, ?_⟩
  unfold arun
  rw [hd]
  dsimp only
  rw [hs]
  dsimp only
  rw [arun_mono m hC n2]
  dsimp only
  rw [Nat.add_comm]
  exact arun_mono n2 g1 m
theorem okG0 : okG 0 Sg0 := ⟨vs_s11 (by omega), fun i a b => ⟨by show (0 : Int) ≤ 0; omega, by show (0 : Int) ≤ 0; omega⟩, fun u hu => absurd hu List.not_mem_nil⟩
theorem claim_A : ClaimA := by
  intro xs hx hr
  obtain ⟨σ2, M2, M3, c1, c2, c3, c4, c5, c6⟩ := ctors
  have key : RG xs 0 [(4, 0), (9, 0), (9, 0), (9, 0)] [] [] (fun _ _ => 0) := by
    have d0 : decode (bc 221) 0 = .ok (.new 7, 3) := by decide +kernel
    have d3 : decode (bc 221) 3 = .ok (.dup, 1) := by decide +kernel
    have d4 : decode (bc 221) 4 = .ok (.invokespecial 9, 3) := by decide +kernel
    have d7 : decode (bc 221) 7 = .ok (.astore_n 1, 1) := by decide +kernel
    have d8 : decode (bc 221) 8 = .ok (.new 10, 3) := by decide +kernel
    have d11 : decode (bc 221) 11 = .ok (.dup, 1) := by decide +kernel
    have d12 : decode (bc 221) 12 = .ok (.invokespecial 12, 3) := by decide +kernel
    have d15 : decode (bc 221) 15 = .ok (.astore_n 2, 1) := by decide +kernel
    have d16 : decode (bc 221) 16 = .ok (.iconst 0, 1) := by decide +kernel
    have d17 : decode (bc 221) 17 = .ok (.istore_n 3, 1) := by decide +kernel
    have q7 : (nlk (own 221) 7).map (fun e => (e.2.2.1, nfl e.2.2.1)) = some (9, 14) := by decide +kernel
    have q10 : (nlk (own 221) 10).map (fun e => (e.2.2.1, nfl e.2.2.1)) = some (10, 38) := by decide +kernel
    have i9 : cq 221 9 [2, 5] = some (73, 1) := by decide +kernel
    have i12 : cq 221 12 [2, 5] = some (125, 1) := by decide +kernel
    have m73 : 1 ≤ mxl 73 := by decide +kernel
    have m125 : 1 ≤ mxl 125 := by decide +kernel
    have r73 : rcv [(9, 14)] 73 [(2, 0)] = true := by decide +kernel
    have o125 : own 125 = 10 ∧ nfl 10 = 38 := by decide +kernel
    refine gg_new d0 q7 ?_
    refine gg_step (pc' := 4) (ls' := [(4, 0), (9, 0), (9, 0), (9, 0)]) (st' := [(2, 0), (2, 0)]) (σ' := [(9, 14)]) (M' := nwc [] (fun _ _ => 0) 9) d3 rfl ?_
    refine gg_init d4 i9 rfl r73 m73 c1 ?_
    refine gg_step (pc' := 8) (ls' := [(4, 0), (2, 0), (9, 0), (9, 0)]) (st' := []) (σ' := σ2) (M' := M2) d7 rfl ?_
    refine gg_new d8 q10 ?_
    rw [c2]
    refine gg_step (pc' := 12) (ls' := [(4, 0), (2, 0), (9, 0), (9, 0)]) (st' := [(2, 217), (2, 217)]) (σ' := σ2 ++ [(10, 38)]) (M' := nwc σ2 M2 10) d11 rfl ?_
    refine gg_init d12 i12 rfl ?_ m125 c3 ?_
    · unfold rcv
      rw [o125.1, o125.2]
      have : shp (σ2 ++ [(10, 38)]) 217 = (10, 38) := by
        unfold shp
        rw [if_neg (by omega), show (217 : Int).toNat = 217 from rfl, List.getD_eq_getElem?_getD, List.getElem?_append_right (by omega), c2]
        rfl
      simp [this]
    refine gg_step (pc' := 16) (ls' := [(4, 0), (2, 0), (2, 217), (9, 0)]) (st' := []) (σ' := S0) (M' := M3) d15 rfl ?_
    refine gg_step (pc' := 17) (ls' := [(4, 0), (2, 0), (2, 217), (9, 0)]) (st' := [(0, 0)]) (σ' := S0) (M' := M3) d16 rfl ?_
    refine gg_step (pc' := 18) (ls' := lwS 0) (st' := []) (σ' := S0) (M' := M3) d17 rfl ?_
    exact l_loop hx hr 3072 0 Sg0 M3 (by omega) (by omega) okG0 c5 c6 c4
  obtain ⟨n, M', h⟩ := key
  exact ⟨n, S0, M', h, by rw [S0_len]; omega, by decide +kernel⟩
end
