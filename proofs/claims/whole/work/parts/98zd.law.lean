/-! The law's loop over the script. -/
section
def RL (xs : List Int) (pc : Nat) (ls st : List AV) (M : Mo) : Prop := Lay M → ∃ (n : Nat) (M' : Mo), arun (some xs) n 221 pc ls st S0 M = some (some (0, 1), S0, M')
def lwS (i : Nat) : List AV := [(4, 0), (2, 0), (2, 217), (0, (i : Int))]
variable {xs : List Int} {pc i : Nat} {ls st : List AV} {M : Mo}
theorem l_step {len pc' : Nat} {ins : Instr} {ls' st' : List AV} (hd : decode (bc 221) pc = .ok (ins, len)) (hs : astep (some xs) 221 pc ins len ls st S0 M = some (.inl (pc', ls', st', S0, M))) (k : RL xs pc' ls' st' M) : RL xs pc ls st M := by
  intro h
  obtain ⟨n, M2, h1⟩ := k h
  refine ⟨n + 1, M2, ?_⟩
  unfold arun
  rw [hd]
  dsimp only
  rw [hs]
  exact h1
theorem l_call {n g na : Nat} {as r : List AV} {Q1 : Option AV → Mo → Prop} (hd : decode (bc 221) pc = .ok (.invokevirtual n, 3)) (hq : cq 221 n [0, 3] = some (g, na)) (hp : pops na st = some (as, r)) (hcat : Nat.ble (cats r) 8 = true) (hC : Cl g as M Q1) (k : ∀ v M', Q1 v M' → RL xs (pc + 3) ls (v.toList ++ r) M') : RL xs pc ls st M := by
  intro h
  obtain ⟨n1, v1, M1, h1, h2, h3⟩ := hC.2 h
  obtain ⟨n2, M2, g1⟩ := k v1 M1 h3 h2
  have hs : astep (some xs) 221 pc (.invokevirtual n) 3 ls st S0 M = some (.inr (.inr (g, as, r))) := (cq_ava hq hp (Nat.le_of_ble_eq_true hcat) hC.1).1
  refine ⟨(n1 + n2) + 1, M2, ?_⟩
  unfold arun
  rw [hd]
  dsimp only
  rw [hs]
  dsimp only
  rw [arun_mono n1 h1 n2]
  dsimp only
  rw [Nat.add_comm]
  exact arun_mono n2 g1 n1
theorem l_al {k : Fin 4} {v : AV} (hd : decode (bc 221) pc = .ok (.aload_n k, 1)) (hl : ls[k.val]? = some v) (h0 : v.1 = 2 ∧ 0 ≤ v.2 ∨ v.1 = 4) (k2 : RL xs (pc + 1) ls (v :: st) M) : RL xs pc ls st M := l_step hd (by unfold astep alda; dsimp only; rw [if_pos rfl, hl]; dsimp only; rw [if_pos h0]; rfl) k2
theorem l_il {k : Fin 4} {x : Int} (hd : decode (bc 221) pc = .ok (.iload_n k, 1)) (hl : ls[k.val]? = some (0, x)) (k2 : RL xs (pc + 1) ls ((0, x) :: st) M) : RL xs pc ls st M := l_step hd (by unfold astep ald; dsimp only; rw [if_pos rfl, hl]; dsimp only; rw [if_pos rfl]; rfl) k2
theorem l_ic {z : Int} (hd : decode (bc 221) pc = .ok (.iconst z, 1)) (hz : -128 ≤ z ∧ z < 128) (k2 : RL xs (pc + 1) ls ((0, z) :: st) M) : RL xs pc ls st M := l_step hd (by unfold astep cst; dsimp only; rw [if_pos ⟨rfl, hz.1, hz.2⟩]; rfl) k2
theorem l_bp {z : Int} (hd : decode (bc 221) pc = .ok (.bipush z, 2)) (hz : -128 ≤ z ∧ z < 128) (k2 : RL xs (pc + 2) ls ((0, z) :: st) M) : RL xs pc ls st M := l_step hd (by unfold astep cst; dsimp only; rw [if_pos ⟨rfl, hz.1, hz.2⟩]; rfl) k2
theorem l_iadd {x y : Int} (hd : decode (bc 221) pc = .ok (.iadd, 1)) (hr : -2147483648 ≤ x + y ∧ x + y < 2147483648) (k2 : RL xs (pc + 1) ls ((0, x + y) :: st) M) : RL xs pc ls ((0, y) :: (0, x) :: st) M := l_step hd (by show nx (pc + 1) ls ((0, (Int32.ofInt x + Int32.ofInt y).toInt) :: st) S0 M = _; rw [ofI_add, i32_of hr]; rfl) k2
theorem l_isub {x y : Int} (hd : decode (bc 221) pc = .ok (.isub, 1)) (hr : -2147483648 ≤ x - y ∧ x - y < 2147483648) (k2 : RL xs (pc + 1) ls ((0, x - y) :: st) M) : RL xs pc ls ((0, y) :: (0, x) :: st) M := l_step hd (by show nx (pc + 1) ls ((0, (Int32.ofInt x - Int32.ofInt y).toInt) :: st) S0 M = _; rw [ofI_sub, i32_of hr]; rfl) k2
theorem l_iand {x y z : Int} (hd : decode (bc 221) pc = .ok (.iand, 1)) (hz : (Int32.ofInt x &&& Int32.ofInt y).toInt = z) (k2 : RL xs (pc + 1) ls ((0, z) :: st) M) : RL xs pc ls ((0, y) :: (0, x) :: st) M := l_step hd (by show nx (pc + 1) ls ((0, (Int32.ofInt x &&& Int32.ofInt y).toInt) :: st) S0 M = _; rw [hz]; rfl) k2
theorem l_len {a : Int} (hd : decode (bc 221) pc = .ok (.arraylength, 1)) (k2 : RL xs (pc + 1) ls ((0, (xs.length : Int)) :: st) M) : RL xs pc ls ((4, a) :: st) M := l_step hd rfl k2
theorem l_iaload {a j : Int} (hd : decode (bc 221) pc = .ok (.iaload, 1)) (hj : 0 ≤ j ∧ j < xs.length) (k2 : RL xs (pc + 1) ls ((0, xs.getD j.toNat 0) :: st) M) : RL xs pc ls ((0, j) :: (4, a) :: st) M := l_step hd (by show (if 0 ≤ j ∧ j < xs.length then nx (pc + 1) ls ((0, xs.getD j.toNat 0) :: st) S0 M else none) = _; rw [if_pos hj]; rfl) k2
theorem l_goto {z : Int} {t : Nat} (hd : decode (bc 221) pc = .ok (.goto z, 3)) (ht : (pc : Int) + z = t) (k2 : RL xs t ls st M) : RL xs pc ls st M := l_step hd (by unfold astep; dsimp only; rw [if_pos rfl, jm_ok ht]) k2
theorem l_iinc {x z : Int} {ls' : List AV} {q : Nat} (hd : decode (bc 221) pc = .ok (.iinc q z, 3)) (hl : ls[q]? = some (0, x)) (hr : -2147483648 ≤ x + z ∧ x + z < 2147483648) (hs : stl ls q (0, x + z) = ls') (k2 : RL xs (pc + 3) ls' st M) : RL xs pc ls st M := l_step hd (by unfold astep; dsimp only; rw [if_pos rfl, hl]; show nx (pc + 3) (stl ls q (0, (Int32.ofInt x + Int32.ofInt z).toInt)) st S0 M = _; rw [ofI_add, i32_of hr, hs]; rfl) k2
theorem l_icmp {c : Jvm.ClassFile.Cond} {x y z : Int} {t : Nat} (hd : decode (bc 221) pc = .ok (.if_icmp c z, 3)) (ht : (pc : Int) + z = t) (k1 : cmpb c x y = true → RL xs t ls st M) (k2 : cmpb c x y = false → RL xs (pc + 3) ls st M) : RL xs pc ls ((0, y) :: (0, x) :: st) M := by
  cases hb : cmpb c x y with
  | true => exact l_step hd (by unfold astep; dsimp only; rw [if_pos ⟨rfl, by omega⟩]; show (if cmpb c x y = true then jm pc z ls st S0 M else nx (pc + 3) ls st S0 M) = _; rw [hb, if_pos rfl]; exact jm_ok ht) (k1 hb)
  | false => exact l_step hd (by unfold astep; dsimp only; rw [if_pos ⟨rfl, by omega⟩]; show (if cmpb c x y = true then jm pc z ls st S0 M else nx (pc + 3) ls st S0 M) = _; rw [hb]; rfl) (k2 hb)
theorem l_tabout {d lo hi x : Int} {offs : Array Int} {len t : Nat} (hd : decode (bc 221) pc = .ok (.tableswitch d lo hi offs, len)) (hx : x < lo ∨ hi < x) (ht : (pc : Int) + d = t) (k2 : RL xs t ls st M) : RL xs pc ls ((0, x) :: st) M := l_step hd (by show (if x < lo ∨ hi < x then jm pc d ls st S0 M else _) = _; rw [if_pos hx, jm_ok ht]) k2
theorem l_tabin {d lo hi x z : Int} {offs : Array Int} {len t : Nat} (hd : decode (bc 221) pc = .ok (.tableswitch d lo hi offs, len)) (hx : ¬ (x < lo ∨ hi < x)) (hz : offs[(x - lo).toNat]? = some z) (ht : (pc : Int) + z = t) (k2 : RL xs t ls st M) : RL xs pc ls ((0, x) :: st) M := l_step hd (by show (if x < lo ∨ hi < x then _ else _) = _; rw [if_neg hx, hz]; exact jm_ok ht) k2
/-! an argument out of the script -/
def arP (pc : Nat) (j : Int) : Prop := decode (bc 221) pc = .ok (.aload_n 0, 1) ∧ decode (bc 221) (pc + 1) = .ok (.iload_n 3, 1) ∧ decode (bc 221) (pc + 2) = .ok (.iconst j, 1) ∧ decode (bc 221) (pc + 3) = .ok (.iadd, 1) ∧ decode (bc 221) (pc + 4) = .ok (.iaload, 1)
def arB (pc : Nat) (j : Int) : Bool := decide (decode (bc 221) pc = .ok (.aload_n 0, 1)) && decide (decode (bc 221) (pc + 1) = .ok (.iload_n 3, 1)) && decide (decode (bc 221) (pc + 2) = .ok (.iconst j, 1)) && decide (decode (bc 221) (pc + 3) = .ok (.iadd, 1)) && decide (decode (bc 221) (pc + 4) = .ok (.iaload, 1))
theorem arB_P {pc m : Nat} (h : (List.range m).all (fun j => arB (pc + 5 * j) ((j : Int) + 1)) = true) : ∀ j ∈ List.range m, arP (pc + 5 * j) ((j : Int) + 1) := fun j hj => by
  have h1 := List.all_eq_true.mp h j hj
  unfold arB at h1
  simp only [Bool.and_eq_true, decide_eq_true_eq] at h1
  obtain ⟨⟨⟨⟨a, b⟩, c⟩, d⟩, e⟩ := h1
  exact ⟨a, b, c, d, e⟩
def sc (xs : List Int) (i : Nat) (m : Nat) : List AV := (List.range m).map (fun j => (0, xs.getD (i + (j + 1)) 0))
theorem l_arg {j : Nat} (h : arP pc ((j : Int) + 1)) (hj : j < 5) (hi : i + 6 ≤ xs.length) (hx : xs.length ≤ 3072) (k : RL xs (pc + 5) (lwS i) ((0, xs.getD (i + (j + 1)) 0) :: st) M) : RL xs pc (lwS i) st M := by
  obtain ⟨d0, d1, d2, d3, d4⟩ := h
  refine l_al (v := (4, 0)) d0 rfl (Or.inr rfl) ?_
  refine l_il (x := (i : Int)) d1 rfl ?_
  refine l_ic d2 (by omega) ?_
  refine l_iadd d3 (by omega) ?_
  refine l_iaload d4 (by omega) ?_
  rw [show ((i : Int) + ((j : Int) + 1)).toNat = i + (j + 1) by omega]
  exact k
theorem l_args (hi : i + 6 ≤ xs.length) (hx : xs.length ≤ 3072) : ∀ {m : Nat}, m ≤ 5 → (∀ j ∈ List.range m, arP (pc + 5 * j) ((j : Int) + 1)) → RL xs (pc + 5 * m) (lwS i) ((sc xs i m).reverse ++ st) M → RL xs pc (lwS i) st M
  | 0, _, _, k => k
  | m + 1, hm, h, k => by
    refine l_args hi hx (m := m) (by omega) (fun j hj => h j (List.mem_range.mpr (by have := List.mem_range.mp hj; omega))) ?_
    refine l_arg (j := m) (h m (List.mem_range.mpr (by omega))) (by omega) hi hx ?_
    unfold sc at k
    rw [List.range_succ, List.map_append, List.reverse_append] at k
    exact k
theorem pops_rev : ∀ (as r : List AV), pops as.length (as.reverse ++ r) = some (as, r) := by
  have key : ∀ (bs r : List AV), pops bs.length (bs ++ r) = some (bs.reverse, r) := by
    intro bs
    induction bs with
    | nil => intro r; rfl
    | cons b bs ih =>
      intro r
      show (match pops bs.length (bs ++ r) with | some (as, r) => some (as ++ [b], r) | none => none) = _
      rw [ih r, List.reverse_cons]
  intro as r
  have := key as.reverse r
  rw [List.length_reverse, List.reverse_reverse] at this
  exact this
theorem sc_len {m : Nat} : (sc xs i m).length = m := by
  unfold sc
  rw [List.length_map, List.length_range]
def armP (pc m gc gm nC nM : Nat) : Prop := decode (bc 221) pc = .ok (.aload_n 1, 1) ∧ (∀ j ∈ List.range m, arP (pc + 1 + 5 * j) ((j : Int) + 1)) ∧ decode (bc 221) (pc + 1 + 5 * m) = .ok (.invokevirtual nC, 3) ∧ cq 221 nC [0, 3] = some (gc, m + 1) ∧ decode (bc 221) (pc + 1 + 5 * m + 3) = .ok (.aload_n 2, 1) ∧ (∀ j ∈ List.range m, arP (pc + 1 + 5 * m + 3 + 1 + 5 * j) ((j : Int) + 1)) ∧ decode (bc 221) (pc + 1 + 5 * m + 3 + 1 + 5 * m) = .ok (.invokevirtual nM, 3) ∧ cq 221 nM [0, 3] = some (gm, m + 1) ∧ decode (bc 221) (pc + 1 + 5 * m + 3 + 1 + 5 * m + 3) = .ok (.if_icmp .eq (1280 - ((pc + 1 + 5 * m + 3 + 1 + 5 * m + 3 : Nat) : Int)), 3)
theorem l_arm {m gc gm nC nM : Nat} {c : Int} {S : Sg} (h : armP pc m gc gm nC nM) (hm : m ≤ 5) (hi : i + 6 ≤ xs.length) (hx : xs.length ≤ 3072) (hE : EQ c gc gm (sc xs i m) S) (hG : okG c S) (hRC : RC M S) (hRM : RM M S) (kont : ∀ S' M', okG (c + 1) S' → RC M' S' → RM M' S' → RL xs 1280 (lwS i) [] M') : RL xs pc (lwS i) [] M := by
  obtain ⟨d1, a1, d2, q2, d3, a2, d4, q4, d5⟩ := h
  obtain ⟨S', p, ok', hu, hC, hM⟩ := hE
  have hp1 : ∀ (o : AV) (r : List AV), pops (m + 1) ((sc xs i m).reverse ++ o :: r) = some (o :: sc xs i m, r) := fun o r => by
    have := pops_rev (o :: sc xs i m) r
    rw [List.reverse_cons, List.append_assoc, List.length_cons, sc_len] at this
    exact this
  refine l_al (v := (2, 0)) d1 rfl (Or.inl ⟨rfl, by decide⟩) ?_
  refine l_args hi hx hm a1 ?_
  refine l_call d2 q2 (hp1 _ _) rfl (hC M hRC) (fun v M1 h1 => ?_)
  obtain ⟨z, rfl, pz, hR1, hF1⟩ := h1
  refine l_al (v := (2, 217)) d3 rfl (Or.inl ⟨rfl, by decide⟩) ?_
  refine l_args hi hx hm a2 ?_
  refine l_call d4 q4 (hp1 _ _) rfl (hM M1 (hRM.frc hG.1 hF1)) (fun v M2 h2 => ?_)
  obtain ⟨y, rfl, py, hR2, hF2⟩ := h2
  refine l_icmp (t := 1280) d5 (by omega) (fun _ => kont S' M2 ok' (hR1.frm hF2) hR2) (fun hb => ?_)
  have : decide (z = y) = false := hb
  rw [hu z y pz py] at this
  simp at this
theorem ap_0 : armP 180 1 74 153 13 17 := ⟨by decide +kernel, arB_P (by decide +kernel), by decide +kernel, by decide +kernel, by decide +kernel, arB_P (by decide +kernel), by decide +kernel, by decide +kernel, by decide +kernel⟩
theorem ap_1 : armP 203 2 75 154 18 22 := ⟨by decide +kernel, arB_P (by decide +kernel), by decide +kernel, by decide +kernel, by decide +kernel, arB_P (by decide +kernel), by decide +kernel, by decide +kernel, by decide +kernel⟩
theorem ap_2 : armP 236 5 76 155 23 27 := ⟨by decide +kernel, arB_P (by decide +kernel), by decide +kernel, by decide +kernel, by decide +kernel, arB_P (by decide +kernel), by decide +kernel, by decide +kernel, by decide +kernel⟩
theorem ap_3 : armP 299 2 77 156 28 31 := ⟨by decide +kernel, arB_P (by decide +kernel), by decide +kernel, by decide +kernel, by decide +kernel, arB_P (by decide +kernel), by decide +kernel, by decide +kernel, by decide +kernel⟩
theorem ap_4 : armP 332 4 78 158 32 36 := ⟨by decide +kernel, arB_P (by decide +kernel), by decide +kernel, by decide +kernel, by decide +kernel, arB_P (by decide +kernel), by decide +kernel, by decide +kernel, by decide +kernel⟩
theorem ap_5 : armP 385 3 79 159 37 41 := ⟨by decide +kernel, arB_P (by decide +kernel), by decide +kernel, by decide +kernel, by decide +kernel, arB_P (by decide +kernel), by decide +kernel, by decide +kernel, by decide +kernel⟩
theorem ap_6 : armP 428 3 80 160 42 45 := ⟨by decide +kernel, arB_P (by decide +kernel), by decide +kernel, by decide +kernel, by decide +kernel, arB_P (by decide +kernel), by decide +kernel, by decide +kernel, by decide +kernel⟩
theorem ap_7 : armP 471 2 81 161 46 49 := ⟨by decide +kernel, arB_P (by decide +kernel), by decide +kernel, by decide +kernel, by decide +kernel, arB_P (by decide +kernel), by decide +kernel, by decide +kernel, by decide +kernel⟩
theorem ap_8 : armP 504 3 82 162 50 53 := ⟨by decide +kernel, arB_P (by decide +kernel), by decide +kernel, by decide +kernel, by decide +kernel, arB_P (by decide +kernel), by decide +kernel, by decide +kernel, by decide +kernel⟩
theorem ap_9 : armP 547 3 83 163 54 57 := ⟨by decide +kernel, arB_P (by decide +kernel), by decide +kernel, by decide +kernel, by decide +kernel, arB_P (by decide +kernel), by decide +kernel, by decide +kernel, by decide +kernel⟩
theorem ap_10 : armP 590 1 84 164 58 61 := ⟨by decide +kernel, arB_P (by decide +kernel), by decide +kernel, by decide +kernel, by decide +kernel, arB_P (by decide +kernel), by decide +kernel, by decide +kernel, by decide +kernel⟩
theorem ap_11 : armP 613 4 85 165 62 65 := ⟨by decide +kernel, arB_P (by decide +kernel), by decide +kernel, by decide +kernel, by decide +kernel, arB_P (by decide +kernel), by decide +kernel, by decide +kernel, by decide +kernel⟩
theorem ap_12 : armP 666 3 86 166 66 69 := ⟨by decide +kernel, arB_P (by decide +kernel), by decide +kernel, by decide +kernel, by decide +kernel, arB_P (by decide +kernel), by decide +kernel, by decide +kernel, by decide +kernel⟩
theorem ap_13 : armP 709 2 87 167 70 73 := ⟨by decide +kernel, arB_P (by decide +kernel), by decide +kernel, by decide +kernel, by decide +kernel, arB_P (by decide +kernel), by decide +kernel, by decide +kernel, by decide +kernel⟩
theorem ap_14 : armP 742 3 88 168 74 77 := ⟨by decide +kernel, arB_P (by decide +kernel), by decide +kernel, by decide +kernel, by decide +kernel, arB_P (by decide +kernel), by decide +kernel, by decide +kernel, by decide +kernel⟩
theorem ap_15 : armP 785 1 89 170 78 81 := ⟨by decide +kernel, arB_P (by decide +kernel), by decide +kernel, by decide +kernel, by decide +kernel, arB_P (by decide +kernel), by decide +kernel, by decide +kernel, by decide +kernel⟩
theorem ap_16 : armP 808 1 90 171 82 85 := ⟨by decide +kernel, arB_P (by decide +kernel), by decide +kernel, by decide +kernel, by decide +kernel, arB_P (by decide +kernel), by decide +kernel, by decide +kernel, by decide +kernel⟩
theorem ap_17 : armP 831 1 91 179 86 89 := ⟨by decide +kernel, arB_P (by decide +kernel), by decide +kernel, by decide +kernel, by decide +kernel, arB_P (by decide +kernel), by decide +kernel, by decide +kernel, by decide +kernel⟩
theorem ap_18 : armP 854 3 92 181 90 93 := ⟨by decide +kernel, arB_P (by decide +kernel), by decide +kernel, by decide +kernel, by decide +kernel, arB_P (by decide +kernel), by decide +kernel, by decide +kernel, by decide +kernel⟩
theorem ap_19 : armP 897 3 93 182 94 97 := ⟨by decide +kernel, arB_P (by decide +kernel), by decide +kernel, by decide +kernel, by decide +kernel, arB_P (by decide +kernel), by decide +kernel, by decide +kernel, by decide +kernel⟩
theorem ap_20 : armP 940 2 94 184 98 101 := ⟨by decide +kernel, arB_P (by decide +kernel), by decide +kernel, by decide +kernel, by decide +kernel, arB_P (by decide +kernel), by decide +kernel, by decide +kernel, by decide +kernel⟩
theorem ap_21 : armP 973 2 95 188 102 105 := ⟨by decide +kernel, arB_P (by decide +kernel), by decide +kernel, by decide +kernel, by decide +kernel, arB_P (by decide +kernel), by decide +kernel, by decide +kernel, by decide +kernel⟩
theorem ap_22 : armP 1006 2 96 191 106 109 := ⟨by decide +kernel, arB_P (by decide +kernel), by decide +kernel, by decide +kernel, by decide +kernel, arB_P (by decide +kernel), by decide +kernel, by decide +kernel, by decide +kernel⟩
theorem ap_23 : armP 1039 2 97 195 110 113 := ⟨by decide +kernel, arB_P (by decide +kernel), by decide +kernel, by decide +kernel, by decide +kernel, arB_P (by decide +kernel), by decide +kernel, by decide +kernel, by decide +kernel⟩
theorem ap_24 : armP 1072 1 98 196 114 117 := ⟨by decide +kernel, arB_P (by decide +kernel), by decide +kernel, by decide +kernel, by decide +kernel, arB_P (by decide +kernel), by decide +kernel, by decide +kernel, by decide +kernel⟩
theorem ap_25 : armP 1095 0 99 197 118 122 := ⟨by decide +kernel, arB_P (by decide +kernel), by decide +kernel, by decide +kernel, by decide +kernel, arB_P (by decide +kernel), by decide +kernel, by decide +kernel, by decide +kernel⟩
theorem ap_26 : armP 1108 0 100 200 123 126 := ⟨by decide +kernel, arB_P (by decide +kernel), by decide +kernel, by decide +kernel, by decide +kernel, arB_P (by decide +kernel), by decide +kernel, by decide +kernel, by decide +kernel⟩
theorem ap_27 : armP 1121 3 101 205 127 130 := ⟨by decide +kernel, arB_P (by decide +kernel), by decide +kernel, by decide +kernel, by decide +kernel, arB_P (by decide +kernel), by decide +kernel, by decide +kernel, by decide +kernel⟩
theorem ap_28 : armP 1164 2 102 207 131 134 := ⟨by decide +kernel, arB_P (by decide +kernel), by decide +kernel, by decide +kernel, by decide +kernel, arB_P (by decide +kernel), by decide +kernel, by decide +kernel, by decide +kernel⟩
theorem ap_29 : armP 1197 2 103 211 135 138 := ⟨by decide +kernel, arB_P (by decide +kernel), by decide +kernel, by decide +kernel, by decide +kernel, arB_P (by decide +kernel), by decide +kernel, by decide +kernel, by decide +kernel⟩
theorem ap_30 : armP 1230 0 104 152 139 142 := ⟨by decide +kernel, arB_P (by decide +kernel), by decide +kernel, by decide +kernel, by decide +kernel, arB_P (by decide +kernel), by decide +kernel, by decide +kernel, by decide +kernel⟩
theorem ap_31 : armP 1243 1 105 213 143 146 := ⟨by decide +kernel, arB_P (by decide +kernel), by decide +kernel, by decide +kernel, by decide +kernel, arB_P (by decide +kernel), by decide +kernel, by decide +kernel, by decide +kernel⟩
theorem l_dig {c : Int} {S : Sg} (hG : okG c S) (hRC : RC M S) (hRM : RM M S) (kont : ∀ S' M', okG (c + 1) S' → RC M' S' → RM M' S' → RL xs 1280 (lwS i) [] M') : RL xs 1266 (lwS i) [] M := by
  have d1 : decode (bc 221) 1266 = .ok (.aload_n 1, 1) := by decide +kernel
  have d2 : decode (bc 221) 1267 = .ok (.invokevirtual 147, 3) := by decide +kernel
  have q2 : cq 221 147 [0, 3] = some (106, 1) := by decide +kernel
  have d3 : decode (bc 221) 1270 = .ok (.aload_n 2, 1) := by decide +kernel
  have d4 : decode (bc 221) 1271 = .ok (.invokevirtual 151, 3) := by decide +kernel
  have q4 : cq 221 151 [0, 3] = some (214, 1) := by decide +kernel
  have d5 : decode (bc 221) 1274 = .ok (.lcmp, 1) := by decide +kernel
  have d6 : decode (bc 221) 1275 = .ok (.ifCond .eq 5, 3) := by decide +kernel
  refine l_al (v := (2, 0)) d1 rfl (Or.inl ⟨rfl, by decide⟩) ?_
  refine l_call d2 q2 rfl rfl (q_digestC hG hRC) (fun v M1 h1 => ?_)
  obtain ⟨rfl, rfl⟩ := h1
  refine l_al (v := (2, 217)) d3 rfl (Or.inl ⟨rfl, by decide⟩) ?_
  refine l_call d4 q4 rfl rfl (q_digestM hG hRM) (fun v M2 h2 => ?_)
  obtain ⟨y, rfl, rfl, hR2, hF2⟩ := h2
  refine l_step (st' := [(0, 0)]) (ls' := lwS i) (pc' := 1275) d5 (by show nx 1275 (lwS i) [(0, if dgV S < dgV S then 1 else if dgV S = dgV S then 0 else -1)] S0 M2 = _; rw [if_neg (by omega), if_pos rfl]; rfl) ?_
  refine l_step (st' := []) (ls' := lwS i) (pc' := 1280) d6 rfl ?_
  exact kont S M2 hG.same (hRC.frm hF2) hR2
theorem okG.mono {c c' : Int} {S : Sg} (h : okG c S) (hc : c ≤ c') : okG c' S := ⟨h.1, fun j a b => by
  have := h.2.1 j a b
  omega, h.2.2⟩
theorem l_loop (hx : xs.length ≤ 3072) (hr : ∀ x ∈ xs, -2147483648 ≤ x ∧ x < 2147483648) : ∀ (k i : Nat) (S : Sg) (M : Mo), xs.length ≤ i + k → i ≤ 4000 → okG i S → RC M S → RM M S → RL xs 18 (lwS i) [] M
  | k, i, S, M, hk, hi4, hG, hRC, hRM => by
    have d18 : decode (bc 221) 18 = .ok (.iload_n 3, 1) := by decide +kernel
    have d19 : decode (bc 221) 19 = .ok (.aload_n 0, 1) := by decide +kernel
    have d20 : decode (bc 221) 20 = .ok (.arraylength, 1) := by decide +kernel
    have d21 : decode (bc 221) 21 = .ok (.bipush 6, 2) := by decide +kernel
    have d23 : decode (bc 221) 23 = .ok (.isub, 1) := by decide +kernel
    have d24 : decode (bc 221) 24 = .ok (.if_icmp .gt 1262, 3) := by decide +kernel
    have d27 : decode (bc 221) 27 = .ok (.aload_n 0, 1) := by decide +kernel
    have d28 : decode (bc 221) 28 = .ok (.iload_n 3, 1) := by decide +kernel
    have d29 : decode (bc 221) 29 = .ok (.iaload, 1) := by decide +kernel
    have d30 : decode (bc 221) 30 = .ok (.bipush 63, 2) := by decide +kernel
    have d32 : decode (bc 221) 32 = .ok (.iand, 1) := by decide +kernel
    have d33 : decode (bc 221) 33 = .ok (.tableswitch 1247 0 32 #[147, 170, 203, 266, 299, 352, 395, 438, 471, 514, 557, 580, 633, 676, 709, 752, 775, 798, 821, 864, 907, 940, 973, 1006, 1039, 1062, 1075, 1088, 1131, 1164, 1197, 1210, 1233], 147) := by decide +kernel
    have d1280 : decode (bc 221) 1280 = .ok (.iinc 3 6, 3) := by decide +kernel
    have d1283 : decode (bc 221) 1283 = .ok (.goto (-1265), 3) := by decide +kernel
    have d1286 : decode (bc 221) 1286 = .ok (.iconst 1, 1) := by decide +kernel
    have d1287 : decode (bc 221) 1287 = .ok (.ireturn, 1) := by decide +kernel
    refine l_il (x := (i : Int)) d18 rfl ?_
    refine l_al (v := (4, 0)) d19 rfl (Or.inr rfl) ?_
    refine l_len d20 ?_
    refine l_bp d21 (by omega) ?_
    refine l_isub d23 (by omega) ?_
    refine l_icmp (t := 1286) d24 (by omega) (fun _ => ?_) (fun hb => ?_)
    · refine l_ic d1286 (by omega) ?_
      intro hl
      refine ⟨1, M, ?_⟩
      unfold arun
      rw [d1287]
      dsimp only
      have : astep (some xs) 221 1287 .ireturn 1 (lwS i) [(0, 1)] S0 M = some (.inr (.inl (some (0, 1)))) := by
        show (if rty 221 = some .int ∨ rty 221 = some .boolean ∧ ((1 : Int) = 0 ∨ (1 : Int) = 1) then (some (.inr (.inl (some (0, 1)))) : Option AR) else none) = _
        rw [if_pos (Or.inr ⟨rty_law, Or.inr rfl⟩)]
      rw [this]
    · have hb2 : ¬ ((xs.length : Int) - 6 < i) := by
        have : decide ((xs.length : Int) - 6 < i) = false := hb
        simpa using this
      have hi6 : i + 6 ≤ xs.length := by omega
      have hnext : ∀ S' M', okG ((i : Int) + 1) S' → RC M' S' → RM M' S' → RL xs 1280 (lwS i) [] M' := fun S' M' g1 g2 g3 => by
        refine l_iinc (x := (i : Int)) d1280 rfl (by omega) (ls' := lwS (i + 6)) rfl ?_
        refine l_goto (t := 18) d1283 (by omega) ?_
        match k, hk with
        | 0, hk => omega
        | k + 1, hk => exact l_loop hx hr k (i + 6) S' M' (by omega) (by omega) (g1.mono (by omega)) g2 g3
      have hget : ∀ j : Nat, -2147483648 ≤ xs.getD j 0 ∧ xs.getD j 0 < 2147483648 := fun j => by
        rw [List.getD_eq_getElem?_getD]
        cases hj : xs[j]? with
        | none => exact ⟨by decide, by decide⟩
        | some v => exact hr v (List.mem_of_getElem? hj)
      have hc : (i : Int) < 1000000000 := by omega
      refine l_al (v := (4, 0)) d27 rfl (Or.inr rfl) ?_
      refine l_il (x := (i : Int)) d28 rfl ?_
      refine l_iaload d29 (by omega) ?_
      refine l_bp d30 (by omega) ?_
      refine l_iand d32 rfl ?_
      generalize (Int32.ofInt (xs.getD (i : Int).toNat 0) &&& Int32.ofInt 63).toInt = z
      by_cases hz : z < 0 ∨ 32 < z
      · exact l_tabout (t := 1280) d33 hz (by omega) (hnext S M hG.same hRC hRM)
      · have h33 : z = 0 ∨ z = 1 ∨ z = 2 ∨ z = 3 ∨ z = 4 ∨ z = 5 ∨ z = 6 ∨ z = 7 ∨ z = 8 ∨ z = 9 ∨ z = 10 ∨ z = 11 ∨ z = 12 ∨ z = 13 ∨ z = 14 ∨ z = 15 ∨ z = 16 ∨ z = 17 ∨ z = 18 ∨ z = 19 ∨ z = 20 ∨ z = 21 ∨ z = 22 ∨ z = 23 ∨ z = 24 ∨ z = 25 ∨ z = 26 ∨ z = 27 ∨ z = 28 ∨ z = 29 ∨ z = 30 ∨ z = 31 ∨ z = 32 := by omega
        rcases h33 with rfl | rfl | rfl | rfl | rfl | rfl | rfl | rfl | rfl | rfl | rfl | rfl | rfl | rfl | rfl | rfl | rfl | rfl | rfl | rfl | rfl | rfl | rfl | rfl | rfl | rfl | rfl | rfl | rfl | rfl | rfl | rfl | rfl
        · exact l_tabin (t := 180) d33 (by omega) rfl rfl (l_arm ap_0 (by omega) hi6 hx (q_begins hc hG _) hG hRC hRM hnext)
        · exact l_tabin (t := 203) d33 (by omega) rfl rfl (l_arm ap_1 (by omega) hi6 hx (q_sizes hc hG _ _) hG hRC hRM hnext)
        · exact l_tabin (t := 236) d33 (by omega) rfl rfl (l_arm ap_2 (by omega) hi6 hx (q_sets hc hG _ _ _ _ _) hG hRC hRM hnext)
        · exact l_tabin (t := 299) d33 (by omega) rfl rfl (l_arm ap_3 (by omega) hi6 hx (q_draws hc hG _ _) hG hRC hRM hnext)
        · exact l_tabin (t := 332) d33 (by omega) rfl rfl (l_arm ap_4 (by omega) hi6 hx (q_turns hc hG _ _ _ _) hG hRC hRM hnext)
        · exact l_tabin (t := 385) d33 (by omega) rfl rfl (l_arm ap_5 (by omega) hi6 hx (q_adds hc hG _ _ _) hG hRC hRM hnext)
        · exact l_tabin (t := 428) d33 (by omega) rfl rfl (l_arm ap_6 (by omega) hi6 hx (q_times hc hG _ _ _) hG hRC hRM hnext)
        · exact l_tabin (t := 471) d33 (by omega) rfl rfl (l_arm ap_7 (by omega) hi6 hx (q_over hc hG _ _) hG hRC hRM hnext)
        · exact l_tabin (t := 504) d33 (by omega) rfl rfl (l_arm ap_8 (by omega) hi6 hx (q_parts hc hG _ _ _) hG hRC hRM hnext)
        · exact l_tabin (t := 547) d33 (by omega) rfl rfl (l_arm ap_9 (by omega) hi6 hx (q_rests hc hG _ _ _) hG hRC hRM hnext)
        · exact l_tabin (t := 590) d33 (by omega) rfl rfl (l_arm ap_10 (by omega) hi6 hx (q_size hc hG _) hG hRC hRM hnext)
        · exact l_tabin (t := 613) d33 (by omega) rfl rfl (l_arm ap_11 (by omega) hi6 hx (q_at hc hG _ _ _ _) hG hRC hRM hnext)
        · exact l_tabin (t := 666) d33 (by omega) rfl rfl (l_arm ap_12 (by omega) hi6 hx (q_moved hc hG _ _ _) hG hRC hRM hnext)
        · exact l_tabin (t := 709) d33 (by omega) rfl rfl (l_arm ap_13 (by omega) hi6 hx (q_spun hc hG _ _) hG hRC hRM hnext)
        · exact l_tabin (t := 742) d33 (by omega) rfl rfl (l_arm ap_14 (by omega) hi6 hx (q_row hc hG _ _ _) hG hRC hRM hnext)
        · exact l_tabin (t := 785) d33 (by omega) rfl rfl (l_arm ap_15 (by omega) hi6 hx (q_simple hc hG _) hG hRC hRM hnext)
        · exact l_tabin (t := 808) d33 (by omega) rfl rfl (l_arm ap_16 (by omega) hi6 hx (q_least hc hG _) hG hRC hRM hnext)
        · exact l_tabin (t := 831) d33 (by omega) rfl rfl (l_arm ap_17 (by omega) hi6 hx (q_factors hc hG _) hG hRC hRM hnext)
        · exact l_tabin (t := 854) d33 (by omega) rfl rfl (l_arm ap_18 (by omega) hi6 hx (q_factor hc hG _ _ _) hG hRC hRM hnext)
        · exact l_tabin (t := 897) d33 (by omega) rfl rfl (l_arm ap_19 (by omega) hi6 hx (q_telling hc hG _ _ _ (hget _).2) hG hRC hRM hnext)
        · exact l_tabin (t := 940) d33 (by omega) rfl rfl (l_arm ap_20 (by omega) hi6 hx (q_common hc hG _ _) hG hRC hRM hnext)
        · exact l_tabin (t := 973) d33 (by omega) rfl rfl (l_arm ap_21 (by omega) hi6 hx (q_ways hc hG _ _) hG hRC hRM hnext)
        · exact l_tabin (t := 1006) d33 (by omega) rfl rfl (l_arm ap_22 (by omega) hi6 hx (q_layer hc hG _ _ (hget _).2) hG hRC hRM hnext)
        · exact l_tabin (t := 1039) d33 (by omega) rfl rfl (l_arm ap_23 (by omega) hi6 hx (q_spaces hc hG _ _) hG hRC hRM hnext)
        · exact l_tabin (t := 1072) d33 (by omega) rfl rfl (l_arm ap_24 (by omega) hi6 hx (q_type hc hG _) hG hRC hRM hnext)
        · exact l_tabin (t := 1095) d33 (by omega) rfl rfl (l_arm ap_25 (by omega) hi6 hx (q_clear hG) hG hRC hRM hnext)
        · exact l_tabin (t := 1108) d33 (by omega) rfl rfl (l_arm ap_26 (by omega) hi6 hx (q_tells hG) hG hRC hRM hnext)
        · exact l_tabin (t := 1121) d33 (by omega) rfl rfl (l_arm ap_27 (by omega) hi6 hx (q_word hc hG _ _ _) hG hRC hRM hnext)
        · exact l_tabin (t := 1164) d33 (by omega) rfl rfl (l_arm ap_28 (by omega) hi6 hx (q_nulls hc hG _ _) hG hRC hRM hnext)
        · exact l_tabin (t := 1197) d33 (by omega) rfl rfl (l_arm ap_29 (by omega) hi6 hx (q_poly hc hG _ _) hG hRC hRM hnext)
        · exact l_tabin (t := 1230) d33 (by omega) rfl rfl (l_arm ap_30 (by omega) hi6 hx (q_back hc hG) hG hRC hRM hnext)
        · exact l_tabin (t := 1243) d33 (by omega) rfl rfl (l_arm ap_31 (by omega) hi6 hx (q_told hc hG _) hG hRC hRM hnext)
        · exact l_tabin (t := 1266) d33 (by omega) rfl rfl (l_dig hG hRC hRM hnext)
end
