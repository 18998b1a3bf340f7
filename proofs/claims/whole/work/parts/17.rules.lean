/-! Rules for runs of the abstract machine behind the constructors. -/
theorem arun_mono : ∀ (n : Nat) {o : Option (List Int)} {f pc : Nat} {ls st : List AV} {σ : Sh} {M : Mo} {r : Option AV × Sh × Mo}, arun o n f pc ls st σ M = some r → ∀ k, arun o (n + k) f pc ls st σ M = some r
  | 0, _, _, _, _, _, _, _, _, h, _ => by
    unfold arun at h
    cases h
  | n + 1, o, f, pc, ls, st, σ, M, r, h, k => by
    rw [show n + 1 + k = (n + k) + 1 by omega]
    unfold arun at h ⊢
    cases hd : decode (bc f) pc with
    | error x => rw [hd] at h; cases h
    | ok il =>
      obtain ⟨i, len⟩ := il
      rw [hd] at h
      dsimp only at h ⊢
      cases hs : astep o f pc i len ls st σ M with
      | none => rw [hs] at h; cases h
      | some z =>
        rw [hs] at h
        rcases z with ⟨pc', ls', st', σ', M'⟩ | v | ⟨g, as, r2⟩
        · dsimp only at h ⊢
          exact arun_mono n h k
        · exact h
        · dsimp only at h ⊢
          cases hc : arun none n g 0 (entl g as) [] σ M with
          | none => rw [hc] at h; cases h
          | some w =>
            obtain ⟨v, σ', M'⟩ := w
            rw [hc] at h
            rw [arun_mono n hc k]
            exact arun_mono n h k
def Rn (f pc : Nat) (ls st : List AV) (M : Mo) (Q : Option AV → Mo → Prop) : Prop := Lay M → ∃ (n : Nat) (v : Option AV) (M' : Mo), arun none n f pc ls st S0 M = some (v, S0, M') ∧ Lay M' ∧ Q v M'
def Cl (g : Nat) (as : List AV) (M : Mo) (Q : Option AV → Mo → Prop) : Prop := (rcv S0 g as = true ∧ (ent as).length ≤ mxl g ∧ (as.all fun v => v.1 == 0 || v.1 == 1 || v.1 == 2) = true) ∧ Rn g 0 (entl g as) [] M Q
theorem Rn.mono {f pc : Nat} {ls st : List AV} {M : Mo} {Q Q' : Option AV → Mo → Prop} (h : Rn f pc ls st M Q) (hq : ∀ v M', Q v M' → Q' v M') : Rn f pc ls st M Q' := fun hl => by
  obtain ⟨n, v, M', h1, h2, h3⟩ := h hl
  exact ⟨n, v, M', h1, h2, hq v M' h3⟩
theorem Cl.mono {g : Nat} {as : List AV} {M : Mo} {Q Q' : Option AV → Mo → Prop} (h : Cl g as M Q) (hq : ∀ v M', Q v M' → Q' v M') : Cl g as M Q' := ⟨h.1, h.2.mono hq⟩
section
variable {f pc : Nat} {ls ls' st : List AV} {M : Mo} {Q : Option AV → Mo → Prop}
theorem r_step {len pc' : Nat} {i : Instr} {ls' st' : List AV} {M' : Mo} (hd : decode (bc f) pc = .ok (i, len)) (hs : astep none f pc i len ls st S0 M = some (.inl (pc', ls', st', S0, M'))) (hl : Lay M → Lay M') (k : Rn f pc' ls' st' M' Q) : Rn f pc ls st M Q := by
  intro h
  obtain ⟨n, v, M2, h1, h2, h3⟩ := k (hl h)
  refine ⟨n + 1, v, M2, ?_, h2, h3⟩
  unfold arun
  rw [hd]
  dsimp only
  rw [hs]
  exact h1
theorem r_stepL {len pc' : Nat} {i : Instr} {ls' st' : List AV} {M' : Mo} (hd : decode (bc f) pc = .ok (i, len)) (hs : Lay M → astep none f pc i len ls st S0 M = some (.inl (pc', ls', st', S0, M'))) (hl : Lay M → Lay M') (k : Rn f pc' ls' st' M' Q) : Rn f pc ls st M Q := fun h => r_step hd (hs h) hl k h
theorem r_callg {len : Nat} {i : Instr} {g : Nat} {as r : List AV} {Q1 : Option AV → Mo → Prop} (hd : decode (bc f) pc = .ok (i, len)) (hs : astep none f pc i len ls st S0 M = some (.inr (.inr (g, as, r)))) (hC : Rn g 0 (entl g as) [] M Q1) (k : ∀ v M', Q1 v M' → Rn f (pc + 3) ls (v.toList ++ r) M' Q) : Rn f pc ls st M Q := by
  intro h
  obtain ⟨n1, v1, M1, h1, h2, h3⟩ := hC h
  obtain ⟨n2, v2, M2, g1, g2, g3⟩ := k v1 M1 h3 h2
  refine ⟨(n1 + n2) + 1, v2, M2, ?_, g2, g3⟩
  unfold arun
  rw [hd]
  dsimp only
  rw [hs]
  dsimp only
  rw [arun_mono n1 h1 n2]
  dsimp only
  rw [Nat.add_comm]
  exact arun_mono n2 g1 n1
theorem r_retg {len : Nat} {i : Instr} {v : Option AV} (hd : decode (bc f) pc = .ok (i, len)) (hs : astep none f pc i len ls st S0 M = some (.inr (.inl v))) (hq : Q v M) : Rn f pc ls st M Q := by
  intro h
  refine ⟨1, v, M, ?_, h, hq⟩
  unfold arun
  rw [hd]
  dsimp only
  rw [hs]
theorem r_iret {x : Int} (hd : decode (bc f) pc = .ok (.ireturn, 1)) (hr : rty f = some .int) (hq : Q (some (0, x)) M) : Rn f pc ls [(0, x)] M Q := r_retg hd (by show (if rty f = some .int ∨ rty f = some .boolean ∧ (x = 0 ∨ x = 1) then (some (.inr (.inl (some (0, x)))) : Option AR) else none) = _; rw [if_pos (Or.inl hr)]) hq
theorem r_zret {x : Int} (hd : decode (bc f) pc = .ok (.ireturn, 1)) (hr : rty f = some .boolean) (hx : x = 0 ∨ x = 1) (hq : Q (some (0, x)) M) : Rn f pc ls [(0, x)] M Q := r_retg hd (by show (if rty f = some .int ∨ rty f = some .boolean ∧ (x = 0 ∨ x = 1) then (some (.inr (.inl (some (0, x)))) : Option AR) else none) = _; rw [if_pos (Or.inr ⟨hr, hx⟩)]) hq
theorem r_lret {x : Int} (hd : decode (bc f) pc = .ok (.lreturn, 1)) (hr : rty f = some .long) (hq : Q (some (1, x)) M) : Rn f pc ls [(1, x)] M Q := r_retg hd (by show (if rty f = some .long then (some (.inr (.inl (some (1, x)))) : Option AR) else none) = _; rw [if_pos hr]) hq
theorem r_vret (hd : decode (bc f) pc = .ok (.return_, 1)) (hr : rty f = none) (hq : Q none M) : Rn f pc ls [] M Q := r_retg hd (by show (if rty f = none then (some (.inr (.inl none)) : Option AR) else none) = _; rw [if_pos hr]) hq
/-- a call site: the method and the number of its arguments with the receiver -/
def cq (f n : Nat) (kds : List Nat) : Option (Nat × Nat) := match mlk (own f) n with
  | some e => if kds.contains e.2.2.2.1 ∧ hgt e.2.2.1 < hgt f ∧ e.2.2.2.1 < 6 then some (e.2.2.1, npr e.2.2.1 + (if sta e.2.2.1 then 0 else 1)) else none
  | none => none
theorem cq_ava {n : Nat} {kds : List Nat} {g na : Nat} {as r : List AV} (hq : cq f n kds = some (g, na)) (hp : pops na st = some (as, r)) (hcat : cats r ≤ 8) (hs : rcv S0 g as = true ∧ (ent as).length ≤ mxl g ∧ (as.all fun v => v.1 == 0 || v.1 == 1 || v.1 == 2) = true) : ava f 3 st S0 n kds = some (.inr (.inr (g, as, r))) ∧ ∃ e, mlk (own f) n = some e ∧ e.2.2.2.1 < 6 := by
  unfold cq at hq
  split at hq
  · rename_i e he
    split at hq
    · rename_i hc
      cases hq
      refine ⟨?_, e, he, hc.2.2⟩
      unfold ava
      rw [if_pos rfl, he]
      dsimp only
      rw [if_pos hc.1, hp]
      dsimp only
      rw [if_pos ⟨hcat, hc.2.1, hs⟩]
    · cases hq
  · cases hq
theorem r_callv {n g na : Nat} {as r : List AV} {Q1 : Option AV → Mo → Prop} (hd : decode (bc f) pc = .ok (.invokevirtual n, 3)) (hq : cq f n [0, 3] = some (g, na)) (hp : pops na st = some (as, r)) (hcat : Nat.ble (cats r) 8 = true) (hC : Cl g as M Q1) (k : ∀ v M', Q1 v M' → Rn f (pc + 3) ls (v.toList ++ r) M' Q) : Rn f pc ls st M Q :=
  r_callg hd (cq_ava hq hp (Nat.le_of_ble_eq_true hcat) hC.1).1 hC.2 k
theorem r_calls {n g na : Nat} {as r : List AV} {Q1 : Option AV → Mo → Prop} (hd : decode (bc f) pc = .ok (.invokestatic n, 3)) (hq : cq f n [1, 4] = some (g, na)) (hp : pops na st = some (as, r)) (hcat : Nat.ble (cats r) 8 = true) (hC : Cl g as M Q1) (k : ∀ v M', Q1 v M' → Rn f (pc + 3) ls (v.toList ++ r) M' Q) : Rn f pc ls st M Q := by
  obtain ⟨h1, e, h2, h3⟩ := cq_ava hq hp (Nat.le_of_ble_eq_true hcat) hC.1
  refine r_callg hd ?_ hC.2 k
  unfold astep
  dsimp only
  rw [h2]
  rw [if_neg (by simp; omega)]
  exact h1
/-! loads, stores, constants -/
theorem r_iload_n {k : Fin 4} {x : Int} (hd : decode (bc f) pc = .ok (.iload_n k, 1)) (hl : ls[k.val]? = some (0, x)) (k2 : Rn f (pc + 1) ls ((0, x) :: st) M Q) : Rn f pc ls st M Q := r_step hd (by unfold astep ald; dsimp only; rw [if_pos rfl, hl]; dsimp only; rw [if_pos rfl]; rfl) id k2
theorem r_iload {i : Nat} {x : Int} (hd : decode (bc f) pc = .ok (.iload i, 2)) (hl : ls[i]? = some (0, x)) (k2 : Rn f (pc + 2) ls ((0, x) :: st) M Q) : Rn f pc ls st M Q := r_step hd (by unfold astep ald; dsimp only; rw [if_pos rfl, hl]; dsimp only; rw [if_pos rfl]; rfl) id k2
theorem r_lload_n {k : Fin 4} {x : Int} (hd : decode (bc f) pc = .ok (.lload_n k, 1)) (hl : ls[k.val]? = some (1, x)) (k2 : Rn f (pc + 1) ls ((1, x) :: st) M Q) : Rn f pc ls st M Q := r_step hd (by unfold astep ald; dsimp only; rw [if_pos rfl, hl]; dsimp only; rw [if_pos rfl]; rfl) id k2
theorem r_lload {i : Nat} {x : Int} (hd : decode (bc f) pc = .ok (.lload i, 2)) (hl : ls[i]? = some (1, x)) (k2 : Rn f (pc + 2) ls ((1, x) :: st) M Q) : Rn f pc ls st M Q := r_step hd (by unfold astep ald; dsimp only; rw [if_pos rfl, hl]; dsimp only; rw [if_pos rfl]; rfl) id k2
theorem r_aload_n {k : Fin 4} {x : Int} (hd : decode (bc f) pc = .ok (.aload_n k, 1)) (hl : ls[k.val]? = some (2, x)) (h0 : 0 ≤ x) (k2 : Rn f (pc + 1) ls ((2, x) :: st) M Q) : Rn f pc ls st M Q := r_step hd (by unfold astep alda; dsimp only; rw [if_pos rfl, hl]; dsimp only; rw [if_pos (Or.inl ⟨rfl, h0⟩)]; rfl) id k2
theorem r_aload {i : Nat} {x : Int} (hd : decode (bc f) pc = .ok (.aload i, 2)) (hl : ls[i]? = some (2, x)) (h0 : 0 ≤ x) (k2 : Rn f (pc + 2) ls ((2, x) :: st) M Q) : Rn f pc ls st M Q := r_step hd (by unfold astep alda; dsimp only; rw [if_pos rfl, hl]; dsimp only; rw [if_pos (Or.inl ⟨rfl, h0⟩)]; rfl) id k2
theorem lt_len {i : Nat} {v : AV} (h : stl ls i v = ls') (hn : Nat.blt i ls.length = true) : i < ls.length := Nat.le_of_ble_eq_true hn
theorem r_istore_n {k : Fin 4} {x : Int} (hd : decode (bc f) pc = .ok (.istore_n k, 1)) (hn : Nat.blt k.val ls.length = true) (hl : stl ls k.val (0, x) = ls') (k2 : Rn f (pc + 1) ls' st M Q) : Rn f pc ls ((0, x) :: st) M Q := r_step hd (by unfold astep ast; dsimp only; rw [if_pos rfl, if_pos ⟨rfl, lt_len hl hn, fun h => absurd h (by decide)⟩, hl]; rfl) id k2
theorem r_istore {i : Nat} {x : Int} (hd : decode (bc f) pc = .ok (.istore i, 2)) (hn : Nat.blt i ls.length = true) (hl : stl ls i (0, x) = ls') (k2 : Rn f (pc + 2) ls' st M Q) : Rn f pc ls ((0, x) :: st) M Q := r_step hd (by unfold astep ast; dsimp only; rw [if_pos rfl, if_pos ⟨rfl, lt_len hl hn, fun h => absurd h (by decide)⟩, hl]; rfl) id k2
theorem r_lstore_n {k : Fin 4} {x : Int} (hd : decode (bc f) pc = .ok (.lstore_n k, 1)) (hn : Nat.blt (k.val + 1) ls.length = true) (hl : stl ls k.val (1, x) = ls') (k2 : Rn f (pc + 1) ls' st M Q) : Rn f pc ls ((1, x) :: st) M Q := r_step hd (by unfold astep ast; dsimp only; rw [if_pos rfl, if_pos ⟨rfl, Nat.le_of_ble_eq_true hn, fun h => absurd h (by decide)⟩, hl]; rfl) id k2
theorem r_lstore {i : Nat} {x : Int} (hd : decode (bc f) pc = .ok (.lstore i, 2)) (hn : Nat.blt (i + 1) ls.length = true) (hl : stl ls i (1, x) = ls') (k2 : Rn f (pc + 2) ls' st M Q) : Rn f pc ls ((1, x) :: st) M Q := r_step hd (by unfold astep ast; dsimp only; rw [if_pos rfl, if_pos ⟨rfl, Nat.le_of_ble_eq_true hn, fun h => absurd h (by decide)⟩, hl]; rfl) id k2
theorem r_astore_n {k : Fin 4} {x : Int} (hd : decode (bc f) pc = .ok (.astore_n k, 1)) (h0 : 0 ≤ x) (hn : Nat.blt k.val ls.length = true) (hl : stl ls k.val (2, x) = ls') (k2 : Rn f (pc + 1) ls' st M Q) : Rn f pc ls ((2, x) :: st) M Q := r_step hd (by unfold astep ast; dsimp only; rw [if_pos rfl, if_pos ⟨rfl, lt_len hl hn, fun _ => h0⟩, hl]; rfl) id k2
theorem r_astore {i : Nat} {x : Int} (hd : decode (bc f) pc = .ok (.astore i, 2)) (h0 : 0 ≤ x) (hn : Nat.blt i ls.length = true) (hl : stl ls i (2, x) = ls') (k2 : Rn f (pc + 2) ls' st M Q) : Rn f pc ls ((2, x) :: st) M Q := r_step hd (by unfold astep ast; dsimp only; rw [if_pos rfl, if_pos ⟨rfl, lt_len hl hn, fun _ => h0⟩, hl]; rfl) id k2
theorem ofI_add (x y : Int) : Int32.ofInt x + Int32.ofInt y = Int32.ofInt (x + y) := (Int32.ofInt_add x y).symm
theorem ofI_sub (x y : Int) : Int32.ofInt x - Int32.ofInt y = Int32.ofInt (x - y) := (Int32.ofInt_sub x y).symm
theorem ofI_mul (x y : Int) : Int32.ofInt x * Int32.ofInt y = Int32.ofInt (x * y) := (Int32.ofInt_mul x y).symm
theorem ofI_neg (x : Int) : -Int32.ofInt x = Int32.ofInt (-x) := (Int32.ofInt_neg x).symm
theorem ofL_add (x y : Int) : Int64.ofInt x + Int64.ofInt y = Int64.ofInt (x + y) := (Int64.ofInt_add x y).symm
theorem ofL_sub (x y : Int) : Int64.ofInt x - Int64.ofInt y = Int64.ofInt (x - y) := (Int64.ofInt_sub x y).symm
theorem ofL_mul (x y : Int) : Int64.ofInt x * Int64.ofInt y = Int64.ofInt (x * y) := (Int64.ofInt_mul x y).symm
theorem r_iinc {i : Nat} {x z : Int} (hd : decode (bc f) pc = .ok (.iinc i z, 3)) (hl : ls[i]? = some (0, x)) (hr : -2147483648 ≤ x + z ∧ x + z < 2147483648) (hs : stl ls i (0, x + z) = ls') (k2 : Rn f (pc + 3) ls' st M Q) : Rn f pc ls st M Q := r_step hd (by unfold astep; dsimp only; rw [if_pos rfl, hl]; show nx (pc + 3) (stl ls i (0, (Int32.ofInt x + Int32.ofInt z).toInt)) st S0 M = _; rw [ofI_add, i32_of hr, hs]; rfl) id k2
theorem r_iconst {z : Int} (hd : decode (bc f) pc = .ok (.iconst z, 1)) (hz : (decide (-128 ≤ z) && decide (z < 128)) = true) (k2 : Rn f (pc + 1) ls ((0, z) :: st) M Q) : Rn f pc ls st M Q := r_step hd (by simp only [Bool.and_eq_true, decide_eq_true_eq] at hz; unfold astep cst; dsimp only; rw [if_pos ⟨rfl, hz.1, hz.2⟩]; rfl) id k2
theorem r_bipush {z : Int} (hd : decode (bc f) pc = .ok (.bipush z, 2)) (hz : (decide (-128 ≤ z) && decide (z < 128)) = true) (k2 : Rn f (pc + 2) ls ((0, z) :: st) M Q) : Rn f pc ls st M Q := r_step hd (by simp only [Bool.and_eq_true, decide_eq_true_eq] at hz; unfold astep cst; dsimp only; rw [if_pos ⟨rfl, hz.1, hz.2⟩]; rfl) id k2
theorem r_sipush {z : Int} (hd : decode (bc f) pc = .ok (.sipush z, 3)) (hz : (decide (-32768 ≤ z) && decide (z < 32768)) = true) (k2 : Rn f (pc + 3) ls ((0, z) :: st) M Q) : Rn f pc ls st M Q := r_step hd (by simp only [Bool.and_eq_true, decide_eq_true_eq] at hz; unfold astep; dsimp only; rw [if_pos ⟨rfl, hz.1, hz.2⟩]; rfl) id k2
theorem r_lconst {z : Fin 2} {x : Int} (hd : decode (bc f) pc = .ok (.lconst z, 1)) (hx : (z.val : Int) = x) (k2 : Rn f (pc + 1) ls ((1, x) :: st) M Q) : Rn f pc ls st M Q := r_step hd (by unfold astep; dsimp only; rw [if_pos rfl, hx]; rfl) id k2
theorem r_ldc {n a b c d : Nat} {x : Int} (hd : decode (bc f) pc = .ok (.ldc n, 2)) (hk : klk (own f) n = some (a, b, x, 0, d)) (k2 : Rn f (pc + 2) ls ((0, x) :: st) M Q) : Rn f pc ls st M Q := r_step hd (by unfold astep; dsimp only; rw [if_pos rfl, hk]; rfl) id k2
theorem r_ldc_w {n a b c d : Nat} {x : Int} (hd : decode (bc f) pc = .ok (.ldc_w n, 3)) (hk : klk (own f) n = some (a, b, x, 0, d)) (k2 : Rn f (pc + 3) ls ((0, x) :: st) M Q) : Rn f pc ls st M Q := r_step hd (by unfold astep; dsimp only; rw [if_pos rfl, hk]; rfl) id k2
theorem r_ldc2_w {n a b d : Nat} {x : Int} (hd : decode (bc f) pc = .ok (.ldc2_w n, 3)) (hk : klk (own f) n = some (a, b, x, 1, d)) (k2 : Rn f (pc + 3) ls ((1, x) :: st) M Q) : Rn f pc ls st M Q := r_step hd (by unfold astep; dsimp only; rw [if_pos rfl, hk]; rfl) id k2
theorem r_iadd {x y : Int} (hd : decode (bc f) pc = .ok (.iadd, 1)) (hr : -2147483648 ≤ x + y ∧ x + y < 2147483648) (k2 : Rn f (pc + 1) ls ((0, x + y) :: st) M Q) : Rn f pc ls ((0, y) :: (0, x) :: st) M Q := r_step hd (by show nx (pc + 1) ls ((0, (Int32.ofInt x + Int32.ofInt y).toInt) :: st) S0 M = _; rw [ofI_add, i32_of hr]; rfl) id k2
theorem r_isub {x y : Int} (hd : decode (bc f) pc = .ok (.isub, 1)) (hr : -2147483648 ≤ x - y ∧ x - y < 2147483648) (k2 : Rn f (pc + 1) ls ((0, x - y) :: st) M Q) : Rn f pc ls ((0, y) :: (0, x) :: st) M Q := r_step hd (by show nx (pc + 1) ls ((0, (Int32.ofInt x - Int32.ofInt y).toInt) :: st) S0 M = _; rw [ofI_sub, i32_of hr]; rfl) id k2
theorem r_imul {x y : Int} (hd : decode (bc f) pc = .ok (.imul, 1)) (hr : -2147483648 ≤ x * y ∧ x * y < 2147483648) (k2 : Rn f (pc + 1) ls ((0, x * y) :: st) M Q) : Rn f pc ls ((0, y) :: (0, x) :: st) M Q := r_step hd (by show nx (pc + 1) ls ((0, (Int32.ofInt x * Int32.ofInt y).toInt) :: st) S0 M = _; rw [ofI_mul, i32_of hr]; rfl) id k2
theorem r_ineg {x : Int} (hd : decode (bc f) pc = .ok (.ineg, 1)) (hr : -2147483648 ≤ -x ∧ -x < 2147483648) (k2 : Rn f (pc + 1) ls ((0, -x) :: st) M Q) : Rn f pc ls ((0, x) :: st) M Q := r_step hd (by show nx (pc + 1) ls ((0, (-Int32.ofInt x).toInt) :: st) S0 M = _; rw [ofI_neg, i32_of hr]; rfl) id k2
theorem tdiv_rng {x y : Int} (hx : -2147483648 ≤ x ∧ x < 2147483648) (hy : 0 < y) : -2147483648 ≤ x.tdiv y ∧ x.tdiv y < 2147483648 := by
  by_cases h : 0 ≤ x
  · rw [Int.tdiv_eq_ediv_of_nonneg h]
    have := Int.ediv_le_self y h
    have := Int.ediv_nonneg h (Int.le_of_lt hy)
    omega
  · have h0 : 0 ≤ -x := by omega
    have e : x.tdiv y = -((-x) / y) := by
      rw [← Int.tdiv_eq_ediv_of_nonneg h0, Int.neg_tdiv, Int.neg_neg]
    rw [e]
    have := Int.ediv_le_self y h0
    have := Int.ediv_nonneg h0 (Int.le_of_lt hy)
    omega
theorem ofI_div {x y : Int} (hx : -2147483648 ≤ x ∧ x < 2147483648) (hy : 0 < y ∧ y < 2147483648) : (Int32.ofInt x / Int32.ofInt y).toInt = x.tdiv y := by
  rw [Int32.toInt_div, i32_of hx, i32_of (by omega), Int.bmod_eq_of_le (by have := (tdiv_rng hx hy.1).1; omega) (by have := (tdiv_rng hx hy.1).2; omega)]
theorem ofI_ne0 {y : Int} (hy : 0 < y ∧ y < 2147483648) : ¬ Int32.ofInt y = 0 := by
  rw [z32, i32_eq (by omega) (by omega)]
  omega
theorem ofI_rem {x y : Int} (hx : -2147483648 ≤ x ∧ x < 2147483648) (hy : 0 < y ∧ y < 2147483648) : (Int32.ofInt x - Int32.ofInt x / Int32.ofInt y * Int32.ofInt y).toInt = x.tmod y := by
  have h1 : Int32.ofInt x / Int32.ofInt y = Int32.ofInt (x.tdiv y) := by
    rw [← Int32.toInt_inj, ofI_div hx hy, i32_of (tdiv_rng hx hy.1)]
  have h3 : x.tmod y = x - x.tdiv y * y := by
    rw [Int.tmod_def, Int.mul_comm]
  have h4 : -2147483648 ≤ x.tmod y ∧ x.tmod y < 2147483648 := by
    have a1 := Int.lt_tmod_of_pos x hy.1
    have a2 := Int.tmod_lt_of_pos x hy.1
    omega
  rw [h1, ofI_mul, ofI_sub, ← h3, i32_of h4]
theorem r_idiv {x y : Int} (hd : decode (bc f) pc = .ok (.idiv, 1)) (hx : -2147483648 ≤ x ∧ x < 2147483648) (hy : 0 < y ∧ y < 2147483648) (k2 : Rn f (pc + 1) ls ((0, x.tdiv y) :: st) M Q) : Rn f pc ls ((0, y) :: (0, x) :: st) M Q := r_step hd (by show (if Int32.ofInt y = 0 then none else nx (pc + 1) ls ((0, (Int32.ofInt x / Int32.ofInt y).toInt) :: st) S0 M) = _; rw [if_neg (ofI_ne0 hy), ofI_div hx hy]; rfl) id k2
theorem r_irem {x y : Int} (hd : decode (bc f) pc = .ok (.irem, 1)) (hx : -2147483648 ≤ x ∧ x < 2147483648) (hy : 0 < y ∧ y < 2147483648) (k2 : Rn f (pc + 1) ls ((0, x.tmod y) :: st) M Q) : Rn f pc ls ((0, y) :: (0, x) :: st) M Q := r_step hd (by show (if Int32.ofInt y = 0 then none else nx (pc + 1) ls ((0, (Int32.ofInt x - Int32.ofInt x / Int32.ofInt y * Int32.ofInt y).toInt) :: st) S0 M) = _; rw [if_neg (ofI_ne0 hy), ofI_rem hx hy]; rfl) id k2
theorem r_idivn {x y : Int} (hd : decode (bc f) pc = .ok (.idiv, 1)) (hx : 0 ≤ x ∧ x < 2147483648) (hy : 0 < y ∧ y < 2147483648) (k2 : Rn f (pc + 1) ls ((0, x / y) :: st) M Q) : Rn f pc ls ((0, y) :: (0, x) :: st) M Q := r_idiv hd ⟨by omega, hx.2⟩ hy (by rw [Int.tdiv_eq_ediv_of_nonneg hx.1]; exact k2)
theorem r_iremn {x y : Int} (hd : decode (bc f) pc = .ok (.irem, 1)) (hx : 0 ≤ x ∧ x < 2147483648) (hy : 0 < y ∧ y < 2147483648) (k2 : Rn f (pc + 1) ls ((0, x % y) :: st) M Q) : Rn f pc ls ((0, y) :: (0, x) :: st) M Q := r_irem hd ⟨by omega, hx.2⟩ hy (by rw [Int.tmod_eq_emod_of_nonneg hx.1]; exact k2)
theorem r_iand {x y z : Int} (hd : decode (bc f) pc = .ok (.iand, 1)) (hz : (Int32.ofInt x &&& Int32.ofInt y).toInt = z) (k2 : Rn f (pc + 1) ls ((0, z) :: st) M Q) : Rn f pc ls ((0, y) :: (0, x) :: st) M Q := r_step hd (by show nx (pc + 1) ls ((0, (Int32.ofInt x &&& Int32.ofInt y).toInt) :: st) S0 M = _; rw [hz]; rfl) id k2
theorem r_ixor {x y z : Int} (hd : decode (bc f) pc = .ok (.ixor, 1)) (hz : (Int32.ofInt x ^^^ Int32.ofInt y).toInt = z) (k2 : Rn f (pc + 1) ls ((0, z) :: st) M Q) : Rn f pc ls ((0, y) :: (0, x) :: st) M Q := r_step hd (by show nx (pc + 1) ls ((0, (Int32.ofInt x ^^^ Int32.ofInt y).toInt) :: st) S0 M = _; rw [hz]; rfl) id k2
theorem r_ishl {x y z : Int} (hd : decode (bc f) pc = .ok (.ishl, 1)) (hz : (Int32.ofInt x <<< (Int32.ofInt y &&& 31)).toInt = z) (k2 : Rn f (pc + 1) ls ((0, z) :: st) M Q) : Rn f pc ls ((0, y) :: (0, x) :: st) M Q := r_step hd (by show nx (pc + 1) ls ((0, (Int32.ofInt x <<< (Int32.ofInt y &&& 31)).toInt) :: st) S0 M = _; rw [hz]; rfl) id k2
theorem r_ishr {x y z : Int} (hd : decode (bc f) pc = .ok (.ishr, 1)) (hz : (Int32.ofInt x >>> (Int32.ofInt y &&& 31)).toInt = z) (k2 : Rn f (pc + 1) ls ((0, z) :: st) M Q) : Rn f pc ls ((0, y) :: (0, x) :: st) M Q := r_step hd (by show nx (pc + 1) ls ((0, (Int32.ofInt x >>> (Int32.ofInt y &&& 31)).toInt) :: st) S0 M = _; rw [hz]; rfl) id k2
theorem r_iushr {x y z : Int} (hd : decode (bc f) pc = .ok (.iushr, 1)) (hz : ((Int32.ofInt x).toUInt32 >>> ((Int32.ofInt y).toUInt32 &&& Int32.toUInt32 31)).toInt32.toInt = z) (k2 : Rn f (pc + 1) ls ((0, z) :: st) M Q) : Rn f pc ls ((0, y) :: (0, x) :: st) M Q := r_step hd (by show nx (pc + 1) ls ((0, (((Int32.ofInt x).toUInt32 >>> ((Int32.ofInt y).toUInt32 &&& Int32.toUInt32 31)).toInt32).toInt) :: st) S0 M = _; rw [hz]; rfl) id k2
def lw (z : Int) : Int := (Int64.ofInt z).toInt
theorem lw_eq {z : Int} (h : -9223372036854775808 ≤ z ∧ z < 9223372036854775808) : lw z = z := i64_of h
theorem r_laddw {x y : Int} (hd : decode (bc f) pc = .ok (.ladd, 1)) (k2 : Rn f (pc + 1) ls ((1, lw (x + y)) :: st) M Q) : Rn f pc ls ((1, y) :: (1, x) :: st) M Q := r_step hd (by show nx (pc + 1) ls ((1, (Int64.ofInt x + Int64.ofInt y).toInt) :: st) S0 M = _; rw [ofL_add]; rfl) id k2
theorem r_lmulw {x y : Int} (hd : decode (bc f) pc = .ok (.lmul, 1)) (k2 : Rn f (pc + 1) ls ((1, lw (x * y)) :: st) M Q) : Rn f pc ls ((1, y) :: (1, x) :: st) M Q := r_step hd (by show nx (pc + 1) ls ((1, (Int64.ofInt x * Int64.ofInt y).toInt) :: st) S0 M = _; rw [ofL_mul]; rfl) id k2
theorem r_ladd {x y : Int} (hd : decode (bc f) pc = .ok (.ladd, 1)) (hr : -9223372036854775808 ≤ x + y ∧ x + y < 9223372036854775808) (k2 : Rn f (pc + 1) ls ((1, x + y) :: st) M Q) : Rn f pc ls ((1, y) :: (1, x) :: st) M Q := r_laddw hd (by rw [lw_eq hr]; exact k2)
theorem r_lmul {x y : Int} (hd : decode (bc f) pc = .ok (.lmul, 1)) (hr : -9223372036854775808 ≤ x * y ∧ x * y < 9223372036854775808) (k2 : Rn f (pc + 1) ls ((1, x * y) :: st) M Q) : Rn f pc ls ((1, y) :: (1, x) :: st) M Q := r_lmulw hd (by rw [lw_eq hr]; exact k2)
theorem r_lsub {x y : Int} (hd : decode (bc f) pc = .ok (.lsub, 1)) (hr : -9223372036854775808 ≤ x - y ∧ x - y < 9223372036854775808) (k2 : Rn f (pc + 1) ls ((1, x - y) :: st) M Q) : Rn f pc ls ((1, y) :: (1, x) :: st) M Q := r_step hd (by show nx (pc + 1) ls ((1, (Int64.ofInt x - Int64.ofInt y).toInt) :: st) S0 M = _; rw [ofL_sub, i64_of hr]; rfl) id k2
theorem r_land {x y z : Int} (hd : decode (bc f) pc = .ok (.land, 1)) (hz : (Int64.ofInt x &&& Int64.ofInt y).toInt = z) (k2 : Rn f (pc + 1) ls ((1, z) :: st) M Q) : Rn f pc ls ((1, y) :: (1, x) :: st) M Q := r_step hd (by show nx (pc + 1) ls ((1, (Int64.ofInt x &&& Int64.ofInt y).toInt) :: st) S0 M = _; rw [hz]; rfl) id k2
theorem r_lor {x y z : Int} (hd : decode (bc f) pc = .ok (.lor, 1)) (hz : (Int64.ofInt x ||| Int64.ofInt y).toInt = z) (k2 : Rn f (pc + 1) ls ((1, z) :: st) M Q) : Rn f pc ls ((1, y) :: (1, x) :: st) M Q := r_step hd (by show nx (pc + 1) ls ((1, (Int64.ofInt x ||| Int64.ofInt y).toInt) :: st) S0 M = _; rw [hz]; rfl) id k2
theorem r_lshl {x y z : Int} (hd : decode (bc f) pc = .ok (.lshl, 1)) (hz : (Int64.ofInt x <<< ((Int32.ofInt y).toInt64 &&& 63)).toInt = z) (k2 : Rn f (pc + 1) ls ((1, z) :: st) M Q) : Rn f pc ls ((0, y) :: (1, x) :: st) M Q := r_step hd (by show nx (pc + 1) ls ((1, (Int64.ofInt x <<< ((Int32.ofInt y).toInt64 &&& 63)).toInt) :: st) S0 M = _; rw [hz]; rfl) id k2
theorem r_lushr {x y z : Int} (hd : decode (bc f) pc = .ok (.lushr, 1)) (hz : ((Int64.ofInt x).toUInt64 >>> ((Int32.ofInt y).toInt64.toUInt64 &&& Int64.toUInt64 63)).toInt64.toInt = z) (k2 : Rn f (pc + 1) ls ((1, z) :: st) M Q) : Rn f pc ls ((0, y) :: (1, x) :: st) M Q := r_step hd (by show nx (pc + 1) ls ((1, (((Int64.ofInt x).toUInt64 >>> ((Int32.ofInt y).toInt64.toUInt64 &&& Int64.toUInt64 63)).toInt64).toInt) :: st) S0 M = _; rw [hz]; rfl) id k2
theorem r_lcmp {x y : Int} (hd : decode (bc f) pc = .ok (.lcmp, 1)) (k2 : Rn f (pc + 1) ls ((0, if y < x then 1 else if x = y then 0 else -1) :: st) M Q) : Rn f pc ls ((1, y) :: (1, x) :: st) M Q := r_step hd (by rfl) id k2
theorem r_i2l {x : Int} (hd : decode (bc f) pc = .ok (.i2l, 1)) (k2 : Rn f (pc + 1) ls ((1, x) :: st) M Q) : Rn f pc ls ((0, x) :: st) M Q := r_step hd (by rfl) id k2
theorem r_l2i {x : Int} (hd : decode (bc f) pc = .ok (.l2i, 1)) (hr : -2147483648 ≤ x ∧ x < 2147483648) (k2 : Rn f (pc + 1) ls ((0, x) :: st) M Q) : Rn f pc ls ((1, x) :: st) M Q := r_step hd (by show nx (pc + 1) ls ((0, (Int64.ofInt x).toInt32.toInt) :: st) S0 M = _; rw [Int64.toInt_toInt32, i64_of (by omega), Int.bmod_eq_of_le (by omega) (by omega)]; rfl) id k2
theorem ldiv_eq {x y : Int} (hx : 0 ≤ x ∧ x < 9223372036854775808) (hy : 0 < y ∧ y < 9223372036854775808) : (Int64.ofInt x / Int64.ofInt y).toInt = x / y := by
  have h1 := Int.ediv_le_self y hx.1
  have h2 := Int.ediv_nonneg hx.1 (Int.le_of_lt hy.1)
  rw [Int64.toInt_div, i64_of (by omega), i64_of (by omega), Int.tdiv_eq_ediv_of_nonneg hx.1, Int.bmod_eq_of_le (by omega) (by omega)]
theorem ofL_ne0 {y : Int} (hy : 0 < y ∧ y < 9223372036854775808) : ¬ Int64.ofInt y = 0 := by
  rw [show (0 : Int64) = Int64.ofInt 0 from rfl, i64_eq (by omega) (by omega)]
  omega
theorem r_ldiv {x y : Int} (hd : decode (bc f) pc = .ok (.ldiv, 1)) (hx : 0 ≤ x ∧ x < 9223372036854775808) (hy : 0 < y ∧ y < 9223372036854775808) (k2 : Rn f (pc + 1) ls ((1, x / y) :: st) M Q) : Rn f pc ls ((1, y) :: (1, x) :: st) M Q := r_step hd (by show (if Int64.ofInt y = 0 then none else nx (pc + 1) ls ((1, (Int64.ofInt x / Int64.ofInt y).toInt) :: st) S0 M) = _; rw [if_neg (ofL_ne0 hy), ldiv_eq hx hy]; rfl) id k2
theorem r_lrem {x y : Int} (hd : decode (bc f) pc = .ok (.lrem, 1)) (hx : 0 ≤ x ∧ x < 9223372036854775808) (hy : 0 < y ∧ y < 9223372036854775808) (k2 : Rn f (pc + 1) ls ((1, x % y) :: st) M Q) : Rn f pc ls ((1, y) :: (1, x) :: st) M Q := r_step hd (by
  have h1 : Int64.ofInt x / Int64.ofInt y = Int64.ofInt (x / y) := by
    have h1 := Int.ediv_le_self y hx.1
    have h2 := Int.ediv_nonneg hx.1 (Int.le_of_lt hy.1)
    rw [← Int64.toInt_inj, ldiv_eq hx hy, i64_of (by omega)]
  have h3 : x % y = x - x / y * y := by rw [Int.emod_def, Int.mul_comm]
  have h4 := Int.emod_nonneg x (by omega : y ≠ 0)
  have h5 := Int.emod_lt_of_pos x hy.1
  show (if Int64.ofInt y = 0 then none else nx (pc + 1) ls ((1, (Int64.ofInt x - Int64.ofInt x / Int64.ofInt y * Int64.ofInt y).toInt) :: st) S0 M) = _
  rw [if_neg (ofL_ne0 hy), h1, ofL_mul, ofL_sub, ← h3, i64_of (by omega)]
  rfl) id k2
theorem r_dup {v : AV} (hd : decode (bc f) pc = .ok (.dup, 1)) (hv : (v.1 == 0 || v.1 == 2) = true) (k2 : Rn f (pc + 1) ls (v :: v :: st) M Q) : Rn f pc ls (v :: st) M Q := r_step hd (by simp only [Bool.or_eq_true, beq_iff_eq] at hv; unfold astep; dsimp only; rw [if_pos rfl, if_pos hv]; rfl) id k2
theorem r_dup2 {v w : AV} (hd : decode (bc f) pc = .ok (.dup2, 1)) (hv : ((v.1 == 0 || v.1 == 2) && (w.1 == 0 || w.1 == 2)) = true) (k2 : Rn f (pc + 1) ls (v :: w :: v :: w :: st) M Q) : Rn f pc ls (v :: w :: st) M Q := r_step hd (by simp only [Bool.or_eq_true, Bool.and_eq_true, beq_iff_eq] at hv; unfold astep; dsimp only; rw [if_pos rfl, if_pos hv]; rfl) id k2
theorem jm_ok {σ : Sh} {off : Int} {t : Nat} (ht : (pc : Int) + off = t) : jm pc off ls st σ M = some (.inl (t, ls, st, σ, M)) := by
  unfold jm
  rw [if_pos (by omega), ht, Int.toNat_natCast]
  rfl
theorem r_goto {z : Int} {t : Nat} (hd : decode (bc f) pc = .ok (.goto z, 3)) (ht : (pc : Int) + z = t) (k2 : Rn f t ls st M Q) : Rn f pc ls st M Q := r_step hd (by unfold astep; dsimp only; rw [if_pos rfl, jm_ok ht]) id k2
theorem r_if_eq {x z : Int} {t : Nat} (hd : decode (bc f) pc = .ok (.ifCond .eq z, 3)) (ht : (pc : Int) + z = t) (k1 : x = 0 → Rn f t ls st M Q) (k2 : ¬ (x = 0) → Rn f (pc + 3) ls st M Q) : Rn f pc ls ((0, x) :: st) M Q := by
  by_cases h : x = 0
  · exact r_step hd (by unfold astep; dsimp only; rw [if_pos ⟨rfl, by omega⟩]; show (if cmpb _ _ _ then jm pc z ls st S0 M else nx (pc + 3) ls st S0 M) = _; rw [if_pos (by simp only [cmpb, decide_eq_true_eq]; exact h), jm_ok ht]) id (k1 h)
  · exact r_step hd (by unfold astep; dsimp only; rw [if_pos ⟨rfl, by omega⟩]; show (if cmpb _ _ _ then jm pc z ls st S0 M else nx (pc + 3) ls st S0 M) = _; rw [if_neg (by simp only [cmpb, decide_eq_true_eq]; exact h)]; rfl) id (k2 h)
theorem r_icmp_eq {x y z : Int} {t : Nat} (hd : decode (bc f) pc = .ok (.if_icmp .eq z, 3)) (ht : (pc : Int) + z = t) (k1 : x = y → Rn f t ls st M Q) (k2 : ¬ (x = y) → Rn f (pc + 3) ls st M Q) : Rn f pc ls ((0, y) :: (0, x) :: st) M Q := by
  by_cases h : x = y
  · exact r_step hd (by unfold astep; dsimp only; rw [if_pos ⟨rfl, by omega⟩]; show (if cmpb _ _ _ then jm pc z ls st S0 M else nx (pc + 3) ls st S0 M) = _; rw [if_pos (by simp only [cmpb, decide_eq_true_eq]; exact h), jm_ok ht]) id (k1 h)
  · exact r_step hd (by unfold astep; dsimp only; rw [if_pos ⟨rfl, by omega⟩]; show (if cmpb _ _ _ then jm pc z ls st S0 M else nx (pc + 3) ls st S0 M) = _; rw [if_neg (by simp only [cmpb, decide_eq_true_eq]; exact h)]; rfl) id (k2 h)
theorem r_if_ne {x z : Int} {t : Nat} (hd : decode (bc f) pc = .ok (.ifCond .ne z, 3)) (ht : (pc : Int) + z = t) (k1 : x ≠ 0 → Rn f t ls st M Q) (k2 : ¬ (x ≠ 0) → Rn f (pc + 3) ls st M Q) : Rn f pc ls ((0, x) :: st) M Q := by
  by_cases h : x ≠ 0
  · exact r_step hd (by unfold astep; dsimp only; rw [if_pos ⟨rfl, by omega⟩]; show (if cmpb _ _ _ then jm pc z ls st S0 M else nx (pc + 3) ls st S0 M) = _; rw [if_pos (by simp only [cmpb, decide_eq_true_eq]; exact h), jm_ok ht]) id (k1 h)
  · exact r_step hd (by unfold astep; dsimp only; rw [if_pos ⟨rfl, by omega⟩]; show (if cmpb _ _ _ then jm pc z ls st S0 M else nx (pc + 3) ls st S0 M) = _; rw [if_neg (by simp only [cmpb, decide_eq_true_eq]; exact h)]; rfl) id (k2 h)
theorem r_icmp_ne {x y z : Int} {t : Nat} (hd : decode (bc f) pc = .ok (.if_icmp .ne z, 3)) (ht : (pc : Int) + z = t) (k1 : x ≠ y → Rn f t ls st M Q) (k2 : ¬ (x ≠ y) → Rn f (pc + 3) ls st M Q) : Rn f pc ls ((0, y) :: (0, x) :: st) M Q := by
  by_cases h : x ≠ y
  · exact r_step hd (by unfold astep; dsimp only; rw [if_pos ⟨rfl, by omega⟩]; show (if cmpb _ _ _ then jm pc z ls st S0 M else nx (pc + 3) ls st S0 M) = _; rw [if_pos (by simp only [cmpb, decide_eq_true_eq]; exact h), jm_ok ht]) id (k1 h)
  · exact r_step hd (by unfold astep; dsimp only; rw [if_pos ⟨rfl, by omega⟩]; show (if cmpb _ _ _ then jm pc z ls st S0 M else nx (pc + 3) ls st S0 M) = _; rw [if_neg (by simp only [cmpb, decide_eq_true_eq]; exact h)]; rfl) id (k2 h)
theorem r_if_lt {x z : Int} {t : Nat} (hd : decode (bc f) pc = .ok (.ifCond .lt z, 3)) (ht : (pc : Int) + z = t) (k1 : x < 0 → Rn f t ls st M Q) (k2 : ¬ (x < 0) → Rn f (pc + 3) ls st M Q) : Rn f pc ls ((0, x) :: st) M Q := by
  by_cases h : x < 0
  · exact r_step hd (by unfold astep; dsimp only; rw [if_pos ⟨rfl, by omega⟩]; show (if cmpb _ _ _ then jm pc z ls st S0 M else nx (pc + 3) ls st S0 M) = _; rw [if_pos (by simp only [cmpb, decide_eq_true_eq]; exact h), jm_ok ht]) id (k1 h)
  · exact r_step hd (by unfold astep; dsimp only; rw [if_pos ⟨rfl, by omega⟩]; show (if cmpb _ _ _ then jm pc z ls st S0 M else nx (pc + 3) ls st S0 M) = _; rw [if_neg (by simp only [cmpb, decide_eq_true_eq]; exact h)]; rfl) id (k2 h)
theorem r_icmp_lt {x y z : Int} {t : Nat} (hd : decode (bc f) pc = .ok (.if_icmp .lt z, 3)) (ht : (pc : Int) + z = t) (k1 : x < y → Rn f t ls st M Q) (k2 : ¬ (x < y) → Rn f (pc + 3) ls st M Q) : Rn f pc ls ((0, y) :: (0, x) :: st) M Q := by
  by_cases h : x < y
  · exact r_step hd (by unfold astep; dsimp only; rw [if_pos ⟨rfl, by omega⟩]; show (if cmpb _ _ _ then jm pc z ls st S0 M else nx (pc + 3) ls st S0 M) = _; rw [if_pos (by simp only [cmpb, decide_eq_true_eq]; exact h), jm_ok ht]) id (k1 h)
  · exact r_step hd (by unfold astep; dsimp only; rw [if_pos ⟨rfl, by omega⟩]; show (if cmpb _ _ _ then jm pc z ls st S0 M else nx (pc + 3) ls st S0 M) = _; rw [if_neg (by simp only [cmpb, decide_eq_true_eq]; exact h)]; rfl) id (k2 h)
theorem r_if_ge {x z : Int} {t : Nat} (hd : decode (bc f) pc = .ok (.ifCond .ge z, 3)) (ht : (pc : Int) + z = t) (k1 : 0 ≤ x → Rn f t ls st M Q) (k2 : ¬ (0 ≤ x) → Rn f (pc + 3) ls st M Q) : Rn f pc ls ((0, x) :: st) M Q := by
  by_cases h : 0 ≤ x
  · exact r_step hd (by unfold astep; dsimp only; rw [if_pos ⟨rfl, by omega⟩]; show (if cmpb _ _ _ then jm pc z ls st S0 M else nx (pc + 3) ls st S0 M) = _; rw [if_pos (by simp only [cmpb, decide_eq_true_eq]; exact h), jm_ok ht]) id (k1 h)
  · exact r_step hd (by unfold astep; dsimp only; rw [if_pos ⟨rfl, by omega⟩]; show (if cmpb _ _ _ then jm pc z ls st S0 M else nx (pc + 3) ls st S0 M) = _; rw [if_neg (by simp only [cmpb, decide_eq_true_eq]; exact h)]; rfl) id (k2 h)
theorem r_icmp_ge {x y z : Int} {t : Nat} (hd : decode (bc f) pc = .ok (.if_icmp .ge z, 3)) (ht : (pc : Int) + z = t) (k1 : y ≤ x → Rn f t ls st M Q) (k2 : ¬ (y ≤ x) → Rn f (pc + 3) ls st M Q) : Rn f pc ls ((0, y) :: (0, x) :: st) M Q := by
  by_cases h : y ≤ x
  · exact r_step hd (by unfold astep; dsimp only; rw [if_pos ⟨rfl, by omega⟩]; show (if cmpb _ _ _ then jm pc z ls st S0 M else nx (pc + 3) ls st S0 M) = _; rw [if_pos (by simp only [cmpb, decide_eq_true_eq]; exact h), jm_ok ht]) id (k1 h)
  · exact r_step hd (by unfold astep; dsimp only; rw [if_pos ⟨rfl, by omega⟩]; show (if cmpb _ _ _ then jm pc z ls st S0 M else nx (pc + 3) ls st S0 M) = _; rw [if_neg (by simp only [cmpb, decide_eq_true_eq]; exact h)]; rfl) id (k2 h)
theorem r_if_gt {x z : Int} {t : Nat} (hd : decode (bc f) pc = .ok (.ifCond .gt z, 3)) (ht : (pc : Int) + z = t) (k1 : 0 < x → Rn f t ls st M Q) (k2 : ¬ (0 < x) → Rn f (pc + 3) ls st M Q) : Rn f pc ls ((0, x) :: st) M Q := by
  by_cases h : 0 < x
  · exact r_step hd (by unfold astep; dsimp only; rw [if_pos ⟨rfl, by omega⟩]; show (if cmpb _ _ _ then jm pc z ls st S0 M else nx (pc + 3) ls st S0 M) = _; rw [if_pos (by simp only [cmpb, decide_eq_true_eq]; exact h), jm_ok ht]) id (k1 h)
  · exact r_step hd (by unfold astep; dsimp only; rw [if_pos ⟨rfl, by omega⟩]; show (if cmpb _ _ _ then jm pc z ls st S0 M else nx (pc + 3) ls st S0 M) = _; rw [if_neg (by simp only [cmpb, decide_eq_true_eq]; exact h)]; rfl) id (k2 h)
theorem r_icmp_gt {x y z : Int} {t : Nat} (hd : decode (bc f) pc = .ok (.if_icmp .gt z, 3)) (ht : (pc : Int) + z = t) (k1 : y < x → Rn f t ls st M Q) (k2 : ¬ (y < x) → Rn f (pc + 3) ls st M Q) : Rn f pc ls ((0, y) :: (0, x) :: st) M Q := by
  by_cases h : y < x
  · exact r_step hd (by unfold astep; dsimp only; rw [if_pos ⟨rfl, by omega⟩]; show (if cmpb _ _ _ then jm pc z ls st S0 M else nx (pc + 3) ls st S0 M) = _; rw [if_pos (by simp only [cmpb, decide_eq_true_eq]; exact h), jm_ok ht]) id (k1 h)
  · exact r_step hd (by unfold astep; dsimp only; rw [if_pos ⟨rfl, by omega⟩]; show (if cmpb _ _ _ then jm pc z ls st S0 M else nx (pc + 3) ls st S0 M) = _; rw [if_neg (by simp only [cmpb, decide_eq_true_eq]; exact h)]; rfl) id (k2 h)
theorem r_if_le {x z : Int} {t : Nat} (hd : decode (bc f) pc = .ok (.ifCond .le z, 3)) (ht : (pc : Int) + z = t) (k1 : x ≤ 0 → Rn f t ls st M Q) (k2 : ¬ (x ≤ 0) → Rn f (pc + 3) ls st M Q) : Rn f pc ls ((0, x) :: st) M Q := by
  by_cases h : x ≤ 0
  · exact r_step hd (by unfold astep; dsimp only; rw [if_pos ⟨rfl, by omega⟩]; show (if cmpb _ _ _ then jm pc z ls st S0 M else nx (pc + 3) ls st S0 M) = _; rw [if_pos (by simp only [cmpb, decide_eq_true_eq]; exact h), jm_ok ht]) id (k1 h)
  · exact r_step hd (by unfold astep; dsimp only; rw [if_pos ⟨rfl, by omega⟩]; show (if cmpb _ _ _ then jm pc z ls st S0 M else nx (pc + 3) ls st S0 M) = _; rw [if_neg (by simp only [cmpb, decide_eq_true_eq]; exact h)]; rfl) id (k2 h)
theorem r_icmp_le {x y z : Int} {t : Nat} (hd : decode (bc f) pc = .ok (.if_icmp .le z, 3)) (ht : (pc : Int) + z = t) (k1 : x ≤ y → Rn f t ls st M Q) (k2 : ¬ (x ≤ y) → Rn f (pc + 3) ls st M Q) : Rn f pc ls ((0, y) :: (0, x) :: st) M Q := by
  by_cases h : x ≤ y
  · exact r_step hd (by unfold astep; dsimp only; rw [if_pos ⟨rfl, by omega⟩]; show (if cmpb _ _ _ then jm pc z ls st S0 M else nx (pc + 3) ls st S0 M) = _; rw [if_pos (by simp only [cmpb, decide_eq_true_eq]; exact h), jm_ok ht]) id (k1 h)
  · exact r_step hd (by unfold astep; dsimp only; rw [if_pos ⟨rfl, by omega⟩]; show (if cmpb _ _ _ then jm pc z ls st S0 M else nx (pc + 3) ls st S0 M) = _; rw [if_neg (by simp only [cmpb, decide_eq_true_eq]; exact h)]; rfl) id (k2 h)
theorem r_tabout {d lo hi x : Int} {offs : Array Int} {len t : Nat} (hd : decode (bc f) pc = .ok (.tableswitch d lo hi offs, len)) (hx : x < lo ∨ hi < x) (ht : (pc : Int) + d = t) (k2 : Rn f t ls st M Q) : Rn f pc ls ((0, x) :: st) M Q := r_step hd (by show (if x < lo ∨ hi < x then jm pc d ls st S0 M else _) = _; rw [if_pos hx, jm_ok ht]) id k2
theorem r_tabin {d lo hi x z : Int} {offs : Array Int} {len t : Nat} (hd : decode (bc f) pc = .ok (.tableswitch d lo hi offs, len)) (hx : ¬ (x < lo ∨ hi < x)) (hz : offs[(x - lo).toNat]? = some z) (ht : (pc : Int) + z = t) (k2 : Rn f t ls st M Q) : Rn f pc ls ((0, x) :: st) M Q := r_step hd (by show (if x < lo ∨ hi < x then _ else _) = _; rw [if_neg hx, hz]; exact jm_ok ht) id k2
theorem r_lookup {d x z : Int} {ps : Array (Int × Int)} {len t : Nat} (hd : decode (bc f) pc = .ok (.lookupswitch d ps, len)) (hp : (ps.toList.zip (ps.toList.drop 1)).all (fun (a, next) => a.1 < next.1) = true) (hz : Op.lookupswitch.offset ps.toList d x = z) (ht : (pc : Int) + z = t) (k2 : Rn f t ls st M Q) : Rn f pc ls ((0, x) :: st) M Q := r_step hd (by show (if _ then jm pc (Op.lookupswitch.offset ps.toList d x) ls st S0 M else none) = _; rw [if_pos hp, hz, jm_ok ht]) id k2
/-- a field: class, number, fields, kind, final -/
def fq (f n : Nat) : Option (Nat × Nat × Nat × Nat × Bool) := (fl (own f) n).map (fun e => (e.2.2.1, e.2.2.2.1, nfl e.2.2.1, tgf e.2.2.1 e.2.2.2.1, (fdt e.2.2.1 e.2.2.2.1).2.2.2))
theorem fq_spec {n ci k N t : Nat} {b : Bool} (h : fq f n = some (ci, k, N, t, b)) : ∃ x, fl (own f) n = some x ∧ x.2.2.1 = ci ∧ x.2.2.2.1 = k ∧ nfl ci = N ∧ tgf ci k = t ∧ (fdt ci k).2.2.2 = b := by
  unfold fq at h
  obtain ⟨x, h1, h2⟩ := Option.map_eq_some_iff.mp h
  cases h2
  exact ⟨x, h1, rfl, rfl, rfl, rfl, rfl⟩
theorem r_getf {n ci k N : Nat} {b : Bool} {a ki : Int} (hd : decode (bc f) pc = .ok (.getfield n, 3)) (hq : fq f n = some (ci, k, N, 0, b)) (hk : (k : Int) = ki) (hs : shp S0 a = (ci, N)) (k2 : Rn f (pc + 3) ls ((0, M a ki) :: st) M Q) : Rn f pc ls ((2, a) :: st) M Q := by
  subst hk
  obtain ⟨x, h1, rfl, rfl, rfl, h5, h6⟩ := fq_spec hq
  exact r_step hd (by unfold astep; dsimp only; rw [if_pos rfl, h1]; show (if shp S0 a = (x.2.2.1, nfl x.2.2.1) ∧ (tgf x.2.2.1 x.2.2.2.1 = 2 → 0 ≤ M a x.2.2.2.1) then nx (pc + 3) ls ((tgf x.2.2.1 x.2.2.2.1, M a x.2.2.2.1) :: st) S0 M else none) = _; rw [if_pos ⟨hs, fun h => by omega⟩, h5]; rfl) id k2
theorem r_getc {n ci k N : Nat} {b : Bool} {a z ki : Int} (hd : decode (bc f) pc = .ok (.getfield n, 3)) (hq : fq f n = some (ci, k, N, 2, b)) (hk : (k : Int) = ki) (hs : shp S0 a = (ci, N)) (hx : fx a ki = some z) (h0 : 0 ≤ z) (k2 : Rn f (pc + 3) ls ((2, z) :: st) M Q) : Rn f pc ls ((2, a) :: st) M Q := by
  subst hk
  obtain ⟨x, h1, rfl, rfl, rfl, h5, h6⟩ := fq_spec hq
  exact r_stepL hd (fun hl => by have hm := hl a x.2.2.2.1 z hx; unfold astep; dsimp only; rw [if_pos rfl, h1]; show (if shp S0 a = (x.2.2.1, nfl x.2.2.1) ∧ (tgf x.2.2.1 x.2.2.2.1 = 2 → 0 ≤ M a x.2.2.2.1) then nx (pc + 3) ls ((tgf x.2.2.1 x.2.2.2.1, M a x.2.2.2.1) :: st) S0 M else none) = _; rw [if_pos ⟨hs, fun _ => by omega⟩, h5, hm]; rfl) id k2
theorem r_putf {n ci k N : Nat} {a v ki : Int} (hd : decode (bc f) pc = .ok (.putfield n, 3)) (hq : fq f n = some (ci, k, N, 0, false)) (hk : (k : Int) = ki) (hs : shp S0 a = (ci, N)) (hx : fx a ki = none) (k2 : Rn f (pc + 3) ls st (up2 M a ki v) Q) : Rn f pc ls ((0, v) :: (2, a) :: st) M Q := by
  subst hk
  obtain ⟨x, h1, rfl, rfl, rfl, h5, h6⟩ := fq_spec hq
  exact r_step hd (by unfold astep; dsimp only; rw [if_pos rfl, h1]; show (if shp S0 a = (x.2.2.1, nfl x.2.2.1) ∧ 0 = tgf x.2.2.1 x.2.2.2.1 ∧ ((fdt x.2.2.1 x.2.2.2.1).2.2.2 = false ∨ ((nmm f).name = "<init>" ∧ own f = x.2.2.1)) then nx (pc + 3) ls st S0 (up2 M a x.2.2.2.1 v) else none) = _; rw [if_pos ⟨hs, h5.symm, Or.inl h6⟩]; rfl) (fun h => h.up hx) k2
theorem r_iaload {n : Nat} {a i : Int} (hd : decode (bc f) pc = .ok (.iaload, 1)) (hs : shp S0 a = (20, n)) (h0 : 0 ≤ i) (h1 : i < n) (k2 : Rn f (pc + 1) ls ((0, M a i) :: st) M Q) : Rn f pc ls ((0, i) :: (2, a) :: st) M Q := r_step hd (by show (if (shp S0 a).1 = 20 ∧ 0 ≤ i ∧ i < (shp S0 a).2 then nx (pc + 1) ls ((0, M a i) :: st) S0 M else none) = _; rw [hs, if_pos ⟨rfl, h0, h1⟩]; rfl) id k2
theorem r_laload {n : Nat} {a i : Int} (hd : decode (bc f) pc = .ok (.laload, 1)) (hs : shp S0 a = (21, n)) (h0 : 0 ≤ i) (h1 : i < n) (k2 : Rn f (pc + 1) ls ((1, M a i) :: st) M Q) : Rn f pc ls ((0, i) :: (2, a) :: st) M Q := r_step hd (by show (if (shp S0 a).1 = 21 ∧ 0 ≤ i ∧ i < (shp S0 a).2 then nx (pc + 1) ls ((1, M a i) :: st) S0 M else none) = _; rw [hs, if_pos ⟨rfl, h0, h1⟩]; rfl) id k2
theorem r_iastore {n : Nat} {a i x : Int} (hd : decode (bc f) pc = .ok (.iastore, 1)) (hs : shp S0 a = (20, n)) (h0 : 0 ≤ i) (h1 : i < n) (k2 : Rn f (pc + 1) ls st (up2 M a i x) Q) : Rn f pc ls ((0, x) :: (0, i) :: (2, a) :: st) M Q := r_step hd (by show (if (shp S0 a).1 = 20 ∧ 0 ≤ i ∧ i < (shp S0 a).2 then nx (pc + 1) ls st S0 (up2 M a i x) else none) = _; rw [hs, if_pos ⟨rfl, h0, h1⟩]; rfl) (fun h => h.up (fx_arr (Or.inl (by rw [hs])))) k2
theorem r_lastore {n : Nat} {a i x : Int} (hd : decode (bc f) pc = .ok (.lastore, 1)) (hs : shp S0 a = (21, n)) (h0 : 0 ≤ i) (h1 : i < n) (k2 : Rn f (pc + 1) ls st (up2 M a i x) Q) : Rn f pc ls ((1, x) :: (0, i) :: (2, a) :: st) M Q := r_step hd (by show (if (shp S0 a).1 = 21 ∧ 0 ≤ i ∧ i < (shp S0 a).2 then nx (pc + 1) ls st S0 (up2 M a i x) else none) = _; rw [hs, if_pos ⟨rfl, h0, h1⟩]; rfl) (fun h => h.up (fx_arr (Or.inr (by rw [hs])))) k2
theorem r_aaloadc {kd n : Nat} {a i z : Int} (hd : decode (bc f) pc = .ok (.aaload, 1)) (hs : shp S0 a = (kd, n)) (hk : 22 ≤ kd ∧ kd ≤ 24) (h0 : 0 ≤ i) (h1 : i < n) (hx : fx a i = some z) (hz : 0 ≤ z) (k2 : Rn f (pc + 1) ls ((2, z) :: st) M Q) : Rn f pc ls ((0, i) :: (2, a) :: st) M Q := r_stepL hd (fun hl => by have hm := hl a i z hx; show (if 22 ≤ (shp S0 a).1 ∧ (shp S0 a).1 ≤ 24 ∧ 0 ≤ i ∧ i < (shp S0 a).2 ∧ 0 ≤ M a i then nx (pc + 1) ls ((2, M a i) :: st) S0 M else none) = _; rw [hs, if_pos ⟨hk.1, hk.2, h0, h1, by omega⟩, hm]; rfl) id k2
theorem r_aaload {kd n : Nat} {a i : Int} (hd : decode (bc f) pc = .ok (.aaload, 1)) (hs : shp S0 a = (kd, n)) (hk : 22 ≤ kd ∧ kd ≤ 24) (h0 : 0 ≤ i) (h1 : i < n) (hz : 0 ≤ M a i) (k2 : Rn f (pc + 1) ls ((2, M a i) :: st) M Q) : Rn f pc ls ((0, i) :: (2, a) :: st) M Q := r_step hd (by show (if 22 ≤ (shp S0 a).1 ∧ (shp S0 a).1 ≤ 24 ∧ 0 ≤ i ∧ i < (shp S0 a).2 ∧ 0 ≤ M a i then nx (pc + 1) ls ((2, M a i) :: st) S0 M else none) = _; rw [hs, if_pos ⟨hk.1, hk.2, h0, h1, hz⟩]; rfl) id k2
theorem r_aastore {n : Nat} {a i x : Int} (hd : decode (bc f) pc = .ok (.aastore, 1)) (hs : shp S0 a = (22, n)) (h0 : 0 ≤ i) (h1 : i < n) (hx : shp S0 x = (0, 3)) (hf : fx a i = none) (k2 : Rn f (pc + 1) ls st (up2 M a i x) Q) : Rn f pc ls ((2, x) :: (0, i) :: (2, a) :: st) M Q := r_step hd (by show (if (shp S0 a).1 = 22 ∧ 0 ≤ i ∧ i < (shp S0 a).2 ∧ shp S0 x = (0, nfl 0) then nx (pc + 1) ls st S0 (up2 M a i x) else none) = _; rw [hs, if_pos ⟨rfl, h0, h1, hx⟩]; rfl) (fun h => h.up hf) k2
theorem r_acopy {n q na nb : Nat} {a b sp dp m : Int} (hd : decode (bc f) pc = .ok (.invokestatic n, 3)) (hm : (mlk (own f) n).map (fun e => e.2.2.2.1) = some 7) (hh : Nat.ble 1 (hgt f) = true) (hk : q = 20 ∨ q = 21) (ha : shp S0 a = (q, na)) (hb : shp S0 b = (q, nb)) (h1 : 0 ≤ m) (h2 : 0 ≤ sp) (h3 : 0 ≤ dp) (h4 : sp + m ≤ nb) (h5 : dp + m ≤ na) (hcat : Nat.ble (cats st) 8 = true) (k2 : Rn f (pc + 3) ls st (cp2 M b sp a dp m) Q) : Rn f pc ls ((0, m) :: (0, dp) :: (2, a) :: (0, sp) :: (2, b) :: st) M Q := r_step hd (by unfold astep; dsimp only; rw [if_pos hm]; show (if ((shp S0 a).1 = 20 ∧ (shp S0 b).1 = 20 ∨ (shp S0 a).1 = 21 ∧ (shp S0 b).1 = 21) ∧ 0 ≤ m ∧ 0 ≤ sp ∧ 0 ≤ dp ∧ sp + m ≤ (shp S0 b).2 ∧ dp + m ≤ (shp S0 a).2 ∧ cats st ≤ 8 ∧ 1 ≤ hgt f then nx (pc + 3) ls st S0 (cp2 M b sp a dp m) else none) = _; rw [ha, hb, if_pos ⟨by show (q = 20 ∧ q = 20 ∨ q = 21 ∧ q = 21); omega, h1, h2, h3, h4, h5, Nat.le_of_ble_eq_true hcat, Nat.le_of_ble_eq_true hh⟩]; rfl) (fun h => h.cp (by rw [ha]; exact hk)) k2
end
theorem stl_1_0 {a0 v : AV} (hv : (v.1 == 1) = false) : stl [a0] 0 v = [v] := by
  have hv2 : ¬ v.1 = 1 := by simpa using hv
  unfold stl
  dsimp only
  rw [if_neg hv2]
  rfl
theorem stl_2_0 {a0 a1 v : AV} (hv : (v.1 == 1) = false) : stl [a0, a1] 0 v = [v, a1] := by
  have hv2 : ¬ v.1 = 1 := by simpa using hv
  unfold stl
  dsimp only
  rw [if_neg hv2]
  rfl
theorem stw_2_0 {a0 a1 v : AV} (hv : (v.1 == 1) = true) : stl [a0, a1] 0 v = [v, (9, 0)] := by
  have hv2 : v.1 = 1 := by simpa using hv
  unfold stl
  dsimp only
  rw [if_pos hv2]
  rfl
theorem stl_2_1 {a0 a1 v : AV} (h : (a0.1 == 1) = false) (hv : (v.1 == 1) = false) : stl [a0, a1] 1 v = [a0, v] := by
  have hv2 : ¬ v.1 = 1 := by simpa using hv
  obtain ⟨t, z⟩ := a0
  have h2 : ¬ t = 1 := by simpa using h
  unfold stl
  dsimp only
  rw [if_neg hv2]
  split
  · rename_i heq
    simp only [List.getElem?_cons_succ, List.getElem?_cons_zero, Option.some.injEq, Prod.mk.injEq] at heq
    exact absurd heq.1 h2
  · rfl
theorem stl_3_0 {a0 a1 a2 v : AV} (hv : (v.1 == 1) = false) : stl [a0, a1, a2] 0 v = [v, a1, a2] := by
  have hv2 : ¬ v.1 = 1 := by simpa using hv
  unfold stl
  dsimp only
  rw [if_neg hv2]
  rfl
theorem stw_3_0 {a0 a1 a2 v : AV} (hv : (v.1 == 1) = true) : stl [a0, a1, a2] 0 v = [v, (9, 0), a2] := by
  have hv2 : v.1 = 1 := by simpa using hv
  unfold stl
  dsimp only
  rw [if_pos hv2]
  rfl
theorem stl_3_1 {a0 a1 a2 v : AV} (h : (a0.1 == 1) = false) (hv : (v.1 == 1) = false) : stl [a0, a1, a2] 1 v = [a0, v, a2] := by
  have hv2 : ¬ v.1 = 1 := by simpa using hv
  obtain ⟨t, z⟩ := a0
  have h2 : ¬ t = 1 := by simpa using h
  unfold stl
  dsimp only
  rw [if_neg hv2]
  split
  · rename_i heq
    simp only [List.getElem?_cons_succ, List.getElem?_cons_zero, Option.some.injEq, Prod.mk.injEq] at heq
    exact absurd heq.1 h2
  · rfl
theorem stw_3_1 {a0 a1 a2 v : AV} (h : (a0.1 == 1) = false) (hv : (v.1 == 1) = true) : stl [a0, a1, a2] 1 v = [a0, v, (9, 0)] := by
  have hv2 : v.1 = 1 := by simpa using hv
  obtain ⟨t, z⟩ := a0
  have h2 : ¬ t = 1 := by simpa using h
  unfold stl
  dsimp only
  rw [if_pos hv2]
  split
  · rename_i heq
    simp only [List.getElem?_cons_succ, List.getElem?_cons_zero, Option.some.injEq, Prod.mk.injEq] at heq
    exact absurd heq.1 h2
  · rfl
theorem stl_3_2 {a0 a1 a2 v : AV} (h : (a1.1 == 1) = false) (hv : (v.1 == 1) = false) : stl [a0, a1, a2] 2 v = [a0, a1, v] := by
  have hv2 : ¬ v.1 = 1 := by simpa using hv
  obtain ⟨t, z⟩ := a1
  have h2 : ¬ t = 1 := by simpa using h
  unfold stl
  dsimp only
  rw [if_neg hv2]
  split
  · rename_i heq
    simp only [List.getElem?_cons_succ, List.getElem?_cons_zero, Option.some.injEq, Prod.mk.injEq] at heq
    exact absurd heq.1 h2
  · rfl
theorem stl_4_0 {a0 a1 a2 a3 v : AV} (hv : (v.1 == 1) = false) : stl [a0, a1, a2, a3] 0 v = [v, a1, a2, a3] := by
  have hv2 : ¬ v.1 = 1 := by simpa using hv
  unfold stl
  dsimp only
  rw [if_neg hv2]
  rfl
theorem stw_4_0 {a0 a1 a2 a3 v : AV} (hv : (v.1 == 1) = true) : stl [a0, a1, a2, a3] 0 v = [v, (9, 0), a2, a3] := by
  have hv2 : v.1 = 1 := by simpa using hv
  unfold stl
  dsimp only
  rw [if_pos hv2]
  rfl
theorem stl_4_1 {a0 a1 a2 a3 v : AV} (h : (a0.1 == 1) = false) (hv : (v.1 == 1) = false) : stl [a0, a1, a2, a3] 1 v = [a0, v, a2, a3] := by
  have hv2 : ¬ v.1 = 1 := by simpa using hv
  obtain ⟨t, z⟩ := a0
  have h2 : ¬ t = 1 := by simpa using h
  unfold stl
  dsimp only
  rw [if_neg hv2]
  split
  · rename_i heq
    simp only [List.getElem?_cons_succ, List.getElem?_cons_zero, Option.some.injEq, Prod.mk.injEq] at heq
    exact absurd heq.1 h2
  · rfl
theorem stw_4_1 {a0 a1 a2 a3 v : AV} (h : (a0.1 == 1) = false) (hv : (v.1 == 1) = true) : stl [a0, a1, a2, a3] 1 v = [a0, v, (9, 0), a3] := by
  have hv2 : v.1 = 1 := by simpa using hv
  obtain ⟨t, z⟩ := a0
  have h2 : ¬ t = 1 := by simpa using h
  unfold stl
  dsimp only
  rw [if_pos hv2]
  split
  · rename_i heq
    simp only [List.getElem?_cons_succ, List.getElem?_cons_zero, Option.some.injEq, Prod.mk.injEq] at heq
    exact absurd heq.1 h2
  · rfl
theorem stl_4_2 {a0 a1 a2 a3 v : AV} (h : (a1.1 == 1) = false) (hv : (v.1 == 1) = false) : stl [a0, a1, a2, a3] 2 v = [a0, a1, v, a3] := by
  have hv2 : ¬ v.1 = 1 := by simpa using hv
  obtain ⟨t, z⟩ := a1
  have h2 : ¬ t = 1 := by simpa using h
  unfold stl
  dsimp only
  rw [if_neg hv2]
  split
  · rename_i heq
    simp only [List.getElem?_cons_succ, List.getElem?_cons_zero, Option.some.injEq, Prod.mk.injEq] at heq
    exact absurd heq.1 h2
  · rfl
theorem stw_4_2 {a0 a1 a2 a3 v : AV} (h : (a1.1 == 1) = false) (hv : (v.1 == 1) = true) : stl [a0, a1, a2, a3] 2 v = [a0, a1, v, (9, 0)] := by
  have hv2 : v.1 = 1 := by simpa using hv
  obtain ⟨t, z⟩ := a1
  have h2 : ¬ t = 1 := by simpa using h
  unfold stl
  dsimp only
  rw [if_pos hv2]
  split
  · rename_i heq
    simp only [List.getElem?_cons_succ, List.getElem?_cons_zero, Option.some.injEq, Prod.mk.injEq] at heq
    exact absurd heq.1 h2
  · rfl
theorem stl_4_3 {a0 a1 a2 a3 v : AV} (h : (a2.1 == 1) = false) (hv : (v.1 == 1) = false) : stl [a0, a1, a2, a3] 3 v = [a0, a1, a2, v] := by
  have hv2 : ¬ v.1 = 1 := by simpa using hv
  obtain ⟨t, z⟩ := a2
  have h2 : ¬ t = 1 := by simpa using h
  unfold stl
  dsimp only
  rw [if_neg hv2]
  split
  · rename_i heq
    simp only [List.getElem?_cons_succ, List.getElem?_cons_zero, Option.some.injEq, Prod.mk.injEq] at heq
    exact absurd heq.1 h2
  · rfl
theorem stl_5_0 {a0 a1 a2 a3 a4 v : AV} (hv : (v.1 == 1) = false) : stl [a0, a1, a2, a3, a4] 0 v = [v, a1, a2, a3, a4] := by
  have hv2 : ¬ v.1 = 1 := by simpa using hv
  unfold stl
  dsimp only
  rw [if_neg hv2]
  rfl
theorem stw_5_0 {a0 a1 a2 a3 a4 v : AV} (hv : (v.1 == 1) = true) : stl [a0, a1, a2, a3, a4] 0 v = [v, (9, 0), a2, a3, a4] := by
  have hv2 : v.1 = 1 := by simpa using hv
  unfold stl
  dsimp only
  rw [if_pos hv2]
  rfl
theorem stl_5_1 {a0 a1 a2 a3 a4 v : AV} (h : (a0.1 == 1) = false) (hv : (v.1 == 1) = false) : stl [a0, a1, a2, a3, a4] 1 v = [a0, v, a2, a3, a4] := by
  have hv2 : ¬ v.1 = 1 := by simpa using hv
  obtain ⟨t, z⟩ := a0
  have h2 : ¬ t = 1 := by simpa using h
  unfold stl
  dsimp only
  rw [if_neg hv2]
  split
  · rename_i heq
    simp only [List.getElem?_cons_succ, List.getElem?_cons_zero, Option.some.injEq, Prod.mk.injEq] at heq
    exact absurd heq.1 h2
  · rfl
theorem stw_5_1 {a0 a1 a2 a3 a4 v : AV} (h : (a0.1 == 1) = false) (hv : (v.1 == 1) = true) : stl [a0, a1, a2, a3, a4] 1 v = [a0, v, (9, 0), a3, a4] := by
  have hv2 : v.1 = 1 := by simpa using hv
  obtain ⟨t, z⟩ := a0
  have h2 : ¬ t = 1 := by simpa using h
  unfold stl
  dsimp only
  rw [if_pos hv2]
  split
  · rename_i heq
    simp only [List.getElem?_cons_succ, List.getElem?_cons_zero, Option.some.injEq, Prod.mk.injEq] at heq
    exact absurd heq.1 h2
  · rfl
theorem stl_5_2 {a0 a1 a2 a3 a4 v : AV} (h : (a1.1 == 1) = false) (hv : (v.1 == 1) = false) : stl [a0, a1, a2, a3, a4] 2 v = [a0, a1, v, a3, a4] := by
  have hv2 : ¬ v.1 = 1 := by simpa using hv
  obtain ⟨t, z⟩ := a1
  have h2 : ¬ t = 1 := by simpa using h
  unfold stl
  dsimp only
  rw [if_neg hv2]
  split
  · rename_i heq
    simp only [List.getElem?_cons_succ, List.getElem?_cons_zero, Option.some.injEq, Prod.mk.injEq] at heq
    exact absurd heq.1 h2
  · rfl
theorem stw_5_2 {a0 a1 a2 a3 a4 v : AV} (h : (a1.1 == 1) = false) (hv : (v.1 == 1) = true) : stl [a0, a1, a2, a3, a4] 2 v = [a0, a1, v, (9, 0), a4] := by
  have hv2 : v.1 = 1 := by simpa using hv
  obtain ⟨t, z⟩ := a1
  have h2 : ¬ t = 1 := by simpa using h
  unfold stl
  dsimp only
  rw [if_pos hv2]
  split
  · rename_i heq
    simp only [List.getElem?_cons_succ, List.getElem?_cons_zero, Option.some.injEq, Prod.mk.injEq] at heq
    exact absurd heq.1 h2
  · rfl
theorem stl_5_3 {a0 a1 a2 a3 a4 v : AV} (h : (a2.1 == 1) = false) (hv : (v.1 == 1) = false) : stl [a0, a1, a2, a3, a4] 3 v = [a0, a1, a2, v, a4] := by
  have hv2 : ¬ v.1 = 1 := by simpa using hv
  obtain ⟨t, z⟩ := a2
  have h2 : ¬ t = 1 := by simpa using h
  unfold stl
  dsimp only
  rw [if_neg hv2]
  split
  · rename_i heq
    simp only [List.getElem?_cons_succ, List.getElem?_cons_zero, Option.some.injEq, Prod.mk.injEq] at heq
    exact absurd heq.1 h2
  · rfl
theorem stw_5_3 {a0 a1 a2 a3 a4 v : AV} (h : (a2.1 == 1) = false) (hv : (v.1 == 1) = true) : stl [a0, a1, a2, a3, a4] 3 v = [a0, a1, a2, v, (9, 0)] := by
  have hv2 : v.1 = 1 := by simpa using hv
  obtain ⟨t, z⟩ := a2
  have h2 : ¬ t = 1 := by simpa using h
  unfold stl
  dsimp only
  rw [if_pos hv2]
  split
  · rename_i heq
    simp only [List.getElem?_cons_succ, List.getElem?_cons_zero, Option.some.injEq, Prod.mk.injEq] at heq
    exact absurd heq.1 h2
  · rfl
theorem stl_5_4 {a0 a1 a2 a3 a4 v : AV} (h : (a3.1 == 1) = false) (hv : (v.1 == 1) = false) : stl [a0, a1, a2, a3, a4] 4 v = [a0, a1, a2, a3, v] := by
  have hv2 : ¬ v.1 = 1 := by simpa using hv
  obtain ⟨t, z⟩ := a3
  have h2 : ¬ t = 1 := by simpa using h
  unfold stl
  dsimp only
  rw [if_neg hv2]
  split
  · rename_i heq
    simp only [List.getElem?_cons_succ, List.getElem?_cons_zero, Option.some.injEq, Prod.mk.injEq] at heq
    exact absurd heq.1 h2
  · rfl
theorem stl_6_0 {a0 a1 a2 a3 a4 a5 v : AV} (hv : (v.1 == 1) = false) : stl [a0, a1, a2, a3, a4, a5] 0 v = [v, a1, a2, a3, a4, a5] := by
  have hv2 : ¬ v.1 = 1 := by simpa using hv
  unfold stl
  dsimp only
  rw [if_neg hv2]
  rfl
theorem stw_6_0 {a0 a1 a2 a3 a4 a5 v : AV} (hv : (v.1 == 1) = true) : stl [a0, a1, a2, a3, a4, a5] 0 v = [v, (9, 0), a2, a3, a4, a5] := by
  have hv2 : v.1 = 1 := by simpa using hv
  unfold stl
  dsimp only
  rw [if_pos hv2]
  rfl
theorem stl_6_1 {a0 a1 a2 a3 a4 a5 v : AV} (h : (a0.1 == 1) = false) (hv : (v.1 == 1) = false) : stl [a0, a1, a2, a3, a4, a5] 1 v = [a0, v, a2, a3, a4, a5] := by
  have hv2 : ¬ v.1 = 1 := by simpa using hv
  obtain ⟨t, z⟩ := a0
  have h2 : ¬ t = 1 := by simpa using h
  unfold stl
  dsimp only
  rw [if_neg hv2]
  split
  · rename_i heq
    simp only [List.getElem?_cons_succ, List.getElem?_cons_zero, Option.some.injEq, Prod.mk.injEq] at heq
    exact absurd heq.1 h2
  · rfl
theorem stw_6_1 {a0 a1 a2 a3 a4 a5 v : AV} (h : (a0.1 == 1) = false) (hv : (v.1 == 1) = true) : stl [a0, a1, a2, a3, a4, a5] 1 v = [a0, v, (9, 0), a3, a4, a5] := by
  have hv2 : v.1 = 1 := by simpa using hv
  obtain ⟨t, z⟩ := a0
  have h2 : ¬ t = 1 := by simpa using h
  unfold stl
  dsimp only
  rw [if_pos hv2]
  split
  · rename_i heq
    simp only [List.getElem?_cons_succ, List.getElem?_cons_zero, Option.some.injEq, Prod.mk.injEq] at heq
    exact absurd heq.1 h2
  · rfl
theorem stl_6_2 {a0 a1 a2 a3 a4 a5 v : AV} (h : (a1.1 == 1) = false) (hv : (v.1 == 1) = false) : stl [a0, a1, a2, a3, a4, a5] 2 v = [a0, a1, v, a3, a4, a5] := by
  have hv2 : ¬ v.1 = 1 := by simpa using hv
  obtain ⟨t, z⟩ := a1
  have h2 : ¬ t = 1 := by simpa using h
  unfold stl
  dsimp only
  rw [if_neg hv2]
  split
  · rename_i heq
    simp only [List.getElem?_cons_succ, List.getElem?_cons_zero, Option.some.injEq, Prod.mk.injEq] at heq
    exact absurd heq.1 h2
  · rfl
theorem stw_6_2 {a0 a1 a2 a3 a4 a5 v : AV} (h : (a1.1 == 1) = false) (hv : (v.1 == 1) = true) : stl [a0, a1, a2, a3, a4, a5] 2 v = [a0, a1, v, (9, 0), a4, a5] := by
  have hv2 : v.1 = 1 := by simpa using hv
  obtain ⟨t, z⟩ := a1
  have h2 : ¬ t = 1 := by simpa using h
  unfold stl
  dsimp only
  rw [if_pos hv2]
  split
  · rename_i heq
    simp only [List.getElem?_cons_succ, List.getElem?_cons_zero, Option.some.injEq, Prod.mk.injEq] at heq
    exact absurd heq.1 h2
  · rfl
theorem stl_6_3 {a0 a1 a2 a3 a4 a5 v : AV} (h : (a2.1 == 1) = false) (hv : (v.1 == 1) = false) : stl [a0, a1, a2, a3, a4, a5] 3 v = [a0, a1, a2, v, a4, a5] := by
  have hv2 : ¬ v.1 = 1 := by simpa using hv
  obtain ⟨t, z⟩ := a2
  have h2 : ¬ t = 1 := by simpa using h
  unfold stl
  dsimp only
  rw [if_neg hv2]
  split
  · rename_i heq
    simp only [List.getElem?_cons_succ, List.getElem?_cons_zero, Option.some.injEq, Prod.mk.injEq] at heq
    exact absurd heq.1 h2
  · rfl
theorem stw_6_3 {a0 a1 a2 a3 a4 a5 v : AV} (h : (a2.1 == 1) = false) (hv : (v.1 == 1) = true) : stl [a0, a1, a2, a3, a4, a5] 3 v = [a0, a1, a2, v, (9, 0), a5] := by
  have hv2 : v.1 = 1 := by simpa using hv
  obtain ⟨t, z⟩ := a2
  have h2 : ¬ t = 1 := by simpa using h
  unfold stl
  dsimp only
  rw [if_pos hv2]
  split
  · rename_i heq
    simp only [List.getElem?_cons_succ, List.getElem?_cons_zero, Option.some.injEq, Prod.mk.injEq] at heq
    exact absurd heq.1 h2
  · rfl
theorem stl_6_4 {a0 a1 a2 a3 a4 a5 v : AV} (h : (a3.1 == 1) = false) (hv : (v.1 == 1) = false) : stl [a0, a1, a2, a3, a4, a5] 4 v = [a0, a1, a2, a3, v, a5] := by
  have hv2 : ¬ v.1 = 1 := by simpa using hv
  obtain ⟨t, z⟩ := a3
  have h2 : ¬ t = 1 := by simpa using h
  unfold stl
  dsimp only
  rw [if_neg hv2]
  split
  · rename_i heq
    simp only [List.getElem?_cons_succ, List.getElem?_cons_zero, Option.some.injEq, Prod.mk.injEq] at heq
    exact absurd heq.1 h2
  · rfl
theorem stw_6_4 {a0 a1 a2 a3 a4 a5 v : AV} (h : (a3.1 == 1) = false) (hv : (v.1 == 1) = true) : stl [a0, a1, a2, a3, a4, a5] 4 v = [a0, a1, a2, a3, v, (9, 0)] := by
  have hv2 : v.1 = 1 := by simpa using hv
  obtain ⟨t, z⟩ := a3
  have h2 : ¬ t = 1 := by simpa using h
  unfold stl
  dsimp only
  rw [if_pos hv2]
  split
  · rename_i heq
    simp only [List.getElem?_cons_succ, List.getElem?_cons_zero, Option.some.injEq, Prod.mk.injEq] at heq
    exact absurd heq.1 h2
  · rfl
theorem stl_6_5 {a0 a1 a2 a3 a4 a5 v : AV} (h : (a4.1 == 1) = false) (hv : (v.1 == 1) = false) : stl [a0, a1, a2, a3, a4, a5] 5 v = [a0, a1, a2, a3, a4, v] := by
  have hv2 : ¬ v.1 = 1 := by simpa using hv
  obtain ⟨t, z⟩ := a4
  have h2 : ¬ t = 1 := by simpa using h
  unfold stl
  dsimp only
  rw [if_neg hv2]
  split
  · rename_i heq
    simp only [List.getElem?_cons_succ, List.getElem?_cons_zero, Option.some.injEq, Prod.mk.injEq] at heq
    exact absurd heq.1 h2
  · rfl
theorem stl_7_0 {a0 a1 a2 a3 a4 a5 a6 v : AV} (hv : (v.1 == 1) = false) : stl [a0, a1, a2, a3, a4, a5, a6] 0 v = [v, a1, a2, a3, a4, a5, a6] := by
  have hv2 : ¬ v.1 = 1 := by simpa using hv
  unfold stl
  dsimp only
  rw [if_neg hv2]
  rfl
theorem stw_7_0 {a0 a1 a2 a3 a4 a5 a6 v : AV} (hv : (v.1 == 1) = true) : stl [a0, a1, a2, a3, a4, a5, a6] 0 v = [v, (9, 0), a2, a3, a4, a5, a6] := by
  have hv2 : v.1 = 1 := by simpa using hv
  unfold stl
  dsimp only
  rw [if_pos hv2]
  rfl
theorem stl_7_1 {a0 a1 a2 a3 a4 a5 a6 v : AV} (h : (a0.1 == 1) = false) (hv : (v.1 == 1) = false) : stl [a0, a1, a2, a3, a4, a5, a6] 1 v = [a0, v, a2, a3, a4, a5, a6] := by
  have hv2 : ¬ v.1 = 1 := by simpa using hv
  obtain ⟨t, z⟩ := a0
  have h2 : ¬ t = 1 := by simpa using h
  unfold stl
  dsimp only
  rw [if_neg hv2]
  split
  · rename_i heq
    simp only [List.getElem?_cons_succ, List.getElem?_cons_zero, Option.some.injEq, Prod.mk.injEq] at heq
    exact absurd heq.1 h2
  · rfl
theorem stw_7_1 {a0 a1 a2 a3 a4 a5 a6 v : AV} (h : (a0.1 == 1) = false) (hv : (v.1 == 1) = true) : stl [a0, a1, a2, a3, a4, a5, a6] 1 v = [a0, v, (9, 0), a3, a4, a5, a6] := by
  have hv2 : v.1 = 1 := by simpa using hv
  obtain ⟨t, z⟩ := a0
  have h2 : ¬ t = 1 := by simpa using h
  unfold stl
  dsimp only
  rw [if_pos hv2]
  split
  · rename_i heq
    simp only [List.getElem?_cons_succ, List.getElem?_cons_zero, Option.some.injEq, Prod.mk.injEq] at heq
    exact absurd heq.1 h2
  · rfl
theorem stl_7_2 {a0 a1 a2 a3 a4 a5 a6 v : AV} (h : (a1.1 == 1) = false) (hv : (v.1 == 1) = false) : stl [a0, a1, a2, a3, a4, a5, a6] 2 v = [a0, a1, v, a3, a4, a5, a6] := by
  have hv2 : ¬ v.1 = 1 := by simpa using hv
  obtain ⟨t, z⟩ := a1
  have h2 : ¬ t = 1 := by simpa using h
  unfold stl
  dsimp only
  rw [if_neg hv2]
  split
  · rename_i heq
    simp only [List.getElem?_cons_succ, List.getElem?_cons_zero, Option.some.injEq, Prod.mk.injEq] at heq
    exact absurd heq.1 h2
  · rfl
theorem stw_7_2 {a0 a1 a2 a3 a4 a5 a6 v : AV} (h : (a1.1 == 1) = false) (hv : (v.1 == 1) = true) : stl [a0, a1, a2, a3, a4, a5, a6] 2 v = [a0, a1, v, (9, 0), a4, a5, a6] := by
  have hv2 : v.1 = 1 := by simpa using hv
  obtain ⟨t, z⟩ := a1
  have h2 : ¬ t = 1 := by simpa using h
  unfold stl
  dsimp only
  rw [if_pos hv2]
  split
  · rename_i heq
    simp only [List.getElem?_cons_succ, List.getElem?_cons_zero, Option.some.injEq, Prod.mk.injEq] at heq
    exact absurd heq.1 h2
  · rfl
theorem stl_7_3 {a0 a1 a2 a3 a4 a5 a6 v : AV} (h : (a2.1 == 1) = false) (hv : (v.1 == 1) = false) : stl [a0, a1, a2, a3, a4, a5, a6] 3 v = [a0, a1, a2, v, a4, a5, a6] := by
  have hv2 : ¬ v.1 = 1 := by simpa using hv
  obtain ⟨t, z⟩ := a2
  have h2 : ¬ t = 1 := by simpa using h
  unfold stl
  dsimp only
  rw [if_neg hv2]
  split
  · rename_i heq
    simp only [List.getElem?_cons_succ, List.getElem?_cons_zero, Option.some.injEq, Prod.mk.injEq] at heq
    exact absurd heq.1 h2
  · rfl
theorem stw_7_3 {a0 a1 a2 a3 a4 a5 a6 v : AV} (h : (a2.1 == 1) = false) (hv : (v.1 == 1) = true) : stl [a0, a1, a2, a3, a4, a5, a6] 3 v = [a0, a1, a2, v, (9, 0), a5, a6] := by
  have hv2 : v.1 = 1 := by simpa using hv
  obtain ⟨t, z⟩ := a2
  have h2 : ¬ t = 1 := by simpa using h
  unfold stl
  dsimp only
  rw [if_pos hv2]
  split
  · rename_i heq
    simp only [List.getElem?_cons_succ, List.getElem?_cons_zero, Option.some.injEq, Prod.mk.injEq] at heq
    exact absurd heq.1 h2
  · rfl
theorem stl_7_4 {a0 a1 a2 a3 a4 a5 a6 v : AV} (h : (a3.1 == 1) = false) (hv : (v.1 == 1) = false) : stl [a0, a1, a2, a3, a4, a5, a6] 4 v = [a0, a1, a2, a3, v, a5, a6] := by
  have hv2 : ¬ v.1 = 1 := by simpa using hv
  obtain ⟨t, z⟩ := a3
  have h2 : ¬ t = 1 := by simpa using h
  unfold stl
  dsimp only
  rw [if_neg hv2]
  split
  · rename_i heq
    simp only [List.getElem?_cons_succ, List.getElem?_cons_zero, Option.some.injEq, Prod.mk.injEq] at heq
    exact absurd heq.1 h2
  · rfl
theorem stw_7_4 {a0 a1 a2 a3 a4 a5 a6 v : AV} (h : (a3.1 == 1) = false) (hv : (v.1 == 1) = true) : stl [a0, a1, a2, a3, a4, a5, a6] 4 v = [a0, a1, a2, a3, v, (9, 0), a6] := by
  have hv2 : v.1 = 1 := by simpa using hv
  obtain ⟨t, z⟩ := a3
  have h2 : ¬ t = 1 := by simpa using h
  unfold stl
  dsimp only
  rw [if_pos hv2]
  split
  · rename_i heq
    simp only [List.getElem?_cons_succ, List.getElem?_cons_zero, Option.some.injEq, Prod.mk.injEq] at heq
    exact absurd heq.1 h2
  · rfl
theorem stl_7_5 {a0 a1 a2 a3 a4 a5 a6 v : AV} (h : (a4.1 == 1) = false) (hv : (v.1 == 1) = false) : stl [a0, a1, a2, a3, a4, a5, a6] 5 v = [a0, a1, a2, a3, a4, v, a6] := by
  have hv2 : ¬ v.1 = 1 := by simpa using hv
  obtain ⟨t, z⟩ := a4
  have h2 : ¬ t = 1 := by simpa using h
  unfold stl
  dsimp only
  rw [if_neg hv2]
  split
  · rename_i heq
    simp only [List.getElem?_cons_succ, List.getElem?_cons_zero, Option.some.injEq, Prod.mk.injEq] at heq
    exact absurd heq.1 h2
  · rfl
theorem stw_7_5 {a0 a1 a2 a3 a4 a5 a6 v : AV} (h : (a4.1 == 1) = false) (hv : (v.1 == 1) = true) : stl [a0, a1, a2, a3, a4, a5, a6] 5 v = [a0, a1, a2, a3, a4, v, (9, 0)] := by
  have hv2 : v.1 = 1 := by simpa using hv
  obtain ⟨t, z⟩ := a4
  have h2 : ¬ t = 1 := by simpa using h
  unfold stl
  dsimp only
  rw [if_pos hv2]
  split
  · rename_i heq
    simp only [List.getElem?_cons_succ, List.getElem?_cons_zero, Option.some.injEq, Prod.mk.injEq] at heq
    exact absurd heq.1 h2
  · rfl
theorem stl_7_6 {a0 a1 a2 a3 a4 a5 a6 v : AV} (h : (a5.1 == 1) = false) (hv : (v.1 == 1) = false) : stl [a0, a1, a2, a3, a4, a5, a6] 6 v = [a0, a1, a2, a3, a4, a5, v] := by
  have hv2 : ¬ v.1 = 1 := by simpa using hv
  obtain ⟨t, z⟩ := a5
  have h2 : ¬ t = 1 := by simpa using h
  unfold stl
  dsimp only
  rw [if_neg hv2]
  split
  · rename_i heq
    simp only [List.getElem?_cons_succ, List.getElem?_cons_zero, Option.some.injEq, Prod.mk.injEq] at heq
    exact absurd heq.1 h2
  · rfl
theorem stl_8_0 {a0 a1 a2 a3 a4 a5 a6 a7 v : AV} (hv : (v.1 == 1) = false) : stl [a0, a1, a2, a3, a4, a5, a6, a7] 0 v = [v, a1, a2, a3, a4, a5, a6, a7] := by
  have hv2 : ¬ v.1 = 1 := by simpa using hv
  unfold stl
  dsimp only
  rw [if_neg hv2]
  rfl
theorem stw_8_0 {a0 a1 a2 a3 a4 a5 a6 a7 v : AV} (hv : (v.1 == 1) = true) : stl [a0, a1, a2, a3, a4, a5, a6, a7] 0 v = [v, (9, 0), a2, a3, a4, a5, a6, a7] := by
  have hv2 : v.1 = 1 := by simpa using hv
  unfold stl
  dsimp only
  rw [if_pos hv2]
  rfl
theorem stl_8_1 {a0 a1 a2 a3 a4 a5 a6 a7 v : AV} (h : (a0.1 == 1) = false) (hv : (v.1 == 1) = false) : stl [a0, a1, a2, a3, a4, a5, a6, a7] 1 v = [a0, v, a2, a3, a4, a5, a6, a7] := by
  have hv2 : ¬ v.1 = 1 := by simpa using hv
  obtain ⟨t, z⟩ := a0
  have h2 : ¬ t = 1 := by simpa using h
  unfold stl
  dsimp only
  rw [if_neg hv2]
  split
  · rename_i heq
    simp only [List.getElem?_cons_succ, List.getElem?_cons_zero, Option.some.injEq, Prod.mk.injEq] at heq
    exact absurd heq.1 h2
  · rfl
theorem stw_8_1 {a0 a1 a2 a3 a4 a5 a6 a7 v : AV} (h : (a0.1 == 1) = false) (hv : (v.1 == 1) = true) : stl [a0, a1, a2, a3, a4, a5, a6, a7] 1 v = [a0, v, (9, 0), a3, a4, a5, a6, a7] := by
  have hv2 : v.1 = 1 := by simpa using hv
  obtain ⟨t, z⟩ := a0
  have h2 : ¬ t = 1 := by simpa using h
  unfold stl
  dsimp only
  rw [if_pos hv2]
  split
  · rename_i heq
    simp only [List.getElem?_cons_succ, List.getElem?_cons_zero, Option.some.injEq, Prod.mk.injEq] at heq
    exact absurd heq.1 h2
  · rfl
theorem stl_8_2 {a0 a1 a2 a3 a4 a5 a6 a7 v : AV} (h : (a1.1 == 1) = false) (hv : (v.1 == 1) = false) : stl [a0, a1, a2, a3, a4, a5, a6, a7] 2 v = [a0, a1, v, a3, a4, a5, a6, a7] := by
  have hv2 : ¬ v.1 = 1 := by simpa using hv
  obtain ⟨t, z⟩ := a1
  have h2 : ¬ t = 1 := by simpa using h
  unfold stl
  dsimp only
  rw [if_neg hv2]
  split
  · rename_i heq
    simp only [List.getElem?_cons_succ, List.getElem?_cons_zero, Option.some.injEq, Prod.mk.injEq] at heq
    exact absurd heq.1 h2
  · rfl
theorem stw_8_2 {a0 a1 a2 a3 a4 a5 a6 a7 v : AV} (h : (a1.1 == 1) = false) (hv : (v.1 == 1) = true) : stl [a0, a1, a2, a3, a4, a5, a6, a7] 2 v = [a0, a1, v, (9, 0), a4, a5, a6, a7] := by
  have hv2 : v.1 = 1 := by simpa using hv
  obtain ⟨t, z⟩ := a1
  have h2 : ¬ t = 1 := by simpa using h
  unfold stl
  dsimp only
  rw [if_pos hv2]
  split
  · rename_i heq
    simp only [List.getElem?_cons_succ, List.getElem?_cons_zero, Option.some.injEq, Prod.mk.injEq] at heq
    exact absurd heq.1 h2
  · rfl
theorem stl_8_3 {a0 a1 a2 a3 a4 a5 a6 a7 v : AV} (h : (a2.1 == 1) = false) (hv : (v.1 == 1) = false) : stl [a0, a1, a2, a3, a4, a5, a6, a7] 3 v = [a0, a1, a2, v, a4, a5, a6, a7] := by
  have hv2 : ¬ v.1 = 1 := by simpa using hv
  obtain ⟨t, z⟩ := a2
  have h2 : ¬ t = 1 := by simpa using h
  unfold stl
  dsimp only
  rw [if_neg hv2]
  split
  · rename_i heq
    simp only [List.getElem?_cons_succ, List.getElem?_cons_zero, Option.some.injEq, Prod.mk.injEq] at heq
    exact absurd heq.1 h2
  · rfl
theorem stw_8_3 {a0 a1 a2 a3 a4 a5 a6 a7 v : AV} (h : (a2.1 == 1) = false) (hv : (v.1 == 1) = true) : stl [a0, a1, a2, a3, a4, a5, a6, a7] 3 v = [a0, a1, a2, v, (9, 0), a5, a6, a7] := by
  have hv2 : v.1 = 1 := by simpa using hv
  obtain ⟨t, z⟩ := a2
  have h2 : ¬ t = 1 := by simpa using h
  unfold stl
  dsimp only
  rw [if_pos hv2]
  split
  · rename_i heq
    simp only [List.getElem?_cons_succ, List.getElem?_cons_zero, Option.some.injEq, Prod.mk.injEq] at heq
    exact absurd heq.1 h2
  · rfl
theorem stl_8_4 {a0 a1 a2 a3 a4 a5 a6 a7 v : AV} (h : (a3.1 == 1) = false) (hv : (v.1 == 1) = false) : stl [a0, a1, a2, a3, a4, a5, a6, a7] 4 v = [a0, a1, a2, a3, v, a5, a6, a7] := by
  have hv2 : ¬ v.1 = 1 := by simpa using hv
  obtain ⟨t, z⟩ := a3
  have h2 : ¬ t = 1 := by simpa using h
  unfold stl
  dsimp only
  rw [if_neg hv2]
  split
  · rename_i heq
    simp only [List.getElem?_cons_succ, List.getElem?_cons_zero, Option.some.injEq, Prod.mk.injEq] at heq
    exact absurd heq.1 h2
  · rfl
theorem stw_8_4 {a0 a1 a2 a3 a4 a5 a6 a7 v : AV} (h : (a3.1 == 1) = false) (hv : (v.1 == 1) = true) : stl [a0, a1, a2, a3, a4, a5, a6, a7] 4 v = [a0, a1, a2, a3, v, (9, 0), a6, a7] := by
  have hv2 : v.1 = 1 := by simpa using hv
  obtain ⟨t, z⟩ := a3
  have h2 : ¬ t = 1 := by simpa using h
  unfold stl
  dsimp only
  rw [if_pos hv2]
  split
  · rename_i heq
    simp only [List.getElem?_cons_succ, List.getElem?_cons_zero, Option.some.injEq, Prod.mk.injEq] at heq
    exact absurd heq.1 h2
  · rfl
theorem stl_8_5 {a0 a1 a2 a3 a4 a5 a6 a7 v : AV} (h : (a4.1 == 1) = false) (hv : (v.1 == 1) = false) : stl [a0, a1, a2, a3, a4, a5, a6, a7] 5 v = [a0, a1, a2, a3, a4, v, a6, a7] := by
  have hv2 : ¬ v.1 = 1 := by simpa using hv
  obtain ⟨t, z⟩ := a4
  have h2 : ¬ t = 1 := by simpa using h
  unfold stl
  dsimp only
  rw [if_neg hv2]
  split
  · rename_i heq
    simp only [List.getElem?_cons_succ, List.getElem?_cons_zero, Option.some.injEq, Prod.mk.injEq] at heq
    exact absurd heq.1 h2
  · rfl
theorem stw_8_5 {a0 a1 a2 a3 a4 a5 a6 a7 v : AV} (h : (a4.1 == 1) = false) (hv : (v.1 == 1) = true) : stl [a0, a1, a2, a3, a4, a5, a6, a7] 5 v = [a0, a1, a2, a3, a4, v, (9, 0), a7] := by
  have hv2 : v.1 = 1 := by simpa using hv
  obtain ⟨t, z⟩ := a4
  have h2 : ¬ t = 1 := by simpa using h
  unfold stl
  dsimp only
  rw [if_pos hv2]
  split
  · rename_i heq
    simp only [List.getElem?_cons_succ, List.getElem?_cons_zero, Option.some.injEq, Prod.mk.injEq] at heq
    exact absurd heq.1 h2
  · rfl
theorem stl_8_6 {a0 a1 a2 a3 a4 a5 a6 a7 v : AV} (h : (a5.1 == 1) = false) (hv : (v.1 == 1) = false) : stl [a0, a1, a2, a3, a4, a5, a6, a7] 6 v = [a0, a1, a2, a3, a4, a5, v, a7] := by
  have hv2 : ¬ v.1 = 1 := by simpa using hv
  obtain ⟨t, z⟩ := a5
  have h2 : ¬ t = 1 := by simpa using h
  unfold stl
  dsimp only
  rw [if_neg hv2]
  split
  · rename_i heq
    simp only [List.getElem?_cons_succ, List.getElem?_cons_zero, Option.some.injEq, Prod.mk.injEq] at heq
    exact absurd heq.1 h2
  · rfl
theorem stw_8_6 {a0 a1 a2 a3 a4 a5 a6 a7 v : AV} (h : (a5.1 == 1) = false) (hv : (v.1 == 1) = true) : stl [a0, a1, a2, a3, a4, a5, a6, a7] 6 v = [a0, a1, a2, a3, a4, a5, v, (9, 0)] := by
  have hv2 : v.1 = 1 := by simpa using hv
  obtain ⟨t, z⟩ := a5
  have h2 : ¬ t = 1 := by simpa using h
  unfold stl
  dsimp only
  rw [if_pos hv2]
  split
  · rename_i heq
    simp only [List.getElem?_cons_succ, List.getElem?_cons_zero, Option.some.injEq, Prod.mk.injEq] at heq
    exact absurd heq.1 h2
  · rfl
theorem stl_8_7 {a0 a1 a2 a3 a4 a5 a6 a7 v : AV} (h : (a6.1 == 1) = false) (hv : (v.1 == 1) = false) : stl [a0, a1, a2, a3, a4, a5, a6, a7] 7 v = [a0, a1, a2, a3, a4, a5, a6, v] := by
  have hv2 : ¬ v.1 = 1 := by simpa using hv
  obtain ⟨t, z⟩ := a6
  have h2 : ¬ t = 1 := by simpa using h
  unfold stl
  dsimp only
  rw [if_neg hv2]
  split
  · rename_i heq
    simp only [List.getElem?_cons_succ, List.getElem?_cons_zero, Option.some.injEq, Prod.mk.injEq] at heq
    exact absurd heq.1 h2
  · rfl
theorem stl_9_0 {a0 a1 a2 a3 a4 a5 a6 a7 a8 v : AV} (hv : (v.1 == 1) = false) : stl [a0, a1, a2, a3, a4, a5, a6, a7, a8] 0 v = [v, a1, a2, a3, a4, a5, a6, a7, a8] := by
  have hv2 : ¬ v.1 = 1 := by simpa using hv
  unfold stl
  dsimp only
  rw [if_neg hv2]
  rfl
theorem stw_9_0 {a0 a1 a2 a3 a4 a5 a6 a7 a8 v : AV} (hv : (v.1 == 1) = true) : stl [a0, a1, a2, a3, a4, a5, a6, a7, a8] 0 v = [v, (9, 0), a2, a3, a4, a5, a6, a7, a8] := by
  have hv2 : v.1 = 1 := by simpa using hv
  unfold stl
  dsimp only
  rw [if_pos hv2]
  rfl
theorem stl_9_1 {a0 a1 a2 a3 a4 a5 a6 a7 a8 v : AV} (h : (a0.1 == 1) = false) (hv : (v.1 == 1) = false) : stl [a0, a1, a2, a3, a4, a5, a6, a7, a8] 1 v = [a0, v, a2, a3, a4, a5, a6, a7, a8] := by
  have hv2 : ¬ v.1 = 1 := by simpa using hv
  obtain ⟨t, z⟩ := a0
  have h2 : ¬ t = 1 := by simpa using h
  unfold stl
  dsimp only
  rw [if_neg hv2]
  split
  · rename_i heq
    simp only [List.getElem?_cons_succ, List.getElem?_cons_zero, Option.some.injEq, Prod.mk.injEq] at heq
    exact absurd heq.1 h2
  · rfl
theorem stw_9_1 {a0 a1 a2 a3 a4 a5 a6 a7 a8 v : AV} (h : (a0.1 == 1) = false) (hv : (v.1 == 1) = true) : stl [a0, a1, a2, a3, a4, a5, a6, a7, a8] 1 v = [a0, v, (9, 0), a3, a4, a5, a6, a7, a8] := by
  have hv2 : v.1 = 1 := by simpa using hv
  obtain ⟨t, z⟩ := a0
  have h2 : ¬ t = 1 := by simpa using h
  unfold stl
  dsimp only
  rw [if_pos hv2]
  split
  · rename_i heq
    simp only [List.getElem?_cons_succ, List.getElem?_cons_zero, Option.some.injEq, Prod.mk.injEq] at heq
    exact absurd heq.1 h2
  · rfl
theorem stl_9_2 {a0 a1 a2 a3 a4 a5 a6 a7 a8 v : AV} (h : (a1.1 == 1) = false) (hv : (v.1 == 1) = false) : stl [a0, a1, a2, a3, a4, a5, a6, a7, a8] 2 v = [a0, a1, v, a3, a4, a5, a6, a7, a8] := by
  have hv2 : ¬ v.1 = 1 := by simpa using hv
  obtain ⟨t, z⟩ := a1
  have h2 : ¬ t = 1 := by simpa using h
  unfold stl
  dsimp only
  rw [if_neg hv2]
  split
  · rename_i heq
    simp only [List.getElem?_cons_succ, List.getElem?_cons_zero, Option.some.injEq, Prod.mk.injEq] at heq
    exact absurd heq.1 h2
  · rfl
theorem stw_9_2 {a0 a1 a2 a3 a4 a5 a6 a7 a8 v : AV} (h : (a1.1 == 1) = false) (hv : (v.1 == 1) = true) : stl [a0, a1, a2, a3, a4, a5, a6, a7, a8] 2 v = [a0, a1, v, (9, 0), a4, a5, a6, a7, a8] := by
  have hv2 : v.1 = 1 := by simpa using hv
  obtain ⟨t, z⟩ := a1
  have h2 : ¬ t = 1 := by simpa using h
  unfold stl
  dsimp only
  rw [if_pos hv2]
  split
  · rename_i heq
    simp only [List.getElem?_cons_succ, List.getElem?_cons_zero, Option.some.injEq, Prod.mk.injEq] at heq
    exact absurd heq.1 h2
  · rfl
theorem stl_9_3 {a0 a1 a2 a3 a4 a5 a6 a7 a8 v : AV} (h : (a2.1 == 1) = false) (hv : (v.1 == 1) = false) : stl [a0, a1, a2, a3, a4, a5, a6, a7, a8] 3 v = [a0, a1, a2, v, a4, a5, a6, a7, a8] := by
  have hv2 : ¬ v.1 = 1 := by simpa using hv
  obtain ⟨t, z⟩ := a2
  have h2 : ¬ t = 1 := by simpa using h
  unfold stl
  dsimp only
  rw [if_neg hv2]
  split
  · rename_i heq
    simp only [List.getElem?_cons_succ, List.getElem?_cons_zero, Option.some.injEq, Prod.mk.injEq] at heq
    exact absurd heq.1 h2
  · rfl
theorem stw_9_3 {a0 a1 a2 a3 a4 a5 a6 a7 a8 v : AV} (h : (a2.1 == 1) = false) (hv : (v.1 == 1) = true) : stl [a0, a1, a2, a3, a4, a5, a6, a7, a8] 3 v = [a0, a1, a2, v, (9, 0), a5, a6, a7, a8] := by
  have hv2 : v.1 = 1 := by simpa using hv
  obtain ⟨t, z⟩ := a2
  have h2 : ¬ t = 1 := by simpa using h
  unfold stl
  dsimp only
  rw [if_pos hv2]
  split
  · rename_i heq
    simp only [List.getElem?_cons_succ, List.getElem?_cons_zero, Option.some.injEq, Prod.mk.injEq] at heq
    exact absurd heq.1 h2
  · rfl
theorem stl_9_4 {a0 a1 a2 a3 a4 a5 a6 a7 a8 v : AV} (h : (a3.1 == 1) = false) (hv : (v.1 == 1) = false) : stl [a0, a1, a2, a3, a4, a5, a6, a7, a8] 4 v = [a0, a1, a2, a3, v, a5, a6, a7, a8] := by
  have hv2 : ¬ v.1 = 1 := by simpa using hv
  obtain ⟨t, z⟩ := a3
  have h2 : ¬ t = 1 := by simpa using h
  unfold stl
  dsimp only
  rw [if_neg hv2]
  split
  · rename_i heq
    simp only [List.getElem?_cons_succ, List.getElem?_cons_zero, Option.some.injEq, Prod.mk.injEq] at heq
    exact absurd heq.1 h2
  · rfl
theorem stw_9_4 {a0 a1 a2 a3 a4 a5 a6 a7 a8 v : AV} (h : (a3.1 == 1) = false) (hv : (v.1 == 1) = true) : stl [a0, a1, a2, a3, a4, a5, a6, a7, a8] 4 v = [a0, a1, a2, a3, v, (9, 0), a6, a7, a8] := by
  have hv2 : v.1 = 1 := by simpa using hv
  obtain ⟨t, z⟩ := a3
  have h2 : ¬ t = 1 := by simpa using h
  unfold stl
  dsimp only
  rw [if_pos hv2]
  split
  · rename_i heq
    simp only [List.getElem?_cons_succ, List.getElem?_cons_zero, Option.some.injEq, Prod.mk.injEq] at heq
    exact absurd heq.1 h2
  · rfl
theorem stl_9_5 {a0 a1 a2 a3 a4 a5 a6 a7 a8 v : AV} (h : (a4.1 == 1) = false) (hv : (v.1 == 1) = false) : stl [a0, a1, a2, a3, a4, a5, a6, a7, a8] 5 v = [a0, a1, a2, a3, a4, v, a6, a7, a8] := by
  have hv2 : ¬ v.1 = 1 := by simpa using hv
  obtain ⟨t, z⟩ := a4
  have h2 : ¬ t = 1 := by simpa using h
  unfold stl
  dsimp only
  rw [if_neg hv2]
  split
  · rename_i heq
    simp only [List.getElem?_cons_succ, List.getElem?_cons_zero, Option.some.injEq, Prod.mk.injEq] at heq
    exact absurd heq.1 h2
  · rfl
theorem stw_9_5 {a0 a1 a2 a3 a4 a5 a6 a7 a8 v : AV} (h : (a4.1 == 1) = false) (hv : (v.1 == 1) = true) : stl [a0, a1, a2, a3, a4, a5, a6, a7, a8] 5 v = [a0, a1, a2, a3, a4, v, (9, 0), a7, a8] := by
  have hv2 : v.1 = 1 := by simpa using hv
  obtain ⟨t, z⟩ := a4
  have h2 : ¬ t = 1 := by simpa using h
  unfold stl
  dsimp only
  rw [if_pos hv2]
  split
  · rename_i heq
    simp only [List.getElem?_cons_succ, List.getElem?_cons_zero, Option.some.injEq, Prod.mk.injEq] at heq
    exact absurd heq.1 h2
  · rfl
theorem stl_9_6 {a0 a1 a2 a3 a4 a5 a6 a7 a8 v : AV} (h : (a5.1 == 1) = false) (hv : (v.1 == 1) = false) : stl [a0, a1, a2, a3, a4, a5, a6, a7, a8] 6 v = [a0, a1, a2, a3, a4, a5, v, a7, a8] := by
  have hv2 : ¬ v.1 = 1 := by simpa using hv
  obtain ⟨t, z⟩ := a5
  have h2 : ¬ t = 1 := by simpa using h
  unfold stl
  dsimp only
  rw [if_neg hv2]
  split
  · rename_i heq
    simp only [List.getElem?_cons_succ, List.getElem?_cons_zero, Option.some.injEq, Prod.mk.injEq] at heq
    exact absurd heq.1 h2
  · rfl
theorem stw_9_6 {a0 a1 a2 a3 a4 a5 a6 a7 a8 v : AV} (h : (a5.1 == 1) = false) (hv : (v.1 == 1) = true) : stl [a0, a1, a2, a3, a4, a5, a6, a7, a8] 6 v = [a0, a1, a2, a3, a4, a5, v, (9, 0), a8] := by
  have hv2 : v.1 = 1 := by simpa using hv
  obtain ⟨t, z⟩ := a5
  have h2 : ¬ t = 1 := by simpa using h
  unfold stl
  dsimp only
  rw [if_pos hv2]
  split
  · rename_i heq
    simp only [List.getElem?_cons_succ, List.getElem?_cons_zero, Option.some.injEq, Prod.mk.injEq] at heq
    exact absurd heq.1 h2
  · rfl
theorem stl_9_7 {a0 a1 a2 a3 a4 a5 a6 a7 a8 v : AV} (h : (a6.1 == 1) = false) (hv : (v.1 == 1) = false) : stl [a0, a1, a2, a3, a4, a5, a6, a7, a8] 7 v = [a0, a1, a2, a3, a4, a5, a6, v, a8] := by
  have hv2 : ¬ v.1 = 1 := by simpa using hv
  obtain ⟨t, z⟩ := a6
  have h2 : ¬ t = 1 := by simpa using h
  unfold stl
  dsimp only
  rw [if_neg hv2]
  split
  · rename_i heq
    simp only [List.getElem?_cons_succ, List.getElem?_cons_zero, Option.some.injEq, Prod.mk.injEq] at heq
    exact absurd heq.1 h2
  · rfl
theorem stw_9_7 {a0 a1 a2 a3 a4 a5 a6 a7 a8 v : AV} (h : (a6.1 == 1) = false) (hv : (v.1 == 1) = true) : stl [a0, a1, a2, a3, a4, a5, a6, a7, a8] 7 v = [a0, a1, a2, a3, a4, a5, a6, v, (9, 0)] := by
  have hv2 : v.1 = 1 := by simpa using hv
  obtain ⟨t, z⟩ := a6
  have h2 : ¬ t = 1 := by simpa using h
  unfold stl
  dsimp only
  rw [if_pos hv2]
  split
  · rename_i heq
    simp only [List.getElem?_cons_succ, List.getElem?_cons_zero, Option.some.injEq, Prod.mk.injEq] at heq
    exact absurd heq.1 h2
  · rfl
theorem stl_9_8 {a0 a1 a2 a3 a4 a5 a6 a7 a8 v : AV} (h : (a7.1 == 1) = false) (hv : (v.1 == 1) = false) : stl [a0, a1, a2, a3, a4, a5, a6, a7, a8] 8 v = [a0, a1, a2, a3, a4, a5, a6, a7, v] := by
  have hv2 : ¬ v.1 = 1 := by simpa using hv
  obtain ⟨t, z⟩ := a7
  have h2 : ¬ t = 1 := by simpa using h
  unfold stl
  dsimp only
  rw [if_neg hv2]
  split
  · rename_i heq
    simp only [List.getElem?_cons_succ, List.getElem?_cons_zero, Option.some.injEq, Prod.mk.injEq] at heq
    exact absurd heq.1 h2
  · rfl
theorem stl_10_0 {a0 a1 a2 a3 a4 a5 a6 a7 a8 a9 v : AV} (hv : (v.1 == 1) = false) : stl [a0, a1, a2, a3, a4, a5, a6, a7, a8, a9] 0 v = [v, a1, a2, a3, a4, a5, a6, a7, a8, a9] := by
  have hv2 : ¬ v.1 = 1 := by simpa using hv
  unfold stl
  dsimp only
  rw [if_neg hv2]
  rfl
theorem stw_10_0 {a0 a1 a2 a3 a4 a5 a6 a7 a8 a9 v : AV} (hv : (v.1 == 1) = true) : stl [a0, a1, a2, a3, a4, a5, a6, a7, a8, a9] 0 v = [v, (9, 0), a2, a3, a4, a5, a6, a7, a8, a9] := by
  have hv2 : v.1 = 1 := by simpa using hv
  unfold stl
  dsimp only
  rw [if_pos hv2]
  rfl
theorem stl_10_1 {a0 a1 a2 a3 a4 a5 a6 a7 a8 a9 v : AV} (h : (a0.1 == 1) = false) (hv : (v.1 == 1) = false) : stl [a0, a1, a2, a3, a4, a5, a6, a7, a8, a9] 1 v = [a0, v, a2, a3, a4, a5, a6, a7, a8, a9] := by
  have hv2 : ¬ v.1 = 1 := by simpa using hv
  obtain ⟨t, z⟩ := a0
  have h2 : ¬ t = 1 := by simpa using h
  unfold stl
  dsimp only
  rw [if_neg hv2]
  split
  · rename_i heq
    simp only [List.getElem?_cons_succ, List.getElem?_cons_zero, Option.some.injEq, Prod.mk.injEq] at heq
    exact absurd heq.1 h2
  · rfl
theorem stw_10_1 {a0 a1 a2 a3 a4 a5 a6 a7 a8 a9 v : AV} (h : (a0.1 == 1) = false) (hv : (v.1 == 1) = true) : stl [a0, a1, a2, a3, a4, a5, a6, a7, a8, a9] 1 v = [a0, v, (9, 0), a3, a4, a5, a6, a7, a8, a9] := by
  have hv2 : v.1 = 1 := by simpa using hv
  obtain ⟨t, z⟩ := a0
  have h2 : ¬ t = 1 := by simpa using h
  unfold stl
  dsimp only
  rw [if_pos hv2]
  split
  · rename_i heq
    simp only [List.getElem?_cons_succ, List.getElem?_cons_zero, Option.some.injEq, Prod.mk.injEq] at heq
    exact absurd heq.1 h2
  · rfl
theorem stl_10_2 {a0 a1 a2 a3 a4 a5 a6 a7 a8 a9 v : AV} (h : (a1.1 == 1) = false) (hv : (v.1 == 1) = false) : stl [a0, a1, a2, a3, a4, a5, a6, a7, a8, a9] 2 v = [a0, a1, v, a3, a4, a5, a6, a7, a8, a9] := by
  have hv2 : ¬ v.1 = 1 := by simpa using hv
  obtain ⟨t, z⟩ := a1
  have h2 : ¬ t = 1 := by simpa using h
  unfold stl
  dsimp only
  rw [if_neg hv2]
  split
  · rename_i heq
    simp only [List.getElem?_cons_succ, List.getElem?_cons_zero, Option.some.injEq, Prod.mk.injEq] at heq
    exact absurd heq.1 h2
  · rfl
theorem stw_10_2 {a0 a1 a2 a3 a4 a5 a6 a7 a8 a9 v : AV} (h : (a1.1 == 1) = false) (hv : (v.1 == 1) = true) : stl [a0, a1, a2, a3, a4, a5, a6, a7, a8, a9] 2 v = [a0, a1, v, (9, 0), a4, a5, a6, a7, a8, a9] := by
  have hv2 : v.1 = 1 := by simpa using hv
  obtain ⟨t, z⟩ := a1
  have h2 : ¬ t = 1 := by simpa using h
  unfold stl
  dsimp only
  rw [if_pos hv2]
  split
  · rename_i heq
    simp only [List.getElem?_cons_succ, List.getElem?_cons_zero, Option.some.injEq, Prod.mk.injEq] at heq
    exact absurd heq.1 h2
  · rfl
theorem stl_10_3 {a0 a1 a2 a3 a4 a5 a6 a7 a8 a9 v : AV} (h : (a2.1 == 1) = false) (hv : (v.1 == 1) = false) : stl [a0, a1, a2, a3, a4, a5, a6, a7, a8, a9] 3 v = [a0, a1, a2, v, a4, a5, a6, a7, a8, a9] := by
  have hv2 : ¬ v.1 = 1 := by simpa using hv
  obtain ⟨t, z⟩ := a2
  have h2 : ¬ t = 1 := by simpa using h
  unfold stl
  dsimp only
  rw [if_neg hv2]
  split
  · rename_i heq
    simp only [List.getElem?_cons_succ, List.getElem?_cons_zero, Option.some.injEq, Prod.mk.injEq] at heq
    exact absurd heq.1 h2
  · rfl
theorem stw_10_3 {a0 a1 a2 a3 a4 a5 a6 a7 a8 a9 v : AV} (h : (a2.1 == 1) = false) (hv : (v.1 == 1) = true) : stl [a0, a1, a2, a3, a4, a5, a6, a7, a8, a9] 3 v = [a0, a1, a2, v, (9, 0), a5, a6, a7, a8, a9] := by
  have hv2 : v.1 = 1 := by simpa using hv
  obtain ⟨t, z⟩ := a2
  have h2 : ¬ t = 1 := by simpa using h
  unfold stl
  dsimp only
  rw [if_pos hv2]
  split
  · rename_i heq
    simp only [List.getElem?_cons_succ, List.getElem?_cons_zero, Option.some.injEq, Prod.mk.injEq] at heq
    exact absurd heq.1 h2
  · rfl
theorem stl_10_4 {a0 a1 a2 a3 a4 a5 a6 a7 a8 a9 v : AV} (h : (a3.1 == 1) = false) (hv : (v.1 == 1) = false) : stl [a0, a1, a2, a3, a4, a5, a6, a7, a8, a9] 4 v = [a0, a1, a2, a3, v, a5, a6, a7, a8, a9] := by
  have hv2 : ¬ v.1 = 1 := by simpa using hv
  obtain ⟨t, z⟩ := a3
  have h2 : ¬ t = 1 := by simpa using h
  unfold stl
  dsimp only
  rw [if_neg hv2]
  split
  · rename_i heq
    simp only [List.getElem?_cons_succ, List.getElem?_cons_zero, Option.some.injEq, Prod.mk.injEq] at heq
    exact absurd heq.1 h2
  · rfl
theorem stw_10_4 {a0 a1 a2 a3 a4 a5 a6 a7 a8 a9 v : AV} (h : (a3.1 == 1) = false) (hv : (v.1 == 1) = true) : stl [a0, a1, a2, a3, a4, a5, a6, a7, a8, a9] 4 v = [a0, a1, a2, a3, v, (9, 0), a6, a7, a8, a9] := by
  have hv2 : v.1 = 1 := by simpa using hv
  obtain ⟨t, z⟩ := a3
  have h2 : ¬ t = 1 := by simpa using h
  unfold stl
  dsimp only
  rw [if_pos hv2]
  split
  · rename_i heq
    simp only [List.getElem?_cons_succ, List.getElem?_cons_zero, Option.some.injEq, Prod.mk.injEq] at heq
    exact absurd heq.1 h2
  · rfl
theorem stl_10_5 {a0 a1 a2 a3 a4 a5 a6 a7 a8 a9 v : AV} (h : (a4.1 == 1) = false) (hv : (v.1 == 1) = false) : stl [a0, a1, a2, a3, a4, a5, a6, a7, a8, a9] 5 v = [a0, a1, a2, a3, a4, v, a6, a7, a8, a9] := by
  have hv2 : ¬ v.1 = 1 := by simpa using hv
  obtain ⟨t, z⟩ := a4
  have h2 : ¬ t = 1 := by simpa using h
  unfold stl
  dsimp only
  rw [if_neg hv2]
  split
  · rename_i heq
    simp only [List.getElem?_cons_succ, List.getElem?_cons_zero, Option.some.injEq, Prod.mk.injEq] at heq
    exact absurd heq.1 h2
  · rfl
theorem stw_10_5 {a0 a1 a2 a3 a4 a5 a6 a7 a8 a9 v : AV} (h : (a4.1 == 1) = false) (hv : (v.1 == 1) = true) : stl [a0, a1, a2, a3, a4, a5, a6, a7, a8, a9] 5 v = [a0, a1, a2, a3, a4, v, (9, 0), a7, a8, a9] := by
  have hv2 : v.1 = 1 := by simpa using hv
  obtain ⟨t, z⟩ := a4
  have h2 : ¬ t = 1 := by simpa using h
  unfold stl
  dsimp only
  rw [if_pos hv2]
  split
  · rename_i heq
    simp only [List.getElem?_cons_succ, List.getElem?_cons_zero, Option.some.injEq, Prod.mk.injEq] at heq
    exact absurd heq.1 h2
  · rfl
theorem stl_10_6 {a0 a1 a2 a3 a4 a5 a6 a7 a8 a9 v : AV} (h : (a5.1 == 1) = false) (hv : (v.1 == 1) = false) : stl [a0, a1, a2, a3, a4, a5, a6, a7, a8, a9] 6 v = [a0, a1, a2, a3, a4, a5, v, a7, a8, a9] := by
  have hv2 : ¬ v.1 = 1 := by simpa using hv
  obtain ⟨t, z⟩ := a5
  have h2 : ¬ t = 1 := by simpa using h
  unfold stl
  dsimp only
  rw [if_neg hv2]
  split
  · rename_i heq
    simp only [List.getElem?_cons_succ, List.getElem?_cons_zero, Option.some.injEq, Prod.mk.injEq] at heq
    exact absurd heq.1 h2
  · rfl
theorem stw_10_6 {a0 a1 a2 a3 a4 a5 a6 a7 a8 a9 v : AV} (h : (a5.1 == 1) = false) (hv : (v.1 == 1) = true) : stl [a0, a1, a2, a3, a4, a5, a6, a7, a8, a9] 6 v = [a0, a1, a2, a3, a4, a5, v, (9, 0), a8, a9] := by
  have hv2 : v.1 = 1 := by simpa using hv
  obtain ⟨t, z⟩ := a5
  have h2 : ¬ t = 1 := by simpa using h
  unfold stl
  dsimp only
  rw [if_pos hv2]
  split
  · rename_i heq
    simp only [List.getElem?_cons_succ, List.getElem?_cons_zero, Option.some.injEq, Prod.mk.injEq] at heq
    exact absurd heq.1 h2
  · rfl
theorem stl_10_7 {a0 a1 a2 a3 a4 a5 a6 a7 a8 a9 v : AV} (h : (a6.1 == 1) = false) (hv : (v.1 == 1) = false) : stl [a0, a1, a2, a3, a4, a5, a6, a7, a8, a9] 7 v = [a0, a1, a2, a3, a4, a5, a6, v, a8, a9] := by
  have hv2 : ¬ v.1 = 1 := by simpa using hv
  obtain ⟨t, z⟩ := a6
  have h2 : ¬ t = 1 := by simpa using h
  unfold stl
  dsimp only
  rw [if_neg hv2]
  split
  · rename_i heq
    simp only [List.getElem?_cons_succ, List.getElem?_cons_zero, Option.some.injEq, Prod.mk.injEq] at heq
    exact absurd heq.1 h2
  · rfl
theorem stw_10_7 {a0 a1 a2 a3 a4 a5 a6 a7 a8 a9 v : AV} (h : (a6.1 == 1) = false) (hv : (v.1 == 1) = true) : stl [a0, a1, a2, a3, a4, a5, a6, a7, a8, a9] 7 v = [a0, a1, a2, a3, a4, a5, a6, v, (9, 0), a9] := by
  have hv2 : v.1 = 1 := by simpa using hv
  obtain ⟨t, z⟩ := a6
  have h2 : ¬ t = 1 := by simpa using h
  unfold stl
  dsimp only
  rw [if_pos hv2]
  split
  · rename_i heq
    simp only [List.getElem?_cons_succ, List.getElem?_cons_zero, Option.some.injEq, Prod.mk.injEq] at heq
    exact absurd heq.1 h2
  · rfl
theorem stl_10_8 {a0 a1 a2 a3 a4 a5 a6 a7 a8 a9 v : AV} (h : (a7.1 == 1) = false) (hv : (v.1 == 1) = false) : stl [a0, a1, a2, a3, a4, a5, a6, a7, a8, a9] 8 v = [a0, a1, a2, a3, a4, a5, a6, a7, v, a9] := by
  have hv2 : ¬ v.1 = 1 := by simpa using hv
  obtain ⟨t, z⟩ := a7
  have h2 : ¬ t = 1 := by simpa using h
  unfold stl
  dsimp only
  rw [if_neg hv2]
  split
  · rename_i heq
    simp only [List.getElem?_cons_succ, List.getElem?_cons_zero, Option.some.injEq, Prod.mk.injEq] at heq
    exact absurd heq.1 h2
  · rfl
theorem stw_10_8 {a0 a1 a2 a3 a4 a5 a6 a7 a8 a9 v : AV} (h : (a7.1 == 1) = false) (hv : (v.1 == 1) = true) : stl [a0, a1, a2, a3, a4, a5, a6, a7, a8, a9] 8 v = [a0, a1, a2, a3, a4, a5, a6, a7, v, (9, 0)] := by
  have hv2 : v.1 = 1 := by simpa using hv
  obtain ⟨t, z⟩ := a7
  have h2 : ¬ t = 1 := by simpa using h
  unfold stl
  dsimp only
  rw [if_pos hv2]
  split
  · rename_i heq
    simp only [List.getElem?_cons_succ, List.getElem?_cons_zero, Option.some.injEq, Prod.mk.injEq] at heq
    exact absurd heq.1 h2
  · rfl
theorem stl_10_9 {a0 a1 a2 a3 a4 a5 a6 a7 a8 a9 v : AV} (h : (a8.1 == 1) = false) (hv : (v.1 == 1) = false) : stl [a0, a1, a2, a3, a4, a5, a6, a7, a8, a9] 9 v = [a0, a1, a2, a3, a4, a5, a6, a7, a8, v] := by
  have hv2 : ¬ v.1 = 1 := by simpa using hv
  obtain ⟨t, z⟩ := a8
  have h2 : ¬ t = 1 := by simpa using h
  unfold stl
  dsimp only
  rw [if_neg hv2]
  split
  · rename_i heq
    simp only [List.getElem?_cons_succ, List.getElem?_cons_zero, Option.some.injEq, Prod.mk.injEq] at heq
    exact absurd heq.1 h2
  · rfl
theorem stl_11_0 {a0 a1 a2 a3 a4 a5 a6 a7 a8 a9 a10 v : AV} (hv : (v.1 == 1) = false) : stl [a0, a1, a2, a3, a4, a5, a6, a7, a8, a9, a10] 0 v = [v, a1, a2, a3, a4, a5, a6, a7, a8, a9, a10] := by
  have hv2 : ¬ v.1 = 1 := by simpa using hv
  unfold stl
  dsimp only
  rw [if_neg hv2]
  rfl
theorem stw_11_0 {a0 a1 a2 a3 a4 a5 a6 a7 a8 a9 a10 v : AV} (hv : (v.1 == 1) = true) : stl [a0, a1, a2, a3, a4, a5, a6, a7, a8, a9, a10] 0 v = [v, (9, 0), a2, a3, a4, a5, a6, a7, a8, a9, a10] := by
  have hv2 : v.1 = 1 := by simpa using hv
  unfold stl
  dsimp only
  rw [if_pos hv2]
  rfl
theorem stl_11_1 {a0 a1 a2 a3 a4 a5 a6 a7 a8 a9 a10 v : AV} (h : (a0.1 == 1) = false) (hv : (v.1 == 1) = false) : stl [a0, a1, a2, a3, a4, a5, a6, a7, a8, a9, a10] 1 v = [a0, v, a2, a3, a4, a5, a6, a7, a8, a9, a10] := by
  have hv2 : ¬ v.1 = 1 := by simpa using hv
  obtain ⟨t, z⟩ := a0
  have h2 : ¬ t = 1 := by simpa using h
  unfold stl
  dsimp only
  rw [if_neg hv2]
  split
  · rename_i heq
    simp only [List.getElem?_cons_succ, List.getElem?_cons_zero, Option.some.injEq, Prod.mk.injEq] at heq
    exact absurd heq.1 h2
  · rfl
theorem stw_11_1 {a0 a1 a2 a3 a4 a5 a6 a7 a8 a9 a10 v : AV} (h : (a0.1 == 1) = false) (hv : (v.1 == 1) = true) : stl [a0, a1, a2, a3, a4, a5, a6, a7, a8, a9, a10] 1 v = [a0, v, (9, 0), a3, a4, a5, a6, a7, a8, a9, a10] := by
  have hv2 : v.1 = 1 := by simpa using hv
  obtain ⟨t, z⟩ := a0
  have h2 : ¬ t = 1 := by simpa using h
  unfold stl
  dsimp only
  rw [if_pos hv2]
  split
  · rename_i heq
    simp only [List.getElem?_cons_succ, List.getElem?_cons_zero, Option.some.injEq, Prod.mk.injEq] at heq
    exact absurd heq.1 h2
  · rfl
theorem stl_11_2 {a0 a1 a2 a3 a4 a5 a6 a7 a8 a9 a10 v : AV} (h : (a1.1 == 1) = false) (hv : (v.1 == 1) = false) : stl [a0, a1, a2, a3, a4, a5, a6, a7, a8, a9, a10] 2 v = [a0, a1, v, a3, a4, a5, a6, a7, a8, a9, a10] := by
  have hv2 : ¬ v.1 = 1 := by simpa using hv
  obtain ⟨t, z⟩ := a1
  have h2 : ¬ t = 1 := by simpa using h
  unfold stl
  dsimp only
  rw [if_neg hv2]
  split
  · rename_i heq
    simp only [List.getElem?_cons_succ, List.getElem?_cons_zero, Option.some.injEq, Prod.mk.injEq] at heq
    exact absurd heq.1 h2
  · rfl
theorem stw_11_2 {a0 a1 a2 a3 a4 a5 a6 a7 a8 a9 a10 v : AV} (h : (a1.1 == 1) = false) (hv : (v.1 == 1) = true) : stl [a0, a1, a2, a3, a4, a5, a6, a7, a8, a9, a10] 2 v = [a0, a1, v, (9, 0), a4, a5, a6, a7, a8, a9, a10] := by
  have hv2 : v.1 = 1 := by simpa using hv
  obtain ⟨t, z⟩ := a1
  have h2 : ¬ t = 1 := by simpa using h
  unfold stl
  dsimp only
  rw [if_pos hv2]
  split
  · rename_i heq
    simp only [List.getElem?_cons_succ, List.getElem?_cons_zero, Option.some.injEq, Prod.mk.injEq] at heq
    exact absurd heq.1 h2
  · rfl
theorem stl_11_3 {a0 a1 a2 a3 a4 a5 a6 a7 a8 a9 a10 v : AV} (h : (a2.1 == 1) = false) (hv : (v.1 == 1) = false) : stl [a0, a1, a2, a3, a4, a5, a6, a7, a8, a9, a10] 3 v = [a0, a1, a2, v, a4, a5, a6, a7, a8, a9, a10] := by
  have hv2 : ¬ v.1 = 1 := by simpa using hv
  obtain ⟨t, z⟩ := a2
  have h2 : ¬ t = 1 := by simpa using h
  unfold stl
  dsimp only
  rw [if_neg hv2]
  split
  · rename_i heq
    simp only [List.getElem?_cons_succ, List.getElem?_cons_zero, Option.some.injEq, Prod.mk.injEq] at heq
    exact absurd heq.1 h2
  · rfl
theorem stw_11_3 {a0 a1 a2 a3 a4 a5 a6 a7 a8 a9 a10 v : AV} (h : (a2.1 == 1) = false) (hv : (v.1 == 1) = true) : stl [a0, a1, a2, a3, a4, a5, a6, a7, a8, a9, a10] 3 v = [a0, a1, a2, v, (9, 0), a5, a6, a7, a8, a9, a10] := by
  have hv2 : v.1 = 1 := by simpa using hv
  obtain ⟨t, z⟩ := a2
  have h2 : ¬ t = 1 := by simpa using h
  unfold stl
  dsimp only
  rw [if_pos hv2]
  split
  · rename_i heq
    simp only [List.getElem?_cons_succ, List.getElem?_cons_zero, Option.some.injEq, Prod.mk.injEq] at heq
    exact absurd heq.1 h2
  · rfl
theorem stl_11_4 {a0 a1 a2 a3 a4 a5 a6 a7 a8 a9 a10 v : AV} (h : (a3.1 == 1) = false) (hv : (v.1 == 1) = false) : stl [a0, a1, a2, a3, a4, a5, a6, a7, a8, a9, a10] 4 v = [a0, a1, a2, a3, v, a5, a6, a7, a8, a9, a10] := by
  have hv2 : ¬ v.1 = 1 := by simpa using hv
  obtain ⟨t, z⟩ := a3
  have h2 : ¬ t = 1 := by simpa using h
  unfold stl
  dsimp only
  rw [if_neg hv2]
  split
  · rename_i heq
    simp only [List.getElem?_cons_succ, List.getElem?_cons_zero, Option.some.injEq, Prod.mk.injEq] at heq
    exact absurd heq.1 h2
  · rfl
theorem stw_11_4 {a0 a1 a2 a3 a4 a5 a6 a7 a8 a9 a10 v : AV} (h : (a3.1 == 1) = false) (hv : (v.1 == 1) = true) : stl [a0, a1, a2, a3, a4, a5, a6, a7, a8, a9, a10] 4 v = [a0, a1, a2, a3, v, (9, 0), a6, a7, a8, a9, a10] := by
  have hv2 : v.1 = 1 := by simpa using hv
  obtain ⟨t, z⟩ := a3
  have h2 : ¬ t = 1 := by simpa using h
  unfold stl
  dsimp only
  rw [if_pos hv2]
  split
  · rename_i heq
    simp only [List.getElem?_cons_succ, List.getElem?_cons_zero, Option.some.injEq, Prod.mk.injEq] at heq
    exact absurd heq.1 h2
  · rfl
theorem stl_11_5 {a0 a1 a2 a3 a4 a5 a6 a7 a8 a9 a10 v : AV} (h : (a4.1 == 1) = false) (hv : (v.1 == 1) = false) : stl [a0, a1, a2, a3, a4, a5, a6, a7, a8, a9, a10] 5 v = [a0, a1, a2, a3, a4, v, a6, a7, a8, a9, a10] := by
  have hv2 : ¬ v.1 = 1 := by simpa using hv
  obtain ⟨t, z⟩ := a4
  have h2 : ¬ t = 1 := by simpa using h
  unfold stl
  dsimp only
  rw [if_neg hv2]
  split
  · rename_i heq
    simp only [List.getElem?_cons_succ, List.getElem?_cons_zero, Option.some.injEq, Prod.mk.injEq] at heq
    exact absurd heq.1 h2
  · rfl
theorem stw_11_5 {a0 a1 a2 a3 a4 a5 a6 a7 a8 a9 a10 v : AV} (h : (a4.1 == 1) = false) (hv : (v.1 == 1) = true) : stl [a0, a1, a2, a3, a4, a5, a6, a7, a8, a9, a10] 5 v = [a0, a1, a2, a3, a4, v, (9, 0), a7, a8, a9, a10] := by
  have hv2 : v.1 = 1 := by simpa using hv
  obtain ⟨t, z⟩ := a4
  have h2 : ¬ t = 1 := by simpa using h
  unfold stl
  dsimp only
  rw [if_pos hv2]
  split
  · rename_i heq
    simp only [List.getElem?_cons_succ, List.getElem?_cons_zero, Option.some.injEq, Prod.mk.injEq] at heq
    exact absurd heq.1 h2
  · rfl
theorem stl_11_6 {a0 a1 a2 a3 a4 a5 a6 a7 a8 a9 a10 v : AV} (h : (a5.1 == 1) = false) (hv : (v.1 == 1) = false) : stl [a0, a1, a2, a3, a4, a5, a6, a7, a8, a9, a10] 6 v = [a0, a1, a2, a3, a4, a5, v, a7, a8, a9, a10] := by
  have hv2 : ¬ v.1 = 1 := by simpa using hv
  obtain ⟨t, z⟩ := a5
  have h2 : ¬ t = 1 := by simpa using h
  unfold stl
  dsimp only
  rw [if_neg hv2]
  split
  · rename_i heq
    simp only [List.getElem?_cons_succ, List.getElem?_cons_zero, Option.some.injEq, Prod.mk.injEq] at heq
    exact absurd heq.1 h2
  · rfl
theorem stw_11_6 {a0 a1 a2 a3 a4 a5 a6 a7 a8 a9 a10 v : AV} (h : (a5.1 == 1) = false) (hv : (v.1 == 1) = true) : stl [a0, a1, a2, a3, a4, a5, a6, a7, a8, a9, a10] 6 v = [a0, a1, a2, a3, a4, a5, v, (9, 0), a8, a9, a10] := by
  have hv2 : v.1 = 1 := by simpa using hv
  obtain ⟨t, z⟩ := a5
  have h2 : ¬ t = 1 := by simpa using h
  unfold stl
  dsimp only
  rw [if_pos hv2]
  split
  · rename_i heq
    simp only [List.getElem?_cons_succ, List.getElem?_cons_zero, Option.some.injEq, Prod.mk.injEq] at heq
    exact absurd heq.1 h2
  · rfl
theorem stl_11_7 {a0 a1 a2 a3 a4 a5 a6 a7 a8 a9 a10 v : AV} (h : (a6.1 == 1) = false) (hv : (v.1 == 1) = false) : stl [a0, a1, a2, a3, a4, a5, a6, a7, a8, a9, a10] 7 v = [a0, a1, a2, a3, a4, a5, a6, v, a8, a9, a10] := by
  have hv2 : ¬ v.1 = 1 := by simpa using hv
  obtain ⟨t, z⟩ := a6
  have h2 : ¬ t = 1 := by simpa using h
  unfold stl
  dsimp only
  rw [if_neg hv2]
  split
  · rename_i heq
    simp only [List.getElem?_cons_succ, List.getElem?_cons_zero, Option.some.injEq, Prod.mk.injEq] at heq
    exact absurd heq.1 h2
  · rfl
theorem stw_11_7 {a0 a1 a2 a3 a4 a5 a6 a7 a8 a9 a10 v : AV} (h : (a6.1 == 1) = false) (hv : (v.1 == 1) = true) : stl [a0, a1, a2, a3, a4, a5, a6, a7, a8, a9, a10] 7 v = [a0, a1, a2, a3, a4, a5, a6, v, (9, 0), a9, a10] := by
  have hv2 : v.1 = 1 := by simpa using hv
  obtain ⟨t, z⟩ := a6
  have h2 : ¬ t = 1 := by simpa using h
  unfold stl
  dsimp only
  rw [if_pos hv2]
  split
  · rename_i heq
    simp only [List.getElem?_cons_succ, List.getElem?_cons_zero, Option.some.injEq, Prod.mk.injEq] at heq
    exact absurd heq.1 h2
  · rfl
theorem stl_11_8 {a0 a1 a2 a3 a4 a5 a6 a7 a8 a9 a10 v : AV} (h : (a7.1 == 1) = false) (hv : (v.1 == 1) = false) : stl [a0, a1, a2, a3, a4, a5, a6, a7, a8, a9, a10] 8 v = [a0, a1, a2, a3, a4, a5, a6, a7, v, a9, a10] := by
  have hv2 : ¬ v.1 = 1 := by simpa using hv
  obtain ⟨t, z⟩ := a7
  have h2 : ¬ t = 1 := by simpa using h
  unfold stl
  dsimp only
  rw [if_neg hv2]
  split
  · rename_i heq
    simp only [List.getElem?_cons_succ, List.getElem?_cons_zero, Option.some.injEq, Prod.mk.injEq] at heq
    exact absurd heq.1 h2
  · rfl
theorem stw_11_8 {a0 a1 a2 a3 a4 a5 a6 a7 a8 a9 a10 v : AV} (h : (a7.1 == 1) = false) (hv : (v.1 == 1) = true) : stl [a0, a1, a2, a3, a4, a5, a6, a7, a8, a9, a10] 8 v = [a0, a1, a2, a3, a4, a5, a6, a7, v, (9, 0), a10] := by
  have hv2 : v.1 = 1 := by simpa using hv
  obtain ⟨t, z⟩ := a7
  have h2 : ¬ t = 1 := by simpa using h
  unfold stl
  dsimp only
  rw [if_pos hv2]
  split
  · rename_i heq
    simp only [List.getElem?_cons_succ, List.getElem?_cons_zero, Option.some.injEq, Prod.mk.injEq] at heq
    exact absurd heq.1 h2
  · rfl
theorem stl_11_9 {a0 a1 a2 a3 a4 a5 a6 a7 a8 a9 a10 v : AV} (h : (a8.1 == 1) = false) (hv : (v.1 == 1) = false) : stl [a0, a1, a2, a3, a4, a5, a6, a7, a8, a9, a10] 9 v = [a0, a1, a2, a3, a4, a5, a6, a7, a8, v, a10] := by
  have hv2 : ¬ v.1 = 1 := by simpa using hv
  obtain ⟨t, z⟩ := a8
  have h2 : ¬ t = 1 := by simpa using h
  unfold stl
  dsimp only
  rw [if_neg hv2]
  split
  · rename_i heq
    simp only [List.getElem?_cons_succ, List.getElem?_cons_zero, Option.some.injEq, Prod.mk.injEq] at heq
    exact absurd heq.1 h2
  · rfl
theorem stw_11_9 {a0 a1 a2 a3 a4 a5 a6 a7 a8 a9 a10 v : AV} (h : (a8.1 == 1) = false) (hv : (v.1 == 1) = true) : stl [a0, a1, a2, a3, a4, a5, a6, a7, a8, a9, a10] 9 v = [a0, a1, a2, a3, a4, a5, a6, a7, a8, v, (9, 0)] := by
  have hv2 : v.1 = 1 := by simpa using hv
  obtain ⟨t, z⟩ := a8
  have h2 : ¬ t = 1 := by simpa using h
  unfold stl
  dsimp only
  rw [if_pos hv2]
  split
  · rename_i heq
    simp only [List.getElem?_cons_succ, List.getElem?_cons_zero, Option.some.injEq, Prod.mk.injEq] at heq
    exact absurd heq.1 h2
  · rfl
theorem stl_11_10 {a0 a1 a2 a3 a4 a5 a6 a7 a8 a9 a10 v : AV} (h : (a9.1 == 1) = false) (hv : (v.1 == 1) = false) : stl [a0, a1, a2, a3, a4, a5, a6, a7, a8, a9, a10] 10 v = [a0, a1, a2, a3, a4, a5, a6, a7, a8, a9, v] := by
  have hv2 : ¬ v.1 = 1 := by simpa using hv
  obtain ⟨t, z⟩ := a9
  have h2 : ¬ t = 1 := by simpa using h
  unfold stl
  dsimp only
  rw [if_neg hv2]
  split
  · rename_i heq
    simp only [List.getElem?_cons_succ, List.getElem?_cons_zero, Option.some.injEq, Prod.mk.injEq] at heq
    exact absurd heq.1 h2
  · rfl
theorem stl_12_0 {a0 a1 a2 a3 a4 a5 a6 a7 a8 a9 a10 a11 v : AV} (hv : (v.1 == 1) = false) : stl [a0, a1, a2, a3, a4, a5, a6, a7, a8, a9, a10, a11] 0 v = [v, a1, a2, a3, a4, a5, a6, a7, a8, a9, a10, a11] := by
  have hv2 : ¬ v.1 = 1 := by simpa using hv
  unfold stl
  dsimp only
  rw [if_neg hv2]
  rfl
theorem stw_12_0 {a0 a1 a2 a3 a4 a5 a6 a7 a8 a9 a10 a11 v : AV} (hv : (v.1 == 1) = true) : stl [a0, a1, a2, a3, a4, a5, a6, a7, a8, a9, a10, a11] 0 v = [v, (9, 0), a2, a3, a4, a5, a6, a7, a8, a9, a10, a11] := by
  have hv2 : v.1 = 1 := by simpa using hv
  unfold stl
  dsimp only
  rw [if_pos hv2]
  rfl
theorem stl_12_1 {a0 a1 a2 a3 a4 a5 a6 a7 a8 a9 a10 a11 v : AV} (h : (a0.1 == 1) = false) (hv : (v.1 == 1) = false) : stl [a0, a1, a2, a3, a4, a5, a6, a7, a8, a9, a10, a11] 1 v = [a0, v, a2, a3, a4, a5, a6, a7, a8, a9, a10, a11] := by
  have hv2 : ¬ v.1 = 1 := by simpa using hv
  obtain ⟨t, z⟩ := a0
  have h2 : ¬ t = 1 := by simpa using h
  unfold stl
  dsimp only
  rw [if_neg hv2]
  split
  · rename_i heq
    simp only [List.getElem?_cons_succ, List.getElem?_cons_zero, Option.some.injEq, Prod.mk.injEq] at heq
    exact absurd heq.1 h2
  · rfl
theorem stw_12_1 {a0 a1 a2 a3 a4 a5 a6 a7 a8 a9 a10 a11 v : AV} (h : (a0.1 == 1) = false) (hv : (v.1 == 1) = true) : stl [a0, a1, a2, a3, a4, a5, a6, a7, a8, a9, a10, a11] 1 v = [a0, v, (9, 0), a3, a4, a5, a6, a7, a8, a9, a10, a11] := by
  have hv2 : v.1 = 1 := by simpa using hv
  obtain ⟨t, z⟩ := a0
  have h2 : ¬ t = 1 := by simpa using h
  unfold stl
  dsimp only
  rw [if_pos hv2]
  split
  · rename_i heq
    simp only [List.getElem?_cons_succ, List.getElem?_cons_zero, Option.some.injEq, Prod.mk.injEq] at heq
    exact absurd heq.1 h2
  · rfl
theorem stl_12_2 {a0 a1 a2 a3 a4 a5 a6 a7 a8 a9 a10 a11 v : AV} (h : (a1.1 == 1) = false) (hv : (v.1 == 1) = false) : stl [a0, a1, a2, a3, a4, a5, a6, a7, a8, a9, a10, a11] 2 v = [a0, a1, v, a3, a4, a5, a6, a7, a8, a9, a10, a11] := by
  have hv2 : ¬ v.1 = 1 := by simpa using hv
  obtain ⟨t, z⟩ := a1
  have h2 : ¬ t = 1 := by simpa using h
  unfold stl
  dsimp only
  rw [if_neg hv2]
  split
  · rename_i heq
    simp only [List.getElem?_cons_succ, List.getElem?_cons_zero, Option.some.injEq, Prod.mk.injEq] at heq
    exact absurd heq.1 h2
  · rfl
theorem stw_12_2 {a0 a1 a2 a3 a4 a5 a6 a7 a8 a9 a10 a11 v : AV} (h : (a1.1 == 1) = false) (hv : (v.1 == 1) = true) : stl [a0, a1, a2, a3, a4, a5, a6, a7, a8, a9, a10, a11] 2 v = [a0, a1, v, (9, 0), a4, a5, a6, a7, a8, a9, a10, a11] := by
  have hv2 : v.1 = 1 := by simpa using hv
  obtain ⟨t, z⟩ := a1
  have h2 : ¬ t = 1 := by simpa using h
  unfold stl
  dsimp only
  rw [if_pos hv2]
  split
  · rename_i heq
    simp only [List.getElem?_cons_succ, List.getElem?_cons_zero, Option.some.injEq, Prod.mk.injEq] at heq
    exact absurd heq.1 h2
  · rfl
theorem stl_12_3 {a0 a1 a2 a3 a4 a5 a6 a7 a8 a9 a10 a11 v : AV} (h : (a2.1 == 1) = false) (hv : (v.1 == 1) = false) : stl [a0, a1, a2, a3, a4, a5, a6, a7, a8, a9, a10, a11] 3 v = [a0, a1, a2, v, a4, a5, a6, a7, a8, a9, a10, a11] := by
  have hv2 : ¬ v.1 = 1 := by simpa using hv
  obtain ⟨t, z⟩ := a2
  have h2 : ¬ t = 1 := by simpa using h
  unfold stl
  dsimp only
  rw [if_neg hv2]
  split
  · rename_i heq
    simp only [List.getElem?_cons_succ, List.getElem?_cons_zero, Option.some.injEq, Prod.mk.injEq] at heq
    exact absurd heq.1 h2
  · rfl
theorem stw_12_3 {a0 a1 a2 a3 a4 a5 a6 a7 a8 a9 a10 a11 v : AV} (h : (a2.1 == 1) = false) (hv : (v.1 == 1) = true) : stl [a0, a1, a2, a3, a4, a5, a6, a7, a8, a9, a10, a11] 3 v = [a0, a1, a2, v, (9, 0), a5, a6, a7, a8, a9, a10, a11] := by
  have hv2 : v.1 = 1 := by simpa using hv
  obtain ⟨t, z⟩ := a2
  have h2 : ¬ t = 1 := by simpa using h
  unfold stl
  dsimp only
  rw [if_pos hv2]
  split
  · rename_i heq
    simp only [List.getElem?_cons_succ, List.getElem?_cons_zero, Option.some.injEq, Prod.mk.injEq] at heq
    exact absurd heq.1 h2
  · rfl
theorem stl_12_4 {a0 a1 a2 a3 a4 a5 a6 a7 a8 a9 a10 a11 v : AV} (h : (a3.1 == 1) = false) (hv : (v.1 == 1) = false) : stl [a0, a1, a2, a3, a4, a5, a6, a7, a8, a9, a10, a11] 4 v = [a0, a1, a2, a3, v, a5, a6, a7, a8, a9, a10, a11] := by
  have hv2 : ¬ v.1 = 1 := by simpa using hv
  obtain ⟨t, z⟩ := a3
  have h2 : ¬ t = 1 := by simpa using h
  unfold stl
  dsimp only
  rw [if_neg hv2]
  split
  · rename_i heq
    simp only [List.getElem?_cons_succ, List.getElem?_cons_zero, Option.some.injEq, Prod.mk.injEq] at heq
    exact absurd heq.1 h2
  · rfl
theorem stw_12_4 {a0 a1 a2 a3 a4 a5 a6 a7 a8 a9 a10 a11 v : AV} (h : (a3.1 == 1) = false) (hv : (v.1 == 1) = true) : stl [a0, a1, a2, a3, a4, a5, a6, a7, a8, a9, a10, a11] 4 v = [a0, a1, a2, a3, v, (9, 0), a6, a7, a8, a9, a10, a11] := by
  have hv2 : v.1 = 1 := by simpa using hv
  obtain ⟨t, z⟩ := a3
  have h2 : ¬ t = 1 := by simpa using h
  unfold stl
  dsimp only
  rw [if_pos hv2]
  split
  · rename_i heq
    simp only [List.getElem?_cons_succ, List.getElem?_cons_zero, Option.some.injEq, Prod.mk.injEq] at heq
    exact absurd heq.1 h2
  · rfl
theorem stl_12_5 {a0 a1 a2 a3 a4 a5 a6 a7 a8 a9 a10 a11 v : AV} (h : (a4.1 == 1) = false) (hv : (v.1 == 1) = false) : stl [a0, a1, a2, a3, a4, a5, a6, a7, a8, a9, a10, a11] 5 v = [a0, a1, a2, a3, a4, v, a6, a7, a8, a9, a10, a11] := by
  have hv2 : ¬ v.1 = 1 := by simpa using hv
  obtain ⟨t, z⟩ := a4
  have h2 : ¬ t = 1 := by simpa using h
  unfold stl
  dsimp only
  rw [if_neg hv2]
  split
  · rename_i heq
    simp only [List.getElem?_cons_succ, List.getElem?_cons_zero, Option.some.injEq, Prod.mk.injEq] at heq
    exact absurd heq.1 h2
  · rfl
theorem stw_12_5 {a0 a1 a2 a3 a4 a5 a6 a7 a8 a9 a10 a11 v : AV} (h : (a4.1 == 1) = false) (hv : (v.1 == 1) = true) : stl [a0, a1, a2, a3, a4, a5, a6, a7, a8, a9, a10, a11] 5 v = [a0, a1, a2, a3, a4, v, (9, 0), a7, a8, a9, a10, a11] := by
  have hv2 : v.1 = 1 := by simpa using hv
  obtain ⟨t, z⟩ := a4
  have h2 : ¬ t = 1 := by simpa using h
  unfold stl
  dsimp only
  rw [if_pos hv2]
  split
  · rename_i heq
    simp only [List.getElem?_cons_succ, List.getElem?_cons_zero, Option.some.injEq, Prod.mk.injEq] at heq
    exact absurd heq.1 h2
  · rfl
theorem stl_12_6 {a0 a1 a2 a3 a4 a5 a6 a7 a8 a9 a10 a11 v : AV} (h : (a5.1 == 1) = false) (hv : (v.1 == 1) = false) : stl [a0, a1, a2, a3, a4, a5, a6, a7, a8, a9, a10, a11] 6 v = [a0, a1, a2, a3, a4, a5, v, a7, a8, a9, a10, a11] := by
  have hv2 : ¬ v.1 = 1 := by simpa using hv
  obtain ⟨t, z⟩ := a5
  have h2 : ¬ t = 1 := by simpa using h
  unfold stl
  dsimp only
  rw [if_neg hv2]
  split
  · rename_i heq
    simp only [List.getElem?_cons_succ, List.getElem?_cons_zero, Option.some.injEq, Prod.mk.injEq] at heq
    exact absurd heq.1 h2
  · rfl
theorem stw_12_6 {a0 a1 a2 a3 a4 a5 a6 a7 a8 a9 a10 a11 v : AV} (h : (a5.1 == 1) = false) (hv : (v.1 == 1) = true) : stl [a0, a1, a2, a3, a4, a5, a6, a7, a8, a9, a10, a11] 6 v = [a0, a1, a2, a3, a4, a5, v, (9, 0), a8, a9, a10, a11] := by
  have hv2 : v.1 = 1 := by simpa using hv
  obtain ⟨t, z⟩ := a5
  have h2 : ¬ t = 1 := by simpa using h
  unfold stl
  dsimp only
  rw [if_pos hv2]
  split
  · rename_i heq
    simp only [List.getElem?_cons_succ, List.getElem?_cons_zero, Option.some.injEq, Prod.mk.injEq] at heq
    exact absurd heq.1 h2
  · rfl
theorem stl_12_7 {a0 a1 a2 a3 a4 a5 a6 a7 a8 a9 a10 a11 v : AV} (h : (a6.1 == 1) = false) (hv : (v.1 == 1) = false) : stl [a0, a1, a2, a3, a4, a5, a6, a7, a8, a9, a10, a11] 7 v = [a0, a1, a2, a3, a4, a5, a6, v, a8, a9, a10, a11] := by
  have hv2 : ¬ v.1 = 1 := by simpa using hv
  obtain ⟨t, z⟩ := a6
  have h2 : ¬ t = 1 := by simpa using h
  unfold stl
  dsimp only
  rw [if_neg hv2]
  split
  · rename_i heq
    simp only [List.getElem?_cons_succ, List.getElem?_cons_zero, Option.some.injEq, Prod.mk.injEq] at heq
    exact absurd heq.1 h2
  · rfl
theorem stw_12_7 {a0 a1 a2 a3 a4 a5 a6 a7 a8 a9 a10 a11 v : AV} (h : (a6.1 == 1) = false) (hv : (v.1 == 1) = true) : stl [a0, a1, a2, a3, a4, a5, a6, a7, a8, a9, a10, a11] 7 v = [a0, a1, a2, a3, a4, a5, a6, v, (9, 0), a9, a10, a11] := by
  have hv2 : v.1 = 1 := by simpa using hv
  obtain ⟨t, z⟩ := a6
  have h2 : ¬ t = 1 := by simpa using h
  unfold stl
  dsimp only
  rw [if_pos hv2]
  split
  · rename_i heq
    simp only [List.getElem?_cons_succ, List.getElem?_cons_zero, Option.some.injEq, Prod.mk.injEq] at heq
    exact absurd heq.1 h2
  · rfl
theorem stl_12_8 {a0 a1 a2 a3 a4 a5 a6 a7 a8 a9 a10 a11 v : AV} (h : (a7.1 == 1) = false) (hv : (v.1 == 1) = false) : stl [a0, a1, a2, a3, a4, a5, a6, a7, a8, a9, a10, a11] 8 v = [a0, a1, a2, a3, a4, a5, a6, a7, v, a9, a10, a11] := by
  have hv2 : ¬ v.1 = 1 := by simpa using hv
  obtain ⟨t, z⟩ := a7
  have h2 : ¬ t = 1 := by simpa using h
  unfold stl
  dsimp only
  rw [if_neg hv2]
  split
  · rename_i heq
    simp only [List.getElem?_cons_succ, List.getElem?_cons_zero, Option.some.injEq, Prod.mk.injEq] at heq
    exact absurd heq.1 h2
  · rfl
theorem stw_12_8 {a0 a1 a2 a3 a4 a5 a6 a7 a8 a9 a10 a11 v : AV} (h : (a7.1 == 1) = false) (hv : (v.1 == 1) = true) : stl [a0, a1, a2, a3, a4, a5, a6, a7, a8, a9, a10, a11] 8 v = [a0, a1, a2, a3, a4, a5, a6, a7, v, (9, 0), a10, a11] := by
  have hv2 : v.1 = 1 := by simpa using hv
  obtain ⟨t, z⟩ := a7
  have h2 : ¬ t = 1 := by simpa using h
  unfold stl
  dsimp only
  rw [if_pos hv2]
  split
  · rename_i heq
    simp only [List.getElem?_cons_succ, List.getElem?_cons_zero, Option.some.injEq, Prod.mk.injEq] at heq
    exact absurd heq.1 h2
  · rfl
theorem stl_12_9 {a0 a1 a2 a3 a4 a5 a6 a7 a8 a9 a10 a11 v : AV} (h : (a8.1 == 1) = false) (hv : (v.1 == 1) = false) : stl [a0, a1, a2, a3, a4, a5, a6, a7, a8, a9, a10, a11] 9 v = [a0, a1, a2, a3, a4, a5, a6, a7, a8, v, a10, a11] := by
  have hv2 : ¬ v.1 = 1 := by simpa using hv
  obtain ⟨t, z⟩ := a8
  have h2 : ¬ t = 1 := by simpa using h
  unfold stl
  dsimp only
  rw [if_neg hv2]
  split
  · rename_i heq
    simp only [List.getElem?_cons_succ, List.getElem?_cons_zero, Option.some.injEq, Prod.mk.injEq] at heq
    exact absurd heq.1 h2
  · rfl
theorem stw_12_9 {a0 a1 a2 a3 a4 a5 a6 a7 a8 a9 a10 a11 v : AV} (h : (a8.1 == 1) = false) (hv : (v.1 == 1) = true) : stl [a0, a1, a2, a3, a4, a5, a6, a7, a8, a9, a10, a11] 9 v = [a0, a1, a2, a3, a4, a5, a6, a7, a8, v, (9, 0), a11] := by
  have hv2 : v.1 = 1 := by simpa using hv
  obtain ⟨t, z⟩ := a8
  have h2 : ¬ t = 1 := by simpa using h
  unfold stl
  dsimp only
  rw [if_pos hv2]
  split
  · rename_i heq
    simp only [List.getElem?_cons_succ, List.getElem?_cons_zero, Option.some.injEq, Prod.mk.injEq] at heq
    exact absurd heq.1 h2
  · rfl
theorem stl_12_10 {a0 a1 a2 a3 a4 a5 a6 a7 a8 a9 a10 a11 v : AV} (h : (a9.1 == 1) = false) (hv : (v.1 == 1) = false) : stl [a0, a1, a2, a3, a4, a5, a6, a7, a8, a9, a10, a11] 10 v = [a0, a1, a2, a3, a4, a5, a6, a7, a8, a9, v, a11] := by
  have hv2 : ¬ v.1 = 1 := by simpa using hv
  obtain ⟨t, z⟩ := a9
  have h2 : ¬ t = 1 := by simpa using h
  unfold stl
  dsimp only
  rw [if_neg hv2]
  split
  · rename_i heq
    simp only [List.getElem?_cons_succ, List.getElem?_cons_zero, Option.some.injEq, Prod.mk.injEq] at heq
    exact absurd heq.1 h2
  · rfl
theorem stw_12_10 {a0 a1 a2 a3 a4 a5 a6 a7 a8 a9 a10 a11 v : AV} (h : (a9.1 == 1) = false) (hv : (v.1 == 1) = true) : stl [a0, a1, a2, a3, a4, a5, a6, a7, a8, a9, a10, a11] 10 v = [a0, a1, a2, a3, a4, a5, a6, a7, a8, a9, v, (9, 0)] := by
  have hv2 : v.1 = 1 := by simpa using hv
  obtain ⟨t, z⟩ := a9
  have h2 : ¬ t = 1 := by simpa using h
  unfold stl
  dsimp only
  rw [if_pos hv2]
  split
  · rename_i heq
    simp only [List.getElem?_cons_succ, List.getElem?_cons_zero, Option.some.injEq, Prod.mk.injEq] at heq
    exact absurd heq.1 h2
  · rfl
theorem stl_12_11 {a0 a1 a2 a3 a4 a5 a6 a7 a8 a9 a10 a11 v : AV} (h : (a10.1 == 1) = false) (hv : (v.1 == 1) = false) : stl [a0, a1, a2, a3, a4, a5, a6, a7, a8, a9, a10, a11] 11 v = [a0, a1, a2, a3, a4, a5, a6, a7, a8, a9, a10, v] := by
  have hv2 : ¬ v.1 = 1 := by simpa using hv
  obtain ⟨t, z⟩ := a10
  have h2 : ¬ t = 1 := by simpa using h
  unfold stl
  dsimp only
  rw [if_neg hv2]
  split
  · rename_i heq
    simp only [List.getElem?_cons_succ, List.getElem?_cons_zero, Option.some.injEq, Prod.mk.injEq] at heq
    exact absurd heq.1 h2
  · rfl
