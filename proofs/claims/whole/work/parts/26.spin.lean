/-! Spinning: the list of vectors that are taken, in their order. -/
section
variable {e n : Nat} {A : Nat → Nat → Nat → Kf e}
noncomputable def addv (T : List (Vc e)) (x : Vc e) : List (Vc e) := ifp (spn T x) T (T ++ [x])
def cand (n : Nat) (A : Nat → Nat → Nat → Kf e) (b : Nat) (T : List (Vc e)) (c : Nat) : Vc e := mv n (A (c % 2)) (T.getD (b + c / 2) z0)
noncomputable def sps (n : Nat) (A : Nat → Nat → Nat → Kf e) (b : Nat) : Nat → List (Vc e) → Nat → List (Vc e)
  | 0, T, _ => T
  | f + 1, T, c => if b + c / 2 < T.length then sps n A b f (addv T (cand n A b T c)) (c + 1) else T
noncomputable def spin (n : Nat) (A : Nat → Nat → Nat → Kf e) (T : List (Vc e)) (v : Vc e) : List (Vc e) := ifp (spn T v) T (sps n A T.length 20 (T ++ [v]) 0)
/-- independent vectors of n places -/
def Good (n : Nat) (T : List (Vc e)) : Prop := (∀ x ∈ T, sup n x) ∧ dm n (spn T) = T.length
theorem Good.sub {T : List (Vc e)} (h : Good n T) : Sub n (spn T) := spn_sub h.1
theorem Good.len {T : List (Vc e)} (h : Good n T) : T.length ≤ n := by
  have := dm_le (n := n) (spn T)
  have := h.2
  omega
theorem Good.nil : Good n ([] : List (Vc e)) := ⟨fun x h => absurd h List.not_mem_nil, dm_zero⟩
theorem Good.app {T : List (Vc e)} (he : e ≤ 1) (h : Good n T) {x : Vc e} (hx : sup n x) (hn : ¬ spn T x) : Good n (T ++ [x]) := by
  refine ⟨fun y hy => ?_, ?_⟩
  · rcases List.mem_append.mp hy with q | q
    · exact h.1 y q
    · rw [List.mem_singleton.mp q]
      exact hx
  · rw [spn_app, dm_ext he h.sub hx hn, h.2]
    simp
theorem Good.len' {T : List (Vc e)} (he : e ≤ 1) (h : Good n T) {x : Vc e} (hx : sup n x) (hn : ¬ spn T x) : T.length < n := by
  have := (h.app he hx hn).len
  rw [List.length_append] at this
  simp at this
  omega
theorem Good.add {T : List (Vc e)} (he : e ≤ 1) (h : Good n T) {x : Vc e} (hx : sup n x) : Good n (addv T x) := by
  unfold addv
  by_cases hs : spn T x
  · rw [ifp_t hs]; exact h
  · rw [ifp_f hs]; exact h.app he hx hs
theorem cand_sup {b : Nat} {T : List (Vc e)} {c : Nat} : sup n (cand n A b T c) := sup_mv
theorem sps_good (he : e ≤ 1) {b : Nat} : ∀ {f : Nat} {T : List (Vc e)} {c : Nat}, Good n T → Good n (sps n A b f T c)
  | 0, _, _, h => h
  | f + 1, T, c, h => by
    unfold sps
    split
    · exact sps_good he (h.add he cand_sup)
    · exact h
theorem spin_good (he : e ≤ 1) {T : List (Vc e)} {v : Vc e} (h : Good n T) (hv : sup n v) : Good n (spin n A T v) := by
  unfold spin
  by_cases hs : spn T v
  · rw [ifp_t hs]; exact h
  · rw [ifp_f hs]; exact sps_good he (h.app he hv hs)
theorem getD_app {T : List (Vc e)} {x : Vc e} {i : Nat} (h : i < T.length) : (T ++ [x]).getD i z0 = T.getD i z0 := by
  rw [List.getD_eq_getElem?_getD, List.getD_eq_getElem?_getD, List.getElem?_append_left h]
theorem getD_new {T : List (Vc e)} {x : Vc e} : (T ++ [x]).getD T.length z0 = x := by
  rw [List.getD_eq_getElem?_getD, List.getElem?_append_right (Nat.le_refl _)]
  simp
theorem getD_sup {T : List (Vc e)} (h : Good n T) (i : Nat) : sup n (T.getD i z0) := by
  rw [List.getD_eq_getElem?_getD]
  cases hq : T[i]? with
  | none => exact sup_z0
  | some x => exact h.1 x (List.mem_of_getElem? hq)
/-- the vectors of a list in an array -/
def tk (n : Nat) (t : Int → Int) (T : List (Vc e)) : Prop := ∀ j : Nat, j < T.length → t j = num n (T.getD j z0)
theorem tk.app {t : Int → Int} {T : List (Vc e)} (h : tk n t T) (x : Vc e) : tk n (u1 t (T.length : Int) (num n x)) (T ++ [x]) := by
  intro j hj
  rw [List.length_append] at hj
  simp at hj
  rcases Nat.lt_or_ge j T.length with q | q
  · rw [u1_ne _ _ (by omega), getD_app q]
    exact h j q
  · rw [show j = T.length by omega, u1_eq, getD_new]
end
