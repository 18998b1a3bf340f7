/-! The class: sinksLast. -/
section
variable {e : Nat}
def insP (j l k : Nat) : Nat := if k < j then k else if k = j then l else if k ≤ l then k - 1 else k
theorem insP_id {l k : Nat} : insP l l k = k := by
  unfold insP
  split
  · rfl
  · split
    · omega
    · split <;> omega
def cmF (sz : Nat → Nat) (Tm : Nat → Nat → Nat → Nat → Kf e) (x y : Nat) : Int := cmpT (sz x) (sz y) (sqA (sz x) (Tm x)) (sqA (sz y) (Tm y))
theorem fxF1 {a : Int} (h : shp S0 a = (1, 8)) (i : Int) : fx (a + 1) i = none := by
  unfold fx
  rw [shF1 h]
  by_cases q : 0 ≤ i ∧ i < 6
  · have h1 : i = 0 ∨ i = 1 ∨ i = 2 ∨ i = 3 ∨ i = 4 ∨ i = 5 := by omega
    rcases shF_ab h with rfl | rfl <;> rcases h1 with rfl | rfl | rfl | rfl | rfl | rfl <;> decide +kernel
  · exact if_neg q
theorem c_sinksLast (he : e ≤ 1) {M : Mo} {a : Int} (ha : shp S0 a = (1, 8)) {l : Nat} (hl : l < 6) (hcnt : M a 2 = (l : Int) + 1) {r : Nat → Int} (hr : ∀ k : Nat, k < 6 → M (a + 1) k = r k ∧ shp S0 (r k) = (0, 3)) {sz : Nat → Nat} {Tm : Nat → Nat → Nat → Nat → Kf e} (hA : ∀ k : Nat, k ≤ l → AA e M (r k) (sz k) (Tm k)) : CV 20 [(2, a)] M (fun M' => Fr (fun x _ => x = a + 1) M M' ∧ ∃ j, j ≤ l ∧ (∀ k : Nat, k < 6 → M' (a + 1) k = r (insP j l k)) ∧ (∀ k : Nat, j ≤ k → k < l → cmF sz Tm l k < 0) ∧ (j = 0 ∨ 0 ≤ cmF sz Tm l (j - 1))) := by
  refine Cl.intro (L := [(2, a), (9, 0), (9, 0)]) (rcv_v ow_20.2.1 ha) (by unfold entl; rw [mx_20]; rfl) (by rw [mx_20]; exact Nat.le_of_ble_eq_true rfl) rfl ?_
  have ha0 := shF_pos ha
  have hsh : ∀ k : Nat, k < 6 → shp S0 (r k) = (0, 3) ∧ 0 ≤ r k := fun k hk => ⟨(hr k hk).2, shA_pos (hr k hk).2⟩
  have hAf : ∀ M1, Fr (fun x _ => x = a + 1) M M1 → ∀ k : Nat, k ≤ l → AA e M1 (r k) (sz k) (Tm k) := fun M1 hF k hk => (hA k hk).fr hF (fun x y q1 q2 => by
    have s1 := sh_ne (hsh k (by omega)).1 (shF1 ha) (by decide)
    have s2 := sh_ne (shA1 (hsh k (by omega)).1) (shF1 ha) (by decide)
    unfold WA at q1
    omega)
  have hloop : ∀ (i : Nat) (M1 : Mo) (y2 : AV), i ≤ l → Fr (fun x _ => x = a + 1) M M1 → (∀ k : Nat, k < 6 → M1 (a + 1) k = r (insP i l k)) → (∀ k : Nat, i ≤ k → k < l → cmF sz Tm l k < 0) → Rn 20 7 [(2, a), (0, (i : Int)), y2] [] M1 (fun v M' => v = none ∧ Fr (fun x _ => x = a + 1) M M' ∧ ∃ j, j ≤ l ∧ (∀ k : Nat, k < 6 → M' (a + 1) k = r (insP j l k)) ∧ (∀ k : Nat, j ≤ k → k < l → cmF sz Tm l k < 0) ∧ (j = 0 ∨ 0 ≤ cmF sz Tm l (j - 1))) := by
    intro i
    induction i with
    | zero =>
      intro M1 y2 hi hF hk hc
      refine r_iload_n d_20_7 rfl ?_
      refine r_if_le (t := 67) d_20_8 rfl (fun _ => ?_) (fun hz => absurd (by omega) hz)
      refine r_vret d_20_67 rt_20 ?_
      exact ⟨rfl, hF, 0, hi, hk, hc, Or.inl rfl⟩
    | succ i ih =>
      intro M1 y2 hi hF hk hc
      have e1 : M1 (a + 1) ((i + 1 : Nat) : Int) = r l := by
        rw [hk (i + 1) (by omega)]
        unfold insP
        rw [if_neg (by omega), if_pos rfl]
      have e2 : M1 (a + 1) (i : Int) = r i := by
        rw [hk i (by omega)]
        unfold insP
        rw [if_pos (by omega)]
      have hsub : ((i + 1 : Nat) : Int) - 1 = i := by omega
      have hl0 := hsh l (by omega)
      have hi0 := hsh i (by omega)
      have hcmp := c_compares he hl0.1 hi0.1 (hAf M1 hF l (by omega)) (hAf M1 hF i (by omega))
      refine r_iload_n d_20_7 rfl ?_
      refine r_if_le (t := 67) d_20_8 rfl (fun hz => absurd hz (by omega)) (fun _ => ?_)
      refine r_aload_n d_20_11 rfl (by omega) ?_
      refine r_getc (ki := 1) d_20_12 q_20_11 rfl ha (fxF ha).2.1 (by omega) ?_
      refine r_iload_n d_20_15 rfl ?_
      refine r_aaload d_20_16 (shF1 ha) (by decide) (by omega) (by omega) (by rw [e1]; exact hl0.2) ?_
      rw [e1]
      refine r_aload_n d_20_17 rfl (by omega) ?_
      refine r_getc (ki := 1) d_20_18 q_20_11 rfl ha (fxF ha).2.1 (by omega) ?_
      refine r_iload_n d_20_21 rfl ?_
      refine r_iconst d_20_22 rfl ?_
      refine r_isub d_20_23 (by omega) ?_
      rw [hsub]
      refine r_aaload d_20_24 (shF1 ha) (by decide) (by omega) (by omega) (by rw [e2]; exact hi0.2) ?_
      rw [e2]
      refine r_callvp d_20_25 q_20_71 rfl rfl hcmp ?_
      by_cases hlt : cmF sz Tm l i < 0
      · have hsg : sgn (cmpT (sz l) (sz i) (sqA (sz l) (Tm l)) (sqA (sz i) (Tm i))) = -1 := if_pos hlt
        rw [hsg]
        refine r_if_ge (t := 67) d_20_28 rfl (fun hz => absurd hz (by decide)) (fun _ => ?_)
        refine r_aload_n d_20_31 rfl (by omega) ?_
        refine r_getc (ki := 1) d_20_32 q_20_11 rfl ha (fxF ha).2.1 (by omega) ?_
        refine r_iload_n d_20_35 rfl ?_
        refine r_aaload d_20_36 (shF1 ha) (by decide) (by omega) (by omega) (by rw [e1]; exact hl0.2) ?_
        rw [e1]
        refine r_astore_n d_20_37 hl0.2 rfl (stl_3_2 rfl rfl) ?_
        refine r_aload_n d_20_38 rfl (by omega) ?_
        refine r_getc (ki := 1) d_20_39 q_20_11 rfl ha (fxF ha).2.1 (by omega) ?_
        refine r_iload_n d_20_42 rfl ?_
        refine r_aload_n d_20_43 rfl (by omega) ?_
        refine r_getc (ki := 1) d_20_44 q_20_11 rfl ha (fxF ha).2.1 (by omega) ?_
        refine r_iload_n d_20_47 rfl ?_
        refine r_iconst d_20_48 rfl ?_
        refine r_isub d_20_49 (by omega) ?_
        rw [hsub]
        refine r_aaload d_20_50 (shF1 ha) (by decide) (by omega) (by omega) (by rw [e2]; exact hi0.2) ?_
        rw [e2]
        refine r_aastore d_20_51 (shF1 ha) (by omega) (by omega) hi0.1 (fxF1 ha _) ?_
        refine r_aload_n d_20_52 rfl (by omega) ?_
        refine r_getc (ki := 1) d_20_53 q_20_11 rfl ha (fxF ha).2.1 (by omega) ?_
        refine r_iload_n d_20_56 rfl ?_
        refine r_iconst d_20_57 rfl ?_
        refine r_isub d_20_58 (by omega) ?_
        refine r_aload_n d_20_59 rfl hl0.2 ?_
        rw [hsub]
        refine r_aastore d_20_60 (shF1 ha) (by omega) (by omega) hl0.1 (fxF1 ha _) ?_
        refine r_iinc d_20_61 rfl (by omega) (stl_3_1 rfl rfl) ?_
        rw [show ((i + 1 : Nat) : Int) + -1 = i by omega]
        refine r_goto (t := 7) d_20_64 rfl ?_
        refine ih _ _ (by omega) (fun x y h => by rw [uq_ne (by omega), uq_ne (by omega)]; exact hF x y h) (fun k hk6 => ?_) (fun k k1 k2 => ?_)
        · by_cases q1 : k = i
          · subst q1
            rw [uq_eq]
            unfold insP
            rw [if_neg (by omega), if_pos rfl]
          · rw [uq_ne (by omega)]
            by_cases q2 : k = i + 1
            · subst q2
              rw [uq_eq]
              unfold insP
              rw [if_neg (by omega), if_neg (by omega), if_pos (by omega), Nat.add_sub_cancel]
            · rw [uq_ne (by omega), hk k hk6]
              unfold insP
              by_cases q3 : k < i
              · rw [if_pos (by omega), if_pos q3]
              · rw [if_neg (by omega), if_neg (by omega), if_neg q3, if_neg q1]
        · by_cases q : k = i
          · rw [q]
            exact hlt
          · exact hc k (by omega) k2
      · have hsg : 0 ≤ sgn (cmpT (sz l) (sz i) (sqA (sz l) (Tm l)) (sqA (sz i) (Tm i))) := by
          unfold sgn
          rw [if_neg (show ¬ cmpT (sz l) (sz i) (sqA (sz l) (Tm l)) (sqA (sz i) (Tm i)) < 0 from hlt)]
          split <;> omega
        refine r_if_ge (t := 67) d_20_28 rfl (fun _ => ?_) (fun hz => absurd hsg hz)
        refine r_vret d_20_67 rt_20 ?_
        exact ⟨rfl, hF, i + 1, hi, hk, hc, Or.inr (by rw [Nat.add_sub_cancel]; omega)⟩
  refine r_aload_n d_20_0 rfl (by omega) ?_
  refine r_getfv (ki := 2) d_20_1 q_20_17 rfl ha hcnt ?_
  refine r_iconst d_20_4 rfl ?_
  refine r_isub d_20_5 (by omega) ?_
  rw [show (l : Int) + 1 - 1 = l by omega]
  refine r_istore_n d_20_6 rfl (stl_3_1 rfl rfl) ?_
  exact hloop l M _ (Nat.le_refl _) Fr.refl (fun k hk => by rw [insP_id]; exact (hr k hk).1) (fun k k1 k2 => by omega)
end
