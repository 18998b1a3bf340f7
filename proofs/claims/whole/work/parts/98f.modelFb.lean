/-! The model: sorts. -/
section
def rlT (sz : Nat → Nat) (F : Nat → Nat → Int) (a b : Nat) : Prop := cmY (ty (sz a) (F a)) (ty (sz b) (F b)) ≤ 0
theorem getD_ins {O : List Nat} {j i q : Nat} (hj : j ≤ O.length) : (O.take j ++ i :: O.drop j).getD q 0 = if q < j then O.getD q 0 else if q = j then i else O.getD (q - 1) 0 := by
  have hl : (O.take j).length = j := by rw [List.length_take]; omega
  rw [List.getD_eq_getElem?_getD]
  by_cases q1 : q < j
  · rw [if_pos q1, List.getElem?_append_left (by omega), List.getElem?_take, if_pos q1, ← List.getD_eq_getElem?_getD]
  · rw [if_neg q1, List.getElem?_append_right (by omega), hl]
    by_cases q2 : q = j
    · rw [if_pos q2, q2, Nat.sub_self]
      rfl
    · rw [if_neg q2]
      obtain ⟨k, hk⟩ : ∃ k, q - j = k + 1 := ⟨q - j - 1, by omega⟩
      rw [hk, List.getElem?_cons_succ, List.getElem?_drop, ← List.getD_eq_getElem?_getD, show j + k = q - 1 by omega]
theorem ins_pw {r : Nat → Nat → Prop} (tr : ∀ a b c, r a b → r b c → r a c) {O : List Nat} (hO : O.Pairwise r) {i j : Nat} (hj : j ≤ O.length) (h1 : j = 0 ∨ r (O.getD (j - 1) 0) i) (h2 : ∀ q, j ≤ q → q < O.length → r i (O.getD q 0)) : (O.take j ++ i :: O.drop j).Pairwise r := by
  have h0 : (O.take j ++ O.drop j).Pairwise r := by rw [List.take_append_drop]; exact hO
  obtain ⟨p1, p2, p3⟩ := List.pairwise_append.mp h0
  have hdr : ∀ y ∈ O.drop j, r i y := fun y hy => by
    obtain ⟨k, hk, rfl⟩ := List.getElem_of_mem hy
    rw [List.length_drop] at hk
    have := h2 (j + k) (by omega) (by omega)
    rw [List.getD_eq_getElem?_getD, List.getElem?_eq_getElem (by omega)] at this
    rw [List.getElem_drop]
    exact this
  have htk : ∀ x ∈ O.take j, r x i := fun x hx => by
    obtain ⟨k, hk, rfl⟩ := List.getElem_of_mem hx
    rw [List.length_take] at hk
    rcases h1 with q | q
    · omega
    · rw [List.getD_eq_getElem?_getD, List.getElem?_eq_getElem (by omega)] at q
      rw [List.getElem_take]
      by_cases z : k = j - 1
      · subst z
        exact q
      · exact tr _ _ _ (List.pairwise_iff_getElem.mp hO k (j - 1) (by omega) (by omega) (by omega)) q
  refine List.pairwise_append.mpr ⟨p1, List.pairwise_cons.mpr ⟨hdr, p2⟩, fun x hx y hy => ?_⟩
  rcases List.mem_cons.mp hy with q | q
  · rw [q]
    exact htk x hx
  · exact p3 x hx y q
theorem m_sorts {M : Mo} {p : Nat} (hp : p ≤ 6) (hpc : M 217 16 = p) {sz : Nat → Nat} {F : Nat → Nat → Int} (hsz : ∀ b : Nat, b < p → sz b ≤ 6 ∧ M 219 (4 + b) = sz b) (hF : ∀ b : Nat, b < p → ∀ c : Nat, c < 2 * (sz b * sz b) → M 230 (72 * b + c) = F b c ∧ 0 ≤ F b c ∧ F b c ≤ 2) : CV 177 [(2, 217)] M (fun M' => Fr (fun x _ => x = 231) M M' ∧ ∃ O : List Nat, O.Perm (List.range p) ∧ O.Pairwise (rlT sz F) ∧ ∀ q : Nat, q < p → M' 231 q = (O.getD q 0 : Nat)) := by
  refine Cl.intro (L := [(2, 217), (9, 0), (9, 0)]) (rcv_v ow_177.2.1 sh_217) (by unfold entl; rw [mx_177]; rfl) (by rw [mx_177]; exact Nat.le_of_ble_eq_true rfl) rfl ?_
  refine r_iconst d_177_0 rfl ?_
  refine r_istore_n d_177_1 rfl (stl_3_1 rfl rfl) ?_
  refine dn_ind (R := fun i => ∀ (M1 : Mo) (y2 : AV) (O : List Nat), Fr (fun x _ => x = 231) M M1 → O.Perm (List.range i.toNat) → O.Pairwise (rlT sz F) → (∀ q : Nat, q < i.toNat → M1 231 q = (O.getD q 0 : Nat)) → Rn 177 2 [(2, 217), (0, i), y2] [] M1 _) (lo := 0) (n := (p : Int)) ?_ ?_ 0 (by omega) (by omega) M (9, 0) [] Fr.refl (List.Perm.refl _) List.Pairwise.nil (fun q h => by omega)
  · intro M1 y2 O hF1 hO hs hm
    have hpc1 : M1 217 16 = p := (hF1 _ _ (by omega)).trans hpc
    refine r_iload_n d_177_2 rfl ?_
    refine r_aload_n d_177_3 rfl (by omega) ?_
    refine r_getfv (ki := 16) d_177_4 q_177_226 rfl sh_217 hpc1 ?_
    refine r_icmp_ge (t := 65) d_177_7 rfl (fun _ => ?_) (fun hz => absurd (by omega) hz)
    refine r_vret d_177_65 rt_177 ?_
    rw [Int.toNat_natCast] at hO hm
    exact ⟨rfl, hF1, O, hO, hs, hm⟩
  · intro i i1 i2 ih M1 y2 O hF1 hO hs hm
    have hpc1 : M1 217 16 = p := (hF1 _ _ (by omega)).trans hpc
    have hlen : O.length = i.toNat := by rw [hO.length_eq, List.length_range]
    have hi : ((i.toNat : Nat) : Int) = i := by omega
    refine r_iload_n d_177_2 rfl ?_
    refine r_aload_n d_177_3 rfl (by omega) ?_
    refine r_getfv (ki := 16) d_177_4 q_177_226 rfl sh_217 hpc1 ?_
    refine r_icmp_ge (t := 65) d_177_7 rfl (fun hz => absurd hz (by omega)) (fun _ => ?_)
    refine r_iload_n d_177_10 rfl ?_
    refine r_istore_n d_177_11 rfl (stl_3_2 rfl rfl) ?_
    have key : ∀ (j : Nat) (M2 : Mo), j ≤ i.toNat → Fr (fun x _ => x = 231) M M2 → (∀ q : Nat, q < j → M2 231 q = (O.getD q 0 : Nat)) → (∀ q : Nat, j ≤ q → q < i.toNat → M2 231 (q + 1) = (O.getD q 0 : Nat)) → (∀ q : Nat, j ≤ q → q < i.toNat → rlT sz F i.toNat (O.getD q 0)) → (j = 0 ∨ rlT sz F (O.getD (j - 1) 0) i.toNat) → ∃ M3, M3 = up2 M2 231 (j : Int) i ∧ Fr (fun x _ => x = 231) M M3 ∧ ∃ O' : List Nat, O'.Perm (List.range (i + 1).toNat) ∧ O'.Pairwise (rlT sz F) ∧ ∀ q : Nat, q < (i + 1).toNat → M3 231 q = (O'.getD q 0 : Nat) := by
      intro j M2 hj hF2 a1 a2 a3 a4
      refine ⟨_, rfl, fun x y h => by rw [uq_ne (by omega)]; exact hF2 x y h, O.take j ++ i.toNat :: O.drop j, ?_, ins_pw (r := rlT sz F) (fun a b c h1 h2 => cmY_trans h1 h2) hs (by omega) a4 (fun q q1 q2 => a3 q q1 (by omega)), fun q hq => ?_⟩
      · rw [show (i + 1).toNat = i.toNat + 1 by omega, List.range_succ]
        refine List.perm_middle.trans ?_
        rw [List.take_append_drop]
        refine (hO.cons _).trans ?_
        exact (List.perm_append_singleton i.toNat (List.range i.toNat)).symm
      · rw [getD_ins (by omega)]
        by_cases q1 : q < j
        · rw [if_pos q1, uq_ne (by omega)]
          exact a1 q q1
        · rw [if_neg q1]
          by_cases q2 : q = j
          · rw [if_pos q2, q2, uq_eq, hi]
          · rw [if_neg q2, uq_ne (by omega)]
            have := a2 (q - 1) (by omega) (by omega)
            rw [show ((q - 1 : Nat) : Int) + 1 = q by omega] at this
            exact this
    have hloop : ∀ (j : Nat) (M2 : Mo), j ≤ i.toNat → Fr (fun x _ => x = 231) M M2 → (∀ q : Nat, q < j → M2 231 q = (O.getD q 0 : Nat)) → (∀ q : Nat, j ≤ q → q < i.toNat → M2 231 (q + 1) = (O.getD q 0 : Nat)) → (∀ q : Nat, j ≤ q → q < i.toNat → rlT sz F i.toNat (O.getD q 0)) → Rn 177 12 [(2, 217), (0, i), (0, (j : Int))] [] M2 (fun r M' => r = none ∧ Fr (fun x _ => x = 231) M M' ∧ ∃ O : List Nat, O.Perm (List.range p) ∧ O.Pairwise (rlT sz F) ∧ ∀ q : Nat, q < p → M' 231 q = (O.getD q 0 : Nat)) := by
      intro j
      induction j with
      | zero =>
        intro M2 hj hF2 a1 a2 a3
        refine r_iload_n d_177_12 rfl ?_
        refine r_if_le (t := 52) d_177_13 rfl (fun _ => ?_) (fun hz => absurd (by omega) hz)
        refine r_aload_n d_177_52 rfl (by omega) ?_
        refine r_getc (ki := 18) d_177_53 q_177_56 rfl sh_217 fx_217_18 (by omega) ?_
        refine r_iload_n d_177_56 rfl ?_
        refine r_iload_n d_177_57 rfl ?_
        refine r_iastore d_177_58 sh_231 (by omega) (by omega) ?_
        refine r_iinc d_177_59 rfl (by omega) (stl_3_1 rfl rfl) ?_
        refine r_goto (t := 2) d_177_62 rfl ?_
        obtain ⟨M3, e3, k1, O', k2, k3, k4⟩ := key 0 M2 hj hF2 a1 a2 a3 (Or.inl rfl)
        subst e3
        exact ih _ _ O' k1 k2 k3 k4
      | succ j ihj =>
        intro M2 hj hF2 a1 a2 a3
        have hmem : O.getD j 0 < i.toNat := by
          have h1 : O.getD j 0 ∈ O := by
            rw [List.getD_eq_getElem?_getD, List.getElem?_eq_getElem (by omega)]
            exact List.getElem_mem _
          exact List.mem_range.mp (hO.mem_iff.mp h1)
        have hfr : ∀ x y : Int, x ≠ 231 → M2 x y = M x y := fun x y h => hF2 x y h
        have hcmp := m_compare (M := M2) (a := i.toNat) (b := O.getD j 0) (by omega) (by omega) (hsz i.toNat (by omega)).1 (hsz (O.getD j 0) (by omega)).1 ((hfr _ _ (by omega)).trans (hsz i.toNat (by omega)).2) ((hfr _ _ (by omega)).trans (hsz (O.getD j 0) (by omega)).2) (fun c hc => by rw [hfr _ _ (by omega)]; exact hF i.toNat (by omega) c hc) (fun c hc => by rw [hfr _ _ (by omega)]; exact hF (O.getD j 0) (by omega) c hc)
        rw [hi, ← cmY_ty] at hcmp
        have hj1 := a1 j (by omega)
        have hsub : ((j + 1 : Nat) : Int) - 1 = j := by omega
        refine r_iload_n d_177_12 rfl ?_
        refine r_if_le (t := 52) d_177_13 rfl (fun hz => absurd hz (by omega)) (fun _ => ?_)
        refine r_aload_n d_177_16 rfl (by omega) ?_
        refine r_iload_n d_177_17 rfl ?_
        refine r_aload_n d_177_18 rfl (by omega) ?_
        refine r_getc (ki := 18) d_177_19 q_177_56 rfl sh_217 fx_217_18 (by omega) ?_
        refine r_iload_n d_177_22 rfl ?_
        refine r_iconst d_177_23 rfl ?_
        refine r_isub d_177_24 (by omega) ?_
        rw [hsub]
        refine r_ialoadv d_177_25 sh_231 (by omega) (by omega) hj1 ?_
        refine r_callvp d_177_26 q_177_229 rfl rfl hcmp ?_
        by_cases hlt : cmY (ty (sz i.toNat) (F i.toNat)) (ty (sz (O.getD j 0)) (F (O.getD j 0))) < 0
        · refine r_if_ge (t := 52) d_177_29 rfl (fun hz => absurd hz (by omega)) (fun _ => ?_)
          refine r_aload_n d_177_32 rfl (by omega) ?_
          refine r_getc (ki := 18) d_177_33 q_177_56 rfl sh_217 fx_217_18 (by omega) ?_
          refine r_iload_n d_177_36 rfl ?_
          refine r_aload_n d_177_37 rfl (by omega) ?_
          refine r_getc (ki := 18) d_177_38 q_177_56 rfl sh_217 fx_217_18 (by omega) ?_
          refine r_iload_n d_177_41 rfl ?_
          refine r_iconst d_177_42 rfl ?_
          refine r_isub d_177_43 (by omega) ?_
          rw [hsub]
          refine r_ialoadv d_177_44 sh_231 (by omega) (by omega) hj1 ?_
          refine r_iastore d_177_45 sh_231 (by omega) (by omega) ?_
          refine r_iinc d_177_46 rfl (by omega) (stl_3_2 rfl rfl) ?_
          rw [show ((j + 1 : Nat) : Int) + -1 = j by omega]
          refine r_goto (t := 12) d_177_49 rfl ?_
          refine ihj _ (by omega) (fun x y h => by rw [uq_ne (by omega)]; exact hF2 x y h) (fun q hq => ?_) (fun q q1 q2 => ?_) (fun q q1 q2 => ?_)
          · rw [uq_ne (by omega)]
            exact a1 q (by omega)
          · by_cases z : q = j
            · rw [z]
              exact uq_eq
            · rw [uq_ne (by omega)]
              exact a2 q (by omega) q2
          · by_cases z : q = j
            · rw [z]
              exact Int.le_of_lt hlt
            · exact a3 q (by omega) q2
        · refine r_if_ge (t := 52) d_177_29 rfl (fun _ => ?_) (fun hz => absurd (by omega) hz)
          refine r_aload_n d_177_52 rfl (by omega) ?_
          refine r_getc (ki := 18) d_177_53 q_177_56 rfl sh_217 fx_217_18 (by omega) ?_
          refine r_iload_n d_177_56 rfl ?_
          refine r_iload_n d_177_57 rfl ?_
          refine r_iastore d_177_58 sh_231 (by omega) (by omega) ?_
          refine r_iinc d_177_59 rfl (by omega) (stl_3_1 rfl rfl) ?_
          refine r_goto (t := 2) d_177_62 rfl ?_
          have hge : rlT sz F (O.getD (j + 1 - 1) 0) i.toNat := by
            unfold rlT
            rw [Nat.add_sub_cancel]
            have := cmY_neg (t := ty (sz i.toNat) (F i.toNat)) (u := ty (sz (O.getD j 0)) (F (O.getD j 0)))
            omega
          obtain ⟨M3, e3, k1, O', k2, k3, k4⟩ := key (j + 1) M2 hj hF2 a1 a2 a3 (Or.inr hge)
          subst e3
          exact ih _ _ O' k1 k2 k3 k4
    have h1 := hloop i.toNat M1 (Nat.le_refl _) hF1 hm (fun q q1 q2 => by omega) (fun q q1 q2 => by omega)
    rw [hi] at h1
    exact h1
end
