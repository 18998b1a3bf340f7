/-! The class: what is kept, and taken back. -/
def WQ8 (q x y : Int) : Prop := (x = 9 ∧ y = q) ∨ (11 + 8 * q ≤ x ∧ x < 11 + 8 * q + 8)
theorem getD_ap {s : Sst} {H : List Sst} {i : Nat} (h : i < H.length) : (H ++ [s]).getD i s00 = H.getD i s00 := by
  rw [List.getD_eq_getElem?_getD, List.getD_eq_getElem?_getD, List.getElem?_append_left h]
theorem getD_nw {s : Sst} {H : List Sst} : (H ++ [s]).getD H.length s00 = s := by
  rw [List.getD_eq_getElem?_getD, List.getElem?_append_right (Nat.le_refl _)]
  simp
theorem getD_tl {H : List Sst} {i : Nat} : H.tail.getD i s00 = H.getD (i + 1) s00 := by
  rw [List.getD_eq_getElem?_getD, List.getD_eq_getElem?_getD, List.getElem?_tail]
theorem c_keeps {M : Mo} {s : Sst} {H : List Sst} (hv : vs s) (hc : cuC M s) (hH : hiC M H) : CV 39 [(2, 8), (2, 2)] M (fun M' => Fr WH M M' ∧ hiC M' (psh H s)) := by
  obtain ⟨q, h1, h2, h3, h4, h5, h6⟩ := hH
  refine Cl.intro (L := [(2, 8), (2, 2), (9, 0)]) (rcv_v ow_39.2.1 sh_8) (by unfold entl; rw [mx_39]; rfl) (by rw [mx_39]; exact Nat.le_of_ble_eq_true rfl) rfl ?_
  refine r_aload_n d_39_0 rfl (by omega) ?_
  refine r_getc (ki := 3) d_39_1 q_39_18 rfl sh_8 fx_8_3 (by omega) ?_
  refine r_aload_n d_39_4 rfl (by omega) ?_
  refine r_getfv (ki := 2) d_39_5 q_39_15 rfl sh_8 h1 ?_
  refine r_aload_n d_39_8 rfl (by omega) ?_
  refine r_getc (ki := 0) d_39_9 q_39_28 rfl sh_8 fx_8_0 (by omega) ?_
  refine r_getfv (ki := 0) d_39_12 q_39_35 rfl sh_1 hc.1 ?_
  refine r_iastore d_39_15 sh_9 (by omega) (by omega) ?_
  refine r_iconst d_39_16 rfl ?_
  refine r_istore_n d_39_17 rfl (stl_3_2 rfl rfl) ?_
  refine dn_ind (R := fun k => ∀ (M1 : Mo), Fr (WQ8 q) M M1 → M1 9 q = pI s.1 → (∀ k' : Nat, (k' : Int) < k → k' < 4 → AA s.1 M1 (11 + 2 * ((4 * q + k' : Nat) : Int)) (s.2.1 k') (mdA s k')) → Rn 39 18 [(2, 8), (2, 2), (0, k)] [] M1 _) (lo := 0) (n := 4) ?_ ?_ 0 (by omega) (by omega) (up2 M 9 q (pI s.1)) (fun x y hn => uq_ne (by unfold WQ8 at hn; omega)) uq_eq (fun k' z _ => by omega)
  · intro M1 hF hp hA
    have g1 : M1 8 2 = q := (hF _ _ (by unfold WQ8; omega)).trans h1
    have g3 : M1 8 1 = H.length := (hF _ _ (by unfold WQ8; omega)).trans h3
    refine r_iload_n d_39_18 rfl ?_
    refine r_iconst d_39_19 rfl ?_
    refine r_icmp_ge (t := 48) d_39_20 rfl (fun _ => ?_) (fun hz => absurd (by omega) hz)
    refine r_aload_n d_39_48 rfl (by omega) ?_
    refine r_aload_n d_39_49 rfl (by omega) ?_
    refine r_getfv (ki := 2) d_39_50 q_39_15 rfl sh_8 g1 ?_
    refine r_iconst d_39_53 rfl ?_
    refine r_iadd d_39_54 (by omega) ?_
    refine r_bipush d_39_55 rfl ?_
    refine r_iremn d_39_57 (by omega) (by omega) ?_
    refine r_putf (ki := 2) d_39_58 q_39_15 rfl sh_8 fx_8_2 ?_
    refine r_aload_n d_39_61 rfl (by omega) ?_
    refine r_aload_n d_39_62 rfl (by omega) ?_
    refine r_getfv (ki := 1) d_39_63 q_39_9 rfl sh_8 ((uq_ne (by omega)).trans g3) ?_
    refine r_iconst d_39_66 rfl ?_
    refine r_iadd d_39_67 (by omega) ?_
    refine r_bipush d_39_68 rfl ?_
    refine r_callsp d_39_70 q_39_44 rfl rfl (j_min _ ((H.length : Int) + 1) 8) ?_
    refine r_putf (ki := 1) d_39_73 q_39_9 rfl sh_8 fx_8_1 ?_
    refine r_vret d_39_76 rt_39 ?_
    refine ⟨rfl, fun x y hn => ?_, ?_⟩
    · unfold WH at hn
      rw [uq_ne (by omega), uq_ne (by omega)]
      exact hF x y (by unfold WQ8; omega)
    · have hF3 : ∀ a : Int, Fr (fun x y => WQ8 q x y ∨ x = 8) M (up2 (up2 M1 8 2 (((q : Int) + 1) % 8)) 8 1 a) := fun a x y hn => by
        rw [uq_ne (by omega), uq_ne (by omega)]
        exact hF x y (fun z => hn (Or.inl z))
      have hslot : ∀ a : Int, keC (up2 (up2 M1 8 2 (((q : Int) + 1) % 8)) 8 1 a) q s := fun a => by
        refine ⟨by rw [uq_ne (by omega), uq_ne (by omega)]; exact hp, fun k hk => (hA k (by omega) hk).fr (P := fun x y => x = 8) (fun x y hn => by rw [uq_ne (by omega), uq_ne (by omega)]) (fun x y z1 z2 => by unfold WA at z1; omega)⟩
      have hold : ∀ (a : Int) (r : Nat) (t : Sst), r < 8 → r ≠ q → keC M r t → keC (up2 (up2 M1 8 2 (((q : Int) + 1) % 8)) 8 1 a) r t := fun a r t hr hrq hk => hk.fr hr (hF3 a) (fun x y z => by unfold WQ8 at z; omega)
      unfold psh
      by_cases h8 : H.length = 8
      · rw [if_pos h8]
        refine ⟨(q + 1) % 8, ?_, Nat.mod_lt _ (by omega), ?_, ?_, ?_, fun i hi => ?_⟩
        · rw [uq_ne (by omega), uq_eq]
          omega
        · rw [uq_eq, if_pos (by omega), List.length_append, List.length_tail, List.length_singleton]
          omega
        · rw [List.length_append, List.length_tail, List.length_singleton]
          omega
        · intro t ht
          rcases List.mem_append.mp ht with z | z
          · exact h5 t (List.mem_of_mem_tail z)
          · rw [List.mem_singleton.mp z]
            exact hv
        · rw [List.length_append, List.length_tail, List.length_singleton] at hi ⊢
          by_cases h7 : i = 7
          · subst h7
            have e1 : ((q + 1) % 8 + 8 - (H.length - 1 + 1) + 7) % 8 = q := by omega
            have e2 : (H.tail ++ [s]).getD 7 s00 = s := by
              have := getD_nw (s := s) (H := H.tail)
              rw [List.length_tail, show H.length - 1 = 7 by omega] at this
              exact this
            rw [e1, e2]
            exact hslot _
          · have e2 : (H.tail ++ [s]).getD i s00 = H.getD (i + 1) s00 := by
              rw [getD_ap (by rw [List.length_tail]; omega), getD_tl]
            rw [e2]
            have h7 := h6 (i + 1) (by omega)
            have e1 : ((q + 1) % 8 + 8 - (H.length - 1 + 1) + i) % 8 = (q + 8 - H.length + (i + 1)) % 8 := by omega
            rw [e1]
            exact hold _ _ _ (by omega) (by omega) h7
      · rw [if_neg h8]
        refine ⟨(q + 1) % 8, ?_, Nat.mod_lt _ (by omega), ?_, ?_, ?_, fun i hi => ?_⟩
        · rw [uq_ne (by omega), uq_eq]
          omega
        · rw [uq_eq, if_neg (by omega), List.length_append, List.length_singleton]
          omega
        · rw [List.length_append, List.length_singleton]
          omega
        · intro t ht
          rcases List.mem_append.mp ht with z | z
          · exact h5 t z
          · rw [List.mem_singleton.mp z]
            exact hv
        · rw [List.length_append, List.length_singleton] at hi ⊢
          by_cases h7 : i = H.length
          · subst h7
            have e1 : ((q + 1) % 8 + 8 - (H.length + 1) + H.length) % 8 = q := by omega
            rw [e1, getD_nw]
            exact hslot _
          · rw [getD_ap (by omega)]
            have h7 := h6 i (by omega)
            have e1 : ((q + 1) % 8 + 8 - (H.length + 1) + i) % 8 = (q + 8 - H.length + i) % 8 := by omega
            rw [e1]
            exact hold _ _ _ (by omega) (by omega) h7
  · intro k k1 k2 ih M1 hF hp hA
    obtain ⟨l, rfl⟩ : ∃ l : Nat, k = l := ⟨k.toNat, by omega⟩
    have g1 : M1 8 2 = q := (hF _ _ (by unfold WQ8; omega)).trans h1
    have hsM := shM (i := l) (by omega)
    have hsK := shK (i := 4 * q + l) (by omega)
    have eK : (11 : Int) + 2 * (4 * (q : Int) + l) = 11 + 2 * ((4 * q + l : Nat) : Int) := by omega
    have hA1 : AA s.1 M1 (209 + 2 * l) (s.2.1 l) (mdA s l) := (hc.2 l (by omega)).fr hF (fun x y z1 z2 => by unfold WA at z1; unfold WQ8 at z2; omega)
    refine r_iload_n d_39_18 rfl ?_
    refine r_iconst d_39_19 rfl ?_
    refine r_icmp_ge (t := 48) d_39_20 rfl (fun hz => absurd hz (by omega)) (fun _ => ?_)
    refine r_aload_n d_39_23 rfl (by omega) ?_
    refine r_getc (ki := 4) d_39_24 q_39_24 rfl sh_8 fx_8_4 (by omega) ?_
    refine r_iconst d_39_27 rfl ?_
    refine r_aload_n d_39_28 rfl (by omega) ?_
    refine r_getfv (ki := 2) d_39_29 q_39_15 rfl sh_8 g1 ?_
    refine r_imul d_39_32 (by omega) ?_
    refine r_iload_n d_39_33 rfl ?_
    refine r_iadd d_39_34 (by omega) ?_
    refine r_aaloadc d_39_35 sh_10 (by decide) (by omega) (by omega) (fxK (by omega) (by omega)) (by omega) ?_
    rw [eK]
    refine r_aload_n d_39_36 rfl (by omega) ?_
    refine r_iload_n d_39_37 rfl ?_
    refine r_aaloadc d_39_38 sh_2 (by decide) (by omega) (by omega) (fxM (by omega) (by omega)) (by omega) ?_
    refine r_callvr d_39_39 q_39_40 rfl rfl (c_copies M1 hsK hsM) (fun M2 hM2 => ?_)
    obtain ⟨hF2, hz, hr⟩ := hM2
    refine r_iinc d_39_42 rfl (by omega) (stl_3_2 rfl rfl) ?_
    refine r_goto (t := 18) d_39_45 rfl ?_
    refine ih M2 (fun x y hn => ?_) ?_ (fun k' z1 z2 => ?_)
    · rw [hF2 x y (by unfold WQ8 at hn; unfold WA; omega)]
      exact hF x y hn
    · rw [hF2 _ _ (by unfold WA; omega)]
      exact hp
    · by_cases hk : k' = l
      · subst hk
        exact hA1.copy hz hr
      · exact (hA k' (by omega) z2).fr hF2 (fun x y z3 z4 => by unfold WA at z3 z4; omega)
def WR8 (x y : Int) : Prop := (x = 8 ∧ (y = 1 ∨ y = 2)) ∨ (x = 1 ∧ y = 0) ∨ (209 ≤ x ∧ x ≤ 216)
theorem c_restores {M : Mo} {s : Sst} {H : List Sst} (hH : hiC M (H ++ [s])) : CV 40 [(2, 8), (2, 2)] M (fun M' => Fr WR8 M M' ∧ cuC M' s ∧ hiC M' H) := by
  obtain ⟨q, h1, h2, h3, h4, h5, h6⟩ := hH
  rw [List.length_append, List.length_singleton] at h3 h4 h6
  have hlast := h6 H.length (by omega)
  rw [getD_nw, show (q + 8 - (H.length + 1) + H.length) % 8 = (q + 7) % 8 by omega] at hlast
  refine Cl.intro (L := [(2, 8), (2, 2), (9, 0)]) (rcv_v ow_40.2.1 sh_8) (by unfold entl; rw [mx_40]; rfl) (by rw [mx_40]; exact Nat.le_of_ble_eq_true rfl) rfl ?_
  refine r_aload_n d_40_0 rfl (by omega) ?_
  refine r_getfv (ki := 1) d_40_1 q_40_9 rfl sh_8 h3 ?_
  refine r_if_le (t := 81) d_40_4 rfl (fun hz => absurd hz (by omega)) (fun _ => ?_)
  refine r_aload_n d_40_7 rfl (by omega) ?_
  refine r_aload_n d_40_8 rfl (by omega) ?_
  refine r_getfv (ki := 2) d_40_9 q_40_15 rfl sh_8 h1 ?_
  refine r_bipush d_40_12 rfl ?_
  refine r_iadd d_40_14 (by omega) ?_
  refine r_iconst d_40_15 rfl ?_
  refine r_isub d_40_16 (by omega) ?_
  refine r_bipush d_40_17 rfl ?_
  refine r_iremn d_40_19 (by omega) (by omega) ?_
  refine r_putf (ki := 2) d_40_20 q_40_15 rfl sh_8 fx_8_2 ?_
  have e7 : ((q : Int) + 8 - 1) % 8 = (((q + 7) % 8 : Nat) : Int) := by omega
  rw [e7]
  generalize hq' : (q + 7) % 8 = q' at hlast
  refine r_aload_n d_40_23 rfl (by omega) ?_
  refine r_dup d_40_24 rfl ?_
  refine r_getfv (ki := 1) d_40_25 q_40_9 rfl sh_8 ((uq_ne (by omega)).trans h3) ?_
  refine r_iconst d_40_28 rfl ?_
  refine r_isub d_40_29 (by omega) ?_
  refine r_putf (ki := 1) d_40_30 q_40_9 rfl sh_8 fx_8_1 ?_
  have e8 : (((H.length + 1 : Nat) : Int)) - 1 = (H.length : Int) := by omega
  rw [e8]
  generalize hM1 : up2 (up2 M 8 2 (q' : Int)) 8 1 (H.length : Int) = M1
  have hF1 : Fr (fun x y => x = 8 ∧ (y = 1 ∨ y = 2)) M M1 := fun x y hn => by rw [← hM1, uq_ne (by omega), uq_ne (by omega)]
  have g2 : M1 8 2 = q' := by rw [← hM1, uq_ne (by omega), uq_eq]
  have g1 : M1 8 1 = H.length := by rw [← hM1, uq_eq]
  have hl1 : keC M1 q' s := hlast.fr (by omega) hF1 (fun x y z => by omega)
  refine r_aload_n d_40_33 rfl (by omega) ?_
  refine r_getc (ki := 0) d_40_34 q_40_28 rfl sh_8 fx_8_0 (by omega) ?_
  refine r_aload_n d_40_37 rfl (by omega) ?_
  refine r_getc (ki := 3) d_40_38 q_40_18 rfl sh_8 fx_8_3 (by omega) ?_
  refine r_aload_n d_40_41 rfl (by omega) ?_
  refine r_getfv (ki := 2) d_40_42 q_40_15 rfl sh_8 g2 ?_
  refine r_ialoadv d_40_45 sh_9 (by omega) (by omega) hl1.1 ?_
  refine r_putf (ki := 0) d_40_46 q_40_35 rfl sh_1 fx_1_0 ?_
  refine r_iconst d_40_49 rfl ?_
  refine r_istore_n d_40_50 rfl (stl_3_2 rfl rfl) ?_
  refine dn_ind (R := fun k => ∀ (M2 : Mo), Fr (fun x y => (x = 1 ∧ y = 0) ∨ (209 ≤ x ∧ x ≤ 216)) M1 M2 → M2 1 0 = pI s.1 → (∀ k' : Nat, (k' : Int) < k → k' < 4 → AA s.1 M2 (209 + 2 * k') (s.2.1 k') (mdA s k')) → Rn 40 51 [(2, 8), (2, 2), (0, k)] [] M2 _) (lo := 0) (n := 4) ?_ ?_ 0 (by omega) (by omega) (up2 M1 1 0 (pI s.1)) (fun x y hn => uq_ne (by omega)) uq_eq (fun k' z _ => by omega)
  · intro M2 hF hp hA
    refine r_iload_n d_40_51 rfl ?_
    refine r_iconst d_40_52 rfl ?_
    refine r_icmp_ge (t := 81) d_40_53 rfl (fun _ => ?_) (fun hz => absurd (by omega) hz)
    refine r_vret d_40_81 rt_40 ?_
    refine ⟨rfl, fun x y hn => ?_, ⟨hp, fun k hk => hA k (by omega) hk⟩, q', ?_, by omega, ?_, by omega, fun t ht => h5 t (List.mem_append_left _ ht), fun i hi => ?_⟩
    · unfold WR8 at hn
      rw [hF x y (by omega)]
      exact hF1 x y (by omega)
    · rw [hF _ _ (by omega)]
      exact g2
    · rw [hF _ _ (by omega)]
      exact g1
    · have h7 := h6 i (by omega)
      rw [getD_ap hi] at h7
      have e1 : (q' + 8 - H.length + i) % 8 = (q + 8 - (H.length + 1) + i) % 8 := by omega
      rw [e1]
      have h8 : keC M1 _ _ := h7.fr (by omega) hF1 (fun x y z => by omega)
      exact h8.fr (by omega) hF (fun x y z => by omega)
  · intro k k1 k2 ih M2 hF hp hA
    obtain ⟨l, rfl⟩ : ∃ l : Nat, k = l := ⟨k.toNat, by omega⟩
    have g3 : M2 8 2 = q' := (hF _ _ (by omega)).trans g2
    have hsM := shM (i := l) (by omega)
    have hsK := shK (i := 4 * q' + l) (by omega)
    have eK : (11 : Int) + 2 * (4 * (q' : Int) + l) = 11 + 2 * ((4 * q' + l : Nat) : Int) := by omega
    have hA1 : AA s.1 M2 (11 + 2 * ((4 * q' + l : Nat) : Int)) (s.2.1 l) (mdA s l) := (hl1.2 l (by omega)).fr hF (fun x y z1 z2 => by unfold WA at z1; omega)
    refine r_iload_n d_40_51 rfl ?_
    refine r_iconst d_40_52 rfl ?_
    refine r_icmp_ge (t := 81) d_40_53 rfl (fun hz => absurd hz (by omega)) (fun _ => ?_)
    refine r_aload_n d_40_56 rfl (by omega) ?_
    refine r_iload_n d_40_57 rfl ?_
    refine r_aaloadc d_40_58 sh_2 (by decide) (by omega) (by omega) (fxM (by omega) (by omega)) (by omega) ?_
    refine r_aload_n d_40_59 rfl (by omega) ?_
    refine r_getc (ki := 4) d_40_60 q_40_24 rfl sh_8 fx_8_4 (by omega) ?_
    refine r_iconst d_40_63 rfl ?_
    refine r_aload_n d_40_64 rfl (by omega) ?_
    refine r_getfv (ki := 2) d_40_65 q_40_15 rfl sh_8 g3 ?_
    refine r_imul d_40_68 (by omega) ?_
    refine r_iload_n d_40_69 rfl ?_
    refine r_iadd d_40_70 (by omega) ?_
    refine r_aaloadc d_40_71 sh_10 (by decide) (by omega) (by omega) (fxK (by omega) (by omega)) (by omega) ?_
    rw [eK]
    refine r_callvr d_40_72 q_40_40 rfl rfl (c_copies M2 hsM hsK) (fun M3 hM3 => ?_)
    obtain ⟨hF2, hz, hr⟩ := hM3
    refine r_iinc d_40_75 rfl (by omega) (stl_3_2 rfl rfl) ?_
    refine r_goto (t := 51) d_40_78 rfl ?_
    refine ih M3 (fun x y hn => ?_) ?_ (fun k' z1 z2 => ?_)
    · rw [hF2 x y (by unfold WA; omega)]
      exact hF x y hn
    · rw [hF2 _ _ (by unfold WA; omega)]
      exact hp
    · by_cases hk : k' = l
      · subst hk
        exact hA1.copy hz hr
      · exact (hA k' (by omega) z2).fr hF2 (fun x y z3 z4 => by unfold WA at z3 z4; omega)
theorem mdA_set {s : Sst} {k n : Nat} {E : Nat → Nat → Nat → Int} : (setm s k n E).2.1 k = n ∧ ∀ g i j, mdA (setm s k n E) k g i j = kI s.1 (E g i j) := by
  unfold setm mdA
  simp
theorem mdA_oth {s : Sst} {k n k' : Nat} {E : Nat → Nat → Nat → Int} (h : k' ≠ k) : (setm s k n E).2.1 k' = s.2.1 k' ∧ ∀ g i j, mdA (setm s k n E) k' g i j = mdA s k' g i j := by
  unfold setm mdA
  simp [h]
/-- a state of which module k is another one -/
theorem cuC.set {M M' : Mo} {s : Sst} (hc : cuC M s) {k n : Nat} (hk : k < 4) {E : Nat → Nat → Nat → Int} {P : Int → Int → Prop} (hF : Fr P M M') (hP : ∀ x y, P x y → ¬ (x = 1 ∧ y = 0) ∧ (209 ≤ x ∧ x ≤ 216 → x = 209 + 2 * (k : Int) ∨ x = 209 + 2 * (k : Int) + 1)) (hA : AA s.1 M' (209 + 2 * k) n (fun g i j => kI s.1 (E g i j))) : cuC M' (setm s k n E) := by
  refine ⟨(hF _ _ (fun q => (hP _ _ q).1 ⟨rfl, rfl⟩)).trans hc.1, fun k' hk' => ?_⟩
  by_cases h : k' = k
  · subst h
    obtain ⟨e1, e2⟩ := mdA_set (s := s) (k := k') (n := n) (E := E)
    rw [e1]
    exact AA.congr (e := s.1) hA (fun g i j _ _ _ => (e2 g i j).symm)
  · obtain ⟨e1, e2⟩ := mdA_oth (s := s) (k := k) (n := n) (E := E) h
    rw [e1]
    have h1 : AA s.1 M' (209 + 2 * k') (s.2.1 k') (mdA s k') := (hc.2 k' hk').fr hF (fun x y z1 z2 => by
      have := hP x y z2
      unfold WA at z1
      omega)
    refine AA.congr h1 (fun g i j _ _ _ => (e2 g i j).symm)
/-- module k becomes what was made -/
theorem c_changesTo {M : Mo} {s : Sst} {H : List Sst} (hv : vs s) (hc : cuC M s) (hH : hiC M H) {k n : Nat} (hk : k < 4) {E : Nat → Nat → Nat → Int} (hA : AA s.1 M 3 n (fun g i j => kI s.1 (E g i j))) : CI 115 [(2, 0), (0, (k : Int))] M (fun z M' => z = n ∧ chC M M' (setm s k n E) (psh H s)) := by
  refine Cl.intro (L := [(2, 0), (0, (k : Int))]) (rcv_v ow_115.2.1 sh_0) (by unfold entl; rw [mx_115]; rfl) (by rw [mx_115]; exact Nat.le_of_ble_eq_true rfl) rfl ?_
  refine r_aload_n d_115_0 rfl (by omega) ?_
  refine r_getc (ki := 4) d_115_1 q_115_39 rfl sh_0 fx_0_4 (by omega) ?_
  refine r_aload_n d_115_4 rfl (by omega) ?_
  refine r_getc (ki := 1) d_115_5 q_115_18 rfl sh_0 fx_0_1 (by omega) ?_
  refine r_callvr d_115_8 q_115_95 rfl rfl (c_keeps hv hc hH) (fun M1 hM1 => ?_)
  obtain ⟨hF1, hH1⟩ := hM1
  have hc1 : cuC M1 s := hc.fr hF1 (fun x y q => by unfold WH at q; omega)
  have hA1 : AA s.1 M1 3 n (fun g i j => kI s.1 (E g i j)) := hA.fr hF1 (fun x y z1 z2 => by unfold WA at z1; unfold WH at z2; omega)
  refine r_aload_n d_115_11 rfl (by omega) ?_
  refine r_getc (ki := 1) d_115_12 q_115_18 rfl sh_0 fx_0_1 (by omega) ?_
  refine r_iload_n d_115_15 rfl ?_
  refine r_aaloadc d_115_16 sh_2 (by decide) (by omega) (by omega) (fxM (by omega) (by omega)) (by omega) ?_
  refine r_aload_n d_115_17 rfl (by omega) ?_
  refine r_getc (ki := 2) d_115_18 q_115_25 rfl sh_0 fx_0_2 (by omega) ?_
  refine r_callvr d_115_21 q_115_137 rfl rfl (c_copies M1 (shM hk) sh_3) (fun M2 hM2 => ?_)
  obtain ⟨hF2, hz, hr⟩ := hM2
  have hA2 : AA s.1 M2 (209 + 2 * k) n (fun g i j => kI s.1 (E g i j)) := hA1.copy hz hr
  have hz3 : M2 3 1 = n := by
    rw [hF2 _ _ (by unfold WA; omega)]
    exact hA1.1
  refine r_aload_n d_115_24 rfl (by omega) ?_
  refine r_getc (ki := 2) d_115_25 q_115_25 rfl sh_0 fx_0_2 (by omega) ?_
  refine r_getfv (ki := 1) d_115_28 q_115_149 rfl sh_3 hz3 ?_
  refine r_iret d_115_31 rt_115 ?_
  refine ⟨_, rfl, rfl, fun x y hn => ?_, ?_, ?_⟩
  · unfold WZ WH at hn
    rw [hF2 x y (by unfold WA; omega)]
    exact hF1 x y (by unfold WH; omega)
  · exact hc1.set hk hF2 (fun x y z => by unfold WA at z; omega) hA2
  · exact hH1.fr hF2 (fun x y z => by unfold WA at z; omega)
