/-! The class: the text and the word; numbers, digests. -/
def TxC (M : Mo) (L : Nat) (t : Nat → Int) : Prop := M 75 1 = L ∧ L ≤ 40 ∧ ∀ i : Nat, i < L → M 76 i = t i
def WdC (M : Mo) (l : Nat) (w : Nat → Int) : Prop := M 75 3 = l ∧ l ≤ 40 ∧ ∀ i : Nat, i < l → M 77 i = w i ∧ wok (w i)
theorem c_isDigit (M : Mo) (c : Int) : PI 71 [(0, c)] M (if isF c then 1 else 0) := by
  refine Cl.intro (L := [(0, c)]) (rcv_s ow_71.1) (by unfold entl; rw [mx_71]; rfl) (by rw [mx_71]; exact Nat.le_of_ble_eq_true rfl) rfl ?_
  refine r_iload_n d_71_0 rfl ?_
  refine r_bipush d_71_1 rfl ?_
  refine r_icmp_lt (t := 16) d_71_3 rfl (fun h => ?_) (fun h => ?_)
  · refine r_iconst d_71_16 rfl ?_
    refine r_zret d_71_17 rt_71 (by omega) ?_
    exact ⟨by rw [if_neg (by omega)], rfl⟩
  · refine r_iload_n d_71_6 rfl ?_
    refine r_bipush d_71_7 rfl ?_
    refine r_icmp_gt (t := 16) d_71_9 rfl (fun h2 => ?_) (fun h2 => ?_)
    · refine r_iconst d_71_16 rfl ?_
      refine r_zret d_71_17 rt_71 (by omega) ?_
      exact ⟨by rw [if_neg (by omega)], rfl⟩
    · refine r_iconst d_71_12 rfl ?_
      refine r_goto (t := 17) d_71_13 rfl ?_
      refine r_zret d_71_17 rt_71 (by omega) ?_
      exact ⟨by rw [if_pos (by omega)], rfl⟩
theorem c_isLetter (M : Mo) (c : Int) : PI 72 [(0, c)] M (if isLt c then 1 else 0) := by
  refine Cl.intro (L := [(0, c)]) (rcv_s ow_72.1) (by unfold entl; rw [mx_72]; rfl) (by rw [mx_72]; exact Nat.le_of_ble_eq_true rfl) rfl ?_
  refine r_iload_n d_72_0 rfl ?_
  refine r_bipush d_72_1 rfl ?_
  refine r_icmp_eq (t := 12) d_72_3 rfl (fun h => ?_) (fun h => ?_)
  · refine r_iconst d_72_12 rfl ?_
    refine r_goto (t := 17) d_72_13 rfl ?_
    refine r_zret d_72_17 rt_72 (by omega) ?_
    exact ⟨by rw [if_pos (by omega)], rfl⟩
  · refine r_iload_n d_72_6 rfl ?_
    refine r_bipush d_72_7 rfl ?_
    refine r_icmp_ne (t := 16) d_72_9 rfl (fun h2 => ?_) (fun h2 => ?_)
    · refine r_iconst d_72_16 rfl ?_
      refine r_zret d_72_17 rt_72 (by omega) ?_
      exact ⟨by rw [if_neg (by omega)], rfl⟩
    · refine r_iconst d_72_12 rfl ?_
      refine r_goto (t := 17) d_72_13 rfl ?_
      refine r_zret d_72_17 rt_72 (by omega) ?_
      exact ⟨by rw [if_pos (by omega)], rfl⟩
theorem c_appends (M : Mo) {c L : Int} (hL : M 75 1 = L) (h2 : 0 ≤ L ∧ L < 40) : PV 65 [(2, 75), (0, c)] M (up2 (up2 M 76 L c) 75 1 (L + 1)) := by
  refine Cl.intro (L := [(2, 75), (0, c)]) (rcv_v ow_65.2.1 sh_75) (by unfold entl; rw [mx_65]; rfl) (by rw [mx_65]; exact Nat.le_of_ble_eq_true rfl) rfl ?_
  refine r_aload_n d_65_0 rfl (by omega) ?_
  refine r_getfv (ki := 1) d_65_1 q_65_9 rfl sh_75 hL ?_
  refine r_bipush d_65_4 rfl ?_
  refine r_icmp_ge (t := 29) d_65_6 rfl (fun hz => absurd hz (by omega)) (fun _ => ?_)
  refine r_aload_n d_65_9 rfl (by omega) ?_
  refine r_getc (ki := 2) d_65_10 q_65_15 rfl sh_75 fx_75_2 (by omega) ?_
  refine r_aload_n d_65_13 rfl (by omega) ?_
  refine r_getfv (ki := 1) d_65_14 q_65_9 rfl sh_75 hL ?_
  refine r_iload_n d_65_17 rfl ?_
  refine r_iastore d_65_18 sh_76 (by omega) (by omega) ?_
  refine r_aload_n d_65_19 rfl (by omega) ?_
  refine r_dup d_65_20 rfl ?_
  refine r_getfv (ki := 1) d_65_21 q_65_9 rfl sh_75 ((uq_ne (by omega)).trans hL) ?_
  refine r_iconst d_65_24 rfl ?_
  refine r_iadd d_65_25 (by omega) ?_
  refine r_putf (ki := 1) d_65_26 q_65_9 rfl sh_75 fx_75_1 ?_
  refine r_vret d_65_29 rt_65 ?_
  exact ⟨rfl, rfl⟩
theorem c_type_bad (M : Mo) (hb : cbC M) {c : Int} (h : ¬ (0 ≤ c ∧ c ≤ 127)) : PJ 98 [(2, 0), (0, c)] M (-2) (up2 M 0 11 (M 0 11 + 1)) := by
  have hbad := c_fails_b M hb
  refine Cl.intro (L := [(2, 0), (0, c)]) (rcv_v ow_98.2.1 sh_0) (by unfold entl; rw [mx_98]; rfl) (by rw [mx_98]; exact Nat.le_of_ble_eq_true rfl) rfl ?_
  have key : Rn 98 10 [(2, 0), (0, c)] [] M (fun v M' => v = some (0, -2) ∧ M' = up2 M 0 11 (M 0 11 + 1)) := by
    refine r_aload_n d_98_10 rfl (by omega) ?_
    refine r_bipush d_98_11 rfl ?_
    refine r_callvj d_98_13 q_98_91 rfl rfl hbad ?_
    refine r_iret d_98_16 rt_98 ?_
    exact ⟨rfl, rfl⟩
  refine r_iload_n d_98_0 rfl ?_
  refine r_if_lt (t := 10) d_98_1 rfl (fun h1 => ?_) (fun h1 => ?_)
  · exact key
  · refine r_iload_n d_98_4 rfl ?_
    refine r_bipush d_98_5 rfl ?_
    refine r_icmp_le (t := 17) d_98_7 rfl (fun hz => absurd hz (by omega)) (fun _ => ?_)
    exact key
theorem c_type_full (M : Mo) (hb : cbC M) {c : Int} (h : 0 ≤ c ∧ c ≤ 127) (hL : M 75 1 = 40) : PJ 98 [(2, 0), (0, c)] M (-4) (up2 M 0 13 (M 0 13 + 1)) := by
  have hful := c_fails_f M hb
  refine Cl.intro (L := [(2, 0), (0, c)]) (rcv_v ow_98.2.1 sh_0) (by unfold entl; rw [mx_98]; rfl) (by rw [mx_98]; exact Nat.le_of_ble_eq_true rfl) rfl ?_
  refine r_iload_n d_98_0 rfl ?_
  refine r_if_lt (t := 10) d_98_1 rfl (fun hz => absurd hz (by omega)) (fun _ => ?_)
  refine r_iload_n d_98_4 rfl ?_
  refine r_bipush d_98_5 rfl ?_
  refine r_icmp_le (t := 17) d_98_7 rfl (fun _ => ?_) (fun hz => absurd (by omega) hz)
  refine r_aload_n d_98_17 rfl (by omega) ?_
  refine r_getc (ki := 5) d_98_18 q_98_46 rfl sh_0 fx_0_5 (by omega) ?_
  refine r_getfv (ki := 1) d_98_21 q_98_239 rfl sh_75 hL ?_
  refine r_bipush d_98_24 rfl ?_
  refine r_icmp_lt (t := 36) d_98_26 rfl (fun hz => absurd hz (by decide)) (fun _ => ?_)
  refine r_aload_n d_98_29 rfl (by omega) ?_
  refine r_bipush d_98_30 rfl ?_
  refine r_callvj d_98_32 q_98_91 rfl rfl hful ?_
  refine r_iret d_98_35 rt_98 ?_
  exact ⟨rfl, rfl⟩
theorem c_type (M : Mo) {c L : Int} (h : 0 ≤ c ∧ c ≤ 127) (hL : M 75 1 = L) (hL2 : 0 ≤ L ∧ L < 40) : PJ 98 [(2, 0), (0, c)] M (L + 1) (up2 (up2 M 76 L c) 75 1 (L + 1)) := by
  refine Cl.intro (L := [(2, 0), (0, c)]) (rcv_v ow_98.2.1 sh_0) (by unfold entl; rw [mx_98]; rfl) (by rw [mx_98]; exact Nat.le_of_ble_eq_true rfl) rfl ?_
  refine r_iload_n d_98_0 rfl ?_
  refine r_if_lt (t := 10) d_98_1 rfl (fun hz => absurd hz (by omega)) (fun _ => ?_)
  refine r_iload_n d_98_4 rfl ?_
  refine r_bipush d_98_5 rfl ?_
  refine r_icmp_le (t := 17) d_98_7 rfl (fun _ => ?_) (fun hz => absurd (by omega) hz)
  refine r_aload_n d_98_17 rfl (by omega) ?_
  refine r_getc (ki := 5) d_98_18 q_98_46 rfl sh_0 fx_0_5 (by omega) ?_
  refine r_getfv (ki := 1) d_98_21 q_98_239 rfl sh_75 hL ?_
  refine r_bipush d_98_24 rfl ?_
  refine r_icmp_lt (t := 36) d_98_26 rfl (fun _ => ?_) (fun hz => absurd (by omega) hz)
  refine r_aload_n d_98_36 rfl (by omega) ?_
  refine r_getc (ki := 5) d_98_37 q_98_46 rfl sh_0 fx_0_5 (by omega) ?_
  refine r_iload_n d_98_40 rfl ?_
  refine r_callvv d_98_41 q_98_242 rfl rfl (c_appends M hL hL2) ?_
  refine r_aload_n d_98_44 rfl (by omega) ?_
  refine r_getc (ki := 5) d_98_45 q_98_46 rfl sh_0 fx_0_5 (by omega) ?_
  refine r_getfv (ki := 1) d_98_48 q_98_239 rfl sh_75 uq_eq ?_
  refine r_iret d_98_51 rt_98 ?_
  exact ⟨rfl, rfl⟩
theorem c_clear (M : Mo) {L : Int} (hL : M 75 1 = L) : PJ 99 [(2, 0)] M L (up2 M 75 1 0) := by
  refine Cl.intro (L := [(2, 0), (9, 0)]) (rcv_v ow_99.2.1 sh_0) (by unfold entl; rw [mx_99]; rfl) (by rw [mx_99]; exact Nat.le_of_ble_eq_true rfl) rfl ?_
  refine r_aload_n d_99_0 rfl (by omega) ?_
  refine r_getc (ki := 5) d_99_1 q_99_46 rfl sh_0 fx_0_5 (by omega) ?_
  refine r_getfv (ki := 1) d_99_4 q_99_239 rfl sh_75 hL ?_
  refine r_istore_n d_99_7 rfl (stl_2_1 rfl rfl) ?_
  refine r_aload_n d_99_8 rfl (by omega) ?_
  refine r_getc (ki := 5) d_99_9 q_99_46 rfl sh_0 fx_0_5 (by omega) ?_
  refine r_iconst d_99_12 rfl ?_
  refine r_putf (ki := 1) d_99_13 q_99_239 rfl sh_75 fx_75_1 ?_
  refine r_iload_n d_99_16 rfl ?_
  refine r_iret d_99_17 rt_99 ?_
  exact ⟨rfl, rfl⟩
theorem c_fault {M : Mo} {L : Nat} {t : Nat → Int} (hT : TxC M L t) : PI 66 [(2, 75)] M (scan t L 0 (-1)) := by
  obtain ⟨h1, h2, h3⟩ := hT
  refine Cl.intro (L := [(2, 75), (9, 0), (9, 0), (9, 0)]) (rcv_v ow_66.2.1 sh_75) (by unfold entl; rw [mx_66]; rfl) (by rw [mx_66]; exact Nat.le_of_ble_eq_true rfl) rfl ?_
  refine r_iconst d_66_0 rfl ?_
  refine r_istore_n d_66_1 rfl (stl_4_1 rfl rfl) ?_
  refine r_iconst d_66_2 rfl ?_
  refine r_istore_n d_66_3 rfl (stl_4_2 rfl rfl) ?_
  refine dn_ind (R := fun i => ∀ (l : Int) (y : AV), -1 ≤ l ∧ l ≤ 6 → scan t L 0 (-1) = scan t (L - i.toNat) i.toNat l → Rn 66 4 [(2, 75), (0, l), (0, i), y] [] M _) (lo := 0) (n := L) ?_ ?_ 0 (by omega) (by omega) (-1) (9, 0) (by omega) rfl
  · intro l y hl hq
    have e1 : scan t L 0 (-1) = if l = -1 then (L : Int) else -1 := by
      rw [hq, show ((L : Int)).toNat = L by omega, Nat.sub_self]
      rfl
    rw [e1]
    refine r_iload_n d_66_4 rfl ?_
    refine r_aload_n d_66_5 rfl (by omega) ?_
    refine r_getfv (ki := 1) d_66_6 q_66_9 rfl sh_75 h1 ?_
    refine r_icmp_ge (t := 84) d_66_9 rfl (fun _ => ?_) (fun hz => absurd (by omega) hz)
    refine r_iload_n d_66_84 rfl ?_
    refine r_iconst d_66_85 rfl ?_
    refine r_icmp_ne (t := 96) d_66_86 rfl (fun h => ?_) (fun h => ?_)
    · refine r_iconst d_66_96 rfl ?_
      refine r_iret d_66_97 rt_66 ?_
      exact ⟨by rw [if_neg h], rfl⟩
    · refine r_aload_n d_66_89 rfl (by omega) ?_
      refine r_getfv (ki := 1) d_66_90 q_66_9 rfl sh_75 h1 ?_
      refine r_goto (t := 97) d_66_93 rfl ?_
      refine r_iret d_66_97 rt_66 ?_
      exact ⟨by rw [if_pos (by omega)], rfl⟩
  · intro i i1 i2 ih l y hl hq
    obtain ⟨k, rfl⟩ : ∃ k : Nat, i = k := ⟨i.toNat, by omega⟩
    rw [show ((k : Int)).toNat = k by omega, show L - k = (L - (k + 1)) + 1 by omega] at hq
    rw [show ((k : Int) + 1).toNat = k + 1 by omega] at ih
    have hnx : ∀ l', stp l (t k) = some l' → scan t L 0 (-1) = scan t (L - (k + 1)) (k + 1) l' := fun l' h => by rw [hq, scan_st h]
    have hno : stp l (t k) = none → scan t L 0 (-1) = k := fun h => by rw [hq, scan_no h]
    refine r_iload_n d_66_4 rfl ?_
    refine r_aload_n d_66_5 rfl (by omega) ?_
    refine r_getfv (ki := 1) d_66_6 q_66_9 rfl sh_75 h1 ?_
    refine r_icmp_ge (t := 84) d_66_9 rfl (fun hz => absurd hz (by omega)) (fun _ => ?_)
    refine r_aload_n d_66_12 rfl (by omega) ?_
    refine r_getc (ki := 2) d_66_13 q_66_15 rfl sh_75 fx_75_2 (by omega) ?_
    refine r_iload_n d_66_16 rfl ?_
    refine r_ialoadv d_66_17 sh_76 (by omega) (by omega) (h3 k (by omega)) ?_
    refine r_istore_n d_66_18 rfl (stl_4_3 rfl rfl) ?_
    refine r_iload_n d_66_19 rfl ?_
    refine r_callsp d_66_20 q_66_38 rfl rfl (c_isLetter M (t k)) ?_
    unfold stp at hnx hno
    have k43 : ¬ (isLt (t k) ∧ l < 6) → Rn 66 43 [(2, 75), (0, l), (0, (k : Int)), (0, t k)] [] M (fun v M' => v = some (0, scan t L 0 (-1)) ∧ M' = M) := by
      intro hn1
      rw [if_neg hn1] at hnx hno
      have k60 : ¬ (isF (t k) ∧ l = -1) → Rn 66 60 [(2, 75), (0, l), (0, (k : Int)), (0, t k)] [] M (fun v M' => v = some (0, scan t L 0 (-1)) ∧ M' = M) := by
        intro hn2
        rw [if_neg hn2] at hnx hno
        refine r_iload_n d_66_60 rfl ?_
        refine r_bipush d_66_61 rfl ?_
        refine r_icmp_ne (t := 76) d_66_63 rfl (fun h5 => ?_) (fun h5 => ?_)
        · refine r_iload_n d_66_76 rfl ?_
          refine r_iret d_66_77 rt_66 ?_
          exact ⟨by rw [hno (if_neg (fun q => h5 q.1))], rfl⟩
        · refine r_iload_n d_66_66 rfl ?_
          refine r_iconst d_66_67 rfl ?_
          refine r_icmp_eq (t := 76) d_66_68 rfl (fun h6 => ?_) (fun h6 => ?_)
          · refine r_iload_n d_66_76 rfl ?_
            refine r_iret d_66_77 rt_66 ?_
            exact ⟨by rw [hno (if_neg (fun q => q.2 h6))], rfl⟩
          · refine r_iconst d_66_71 rfl ?_
            refine r_istore_n d_66_72 rfl (stl_4_1 rfl rfl) ?_
            refine r_goto (t := 78) d_66_73 rfl ?_
            refine r_iinc d_66_78 rfl (by omega) (stl_4_2 rfl rfl) ?_
            refine r_goto (t := 4) d_66_81 rfl ?_
            exact ih _ _ (by omega) (hnx _ (if_pos ⟨by omega, h6⟩))
      refine r_iload_n d_66_43 rfl ?_
      refine r_callsp d_66_44 q_66_48 rfl rfl (c_isDigit M (t k)) ?_
      by_cases h3 : isF (t k)
      · rw [if_pos h3]
        refine r_if_eq (t := 60) d_66_47 rfl (fun hz => absurd hz (by decide)) (fun _ => ?_)
        refine r_iload_n d_66_50 rfl ?_
        refine r_iconst d_66_51 rfl ?_
        refine r_icmp_ne (t := 60) d_66_52 rfl (fun h4 => ?_) (fun h4 => ?_)
        · exact k60 (fun q => h4 q.2)
        · refine r_iconst d_66_55 rfl ?_
          refine r_istore_n d_66_56 rfl (stl_4_1 rfl rfl) ?_
          refine r_goto (t := 78) d_66_57 rfl ?_
          refine r_iinc d_66_78 rfl (by omega) (stl_4_2 rfl rfl) ?_
          refine r_goto (t := 4) d_66_81 rfl ?_
          exact ih _ _ (by omega) (hnx _ (if_pos ⟨h3, by omega⟩))
      · rw [if_neg h3]
        refine r_if_eq (t := 60) d_66_47 rfl (fun _ => ?_) (fun hz => absurd rfl hz)
        exact k60 (fun q => h3 q.1)
    by_cases h : isLt (t k)
    · rw [if_pos h]
      refine r_if_eq (t := 43) d_66_23 rfl (fun hz => absurd hz (by decide)) (fun _ => ?_)
      refine r_iload_n d_66_26 rfl ?_
      refine r_bipush d_66_27 rfl ?_
      refine r_icmp_ge (t := 43) d_66_29 rfl (fun h4 => ?_) (fun h4 => ?_)
      · exact k43 (fun q => by omega)
      · refine r_iload_n d_66_32 rfl ?_
        refine r_iconst d_66_33 rfl ?_
        refine r_callsp d_66_34 q_66_42 rfl rfl (j_max M l 0) ?_
        have hb : 0 ≤ (if l < 0 then 0 else l) ∧ (if l < 0 then 0 else l) ≤ 5 := by split <;> omega
        refine r_iconst d_66_37 rfl ?_
        refine r_iadd d_66_38 (by omega) ?_
        refine r_istore_n d_66_39 rfl (stl_4_1 rfl rfl) ?_
        refine r_goto (t := 78) d_66_40 rfl ?_
        refine r_iinc d_66_78 rfl (by omega) (stl_4_2 rfl rfl) ?_
        refine r_goto (t := 4) d_66_81 rfl ?_
        exact ih _ _ (by omega) (hnx _ (if_pos ⟨h, by omega⟩))
    · rw [if_neg h]
      refine r_if_eq (t := 43) d_66_23 rfl (fun _ => ?_) (fun hz => absurd rfl hz)
      exact k43 (fun q => h q.1)
theorem c_takesText (M : Mo) : CV 67 [(2, 75)] M (fun M' => Fr (fun x y => x = 77 ∨ (x = 75 ∧ y = 3)) M M' ∧ M' 75 3 = M 75 1 ∧ ∀ i : Int, 0 ≤ i → i < 40 → M' 77 i = M 76 i) := by
  refine Cl.intro (L := [(2, 75)]) (rcv_v ow_67.2.1 sh_75) (by unfold entl; rw [mx_67]; rfl) (by rw [mx_67]; exact Nat.le_of_ble_eq_true rfl) rfl ?_
  refine r_aload_n d_67_0 rfl (by omega) ?_
  refine r_getc (ki := 2) d_67_1 q_67_15 rfl sh_75 fx_75_2 (by omega) ?_
  refine r_iconst d_67_4 rfl ?_
  refine r_aload_n d_67_5 rfl (by omega) ?_
  refine r_getc (ki := 4) d_67_6 q_67_22 rfl sh_75 fx_75_4 (by omega) ?_
  refine r_iconst d_67_9 rfl ?_
  refine r_bipush d_67_10 rfl ?_
  refine r_acopy d_67_12 q_67_51 (by rw [ow_67.2.2]; rfl) (Or.inl rfl) sh_77 sh_76 (by omega) (by omega) (by omega) (by omega) (by omega) rfl ?_
  refine r_aload_n d_67_15 rfl (by omega) ?_
  refine r_aload_n d_67_16 rfl (by omega) ?_
  refine r_getf (ki := 1) d_67_17 q_67_9 rfl sh_75 ?_
  refine r_putf (ki := 3) d_67_20 q_67_19 rfl sh_75 fx_75_3 ?_
  refine r_vret d_67_23 rt_67 ?_
  refine ⟨rfl, fun x y hn => ?_, ?_, fun i h1 h2 => ?_⟩
  · rw [uq_ne (by omega)]
    unfold cp2
    rw [if_neg (by omega)]
  · rw [uq_eq]
    unfold cp2
    rw [if_neg (by omega)]
  · rw [uq_ne (by omega)]
    unfold cp2
    rw [if_pos ⟨rfl, by omega, by omega⟩]
    congr 1
    omega
theorem c_terms {M : Mo} {l : Nat} {w : Nat → Int} (h1 : M 75 3 = l) (h2 : l ≤ 40) (h3 : ∀ i : Nat, i < l → M 77 i = w i) : PI 68 [(2, 75)] M (1 + plc w l) := by
  refine Cl.intro (L := [(2, 75), (9, 0), (9, 0)]) (rcv_v ow_68.2.1 sh_75) (by unfold entl; rw [mx_68]; rfl) (by rw [mx_68]; exact Nat.le_of_ble_eq_true rfl) rfl ?_
  refine r_iconst d_68_0 rfl ?_
  refine r_istore_n d_68_1 rfl (stl_3_1 rfl rfl) ?_
  refine r_iconst d_68_2 rfl ?_
  refine r_istore_n d_68_3 rfl (stl_3_2 rfl rfl) ?_
  refine dn_ind (R := fun i => ∀ s : Int, s = 1 + plc w i.toNat → 0 ≤ s ∧ s ≤ 1 + i → Rn 68 4 [(2, 75), (0, s), (0, i)] [] M _) (lo := 0) (n := l) ?_ ?_ 0 (by omega) (by omega) 1 rfl (by omega)
  · intro s hs hb
    refine r_iload_n d_68_4 rfl ?_
    refine r_aload_n d_68_5 rfl (by omega) ?_
    refine r_getfv (ki := 3) d_68_6 q_68_19 rfl sh_75 h1 ?_
    refine r_icmp_ge (t := 37) d_68_9 rfl (fun _ => ?_) (fun hz => absurd (by omega) hz)
    refine r_iload_n d_68_37 rfl ?_
    refine r_iret d_68_38 rt_68 ?_
    exact ⟨by rw [hs]; rfl, rfl⟩
  · intro i i1 i2 ih s hs hb
    obtain ⟨k, rfl⟩ : ∃ k : Nat, i = k := ⟨i.toNat, by omega⟩
    rw [show ((k : Int)).toNat = k by omega] at hs
    rw [show ((k : Int) + 1).toNat = k + 1 by omega] at ih
    refine r_iload_n d_68_4 rfl ?_
    refine r_aload_n d_68_5 rfl (by omega) ?_
    refine r_getfv (ki := 3) d_68_6 q_68_19 rfl sh_75 h1 ?_
    refine r_icmp_ge (t := 37) d_68_9 rfl (fun hz => absurd hz (by omega)) (fun _ => ?_)
    refine r_iload_n d_68_12 rfl ?_
    refine r_aload_n d_68_13 rfl (by omega) ?_
    refine r_getc (ki := 4) d_68_14 q_68_22 rfl sh_75 fx_75_4 (by omega) ?_
    refine r_iload_n d_68_17 rfl ?_
    refine r_ialoadv d_68_18 sh_77 (by omega) (by omega) (h3 k (by omega)) ?_
    refine r_bipush d_68_19 rfl ?_
    refine r_icmp_ne (t := 28) d_68_21 rfl (fun h => ?_) (fun h => ?_)
    · refine r_iconst d_68_28 rfl ?_
      refine r_iadd d_68_29 (by omega) ?_
      refine r_istore_n d_68_30 rfl (stl_3_1 rfl rfl) ?_
      refine r_iinc d_68_31 rfl (by omega) (stl_3_2 rfl rfl) ?_
      refine r_goto (t := 4) d_68_34 rfl ?_
      exact ih _ (by rw [plc_n h]; omega) (by omega)
    · refine r_iconst d_68_24 rfl ?_
      refine r_goto (t := 29) d_68_25 rfl ?_
      refine r_iadd d_68_29 (by omega) ?_
      refine r_istore_n d_68_30 rfl (stl_3_1 rfl rfl) ?_
      refine r_iinc d_68_31 rfl (by omega) (stl_3_2 rfl rfl) ?_
      refine r_goto (t := 4) d_68_34 rfl ?_
      exact ih _ (by rw [plc_s, if_pos (by omega)]; omega) (by omega)
theorem scan_wok {t : Nat → Int} : ∀ {m i : Nat} {l : Int}, scan t m i l = -1 → ∀ j, i ≤ j → j < i + m → wok (t j)
  | 0, i, l, _, j, h1, h2 => by omega
  | m + 1, i, l, h, j, h1, h2 => by
    cases hs : stp l (t i) with
    | none =>
      rw [scan_no hs] at h
      omega
    | some l' =>
      rw [scan_st hs] at h
      by_cases hj : j = i
      · subst hj
        unfold stp at hs
        unfold wok
        by_cases q1 : isLt (t j) ∧ l < 6
        · exact Or.inr (Or.inl q1.1)
        · rw [if_neg q1] at hs
          by_cases q2 : isF (t j) ∧ l = -1
          · exact Or.inl q2.1
          · rw [if_neg q2] at hs
            by_cases q3 : t j = 43 ∧ l ≠ -1
            · exact Or.inr (Or.inr q3.1)
            · rw [if_neg q3] at hs
              cases hs
      · exact scan_wok h j (by omega) (by omega)
theorem c_tells {M : Mo} {L : Nat} {t : Nat → Int} (hT : TxC M L t) : CI 100 [(2, 0)] M (fun z M' => (scan t L 0 (-1) ≠ -1 ∧ z = -10 - scan t L 0 (-1) ∧ M' = M) ∨ (scan t L 0 (-1) = -1 ∧ z = 1 + plc t L ∧ Fr (fun x y => x = 77 ∨ (x = 75 ∧ y = 3)) M M' ∧ M' 75 3 = L ∧ ∀ i : Nat, i < L → M' 77 i = t i)) := by
  have hrng : ∀ (m i : Nat) (l : Int), -1 ≤ scan t m i l ∧ scan t m i l ≤ (i + m : Nat) := by
    intro m
    induction m with
    | zero =>
      intro i l
      show -1 ≤ (if l = -1 then (i : Int) else -1) ∧ (if l = -1 then (i : Int) else -1) ≤ _
      split <;> omega
    | succ m ih =>
      intro i l
      cases hs : stp l (t i) with
      | none => rw [scan_no hs]; omega
      | some l' =>
        rw [scan_st hs]
        have := ih (i + 1) l'
        omega
  have hr := hrng L 0 (-1)
  have hL := hT.2.1
  refine Cl.intro (L := [(2, 0), (9, 0)]) (rcv_v ow_100.2.1 sh_0) (by unfold entl; rw [mx_100]; rfl) (by rw [mx_100]; exact Nat.le_of_ble_eq_true rfl) rfl ?_
  refine r_aload_n d_100_0 rfl (by omega) ?_
  refine r_getc (ki := 5) d_100_1 q_100_46 rfl sh_0 fx_0_5 (by omega) ?_
  refine r_callvp d_100_4 q_100_245 rfl rfl (c_fault hT) ?_
  refine r_istore_n d_100_7 rfl (stl_2_1 rfl rfl) ?_
  refine r_iload_n d_100_8 rfl ?_
  refine r_iconst d_100_9 rfl ?_
  refine r_icmp_eq (t := 18) d_100_10 rfl (fun h => ?_) (fun h => ?_)
  · refine r_aload_n d_100_18 rfl (by omega) ?_
    refine r_getc (ki := 5) d_100_19 q_100_46 rfl sh_0 fx_0_5 (by omega) ?_
    refine r_callvr d_100_22 q_100_248 rfl rfl (c_takesText M) (fun M1 hM1 => ?_)
    obtain ⟨hF, h3, hc⟩ := hM1
    rw [hT.1] at h3
    have hb : ∀ i : Nat, i < L → M1 77 i = t i := fun i hi => (hc i (by omega) (by omega)).trans (hT.2.2 i hi)
    refine r_aload_n d_100_25 rfl (by omega) ?_
    refine r_getc (ki := 5) d_100_26 q_100_46 rfl sh_0 fx_0_5 (by omega) ?_
    refine r_callvp d_100_29 q_100_251 rfl rfl (c_terms h3 hL hb) ?_
    refine r_iret d_100_32 rt_100 ?_
    exact ⟨_, rfl, Or.inr ⟨h, rfl, hF, h3, hb⟩⟩
  · refine r_bipush d_100_13 rfl ?_
    refine r_iload_n d_100_15 rfl ?_
    refine r_isub d_100_16 (by omega) ?_
    refine r_iret d_100_17 rt_100 ?_
    exact ⟨_, rfl, Or.inl ⟨h, rfl, rfl⟩⟩
theorem c_valueRow {e : Nat} (he : e ≤ 1) {M : Mo} (hp : M 1 0 = pI e) {a : Int} (ha : shp S0 a = (0, 3)) {n : Nat} {A : Nat → Nat → Nat → Kf e} (hA : AA e M a n A) {l : Nat} {w : Nat → Int} (hw : WdC M l w) {i : Nat} (hi : i < 12) : PL 69 [(2, 75), (2, a), (0, (i : Int))] M (pv (wrow n A w l i)) := by
  obtain ⟨h1, h2, h3⟩ := hw
  have ha0 := shA_pos ha
  have h23 := pI23 he
  have hb := h23.b
  have hun := c_unit M hi
  rw [← pv_un (e := e) hi] at hun
  refine Cl.intro (L := [(2, 75), (2, a), (0, (i : Int)), (9, 0), (9, 0), (9, 0), (9, 0), (9, 0), (9, 0)]) (rcv_v ow_69.2.1 sh_75) (by unfold entl; rw [mx_69]; rfl) (by rw [mx_69]; exact Nat.le_of_ble_eq_true rfl) rfl ?_
  refine r_lconst d_69_0 rfl ?_
  refine r_lstore_n d_69_1 rfl (stw_9_3 rfl rfl) ?_
  refine r_iconst d_69_2 rfl ?_
  refine r_istore d_69_3 rfl (stl_9_5 rfl rfl) ?_
  refine r_iload_n d_69_5 rfl ?_
  refine r_callsl d_69_6 q_69_57 rfl rfl hun ?_
  refine r_lstore d_69_9 rfl (stw_9_6 rfl rfl) ?_
  refine r_iconst d_69_11 rfl ?_
  refine r_istore d_69_12 rfl (stl_9_8 rfl rfl) ?_
  refine dn_ind (R := fun k => ∀ (s c v : Int), s = pv (wfold n A w i k.toNat).1 → c = vl (wfold n A w i k.toNat).2.1 → v = pv (wfold n A w i k.toNat).2.2 → Rn 69 14 [(2, 75), (2, a), (0, (i : Int)), (1, s), (9, 0), (0, c), (1, v), (9, 0), (0, k)] [] M _) (lo := 0) (n := l) ?_ ?_ 0 (by omega) (by omega) 0 1 (pv (un i : Vc e)) (by show (0 : Int) = pv (z0 : Vc e); rw [pv_z0]) rfl rfl
  · intro s c v hs hc hv
    rw [show ((l : Int)).toNat = l by omega] at hs hc hv
    have hvb := vl_b he (wfold n A w i l).2.1
    have hpt := c_plusTimes he M hp (wfold n A w i l).1 (wfold n A w i l).2.2 (c := c) (by omega)
    rw [hc, kI_vl] at hpt
    rw [hs, hc, hv]
    refine r_iload d_69_14 rfl ?_
    refine r_aload_n d_69_16 rfl (by omega) ?_
    refine r_getfv (ki := 3) d_69_17 q_69_19 rfl sh_75 h1 ?_
    refine r_icmp_ge (t := 120) d_69_20 rfl (fun _ => ?_) (fun hz => absurd (by omega) hz)
    refine r_aload_n d_69_120 rfl (by omega) ?_
    refine r_getc (ki := 0) d_69_121 q_69_25 rfl sh_75 fx_75_0 (by omega) ?_
    refine r_lload_n d_69_124 rfl ?_
    refine r_iload d_69_125 rfl ?_
    refine r_lload d_69_127 rfl ?_
    refine r_callvl d_69_129 q_69_73 rfl rfl hpt ?_
    refine r_lret d_69_132 rt_69 ?_
    exact ⟨rfl, rfl⟩
  · intro k k1 k2 ih s c v hs hc hv
    obtain ⟨m, rfl⟩ : ∃ m : Nat, k = m := ⟨k.toNat, by omega⟩
    rw [show ((m : Int)).toNat = m by omega] at hs hc hv
    rw [show ((m : Int) + 1).toNat = m + 1 by omega] at ih
    obtain ⟨hm1, hm2⟩ := h3 m (by omega)
    refine r_iload d_69_14 rfl ?_
    refine r_aload_n d_69_16 rfl (by omega) ?_
    refine r_getfv (ki := 3) d_69_17 q_69_19 rfl sh_75 h1 ?_
    refine r_icmp_ge (t := 120) d_69_20 rfl (fun hz => absurd hz (by omega)) (fun _ => ?_)
    refine r_aload_n d_69_23 rfl (by omega) ?_
    refine r_getc (ki := 4) d_69_24 q_69_22 rfl sh_75 fx_75_4 (by omega) ?_
    refine r_iload d_69_27 rfl ?_
    refine r_ialoadv d_69_29 sh_77 (by omega) (by omega) hm1 ?_
    refine r_callsp d_69_30 q_69_48 rfl rfl (c_isDigit M (w m)) ?_
    unfold wfold at ih
    by_cases q1 : isF (w m)
    · rw [if_pos q1] at ih ⊢
      refine r_if_eq (t := 58) d_69_33 rfl (fun hz => absurd hz (by decide)) (fun _ => ?_)
      refine r_aload_n d_69_36 rfl (by omega) ?_
      refine r_getc (ki := 0) d_69_37 q_69_25 rfl sh_75 fx_75_0 (by omega) ?_
      refine r_aload_n d_69_40 rfl (by omega) ?_
      refine r_getc (ki := 4) d_69_41 q_69_22 rfl sh_75 fx_75_4 (by omega) ?_
      refine r_iload d_69_44 rfl ?_
      refine r_ialoadv d_69_46 sh_77 (by omega) (by omega) hm1 ?_
      refine r_bipush d_69_47 rfl ?_
      refine r_isub d_69_49 (by omega) ?_
      refine r_callvp d_69_50 q_69_61 rfl rfl (c_modulo M hp h23 (by omega)) ?_
      refine r_istore d_69_53 rfl (stl_9_5 rfl rfl) ?_
      refine r_goto (t := 114) d_69_55 rfl ?_
      refine r_iinc d_69_114 rfl (by omega) (stl_9_8 rfl rfl) ?_
      refine r_goto (t := 14) d_69_117 rfl ?_
      exact ih _ _ _ hs (vl_kI _).symm hv
    · rw [if_neg q1] at ih ⊢
      refine r_if_eq (t := 58) d_69_33 rfl (fun _ => ?_) (fun hz => absurd rfl hz)
      refine r_aload_n d_69_58 rfl (by omega) ?_
      refine r_getc (ki := 4) d_69_59 q_69_22 rfl sh_75 fx_75_4 (by omega) ?_
      refine r_iload d_69_62 rfl ?_
      refine r_ialoadv d_69_64 sh_77 (by omega) (by omega) hm1 ?_
      refine r_callsp d_69_65 q_69_38 rfl rfl (c_isLetter M (w m)) ?_
      by_cases q2 : isLt (w m)
      · rw [if_pos q2] at ih ⊢
        have him := c_image he hp ha hA (g := (w m - 97).toNat) (by omega) (wfold n A w i m).2.2
        rw [show (((w m - 97).toNat : Nat) : Int) = w m - 97 by omega] at him
        rw [hv]
        refine r_if_eq (t := 92) d_69_68 rfl (fun hz => absurd hz (by decide)) (fun _ => ?_)
        refine r_aload_n d_69_71 rfl (by omega) ?_
        refine r_aload_n d_69_72 rfl (by omega) ?_
        refine r_getc (ki := 4) d_69_73 q_69_22 rfl sh_75 fx_75_4 (by omega) ?_
        refine r_iload d_69_76 rfl ?_
        refine r_ialoadv d_69_78 sh_77 (by omega) (by omega) hm1 ?_
        refine r_bipush d_69_79 rfl ?_
        refine r_isub d_69_81 (by omega) ?_
        refine r_lload d_69_82 rfl ?_
        refine r_callvl d_69_84 q_69_67 rfl rfl him ?_
        refine r_lstore d_69_87 rfl (stw_9_6 rfl rfl) ?_
        refine r_goto (t := 114) d_69_89 rfl ?_
        refine r_iinc d_69_114 rfl (by omega) (stl_9_8 rfl rfl) ?_
        refine r_goto (t := 14) d_69_117 rfl ?_
        exact ih _ _ _ hs hc rfl
      · rw [if_neg q2] at ih ⊢
        have hvb := vl_b he (wfold n A w i m).2.1
        have hpt := c_plusTimes he M hp (wfold n A w i m).1 (wfold n A w i m).2.2 (c := c) (by omega)
        rw [hc, kI_vl] at hpt
        rw [hs, hc, hv]
        refine r_if_eq (t := 92) d_69_68 rfl (fun _ => ?_) (fun hz => absurd rfl hz)
        refine r_aload_n d_69_92 rfl (by omega) ?_
        refine r_getc (ki := 0) d_69_93 q_69_25 rfl sh_75 fx_75_0 (by omega) ?_
        refine r_lload_n d_69_96 rfl ?_
        refine r_iload d_69_97 rfl ?_
        refine r_lload d_69_99 rfl ?_
        refine r_callvl d_69_101 q_69_73 rfl rfl hpt ?_
        refine r_lstore_n d_69_104 rfl (stw_9_3 rfl rfl) ?_
        refine r_iconst d_69_105 rfl ?_
        refine r_istore d_69_106 rfl (stl_9_5 rfl rfl) ?_
        refine r_iload_n d_69_108 rfl ?_
        refine r_callsl d_69_109 q_69_57 rfl rfl hun ?_
        refine r_lstore d_69_112 rfl (stw_9_6 rfl rfl) ?_
        refine r_iinc d_69_114 rfl (by omega) (stl_9_8 rfl rfl) ?_
        refine r_goto (t := 14) d_69_117 rfl ?_
        exact ih _ _ _ rfl rfl rfl
theorem c_word_bad (M : Mo) (hb : cbC M) {s : Sst} (hc : cuC M s) {k i j : Int} (h : ¬ okW s k i j) : PJ 101 [(2, 0), (0, k), (0, i), (0, j)] M (-2) (up2 M 0 11 (M 0 11 + 1)) := by
  have hbad := c_fails_b M hb
  refine Cl.intro (L := [(2, 0), (0, k), (0, i), (0, j)]) (rcv_v ow_101.2.1 sh_0) (by unfold entl; rw [mx_101]; rfl) (by rw [mx_101]; exact Nat.le_of_ble_eq_true rfl) rfl ?_
  have key : Rn 101 18 [(2, 0), (0, k), (0, i), (0, j)] [] M (fun v M' => v = some (0, -2) ∧ M' = up2 M 0 11 (M 0 11 + 1)) := by
    refine r_aload_n d_101_18 rfl (by omega) ?_
    refine r_bipush d_101_19 rfl ?_
    refine r_callvj d_101_21 q_101_91 rfl rfl hbad ?_
    refine r_iret d_101_24 rt_101 ?_
    exact ⟨rfl, rfl⟩
  refine r_aload_n d_101_0 rfl (by omega) ?_
  refine r_iload_n d_101_1 rfl ?_
  refine r_iload_n d_101_2 rfl ?_
  refine r_callvp d_101_3 q_101_133 rfl rfl (c_isPlace hc k i) ?_
  by_cases h1 : (0 ≤ k ∧ k ≤ 3) ∧ 0 ≤ i ∧ i < s.2.1 k.toNat
  · rw [if_pos h1]
    refine r_if_eq (t := 18) d_101_6 rfl (fun hz => absurd hz (by decide)) (fun _ => ?_)
    refine r_aload_n d_101_9 rfl (by omega) ?_
    refine r_iload_n d_101_10 rfl ?_
    refine r_iload_n d_101_11 rfl ?_
    refine r_callvp d_101_12 q_101_133 rfl rfl (c_isPlace hc k j) ?_
    rw [if_neg (fun q => h ⟨h1.1, h1.2, q.2⟩)]
    refine r_if_ne (t := 25) d_101_15 rfl (fun hz => absurd hz (fun q => q rfl)) (fun _ => ?_)
    exact key
  · rw [if_neg h1]
    refine r_if_eq (t := 18) d_101_6 rfl (fun _ => ?_) (fun hz => absurd rfl hz)
    exact key
theorem c_word {M : Mo} {s : Sst} (hv : vs s) (hc : cuC M s) {l : Nat} {w : Nat → Int} (hw : WdC M l w) {k i j : Nat} (hk : k < 4) (hi : i < s.2.1 k) (hj : j < s.2.1 k) : PI 101 [(2, 0), (0, (k : Int)), (0, (i : Int)), (0, (j : Int))] M (vl (wrow (s.2.1 k) (mdA s k) w l i j)) := by
  have h6 := vs_6 hv hk
  have hkt : ((k : Int)).toNat = k := by omega
  have hvr := c_valueRow hv.1 hc.1 (shM hk) (hc.2 k hk) hw (i := i) (by omega)
  refine Cl.intro (L := [(2, 0), (0, (k : Int)), (0, (i : Int)), (0, (j : Int))]) (rcv_v ow_101.2.1 sh_0) (by unfold entl; rw [mx_101]; rfl) (by rw [mx_101]; exact Nat.le_of_ble_eq_true rfl) rfl ?_
  refine r_aload_n d_101_0 rfl (by omega) ?_
  refine r_iload_n d_101_1 rfl ?_
  refine r_iload_n d_101_2 rfl ?_
  refine r_callvp d_101_3 q_101_133 rfl rfl (c_isPlace hc k i) ?_
  rw [hkt, if_pos ⟨by omega, by omega, by omega⟩]
  refine r_if_eq (t := 18) d_101_6 rfl (fun hz => absurd hz (by decide)) (fun _ => ?_)
  refine r_aload_n d_101_9 rfl (by omega) ?_
  refine r_iload_n d_101_10 rfl ?_
  refine r_iload_n d_101_11 rfl ?_
  refine r_callvp d_101_12 q_101_133 rfl rfl (c_isPlace hc k j) ?_
  rw [hkt, if_pos ⟨by omega, by omega, by omega⟩]
  refine r_if_ne (t := 25) d_101_15 rfl (fun _ => ?_) (fun hz => absurd (by decide) hz)
  refine r_aload_n d_101_25 rfl (by omega) ?_
  refine r_getc (ki := 5) d_101_26 q_101_46 rfl sh_0 fx_0_5 (by omega) ?_
  refine r_aload_n d_101_29 rfl (by omega) ?_
  refine r_getc (ki := 1) d_101_30 q_101_18 rfl sh_0 fx_0_1 (by omega) ?_
  refine r_iload_n d_101_33 rfl ?_
  refine r_aaloadc d_101_34 sh_2 (by decide) (by omega) (by omega) (fxM (by omega) (by omega)) (by omega) ?_
  refine r_iload_n d_101_35 rfl ?_
  refine r_callvl d_101_36 q_101_254 rfl rfl hvr ?_
  refine r_iload_n d_101_39 rfl ?_
  refine r_callsp d_101_40 q_101_258 rfl rfl (c_elemV hv.1 M _ (by omega)) ?_
  refine r_iret d_101_43 rt_101 ?_
  exact ⟨rfl, rfl⟩
theorem c_toldNumber {M : Mo} {b0 b1 b2 p : Int} {h L : Nat} (h0 : M 0 11 = b0) (h1 : M 0 12 = b1) (h2 : M 0 13 = b2) (h3 : M 8 1 = h) (h4 : M 1 0 = p) (h5 : M 75 1 = L) {x : Int} (hx : 0 ≤ x ∧ x ≤ 5) : PI 108 [(2, 0), (0, x)] M (tdV b0 b1 b2 h p L x) := by
  refine Cl.intro (L := [(2, 0), (0, x)]) (rcv_v ow_108.2.1 sh_0) (by unfold entl; rw [mx_108]; rfl) (by rw [mx_108]; exact Nat.le_of_ble_eq_true rfl) rfl ?_
  refine r_iload_n d_108_0 rfl ?_
  rcases (show x = 0 ∨ x = 1 ∨ x = 2 ∨ x = 3 ∨ x = 4 ∨ x = 5 by omega) with rfl | rfl | rfl | rfl | rfl | rfl
  · refine r_tabin (t := 36) d_108_1 (by decide) rfl rfl ?_
    refine r_aload_n d_108_36 rfl (by omega) ?_
    refine r_getfv (ki := 11) d_108_37 q_108_81 rfl sh_0 h0 ?_
    refine r_iret d_108_40 rt_108 ?_
    exact ⟨rfl, rfl⟩
  · refine r_tabin (t := 41) d_108_1 (by decide) rfl rfl ?_
    refine r_aload_n d_108_41 rfl (by omega) ?_
    refine r_getfv (ki := 12) d_108_42 q_108_85 rfl sh_0 h1 ?_
    refine r_iret d_108_45 rt_108 ?_
    exact ⟨rfl, rfl⟩
  · refine r_tabin (t := 46) d_108_1 (by decide) rfl rfl ?_
    refine r_aload_n d_108_46 rfl (by omega) ?_
    refine r_getfv (ki := 13) d_108_47 q_108_88 rfl sh_0 h2 ?_
    refine r_iret d_108_50 rt_108 ?_
    exact ⟨rfl, rfl⟩
  · refine r_tabin (t := 51) d_108_1 (by decide) rfl rfl ?_
    refine r_aload_n d_108_51 rfl (by omega) ?_
    refine r_getc (ki := 4) d_108_52 q_108_39 rfl sh_0 fx_0_4 (by omega) ?_
    refine r_getfv (ki := 1) d_108_55 q_108_283 rfl sh_8 h3 ?_
    refine r_iret d_108_58 rt_108 ?_
    exact ⟨rfl, rfl⟩
  · refine r_tabin (t := 59) d_108_1 (by decide) rfl rfl ?_
    refine r_aload_n d_108_59 rfl (by omega) ?_
    refine r_getc (ki := 0) d_108_60 q_108_10 rfl sh_0 fx_0_0 (by omega) ?_
    refine r_getfv (ki := 0) d_108_63 q_108_99 rfl sh_1 h4 ?_
    refine r_iret d_108_66 rt_108 ?_
    exact ⟨rfl, rfl⟩
  · refine r_tabout (t := 67) d_108_1 (by decide) rfl ?_
    refine r_aload_n d_108_67 rfl (by omega) ?_
    refine r_getc (ki := 5) d_108_68 q_108_46 rfl sh_0 fx_0_5 (by omega) ?_
    refine r_getfv (ki := 1) d_108_71 q_108_239 rfl sh_75 h5 ?_
    refine r_iret d_108_74 rt_108 ?_
    exact ⟨rfl, rfl⟩
theorem c_told_bad (M : Mo) (hb : cbC M) {x : Int} (h : ¬ (0 ≤ x ∧ x ≤ 5)) : PJ 105 [(2, 0), (0, x)] M (-2) (up2 M 0 11 (M 0 11 + 1)) := by
  have hbad := c_fails_b M hb
  refine Cl.intro (L := [(2, 0), (0, x)]) (rcv_v ow_105.2.1 sh_0) (by unfold entl; rw [mx_105]; rfl) (by rw [mx_105]; exact Nat.le_of_ble_eq_true rfl) rfl ?_
  have key : Rn 105 17 [(2, 0), (0, x)] [] M (fun v M' => v = some (0, -2) ∧ M' = up2 M 0 11 (M 0 11 + 1)) := by
    refine r_aload_n d_105_17 rfl (by omega) ?_
    refine r_bipush d_105_18 rfl ?_
    refine r_callvj d_105_20 q_105_91 rfl rfl hbad ?_
    refine r_iret d_105_23 rt_105 ?_
    exact ⟨rfl, rfl⟩
  refine r_iload_n d_105_0 rfl ?_
  refine r_if_lt (t := 17) d_105_1 rfl (fun h1 => ?_) (fun h1 => ?_)
  · exact key
  · refine r_iload_n d_105_4 rfl ?_
    refine r_iconst d_105_5 rfl ?_
    refine r_icmp_gt (t := 17) d_105_6 rfl (fun _ => ?_) (fun hz => absurd (by omega) hz)
    exact key
theorem c_told {M : Mo} {b0 b1 b2 p : Int} {h L : Nat} (h0 : M 0 11 = b0) (h1 : M 0 12 = b1) (h2 : M 0 13 = b2) (h3 : M 8 1 = h) (h4 : M 1 0 = p) (h5 : M 75 1 = L) {x : Int} (hx : 0 ≤ x ∧ x ≤ 5) : PI 105 [(2, 0), (0, x)] M (tdV b0 b1 b2 h p L x) := by
  refine Cl.intro (L := [(2, 0), (0, x)]) (rcv_v ow_105.2.1 sh_0) (by unfold entl; rw [mx_105]; rfl) (by rw [mx_105]; exact Nat.le_of_ble_eq_true rfl) rfl ?_
  refine r_iload_n d_105_0 rfl ?_
  refine r_if_lt (t := 17) d_105_1 rfl (fun hz => absurd hz (by omega)) (fun _ => ?_)
  refine r_iload_n d_105_4 rfl ?_
  refine r_iconst d_105_5 rfl ?_
  refine r_icmp_gt (t := 17) d_105_6 rfl (fun hz => absurd hz (by omega)) (fun _ => ?_)
  refine r_aload_n d_105_9 rfl (by omega) ?_
  refine r_iload_n d_105_10 rfl ?_
  refine r_callvp d_105_11 q_105_287 rfl rfl (c_toldNumber h0 h1 h2 h3 h4 h5 hx) ?_
  refine r_goto (t := 23) d_105_14 rfl ?_
  refine r_iret d_105_23 rt_105 ?_
  exact ⟨rfl, rfl⟩
theorem c_digest {M : Mo} {s : Sst} (hv : vs s) (hc : cuC M s) {l : Nat} {w : Nat → Int} (hw : WdC M l w) {b0 b1 b2 : Int} {h L : Nat} (h0 : M 0 11 = b0) (h1 : M 0 12 = b1) (h2 : M 0 13 = b2) (h3 : M 8 1 = h) (h5 : M 75 1 = L) : PL 106 [(2, 0)] M (fd (fun a => vl (wrow (s.2.1 0) (mdA s 0) w l (a / s.2.1 0) (a % s.2.1 0))) (fdA s (fd (fun x => tdV b0 b1 b2 h (pI s.1) L x) 1562 6) 4) (s.2.1 0 * s.2.1 0)) := by
  refine Cl.intro (L := [(2, 0), (9, 0), (9, 0), (9, 0), (9, 0)]) (rcv_v ow_106.2.1 sh_0) (by unfold entl; rw [mx_106]; rfl) (by rw [mx_106]; exact Nat.le_of_ble_eq_true rfl) rfl ?_
  refine r_ldc2_w d_106_0 q_106_290 ?_
  refine r_lstore_n d_106_3 rfl (stw_5_1 rfl rfl) ?_
  refine r_iconst d_106_4 rfl ?_
  refine r_istore_n d_106_5 rfl (stl_5_3 rfl rfl) ?_
  refine dn_ind (R := fun x => ∀ (g : Int) (y : AV), g = fd (fun x => tdV b0 b1 b2 h (pI s.1) L x) 1562 x.toNat → Rn 106 6 [(2, 0), (1, g), (9, 0), (0, x), y] [] M _) (lo := 0) (n := 6) ?_ ?_ 0 (by omega) (by omega) 1562 (9, 0) rfl
  · intro g y hg
    have hg : g = fd (fun x => tdV b0 b1 b2 h (pI s.1) L x) 1562 6 := hg
    rw [← hg]
    refine r_iload_n d_106_6 rfl ?_
    refine r_iconst d_106_7 rfl ?_
    refine r_icmp_gt (t := 30) d_106_8 rfl (fun _ => ?_) (fun hz => absurd (by omega) hz)
    refine r_iconst d_106_30 rfl ?_
    refine r_istore_n d_106_31 rfl (stl_5_3 rfl rfl) ?_
    refine dn_ind (R := fun k => ∀ (q : Int) (y : AV), q = fdA s g k.toNat → Rn 106 32 [(2, 0), (1, q), (9, 0), (0, k), y] [] M _) (lo := 0) (n := 4) ?_ ?_ 0 (by omega) (by omega) g y rfl
    · intro q y hq
      have hq : q = fdA s g 4 := hq
      rw [← hq]
      have h6 := vs_6 hv (show 0 < 4 by omega)
      have hA0 : AA s.1 M 209 (s.2.1 0) (mdA s 0) := hc.2 0 (by omega)
      have hs0 : shp S0 209 = (0, 3) := shM (i := 0) (by omega)
      refine r_iload_n d_106_32 rfl ?_
      refine r_iconst d_106_33 rfl ?_
      refine r_icmp_ge (t := 54) d_106_34 rfl (fun _ => ?_) (fun hz => absurd (by omega) hz)
      refine r_aload_n d_106_54 rfl (by omega) ?_
      refine r_getc (ki := 1) d_106_55 q_106_18 rfl sh_0 fx_0_1 (by omega) ?_
      refine r_iconst d_106_58 rfl ?_
      refine r_aaloadc d_106_59 sh_2 (by decide) (by omega) (by omega) (fxM (by omega) (by omega)) (by omega) ?_
      refine r_getfv (ki := 1) d_106_60 q_106_149 rfl hs0 hA0.1 ?_
      refine r_istore_n d_106_63 rfl (stl_5_3 rfl rfl) ?_
      refine r_iconst d_106_64 rfl ?_
      refine r_istore d_106_65 rfl (stl_5_4 rfl rfl) ?_
      refine dn_ind (R := fun i => ∀ (r : Int), r = fd (fun a => vl (wrow (s.2.1 0) (mdA s 0) w l (a / s.2.1 0) (a % s.2.1 0))) q (i.toNat * s.2.1 0) → Rn 106 67 [(2, 0), (1, r), (9, 0), (0, (s.2.1 0 : Int)), (0, i)] [] M _) (lo := 0) (n := (s.2.1 0 : Int)) ?_ ?_ 0 (by omega) (by omega) q (by show _ = fd _ q (0 * s.2.1 0); rw [Nat.zero_mul]; rfl)
      · intro r hr
        rw [show ((s.2.1 0 : Nat) : Int).toNat = s.2.1 0 by omega] at hr
        refine r_iload d_106_67 rfl ?_
        refine r_iload_n d_106_69 rfl ?_
        refine r_icmp_ge (t := 100) d_106_70 rfl (fun _ => ?_) (fun hz => absurd (by omega) hz)
        refine r_lload_n d_106_100 rfl ?_
        refine r_lret d_106_101 rt_106 ?_
        exact ⟨by rw [hr], rfl⟩
      · intro i i1 i2 ih r hr
        obtain ⟨m, rfl⟩ : ∃ m : Nat, i = m := ⟨i.toNat, by omega⟩
        rw [show ((m : Int)).toNat = m by omega] at hr
        rw [show ((m : Int) + 1).toNat = m + 1 by omega] at ih
        have hvr := c_valueRow hv.1 hc.1 hs0 hA0 hw (i := m) (by omega)
        refine r_iload d_106_67 rfl ?_
        refine r_iload_n d_106_69 rfl ?_
        refine r_icmp_ge (t := 100) d_106_70 rfl (fun hz => absurd hz (by omega)) (fun _ => ?_)
        refine r_lload_n d_106_73 rfl ?_
        refine r_aload_n d_106_74 rfl (by omega) ?_
        refine r_getc (ki := 5) d_106_75 q_106_46 rfl sh_0 fx_0_5 (by omega) ?_
        refine r_aload_n d_106_78 rfl (by omega) ?_
        refine r_getc (ki := 1) d_106_79 q_106_18 rfl sh_0 fx_0_1 (by omega) ?_
        refine r_iconst d_106_82 rfl ?_
        refine r_aaloadc d_106_83 sh_2 (by decide) (by omega) (by omega) (fxM (by omega) (by omega)) (by omega) ?_
        refine r_iload d_106_84 rfl ?_
        refine r_callvl d_106_86 q_106_254 rfl rfl hvr ?_
        refine r_iload_n d_106_89 rfl ?_
        refine r_callsl d_106_90 q_106_298 rfl rfl (c_rowOnto hv.1 M r _ h6) ?_
        refine r_lstore_n d_106_93 rfl (stw_5_1 rfl rfl) ?_
        refine r_iinc d_106_94 rfl (by omega) (stl_5_4 rfl rfl) ?_
        refine r_goto (t := 67) d_106_97 rfl ?_
        refine ih _ ?_
        rw [Nat.add_mul, Nat.one_mul, fd_add, ← hr]
        refine fd_congr (fun j hj => ?_)
        have e1 : (m * s.2.1 0 + j) / s.2.1 0 = m := by rw [Nat.mul_comm, Nat.mul_add_div (by omega), Nat.div_eq_of_lt hj]; omega
        have e2 : (m * s.2.1 0 + j) % s.2.1 0 = j := by rw [Nat.mul_comm, Nat.mul_add_mod, Nat.mod_eq_of_lt hj]
        rw [e1, e2]
    · intro k k1 k2 ih q y hq
      obtain ⟨m, rfl⟩ : ∃ m : Nat, k = m := ⟨k.toNat, by omega⟩
      rw [show ((m : Int)).toNat = m by omega] at hq
      rw [show ((m : Int) + 1).toNat = m + 1 by omega] at ih
      have hdg := c_digestOnto hv.1 (shM (show m < 4 by omega)) (hc.2 m (by omega)) q
      refine r_iload_n d_106_32 rfl ?_
      refine r_iconst d_106_33 rfl ?_
      refine r_icmp_ge (t := 54) d_106_34 rfl (fun hz => absurd hz (by omega)) (fun _ => ?_)
      refine r_aload_n d_106_37 rfl (by omega) ?_
      refine r_getc (ki := 1) d_106_38 q_106_18 rfl sh_0 fx_0_1 (by omega) ?_
      refine r_iload_n d_106_41 rfl ?_
      refine r_aaloadc d_106_42 sh_2 (by decide) (by omega) (by omega) (fxM (by omega) (by omega)) (by omega) ?_
      refine r_lload_n d_106_43 rfl ?_
      refine r_callvl d_106_44 q_106_294 rfl rfl hdg ?_
      refine r_lstore_n d_106_47 rfl (stw_5_1 rfl rfl) ?_
      refine r_iinc d_106_48 rfl (by omega) (stl_5_3 rfl rfl) ?_
      refine r_goto (t := 32) d_106_51 rfl ?_
      refine ih _ _ ?_
      show _ = fdM s m (fdA s g m)
      unfold fdM
      rw [← hq]
      refine fd_congr (fun d hd => ?_)
      obtain ⟨g', i', j', a1, a2, a3, rfl⟩ := ixs hd
      obtain ⟨d1, d2, d3⟩ := ixd (g := g') a2 a3
      rw [sqA_at a2 a3, d1, d2, d3]
      exact md_vl hv (by omega) a1 a2 a3
  · intro x x1 x2 ih g y hg
    obtain ⟨m, rfl⟩ : ∃ m : Nat, x = m := ⟨x.toNat, by omega⟩
    rw [show ((m : Int)).toNat = m by omega] at hg
    rw [show ((m : Int) + 1).toNat = m + 1 by omega] at ih
    refine r_iload_n d_106_6 rfl ?_
    refine r_iconst d_106_7 rfl ?_
    refine r_icmp_gt (t := 30) d_106_8 rfl (fun hz => absurd hz (by omega)) (fun _ => ?_)
    refine r_ldc2_w d_106_11 q_106_292 ?_
    refine r_lload_n d_106_14 rfl ?_
    refine r_lmulw d_106_15 ?_
    refine r_aload_n d_106_16 rfl (by omega) ?_
    refine r_iload_n d_106_17 rfl ?_
    refine r_callvp d_106_18 q_106_287 rfl rfl (c_toldNumber h0 h1 h2 h3 hc.1 h5 (by omega)) ?_
    refine r_i2l d_106_21 ?_
    refine r_laddw d_106_22 ?_
    refine r_lstore_n d_106_23 rfl (stw_5_1 rfl rfl) ?_
    refine r_iinc d_106_24 rfl (by omega) (stl_5_3 rfl rfl) ?_
    refine r_goto (t := 6) d_106_27 rfl ?_
    exact ih _ _ (by rw [hg]; rfl)
