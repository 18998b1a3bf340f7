/-! The model: the word, its null space. -/
def wok (c : Int) : Prop := isF c ∨ isLt c ∨ c = 43
def Wd (M : Mo) (l : Nat) (w : Nat → Int) : Prop := M 217 33 = l ∧ l ≤ 40 ∧ ∀ i : Nat, i < l → M 243 i = w i ∧ wok (w i)
def wfold {e : Nat} (n : Nat) (A : Nat → Nat → Nat → Kf e) (w : Nat → Int) (i : Nat) : Nat → Vc e × Kf e × Vc e
  | 0 => (z0, 1, un i)
  | k + 1 => if isF (w k) then ((wfold n A w i k).1, kI e (w k - 48), (wfold n A w i k).2.2) else if isLt (w k) then ((wfold n A w i k).1, (wfold n A w i k).2.1, mv n (A (w k - 97).toNat) (wfold n A w i k).2.2) else (lc (wfold n A w i k).1 (wfold n A w i k).2.1 (wfold n A w i k).2.2, 1, un i)
def wrow {e : Nat} (n : Nat) (A : Nat → Nat → Nat → Kf e) (w : Nat → Int) (l i : Nat) : Vc e := lc (wfold n A w i l).1 (wfold n A w i l).2.1 (wfold n A w i l).2.2
theorem wf_c {e n : Nat} {A : Nat → Nat → Nat → Kf e} {w : Nat → Int} {i i' : Nat} : ∀ k : Nat, (wfold n A w i k).2.1 = (wfold n A w i' k).2.1
  | 0 => rfl
  | k + 1 => by
    unfold wfold
    by_cases h1 : isF (w k)
    · rw [if_pos h1, if_pos h1]
    · by_cases h2 : isLt (w k)
      · rw [if_neg h1, if_neg h1, if_pos h2, if_pos h2]
        exact wf_c k
      · rw [if_neg h1, if_neg h1, if_neg h2, if_neg h2]
theorem rws.congr {e n : Nat} {f : Int → Int} {ν μ : Nat → Vc e} (h : rws n f ν) (hq : ∀ i, i < n → ν i = μ i) : rws n f μ := ⟨h.1, fun i j h1 h2 => by rw [← hq i h1]; exact h.2 i j h1 h2⟩
theorem m_tellsWord {e : Nat} (he : e ≤ 1) (M : Mo) (hp : M 217 1 = pI e) {k : Int} {n : Nat} {A : Nat → Nat → Nat → Kf e} (hk : 0 ≤ k ∧ k ≤ 10) (hM : MM e M k n A) {l : Nat} {w : Nat → Int} (hw : Wd M l w) : CV 204 [(2, 217), (0, k)] M (fun M' => Fr W1 M M' ∧ rws n (M' 244) (wrow n A w l)) := by
  refine Cl.intro (L := [(2, 217), (0, k), (9, 0), (9, 0), (9, 0)]) (rcv_v ow_204.2.1 sh_217) (by unfold entl; rw [mx_204]; rfl) (by rw [mx_204]; exact Nat.le_of_ble_eq_true rfl) rfl ?_
  have h23 := pI23 he
  have hpb := h23.b
  have hn6 : n ≤ 6 := by have := hM.2.1; unfold nb at this; omega
  obtain ⟨w1, w2, w3⟩ := hw
  have hself := WD_self M
  refine r_iconst d_204_0 rfl ?_
  refine r_istore_n d_204_1 rfl (stl_5_2 rfl rfl) ?_
  refine dn_ind (R := fun x => ∀ a : Int → Int, (∀ x' : Int, 0 ≤ x' → x' < x → a x' = 0) → Rn 204 2 [(2, 217), (0, k), (0, x), (9, 0), (9, 0)] [] (WD M a (M 245) (M 246)) _) (lo := 0) (n := 36) ?_ ?_ 0 (by omega) (by omega) (M 244) (fun x' h1 h2 => by omega) |> (fun k => by rw [hself] at k; exact k)
  · intro a ha
    have hra : rws (e := e) n a (fun _ => z0) := ⟨fun x h1 h2 => by rw [ha x h1 h2]; omega, fun i j h1 h2 => by rw [ha _ (by omega) (by omega)]; rfl⟩
    refine r_iload_n d_204_2 rfl ?_
    refine r_bipush d_204_3 rfl ?_
    refine r_icmp_ge (t := 21) d_204_5 rfl (fun _ => ?_) (fun hz => absurd (by omega) hz)
    refine r_aload_n d_204_21 rfl (by omega) ?_
    refine r_callvr d_204_22 q_204_288 rfl rfl (m_beginsTerm (e := e) M n hn6 a (M 245) (M 246)) (fun M1 hM1 => ?_)
    obtain ⟨b0, rfl, hb0⟩ := hM1
    refine r_iconst d_204_25 rfl ?_
    refine r_istore_n d_204_26 rfl (stl_5_2 rfl rfl) ?_
    refine r_iconst d_204_27 rfl ?_
    refine r_istore_n d_204_28 rfl (stl_5_3 rfl rfl) ?_
    have hMM : ∀ a b c, MM e (WD M a b c) k n A := fun a b c => hM.w1 WD_fr
    refine dn_ind (R := fun x => ∀ (a b c : Int → Int) (o : Int) (y4 : AV), 0 ≤ o ∧ o ≤ 2 → rws n a (fun i => (wfold n A w i x.toNat).1) → rws n b (fun i => (wfold n A w i x.toNat).2.2) → kI e o = (wfold n A w 0 x.toNat).2.1 → Rn 204 29 [(2, 217), (0, k), (0, o), (0, x), y4] [] (WD M a b c) _) (lo := 0) (n := (l : Int)) ?_ ?_ 0 (by omega) (by omega) a b0 _ 1 _ (by omega) hra hb0 (by apply vl_inj; rw [vl_kI]; unfold pI; show 1 % ((e : Int) + 2) = 1; exact Int.emod_eq_of_lt (by omega) (by omega))
    · intro a b c o y4 ho h1 h2 h3
      rw [Int.toNat_natCast] at h1 h2 h3
      refine r_iload_n d_204_29 rfl ?_
      refine r_aload_n d_204_30 rfl (by omega) ?_
      refine r_getfv (ki := 33) d_204_31 q_204_95 rfl sh_217 ((WD_o (by decide)).trans w1) ?_
      refine r_icmp_ge (t := 105) d_204_34 rfl (fun _ => ?_) (fun hz => absurd (by omega) hz)
      refine r_aload_n d_204_105 rfl (by omega) ?_
      refine r_iload_n d_204_106 rfl ?_
      refine r_callvr d_204_107 q_204_291 rfl rfl (m_endsTerm he M hp hn6 h1 h2 ho) (fun M2 hM2 => ?_)
      obtain ⟨a', rfl, ha'⟩ := hM2
      refine r_vret d_204_110 rt_204 ?_
      refine ⟨rfl, WD_fr, ?_⟩
      have e1 : WD M a' b c 244 = a' := funext (fun y => WD_a)
      rw [e1]
      refine ha'.congr (fun i hi => ?_)
      show lc _ (kI e o) _ = wrow n A w l i
      unfold wrow
      rw [h3, wf_c (i := 0) (i' := i)]
    · intro x x1 x2 ih a b c o y4 ho h1 h2 h3
      have hw3 := w3 x.toNat (by omega)
      have hwx : WD M a b c 243 x = w x.toNat := by
        rw [WD_o ⟨by decide, by decide, by decide⟩]
        have := hw3.1
        rw [show ((x.toNat : Nat) : Int) = x by omega] at this
        exact this
      have hstep : ∀ i, wfold n A w i (x + 1).toNat = if isF (w x.toNat) then ((wfold n A w i x.toNat).1, kI e (w x.toNat - 48), (wfold n A w i x.toNat).2.2) else if isLt (w x.toNat) then ((wfold n A w i x.toNat).1, (wfold n A w i x.toNat).2.1, mv n (A (w x.toNat - 97).toNat) (wfold n A w i x.toNat).2.2) else (lc (wfold n A w i x.toNat).1 (wfold n A w i x.toNat).2.1 (wfold n A w i x.toNat).2.2, 1, un i) := fun i => by
        rw [show (x + 1).toNat = x.toNat + 1 by omega]
        rfl
      have hok := hw3.2
      generalize w x.toNat = wx at *
      refine r_iload_n d_204_29 rfl ?_
      refine r_aload_n d_204_30 rfl (by omega) ?_
      refine r_getfv (ki := 33) d_204_31 q_204_95 rfl sh_217 ((WD_o (by decide)).trans w1) ?_
      refine r_icmp_ge (t := 105) d_204_34 rfl (fun hz => absurd hz (by omega)) (fun _ => ?_)
      refine r_aload_n d_204_37 rfl (by omega) ?_
      refine r_getc (ki := 32) d_204_38 q_204_92 rfl sh_217 fx_217_32 (by omega) ?_
      refine r_iload_n d_204_41 rfl ?_
      refine r_ialoadv d_204_42 sh_243 (by omega) (by omega) hwx ?_
      refine r_istore d_204_43 rfl (stl_5_4 rfl rfl) ?_
      refine r_iload d_204_45 rfl ?_
      refine r_bipush d_204_47 rfl ?_
      by_cases hf : isF wx
      · simp only [if_pos hf] at hstep
        unfold isF at hf
        refine r_icmp_ne (t := 66) d_204_49 rfl (fun _ => ?_) (fun hz => absurd (by omega) hz)
        refine r_iload d_204_66 rfl ?_
        refine r_bipush d_204_68 rfl ?_
        refine r_icmp_eq (t := 80) d_204_70 rfl (fun hz => absurd hz (by omega)) (fun _ => ?_)
        refine r_iload d_204_73 rfl ?_
        refine r_bipush d_204_75 rfl ?_
        refine r_icmp_ne (t := 93) d_204_77 rfl (fun _ => ?_) (fun hz => absurd (by omega) hz)
        refine r_iload d_204_93 rfl ?_
        refine r_bipush d_204_95 rfl ?_
        refine r_isub d_204_97 (by omega) ?_
        refine r_istore_n d_204_98 rfl (stl_5_2 rfl rfl) ?_
        refine r_iinc d_204_99 rfl (by omega) (stl_5_3 rfl rfl) ?_
        refine r_goto (t := 29) d_204_102 rfl ?_
        exact ih _ _ _ _ _ (by omega) (h1.congr (fun i _ => by rw [hstep])) (h2.congr (fun i _ => by rw [hstep])) (by rw [hstep])
      · by_cases hlt : isLt wx
        · simp only [if_neg hf, if_pos hlt] at hstep
          have hgo := m_goesOn he M hp hk hM (a := a) (c := c) h2 (g := wx - 97) (gn := (wx - 97).toNat) (by unfold isLt at hlt; omega) (by unfold isLt at hlt; omega)
          have hfin : Rn 204 80 [(2, 217), (0, k), (0, o), (0, x), (0, wx)] [] (WD M a b c) (fun v M' => v = none ∧ Fr W1 M M' ∧ rws n (M' 244) (wrow n A w l)) := by
            have h97 : 97 ≤ wx ∧ wx ≤ 98 := by unfold isLt at hlt; omega
            refine r_aload_n d_204_80 rfl (by omega) ?_
            refine r_iload_n d_204_81 rfl ?_
            refine r_iload d_204_82 rfl ?_
            refine r_bipush d_204_84 rfl ?_
            refine r_isub d_204_86 (by omega) ?_
            refine r_callvr d_204_87 q_204_294 rfl rfl (hgo) (fun M2 hM2 => ?_)
            obtain ⟨b', c', rfl, hb'⟩ := hM2
            refine r_goto (t := 99) d_204_90 rfl ?_
            refine r_iinc d_204_99 rfl (by omega) (stl_5_3 rfl rfl) ?_
            refine r_goto (t := 29) d_204_102 rfl ?_
            exact ih _ _ _ _ _ ho (h1.congr (fun i _ => by rw [hstep])) (hb'.congr (fun i _ => by rw [hstep])) (by rw [hstep]; exact h3)
          by_cases h97 : wx = 97
          · refine r_icmp_ne (t := 66) d_204_49 rfl (fun _ => ?_) (fun hz => absurd (by omega) hz)
            refine r_iload d_204_66 rfl ?_
            refine r_bipush d_204_68 rfl ?_
            refine r_icmp_eq (t := 80) d_204_70 rfl (fun _ => ?_) (fun hz => absurd h97 hz)
            exact hfin
          · have h98 : wx = 98 := by unfold isLt at hlt; omega
            refine r_icmp_ne (t := 66) d_204_49 rfl (fun _ => ?_) (fun hz => absurd (by omega) hz)
            refine r_iload d_204_66 rfl ?_
            refine r_bipush d_204_68 rfl ?_
            refine r_icmp_eq (t := 80) d_204_70 rfl (fun hz => absurd hz h97) (fun _ => ?_)
            refine r_iload d_204_73 rfl ?_
            refine r_bipush d_204_75 rfl ?_
            refine r_icmp_ne (t := 93) d_204_77 rfl (fun hz => absurd hz (by omega)) (fun _ => ?_)
            exact hfin
        · simp only [if_neg hf, if_neg hlt] at hstep
          have h43 : wx = 43 := by
            rcases hok with q | q | q
            · exact absurd q hf
            · exact absurd q hlt
            · exact q
          refine r_icmp_ne (t := 66) d_204_49 rfl (fun hz => absurd hz (by omega)) (fun _ => ?_)
          refine r_aload_n d_204_52 rfl (by omega) ?_
          refine r_iload_n d_204_53 rfl ?_
          refine r_callvr d_204_54 q_204_291 rfl rfl (m_endsTerm he M hp hn6 h1 h2 ho) (fun M2 hM2 => ?_)
          obtain ⟨a', rfl, ha'⟩ := hM2
          refine r_aload_n d_204_57 rfl (by omega) ?_
          refine r_callvr d_204_58 q_204_288 rfl rfl (m_beginsTerm (e := e) M n hn6 a' b c) (fun M3 hM3 => ?_)
          obtain ⟨b', rfl, hb'⟩ := hM3
          refine r_iconst d_204_61 rfl ?_
          refine r_istore_n d_204_62 rfl (stl_5_2 rfl rfl) ?_
          refine r_goto (t := 99) d_204_63 rfl ?_
          refine r_iinc d_204_99 rfl (by omega) (stl_5_3 rfl rfl) ?_
          refine r_goto (t := 29) d_204_102 rfl ?_
          refine ih _ _ _ _ _ (by omega) (ha'.congr (fun i _ => ?_)) (hb'.congr (fun i _ => by rw [hstep])) ?_
          · rw [hstep]
            show lc _ (kI e o) _ = lc _ _ _
            rw [h3, wf_c (i := 0) (i' := i)]
          · rw [hstep]
            apply vl_inj
            rw [vl_kI]
            unfold pI
            show 1 % ((e : Int) + 2) = 1
            exact Int.emod_eq_of_lt (by omega) (by omega)
  · intro x x1 x2 ih a ha
    refine r_iload_n d_204_2 rfl ?_
    refine r_bipush d_204_3 rfl ?_
    refine r_icmp_ge (t := 21) d_204_5 rfl (fun hz => absurd hz (by omega)) (fun _ => ?_)
    refine r_aload_n d_204_8 rfl (by omega) ?_
    refine r_getc (ki := 34) d_204_9 q_204_98 rfl sh_217 fx_217_34 (by omega) ?_
    refine r_iload_n d_204_12 rfl ?_
    refine r_iconst d_204_13 rfl ?_
    refine r_iastore d_204_14 sh_244 (by omega) (by omega) ?_
    rw [WD_ua]
    refine r_iinc d_204_15 rfl (by omega) (stl_5_2 rfl rfl) ?_
    refine r_goto (t := 2) d_204_18 rfl ?_
    refine ih _ (fun x' h1 h2 => ?_)
    by_cases hx : x' = x
    · rw [hx, u1_eq]
    · rw [u1_ne _ _ hx]
      exact ha x' h1 (by omega)
theorem Wd.w1 {M M1 : Mo} {l : Nat} {w : Nat → Int} (h : Wd M l w) (hF : Fr W1 M M1) : Wd M1 l w := ⟨(hF _ _ (by unfold W1; omega)).trans h.1, h.2.1, fun i hi => ⟨(hF _ _ (by unfold W1; omega)).trans (h.2.2 i hi).1, (h.2.2 i hi).2⟩⟩
def okW (s : Sst) (k i j : Int) : Prop := (0 ≤ k ∧ k ≤ 3) ∧ (0 ≤ i ∧ i < s.2.1 k.toNat) ∧ 0 ≤ j ∧ j < s.2.1 k.toNat
theorem m_word_bad (M : Mo) (hb : cb M) {s : Sst} (hv : vs s) (hc : cu M s) {k i j : Int} (h : ¬ okW s k i j) : PJ 205 [(2, 217), (0, k), (0, i), (0, j)] M (-2) (up2 M 218 0 (M 218 0 + 1)) := by
  refine Cl.intro (L := [(2, 217), (0, k), (0, i), (0, j)]) (rcv_v ow_205.2.1 sh_217) (by unfold entl; rw [mx_205]; rfl) (by rw [mx_205]; exact Nat.le_of_ble_eq_true rfl) rfl ?_
  have hbad := m_bad M (hb 0 (by omega) (by omega))
  refine r_iload_n d_205_0 rfl ?_
  refine r_callsp d_205_1 q_205_178 rfl rfl (m_isModule M k) ?_
  by_cases hk : 0 ≤ k ∧ k ≤ 3
  · have h6 := vs_6 hv (k := k.toNat) (by omega)
    have hsz := (hc.2 k.toNat (by omega)).1
    rw [show ((k.toNat : Nat) : Int) = k by omega] at hsz
    rw [if_pos hk]
    refine r_if_eq (t := 25) d_205_4 rfl (fun hz => absurd hz (by decide)) (fun _ => ?_)
    refine r_aload_n d_205_7 rfl (by omega) ?_
    refine r_iload_n d_205_8 rfl ?_
    refine r_iload_n d_205_9 rfl ?_
    refine r_callvp d_205_10 q_205_185 rfl rfl (m_isPlace M k i (by omega) hsz (by omega)) ?_
    by_cases hi : 0 ≤ i ∧ i < s.2.1 k.toNat
    · rw [if_pos hi]
      refine r_if_eq (t := 25) d_205_13 rfl (fun hz => absurd hz (by decide)) (fun _ => ?_)
      refine r_aload_n d_205_16 rfl (by omega) ?_
      refine r_iload_n d_205_17 rfl ?_
      refine r_iload_n d_205_18 rfl ?_
      refine r_callvp d_205_19 q_205_185 rfl rfl (m_isPlace M k j (by omega) hsz (by omega)) ?_
      rw [if_neg (fun q => h ⟨hk, hi, q⟩)]
      refine r_if_ne (t := 30) d_205_22 rfl (fun hz => absurd hz (by decide)) (fun _ => ?_)
      refine r_aload_n d_205_25 rfl (by omega) ?_
      refine r_callvj d_205_26 q_205_172 rfl rfl hbad ?_
      refine r_iret d_205_29 rt_205 ?_
      exact ⟨rfl, rfl⟩
    · rw [if_neg hi]
      refine r_if_eq (t := 25) d_205_13 rfl (fun _ => ?_) (fun hz => absurd (by decide) hz)
      refine r_aload_n d_205_25 rfl (by omega) ?_
      refine r_callvj d_205_26 q_205_172 rfl rfl hbad ?_
      refine r_iret d_205_29 rt_205 ?_
      exact ⟨rfl, rfl⟩
  · rw [if_neg hk]
    refine r_if_eq (t := 25) d_205_4 rfl (fun _ => ?_) (fun hz => absurd (by decide) hz)
    refine r_aload_n d_205_25 rfl (by omega) ?_
    refine r_callvj d_205_26 q_205_172 rfl rfl hbad ?_
    refine r_iret d_205_29 rt_205 ?_
    exact ⟨rfl, rfl⟩
theorem m_word {M : Mo} {s : Sst} (hv : vs s) (hc : cu M s) {l : Nat} {w : Nat → Int} (hw : Wd M l w) {k i j : Nat} (hk : k < 4) (hi : i < s.2.1 k) (hj : j < s.2.1 k) : CI 205 [(2, 217), (0, (k : Int)), (0, (i : Int)), (0, (j : Int))] M (fun z M' => z = vl (wrow (s.2.1 k) (mdA s k) w l i j) ∧ Fr W1 M M') := by
  refine Cl.intro (L := [(2, 217), (0, (k : Int)), (0, (i : Int)), (0, (j : Int))]) (rcv_v ow_205.2.1 sh_217) (by unfold entl; rw [mx_205]; rfl) (by rw [mx_205]; exact Nat.le_of_ble_eq_true rfl) rfl ?_
  have h6 := vs_6 hv hk
  have hsz := (hc.2 k hk).1
  refine r_iload_n d_205_0 rfl ?_
  refine r_callsp d_205_1 q_205_178 rfl rfl (m_isModule M k) ?_
  rw [if_pos (by omega)]
  refine r_if_eq (t := 25) d_205_4 rfl (fun hz => absurd hz (by decide)) (fun _ => ?_)
  refine r_aload_n d_205_7 rfl (by omega) ?_
  refine r_iload_n d_205_8 rfl ?_
  refine r_iload_n d_205_9 rfl ?_
  refine r_callvp d_205_10 q_205_185 rfl rfl (m_isPlace M k i (by omega) hsz (by omega)) ?_
  rw [if_pos (by omega)]
  refine r_if_eq (t := 25) d_205_13 rfl (fun hz => absurd hz (by decide)) (fun _ => ?_)
  refine r_aload_n d_205_16 rfl (by omega) ?_
  refine r_iload_n d_205_17 rfl ?_
  refine r_iload_n d_205_18 rfl ?_
  refine r_callvp d_205_19 q_205_185 rfl rfl (m_isPlace M k j (by omega) hsz (by omega)) ?_
  rw [if_pos (by omega)]
  refine r_if_ne (t := 30) d_205_22 rfl (fun _ => ?_) (fun hz => absurd (by decide) hz)
  refine r_aload_n d_205_30 rfl (by omega) ?_
  refine r_iload_n d_205_31 rfl ?_
  refine r_callvr d_205_32 q_205_297 rfl rfl (m_tellsWord hv.1 M hc.1 (k := k) (by omega) (hc.MM hv hk) hw) (fun M1 hM1 => ?_)
  obtain ⟨hF, hr⟩ := hM1
  refine r_aload_n d_205_35 rfl (by omega) ?_
  refine r_getc (ki := 34) d_205_36 q_205_98 rfl sh_217 fx_217_34 (by omega) ?_
  refine r_bipush d_205_39 rfl ?_
  refine r_iload_n d_205_41 rfl ?_
  refine r_imul d_205_42 (by omega) ?_
  refine r_iload_n d_205_43 rfl ?_
  refine r_iadd d_205_44 (by omega) ?_
  refine r_ialoadv d_205_45 sh_244 (by omega) (by omega) (hr.2 i j hi hj) ?_
  refine r_iret d_205_46 rt_205 ?_
  exact ⟨_, rfl, rfl, hF⟩
