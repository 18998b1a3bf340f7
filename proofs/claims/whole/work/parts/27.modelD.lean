/-! The model: spinning. -/
theorem MM.ms {e : Nat} {M : Mo} {k : Int} {n : Nat} {A : Nat → Nat → Nat → Kf e} (h : MM e M k n A) {d : Int} {hh t w : Int → Int} : MM e (MS M d hh t w) k n A := by
  refine ⟨?_, h.2.1, fun g i j h1 h2 h3 => ?_⟩
  · rw [MS_o (by decide)]
    exact h.1
  · rw [MS_o (by decide)]
    exact h.2.2 g i j h1 h2 h3
theorem m_spinsOn {e : Nat} (he : e ≤ 1) (M : Mo) (hp : M 217 1 = pI e) {k : Int} {n : Nat} {A : Nat → Nat → Nat → Kf e} (hk : 0 ≤ k ∧ k ≤ 10) (hM : MM e M k n A) {h t w : Int → Int} {T : List (Vc e)} (hG : Good n T) (ht : tk n t T) (hh : hs n h (spn T)) {v : Vc e} (hv : sup n v) : CV 143 [(2, 217), (0, k), (0, num n v)] (MS M (T.length : Int) h t w) (fun M' => ∃ h' t' w', M' = MS M ((spin n A T v).length : Int) h' t' w' ∧ tk n t' (spin n A T v) ∧ hs n h' (spn (spin n A T v))) := by
  refine Cl.intro (L := [(2, 217), (0, k), (0, num n v), (9, 0), (9, 0), (9, 0)]) (rcv_v ow_143.2.1 sh_217) (by unfold entl; rw [mx_143]; rfl) (by rw [mx_143]; exact Nat.le_of_ble_eq_true rfl) rfl ?_
  have hp2 : ∀ d h t w, MS M d h t w 217 1 = pI e := fun d h t w => by rw [MS_217 (by decide)]; exact hp
  have h23 := pI23 he
  have hn6 : n ≤ 6 := by have := hM.2.1; unfold nb at this; omega
  have h243 := pw_243 he hM.2.1
  have hvr := num_rng he n v
  have hlT := hG.len
  refine r_iconst d_143_0 rfl ?_
  refine r_istore_n d_143_1 rfl (stl_6_3 rfl rfl) ?_
  refine r_aload_n d_143_2 rfl (by omega) ?_
  refine r_getc (ki := 9) d_143_3 q_143_35 rfl sh_217 fx_217_9 (by omega) ?_
  refine r_iconst d_143_6 rfl ?_
  refine r_iload_n d_143_7 rfl ?_
  refine r_iastore d_143_8 sh_224 (by omega) (by omega) ?_
  rw [MS_uw]
  refine r_iconst d_143_9 rfl ?_
  refine r_istore d_143_10 rfl (stl_6_4 rfl rfl) ?_
  -- the vector itself
  refine r_iload d_143_12 rfl ?_
  refine r_iload_n d_143_14 rfl ?_
  refine r_icmp_ge (t := 88) d_143_15 rfl (fun hz => absurd hz (by omega)) (fun _ => ?_)
  refine r_aload_n d_143_18 rfl (by omega) ?_
  refine r_getc (ki := 9) d_143_19 q_143_35 rfl sh_217 fx_217_9 (by omega) ?_
  refine r_iload d_143_22 rfl ?_
  refine r_ialoadv d_143_24 sh_224 (by omega) (by omega) (MS_w.trans (u1_eq _ _ _)) ?_
  refine r_istore d_143_25 rfl (stl_6_5 rfl rfl) ?_
  refine r_aload_n d_143_27 rfl (by omega) ?_
  refine r_getc (ki := 6) d_143_28 q_143_29 rfl sh_217 fx_217_6 (by omega) ?_
  refine r_iload d_143_31 rfl ?_
  refine r_ialoadv d_143_33 sh_222 (by omega) (by omega) MS_h ?_
  by_cases hs0 : spn T v
  · have hT' : spin n A T v = T := by unfold spin; rw [ifp_t hs0]
    have h1 := (hh v hv).1 hs0
    rw [h1]
    refine r_if_ne (t := 82) d_143_34 rfl (fun _ => ?_) (fun hz => absurd (by decide) hz)
    refine r_iinc d_143_82 rfl (by omega) (stl_6_4 rfl rfl) ?_
    refine r_goto (t := 12) d_143_85 rfl ?_
    refine r_iload d_143_12 rfl ?_
    refine r_iload_n d_143_14 rfl ?_
    refine r_icmp_ge (t := 88) d_143_15 rfl (fun _ => ?_) (fun hz => absurd (by omega) hz)
    refine r_vret d_143_88 rt_143 ?_
    rw [hT']
    exact ⟨rfl, h, t, _, rfl, ht, hh⟩
  · have h1 := (hh v hv).2 hs0
    rw [h1]
    have hlt := hG.len' he hv hs0
    have hT' : spin n A T v = sps n A T.length 20 (T ++ [v]) 0 := by unfold spin; rw [ifp_f hs0]
    refine r_if_ne (t := 82) d_143_34 rfl (fun hz => absurd hz (by decide)) (fun _ => ?_)
    refine r_aload_n d_143_37 rfl (by omega) ?_
    refine r_iload d_143_38 rfl ?_
    refine r_aload_n d_143_40 rfl (by omega) ?_
    refine r_getc (ki := 2) d_143_41 q_143_17 rfl sh_217 fx_217_2 (by omega) ?_
    refine r_iload_n d_143_44 rfl ?_
    refine r_ialoadv d_143_45 sh_219 (by omega) (by omega) ((MS_o (by decide)).trans hM.1) ?_
    refine r_callvr d_143_46 q_143_129 rfl rfl (m_joins he M hp hM.2.1 (by omega) hG.sub hv hs0 hh) (fun M1 hM1 => ?_)
    obtain ⟨h', rfl, hh'⟩ := hM1
    refine r_aload_n d_143_49 rfl (by omega) ?_
    refine r_getc (ki := 9) d_143_50 q_143_35 rfl sh_217 fx_217_9 (by omega) ?_
    refine r_iload_n d_143_53 rfl ?_
    refine r_aload_n d_143_54 rfl (by omega) ?_
    refine r_iload_n d_143_55 rfl ?_
    refine r_iconst d_143_56 rfl ?_
    refine r_iload d_143_57 rfl ?_
    refine r_callvp d_143_59 q_143_133 rfl rfl (m_moves he _ (hp2 _ _ _ _) hk hM.ms (g := 0) (gn := 0) rfl (by decide) v) ?_
    refine r_iastore d_143_62 sh_224 (by omega) (by omega) ?_
    rw [MS_uw]
    refine r_aload_n d_143_63 rfl (by omega) ?_
    refine r_getc (ki := 9) d_143_64 q_143_35 rfl sh_217 fx_217_9 (by omega) ?_
    refine r_iload_n d_143_67 rfl ?_
    refine r_iconst d_143_68 rfl ?_
    refine r_iadd d_143_69 (by omega) ?_
    refine r_aload_n d_143_70 rfl (by omega) ?_
    refine r_iload_n d_143_71 rfl ?_
    refine r_iconst d_143_72 rfl ?_
    refine r_iload d_143_73 rfl ?_
    refine r_callvp d_143_75 q_143_133 rfl rfl (m_moves he _ (hp2 _ _ _ _) hk hM.ms (g := 1) (gn := 1) rfl (by decide) v) ?_
    refine r_iastore d_143_78 sh_224 (by omega) (by omega) ?_
    rw [MS_uw]
    refine r_iinc d_143_79 rfl (by omega) (stl_6_3 rfl rfl) ?_
    refine r_iinc d_143_82 rfl (by omega) (stl_6_4 rfl rfl) ?_
    refine r_goto (t := 12) d_143_85 rfl ?_
    rw [hT']
    generalize hTf : sps n A T.length 20 (T ++ [v]) 0 = T'
    -- the loop
    refine dn_ind (R := fun i => ∀ (m : Int) (h t w : Int → Int) (T1 : List (Vc e)) (y : AV), Good n T1 → tk n t T1 → hs n h (spn T1) → T.length ≤ T1.length → m = 1 + 2 * ((T1.length : Int) - T.length) → i ≤ m → (∀ c : Nat, c < 2 * (T1.length - T.length) → w (1 + c) = num n (cand n A T.length T1 c)) → sps n A T.length (21 - i.toNat) T1 (i.toNat - 1) = T' → Rn 143 12 [(2, 217), (0, k), (0, num n v), (0, m), (0, i), y] [] (MS M (T1.length : Int) h t w) _) (lo := 1) (n := 14) ?_ ?_ 1 (by omega) (by omega) _ _ _ _ (T ++ [v]) _ (hG.app he hv hs0) (ht.app v) (by rw [spn_app]; exact hh') (by simp) (by simp; omega) (by omega) ?_ (by exact hTf) |> (fun k => by rw [show ((T ++ [v]).length : Int) = (T.length : Int) + 1 by simp] at k; exact k)
    · intro m h t w T1 y g1 g2 g3 g4 g5 g6
      have := g1.len
      omega
    · intro i i1 i2 ih m h t w T1 y g1 g2 g3 g4 g5 g6 g7 g8
      have hl1 := g1.len
      by_cases him : i < m
      · have hc : i.toNat - 1 < 2 * (T1.length - T.length) := by omega
        have hx := g7 (i.toNat - 1) hc
        rw [show (1 : Int) + ((i.toNat - 1 : Nat) : Int) = i by omega] at hx
        have hxs : sup n (cand n A T.length T1 (i.toNat - 1)) := cand_sup
        have hxr := num_rng he n (cand n A T.length T1 (i.toNat - 1))
        have hstep : sps n A T.length (21 - (i + 1).toNat) (addv T1 (cand n A T.length T1 (i.toNat - 1))) ((i + 1).toNat - 1) = T' := by
          rw [← g8, show 21 - i.toNat = (21 - (i + 1).toNat) + 1 by omega]
          conv => rhs; unfold sps
          rw [if_pos (by omega), show (i + 1).toNat - 1 = i.toNat - 1 + 1 by omega]
        generalize hcx : cand n A T.length T1 (i.toNat - 1) = x at hx hxs hxr hstep
        refine r_iload d_143_12 rfl ?_
        refine r_iload_n d_143_14 rfl ?_
        refine r_icmp_ge (t := 88) d_143_15 rfl (fun hz => absurd hz (by omega)) (fun _ => ?_)
        refine r_aload_n d_143_18 rfl (by omega) ?_
        refine r_getc (ki := 9) d_143_19 q_143_35 rfl sh_217 fx_217_9 (by omega) ?_
        refine r_iload d_143_22 rfl ?_
        refine r_ialoadv d_143_24 sh_224 (by omega) (by omega) (MS_w.trans hx) ?_
        refine r_istore d_143_25 rfl (stl_6_5 rfl rfl) ?_
        refine r_aload_n d_143_27 rfl (by omega) ?_
        refine r_getc (ki := 6) d_143_28 q_143_29 rfl sh_217 fx_217_6 (by omega) ?_
        refine r_iload d_143_31 rfl ?_
        refine r_ialoadv d_143_33 sh_222 (by omega) (by omega) MS_h ?_
        by_cases hs1 : spn T1 x
        · rw [(g3 x hxs).1 hs1]
          refine r_if_ne (t := 82) d_143_34 rfl (fun _ => ?_) (fun hz => absurd (by decide) hz)
          refine r_iinc d_143_82 rfl (by omega) (stl_6_4 rfl rfl) ?_
          refine r_goto (t := 12) d_143_85 rfl ?_
          have e1 : addv T1 x = T1 := by unfold addv; rw [ifp_t hs1]
          rw [e1] at hstep
          exact ih m h t w T1 _ g1 g2 g3 g4 g5 (by omega) g7 hstep
        · rw [(g3 x hxs).2 hs1]
          have hlt1 := g1.len' he hxs hs1
          refine r_if_ne (t := 82) d_143_34 rfl (fun hz => absurd hz (by decide)) (fun _ => ?_)
          refine r_aload_n d_143_37 rfl (by omega) ?_
          refine r_iload d_143_38 rfl ?_
          refine r_aload_n d_143_40 rfl (by omega) ?_
          refine r_getc (ki := 2) d_143_41 q_143_17 rfl sh_217 fx_217_2 (by omega) ?_
          refine r_iload_n d_143_44 rfl ?_
          refine r_ialoadv d_143_45 sh_219 (by omega) (by omega) ((MS_o (by decide)).trans hM.1) ?_
          refine r_callvr d_143_46 q_143_129 rfl rfl (m_joins he M hp hM.2.1 (by omega) g1.sub hxs hs1 g3) (fun M1 hM1 => ?_)
          obtain ⟨h', rfl, hh'⟩ := hM1
          refine r_aload_n d_143_49 rfl (by omega) ?_
          refine r_getc (ki := 9) d_143_50 q_143_35 rfl sh_217 fx_217_9 (by omega) ?_
          refine r_iload_n d_143_53 rfl ?_
          refine r_aload_n d_143_54 rfl (by omega) ?_
          refine r_iload_n d_143_55 rfl ?_
          refine r_iconst d_143_56 rfl ?_
          refine r_iload d_143_57 rfl ?_
          refine r_callvp d_143_59 q_143_133 rfl rfl (m_moves he _ (hp2 _ _ _ _) hk hM.ms (g := 0) (gn := 0) rfl (by decide) x) ?_
          refine r_iastore d_143_62 sh_224 (by omega) (by omega) ?_
          rw [MS_uw]
          refine r_aload_n d_143_63 rfl (by omega) ?_
          refine r_getc (ki := 9) d_143_64 q_143_35 rfl sh_217 fx_217_9 (by omega) ?_
          refine r_iload_n d_143_67 rfl ?_
          refine r_iconst d_143_68 rfl ?_
          refine r_iadd d_143_69 (by omega) ?_
          refine r_aload_n d_143_70 rfl (by omega) ?_
          refine r_iload_n d_143_71 rfl ?_
          refine r_iconst d_143_72 rfl ?_
          refine r_iload d_143_73 rfl ?_
          refine r_callvp d_143_75 q_143_133 rfl rfl (m_moves he _ (hp2 _ _ _ _) hk hM.ms (g := 1) (gn := 1) rfl (by decide) x) ?_
          refine r_iastore d_143_78 sh_224 (by omega) (by omega) ?_
          rw [MS_uw]
          refine r_iinc d_143_79 rfl (by omega) (stl_6_3 rfl rfl) ?_
          refine r_iinc d_143_82 rfl (by omega) (stl_6_4 rfl rfl) ?_
          refine r_goto (t := 12) d_143_85 rfl ?_
          have e1 : addv T1 x = T1 ++ [x] := by unfold addv; rw [ifp_f hs1]
          rw [e1] at hstep
          have hle : (T1 ++ [x]).length = T1.length + 1 := by simp
          have k2 := ih (m + 2) h' (u1 t (T1.length : Int) (num n x)) (u1 (u1 w m (num n (mv n (A 0) x))) (m + 1) (num n (mv n (A 1) x))) (T1 ++ [x]) (0, num n x) (g1.app he hxs hs1) (g2.app x) (by rw [spn_app]; exact hh') (by omega) (by omega) (by omega) (fun c hcc => ?_) hstep
          · rw [show ((T1 ++ [x]).length : Int) = (T1.length : Int) + 1 by omega] at k2
            exact k2
          · rw [hle] at hcc
            by_cases c1 : c < 2 * (T1.length - T.length)
            · rw [u1_ne _ _ (by omega), u1_ne _ _ (by omega), g7 c c1]
              unfold cand
              rw [getD_app (by omega)]
            · by_cases c2 : c = 2 * (T1.length - T.length)
              · rw [u1_ne _ _ (by omega), show (1 : Int) + (c : Int) = m by omega, u1_eq]
                unfold cand
                rw [show c % 2 = 0 by omega, show T.length + c / 2 = T1.length by omega, getD_new]
              · rw [show (1 : Int) + (c : Int) = m + 1 by omega, u1_eq]
                unfold cand
                rw [show c % 2 = 1 by omega, show T.length + c / 2 = T1.length by omega, getD_new]
      · have him2 : i = m := by omega
        have hT1 : T1 = T' := by
          rw [← g8, show 21 - i.toNat = (20 - i.toNat) + 1 by omega]
          unfold sps
          rw [if_neg (by omega)]
        refine r_iload d_143_12 rfl ?_
        refine r_iload_n d_143_14 rfl ?_
        refine r_icmp_ge (t := 88) d_143_15 rfl (fun _ => ?_) (fun hz => absurd (by omega) hz)
        refine r_vret d_143_88 rt_143 ?_
        rw [← hT1]
        exact ⟨rfl, h, t, w, rfl, g2, g3⟩
    · intro c hc
      simp at hc
      rcases (show c = 0 ∨ c = 1 by omega) with rfl | rfl
      · rw [u1_ne _ _ (by decide)]
        show u1 _ 1 _ 1 = _
        rw [u1_eq]
        unfold cand
        rw [show T.length + 0 / 2 = T.length by omega, getD_new]
      · show u1 _ 2 _ 2 = _
        rw [u1_eq]
        unfold cand
        rw [show T.length + 1 / 2 = T.length by omega, getD_new]
theorem m_spins {e : Nat} (he : e ≤ 1) (M : Mo) (hp : M 217 1 = pI e) {k : Int} {n : Nat} {A : Nat → Nat → Nat → Kf e} (hk : 0 ≤ k ∧ k ≤ 10) (hM : MM e M k n A) {v : Vc e} (hv : sup n v) : CV 144 [(2, 217), (0, k), (0, num n v)] M (fun M' => ∃ h' t' w', M' = MS M ((spin n A [] v).length : Int) h' t' w' ∧ tk n t' (spin n A [] v) ∧ hs n h' (spn (spin n A [] v))) := by
  refine Cl.intro (L := [(2, 217), (0, k), (0, num n v)]) (rcv_v ow_144.2.1 sh_217) (by unfold entl; rw [mx_144]; rfl) (by rw [mx_144]; exact Nat.le_of_ble_eq_true rfl) rfl ?_
  have h243 := pw_243 he hM.2.1
  refine r_aload_n d_144_0 rfl (by omega) ?_
  refine r_callvr d_144_1 q_144_136 rfl rfl (m_nothing M) (fun M1 hM1 => ?_)
  obtain ⟨h, rfl, h0, hz⟩ := hM1
  refine r_aload_n d_144_4 rfl (by omega) ?_
  refine r_iload_n d_144_5 rfl ?_
  refine r_iload_n d_144_6 rfl ?_
  refine r_callvr d_144_7 q_144_139 rfl rfl (m_spinsOn he M hp hk hM Good.nil (fun j hj => absurd hj (Nat.not_lt_zero j)) (fun w hw => ⟨fun q => ?_, fun q => ?_⟩) hv) (fun M2 hM2 => ?_)
  · have : w = z0 := q
    rw [this]
    have e1 : num n (z0 : Vc e) = 0 := by
      have := num_ext (e := e) (n := 0) (m := n) (w := z0) (fun i _ => rfl) (by omega)
      rw [this]
      rfl
    rw [e1]
    exact h0
  · have hr := num_rng he n w
    have hne : num n w ≠ 0 := by
      intro q2
      apply q
      show w = z0
      refine num_inj2 he hw sup_z0 ?_
      have e1 : num n (z0 : Vc e) = 0 := by
        have := num_ext (e := e) (n := 0) (m := n) (w := z0) (fun i _ => rfl) (by omega)
        rw [this]
        rfl
      rw [e1]
      exact q2
    exact hz _ (by omega) (by omega)
  · obtain ⟨h', t', w', rfl, g1, g2⟩ := hM2
    refine r_vret d_144_10 rt_144 ?_
    exact ⟨rfl, h', t', w', rfl, g1, g2⟩
