/-! The class: writesFrom, formsPart. -/
section
variable {e n : Nat} {B : Nat → Nat → Nat → Kf e}
theorem c_writesFrom (he : e ≤ 1) {M : Mo} (hp : M 1 0 = pI e) {a b : Int} (ha : shp S0 a = (1, 8)) (hb : shp S0 b = (0, 3)) (hbne : b ≠ a + 20) (hP : AA e M (a + 18) n B) (hs : smM n B) {v : Vc e} (hv : sup n v) (hz : v ≠ z0) {m : Nat} {C : Nat → Nat → Nat → Kf e} (hC : AA e M b m C) (hm : m = 0 ∨ m = n) : CV 22 [(2, a), (1, pv v), (2, b)] M (fun M' => Fr (WWf a) M M' ∧ ∃ Tm, AA e M' (a + 20) n Tm ∧ ((∀ c, c < 2 * (n * n) → sqA n Tm c = sqT n B v c) ∨ m = n ∧ 0 < fdx (sqA n Tm) (sqA n C) (2 * (n * n)) ∧ 0 < fdx (sqT n B v) (sqA n C) (2 * (n * n)))) := by
  refine Cl.intro (L := [(2, a), (1, pv v), (9, 0), (2, b), (9, 0), (9, 0), (9, 0), (9, 0), (9, 0), (9, 0), (9, 0), (9, 0)]) (rcv_v ow_22.2.1 ha) (by unfold entl; rw [mx_22]; rfl) (by rw [mx_22]; exact Nat.le_of_ble_eq_true rfl) rfl ?_
  have ha0 := shF_pos ha
  have hb0 := shA_pos hb
  have hab := shF_ab ha
  have hn6 := hP.n6
  have hout : ¬ spn ([] : List (Vc e)) v := fun q => hz q
  have hrest : ∀ o : Int, wfO n B v m C 0 o → Rn 22 23 [(2, a), (1, pv v), (9, 0), (2, b), (0, (n : Int)), (0, o), (9, 0), (9, 0), (9, 0), (9, 0), (9, 0), (9, 0)] [] M (wfQ M a n B v m C) := by
    intro o ho
    refine r_aload_n d_22_23 rfl (by omega) ?_
    refine r_getc (ki := 6) d_22_24 q_22_38 rfl ha (fxF ha).2.2.2.2.2.2.1 (by omega) ?_
    refine r_iload d_22_27 rfl ?_
    refine r_callvr d_22_29 q_22_75 rfl rfl (c_empties M (shF20 ha)) (fun M1 hM1 => ?_)
    obtain ⟨hF1, hs1, hr1⟩ := hM1
    refine r_aload_n d_22_32 rfl (by omega) ?_
    refine r_getc (ki := 7) d_22_33 q_22_44 rfl ha (fxF ha).2.2.2.2.2.2.2 (by omega) ?_
    refine r_iload d_22_36 rfl ?_
    refine r_callvr d_22_38 q_22_93 rfl rfl (c_sempties (e := e) M1 (shF22 ha) hn6) (fun M2 hM2 => ?_)
    obtain ⟨hF2, hT2⟩ := hM2
    have hp2 : M2 1 0 = pI e := (hF2 _ _ (by unfold WP; omega)).trans ((hF1 _ _ (by unfold WA; omega)).trans hp)
    have hu := c_unit M2 (i := 6) (by omega)
    have h12 : sup 12 (auv v 0) := fun k hk => by
      show v k + 1 * (un (6 + 0) : Vc e) k = 0
      rw [hv k (by omega)]
      unfold un
      rw [if_neg (by omega)]
      grind
    refine r_aload_n d_22_41 rfl (by omega) ?_
    refine r_getc (ki := 7) d_22_42 q_22_44 rfl ha (fxF ha).2.2.2.2.2.2.2 (by omega) ?_
    refine r_lload_n d_22_45 rfl ?_
    refine r_bipush d_22_46 rfl ?_
    refine r_callsl d_22_48 q_22_94 rfl rfl hu ?_
    refine r_lor d_22_51 (pv_or he (sup_le hv hn6) (i := 0) (by omega)) ?_
    refine r_callvr d_22_52 q_22_98 rfl rfl (c_takes he hp2 (shF22 ha) hT2 h12) (fun M3 hM3 => ?_)
    obtain ⟨hF3, hT3⟩ := hM3
    have hau := au_take he hn6 (Good.nil (e := e) (n := n)) hv hout
    have hT3' : ST M3 (a + 22) n (au [v]) := by
      have h1 : tkv n ([] : List (Vc e)) (auv v 0) = au [v] := hau
      rw [h1] at hT3
      exact hT3
    have hF : Fr (WWf a) M M3 := (hF1.trans hF2 (R := WWf a) (fun x y q => Or.inl q) (fun x y q => Or.inr q)).trans hF3 (fun x y q => q) (fun x y q => Or.inr q)
    refine r_iconst d_22_55 rfl ?_
    refine r_istore d_22_56 rfl (stl_12_6 rfl rfl) ?_
    have hadd : addv [] v = [v] := ifp_f hout
    have hl := wf_loop he hp ha hb hbne hP hs hv hz hC (x1 := pv v) n 0 M3 [v] o (9, 0) (9, 0) (9, 0) (9, 0) (9, 0) (by omega) (by omega) hF ?_ hT3' (Good.nil.app he hv hout) ?_ (fun g i' hg hi' => ?_) ho
    · exact hl
    · rw [hF3 _ _ (by unfold WP; omega), hF2 _ _ (by unfold WP; omega)]
      exact hs1
    · rw [spin_nil, hadd]
    · rw [hF3 _ _ (by unfold WP; omega), hF2 _ _ (by unfold WP; omega), show a + 21 = a + 20 + 1 by omega, hr1 _ (by omega) (by omega)]
      have h1 : pv (rv n (pTl n B v 0) g i') = pv (z0 : Vc e) := pv_congr (fun j _ => by
        unfold rv pTl z0
        split
        · exact if_neg (by omega)
        · rfl)
      rw [h1, pv_z0]
  refine r_aload_n d_22_0 rfl (by omega) ?_
  refine r_getc (ki := 5) d_22_1 q_22_35 rfl ha (fxF ha).2.2.2.2.2.1 (by omega) ?_
  refine r_getfv (ki := 1) d_22_4 q_22_52 rfl (shF18 ha) hP.1 ?_
  refine r_istore d_22_7 rfl (stl_12_4 rfl rfl) ?_
  refine r_aload_n d_22_9 rfl (by omega) ?_
  refine r_getfv (ki := 1) d_22_10 q_22_52 rfl hb hC.1 ?_
  by_cases hm0 : m = 0
  · refine r_if_ne (t := 20) d_22_13 rfl (fun hz => absurd hz (by omega)) (fun _ => ?_)
    refine r_iconst d_22_16 rfl ?_
    refine r_goto (t := 21) d_22_17 rfl ?_
    refine r_istore d_22_21 rfl (stl_12_5 rfl rfl) ?_
    exact hrest (-1) ⟨fun q => by omega, fun q => by omega⟩
  · refine r_if_ne (t := 20) d_22_13 rfl (fun _ => ?_) (fun hz => absurd (by omega) hz)
    refine r_iconst d_22_20 rfl ?_
    refine r_istore d_22_21 rfl (stl_12_5 rfl rfl) ?_
    exact hrest 0 ⟨fun _ => ⟨by omega, fun i' j h => by omega⟩, fun q => by omega⟩
theorem sc_iso (he : e ≤ 1) {c : Kf e} (hc : c ≠ 0) : isoM n B n B (scv c) := by
  have hcc := sq1 he hc
  refine ⟨fun u d w _ _ => ?_, fun w hw i hi => ?_, fun w hw h => ?_, fun y hy => ⟨scv c y, fun i hi => ?_, ?_⟩, fun g hg w hw => ?_⟩
  · funext i
    unfold scv lc
    grind
  · unfold scv
    rw [hw i hi]
    grind
  · funext i
    have h1 := congrFun h i
    unfold scv z0 at h1
    have h2 : w i = (c * c) * w i := by rw [hcc]; grind
    rw [h2]
    unfold z0
    grind
  · unfold scv
    rw [hy i hi]
    grind
  · funext i
    unfold scv
    have h2 : c * (c * y i) = (c * c) * y i := by grind
    rw [h2, hcc]
    grind
  · have e1 : ∀ u : Vc e, scv c u = lc z0 c u := fun u => by
      funext i
      unfold scv lc z0
      grind
    rw [e1, e1, mv_lc, mv_z0]
end
