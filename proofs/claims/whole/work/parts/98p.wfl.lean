/-! The class: writesFrom. -/
section
variable {e n : Nat} {B : Nat → Nat → Nat → Kf e}
theorem addv_len {T : List (Vc e)} {x : Vc e} : T.length ≤ (addv T x).length := by
  unfold addv
  by_cases q : spn T x
  · rw [ifp_t q]
    exact Nat.le_refl _
  · rw [ifp_f q, List.length_append]
    omega
theorem addv_getD {T : List (Vc e)} {x : Vc e} {i : Nat} (hi : i < T.length) : (addv T x).getD i z0 = T.getD i z0 := by
  unfold addv
  by_cases q : spn T x
  · rw [ifp_t q]
  · rw [ifp_f q, getD_app hi]
theorem addv_good (he : e ≤ 1) {T : List (Vc e)} (hG : Good n T) {x : Vc e} (hx : sup n x) : Good n (addv T x) := by
  unfold addv
  by_cases q : spn T x
  · rw [ifp_t q]
    exact hG
  · rw [ifp_f q]
    exact hG.app he hx q
theorem sps_two {T : List (Vc e)} {i f : Nat} (hi : i < T.length) : sps n B 0 (f + 1 + 1) T (2 * i) = sps n B 0 f (addv (addv T (mv n (B 0) (T.getD i z0))) (mv n (B 1) (T.getD i z0))) (2 * (i + 1)) := by
  have hl := addv_len (T := T) (x := mv n (B 0) (T.getD i z0))
  have c0 : cand n B 0 T (2 * i) = mv n (B 0) (T.getD i z0) := by
    unfold cand
    rw [show 2 * i % 2 = 0 by omega, show 0 + 2 * i / 2 = i by omega]
  have c1 : cand n B 0 (addv T (mv n (B 0) (T.getD i z0))) (2 * i + 1) = mv n (B 1) (T.getD i z0) := by
    unfold cand
    rw [show (2 * i + 1) % 2 = 1 by omega, show 0 + (2 * i + 1) / 2 = i by omega, addv_getD hi]
  show (if 0 + 2 * i / 2 < T.length then sps n B 0 (f + 1) (addv T (cand n B 0 T (2 * i))) (2 * i + 1) else T) = _
  rw [if_pos (by omega), c0]
  show (if 0 + (2 * i + 1) / 2 < (addv T (mv n (B 0) (T.getD i z0))).length then sps n B 0 f (addv (addv T (mv n (B 0) (T.getD i z0))) (cand n B 0 (addv T (mv n (B 0) (T.getD i z0))) (2 * i + 1))) (2 * i + 1 + 1) else _) = _
  rw [if_pos (by omega), c1, show 2 * i + 1 + 1 = 2 * (i + 1) by omega]
def WWf (a x y : Int) : Prop := WA (a + 20) x y ∨ WP (a + 22) x y
noncomputable def pTl (n : Nat) (B : Nat → Nat → Nat → Kf e) (v : Vc e) (k g i j : Nat) : Kf e := if i < k then tel n B v g i j else 0
def wfO (n : Nat) (B : Nat → Nat → Nat → Kf e) (v : Vc e) (m : Nat) (C : Nat → Nat → Nat → Kf e) (i : Nat) (o : Int) : Prop := (o = 0 → m = n ∧ ∀ i' j, i' < i → j < n → tel n B v 0 i' j = C 0 i' j) ∧ (0 < o → m = n ∧ ∃ k, i = k + 1 ∧ k < n ∧ (∀ i' j, i' < k → j < n → tel n B v 0 i' j = C 0 i' j) ∧ pv (rv n C 0 k) < pv (rv n (tel n B v) 0 k))
def wfQ (M : Mo) (a : Int) (n : Nat) (B : Nat → Nat → Nat → Kf e) (v : Vc e) (m : Nat) (C : Nat → Nat → Nat → Kf e) (r : Option AV) (M' : Mo) : Prop := r = none ∧ Fr (WWf a) M M' ∧ ∃ Tm, AA e M' (a + 20) n Tm ∧ ((∀ c, c < 2 * (n * n) → sqA n Tm c = sqT n B v c) ∨ m = n ∧ 0 < fdx (sqA n Tm) (sqA n C) (2 * (n * n)) ∧ 0 < fdx (sqT n B v) (sqA n C) (2 * (n * n)))
theorem wf_loop (he : e ≤ 1) {M : Mo} (hp : M 1 0 = pI e) {a b : Int} (ha : shp S0 a = (1, 8)) (hb : shp S0 b = (0, 3)) (hbne : b ≠ a + 20) (hP : AA e M (a + 18) n B) (hs : smM n B) {v : Vc e} (hv : sup n v) (hz : v ≠ z0) {m : Nat} {C : Nat → Nat → Nat → Kf e} (hC : AA e M b m C) {x1 : Int} : ∀ (f i : Nat) (M1 : Mo) (T : List (Vc e)) (o : Int) (y7 y8 y9 y10 y11 : AV), n ≤ f + i → i ≤ T.length → Fr (WWf a) M M1 → M1 (a + 20) 1 = n → ST M1 (a + 22) n (au T) → Good n T → sps n B 0 (20 - 2 * i) T (2 * i) = spin n B [] v → (∀ g i' : Nat, g < 2 → i' < 6 → M1 (a + 21) (6 * g + i') = pv (rv n (pTl n B v i) g i')) → wfO n B v m C i o → Rn 22 58 [(2, a), (1, x1), (9, 0), (2, b), (0, (n : Int)), (0, o), (0, (i : Int)), y7, y8, y9, y10, y11] [] M1 (wfQ M a n B v m C) := by
  have ha0 := shF_pos ha
  have hb0 := shA_pos hb
  have hab := shF_ab ha
  have hn6 := hP.n6
  obtain ⟨hfull, hfl⟩ := sim_full he hs hv hz
  have hGf : Good n (spin n B [] v) := spin_good he Good.nil hv
  have hend : ∀ (i : Nat) (M1 : Mo) (o : Int) (y7 y8 y9 y10 y11 : AV), Fr (WWf a) M M1 → M1 (a + 20) 1 = n → (∀ g i' : Nat, g < 2 → i' < 6 → M1 (a + 21) (6 * g + i') = pv (rv n (pTl n B v i) g i')) → wfO n B v m C i o → (n ≤ i ∨ 0 < o) → Rn 22 264 [(2, a), (1, x1), (9, 0), (2, b), (0, (n : Int)), (0, o), (0, (i : Int)), y7, y8, y9, y10, y11] [] M1 (wfQ M a n B v m C) := by
    intro i M1 o y7 y8 y9 y10 y11 hF hsz hrows ho hcase
    refine r_vret d_22_264 rt_22 ?_
    refine ⟨rfl, hF, pTl n B v i, ⟨hsz, hP.2.1, fun g i' hg hi' => by rw [show a + 20 + 1 = a + 21 by omega]; exact hrows g i' hg hi'⟩, ?_⟩
    by_cases q : n ≤ i
    · left
      intro c hc
      obtain ⟨g, i', j, hg, hi', hj, rfl⟩ := ixs hc
      unfold sqT
      rw [sqA_at hi' hj, sqA_at hi' hj]
      unfold pTl
      rw [if_pos (by omega)]
    · right
      obtain ⟨h1, k, h2, h3, h4, h5⟩ := ho.2 (by omega)
      refine ⟨h1, row_gt he h3 (fun i' j hi' hj => ?_) ?_, row_gt he h3 h4 h5⟩
      · unfold pTl
        rw [if_pos (by omega)]
        exact h4 i' j hi' hj
      · have : pv (rv n (pTl n B v i) 0 k) = pv (rv n (tel n B v) 0 k) := pv_congr (fun j _ => by
          unfold rv pTl
          rw [if_pos (show k < i by omega)])
        rw [this]
        exact h5
  intro f
  induction f with
  | zero =>
    intro i M1 T o y7 y8 y9 y10 y11 hf hiT hF hsz hT hG hsp hrows ho
    have := hG.len
    refine r_iload d_22_58 rfl ?_
    refine r_iload d_22_60 rfl ?_
    refine r_icmp_ge (t := 264) d_22_62 rfl (fun _ => ?_) (fun hz => absurd (by omega) hz)
    exact hend i M1 o _ _ _ _ _ hF hsz hrows ho (Or.inl (by omega))
  | succ f ih =>
    intro i M1 T o y7 y8 y9 y10 y11 hf hiT hF hsz hT hG hsp hrows ho
    have hTl := hG.len
    have hdim : M1 (a + 22) 2 = T.length := by rw [hT.2.1, au_len]
    by_cases hin : n ≤ i
    · refine r_iload d_22_58 rfl ?_
      refine r_iload d_22_60 rfl ?_
      refine r_icmp_ge (t := 264) d_22_62 rfl (fun _ => ?_) (fun hz => absurd (by omega) hz)
      exact hend i M1 o _ _ _ _ _ hF hsz hrows ho (Or.inl hin)
    · refine r_iload d_22_58 rfl ?_
      refine r_iload d_22_60 rfl ?_
      refine r_icmp_ge (t := 264) d_22_62 rfl (fun hz => absurd hz (by omega)) (fun _ => ?_)
      refine r_iload d_22_65 rfl ?_
      refine r_aload_n d_22_67 rfl (by omega) ?_
      refine r_getc (ki := 7) d_22_68 q_22_44 rfl ha (fxF ha).2.2.2.2.2.2.2 (by omega) ?_
      refine r_getfv (ki := 2) d_22_71 q_22_102 rfl (shF22 ha) hdim ?_
      have hlt : i < T.length := by
        apply Classical.byContradiction
        intro q
        have : sps n B 0 (20 - 2 * i) T (2 * i) = T := by
          rw [show 20 - 2 * i = (19 - 2 * i) + 1 by omega]
          show (if 0 + 2 * i / 2 < T.length then _ else T) = T
          rw [if_neg (by omega)]
        rw [this] at hsp
        rw [← hsp] at hfl
        omega
      refine r_icmp_ge (t := 264) d_22_74 rfl (fun hz => absurd hz (by omega)) (fun _ => ?_)
      refine r_iload d_22_77 rfl ?_
      by_cases hop : 0 < o
      · refine r_if_gt (t := 264) d_22_79 rfl (fun _ => ?_) (fun hz => absurd hop hz)
        exact hend i M1 o _ _ _ _ _ hF hsz hrows ho (Or.inr hop)
      · refine r_if_gt (t := 264) d_22_79 rfl (fun hz => absurd hz hop) (fun _ => ?_)
        refine r_iconst d_22_82 rfl ?_
        refine r_istore d_22_83 rfl (stl_12_7 rfl rfl) ?_
        refine r_iload d_22_85 rfl ?_
        refine r_iconst d_22_87 rfl ?_
        refine r_icmp_ge (t := 226) d_22_88 rfl (fun hz => absurd hz (by omega)) (fun _ => ?_)
        have hp1 : M1 1 0 = pI e := (hF _ _ (by unfold WWf WA WP; omega)).trans hp
        have hP1 : AA e M1 (a + 18) n B := hP.fr hF (fun x y q1 q2 => by unfold WA at q1; unfold WWf WA WP at q2; omega)
        refine wf_step he hp1 ha hb hP1 hT hG hlt (g := 0) (by omega) (fun M2 z8 z10 hF2 hT2 hr2 => ?_)
        refine r_iinc d_22_220 rfl (by omega) (stl_12_7 rfl rfl) ?_
        refine r_goto (t := 85) d_22_223 rfl ?_
        refine r_iload d_22_85 rfl ?_
        refine r_iconst d_22_87 rfl ?_
        refine r_icmp_ge (t := 226) d_22_88 rfl (fun hz => absurd hz (by omega)) (fun _ => ?_)
        have hx0 : sup n (mv n (B 0) (T.getD i z0)) := sup_mv
        have hG2 := addv_good he hG hx0
        have hl2 := addv_len (T := T) (x := mv n (B 0) (T.getD i z0))
        have hp2 : M2 1 0 = pI e := (hF2 _ _ (by unfold WP; omega)).trans hp1
        have hP2 : AA e M2 (a + 18) n B := hP1.fr hF2 (fun x y q1 q2 => by unfold WA at q1; unfold WP at q2; omega)
        refine wf_step he hp2 ha hb hP2 hT2 hG2 (i := i) (by omega) (g := 1) (by omega) (fun M3 w8 w10 hF3 hT3 hr3 => ?_)
        rw [addv_getD hlt] at hT3 hr3
        have hx1 : sup n (mv n (B 1) (T.getD i z0)) := sup_mv
        have hG3 := addv_good he hG2 hx1
        have hl3 := addv_len (T := addv T (mv n (B 0) (T.getD i z0))) (x := mv n (B 1) (T.getD i z0))
        have hsp3 : sps n B 0 (20 - 2 * (i + 1)) (addv (addv T (mv n (B 0) (T.getD i z0))) (mv n (B 1) (T.getD i z0))) (2 * (i + 1)) = spin n B [] v := by
          rw [← hsp, show 20 - 2 * i = (20 - 2 * (i + 1)) + 1 + 1 by omega, sps_two hlt]
        obtain ⟨R3, hR3⟩ := sps_pre (n := n) (A := B) (b := 0) (20 - 2 * (i + 1)) (addv (addv T (mv n (B 0) (T.getD i z0))) (mv n (B 1) (T.getD i z0))) (2 * (i + 1))
        rw [hsp3] at hR3
        have hTi : (spin n B [] v).getD i z0 = T.getD i z0 := by
          rw [hR3, getD_appl (by omega), addv_getD (by omega), addv_getD hlt]
        have hcod1 : cod (addv (addv T (mv n (B 0) (T.getD i z0))) (mv n (B 1) (T.getD i z0))) (mv n (B 1) (T.getD i z0)) = cod (spin n B [] v) (mv n (B 1) (T.getD i z0)) := by
          rw [hR3]
          exact (cod_pre he (by rw [← hR3]; exact hGf) (addv_ex hG2.1 hx1).2).symm
        obtain ⟨R2, hR2⟩ := (addv_ex hG2.1 hx1).1
        have hcod0 : cod (addv T (mv n (B 0) (T.getD i z0))) (mv n (B 0) (T.getD i z0)) = cod (spin n B [] v) (mv n (B 0) (T.getD i z0)) := by
          have h1 : spin n B [] v = addv T (mv n (B 0) (T.getD i z0)) ++ (R2 ++ R3) := by rw [hR3, hR2, List.append_assoc]
          rw [h1]
          exact (cod_pre he (by rw [← h1]; exact hGf) (addv_ex hG.1 hx0).2).symm
        have hrv : ∀ g : Nat, g < 2 → pv (cod (spin n B [] v) (mv n (B g) (T.getD i z0))) = pv (rv n (tel n B v) g i) := fun g hg => by
          refine pv_congr (fun j _ => ?_)
          unfold rv tel
          rw [hTi]
          by_cases q : i < n ∧ j < n
          · rw [if_pos q]
          · rw [if_neg q]
            exact (cod_spec (hfull _ sup_mv)).1 j (by omega)
        have hF13 : Fr (WWf a) M M3 := (hF.trans hF2 (fun x y q => q) (fun x y q => by unfold WP at q; unfold WWf WA WP; omega)).trans hF3 (fun x y q => q) (fun x y q => by unfold WP at q; unfold WWf WA WP; omega)
        have hsz3 : M3 (a + 20) 1 = n := (hF3 _ _ (by unfold WP; omega)).trans ((hF2 _ _ (by unfold WP; omega)).trans hsz)
        have hrow0 : M3 (a + 21) ((6 * 0 + i : Nat) : Int) = pv (rv n (tel n B v) 0 i) := by
          rw [hF3 _ _ (by unfold WP; omega), ← hrv 0 (by omega), ← hcod0, ← hr2]
          congr 1
        have hrow1 : M3 (a + 21) ((6 * 1 + i : Nat) : Int) = pv (rv n (tel n B v) 1 i) := by
          rw [← hrv 1 (by omega), ← hcod1, ← hr3]
          congr 1
        have hrows3 : ∀ g i' : Nat, g < 2 → i' < 6 → M3 (a + 21) (6 * g + i') = pv (rv n (pTl n B v (i + 1)) g i') := fun g i' hg hi' => by
          by_cases q : i' = i
          · subst q
            have h1 : pv (rv n (pTl n B v (i' + 1)) g i') = pv (rv n (tel n B v) g i') := pv_congr (fun j _ => by
              unfold rv pTl
              rw [if_pos (show i' < i' + 1 by omega)])
            rw [h1]
            rcases (show g = 0 ∨ g = 1 by omega) with rfl | rfl
            · exact hrow0
            · exact hrow1
          · have h1 : pv (rv n (pTl n B v (i + 1)) g i') = pv (rv n (pTl n B v i) g i') := pv_congr (fun j _ => by
              unfold rv pTl
              by_cases w : i' < i
              · rw [if_pos w, if_pos (show i' < i + 1 by omega)]
              · rw [if_neg w, if_neg (show ¬ i' < i + 1 by omega)])
            rw [h1, hF3 _ _ (by unfold WP; omega), hF2 _ _ (by unfold WP; omega)]
            exact hrows g i' hg hi'
        refine r_iinc d_22_220 rfl (by omega) (stl_12_7 rfl rfl) ?_
        refine r_goto (t := 85) d_22_223 rfl ?_
        refine r_iload d_22_85 rfl ?_
        refine r_iconst d_22_87 rfl ?_
        refine r_icmp_ge (t := 226) d_22_88 rfl (fun _ => ?_) (fun hz => absurd (by omega) hz)
        refine r_iload d_22_226 rfl ?_
        by_cases ho0 : o = 0
        · subst ho0
          obtain ⟨hmn, heq⟩ := ho.1 rfl
          subst hmn
          have hCb : M3 (b + 1) (i : Int) = pv (rv m C 0 i) := by
            have h1 := hC.2.2 0 i (by omega) (by omega)
            rw [show 6 * ((0 : Nat) : Int) + (i : Int) = i by omega] at h1
            rw [hF13 _ _ ?_]
            · exact h1
            · have w1 := sh_ne (shA1 hb) (shF20 ha) (by decide)
              have w2 := sh_ne (shA1 hb) (shF22 ha) (by decide)
              have w3 := sh_ne (shA1 hb) (shS1 (shF22 ha)) (by decide)
              have w4 := sh_ne (shA1 hb) (shS2 (shF22 ha)) (by decide)
              unfold WWf WA WP
              omega
          have hr0 : M3 (a + 20 + 1) (i : Int) = pv (rv m (tel m B v) 0 i) := by
            rw [show a + 20 + 1 = a + 21 by omega]
            have := hrow0
            rw [show ((6 * 0 + i : Nat) : Int) = i by omega] at this
            exact this
          refine r_if_ne (t := 254) d_22_228 rfl (fun hz => absurd hz (fun z => z rfl)) (fun _ => ?_)
          refine r_aload_n d_22_231 rfl (by omega) ?_
          refine r_getc (ki := 6) d_22_232 q_22_38 rfl ha (fxF ha).2.2.2.2.2.2.1 (by omega) ?_
          refine r_getc (ki := 2) d_22_235 q_22_121 rfl (shF20 ha) (fxA2 (shF20 ha)) (by omega) ?_
          refine r_iload d_22_238 rfl ?_
          refine r_laloadv d_22_240 (shA1 (shF20 ha)) (by omega) (by omega) hr0 ?_
          refine r_aload_n d_22_241 rfl (by omega) ?_
          refine r_getc (ki := 2) d_22_242 q_22_121 rfl hb (fxA2 hb) (by omega) ?_
          refine r_iload d_22_245 rfl ?_
          refine r_laloadv d_22_247 (shA1 hb) (by omega) (by omega) hCb ?_
          refine r_callsp d_22_248 q_22_131 rfl rfl (j_lcompare M3 _ _) ?_
          refine r_goto (t := 256) d_22_251 rfl ?_
          refine r_istore d_22_256 rfl (stl_12_5 rfl rfl) ?_
          refine r_iinc d_22_258 rfl (by omega) (stl_12_6 rfl rfl) ?_
          refine r_goto (t := 58) d_22_261 rfl ?_
          refine ih (i + 1) M3 _ _ _ _ _ _ _ (by omega) (by omega) hF13 hsz3 hT3 hG3 hsp3 hrows3 ⟨fun hq => ⟨rfl, fun i' j hi' hj => ?_⟩, fun hq => ⟨rfl, i, rfl, by omega, heq, ?_⟩⟩
          · by_cases w : i' = i
            · subst w
              have he2 : pv (rv m (tel m B v) 0 i') = pv (rv m C 0 i') := by
                apply Classical.byContradiction
                intro k
                rw [if_neg k] at hq
                split at hq <;> omega
              have h3 := pv_inj he he2 j (by omega)
              unfold rv at h3
              rw [if_pos ⟨by omega, hj⟩, if_pos ⟨by omega, hj⟩] at h3
              exact h3
            · exact heq i' j (by omega) hj
          · apply Classical.byContradiction
            intro k
            by_cases k2 : pv (rv m (tel m B v) 0 i) < pv (rv m C 0 i)
            · rw [if_pos k2] at hq
              omega
            · rw [if_neg k2, if_pos (by omega)] at hq
              omega
        · refine r_if_ne (t := 254) d_22_228 rfl (fun _ => ?_) (fun hz => absurd ho0 hz)
          refine r_iload d_22_254 rfl ?_
          refine r_istore d_22_256 rfl (stl_12_5 rfl rfl) ?_
          refine r_iinc d_22_258 rfl (by omega) (stl_12_6 rfl rfl) ?_
          refine r_goto (t := 58) d_22_261 rfl ?_
          exact ih (i + 1) M3 _ _ _ _ _ _ _ (by omega) (by omega) hF13 hsz3 hT3 hG3 hsp3 hrows3 ⟨fun hq => absurd hq ho0, fun hq => absurd hq hop⟩
end
