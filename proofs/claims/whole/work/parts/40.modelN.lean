/-! The model: parts, rests, moved, spun, row. -/
theorem chg_mm {M M1 M3 : Mo} {s : Sst} {H' : List Sst} {P : Int → Int → Prop} {k n : Nat} {B : Nat → Nat → Nat → Kf s.1} (hv : vs s) (hc : cu M s) (h1 : Fr (fun x y => W1 x y ∨ WL x y) M M1) (h5 : M1 217 5 = -1) (hH : hi M1 H') (h3 : Fr P M1 M3) (hP : ∀ x y, P x y → W1 x y ∨ WK k x y) (hk : k < 4) (hM : MM s.1 M3 k n B) : chg M M3 (setm s k n (fun g i j => vl (B g i j))) H' := by
  have hP2 : ∀ x y, P x y → ¬ (x = 217 ∧ y ≠ 7) ∧ x ≠ 218 ∧ x ≠ 228 ∧ (x = 219 → y = k) ∧ (x = 220 → 72 * (k : Int) ≤ y ∧ y < 72 * k + 72) := fun x y q => by
    have := hP x y q
    unfold W1 WK at this
    omega
  refine ⟨?_, ?_, ⟨?_, fun k' hk' => ?_⟩, ?_⟩
  · refine h1.trans h3 (fun x y q => q.elim Or.inl (fun q => Or.inr (Or.inl q))) (fun x y q => ?_)
    rcases hP x y q with q | q
    · exact Or.inl q
    · rcases q with q | q
      · exact Or.inr (Or.inr (Or.inr (Or.inl ⟨q.1, by omega⟩)))
      · exact Or.inr (Or.inr (Or.inr (Or.inr (Or.inl ⟨q.1, by omega⟩))))
  · rw [h3 _ _ (fun q => (hP2 _ _ q).1 ⟨rfl, by decide⟩)]
    exact h5
  · rw [h3 _ _ (fun q => (hP2 _ _ q).1 ⟨rfl, by decide⟩), h1 _ _ (by unfold W1 WL; omega)]
    exact hc.1
  · by_cases hkk : k' = k
    · subst hkk
      unfold setm
      simp only [if_pos]
      exact ⟨hM.1, hM.2.2⟩
    · unfold setm
      simp only [if_neg hkk]
      have hold := hc.2 k' hk'
      refine ⟨?_, fun g i j a1 a2 a3 => ?_⟩
      · rw [h3 _ _ (fun q => hkk (by have := (hP2 _ _ q).2.2.2.1 rfl; omega)), h1 _ _ (by unfold W1 WL; omega)]
        exact hold.1
      · have h6 := vs_6 hv hk'
        rw [h3 _ _ (fun q => hkk (by have := (hP2 _ _ q).2.2.2.2 rfl; omega)), h1 _ _ (by unfold W1 WL; omega)]
        exact hold.2 g i j a1 a2 a3
  · exact hi.fr hH h3 (fun x y q => ⟨(hP2 x y q).2.2.1, fun q2 => (hP2 x y q).1 ⟨q2.1, by omega⟩⟩)
def mdA (s : Sst) (k : Nat) (g i j : Nat) : Kf s.1 := kI s.1 (s.2.2 k g i j)
noncomputable def spT (s : Sst) (x : Nat) (v : Int) : List (Vc s.1) := spin (s.2.1 x) (mdA s x) [] (toV s.1 (s.2.1 x) v)
theorem spT_good {s : Sst} (hv : vs s) {x : Nat} {v : Int} : Good (s.2.1 x) (spT s x v) := spin_good hv.1 Good.nil toV_sup
def okV (s : Sst) (x v : Int) : Prop := (0 ≤ x ∧ x ≤ 3) ∧ 0 ≤ v ∧ v < pI s.1 ^ s.2.1 x.toNat
theorem m_isV (M : Mo) {s : Sst} (hv : vs s) (hc : cu M s) {x : Nat} (hx : x < 4) (v : Int) : PI 140 [(2, 217), (0, (x : Int)), (0, v)] M (if 0 ≤ v ∧ v < pI s.1 ^ s.2.1 x then 1 else 0) := by
  have h6 := vs_6 hv hx
  have := m_isVector M hc.1 (pI23 hv.1) x v (by omega) (hc.2 x hx).1 (by omega)
  rw [Int.toNat_natCast] at this
  exact this
theorem m_spn (M : Mo) {s : Sst} (hv : vs s) (hc : cu M s) {x : Nat} {v : Int} (hx : x < 4) (h0 : 0 ≤ v) (h1 : v < pI s.1 ^ s.2.1 x) : CV 144 [(2, 217), (0, (x : Int)), (0, v)] M (fun M' => Fr W1 M M' ∧ SP (s.2.1 x) M' (spT s x v)) := by
  have h := m_spinsF hv.1 M hc.1 (k := x) (by omega) (hc.MM hv hx) (v := toV s.1 (s.2.1 x) v) toV_sup
  rw [num_toV hv.1 h0 h1] at h
  exact h
theorem cu.w1 {M M1 : Mo} {s : Sst} (hv : vs s) (h : cu M s) (hF : Fr W1 M M1) : cu M1 s := cu.fr hv h hF (fun x y q => by unfold W1 at q; omega)
theorem SP.dm {e n : Nat} {M : Mo} {T : List (Vc e)} (h : SP n M T) (hG : Good n T) : M 217 7 = dm n (spn T) := by rw [h.1, hG.2]
theorem m_parts_bad (M : Mo) (hb : cb M) {s : Sst} (hv : vs s) (hc : cu M s) {k x v : Int} (h : ¬ ((0 ≤ k ∧ k ≤ 3) ∧ okV s x v)) : PJ 162 [(2, 217), (0, k), (0, x), (0, v)] M (-2) (up2 M 218 0 (M 218 0 + 1)) := by
  refine Cl.intro (L := [(2, 217), (0, k), (0, x), (0, v)]) (rcv_v ow_162.2.1 sh_217) (by unfold entl; rw [mx_162]; rfl) (by rw [mx_162]; exact Nat.le_of_ble_eq_true rfl) rfl ?_
  have hbad := m_bad M (hb 0 (by omega) (by omega))
  refine r_iload_n d_162_0 rfl ?_
  refine r_callsp d_162_1 q_162_178 rfl rfl (m_isModule M k) ?_
  by_cases hk : 0 ≤ k ∧ k ≤ 3
  · rw [if_pos hk]
    refine r_if_eq (t := 23) d_162_4 rfl (fun hz => absurd hz (by decide)) (fun _ => ?_)
    refine r_iload_n d_162_7 rfl ?_
    refine r_callsp d_162_8 q_162_178 rfl rfl (m_isModule M x) ?_
    by_cases hx : 0 ≤ x ∧ x ≤ 3
    · rw [if_pos hx]
      have hiv := m_isV M hv hc (x := x.toNat) (by omega) v
      rw [show ((x.toNat : Nat) : Int) = x by omega] at hiv
      refine r_if_eq (t := 23) d_162_11 rfl (fun hz => absurd hz (by decide)) (fun _ => ?_)
      refine r_aload_n d_162_14 rfl (by omega) ?_
      refine r_iload_n d_162_15 rfl ?_
      refine r_iload_n d_162_16 rfl ?_
      refine r_callvp d_162_17 q_162_202 rfl rfl hiv ?_
      rw [if_neg (fun q => h ⟨hk, hx, q⟩)]
      refine r_if_ne (t := 28) d_162_20 rfl (fun hz => absurd hz (by decide)) (fun _ => ?_)
      refine r_aload_n d_162_23 rfl (by omega) ?_
      refine r_callvj d_162_24 q_162_172 rfl rfl hbad ?_
      refine r_iret d_162_27 rt_162 ?_
      exact ⟨rfl, rfl⟩
    · rw [if_neg hx]
      refine r_if_eq (t := 23) d_162_11 rfl (fun _ => ?_) (fun hz => absurd (by decide) hz)
      refine r_aload_n d_162_23 rfl (by omega) ?_
      refine r_callvj d_162_24 q_162_172 rfl rfl hbad ?_
      refine r_iret d_162_27 rt_162 ?_
      exact ⟨rfl, rfl⟩
  · rw [if_neg hk]
    refine r_if_eq (t := 23) d_162_4 rfl (fun _ => ?_) (fun hz => absurd (by decide) hz)
    refine r_aload_n d_162_23 rfl (by omega) ?_
    refine r_callvj d_162_24 q_162_172 rfl rfl hbad ?_
    refine r_iret d_162_27 rt_162 ?_
    exact ⟨rfl, rfl⟩
theorem m_parts_no (M : Mo) (hb : cb M) {s : Sst} (hv : vs s) (hc : cu M s) {k x : Nat} (hk : k < 4) (hx : x < 4) : PJ 162 [(2, 217), (0, (k : Int)), (0, (x : Int)), (0, 0)] M (-3) (up2 M 218 1 (M 218 1 + 1)) := by
  refine Cl.intro (L := [(2, 217), (0, (k : Int)), (0, (x : Int)), (0, 0)]) (rcv_v ow_162.2.1 sh_217) (by unfold entl; rw [mx_162]; rfl) (by rw [mx_162]; exact Nat.le_of_ble_eq_true rfl) rfl ?_
  have hno := m_no M (hb 1 (by omega) (by omega))
  have hp1 := pw_pos (pI23 hv.1) (s.2.1 x)
  refine r_iload_n d_162_0 rfl ?_
  refine r_callsp d_162_1 q_162_178 rfl rfl (m_isModule M k) ?_
  rw [if_pos (by omega)]
  refine r_if_eq (t := 23) d_162_4 rfl (fun hz => absurd hz (by decide)) (fun _ => ?_)
  refine r_iload_n d_162_7 rfl ?_
  refine r_callsp d_162_8 q_162_178 rfl rfl (m_isModule M x) ?_
  rw [if_pos (by omega)]
  refine r_if_eq (t := 23) d_162_11 rfl (fun hz => absurd hz (by decide)) (fun _ => ?_)
  refine r_aload_n d_162_14 rfl (by omega) ?_
  refine r_iload_n d_162_15 rfl ?_
  refine r_iload_n d_162_16 rfl ?_
  refine r_callvp d_162_17 q_162_202 rfl rfl (m_isV M hv hc hx 0) ?_
  rw [if_pos (by omega)]
  refine r_if_ne (t := 28) d_162_20 rfl (fun _ => ?_) (fun hz => absurd (by decide) hz)
  refine r_iload_n d_162_28 rfl ?_
  refine r_if_ne (t := 37) d_162_29 rfl (fun hz => absurd hz (by decide)) (fun _ => ?_)
  refine r_aload_n d_162_32 rfl (by omega) ?_
  refine r_callvj d_162_33 q_162_168 rfl rfl hno ?_
  refine r_iret d_162_36 rt_162 ?_
  exact ⟨rfl, rfl⟩
theorem m_parts {M : Mo} {s : Sst} {H : List Sst} (hv : vs s) (hc : cu M s) (hH : hi M H) {k x : Nat} {v : Int} (hk : k < 4) (hx : x < 4) (h0 : 0 < v) (h1 : v < pI s.1 ^ s.2.1 x) : CI 162 [(2, 217), (0, (k : Int)), (0, (x : Int)), (0, v)] M (fun z M' => z = ((spT s x v).length : Nat) ∧ chg M M' (setm s k (spT s x v).length (fun g i j => vl (prt (s.2.1 x) (mdA s x) (spn (spT s x v)) g i j))) (psh H s)) := by
  refine Cl.intro (L := [(2, 217), (0, (k : Int)), (0, (x : Int)), (0, v)]) (rcv_v ow_162.2.1 sh_217) (by unfold entl; rw [mx_162]; rfl) (by rw [mx_162]; exact Nat.le_of_ble_eq_true rfl) rfl ?_
  have hG := spT_good hv (x := x) (v := v)
  refine r_iload_n d_162_0 rfl ?_
  refine r_callsp d_162_1 q_162_178 rfl rfl (m_isModule M k) ?_
  rw [if_pos (by omega)]
  refine r_if_eq (t := 23) d_162_4 rfl (fun hz => absurd hz (by decide)) (fun _ => ?_)
  refine r_iload_n d_162_7 rfl ?_
  refine r_callsp d_162_8 q_162_178 rfl rfl (m_isModule M x) ?_
  rw [if_pos (by omega)]
  refine r_if_eq (t := 23) d_162_11 rfl (fun hz => absurd hz (by decide)) (fun _ => ?_)
  refine r_aload_n d_162_14 rfl (by omega) ?_
  refine r_iload_n d_162_15 rfl ?_
  refine r_iload_n d_162_16 rfl ?_
  refine r_callvp d_162_17 q_162_202 rfl rfl (m_isV M hv hc hx v) ?_
  rw [if_pos (by omega)]
  refine r_if_ne (t := 28) d_162_20 rfl (fun _ => ?_) (fun hz => absurd (by decide) hz)
  refine r_iload_n d_162_28 rfl ?_
  refine r_if_ne (t := 37) d_162_29 rfl (fun _ => ?_) (fun hz => absurd (by omega) hz)
  refine r_aload_n d_162_37 rfl (by omega) ?_
  refine r_callvr d_162_38 q_162_175 rfl rfl (m_leavesState M hv hc hH) (fun M1 hM1 => ?_)
  obtain ⟨hF1, h5, hH1⟩ := hM1
  have hc1 : cu M1 s := cu.fr hv hc hF1 (fun x y q => by unfold WL at q; omega)
  refine r_aload_n d_162_41 rfl (by omega) ?_
  refine r_iload_n d_162_42 rfl ?_
  refine r_iload_n d_162_43 rfl ?_
  refine r_callvr d_162_44 q_162_205 rfl rfl (m_spn M1 hv hc1 hx (Int.le_of_lt h0) h1) (fun M2 hM2 => ?_)
  obtain ⟨hF2, hSP⟩ := hM2
  have hc2 := cu.w1 hv hc1 hF2
  refine r_aload_n d_162_47 rfl (by omega) ?_
  refine r_iload_n d_162_48 rfl ?_
  refine r_iload_n d_162_49 rfl ?_
  refine r_callvr d_162_50 q_162_208 rfl rfl (m_tellsPart hv.1 M2 hc2.1 (k := x) (k2 := k) (by omega) (by omega) (hc2.MM hv hx) hG.sub hSP.2.2 (hSP.dm hG)) (fun M3 hM3 => ?_)
  obtain ⟨hF3, hMM⟩ := hM3
  rw [hG.2] at hMM
  refine r_aload_n d_162_53 rfl (by omega) ?_
  refine r_getc (ki := 2) d_162_54 q_162_17 rfl sh_217 fx_217_2 (by omega) ?_
  refine r_iload_n d_162_57 rfl ?_
  refine r_ialoadv d_162_58 sh_219 (by omega) (by omega) hMM.1 ?_
  refine r_iret d_162_59 rt_162 ?_
  refine ⟨_, rfl, rfl, chg_mm hv hc (hF1.mono (fun x y q => Or.inr q)) h5 hH1 (P := fun x y => W1 x y ∨ WK k x y) (hF2.trans hF3 (fun x y q => Or.inl q) (fun x y q => q.elim (fun q => Or.inl (by unfold WF at q; unfold W1; omega)) Or.inr)) (fun x y q => q) hk hMM⟩
theorem m_rests_bad (M : Mo) (hb : cb M) {s : Sst} (hv : vs s) (hc : cu M s) {k x v : Int} (h : ¬ ((0 ≤ k ∧ k ≤ 3) ∧ okV s x v)) : PJ 163 [(2, 217), (0, k), (0, x), (0, v)] M (-2) (up2 M 218 0 (M 218 0 + 1)) := by
  refine Cl.intro (L := [(2, 217), (0, k), (0, x), (0, v)]) (rcv_v ow_163.2.1 sh_217) (by unfold entl; rw [mx_163]; rfl) (by rw [mx_163]; exact Nat.le_of_ble_eq_true rfl) rfl ?_
  have hbad := m_bad M (hb 0 (by omega) (by omega))
  refine r_iload_n d_163_0 rfl ?_
  refine r_callsp d_163_1 q_163_178 rfl rfl (m_isModule M k) ?_
  by_cases hk : 0 ≤ k ∧ k ≤ 3
  · rw [if_pos hk]
    refine r_if_eq (t := 23) d_163_4 rfl (fun hz => absurd hz (by decide)) (fun _ => ?_)
    refine r_iload_n d_163_7 rfl ?_
    refine r_callsp d_163_8 q_163_178 rfl rfl (m_isModule M x) ?_
    by_cases hx : 0 ≤ x ∧ x ≤ 3
    · rw [if_pos hx]
      have hiv := m_isV M hv hc (x := x.toNat) (by omega) v
      rw [show ((x.toNat : Nat) : Int) = x by omega] at hiv
      refine r_if_eq (t := 23) d_163_11 rfl (fun hz => absurd hz (by decide)) (fun _ => ?_)
      refine r_aload_n d_163_14 rfl (by omega) ?_
      refine r_iload_n d_163_15 rfl ?_
      refine r_iload_n d_163_16 rfl ?_
      refine r_callvp d_163_17 q_163_202 rfl rfl hiv ?_
      rw [if_neg (fun q => h ⟨hk, hx, q⟩)]
      refine r_if_ne (t := 28) d_163_20 rfl (fun hz => absurd hz (by decide)) (fun _ => ?_)
      refine r_aload_n d_163_23 rfl (by omega) ?_
      refine r_callvj d_163_24 q_163_172 rfl rfl hbad ?_
      refine r_iret d_163_27 rt_163 ?_
      exact ⟨rfl, rfl⟩
    · rw [if_neg hx]
      refine r_if_eq (t := 23) d_163_11 rfl (fun _ => ?_) (fun hz => absurd (by decide) hz)
      refine r_aload_n d_163_23 rfl (by omega) ?_
      refine r_callvj d_163_24 q_163_172 rfl rfl hbad ?_
      refine r_iret d_163_27 rt_163 ?_
      exact ⟨rfl, rfl⟩
  · rw [if_neg hk]
    refine r_if_eq (t := 23) d_163_4 rfl (fun _ => ?_) (fun hz => absurd (by decide) hz)
    refine r_aload_n d_163_23 rfl (by omega) ?_
    refine r_callvj d_163_24 q_163_172 rfl rfl hbad ?_
    refine r_iret d_163_27 rt_163 ?_
    exact ⟨rfl, rfl⟩
theorem m_rests_no (M : Mo) (hb : cb M) {s : Sst} (hv : vs s) (hc : cu M s) {k x : Nat} {v : Int} (hk : k < 4) (hx : x < 4) (h0 : 0 ≤ v) (h1 : v < pI s.1 ^ s.2.1 x) (hd : (spT s x v).length = s.2.1 x) : CI 163 [(2, 217), (0, (k : Int)), (0, (x : Int)), (0, v)] M (fun z M' => z = -3 ∧ ∃ M1, Fr W1 M M1 ∧ M' = up2 M1 218 1 (M 218 1 + 1)) := by
  refine Cl.intro (L := [(2, 217), (0, (k : Int)), (0, (x : Int)), (0, v)]) (rcv_v ow_163.2.1 sh_217) (by unfold entl; rw [mx_163]; rfl) (by rw [mx_163]; exact Nat.le_of_ble_eq_true rfl) rfl ?_
  refine r_iload_n d_163_0 rfl ?_
  refine r_callsp d_163_1 q_163_178 rfl rfl (m_isModule M k) ?_
  rw [if_pos (by omega)]
  refine r_if_eq (t := 23) d_163_4 rfl (fun hz => absurd hz (by decide)) (fun _ => ?_)
  refine r_iload_n d_163_7 rfl ?_
  refine r_callsp d_163_8 q_163_178 rfl rfl (m_isModule M x) ?_
  rw [if_pos (by omega)]
  refine r_if_eq (t := 23) d_163_11 rfl (fun hz => absurd hz (by decide)) (fun _ => ?_)
  refine r_aload_n d_163_14 rfl (by omega) ?_
  refine r_iload_n d_163_15 rfl ?_
  refine r_iload_n d_163_16 rfl ?_
  refine r_callvp d_163_17 q_163_202 rfl rfl (m_isV M hv hc hx v) ?_
  rw [if_pos (by omega)]
  refine r_if_ne (t := 28) d_163_20 rfl (fun _ => ?_) (fun hz => absurd (by decide) hz)
  refine r_aload_n d_163_28 rfl (by omega) ?_
  refine r_iload_n d_163_29 rfl ?_
  refine r_iload_n d_163_30 rfl ?_
  refine r_callvr d_163_31 q_163_205 rfl rfl (m_spn M hv hc hx h0 h1) (fun M1 hM1 => ?_)
  obtain ⟨hF1, hSP⟩ := hM1
  have hc1 := cu.w1 hv hc hF1
  have h218 : M1 218 1 = M 218 1 := hF1 _ _ (by unfold W1; omega)
  have hno := m_no M1 (by rw [h218]; exact hb 1 (by omega) (by omega))
  refine r_aload_n d_163_34 rfl (by omega) ?_
  refine r_getfv (ki := 7) d_163_35 q_163_122 rfl sh_217 hSP.1 ?_
  refine r_aload_n d_163_38 rfl (by omega) ?_
  refine r_getc (ki := 2) d_163_39 q_163_17 rfl sh_217 fx_217_2 (by omega) ?_
  refine r_iload_n d_163_42 rfl ?_
  refine r_ialoadv d_163_43 sh_219 (by omega) (by omega) (hc1.2 x hx).1 ?_
  refine r_icmp_ne (t := 52) d_163_44 rfl (fun hz => absurd hz (by omega)) (fun _ => ?_)
  refine r_aload_n d_163_47 rfl (by omega) ?_
  refine r_callvj d_163_48 q_163_168 rfl rfl hno ?_
  refine r_iret d_163_51 rt_163 ?_
  exact ⟨_, rfl, rfl, M1, hF1, by rw [h218]⟩
theorem m_rests {M : Mo} {s : Sst} {H : List Sst} (hv : vs s) (hc : cu M s) (hH : hi M H) {k x : Nat} {v : Int} (hk : k < 4) (hx : x < 4) (h0 : 0 ≤ v) (h1 : v < pI s.1 ^ s.2.1 x) (hd : (spT s x v).length ≠ s.2.1 x) : CI 163 [(2, 217), (0, (k : Int)), (0, (x : Int)), (0, v)] M (fun z M' => z = ((s.2.1 x - (spT s x v).length : Nat) : Int) ∧ chg M M' (setm s k (s.2.1 x - (spT s x v).length) (fun g i j => vl (rst (s.2.1 x) (mdA s x) (spn (spT s x v)) g i j))) (psh H s)) := by
  refine Cl.intro (L := [(2, 217), (0, (k : Int)), (0, (x : Int)), (0, v)]) (rcv_v ow_163.2.1 sh_217) (by unfold entl; rw [mx_163]; rfl) (by rw [mx_163]; exact Nat.le_of_ble_eq_true rfl) rfl ?_
  have hG := spT_good hv (x := x) (v := v)
  refine r_iload_n d_163_0 rfl ?_
  refine r_callsp d_163_1 q_163_178 rfl rfl (m_isModule M k) ?_
  rw [if_pos (by omega)]
  refine r_if_eq (t := 23) d_163_4 rfl (fun hz => absurd hz (by decide)) (fun _ => ?_)
  refine r_iload_n d_163_7 rfl ?_
  refine r_callsp d_163_8 q_163_178 rfl rfl (m_isModule M x) ?_
  rw [if_pos (by omega)]
  refine r_if_eq (t := 23) d_163_11 rfl (fun hz => absurd hz (by decide)) (fun _ => ?_)
  refine r_aload_n d_163_14 rfl (by omega) ?_
  refine r_iload_n d_163_15 rfl ?_
  refine r_iload_n d_163_16 rfl ?_
  refine r_callvp d_163_17 q_163_202 rfl rfl (m_isV M hv hc hx v) ?_
  rw [if_pos (by omega)]
  refine r_if_ne (t := 28) d_163_20 rfl (fun _ => ?_) (fun hz => absurd (by decide) hz)
  refine r_aload_n d_163_28 rfl (by omega) ?_
  refine r_iload_n d_163_29 rfl ?_
  refine r_iload_n d_163_30 rfl ?_
  refine r_callvr d_163_31 q_163_205 rfl rfl (m_spn M hv hc hx h0 h1) (fun M1 hM1 => ?_)
  obtain ⟨hF1, hSP⟩ := hM1
  have hc1 := cu.w1 hv hc hF1
  have hH1 : hi M1 H := hi.fr hH hF1 (fun x y q => by unfold W1 at q; omega)
  refine r_aload_n d_163_34 rfl (by omega) ?_
  refine r_getfv (ki := 7) d_163_35 q_163_122 rfl sh_217 hSP.1 ?_
  refine r_aload_n d_163_38 rfl (by omega) ?_
  refine r_getc (ki := 2) d_163_39 q_163_17 rfl sh_217 fx_217_2 (by omega) ?_
  refine r_iload_n d_163_42 rfl ?_
  refine r_ialoadv d_163_43 sh_219 (by omega) (by omega) (hc1.2 x hx).1 ?_
  refine r_icmp_ne (t := 52) d_163_44 rfl (fun _ => ?_) (fun hz => absurd (by omega) hz)
  refine r_aload_n d_163_52 rfl (by omega) ?_
  refine r_callvr d_163_53 q_163_175 rfl rfl (m_leavesState M1 hv hc1 hH1) (fun M2 hM2 => ?_)
  obtain ⟨hF2, h5, hH2⟩ := hM2
  have hc2 : cu M2 s := cu.fr hv hc1 hF2 (fun x y q => by unfold WL at q; omega)
  have hh2 : hs (s.2.1 x) (M2 222) (spn (spT s x v)) := fun w hw => by
    rw [hF2 222 _ (by unfold WL; omega)]
    exact hSP.2.2 w hw
  have hd2 : M2 217 7 = dm (s.2.1 x) (spn (spT s x v)) := by
    rw [hF2 _ _ (by unfold WL; omega)]
    exact hSP.dm hG
  refine r_aload_n d_163_56 rfl (by omega) ?_
  refine r_iload_n d_163_57 rfl ?_
  refine r_iload_n d_163_58 rfl ?_
  refine r_callvr d_163_59 q_163_211 rfl rfl (m_tellsRest hv.1 M2 hc2.1 (k := x) (k2 := k) (by omega) (by omega) (hc2.MM hv hx) hG.sub hh2 hd2) (fun M3 hM3 => ?_)
  obtain ⟨hF3, hMM⟩ := hM3
  rw [hG.2] at hMM
  refine r_aload_n d_163_62 rfl (by omega) ?_
  refine r_getc (ki := 2) d_163_63 q_163_17 rfl sh_217 fx_217_2 (by omega) ?_
  refine r_iload_n d_163_66 rfl ?_
  refine r_ialoadv d_163_67 sh_219 (by omega) (by omega) hMM.1 ?_
  refine r_iret d_163_68 rt_163 ?_
  refine ⟨_, rfl, rfl, chg_mm hv hc (hF1.trans hF2 (fun x y q => Or.inl q) (fun x y q => Or.inr q)) h5 hH2 (P := fun x y => W1 x y ∨ WK k x y) (hF3.mono (fun x y q => q.elim (fun q => Or.inl (by unfold WF at q; unfold W1; omega)) Or.inr)) (fun x y q => q) hk hMM⟩
theorem m_moved_bad (M : Mo) (hb : cb M) {s : Sst} (hv : vs s) (hc : cu M s) {k g v : Int} (h : ¬ ((0 ≤ g ∧ g ≤ 1) ∧ okV s k v)) : PJ 166 [(2, 217), (0, k), (0, g), (0, v)] M (-2) (up2 M 218 0 (M 218 0 + 1)) := by
  refine Cl.intro (L := [(2, 217), (0, k), (0, g), (0, v)]) (rcv_v ow_166.2.1 sh_217) (by unfold entl; rw [mx_166]; rfl) (by rw [mx_166]; exact Nat.le_of_ble_eq_true rfl) rfl ?_
  have hbad := m_bad M (hb 0 (by omega) (by omega))
  refine r_iload_n d_166_0 rfl ?_
  refine r_callsp d_166_1 q_166_178 rfl rfl (m_isModule M k) ?_
  by_cases hk : 0 ≤ k ∧ k ≤ 3
  · rw [if_pos hk]
    refine r_if_eq (t := 25) d_166_4 rfl (fun hz => absurd hz (by decide)) (fun _ => ?_)
    refine r_iload_n d_166_7 rfl ?_
    refine r_iconst d_166_8 rfl ?_
    refine r_iconst d_166_9 rfl ?_
    refine r_callsp d_166_10 q_166_118 rfl rfl (m_in M g 0 1) ?_
    by_cases hg : 0 ≤ g ∧ g ≤ 1
    · rw [if_pos hg]
      have hiv := m_isV M hv hc (x := k.toNat) (by omega) v
      rw [show ((k.toNat : Nat) : Int) = k by omega] at hiv
      refine r_if_eq (t := 25) d_166_13 rfl (fun hz => absurd hz (by decide)) (fun _ => ?_)
      refine r_aload_n d_166_16 rfl (by omega) ?_
      refine r_iload_n d_166_17 rfl ?_
      refine r_iload_n d_166_18 rfl ?_
      refine r_callvp d_166_19 q_166_202 rfl rfl hiv ?_
      rw [if_neg (fun q => h ⟨hg, hk, q⟩)]
      refine r_if_ne (t := 30) d_166_22 rfl (fun hz => absurd hz (by decide)) (fun _ => ?_)
      refine r_aload_n d_166_25 rfl (by omega) ?_
      refine r_callvj d_166_26 q_166_172 rfl rfl hbad ?_
      refine r_iret d_166_29 rt_166 ?_
      exact ⟨rfl, rfl⟩
    · rw [if_neg hg]
      refine r_if_eq (t := 25) d_166_13 rfl (fun _ => ?_) (fun hz => absurd (by decide) hz)
      refine r_aload_n d_166_25 rfl (by omega) ?_
      refine r_callvj d_166_26 q_166_172 rfl rfl hbad ?_
      refine r_iret d_166_29 rt_166 ?_
      exact ⟨rfl, rfl⟩
  · rw [if_neg hk]
    refine r_if_eq (t := 25) d_166_4 rfl (fun _ => ?_) (fun hz => absurd (by decide) hz)
    refine r_aload_n d_166_25 rfl (by omega) ?_
    refine r_callvj d_166_26 q_166_172 rfl rfl hbad ?_
    refine r_iret d_166_29 rt_166 ?_
    exact ⟨rfl, rfl⟩
theorem m_moved {M : Mo} {s : Sst} (hv : vs s) (hc : cu M s) {k g : Nat} {v : Int} (hk : k < 4) (hg : g < 2) (h0 : 0 ≤ v) (h1 : v < pI s.1 ^ s.2.1 k) : PI 166 [(2, 217), (0, (k : Int)), (0, (g : Int)), (0, v)] M (num (s.2.1 k) (mv (s.2.1 k) (mdA s k g) (toV s.1 (s.2.1 k) v))) := by
  refine Cl.intro (L := [(2, 217), (0, (k : Int)), (0, (g : Int)), (0, v)]) (rcv_v ow_166.2.1 sh_217) (by unfold entl; rw [mx_166]; rfl) (by rw [mx_166]; exact Nat.le_of_ble_eq_true rfl) rfl ?_
  have hm := m_moves hv.1 M hc.1 (k := k) (by omega) (hc.MM hv hk) (g := g) rfl hg (toV s.1 (s.2.1 k) v)
  rw [num_toV hv.1 h0 h1] at hm
  refine r_iload_n d_166_0 rfl ?_
  refine r_callsp d_166_1 q_166_178 rfl rfl (m_isModule M k) ?_
  rw [if_pos (by omega)]
  refine r_if_eq (t := 25) d_166_4 rfl (fun hz => absurd hz (by decide)) (fun _ => ?_)
  refine r_iload_n d_166_7 rfl ?_
  refine r_iconst d_166_8 rfl ?_
  refine r_iconst d_166_9 rfl ?_
  refine r_callsp d_166_10 q_166_118 rfl rfl (m_in M g 0 1) ?_
  rw [if_pos (by omega)]
  refine r_if_eq (t := 25) d_166_13 rfl (fun hz => absurd hz (by decide)) (fun _ => ?_)
  refine r_aload_n d_166_16 rfl (by omega) ?_
  refine r_iload_n d_166_17 rfl ?_
  refine r_iload_n d_166_18 rfl ?_
  refine r_callvp d_166_19 q_166_202 rfl rfl (m_isV M hv hc hk v) ?_
  rw [if_pos ⟨h0, h1⟩]
  refine r_if_ne (t := 30) d_166_22 rfl (fun _ => ?_) (fun hz => absurd (by decide) hz)
  refine r_aload_n d_166_30 rfl (by omega) ?_
  refine r_iload_n d_166_31 rfl ?_
  refine r_iload_n d_166_32 rfl ?_
  refine r_iload_n d_166_33 rfl ?_
  refine r_callvp d_166_34 q_166_133 rfl rfl hm ?_
  refine r_iret d_166_37 rt_166 ?_
  exact ⟨rfl, rfl⟩
theorem m_spun_bad (M : Mo) (hb : cb M) {s : Sst} (hv : vs s) (hc : cu M s) {k v : Int} (h : ¬ okV s k v) : PJ 167 [(2, 217), (0, k), (0, v)] M (-2) (up2 M 218 0 (M 218 0 + 1)) := by
  refine Cl.intro (L := [(2, 217), (0, k), (0, v)]) (rcv_v ow_167.2.1 sh_217) (by unfold entl; rw [mx_167]; rfl) (by rw [mx_167]; exact Nat.le_of_ble_eq_true rfl) rfl ?_
  have hbad := m_bad M (hb 0 (by omega) (by omega))
  refine r_iload_n d_167_0 rfl ?_
  refine r_callsp d_167_1 q_167_178 rfl rfl (m_isModule M k) ?_
  by_cases hk : 0 ≤ k ∧ k ≤ 3
  · rw [if_pos hk]
    have hiv := m_isV M hv hc (x := k.toNat) (by omega) v
    rw [show ((k.toNat : Nat) : Int) = k by omega] at hiv
    refine r_if_eq (t := 16) d_167_4 rfl (fun hz => absurd hz (by decide)) (fun _ => ?_)
    refine r_aload_n d_167_7 rfl (by omega) ?_
    refine r_iload_n d_167_8 rfl ?_
    refine r_iload_n d_167_9 rfl ?_
    refine r_callvp d_167_10 q_167_202 rfl rfl hiv ?_
    rw [if_neg (fun q => h ⟨hk, q⟩)]
    refine r_if_ne (t := 21) d_167_13 rfl (fun hz => absurd hz (by decide)) (fun _ => ?_)
    refine r_aload_n d_167_16 rfl (by omega) ?_
    refine r_callvj d_167_17 q_167_172 rfl rfl hbad ?_
    refine r_iret d_167_20 rt_167 ?_
    exact ⟨rfl, rfl⟩
  · rw [if_neg hk]
    refine r_if_eq (t := 16) d_167_4 rfl (fun _ => ?_) (fun hz => absurd (by decide) hz)
    refine r_aload_n d_167_16 rfl (by omega) ?_
    refine r_callvj d_167_17 q_167_172 rfl rfl hbad ?_
    refine r_iret d_167_20 rt_167 ?_
    exact ⟨rfl, rfl⟩
theorem m_spun {M : Mo} {s : Sst} (hv : vs s) (hc : cu M s) {k : Nat} {v : Int} (hk : k < 4) (h0 : 0 ≤ v) (h1 : v < pI s.1 ^ s.2.1 k) : CI 167 [(2, 217), (0, (k : Int)), (0, v)] M (fun z M' => z = ((spT s k v).length : Nat) ∧ Fr W1 M M') := by
  refine Cl.intro (L := [(2, 217), (0, (k : Int)), (0, v)]) (rcv_v ow_167.2.1 sh_217) (by unfold entl; rw [mx_167]; rfl) (by rw [mx_167]; exact Nat.le_of_ble_eq_true rfl) rfl ?_
  refine r_iload_n d_167_0 rfl ?_
  refine r_callsp d_167_1 q_167_178 rfl rfl (m_isModule M k) ?_
  rw [if_pos (by omega)]
  refine r_if_eq (t := 16) d_167_4 rfl (fun hz => absurd hz (by decide)) (fun _ => ?_)
  refine r_aload_n d_167_7 rfl (by omega) ?_
  refine r_iload_n d_167_8 rfl ?_
  refine r_iload_n d_167_9 rfl ?_
  refine r_callvp d_167_10 q_167_202 rfl rfl (m_isV M hv hc hk v) ?_
  rw [if_pos ⟨h0, h1⟩]
  refine r_if_ne (t := 21) d_167_13 rfl (fun _ => ?_) (fun hz => absurd (by decide) hz)
  refine r_aload_n d_167_21 rfl (by omega) ?_
  refine r_iload_n d_167_22 rfl ?_
  refine r_iload_n d_167_23 rfl ?_
  refine r_callvr d_167_24 q_167_205 rfl rfl (m_spn M hv hc hk h0 h1) (fun M1 hM1 => ?_)
  obtain ⟨hF1, hSP⟩ := hM1
  refine r_aload_n d_167_27 rfl (by omega) ?_
  refine r_getfv (ki := 7) d_167_28 q_167_122 rfl sh_217 hSP.1 ?_
  refine r_iret d_167_31 rt_167 ?_
  exact ⟨_, rfl, rfl, hF1⟩
theorem m_row_bad (M : Mo) (hb : cb M) {s : Sst} (hv : vs s) (hc : cu M s) {k v i : Int} (h : ¬ (okV s k v ∧ 0 ≤ i)) : PJ 168 [(2, 217), (0, k), (0, v), (0, i)] M (-2) (up2 M 218 0 (M 218 0 + 1)) := by
  refine Cl.intro (L := [(2, 217), (0, k), (0, v), (0, i)]) (rcv_v ow_168.2.1 sh_217) (by unfold entl; rw [mx_168]; rfl) (by rw [mx_168]; exact Nat.le_of_ble_eq_true rfl) rfl ?_
  have hbad := m_bad M (hb 0 (by omega) (by omega))
  refine r_iload_n d_168_0 rfl ?_
  refine r_callsp d_168_1 q_168_178 rfl rfl (m_isModule M k) ?_
  by_cases hk : 0 ≤ k ∧ k ≤ 3
  · rw [if_pos hk]
    have hiv := m_isV M hv hc (x := k.toNat) (by omega) v
    rw [show ((k.toNat : Nat) : Int) = k by omega] at hiv
    refine r_if_eq (t := 20) d_168_4 rfl (fun hz => absurd hz (by decide)) (fun _ => ?_)
    refine r_aload_n d_168_7 rfl (by omega) ?_
    refine r_iload_n d_168_8 rfl ?_
    refine r_iload_n d_168_9 rfl ?_
    refine r_callvp d_168_10 q_168_202 rfl rfl hiv ?_
    by_cases hvv : 0 ≤ v ∧ v < pI s.1 ^ s.2.1 k.toNat
    · rw [if_pos hvv]
      have hi : ¬ 0 ≤ i := fun q => h ⟨⟨hk, hvv⟩, q⟩
      refine r_if_eq (t := 20) d_168_13 rfl (fun hz => absurd hz (by decide)) (fun _ => ?_)
      refine r_iload_n d_168_16 rfl ?_
      refine r_if_ge (t := 25) d_168_17 rfl (fun hz => absurd hz (by omega)) (fun _ => ?_)
      refine r_aload_n d_168_20 rfl (by omega) ?_
      refine r_callvj d_168_21 q_168_172 rfl rfl hbad ?_
      refine r_iret d_168_24 rt_168 ?_
      exact ⟨rfl, rfl⟩
    · rw [if_neg hvv]
      refine r_if_eq (t := 20) d_168_13 rfl (fun _ => ?_) (fun hz => absurd (by decide) hz)
      refine r_aload_n d_168_20 rfl (by omega) ?_
      refine r_callvj d_168_21 q_168_172 rfl rfl hbad ?_
      refine r_iret d_168_24 rt_168 ?_
      exact ⟨rfl, rfl⟩
  · rw [if_neg hk]
    refine r_if_eq (t := 20) d_168_4 rfl (fun _ => ?_) (fun hz => absurd (by decide) hz)
    refine r_aload_n d_168_20 rfl (by omega) ?_
    refine r_callvj d_168_21 q_168_172 rfl rfl hbad ?_
    refine r_iret d_168_24 rt_168 ?_
    exact ⟨rfl, rfl⟩
noncomputable def rowA (n : Nat) {e : Nat} (T : List (Vc e)) (i : Int) : Int := if i < T.length then num n (crow (spn T) (pl (Lp (spn T)) i.toNat)) else -1
theorem m_row {M : Mo} {s : Sst} (hv : vs s) (hc : cu M s) {k : Nat} {v i : Int} (hk : k < 4) (h0 : 0 ≤ v) (h1 : v < pI s.1 ^ s.2.1 k) (hi : 0 ≤ i) : CI 168 [(2, 217), (0, (k : Int)), (0, v), (0, i)] M (fun z M' => z = rowA (s.2.1 k) (spT s k v) i ∧ Fr W1 M M') := by
  refine Cl.intro (L := [(2, 217), (0, (k : Int)), (0, v), (0, i)]) (rcv_v ow_168.2.1 sh_217) (by unfold entl; rw [mx_168]; rfl) (by rw [mx_168]; exact Nat.le_of_ble_eq_true rfl) rfl ?_
  have hG := spT_good hv (x := k) (v := v)
  have h6 := vs_6 hv hk
  have hl := hG.len
  refine r_iload_n d_168_0 rfl ?_
  refine r_callsp d_168_1 q_168_178 rfl rfl (m_isModule M k) ?_
  rw [if_pos (by omega)]
  refine r_if_eq (t := 20) d_168_4 rfl (fun hz => absurd hz (by decide)) (fun _ => ?_)
  refine r_aload_n d_168_7 rfl (by omega) ?_
  refine r_iload_n d_168_8 rfl ?_
  refine r_iload_n d_168_9 rfl ?_
  refine r_callvp d_168_10 q_168_202 rfl rfl (m_isV M hv hc hk v) ?_
  rw [if_pos ⟨h0, h1⟩]
  refine r_if_eq (t := 20) d_168_13 rfl (fun hz => absurd hz (by decide)) (fun _ => ?_)
  refine r_iload_n d_168_16 rfl ?_
  refine r_if_ge (t := 25) d_168_17 rfl (fun _ => ?_) (fun hz => absurd hi hz)
  refine r_aload_n d_168_25 rfl (by omega) ?_
  refine r_iload_n d_168_26 rfl ?_
  refine r_iload_n d_168_27 rfl ?_
  refine r_callvr d_168_28 q_168_205 rfl rfl (m_spn M hv hc hk h0 h1) (fun M1 hM1 => ?_)
  obtain ⟨hF1, hSP⟩ := hM1
  have hc1 := cu.w1 hv hc hF1
  refine r_aload_n d_168_31 rfl (by omega) ?_
  refine r_aload_n d_168_32 rfl (by omega) ?_
  refine r_getc (ki := 2) d_168_33 q_168_17 rfl sh_217 fx_217_2 (by omega) ?_
  refine r_iload_n d_168_36 rfl ?_
  refine r_ialoadv d_168_37 sh_219 (by omega) (by omega) (hc1.2 k hk).1 ?_
  refine r_callvr d_168_38 q_168_152 rfl rfl (m_findsRowsF hv.1 M1 hc1.1 (hv.2 k hk).2.1 hG.sub hSP.2.2) (fun M2 hM2 => ?_)
  obtain ⟨hF2, hR⟩ := hM2
  have hd2 : M2 217 7 = (spT s k v).length := (hF2 _ _ (by unfold WR; omega)).trans hSP.1
  have hF : Fr W1 M M2 := hF1.trans hF2 (fun x y q => q) (fun x y q => by unfold WR at q; unfold W1; omega)
  refine r_iload_n d_168_41 rfl ?_
  refine r_aload_n d_168_42 rfl (by omega) ?_
  refine r_getfv (ki := 7) d_168_43 q_168_122 rfl sh_217 hd2 ?_
  by_cases hlt : i < (spT s k v).length
  · have hri := (hR.at (d := i.toNat) (by rw [hG.2]; omega)).1
    rw [show ((i.toNat : Nat) : Int) = i by omega] at hri
    refine r_icmp_ge (t := 58) d_168_46 rfl (fun hz => absurd hz (by omega)) (fun _ => ?_)
    refine r_aload_n d_168_49 rfl (by omega) ?_
    refine r_getc (ki := 11) d_168_50 q_168_41 rfl sh_217 fx_217_11 (by omega) ?_
    refine r_iload_n d_168_53 rfl ?_
    refine r_ialoadv d_168_54 sh_226 (by omega) (by omega) hri ?_
    refine r_goto (t := 59) d_168_55 rfl ?_
    refine r_iret d_168_59 rt_168 ?_
    refine ⟨_, rfl, ?_, hF⟩
    unfold rowA
    rw [if_pos hlt]
  · refine r_icmp_ge (t := 58) d_168_46 rfl (fun _ => ?_) (fun hz => absurd (by omega) hz)
    refine r_iconst d_168_58 rfl ?_
    refine r_iret d_168_59 rt_168 ?_
    refine ⟨_, rfl, ?_, hF⟩
    unfold rowA
    rw [if_neg hlt]
