/-! The model: the text. -/
def Tx (M : Mo) (L : Nat) (t : Nat → Int) : Prop := M 217 31 = L ∧ L ≤ 40 ∧ ∀ i : Nat, i < L → M 242 i = t i
theorem m_type_bad (M : Mo) (hb : cb M) {c : Int} (h : ¬ (0 ≤ c ∧ c ≤ 127)) : PJ 196 [(2, 217), (0, c)] M (-2) (up2 M 218 0 (M 218 0 + 1)) := by
  refine Cl.intro (L := [(2, 217), (0, c)]) (rcv_v ow_196.2.1 sh_217) (by unfold entl; rw [mx_196]; rfl) (by rw [mx_196]; exact Nat.le_of_ble_eq_true rfl) rfl ?_
  have hbad := m_bad M (hb 0 (by omega) (by omega))
  refine r_iload_n d_196_0 rfl ?_
  refine r_iconst d_196_1 rfl ?_
  refine r_bipush d_196_2 rfl ?_
  refine r_callsp d_196_4 q_196_118 rfl rfl (m_in M c 0 127) ?_
  rw [if_neg h]
  refine r_if_ne (t := 15) d_196_7 rfl (fun hz => absurd hz (by decide)) (fun _ => ?_)
  refine r_aload_n d_196_10 rfl (by omega) ?_
  refine r_callvj d_196_11 q_196_172 rfl rfl hbad ?_
  refine r_iret d_196_14 rt_196 ?_
  exact ⟨rfl, rfl⟩
theorem m_type_full (M : Mo) (hb : cb M) {c : Int} (h : 0 ≤ c ∧ c ≤ 127) (hL : M 217 31 = 40) : PJ 196 [(2, 217), (0, c)] M (-4) (up2 M 218 2 (M 218 2 + 1)) := by
  refine Cl.intro (L := [(2, 217), (0, c)]) (rcv_v ow_196.2.1 sh_217) (by unfold entl; rw [mx_196]; rfl) (by rw [mx_196]; exact Nat.le_of_ble_eq_true rfl) rfl ?_
  have hfull := m_full M (hb 2 (by omega) (by omega))
  refine r_iload_n d_196_0 rfl ?_
  refine r_iconst d_196_1 rfl ?_
  refine r_bipush d_196_2 rfl ?_
  refine r_callsp d_196_4 q_196_118 rfl rfl (m_in M c 0 127) ?_
  rw [if_pos h]
  refine r_if_ne (t := 15) d_196_7 rfl (fun _ => ?_) (fun hz => absurd (by decide) hz)
  refine r_aload_n d_196_15 rfl (by omega) ?_
  refine r_getfv (ki := 31) d_196_16 q_196_276 rfl sh_217 hL ?_
  refine r_bipush d_196_19 rfl ?_
  refine r_icmp_ne (t := 29) d_196_21 rfl (fun hz => absurd hz (by decide)) (fun _ => ?_)
  refine r_aload_n d_196_24 rfl (by omega) ?_
  refine r_callvj d_196_25 q_196_279 rfl rfl hfull ?_
  refine r_iret d_196_28 rt_196 ?_
  exact ⟨rfl, rfl⟩
theorem m_type (M : Mo) {c L : Int} (h : 0 ≤ c ∧ c ≤ 127) (hL : M 217 31 = L) (hL2 : 0 ≤ L ∧ L < 40) : PJ 196 [(2, 217), (0, c)] M (L + 1) (up2 (up2 M 242 L c) 217 31 (L + 1)) := by
  refine Cl.intro (L := [(2, 217), (0, c)]) (rcv_v ow_196.2.1 sh_217) (by unfold entl; rw [mx_196]; rfl) (by rw [mx_196]; exact Nat.le_of_ble_eq_true rfl) rfl ?_
  have h1 : up2 M 242 L c 217 31 = L := by rw [← hL]; simp [up2]
  have h2 : up2 (up2 M 242 L c) 217 31 (L + 1) 217 31 = L + 1 := by simp [up2]
  refine r_iload_n d_196_0 rfl ?_
  refine r_iconst d_196_1 rfl ?_
  refine r_bipush d_196_2 rfl ?_
  refine r_callsp d_196_4 q_196_118 rfl rfl (m_in M c 0 127) ?_
  rw [if_pos h]
  refine r_if_ne (t := 15) d_196_7 rfl (fun _ => ?_) (fun hz => absurd (by decide) hz)
  refine r_aload_n d_196_15 rfl (by omega) ?_
  refine r_getfv (ki := 31) d_196_16 q_196_276 rfl sh_217 hL ?_
  refine r_bipush d_196_19 rfl ?_
  refine r_icmp_ne (t := 29) d_196_21 rfl (fun _ => ?_) (fun hz => absurd (by omega) hz)
  refine r_aload_n d_196_29 rfl (by omega) ?_
  refine r_getc (ki := 30) d_196_30 q_196_89 rfl sh_217 fx_217_30 (by omega) ?_
  refine r_aload_n d_196_33 rfl (by omega) ?_
  refine r_getfv (ki := 31) d_196_34 q_196_276 rfl sh_217 hL ?_
  refine r_iload_n d_196_37 rfl ?_
  refine r_iastore d_196_38 sh_242 (by omega) (by omega) ?_
  refine r_aload_n d_196_39 rfl (by omega) ?_
  refine r_dup d_196_40 rfl ?_
  refine r_getfv (ki := 31) d_196_41 q_196_276 rfl sh_217 h1 ?_
  refine r_iconst d_196_44 rfl ?_
  refine r_iadd d_196_45 (by omega) ?_
  refine r_putf (ki := 31) d_196_46 q_196_276 rfl sh_217 fx_217_31 ?_
  refine r_aload_n d_196_49 rfl (by omega) ?_
  refine r_getfv (ki := 31) d_196_50 q_196_276 rfl sh_217 h2 ?_
  refine r_iret d_196_53 rt_196 ?_
  exact ⟨rfl, rfl⟩
theorem m_clear (M : Mo) {L : Int} (hL : M 217 31 = L) : PJ 197 [(2, 217)] M L (up2 M 217 31 0) := by
  refine Cl.intro (L := [(2, 217), (9, 0)]) (rcv_v ow_197.2.1 sh_217) (by unfold entl; rw [mx_197]; rfl) (by rw [mx_197]; exact Nat.le_of_ble_eq_true rfl) rfl ?_
  refine r_aload_n d_197_0 rfl (by omega) ?_
  refine r_getfv (ki := 31) d_197_1 q_197_276 rfl sh_217 hL ?_
  refine r_istore_n d_197_4 rfl (stl_2_1 rfl rfl) ?_
  refine r_aload_n d_197_5 rfl (by omega) ?_
  refine r_iconst d_197_6 rfl ?_
  refine r_putf (ki := 31) d_197_7 q_197_276 rfl sh_217 fx_217_31 ?_
  refine r_iload_n d_197_10 rfl ?_
  refine r_iret d_197_11 rt_197 ?_
  exact ⟨rfl, rfl⟩
abbrev isF (c : Int) : Prop := 48 ≤ c ∧ c ≤ 50
abbrev isLt (c : Int) : Prop := c = 97 ∨ c = 98
theorem m_isFigureAt {M : Mo} {L : Nat} {t : Nat → Int} (hT : Tx M L t) {a : Nat} (ha : a ≤ 41) : PI 198 [(2, 217), (0, (a : Int))] M (if a < L ∧ isF (t a) then 1 else 0) := by
  refine Cl.intro (L := [(2, 217), (0, (a : Int))]) (rcv_v ow_198.2.1 sh_217) (by unfold entl; rw [mx_198]; rfl) (by rw [mx_198]; exact Nat.le_of_ble_eq_true rfl) rfl ?_
  obtain ⟨h1, h2, h3⟩ := hT
  refine r_iload_n d_198_0 rfl ?_
  refine r_aload_n d_198_1 rfl (by omega) ?_
  refine r_getfv (ki := 31) d_198_2 q_198_276 rfl sh_217 h1 ?_
  by_cases hl : a < L
  · refine r_icmp_ge (t := 28) d_198_5 rfl (fun hz => absurd hz (by omega)) (fun _ => ?_)
    refine r_aload_n d_198_8 rfl (by omega) ?_
    refine r_getc (ki := 30) d_198_9 q_198_89 rfl sh_217 fx_217_30 (by omega) ?_
    refine r_iload_n d_198_12 rfl ?_
    refine r_ialoadv d_198_13 sh_242 (by omega) (by omega) (h3 a hl) ?_
    refine r_bipush d_198_14 rfl ?_
    refine r_bipush d_198_16 rfl ?_
    refine r_callsp d_198_18 q_198_118 rfl rfl (m_in M (t a) 48 50) ?_
    by_cases hf : isF (t a)
    · rw [if_pos hf, if_pos ⟨hl, hf⟩]
      refine r_if_eq (t := 28) d_198_21 rfl (fun hz => absurd hz (by decide)) (fun _ => ?_)
      refine r_iconst d_198_24 rfl ?_
      refine r_goto (t := 29) d_198_25 rfl ?_
      refine r_zret d_198_29 rt_198 (by omega) ?_
      exact ⟨rfl, rfl⟩
    · rw [if_neg hf, if_neg (fun q => hf q.2)]
      refine r_if_eq (t := 28) d_198_21 rfl (fun _ => ?_) (fun hz => absurd (by decide) hz)
      refine r_iconst d_198_28 rfl ?_
      refine r_zret d_198_29 rt_198 (by omega) ?_
      exact ⟨rfl, rfl⟩
  · rw [if_neg (fun q => hl q.1)]
    refine r_icmp_ge (t := 28) d_198_5 rfl (fun _ => ?_) (fun hz => absurd (by omega) hz)
    refine r_iconst d_198_28 rfl ?_
    refine r_zret d_198_29 rt_198 (by omega) ?_
    exact ⟨rfl, rfl⟩
theorem m_isLetterAt {M : Mo} {L : Nat} {t : Nat → Int} (hT : Tx M L t) {a : Nat} (ha : a ≤ 41) : PI 199 [(2, 217), (0, (a : Int))] M (if a < L ∧ isLt (t a) then 1 else 0) := by
  refine Cl.intro (L := [(2, 217), (0, (a : Int))]) (rcv_v ow_199.2.1 sh_217) (by unfold entl; rw [mx_199]; rfl) (by rw [mx_199]; exact Nat.le_of_ble_eq_true rfl) rfl ?_
  obtain ⟨h1, h2, h3⟩ := hT
  refine r_iload_n d_199_0 rfl ?_
  refine r_aload_n d_199_1 rfl (by omega) ?_
  refine r_getfv (ki := 31) d_199_2 q_199_276 rfl sh_217 h1 ?_
  by_cases hl : a < L
  · refine r_icmp_ge (t := 34) d_199_5 rfl (fun hz => absurd hz (by omega)) (fun _ => ?_)
    by_cases ha : t a = 97
    · rw [if_pos ⟨hl, Or.inl ha⟩]
      refine r_aload_n d_199_8 rfl (by omega) ?_
      refine r_getc (ki := 30) d_199_9 q_199_89 rfl sh_217 fx_217_30 (by omega) ?_
      refine r_iload_n d_199_12 rfl ?_
      refine r_ialoadv d_199_13 sh_242 (by omega) (by omega) (h3 a hl) ?_
      refine r_bipush d_199_14 rfl ?_
      refine r_icmp_eq (t := 30) d_199_16 rfl (fun _ => ?_) (fun hz => absurd ha hz)
      refine r_iconst d_199_30 rfl ?_
      refine r_goto (t := 35) d_199_31 rfl ?_
      refine r_zret d_199_35 rt_199 (by omega) ?_
      exact ⟨rfl, rfl⟩
    · by_cases hb : t a = 98
      · rw [if_pos ⟨hl, Or.inr hb⟩]
        refine r_aload_n d_199_8 rfl (by omega) ?_
        refine r_getc (ki := 30) d_199_9 q_199_89 rfl sh_217 fx_217_30 (by omega) ?_
        refine r_iload_n d_199_12 rfl ?_
        refine r_ialoadv d_199_13 sh_242 (by omega) (by omega) (h3 a hl) ?_
        refine r_bipush d_199_14 rfl ?_
        refine r_icmp_eq (t := 30) d_199_16 rfl (fun hz => absurd hz ha) (fun _ => ?_)
        refine r_aload_n d_199_19 rfl (by omega) ?_
        refine r_getc (ki := 30) d_199_20 q_199_89 rfl sh_217 fx_217_30 (by omega) ?_
        refine r_iload_n d_199_23 rfl ?_
        refine r_ialoadv d_199_24 sh_242 (by omega) (by omega) (h3 a hl) ?_
        refine r_bipush d_199_25 rfl ?_
        refine r_icmp_ne (t := 34) d_199_27 rfl (fun hz => absurd hz (by omega)) (fun _ => ?_)
        refine r_iconst d_199_30 rfl ?_
        refine r_goto (t := 35) d_199_31 rfl ?_
        refine r_zret d_199_35 rt_199 (by omega) ?_
        exact ⟨rfl, rfl⟩
      · rw [if_neg (fun q => q.2.elim ha hb)]
        refine r_aload_n d_199_8 rfl (by omega) ?_
        refine r_getc (ki := 30) d_199_9 q_199_89 rfl sh_217 fx_217_30 (by omega) ?_
        refine r_iload_n d_199_12 rfl ?_
        refine r_ialoadv d_199_13 sh_242 (by omega) (by omega) (h3 a hl) ?_
        refine r_bipush d_199_14 rfl ?_
        refine r_icmp_eq (t := 30) d_199_16 rfl (fun hz => absurd hz ha) (fun _ => ?_)
        refine r_aload_n d_199_19 rfl (by omega) ?_
        refine r_getc (ki := 30) d_199_20 q_199_89 rfl sh_217 fx_217_30 (by omega) ?_
        refine r_iload_n d_199_23 rfl ?_
        refine r_ialoadv d_199_24 sh_242 (by omega) (by omega) (h3 a hl) ?_
        refine r_bipush d_199_25 rfl ?_
        refine r_icmp_ne (t := 34) d_199_27 rfl (fun _ => ?_) (fun hz => absurd hb hz)
        refine r_iconst d_199_34 rfl ?_
        refine r_zret d_199_35 rt_199 (by omega) ?_
        exact ⟨rfl, rfl⟩
  · rw [if_neg (fun q => hl q.1)]
    refine r_icmp_ge (t := 34) d_199_5 rfl (fun _ => ?_) (fun hz => absurd (by omega) hz)
    refine r_iconst d_199_34 rfl ?_
    refine r_zret d_199_35 rt_199 (by omega) ?_
    exact ⟨rfl, rfl⟩
/-! the automaton that reads a text -/
def stp (l c : Int) : Option Int := if isLt c ∧ l < 6 then some ((if l < 0 then 0 else l) + 1) else if isF c ∧ l = -1 then some 0 else if c = 43 ∧ l ≠ -1 then some (-1) else none
def scan (t : Nat → Int) : Nat → Nat → Int → Int
  | 0, i, l => if l = -1 then i else -1
  | m + 1, i, l => match stp l (t i) with
    | none => i
    | some l' => scan t m (i + 1) l'
def plc (t : Nat → Int) : Nat → Int := sm (fun i => if t i = 43 then 1 else 0)
theorem scan_st {t : Nat → Int} {m i : Nat} {l l' : Int} (h : stp l (t i) = some l') : scan t (m + 1) i l = scan t m (i + 1) l' := by
  show (match stp l (t i) with | none => (i : Int) | some l' => scan t m (i + 1) l') = _
  rw [h]
theorem scan_no {t : Nat → Int} {m i : Nat} {l : Int} (h : stp l (t i) = none) : scan t (m + 1) i l = i := by
  show (match stp l (t i) with | none => (i : Int) | some l' => scan t m (i + 1) l') = _
  rw [h]
theorem plc_s {t : Nat → Int} {i : Nat} : plc t (i + 1) = plc t i + if t i = 43 then 1 else 0 := rfl
theorem plc_n {t : Nat → Int} {i : Nat} (h : t i ≠ 43) : plc t (i + 1) = plc t i := by
  rw [plc_s, if_neg h]
  omega
def WW (x y : Int) : Prop := (x = 217 ∧ y = 33) ∨ x = 243
theorem m_tells {M : Mo} {L : Nat} {t : Nat → Int} (hT : Tx M L t) : CI 200 [(2, 217)] M (fun z M' => (scan t L 0 (-1) ≠ -1 ∧ z = -10 - scan t L 0 (-1) ∧ M' = M) ∨ (scan t L 0 (-1) = -1 ∧ z = 1 + plc t L ∧ Fr WW M M' ∧ M' 217 33 = L ∧ ∀ i : Nat, i < L → M' 243 i = t i)) := by
  refine Cl.intro (L := [(2, 217), (9, 0), (9, 0), (9, 0), (9, 0), (9, 0)]) (rcv_v ow_200.2.1 sh_217) (by unfold entl; rw [mx_200]; rfl) (by rw [mx_200]; exact Nat.le_of_ble_eq_true rfl) rfl ?_
  have h1 := hT.1
  have h2 := hT.2.1
  have h3 := hT.2.2
  generalize hR : (fun (v : Option AV) (M' : Mo) => ∃ x, v = some (0, x) ∧ (fun z M' => (scan t L 0 (-1) ≠ -1 ∧ z = -10 - scan t L 0 (-1) ∧ M' = M) ∨ (scan t L 0 (-1) = -1 ∧ z = 1 + plc t L ∧ Fr WW M M' ∧ M' 217 33 = L ∧ ∀ i : Nat, i < L → M' 243 i = t i)) x M') = Q
  have hbadR : ∀ a : Nat, scan t L 0 (-1) = a → Q (some (0, -10 - (a : Int))) M := fun a ha => by
    rw [← hR]
    exact ⟨_, rfl, Or.inl ⟨by omega, by rw [ha], rfl⟩⟩
  -- the end
  have hend : ∀ (y1 y4 y5 : AV), scan t L 0 (-1) = -1 → Rn 200 109 [(2, 217), y1, (0, 1 + plc t L), (0, 0), y4, y5] [] M Q := by
    intro y1 y4 y5 hs
    refine r_aload_n d_200_109 rfl (by omega) ?_
    refine r_aload_n d_200_110 rfl (by omega) ?_
    refine r_getfv (ki := 31) d_200_111 q_200_276 rfl sh_217 h1 ?_
    refine r_putf (ki := 33) d_200_114 q_200_95 rfl sh_217 fx_217_33 ?_
    have hl1 : ∀ f, sr (up2 M 217 33 L) 243 f 217 31 = L := fun f => by rw [sr_ne _ _ (by decide), ← h1]; simp [up2]
    have ht1 : ∀ (f : Int → Int) (i : Nat), i < L → sr (up2 M 217 33 L) 243 f 242 i = t i := fun f i hi => by rw [sr_ne _ _ (by decide), ← h3 i hi]; simp [up2]
    have hself : sr (up2 M 217 33 L) 243 (M 243) = up2 M 217 33 L := by
      funext x y
      unfold sr
      by_cases hx : x = 243
      · subst hx
        simp [up2]
      · simp [hx]
    refine r_iconst d_200_117 rfl ?_
    refine r_istore d_200_118 rfl (stl_6_4 rfl rfl) ?_
    refine dn_ind (R := fun c => ∀ f : Int → Int, (∀ i : Nat, (i : Int) < c → f i = t i) → Rn 200 120 [(2, 217), y1, (0, 1 + plc t L), (0, 0), (0, c), y5] [] (sr (up2 M 217 33 L) 243 f) _) (lo := 0) (n := (L : Int)) ?_ ?_ 0 (by omega) (by omega) (M 243) (fun i hi => by omega) |> (fun k => by rw [hself] at k; exact k)
    · intro f hf
      refine r_iload d_200_120 rfl ?_
      refine r_aload_n d_200_122 rfl (by omega) ?_
      refine r_getfv (ki := 31) d_200_123 q_200_276 rfl sh_217 (hl1 f) ?_
      refine r_icmp_ge (t := 149) d_200_126 rfl (fun _ => ?_) (fun hz => absurd (by omega) hz)
      refine r_iload_n d_200_149 rfl ?_
      refine r_iret d_200_150 rt_200 ?_
      rw [← hR]
      refine ⟨_, rfl, Or.inr ⟨hs, rfl, fun x y hn => ?_, ?_, fun i hi => ?_⟩⟩
      · unfold WW at hn
        rw [sr_ne _ _ (by omega)]
        have : ¬ (x = 217 ∧ y = 33) := by omega
        simp [up2, this]
      · rw [sr_ne _ _ (by decide)]
        simp [up2]
      · rw [sr_eq]
        exact hf i (by omega)
    · intro c c1 c2 ih f hf
      have htc := ht1 f c.toNat (by omega)
      rw [show ((c.toNat : Nat) : Int) = c by omega] at htc
      refine r_iload d_200_120 rfl ?_
      refine r_aload_n d_200_122 rfl (by omega) ?_
      refine r_getfv (ki := 31) d_200_123 q_200_276 rfl sh_217 (hl1 f) ?_
      refine r_icmp_ge (t := 149) d_200_126 rfl (fun hz => absurd hz (by omega)) (fun _ => ?_)
      refine r_aload_n d_200_129 rfl (by omega) ?_
      refine r_getc (ki := 32) d_200_130 q_200_92 rfl sh_217 fx_217_32 (by omega) ?_
      refine r_iload d_200_133 rfl ?_
      refine r_aload_n d_200_135 rfl (by omega) ?_
      refine r_getc (ki := 30) d_200_136 q_200_89 rfl sh_217 fx_217_30 (by omega) ?_
      refine r_iload d_200_139 rfl ?_
      refine r_ialoadv d_200_141 sh_242 (by omega) (by omega) htc ?_
      refine r_iastore d_200_142 sh_243 (by omega) (by omega) ?_
      rw [up_sr]
      refine r_iinc d_200_143 rfl (by omega) (stl_6_4 rfl rfl) ?_
      refine r_goto (t := 120) d_200_146 rfl ?_
      refine ih _ (fun i hi => ?_)
      by_cases hic : (i : Int) = c
      · rw [hic, u1_eq, show i = c.toNat by omega]
      · rw [u1_ne _ _ hic]
        exact hf i (by omega)
  -- after the letters of a term
  have hterm : ∀ (a st : Nat) (l : Int) (y5 : AV), (∀ b : Nat, a < b → b ≤ L → scan t (L - b) b (-1) = scan t L 0 (-1) → ∀ y4 y5 : AV, Rn 200 6 [(2, 217), (0, (b : Int)), (0, plc t b), (0, 1), y4, y5] [] M Q) → a ≤ L → st ≤ a → scan t (L - a) a l = scan t L 0 (-1) → (l = -1 ↔ st = a) → -1 ≤ l → (a < L → ¬ (isLt (t a) ∧ l < 6)) → (a < L → ¬ (isF (t a) ∧ l = -1)) → 0 ≤ plc t a ∧ plc t a ≤ 40 → Rn 200 56 [(2, 217), (0, (a : Int)), (0, plc t a), (0, 1), (0, (st : Int)), y5] [] M Q := by
    intro a st l y5 hnext haL hst hsc hl hl1 hnl hnf hpl
    by_cases hsa : st = a
    · have hl' := hl.mpr hsa
      refine r_iload_n d_200_56 rfl ?_
      refine r_iload d_200_57 rfl ?_
      refine r_icmp_eq (t := 81) d_200_59 rfl (fun _ => ?_) (fun hz => absurd (by omega) hz)
      refine r_bipush d_200_81 rfl ?_
      refine r_iload_n d_200_83 rfl ?_
      refine r_isub d_200_84 (by omega) ?_
      refine r_iret d_200_85 rt_200 ?_
      refine hbadR a ?_
      rw [← hsc]
      by_cases haL2 : a < L
      · rw [show L - a = (L - a - 1) + 1 by omega]
        refine scan_no ?_
        unfold stp
        rw [if_neg (hnl haL2), if_neg (hnf haL2), if_neg (fun q => q.2 hl')]
      · rw [show L - a = 0 by omega]
        show (if l = -1 then (a : Int) else -1) = a
        rw [if_pos hl']
    · have hl' : l ≠ -1 := fun q => hsa (hl.mp q)
      refine r_iload_n d_200_56 rfl ?_
      refine r_iload d_200_57 rfl ?_
      refine r_icmp_eq (t := 81) d_200_59 rfl (fun hz => absurd hz (by omega)) (fun _ => ?_)
      refine r_iload_n d_200_62 rfl ?_
      refine r_aload_n d_200_63 rfl (by omega) ?_
      refine r_getfv (ki := 31) d_200_64 q_200_276 rfl sh_217 h1 ?_
      by_cases haL2 : a < L
      · by_cases h43 : t a = 43
        · refine r_icmp_ge (t := 86) d_200_67 rfl (fun hz => absurd hz (by omega)) (fun _ => ?_)
          refine r_aload_n d_200_70 rfl (by omega) ?_
          refine r_getc (ki := 30) d_200_71 q_200_89 rfl sh_217 fx_217_30 (by omega) ?_
          refine r_iload_n d_200_74 rfl ?_
          refine r_ialoadv d_200_75 sh_242 (by omega) (by omega) (h3 a haL2) ?_
          refine r_bipush d_200_76 rfl ?_
          refine r_icmp_eq (t := 86) d_200_78 rfl (fun _ => ?_) (fun hz => absurd h43 hz)
          refine r_iinc d_200_86 rfl (by omega) (stl_6_2 rfl rfl) ?_
          refine r_iload_n d_200_89 rfl ?_
          refine r_aload_n d_200_90 rfl (by omega) ?_
          refine r_getfv (ki := 31) d_200_91 q_200_276 rfl sh_217 h1 ?_
          refine r_icmp_ge (t := 101) d_200_94 rfl (fun hz => absurd hz (by omega)) (fun _ => ?_)
          refine r_iconst d_200_97 rfl ?_
          refine r_goto (t := 102) d_200_98 rfl ?_
          refine r_istore_n d_200_102 rfl (stl_6_3 rfl rfl) ?_
          refine r_iinc d_200_103 rfl (by omega) (stl_6_1 rfl rfl) ?_
          refine r_goto (t := 6) d_200_106 rfl ?_
          have := hnext (a + 1) (by omega) (by omega) (by
            rw [← hsc, show L - a = (L - (a + 1)) + 1 by omega]
            refine (scan_st ?_).symm
            unfold stp
            rw [if_neg (hnl haL2), if_neg (hnf haL2), if_pos ⟨h43, hl'⟩]) (0, (st : Int)) y5
          rw [plc_s, if_pos h43] at this
          exact this
        · refine r_icmp_ge (t := 86) d_200_67 rfl (fun hz => absurd hz (by omega)) (fun _ => ?_)
          refine r_aload_n d_200_70 rfl (by omega) ?_
          refine r_getc (ki := 30) d_200_71 q_200_89 rfl sh_217 fx_217_30 (by omega) ?_
          refine r_iload_n d_200_74 rfl ?_
          refine r_ialoadv d_200_75 sh_242 (by omega) (by omega) (h3 a haL2) ?_
          refine r_bipush d_200_76 rfl ?_
          refine r_icmp_eq (t := 86) d_200_78 rfl (fun hz => absurd hz h43) (fun _ => ?_)
          refine r_bipush d_200_81 rfl ?_
          refine r_iload_n d_200_83 rfl ?_
          refine r_isub d_200_84 (by omega) ?_
          refine r_iret d_200_85 rt_200 ?_
          refine hbadR a ?_
          rw [← hsc, show L - a = (L - a - 1) + 1 by omega]
          refine scan_no ?_
          unfold stp
          rw [if_neg (hnl haL2), if_neg (hnf haL2), if_neg (fun q => h43 q.1)]
      · have haL3 : a = L := by omega
        refine r_icmp_ge (t := 86) d_200_67 rfl (fun _ => ?_) (fun hz => absurd (by omega) hz)
        refine r_iinc d_200_86 rfl (by omega) (stl_6_2 rfl rfl) ?_
        refine r_iload_n d_200_89 rfl ?_
        refine r_aload_n d_200_90 rfl (by omega) ?_
        refine r_getfv (ki := 31) d_200_91 q_200_276 rfl sh_217 h1 ?_
        refine r_icmp_ge (t := 101) d_200_94 rfl (fun _ => ?_) (fun hz => absurd (by omega) hz)
        refine r_iconst d_200_101 rfl ?_
        refine r_istore_n d_200_102 rfl (stl_6_3 rfl rfl) ?_
        refine r_iinc d_200_103 rfl (by omega) (stl_6_1 rfl rfl) ?_
        refine r_goto (t := 6) d_200_106 rfl ?_
        refine r_iload_n d_200_6 rfl ?_
        refine r_if_eq (t := 109) d_200_7 rfl (fun _ => ?_) (fun hz => absurd (by decide) hz)
        have hs : scan t L 0 (-1) = -1 := by
          rw [← hsc, show L - a = 0 by omega]
          show (if l = -1 then (a : Int) else -1) = -1
          rw [if_neg hl']
        have := hend (0, (a : Int) + 1) (0, (st : Int)) y5 hs
        rw [← haL3, Int.add_comm 1] at this
        exact this
  have hplb : ∀ a : Nat, a ≤ L → 0 ≤ plc t a ∧ plc t a ≤ 40 := fun a ha => by
    have := sm_01 (f := fun i => if t i = 43 then 1 else 0) (fun c => by
      show (if t c = 43 then (1 : Int) else 0) = 0 ∨ (if t c = 43 then (1 : Int) else 0) = 1
      by_cases h : t c = 43
      · rw [if_pos h]
        exact Or.inr rfl
      · rw [if_neg h]
        exact Or.inl rfl) a
    have h4 : plc t a = sm (fun i => if t i = 43 then 1 else 0) a := rfl
    rw [h4]
    omega
  have hmain : ∀ (m b : Nat) (y4 y5 : AV), L - b = m → b ≤ L → scan t (L - b) b (-1) = scan t L 0 (-1) → Rn 200 6 [(2, 217), (0, (b : Int)), (0, plc t b), (0, 1), y4, y5] [] M Q := by
    intro m
    induction m using Nat.strongRecOn with
    | ind m ihm =>
      intro b y4 y5 hm hb hsc
      have hnext : ∀ a : Nat, b ≤ a → ∀ b' : Nat, a < b' → b' ≤ L → scan t (L - b') b' (-1) = scan t L 0 (-1) → ∀ y4 y5 : AV, Rn 200 6 [(2, 217), (0, (b' : Int)), (0, plc t b'), (0, 1), y4, y5] [] M Q := fun a ha b' q1 q2 q3 y4 y5 => ihm (L - b') (by omega) b' y4 y5 rfl q2 q3
      have hlet : ∀ (k c a : Nat) (l : Int), 6 - c = k → c ≤ 6 → a ≤ L → b ≤ a → scan t (L - a) a l = scan t L 0 (-1) → (l = -1 ↔ b = a) → (l = -1 ∧ c = 0 ∨ l = c) → (a < L → ¬ (isF (t a) ∧ l = -1)) → Rn 200 32 [(2, 217), (0, (a : Int)), (0, plc t a), (0, 1), (0, (b : Int)), (0, (c : Int))] [] M Q := by
        intro k
        induction k with
        | zero =>
          intro c a l hk hc6 haL hba hsa hl hlc hnf
          have hc : c = 6 := by omega
          subst hc
          refine r_aload_n d_200_32 rfl (by omega) ?_
          refine r_iload_n d_200_33 rfl ?_
          refine r_callvp d_200_34 q_200_285 rfl rfl (m_isLetterAt hT (by omega)) ?_
          by_cases hlt : a < L ∧ isLt (t a)
          · rw [if_pos hlt]
            refine r_if_eq (t := 56) d_200_37 rfl (fun hz => absurd hz (by decide)) (fun _ => ?_)
            refine r_iload d_200_40 rfl ?_
            refine r_bipush d_200_42 rfl ?_
            refine r_icmp_ge (t := 56) d_200_44 rfl (fun _ => ?_) (fun hz => absurd (by omega) hz)
            exact hterm a b l _ (hnext a hba) haL hba hsa (by omega) (by omega) (fun _ q => by omega) hnf (hplb a haL)
          · rw [if_neg hlt]
            refine r_if_eq (t := 56) d_200_37 rfl (fun _ => ?_) (fun hz => absurd (by decide) hz)
            exact hterm a b l _ (hnext a hba) haL hba hsa (by omega) (by omega) (fun q1 q => hlt ⟨q1, q.1⟩) hnf (hplb a haL)
        | succ k ihk =>
          intro c a l hk hc6 haL hba hsa hl hlc hnf
          refine r_aload_n d_200_32 rfl (by omega) ?_
          refine r_iload_n d_200_33 rfl ?_
          refine r_callvp d_200_34 q_200_285 rfl rfl (m_isLetterAt hT (by omega)) ?_
          by_cases hlt : a < L ∧ isLt (t a)
          · rw [if_pos hlt]
            refine r_if_eq (t := 56) d_200_37 rfl (fun hz => absurd hz (by decide)) (fun _ => ?_)
            refine r_iload d_200_40 rfl ?_
            refine r_bipush d_200_42 rfl ?_
            refine r_icmp_ge (t := 56) d_200_44 rfl (fun hz => absurd hz (by omega)) (fun _ => ?_)
            refine r_iinc d_200_47 rfl (by omega) (stl_6_1 rfl rfl) ?_
            refine r_iinc d_200_50 rfl (by omega) (stl_6_5 rfl rfl) ?_
            refine r_goto (t := 32) d_200_53 rfl ?_
            have h43 : t a ≠ 43 := fun q => by
              have := hlt.2
              unfold isLt at this
              omega
            have h4 := ihk (c + 1) (a + 1) ((c : Int) + 1) (by omega) (by omega) (by omega) (by omega) (by
              rw [← hsa, show L - a = (L - (a + 1)) + 1 by omega]
              refine (scan_st ?_).symm
              unfold stp
              rw [if_pos ⟨hlt.2, by omega⟩]
              congr 1
              rcases hlc with ⟨q1, q2⟩ | q1
              · rw [if_pos (by omega)]
                omega
              · rw [if_neg (by omega)]
                omega) (by omega) (Or.inr (by omega)) (fun _ q => by omega)
            rw [plc_n h43] at h4
            exact h4
          · rw [if_neg hlt]
            refine r_if_eq (t := 56) d_200_37 rfl (fun _ => ?_) (fun hz => absurd (by decide) hz)
            exact hterm a b l _ (hnext a hba) haL hba hsa (by omega) (by omega) (fun q1 q => hlt ⟨q1, q.1⟩) hnf (hplb a haL)
      refine r_iload_n d_200_6 rfl ?_
      refine r_if_eq (t := 109) d_200_7 rfl (fun hz => absurd hz (by decide)) (fun _ => ?_)
      refine r_iload_n d_200_10 rfl ?_
      refine r_istore d_200_11 rfl (stl_6_4 rfl rfl) ?_
      refine r_iload_n d_200_13 rfl ?_
      refine r_aload_n d_200_14 rfl (by omega) ?_
      refine r_iload_n d_200_15 rfl ?_
      refine r_callvp d_200_16 q_200_282 rfl rfl (m_isFigureAt hT (by omega)) ?_
      by_cases hf : b < L ∧ isF (t b)
      · rw [if_pos hf]
        refine r_if_eq (t := 26) d_200_19 rfl (fun hz => absurd hz (by decide)) (fun _ => ?_)
        refine r_iconst d_200_22 rfl ?_
        refine r_goto (t := 27) d_200_23 rfl ?_
        refine r_iadd d_200_27 (by omega) ?_
        refine r_istore_n d_200_28 rfl (stl_6_1 rfl rfl) ?_
        refine r_iconst d_200_29 rfl ?_
        refine r_istore d_200_30 rfl (stl_6_5 rfl rfl) ?_
        have h43 : t b ≠ 43 := fun q => by
          have := hf.2
          unfold isF at this
          omega
        have h4 := hlet 6 0 (b + 1) 0 rfl (by omega) (by omega) (by omega) (by
          rw [← hsc, show L - b = (L - (b + 1)) + 1 by omega]
          refine (scan_st ?_).symm
          unfold stp
          rw [if_neg (fun q => ?_), if_pos ⟨hf.2, rfl⟩]
          have h5 := hf.2
          have h6 := q.1
          unfold isF at h5
          unfold isLt at h6
          omega) (by omega) (Or.inr rfl) (fun _ q => by omega)
        rw [plc_n h43] at h4
        exact h4
      · rw [if_neg hf]
        refine r_if_eq (t := 26) d_200_19 rfl (fun _ => ?_) (fun hz => absurd (by decide) hz)
        refine r_iconst d_200_26 rfl ?_
        refine r_iadd d_200_27 (by omega) ?_
        refine r_istore_n d_200_28 rfl (stl_6_1 rfl rfl) ?_
        refine r_iconst d_200_29 rfl ?_
        refine r_istore d_200_30 rfl (stl_6_5 rfl rfl) ?_
        rw [Int.add_zero]
        exact hlet 6 0 b (-1) rfl (by omega) hb (Nat.le_refl _) hsc (by omega) (Or.inl ⟨rfl, rfl⟩) (fun q1 q => hf ⟨q1, q.1⟩)
  refine r_iconst d_200_0 rfl ?_
  refine r_istore_n d_200_1 rfl (stl_6_1 rfl rfl) ?_
  refine r_iconst d_200_2 rfl ?_
  refine r_istore_n d_200_3 rfl (stl_6_2 rfl rfl) ?_
  refine r_iconst d_200_4 rfl ?_
  refine r_istore_n d_200_5 rfl (stl_6_3 rfl rfl) ?_
  exact hmain L 0 _ _ (by omega) (by omega) rfl
