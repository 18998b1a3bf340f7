/-! The model: states that are kept. -/
def LV (M : Mo) (q : Int) (f : Int → Int) : Mo := sr (up2 M 217 13 q) 228 f
theorem LV_self (M : Mo) : LV M (M 217 13) (M 228) = M := by
  funext x y
  unfold LV sr up2
  by_cases h1 : x = 228
  · simp [h1]
  · by_cases h2 : x = 217 ∧ y = 13
    · simp [h2]
    · simp [h1, h2]
theorem LV_k {M : Mo} {q : Int} {f : Int → Int} {y : Int} : LV M q f 228 y = f y := by simp [LV, sr]
theorem LV_s {M : Mo} {q : Int} {f : Int → Int} : LV M q f 217 13 = q := by simp [LV, sr, up2]
theorem LV_o {M : Mo} {q : Int} {f : Int → Int} {x y : Int} (hx : x ≠ 228 ∧ (x ≠ 217 ∨ y ≠ 13)) : LV M q f x y = M x y := by
  have : ¬ (x = 217 ∧ y = 13) := by omega
  simp [LV, sr, up2, hx.1, this]
theorem LV_uk {M : Mo} {q : Int} {f : Int → Int} {i v : Int} : up2 (LV M q f) 228 i v = LV M q (u1 f i v) := by
  unfold LV
  rw [up_sr]
theorem LV_us {M : Mo} {q : Int} {f : Int → Int} {v : Int} : up2 (LV M q f) 217 13 v = LV M v f := by
  unfold LV
  rw [up_srn _ _ _ _ (by decide)]
  congr 1
  funext x y
  unfold up2
  by_cases h : x = 217 ∧ y = 13
  · rw [if_pos h, if_pos h]
  · rw [if_neg h, if_neg h, if_neg h]
def WL (x y : Int) : Prop := (x = 217 ∧ (y = 5 ∨ y = 13)) ∨ x = 228
def lvP (M : Mo) (b : Int) (f : Int → Int) : Prop := (∀ y : Int, 0 ≤ y → y < 293 * b → f y = M 228 (if M 217 13 = 8 then y + 293 else y)) ∧ f (293 * b) = M 217 1 ∧ (∀ k : Int, 0 ≤ k → k < 4 → f (293 * b + 1 + k) = M 219 k) ∧ ∀ c : Int, 0 ≤ c → c < 288 → f (293 * b + 5 + c) = M 220 c
theorem m_leaves0 (M : Mo) (hs : 0 ≤ M 217 13 ∧ M 217 13 ≤ 8) : CV 151 [(2, 217)] M (fun M' => ∃ b f, b = (if M 217 13 = 8 then 7 else M 217 13) ∧ M' = up2 (LV M (b + 1) f) 217 5 (-1) ∧ lvP M b f) := by
  refine Cl.intro (L := [(2, 217), (9, 0), (9, 0)]) (rcv_v ow_151.2.1 sh_217) (by unfold entl; rw [mx_151]; rfl) (by rw [mx_151]; exact Nat.le_of_ble_eq_true rfl) rfl ?_
  have main : ∀ (b : Int) (f : Int → Int) (y1 y2 : AV), b = (if M 217 13 = 8 then 7 else M 217 13) → 0 ≤ b → b ≤ 7 → (∀ y : Int, 0 ≤ y → y < 293 * b → f y = M 228 (if M 217 13 = 8 then y + 293 else y)) → Rn 151 50 [(2, 217), y1, y2] [] (LV M b f) (fun v M' => v = none ∧ ∃ b f, b = (if M 217 13 = 8 then 7 else M 217 13) ∧ M' = up2 (LV M (b + 1) f) 217 5 (-1) ∧ lvP M b f) := by
    intro b f y1 y2 hb b0 b7 hf
    refine r_sipush d_151_50 rfl ?_
    refine r_aload_n d_151_53 rfl (by omega) ?_
    refine r_getfv (ki := 13) d_151_54 q_151_165 rfl sh_217 LV_s ?_
    refine r_imul d_151_57 (by omega) ?_
    refine r_istore_n d_151_58 rfl (stl_3_1 rfl rfl) ?_
    refine r_aload_n d_151_59 rfl (by omega) ?_
    refine r_getc (ki := 14) d_151_60 q_151_47 rfl sh_217 fx_217_14 (by omega) ?_
    refine r_iload_n d_151_63 rfl ?_
    refine r_aload_n d_151_64 rfl (by omega) ?_
    refine r_getfv (ki := 1) d_151_65 q_151_13 rfl sh_217 (LV_o (by decide)) ?_
    refine r_iastore d_151_68 sh_228 (by omega) (by omega) ?_
    rw [LV_uk]
    refine r_iconst d_151_69 rfl ?_
    refine r_istore_n d_151_70 rfl (stl_3_2 rfl rfl) ?_
    refine dn_ind (R := fun k => ∀ f : Int → Int, (∀ y : Int, 0 ≤ y → y < 293 * b → f y = M 228 (if M 217 13 = 8 then y + 293 else y)) → f (293 * b) = M 217 1 → (∀ k' : Int, 0 ≤ k' → k' < k → f (293 * b + 1 + k') = M 219 k') → Rn 151 71 [(2, 217), (0, 293 * b), (0, k)] [] (LV M b f) _) (lo := 0) (n := 4) ?_ ?_ 0 (by omega) (by omega) _ (fun y h1 h2 => by rw [u1_ne _ _ (by omega)]; exact hf y h1 h2) (u1_eq _ _ _) (fun k' h1 h2 => by omega)
    · intro f f1 f2 f3
      refine r_iload_n d_151_71 rfl ?_
      refine r_iconst d_151_72 rfl ?_
      refine r_icmp_ge (t := 98) d_151_73 rfl (fun _ => ?_) (fun hz => absurd (by omega) hz)
      refine r_iconst d_151_98 rfl ?_
      refine r_istore_n d_151_99 rfl (stl_3_2 rfl rfl) ?_
      refine dn_ind (R := fun c => ∀ f : Int → Int, (∀ y : Int, 0 ≤ y → y < 293 * b → f y = M 228 (if M 217 13 = 8 then y + 293 else y)) → f (293 * b) = M 217 1 → (∀ k' : Int, 0 ≤ k' → k' < 4 → f (293 * b + 1 + k') = M 219 k') → (∀ c' : Int, 0 ≤ c' → c' < c → f (293 * b + 5 + c') = M 220 c') → Rn 151 100 [(2, 217), (0, 293 * b), (0, c)] [] (LV M b f) _) (lo := 0) (n := 288) ?_ ?_ 0 (by omega) (by omega) _ f1 f2 f3 (fun c' h1 h2 => by omega)
      · intro f f1 f2 f3 f4
        refine r_iload_n d_151_100 rfl ?_
        refine r_sipush d_151_101 rfl ?_
        refine r_icmp_ge (t := 129) d_151_104 rfl (fun _ => ?_) (fun hz => absurd (by omega) hz)
        refine r_aload_n d_151_129 rfl (by omega) ?_
        refine r_dup d_151_130 rfl ?_
        refine r_getfv (ki := 13) d_151_131 q_151_165 rfl sh_217 LV_s ?_
        refine r_iconst d_151_134 rfl ?_
        refine r_iadd d_151_135 (by omega) ?_
        refine r_putf (ki := 13) d_151_136 q_151_165 rfl sh_217 fx_217_13 ?_
        rw [LV_us]
        refine r_aload_n d_151_139 rfl (by omega) ?_
        refine r_iconst d_151_140 rfl ?_
        refine r_putf (ki := 5) d_151_141 q_151_26 rfl sh_217 fx_217_5 ?_
        refine r_vret d_151_144 rt_151 ?_
        exact ⟨rfl, b, f, hb, rfl, f1, f2, f3, f4⟩
      · intro c c1 c2 ih f f1 f2 f3 f4
        refine r_iload_n d_151_100 rfl ?_
        refine r_sipush d_151_101 rfl ?_
        refine r_icmp_ge (t := 129) d_151_104 rfl (fun hz => absurd hz (by omega)) (fun _ => ?_)
        refine r_aload_n d_151_107 rfl (by omega) ?_
        refine r_getc (ki := 14) d_151_108 q_151_47 rfl sh_217 fx_217_14 (by omega) ?_
        refine r_iload_n d_151_111 rfl ?_
        refine r_iconst d_151_112 rfl ?_
        refine r_iadd d_151_113 (by omega) ?_
        refine r_iload_n d_151_114 rfl ?_
        refine r_iadd d_151_115 (by omega) ?_
        refine r_aload_n d_151_116 rfl (by omega) ?_
        refine r_getc (ki := 3) d_151_117 q_151_20 rfl sh_217 fx_217_3 (by omega) ?_
        refine r_iload_n d_151_120 rfl ?_
        refine r_ialoadv d_151_121 sh_220 (by omega) (by omega) (LV_o ⟨by decide, Or.inl (by decide)⟩) ?_
        refine r_iastore d_151_122 sh_228 (by omega) (by omega) ?_
        rw [LV_uk]
        refine r_iinc d_151_123 rfl (by omega) (stl_3_2 rfl rfl) ?_
        refine r_goto (t := 100) d_151_126 rfl ?_
        refine ih _ (fun y h1 h2 => ?_) ?_ (fun k' h1 h2 => ?_) (fun c' h1 h2 => ?_)
        · rw [u1_ne _ _ (by omega)]
          exact f1 y h1 h2
        · rw [u1_ne _ _ (by omega)]
          exact f2
        · rw [u1_ne _ _ (by omega)]
          exact f3 k' h1 h2
        · by_cases hc : c' = c
          · rw [hc, u1_eq]
          · rw [u1_ne _ _ (by omega)]
            exact f4 c' h1 (by omega)
    · intro k k1 k2 ih f f1 f2 f3
      refine r_iload_n d_151_71 rfl ?_
      refine r_iconst d_151_72 rfl ?_
      refine r_icmp_ge (t := 98) d_151_73 rfl (fun hz => absurd hz (by omega)) (fun _ => ?_)
      refine r_aload_n d_151_76 rfl (by omega) ?_
      refine r_getc (ki := 14) d_151_77 q_151_47 rfl sh_217 fx_217_14 (by omega) ?_
      refine r_iload_n d_151_80 rfl ?_
      refine r_iconst d_151_81 rfl ?_
      refine r_iadd d_151_82 (by omega) ?_
      refine r_iload_n d_151_83 rfl ?_
      refine r_iadd d_151_84 (by omega) ?_
      refine r_aload_n d_151_85 rfl (by omega) ?_
      refine r_getc (ki := 2) d_151_86 q_151_17 rfl sh_217 fx_217_2 (by omega) ?_
      refine r_iload_n d_151_89 rfl ?_
      refine r_ialoadv d_151_90 sh_219 (by omega) (by omega) (LV_o ⟨by decide, Or.inl (by decide)⟩) ?_
      refine r_iastore d_151_91 sh_228 (by omega) (by omega) ?_
      rw [LV_uk]
      refine r_iinc d_151_92 rfl (by omega) (stl_3_2 rfl rfl) ?_
      refine r_goto (t := 71) d_151_95 rfl ?_
      refine ih _ (fun y h1 h2 => ?_) ?_ (fun k' h1 h2 => ?_)
      · rw [u1_ne _ _ (by omega)]
        exact f1 y h1 h2
      · rw [u1_ne _ _ (by omega)]
        exact f2
      · by_cases hc : k' = k
        · rw [hc, u1_eq]
        · rw [u1_ne _ _ (by omega)]
          exact f3 k' h1 (by omega)
  refine r_aload_n d_151_0 rfl (by omega) ?_
  refine r_getf (ki := 13) d_151_1 q_151_165 rfl sh_217 ?_
  refine r_bipush d_151_4 rfl ?_
  by_cases h8 : M 217 13 = 8
  · refine r_icmp_ne (t := 50) d_151_6 rfl (fun hz => absurd hz (by omega)) (fun _ => ?_)
    refine r_iconst d_151_9 rfl ?_
    refine r_istore_n d_151_10 rfl (stl_3_1 rfl rfl) ?_
    have hself := LV_self M
    refine dn_ind (R := fun k => ∀ f : Int → Int, (∀ y : Int, 0 ≤ y → y < k → f y = M 228 (y + 293)) → (∀ y : Int, k ≤ y → f y = M 228 y) → Rn 151 11 [(2, 217), (0, k), (9, 0)] [] (LV M (M 217 13) f) _) (lo := 0) (n := 2051) ?_ ?_ 0 (by omega) (by omega) (M 228) (fun y h1 h2 => by omega) (fun y _ => rfl) |> (fun k => by rw [hself] at k; exact k)
    · intro f f1 f2
      refine r_iload_n d_151_11 rfl ?_
      refine r_sipush d_151_12 rfl ?_
      refine r_icmp_ge (t := 40) d_151_15 rfl (fun _ => ?_) (fun hz => absurd (by omega) hz)
      refine r_aload_n d_151_40 rfl (by omega) ?_
      refine r_dup d_151_41 rfl ?_
      refine r_getfv (ki := 13) d_151_42 q_151_165 rfl sh_217 LV_s ?_
      refine r_iconst d_151_45 rfl ?_
      refine r_isub d_151_46 (by omega) ?_
      refine r_putf (ki := 13) d_151_47 q_151_165 rfl sh_217 fx_217_13 ?_
      rw [LV_us]
      have := main 7 f (0, 2051) (9, 0) (by rw [if_pos h8]) (by omega) (by omega) (fun y h1 h2 => by rw [if_pos h8]; exact f1 y h1 (by omega))
      rw [show M 217 13 - 1 = 7 by omega]
      exact this
    · intro k k1 k2 ih f f1 f2
      refine r_iload_n d_151_11 rfl ?_
      refine r_sipush d_151_12 rfl ?_
      refine r_icmp_ge (t := 40) d_151_15 rfl (fun hz => absurd hz (by omega)) (fun _ => ?_)
      refine r_aload_n d_151_18 rfl (by omega) ?_
      refine r_getc (ki := 14) d_151_19 q_151_47 rfl sh_217 fx_217_14 (by omega) ?_
      refine r_iload_n d_151_22 rfl ?_
      refine r_aload_n d_151_23 rfl (by omega) ?_
      refine r_getc (ki := 14) d_151_24 q_151_47 rfl sh_217 fx_217_14 (by omega) ?_
      refine r_iload_n d_151_27 rfl ?_
      refine r_sipush d_151_28 rfl ?_
      refine r_iadd d_151_31 (by omega) ?_
      refine r_ialoadv d_151_32 sh_228 (by omega) (by omega) (LV_k.trans (f2 _ (by omega))) ?_
      refine r_iastore d_151_33 sh_228 (by omega) (by omega) ?_
      rw [LV_uk]
      refine r_iinc d_151_34 rfl (by omega) (stl_3_1 rfl rfl) ?_
      refine r_goto (t := 11) d_151_37 rfl ?_
      refine ih _ (fun y h1 h2 => ?_) (fun y h1 => ?_)
      · by_cases hc : y = k
        · rw [hc, u1_eq]
        · rw [u1_ne _ _ hc]
          exact f1 y h1 (by omega)
      · rw [u1_ne _ _ (by omega)]
        exact f2 y (by omega)
  · refine r_icmp_ne (t := 50) d_151_6 rfl (fun _ => ?_) (fun hz => absurd h8 hz)
    have := main (M 217 13) (M 228) (9, 0) (9, 0) (by rw [if_neg h8]) (by omega) (by omega) (fun y h1 h2 => by rw [if_neg h8])
    rw [LV_self] at this
    exact this
/-! states -/
abbrev Sst : Type := Nat × (Nat → Nat) × (Nat → Nat → Nat → Nat → Int)
def s00 : Sst := (0, fun _ => 0, fun _ _ _ _ => 0)
def vs (s : Sst) : Prop := s.1 ≤ 1 ∧ ∀ k, k < 4 → 1 ≤ s.2.1 k ∧ nb s.1 (s.2.1 k) ∧ ∀ g i j, g < 2 → i < s.2.1 k → j < s.2.1 k → 0 ≤ s.2.2 k g i j ∧ s.2.2 k g i j ≤ pI s.1 - 1
def cu (M : Mo) (s : Sst) : Prop := M 217 1 = pI s.1 ∧ ∀ k : Nat, k < 4 → M 219 k = s.2.1 k ∧ ∀ g i j : Nat, g < 2 → i < s.2.1 k → j < s.2.1 k → M 220 (72 * k + 36 * g + 6 * i + j) = s.2.2 k g i j
def ke (M : Mo) (b : Int) (s : Sst) : Prop := M 228 b = pI s.1 ∧ ∀ k : Nat, k < 4 → M 228 (b + 1 + k) = s.2.1 k ∧ ∀ g i j : Nat, g < 2 → i < s.2.1 k → j < s.2.1 k → M 228 (b + 5 + (72 * k + 36 * g + 6 * i + j)) = s.2.2 k g i j
def hi (M : Mo) (H : List Sst) : Prop := M 217 13 = H.length ∧ H.length ≤ 8 ∧ (∀ s ∈ H, vs s) ∧ ∀ i : Nat, i < H.length → ke M (293 * i) (H.getD i s00)
def psh (H : List Sst) (s : Sst) : List Sst := if H.length = 8 then H.tail ++ [s] else H ++ [s]
theorem gD_l {H : List Sst} {s : Sst} {i : Nat} (h : i < H.length) : (H ++ [s]).getD i s00 = H.getD i s00 := by
  rw [List.getD_eq_getElem?_getD, List.getD_eq_getElem?_getD, List.getElem?_append_left h]
theorem gD_n {H : List Sst} {s : Sst} : (H ++ [s]).getD H.length s00 = s := by
  rw [List.getD_eq_getElem?_getD, List.getElem?_append_right (Nat.le_refl _)]
  simp
theorem gD_t {H : List Sst} {i : Nat} : H.tail.getD i s00 = H.getD (i + 1) s00 := by
  cases H with
  | nil => rfl
  | cons a H => rfl
theorem vs_gD {H : List Sst} (h : ∀ s ∈ H, vs s) {i : Nat} (hi : i < H.length) : vs (H.getD i s00) := by
  rw [List.getD_eq_getElem?_getD, List.getElem?_eq_getElem hi]
  exact h _ (List.getElem_mem hi)
theorem vs_6 {s : Sst} (h : vs s) {k : Nat} (hk : k < 4) : s.2.1 k ≤ 6 := by
  have := (h.2 k hk).2.1
  unfold nb at this
  omega
theorem m_leavesState (M : Mo) {s : Sst} {H : List Sst} (hv : vs s) (hc : cu M s) (hH : hi M H) : CV 151 [(2, 217)] M (fun M' => Fr WL M M' ∧ M' 217 5 = -1 ∧ hi M' (psh H s)) := by
  have hl := hH.1
  have hl8 := hH.2.1
  refine Cl.mono (m_leaves0 M (by omega)) (fun v M' h => ⟨h.1, ?_⟩)
  obtain ⟨-, b, f, hb, rfl, f1, f2, f3, f4⟩ := h
  have h217 : ∀ x y, ¬ (x = 217 ∧ y = 5) → up2 (LV M (b + 1) f) 217 5 (-1) x y = LV M (b + 1) f x y := fun x y h => by
    unfold up2
    rw [if_neg h]
  have h228 : ∀ y, up2 (LV M (b + 1) f) 217 5 (-1) 228 y = f y := fun y => by
    rw [h217 _ _ (fun q => absurd q.1 (by decide)), LV_k]
  have hnew : ∀ B : Int, B = 293 * b → ke (up2 (LV M (b + 1) f) 217 5 (-1)) B s := by
    intro B hB
    subst hB
    refine ⟨by rw [h228, f2]; exact hc.1, fun k hk => ⟨?_, fun g i j a1 a2 a3 => ?_⟩⟩
    · rw [h228, f3 k (by omega) (by omega)]
      exact (hc.2 k hk).1
    · have h6 := vs_6 hv hk
      rw [h228, f4 _ (by omega) (by omega)]
      exact (hc.2 k hk).2 g i j a1 a2 a3
  have hold : ∀ (i : Nat) (t : Sst) (B B' : Int), vs t → B = 293 * i → B' = (if M 217 13 = 8 then B + 293 else B) → (i : Int) < b → ke M B' t → ke (up2 (LV M (b + 1) f) 217 5 (-1)) B t := by
    intro i t B B' hvt hB hB' hib ht
    refine ⟨?_, fun k hk => ⟨?_, fun g i' j a1 a2 a3 => ?_⟩⟩
    · rw [h228, f1 _ (by omega) (by omega), ← hB']
      exact ht.1
    · rw [h228, f1 _ (by omega) (by omega), ← (ht.2 k hk).1]
      congr 1
      split at hB' <;> simp_all <;> omega
    · have h6 := vs_6 hvt hk
      rw [h228, f1 _ (by omega) (by omega), ← (ht.2 k hk).2 g i' j a1 a2 a3]
      congr 1
      split at hB' <;> simp_all <;> omega
  refine ⟨fun x y hn => ?_, ?_, ?_⟩
  · unfold WL at hn
    rw [h217 x y (by omega), LV_o (by omega)]
  · unfold up2
    rw [if_pos ⟨rfl, rfl⟩]
  · unfold psh
    by_cases h8 : H.length = 8
    · rw [if_pos h8]
      rw [if_pos (by omega)] at hb
      subst hb
      have hlt : H.tail.length = 7 := by rw [List.length_tail]; omega
      refine ⟨?_, ?_, ?_, ?_⟩
      · rw [h217 _ _ (by decide), LV_s, List.length_append, hlt]
        rfl
      · rw [List.length_append, hlt]
        simp
      · intro t ht
        rcases List.mem_append.mp ht with q | q
        · exact hH.2.2.1 t (List.mem_of_mem_tail q)
        · rw [List.mem_singleton.mp q]
          exact hv
      · intro i hi
        rw [List.length_append, hlt] at hi
        simp at hi
        rcases Nat.lt_or_ge i 7 with q | q
        · rw [gD_l (by omega), gD_t]
          refine hold i _ _ _ (vs_gD hH.2.2.1 (by omega)) rfl rfl (by omega) ?_
          rw [if_pos (by omega)]
          have := hH.2.2.2 (i + 1) (by omega)
          rw [show 293 * (i : Int) + 293 = 293 * ((i + 1 : Nat) : Int) by omega]
          exact this
        · have hi7 : i = H.tail.length := by omega
          rw [hi7, gD_n]
          exact hnew _ (by omega)
    · rw [if_neg h8]
      rw [if_neg (by omega)] at hb
      refine ⟨?_, ?_, ?_, ?_⟩
      · rw [h217 _ _ (by decide), LV_s, List.length_append]
        simp
        omega
      · rw [List.length_append]
        simp
        omega
      · intro t ht
        rcases List.mem_append.mp ht with q | q
        · exact hH.2.2.1 t q
        · rw [List.mem_singleton.mp q]
          exact hv
      · intro i hi
        rw [List.length_append] at hi
        simp at hi
        rcases Nat.lt_or_ge i H.length with q | q
        · rw [gD_l q]
          refine hold i _ _ _ (vs_gD hH.2.2.1 q) rfl rfl (by omega) ?_
          rw [if_neg (by omega)]
          exact hH.2.2.2 i q
        · have hi7 : i = H.length := by omega
          rw [hi7, gD_n]
          exact hnew _ (by omega)
/-! back -/
def BK (M : Mo) (q r : Int) (f g : Int → Int) : Mo := sr (sr (up2 (up2 M 217 13 q) 217 1 r) 219 f) 220 g
theorem BK_o {M : Mo} {q r : Int} {f g : Int → Int} {x y : Int} (hx : x ≠ 219 ∧ x ≠ 220 ∧ (x ≠ 217 ∨ y ≠ 13 ∧ y ≠ 1)) : BK M q r f g x y = M x y := by
  have h1 : ¬ (x = 217 ∧ y = 13) := by omega
  have h2 : ¬ (x = 217 ∧ y = 1) := by omega
  simp [BK, sr, up2, hx.1, hx.2.1, h1, h2]
theorem BK_f {M : Mo} {q r : Int} {f g : Int → Int} {y : Int} : BK M q r f g 219 y = f y := by simp [BK, sr]
theorem BK_g {M : Mo} {q r : Int} {f g : Int → Int} {y : Int} : BK M q r f g 220 y = g y := by simp [BK, sr]
theorem BK_q {M : Mo} {q r : Int} {f g : Int → Int} : BK M q r f g 217 13 = q := by simp [BK, sr, up2]
theorem BK_r {M : Mo} {q r : Int} {f g : Int → Int} : BK M q r f g 217 1 = r := by simp [BK, sr, up2]
theorem BK_uf {M : Mo} {q r : Int} {f g : Int → Int} {i v : Int} : up2 (BK M q r f g) 219 i v = BK M q r (u1 f i v) g := by
  unfold BK
  rw [up_srn _ _ _ _ (by decide), up_sr]
theorem BK_ug {M : Mo} {q r : Int} {f g : Int → Int} {i v : Int} : up2 (BK M q r f g) 220 i v = BK M q r f (u1 g i v) := by
  unfold BK
  rw [up_sr]
theorem BK_self (M : Mo) (q r : Int) : BK M q r (M 219) (M 220) = up2 (up2 M 217 13 q) 217 1 r := by
  funext x y
  unfold BK sr
  by_cases h1 : x = 220
  · subst h1
    simp [up2]
  · by_cases h2 : x = 219
    · subst h2
      simp [up2]
    · simp [h1, h2]
def WB (x y : Int) : Prop := (x = 217 ∧ (y = 1 ∨ y = 5 ∨ y = 13)) ∨ x = 219 ∨ x = 220
theorem m_no (M : Mo) (h : -1 ≤ M 218 1 ∧ M 218 1 < 2000000000) : PJ 127 [(2, 217)] M (-3) (up2 M 218 1 (M 218 1 + 1)) := by
  refine Cl.intro (L := [(2, 217)]) (rcv_v ow_127.2.1 sh_217) (by unfold entl; rw [mx_127]; rfl) (by rw [mx_127]; exact Nat.le_of_ble_eq_true rfl) rfl ?_
  refine r_aload_n d_127_0 rfl (by omega) ?_
  refine r_getc (ki := 0) d_127_1 q_127_7 rfl sh_217 fx_217_0 (by omega) ?_
  refine r_iconst d_127_4 rfl ?_
  refine r_dup2 d_127_5 rfl ?_
  refine r_iaload d_127_6 sh_218 (by omega) (by omega) ?_
  refine r_iconst d_127_7 rfl ?_
  refine r_iadd d_127_8 (by omega) ?_
  refine r_iastore d_127_9 sh_218 (by omega) (by omega) ?_
  refine r_bipush d_127_10 rfl ?_
  refine r_iret d_127_12 rt_127 ?_
  exact ⟨rfl, rfl⟩
theorem m_full (M : Mo) (h : -1 ≤ M 218 2 ∧ M 218 2 < 2000000000) : PJ 128 [(2, 217)] M (-4) (up2 M 218 2 (M 218 2 + 1)) := by
  refine Cl.intro (L := [(2, 217)]) (rcv_v ow_128.2.1 sh_217) (by unfold entl; rw [mx_128]; rfl) (by rw [mx_128]; exact Nat.le_of_ble_eq_true rfl) rfl ?_
  refine r_aload_n d_128_0 rfl (by omega) ?_
  refine r_getc (ki := 0) d_128_1 q_128_7 rfl sh_217 fx_217_0 (by omega) ?_
  refine r_iconst d_128_4 rfl ?_
  refine r_dup2 d_128_5 rfl ?_
  refine r_iaload d_128_6 sh_218 (by omega) (by omega) ?_
  refine r_iconst d_128_7 rfl ?_
  refine r_iadd d_128_8 (by omega) ?_
  refine r_iastore d_128_9 sh_218 (by omega) (by omega) ?_
  refine r_bipush d_128_10 rfl ?_
  refine r_iret d_128_12 rt_128 ?_
  exact ⟨rfl, rfl⟩
theorem m_back1 (M : Mo) {H : List Sst} {s : Sst} (hH : hi M (H ++ [s])) : CI 152 [(2, 217)] M (fun z M' => z = H.length ∧ Fr WB M M' ∧ M' 217 5 = -1 ∧ cu M' s ∧ hi M' H) := by
  refine Cl.intro (L := [(2, 217), (9, 0), (9, 0)]) (rcv_v ow_152.2.1 sh_217) (by unfold entl; rw [mx_152]; rfl) (by rw [mx_152]; exact Nat.le_of_ble_eq_true rfl) rfl ?_
  have hl := hH.1
  have hl8 := hH.2.1
  rw [List.length_append] at hl hl8
  simp at hl hl8
  have hke := hH.2.2.2 H.length (by simp)
  rw [gD_n] at hke
  have hv : vs s := hH.2.2.1 s (by simp)
  obtain ⟨k1, k2⟩ := hke
  refine r_aload_n d_152_0 rfl (by omega) ?_
  refine r_getfv (ki := 13) d_152_1 q_152_165 rfl sh_217 hl ?_
  refine r_if_ne (t := 12) d_152_4 rfl (fun _ => ?_) (fun hz => absurd (by omega) hz)
  refine r_aload_n d_152_12 rfl (by omega) ?_
  refine r_dup d_152_13 rfl ?_
  refine r_getfv (ki := 13) d_152_14 q_152_165 rfl sh_217 hl ?_
  refine r_iconst d_152_17 rfl ?_
  refine r_isub d_152_18 (by omega) ?_
  refine r_putf (ki := 13) d_152_19 q_152_165 rfl sh_217 fx_217_13 ?_
  have e0 : (H.length : Int) + 1 - 1 = H.length := by omega
  rw [e0]
  have hq : up2 M 217 13 (H.length : Int) 217 13 = H.length := by simp [up2]
  have hk0 : up2 M 217 13 (H.length : Int) 228 (293 * H.length) = pI s.1 := by
    rw [← k1]
    simp [up2]
  refine r_sipush d_152_22 rfl ?_
  refine r_aload_n d_152_25 rfl (by omega) ?_
  refine r_getfv (ki := 13) d_152_26 q_152_165 rfl sh_217 hq ?_
  refine r_imul d_152_29 (by omega) ?_
  refine r_istore_n d_152_30 rfl (stl_3_1 rfl rfl) ?_
  refine r_aload_n d_152_31 rfl (by omega) ?_
  refine r_aload_n d_152_32 rfl (by omega) ?_
  refine r_getc (ki := 14) d_152_33 q_152_47 rfl sh_217 fx_217_14 (by omega) ?_
  refine r_iload_n d_152_36 rfl ?_
  refine r_ialoadv d_152_37 sh_228 (by omega) (by omega) hk0 ?_
  refine r_putf (ki := 1) d_152_38 q_152_13 rfl sh_217 fx_217_1 ?_
  rw [← BK_self]
  refine r_iconst d_152_41 rfl ?_
  refine r_istore_n d_152_42 rfl (stl_3_2 rfl rfl) ?_
  refine dn_ind (R := fun k => ∀ f : Int → Int, (∀ k' : Nat, (k' : Int) < k → f k' = s.2.1 k') → Rn 152 43 [(2, 217), (0, 293 * (H.length : Int)), (0, k)] [] (BK M H.length (pI s.1) f (M 220)) _) (lo := 0) (n := 4) ?_ ?_ 0 (by omega) (by omega) _ (fun k' h => by omega)
  · intro f hf
    refine r_iload_n d_152_43 rfl ?_
    refine r_iconst d_152_44 rfl ?_
    refine r_icmp_ge (t := 70) d_152_45 rfl (fun _ => ?_) (fun hz => absurd (by omega) hz)
    refine r_iconst d_152_70 rfl ?_
    refine r_istore_n d_152_71 rfl (stl_3_2 rfl rfl) ?_
    refine dn_ind (R := fun c => ∀ g : Int → Int, (∀ c' : Int, 0 ≤ c' → c' < c → g c' = M 228 (293 * (H.length : Int) + 5 + c')) → Rn 152 72 [(2, 217), (0, 293 * (H.length : Int)), (0, c)] [] (BK M H.length (pI s.1) f g) _) (lo := 0) (n := 288) ?_ ?_ 0 (by omega) (by omega) _ (fun c' h1 h2 => by omega)
    · intro g hg
      refine r_iload_n d_152_72 rfl ?_
      refine r_sipush d_152_73 rfl ?_
      refine r_icmp_ge (t := 101) d_152_76 rfl (fun _ => ?_) (fun hz => absurd (by omega) hz)
      refine r_aload_n d_152_101 rfl (by omega) ?_
      refine r_iconst d_152_102 rfl ?_
      refine r_putf (ki := 5) d_152_103 q_152_26 rfl sh_217 fx_217_5 ?_
      have hup : ∀ x y, ¬ (x = 217 ∧ y = 5) → up2 (BK M H.length (pI s.1) f g) 217 5 (-1) x y = BK M H.length (pI s.1) f g x y := fun x y h => by
        unfold up2
        rw [if_neg h]
      refine r_aload_n d_152_106 rfl (by omega) ?_
      refine r_getfv (ki := 13) d_152_107 q_152_165 rfl sh_217 ((hup _ _ (by decide)).trans BK_q) ?_
      refine r_iret d_152_110 rt_152 ?_
      refine ⟨_, rfl, rfl, fun x y hn => ?_, by simp [up2], ⟨?_, fun k hk => ⟨?_, fun g' i j a1 a2 a3 => ?_⟩⟩, ?_, by omega, fun t ht => hH.2.2.1 t (List.mem_append.mpr (Or.inl ht)), fun i hi => ?_⟩
      · unfold WB at hn
        rw [hup x y (by omega), BK_o (by omega)]
      · rw [hup _ _ (by decide), BK_r]
      · rw [hup _ _ (fun q => absurd q.1 (by decide)), BK_f, hf k (by omega)]
      · have h6 := vs_6 hv hk
        rw [hup _ _ (fun q => absurd q.1 (by decide)), BK_g, hg _ (by omega) (by omega)]
        exact (k2 k hk).2 g' i j a1 a2 a3
      · rw [hup _ _ (by decide), BK_q]
      · have hold := hH.2.2.2 i (by rw [List.length_append]; omega)
        rw [gD_l hi] at hold
        have h228 : ∀ y, up2 (BK M H.length (pI s.1) f g) 217 5 (-1) 228 y = M 228 y := fun y => by
          rw [hup _ _ (fun q => absurd q.1 (by decide)), BK_o ⟨by decide, by decide, Or.inl (by decide)⟩]
        exact ⟨by rw [h228]; exact hold.1, fun k hk => ⟨by rw [h228]; exact (hold.2 k hk).1, fun g i j a1 a2 a3 => by rw [h228]; exact (hold.2 k hk).2 g i j a1 a2 a3⟩⟩
    · intro c c1 c2 ih g hg
      refine r_iload_n d_152_72 rfl ?_
      refine r_sipush d_152_73 rfl ?_
      refine r_icmp_ge (t := 101) d_152_76 rfl (fun hz => absurd hz (by omega)) (fun _ => ?_)
      refine r_aload_n d_152_79 rfl (by omega) ?_
      refine r_getc (ki := 3) d_152_80 q_152_20 rfl sh_217 fx_217_3 (by omega) ?_
      refine r_iload_n d_152_83 rfl ?_
      refine r_aload_n d_152_84 rfl (by omega) ?_
      refine r_getc (ki := 14) d_152_85 q_152_47 rfl sh_217 fx_217_14 (by omega) ?_
      refine r_iload_n d_152_88 rfl ?_
      refine r_iconst d_152_89 rfl ?_
      refine r_iadd d_152_90 (by omega) ?_
      refine r_iload_n d_152_91 rfl ?_
      refine r_iadd d_152_92 (by omega) ?_
      refine r_ialoadv d_152_93 sh_228 (by omega) (by omega) (BK_o ⟨by decide, by decide, Or.inl (by decide)⟩) ?_
      refine r_iastore d_152_94 sh_220 (by omega) (by omega) ?_
      rw [BK_ug]
      refine r_iinc d_152_95 rfl (by omega) (stl_3_2 rfl rfl) ?_
      refine r_goto (t := 72) d_152_98 rfl ?_
      refine ih _ (fun c' h1 h2 => ?_)
      by_cases hc : c' = c
      · rw [hc, u1_eq]
      · rw [u1_ne _ _ hc]
        exact hg c' h1 (by omega)
  · intro k k3 k4 ih f hf
    have hkk := (k2 k.toNat (by omega)).1
    rw [show ((k.toNat : Nat) : Int) = k by omega] at hkk
    refine r_iload_n d_152_43 rfl ?_
    refine r_iconst d_152_44 rfl ?_
    refine r_icmp_ge (t := 70) d_152_45 rfl (fun hz => absurd hz (by omega)) (fun _ => ?_)
    refine r_aload_n d_152_48 rfl (by omega) ?_
    refine r_getc (ki := 2) d_152_49 q_152_17 rfl sh_217 fx_217_2 (by omega) ?_
    refine r_iload_n d_152_52 rfl ?_
    refine r_aload_n d_152_53 rfl (by omega) ?_
    refine r_getc (ki := 14) d_152_54 q_152_47 rfl sh_217 fx_217_14 (by omega) ?_
    refine r_iload_n d_152_57 rfl ?_
    refine r_iconst d_152_58 rfl ?_
    refine r_iadd d_152_59 (by omega) ?_
    refine r_iload_n d_152_60 rfl ?_
    refine r_iadd d_152_61 (by omega) ?_
    refine r_ialoadv d_152_62 sh_228 (by omega) (by omega) ((BK_o ⟨by decide, by decide, Or.inl (by decide)⟩).trans hkk) ?_
    refine r_iastore d_152_63 sh_219 (by omega) (by omega) ?_
    rw [BK_uf]
    refine r_iinc d_152_64 rfl (by omega) (stl_3_2 rfl rfl) ?_
    refine r_goto (t := 43) d_152_67 rfl ?_
    refine ih _ (fun k' h => ?_)
    by_cases hc : (k' : Int) = k
    · rw [hc, u1_eq, show k' = k.toNat by omega]
    · rw [u1_ne _ _ hc]
      exact hf k' (by omega)
