/-! The model: comparing tellings. -/
/-- the first difference of two sequences -/
def fdx (f g : Nat → Int) : Nat → Int
  | 0 => 0
  | N + 1 => if fdx f g N ≠ 0 then fdx f g N else f N - g N
theorem fdx_z {f g : Nat → Int} : ∀ {N : Nat}, fdx f g N = 0 ↔ ∀ c, c < N → f c = g c
  | 0 => ⟨fun _ c hc => absurd hc (Nat.not_lt_zero c), fun _ => rfl⟩
  | N + 1 => by
    unfold fdx
    by_cases h : fdx f g N ≠ 0
    · rw [if_pos h]
      exact ⟨fun q => absurd q h, fun q => absurd (fdx_z.mpr (fun c hc => q c (by omega))) h⟩
    · rw [if_neg h]
      have h0 : fdx f g N = 0 := Classical.byContradiction h
      have h1 := fdx_z.mp h0
      refine ⟨fun q c hc => ?_, fun q => by rw [q N (by omega)]; omega⟩
      rcases Nat.lt_or_ge c N with p | p
      · exact h1 c p
      · rw [show c = N by omega]
        omega
theorem fdx_up {f g : Nat → Int} {k : Nat} (h : fdx f g k ≠ 0) : ∀ {N : Nat}, k ≤ N → fdx f g N = fdx f g k
  | 0, hk => by rw [Nat.le_zero.mp hk]
  | N + 1, hk => by
    by_cases hq : k = N + 1
    · rw [hq]
    · have ih := fdx_up h (N := N) (by omega)
      show (if fdx f g N ≠ 0 then fdx f g N else f N - g N) = fdx f g k
      rw [if_pos (by rw [ih]; exact h)]
      exact ih
def cmpT (n m : Nat) (F G : Nat → Int) : Int := if n = m then fdx F G (2 * (n * n)) else (n : Int) - m
theorem m_compare {M : Mo} {a b : Nat} (ha : a < 6) (hb : b < 6) {n m : Nat} (hn : n ≤ 6) (hm : m ≤ 6) (h1 : M 219 (4 + a) = n) (h2 : M 219 (4 + b) = m) {F G : Nat → Int} (hF : ∀ c : Nat, c < 2 * (n * n) → M 230 (72 * a + c) = F c ∧ 0 ≤ F c ∧ F c ≤ 2) (hG : ∀ c : Nat, c < 2 * (m * m) → M 230 (72 * b + c) = G c ∧ 0 ≤ G c ∧ G c ≤ 2) : PI 176 [(2, 217), (0, (a : Int)), (0, (b : Int))] M (cmpT n m F G) := by
  refine Cl.intro (L := [(2, 217), (0, (a : Int)), (0, (b : Int)), (9, 0), (9, 0), (9, 0), (9, 0)]) (rcv_v ow_176.2.1 sh_217) (by unfold entl; rw [mx_176]; rfl) (by rw [mx_176]; exact Nat.le_of_ble_eq_true rfl) rfl ?_
  refine r_aload_n d_176_0 rfl (by omega) ?_
  refine r_getc (ki := 2) d_176_1 q_176_17 rfl sh_217 fx_217_2 (by omega) ?_
  refine r_iconst d_176_4 rfl ?_
  refine r_iload_n d_176_5 rfl ?_
  refine r_iadd d_176_6 (by omega) ?_
  refine r_ialoadv d_176_7 sh_219 (by omega) (by omega) h1 ?_
  refine r_istore_n d_176_8 rfl (stl_7_3 rfl rfl) ?_
  refine r_aload_n d_176_9 rfl (by omega) ?_
  refine r_getc (ki := 2) d_176_10 q_176_17 rfl sh_217 fx_217_2 (by omega) ?_
  refine r_iconst d_176_13 rfl ?_
  refine r_iload_n d_176_14 rfl ?_
  refine r_iadd d_176_15 (by omega) ?_
  refine r_ialoadv d_176_16 sh_219 (by omega) (by omega) h2 ?_
  refine r_istore d_176_17 rfl (stl_7_4 rfl rfl) ?_
  by_cases hnm : n = m
  · subst hnm
    have hnn : (n : Int) * (n : Int) = ((n * n : Nat) : Int) := (Int.natCast_mul n n).symm
    have h2nn : 2 * (n : Int) * (n : Int) = ((2 * (n * n) : Nat) : Int) := by
      rw [Int.mul_assoc, hnn]
      omega
    have h36 : n * n ≤ 36 := Nat.mul_le_mul hn hn
    refine r_iload_n d_176_19 rfl ?_
    refine r_iload d_176_20 rfl ?_
    refine r_icmp_eq (t := 30) d_176_22 rfl (fun _ => ?_) (fun hz => absurd rfl hz)
    refine r_iconst d_176_30 rfl ?_
    refine r_istore d_176_31 rfl (stl_7_5 rfl rfl) ?_
    refine dn_ind (R := fun c => ∀ y : AV, fdx F G c.toNat = 0 → Rn 176 33 [(2, 217), (0, (a : Int)), (0, (b : Int)), (0, (n : Int)), (0, (n : Int)), (0, c), y] [] M _) (lo := 0) (n := ((2 * (n * n) : Nat) : Int)) ?_ ?_ 0 (by omega) (by omega) _ rfl
    · intro y hz
      rw [Int.toNat_natCast] at hz
      refine r_iload d_176_33 rfl ?_
      refine r_iconst d_176_35 rfl ?_
      refine r_iload_n d_176_36 rfl ?_
      refine r_imul d_176_37 (by omega) ?_
      refine r_iload_n d_176_38 rfl ?_
      refine r_imul d_176_39 (mr (a := 12) (b := 6) (by omega) (by omega) (by decide)) ?_
      rw [h2nn]
      refine r_icmp_ge (t := 84) d_176_40 rfl (fun _ => ?_) (fun hz => absurd (by omega) hz)
      refine r_iconst d_176_84 rfl ?_
      refine r_iret d_176_85 rt_176 ?_
      refine ⟨?_, rfl⟩
      unfold cmpT
      rw [if_pos rfl, hz]
    · intro c c1 c2 ih y hz
      have hFc := hF c.toNat (by omega)
      have hGc := hG c.toNat (by omega)
      rw [show ((c.toNat : Nat) : Int) = c by omega] at hFc hGc
      have hs : fdx F G (c + 1).toNat = F c.toNat - G c.toNat := by
        rw [show (c + 1).toNat = c.toNat + 1 by omega]
        conv => lhs; unfold fdx
        rw [if_neg (fun q => q hz)]
      refine r_iload d_176_33 rfl ?_
      refine r_iconst d_176_35 rfl ?_
      refine r_iload_n d_176_36 rfl ?_
      refine r_imul d_176_37 (by omega) ?_
      refine r_iload_n d_176_38 rfl ?_
      refine r_imul d_176_39 (mr (a := 12) (b := 6) (by omega) (by omega) (by decide)) ?_
      rw [h2nn]
      refine r_icmp_ge (t := 84) d_176_40 rfl (fun hz => absurd hz (by omega)) (fun _ => ?_)
      refine r_aload_n d_176_43 rfl (by omega) ?_
      refine r_getc (ki := 17) d_176_44 q_176_53 rfl sh_217 fx_217_17 (by omega) ?_
      refine r_bipush d_176_47 rfl ?_
      refine r_iload_n d_176_49 rfl ?_
      refine r_imul d_176_50 (by omega) ?_
      refine r_iload d_176_51 rfl ?_
      refine r_iadd d_176_53 (by omega) ?_
      refine r_ialoadv d_176_54 sh_230 (by omega) (by omega) hFc.1 ?_
      refine r_aload_n d_176_55 rfl (by omega) ?_
      refine r_getc (ki := 17) d_176_56 q_176_53 rfl sh_217 fx_217_17 (by omega) ?_
      refine r_bipush d_176_59 rfl ?_
      refine r_iload_n d_176_61 rfl ?_
      refine r_imul d_176_62 (by omega) ?_
      refine r_iload d_176_63 rfl ?_
      refine r_iadd d_176_65 (by omega) ?_
      refine r_ialoadv d_176_66 sh_230 (by omega) (by omega) hGc.1 ?_
      refine r_isub d_176_67 (by omega) ?_
      refine r_istore d_176_68 rfl (stl_7_6 rfl rfl) ?_
      refine r_iload d_176_70 rfl ?_
      by_cases hd : F c.toNat - G c.toNat = 0
      · refine r_if_eq (t := 78) d_176_72 rfl (fun _ => ?_) (fun hz => absurd hd hz)
        refine r_iinc d_176_78 rfl (by omega) (stl_7_5 rfl rfl) ?_
        refine r_goto (t := 33) d_176_81 rfl ?_
        exact ih _ (by rw [hs]; exact hd)
      · refine r_if_eq (t := 78) d_176_72 rfl (fun hz => absurd hz hd) (fun _ => ?_)
        refine r_iload d_176_75 rfl ?_
        refine r_iret d_176_77 rt_176 ?_
        refine ⟨?_, rfl⟩
        unfold cmpT
        rw [if_pos rfl, fdx_up (k := (c + 1).toNat) (by rw [hs]; exact hd) (by omega), hs]
  · refine r_iload_n d_176_19 rfl ?_
    refine r_iload d_176_20 rfl ?_
    refine r_icmp_eq (t := 30) d_176_22 rfl (fun hz => absurd hz (by omega)) (fun _ => ?_)
    refine r_iload_n d_176_25 rfl ?_
    refine r_iload d_176_26 rfl ?_
    refine r_isub d_176_28 (by omega) ?_
    refine r_iret d_176_29 rt_176 ?_
    refine ⟨?_, rfl⟩
    unfold cmpT
    rw [if_neg hnm]
