/-! The model: isLess. -/
theorem m_isLess {M : Mo} {n : Nat} (hn : n ≤ 6) {p : Int} (hp : 0 ≤ p ∧ p ≤ 360) {F G : Nat → Int} (hF : ∀ c : Nat, c < 2 * (n * n) → M 232 c = F c) (hG : ∀ c : Nat, c < 2 * (n * n) → M 230 (p + c) = G c) : PI 174 [(2, 217), (0, (n : Int)), (0, p)] M (if fdx F G (2 * (n * n)) < 0 then 1 else 0) := by
  refine Cl.intro (L := [(2, 217), (0, (n : Int)), (0, p), (9, 0)]) (rcv_v ow_174.2.1 sh_217) (by unfold entl; rw [mx_174]; rfl) (by rw [mx_174]; exact Nat.le_of_ble_eq_true rfl) rfl ?_
  have hnn : (n : Int) * (n : Int) = ((n * n : Nat) : Int) := (Int.natCast_mul n n).symm
  have h2nn : 2 * (n : Int) * (n : Int) = ((2 * (n * n) : Nat) : Int) := by
    rw [Int.mul_assoc, hnn]
    omega
  have h36 : n * n ≤ 36 := Nat.mul_le_mul hn hn
  refine r_iconst d_174_0 rfl ?_
  refine r_istore_n d_174_1 rfl (stl_4_3 rfl rfl) ?_
  refine dn_ind (R := fun c => fdx F G c.toNat = 0 → Rn 174 2 [(2, 217), (0, (n : Int)), (0, p), (0, c)] [] M _) (lo := 0) (n := ((2 * (n * n) : Nat) : Int)) ?_ ?_ 0 (by omega) (by omega) rfl
  · intro hz
    rw [Int.toNat_natCast] at hz
    rw [hz, if_neg (by omega)]
    refine r_iload_n d_174_2 rfl ?_
    refine r_iconst d_174_3 rfl ?_
    refine r_iload_n d_174_4 rfl ?_
    refine r_imul d_174_5 (by omega) ?_
    refine r_iload_n d_174_6 rfl ?_
    refine r_imul d_174_7 (mr (a := 12) (b := 6) (by omega) (by omega) (by decide)) ?_
    rw [h2nn]
    refine r_icmp_ge (t := 34) d_174_8 rfl (fun _ => ?_) (fun hz => absurd (by omega) hz)
    refine r_iload_n d_174_34 rfl ?_
    refine r_iconst d_174_35 rfl ?_
    refine r_iload_n d_174_36 rfl ?_
    refine r_imul d_174_37 (by omega) ?_
    refine r_iload_n d_174_38 rfl ?_
    refine r_imul d_174_39 (mr (a := 12) (b := 6) (by omega) (by omega) (by decide)) ?_
    rw [h2nn]
    refine r_icmp_ge (t := 64) d_174_40 rfl (fun _ => ?_) (fun hz => absurd (by omega) hz)
    refine r_iconst d_174_64 rfl ?_
    refine r_zret d_174_65 rt_174 (by omega) ?_
    exact ⟨rfl, rfl⟩
  · intro c c1 c2 ih hz
    have hFc := hF c.toNat (by omega)
    have hGc := hG c.toNat (by omega)
    rw [show ((c.toNat : Nat) : Int) = c by omega] at hFc hGc
    have hs : fdx F G (c + 1).toNat = F c.toNat - G c.toNat := by
      rw [show (c + 1).toNat = c.toNat + 1 by omega]
      conv => lhs; unfold fdx
      rw [if_neg (fun q => q hz)]
    refine r_iload_n d_174_2 rfl ?_
    refine r_iconst d_174_3 rfl ?_
    refine r_iload_n d_174_4 rfl ?_
    refine r_imul d_174_5 (by omega) ?_
    refine r_iload_n d_174_6 rfl ?_
    refine r_imul d_174_7 (mr (a := 12) (b := 6) (by omega) (by omega) (by decide)) ?_
    rw [h2nn]
    refine r_icmp_ge (t := 34) d_174_8 rfl (fun hz => absurd hz (by omega)) (fun _ => ?_)
    refine r_aload_n d_174_11 rfl (by omega) ?_
    refine r_getc (ki := 19) d_174_12 q_174_59 rfl sh_217 fx_217_19 (by omega) ?_
    refine r_iload_n d_174_15 rfl ?_
    refine r_ialoadv d_174_16 sh_232 (by omega) (by omega) hFc ?_
    refine r_aload_n d_174_17 rfl (by omega) ?_
    refine r_getc (ki := 17) d_174_18 q_174_53 rfl sh_217 fx_217_17 (by omega) ?_
    refine r_iload_n d_174_21 rfl ?_
    refine r_iload_n d_174_22 rfl ?_
    refine r_iadd d_174_23 (by omega) ?_
    refine r_ialoadv d_174_24 sh_230 (by omega) (by omega) hGc ?_
    by_cases hd : F c.toNat = G c.toNat
    · refine r_icmp_ne (t := 34) d_174_25 rfl (fun hz => absurd hz (by omega)) (fun _ => ?_)
      refine r_iinc d_174_28 rfl (by omega) (stl_4_3 rfl rfl) ?_
      refine r_goto (t := 2) d_174_31 rfl ?_
      exact ih (by rw [hs]; omega)
    · have hfin : fdx F G (2 * (n * n)) = F c.toNat - G c.toNat := by
        rw [fdx_up (k := (c + 1).toNat) (by rw [hs]; omega) (by omega), hs]
      rw [hfin]
      refine r_icmp_ne (t := 34) d_174_25 rfl (fun _ => ?_) (fun hz => absurd hd hz)
      refine r_iload_n d_174_34 rfl ?_
      refine r_iconst d_174_35 rfl ?_
      refine r_iload_n d_174_36 rfl ?_
      refine r_imul d_174_37 (by omega) ?_
      refine r_iload_n d_174_38 rfl ?_
      refine r_imul d_174_39 (mr (a := 12) (b := 6) (by omega) (by omega) (by decide)) ?_
      rw [h2nn]
      refine r_icmp_ge (t := 64) d_174_40 rfl (fun hz => absurd hz (by omega)) (fun _ => ?_)
      refine r_aload_n d_174_43 rfl (by omega) ?_
      refine r_getc (ki := 19) d_174_44 q_174_59 rfl sh_217 fx_217_19 (by omega) ?_
      refine r_iload_n d_174_47 rfl ?_
      refine r_ialoadv d_174_48 sh_232 (by omega) (by omega) hFc ?_
      refine r_aload_n d_174_49 rfl (by omega) ?_
      refine r_getc (ki := 17) d_174_50 q_174_53 rfl sh_217 fx_217_17 (by omega) ?_
      refine r_iload_n d_174_53 rfl ?_
      refine r_iload_n d_174_54 rfl ?_
      refine r_iadd d_174_55 (by omega) ?_
      refine r_ialoadv d_174_56 sh_230 (by omega) (by omega) hGc ?_
      by_cases hlt : F c.toNat < G c.toNat
      · rw [if_pos (by omega)]
        refine r_icmp_ge (t := 64) d_174_57 rfl (fun hz => absurd hz (by omega)) (fun _ => ?_)
        refine r_iconst d_174_60 rfl ?_
        refine r_goto (t := 65) d_174_61 rfl ?_
        refine r_zret d_174_65 rt_174 (by omega) ?_
        exact ⟨rfl, rfl⟩
      · rw [if_neg (by omega)]
        refine r_icmp_ge (t := 64) d_174_57 rfl (fun _ => ?_) (fun hz => absurd (by omega) hz)
        refine r_iconst d_174_64 rfl ?_
        refine r_zret d_174_65 rt_174 (by omega) ?_
        exact ⟨rfl, rfl⟩
