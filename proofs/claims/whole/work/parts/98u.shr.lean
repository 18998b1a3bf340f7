/-! The class: sharedWith. -/
section
variable {e : Nat}
def shQ (f : Nat → Nat × List Int) (F G : List (Nat × List Int)) : Nat → Nat
  | 0 => 0
  | q + 1 => shQ f F G q + (if q = 0 ∨ cmY (f q) (f (q - 1)) ≠ 0 then min (cnY F (f q)) (cnY G (f q)) else 0)
theorem cnY_le {F : List (Nat × List Int)} {t : Nat × List Int} : cnY F t ≤ F.length := List.countP_le_length
theorem shQ_le {f : Nat → Nat × List Int} {F G : List (Nat × List Int)} (hF : F.length ≤ 6) : ∀ q : Nat, shQ f F G q ≤ 6 * q
  | 0 => Nat.le_refl 0
  | q + 1 => by
    have h1 := shQ_le (f := f) (G := G) hF q
    have h2 := cnY_le (F := F) (t := f q)
    show shQ f F G q + (if q = 0 ∨ cmY (f q) (f (q - 1)) ≠ 0 then min (cnY F (f q)) (cnY G (f q)) else 0) ≤ 6 * (q + 1)
    split <;> omega
theorem c_sharedWith (he : e ≤ 1) {M : Mo} {a c : Int} (ha : shp S0 a = (1, 8)) (hc : shp S0 c = (1, 8)) {p p' : Nat} (hp6 : p ≤ 6) (hp6' : p' ≤ 6) (hcnt : M a 2 = p) (hcnt' : M c 2 = p') {r r' : Nat → Int} (hr : ∀ k : Nat, k < 6 → M (a + 1) k = r k ∧ shp S0 (r k) = (0, 3)) (hr' : ∀ k : Nat, k < 6 → M (c + 1) k = r' k ∧ shp S0 (r' k) = (0, 3)) {sz sz' : Nat → Nat} {Tm Tm' : Nat → Nat → Nat → Nat → Kf e} (hA : ∀ k : Nat, k < p → AA e M (r k) (sz k) (Tm k)) (hA' : ∀ k : Nat, k < p' → AA e M (r' k) (sz' k) (Tm' k)) : PI 24 [(2, a), (2, c)] M (shQ (tyF sz Tm) ((List.range p).map (tyF sz Tm)) ((List.range p').map (tyF sz' Tm')) p : Nat) := by
  refine Cl.intro (L := [(2, a), (2, c), (9, 0), (9, 0)]) (rcv_v ow_24.2.1 ha) (by unfold entl; rw [mx_24]; rfl) (by rw [mx_24]; exact Nat.le_of_ble_eq_true rfl) rfl ?_
  have ha0 := shF_pos ha
  have hc0 := shF_pos hc
  have hlF : ((List.range p).map (tyF sz Tm)).length ≤ 6 := by rw [List.length_map, List.length_range]; exact hp6
  refine r_iconst d_24_0 rfl ?_
  refine r_istore_n d_24_1 rfl (stl_4_2 rfl rfl) ?_
  refine r_iconst d_24_2 rfl ?_
  refine r_istore_n d_24_3 rfl (stl_4_3 rfl rfl) ?_
  refine dn_ind (R := fun b => ∀ z : Int, z = (shQ (tyF sz Tm) ((List.range p).map (tyF sz Tm)) ((List.range p').map (tyF sz' Tm')) b.toNat : Nat) → Rn 24 4 [(2, a), (2, c), (0, z), (0, b)] [] M _) (lo := 0) (n := (p : Int)) ?_ ?_ 0 (by omega) (by omega) 0 rfl
  · intro z hz
    refine r_iload_n d_24_4 rfl ?_
    refine r_aload_n d_24_5 rfl (by omega) ?_
    refine r_getfv (ki := 2) d_24_6 q_24_17 rfl ha hcnt ?_
    refine r_icmp_ge (t := 68) d_24_9 rfl (fun _ => ?_) (fun hz => absurd (by omega) hz)
    refine r_iload_n d_24_68 rfl ?_
    refine r_iret d_24_69 rt_24 ?_
    rw [Int.toNat_natCast] at hz
    rw [hz]
    exact ⟨rfl, rfl⟩
  · intro b b1 b2 ih z hz
    have hb : ((b.toNat : Nat) : Int) = b := by omega
    have hrb := hr b.toNat (by omega)
    rw [hb] at hrb
    have h0 := shA_pos hrb.2
    have hle := shQ_le (f := tyF sz Tm) (G := (List.range p').map (tyF sz' Tm')) hlF b.toNat
    have hst : shQ (tyF sz Tm) ((List.range p).map (tyF sz Tm)) ((List.range p').map (tyF sz' Tm')) (b + 1).toNat = shQ (tyF sz Tm) ((List.range p).map (tyF sz Tm)) ((List.range p').map (tyF sz' Tm')) b.toNat + (if b.toNat = 0 ∨ cmY (tyF sz Tm b.toNat) (tyF sz Tm (b.toNat - 1)) ≠ 0 then min (cnY ((List.range p).map (tyF sz Tm)) (tyF sz Tm b.toNat)) (cnY ((List.range p').map (tyF sz' Tm')) (tyF sz Tm b.toNat)) else 0) := by
      rw [show (b + 1).toNat = b.toNat + 1 by omega]
      rfl
    have hmin : (b.toNat = 0 ∨ cmY (tyF sz Tm b.toNat) (tyF sz Tm (b.toNat - 1)) ≠ 0) → Rn 24 36 [(2, a), (2, c), (0, z), (0, b)] [] M (fun v M' => v = some (0, ((shQ (tyF sz Tm) ((List.range p).map (tyF sz Tm)) ((List.range p').map (tyF sz' Tm')) p : Nat) : Int)) ∧ M' = M) := by
      intro hyes
      rw [if_pos hyes] at hst
      have hn1 := cnY_le (F := (List.range p).map (tyF sz Tm)) (t := tyF sz Tm b.toNat)
      have hc1 := c_countOf he ha hrb.2 hp6 hcnt hr hA (hA b.toNat (by omega))
      have hc2 := c_countOf he hc hrb.2 hp6' hcnt' hr' hA' (hA b.toNat (by omega))
      refine r_iload_n d_24_36 rfl ?_
      refine r_aload_n d_24_37 rfl (by omega) ?_
      refine r_aload_n d_24_38 rfl (by omega) ?_
      refine r_getc (ki := 1) d_24_39 q_24_11 rfl ha (fxF ha).2.1 (by omega) ?_
      refine r_iload_n d_24_42 rfl ?_
      refine r_aaload d_24_43 (shF1 ha) (by decide) (by omega) (by omega) (by rw [hrb.1]; exact h0) ?_
      rw [hrb.1]
      refine r_callvp d_24_44 q_24_137 rfl rfl hc1 ?_
      refine r_aload_n d_24_47 rfl (by omega) ?_
      refine r_aload_n d_24_48 rfl (by omega) ?_
      refine r_getc (ki := 1) d_24_49 q_24_11 rfl ha (fxF ha).2.1 (by omega) ?_
      refine r_iload_n d_24_52 rfl ?_
      refine r_aaload d_24_53 (shF1 ha) (by decide) (by omega) (by omega) (by rw [hrb.1]; exact h0) ?_
      rw [hrb.1]
      refine r_callvp d_24_54 q_24_137 rfl rfl hc2 ?_
      refine r_callsp d_24_57 q_24_140 rfl rfl (j_min M _ _) ?_
      have hmn : (if ((cnY ((List.range p').map (tyF sz' Tm')) (ty (sz b.toNat) (sqA (sz b.toNat) (Tm b.toNat))) : Nat) : Int) < ((cnY ((List.range p).map (tyF sz Tm)) (ty (sz b.toNat) (sqA (sz b.toNat) (Tm b.toNat))) : Nat) : Int) then ((cnY ((List.range p').map (tyF sz' Tm')) (ty (sz b.toNat) (sqA (sz b.toNat) (Tm b.toNat))) : Nat) : Int) else ((cnY ((List.range p).map (tyF sz Tm)) (ty (sz b.toNat) (sqA (sz b.toNat) (Tm b.toNat))) : Nat) : Int)) = ((min (cnY ((List.range p).map (tyF sz Tm)) (tyF sz Tm b.toNat)) (cnY ((List.range p').map (tyF sz' Tm')) (tyF sz Tm b.toNat)) : Nat) : Int) := by
        show (if ((cnY ((List.range p').map (tyF sz' Tm')) (tyF sz Tm b.toNat) : Nat) : Int) < ((cnY ((List.range p).map (tyF sz Tm)) (tyF sz Tm b.toNat) : Nat) : Int) then ((cnY ((List.range p').map (tyF sz' Tm')) (tyF sz Tm b.toNat) : Nat) : Int) else ((cnY ((List.range p).map (tyF sz Tm)) (tyF sz Tm b.toNat) : Nat) : Int)) = _
        split <;> omega
      rw [hmn]
      refine r_iadd d_24_60 (by omega) ?_
      refine r_istore_n d_24_61 rfl (stl_4_2 rfl rfl) ?_
      refine r_iinc d_24_62 rfl (by omega) (stl_4_3 rfl rfl) ?_
      refine r_goto (t := 4) d_24_65 rfl ?_
      exact ih _ (by omega)
    refine r_iload_n d_24_4 rfl ?_
    refine r_aload_n d_24_5 rfl (by omega) ?_
    refine r_getfv (ki := 2) d_24_6 q_24_17 rfl ha hcnt ?_
    refine r_icmp_ge (t := 68) d_24_9 rfl (fun hz => absurd hz (by omega)) (fun _ => ?_)
    refine r_iload_n d_24_12 rfl ?_
    by_cases hb0 : b = 0
    · refine r_if_eq (t := 36) d_24_13 rfl (fun _ => ?_) (fun hz => absurd hb0 hz)
      exact hmin (Or.inl (by omega))
    · have hrc := hr (b.toNat - 1) (by omega)
      rw [show ((b.toNat - 1 : Nat) : Int) = b - 1 by omega] at hrc
      have h1 := shA_pos hrc.2
      have hcmp := c_compares he hrb.2 hrc.2 (hA b.toNat (by omega)) (hA (b.toNat - 1) (by omega))
      have hcy : cmY (tyF sz Tm b.toNat) (tyF sz Tm (b.toNat - 1)) = cmpT (sz b.toNat) (sz (b.toNat - 1)) (sqA (sz b.toNat) (Tm b.toNat)) (sqA (sz (b.toNat - 1)) (Tm (b.toNat - 1))) := cmY_ty
      rw [← hcy] at hcmp
      refine r_if_eq (t := 36) d_24_13 rfl (fun hz => absurd hz hb0) (fun _ => ?_)
      refine r_aload_n d_24_16 rfl (by omega) ?_
      refine r_getc (ki := 1) d_24_17 q_24_11 rfl ha (fxF ha).2.1 (by omega) ?_
      refine r_iload_n d_24_20 rfl ?_
      refine r_aaload d_24_21 (shF1 ha) (by decide) (by omega) (by omega) (by rw [hrb.1]; exact h0) ?_
      rw [hrb.1]
      refine r_aload_n d_24_22 rfl (by omega) ?_
      refine r_getc (ki := 1) d_24_23 q_24_11 rfl ha (fxF ha).2.1 (by omega) ?_
      refine r_iload_n d_24_26 rfl ?_
      refine r_iconst d_24_27 rfl ?_
      refine r_isub d_24_28 (by omega) ?_
      refine r_aaload d_24_29 (shF1 ha) (by decide) (by omega) (by omega) (by rw [hrc.1]; exact h1) ?_
      rw [hrc.1]
      refine r_callvp d_24_30 q_24_71 rfl rfl hcmp ?_
      by_cases w : cmY (tyF sz Tm b.toNat) (tyF sz Tm (b.toNat - 1)) = 0
      · rw [if_neg (fun k => k.elim (fun k => by omega) (fun k => k w))] at hst
        refine r_if_eq (t := 62) d_24_33 rfl (fun _ => ?_) (fun hz => absurd (sgn_0.mpr w) hz)
        refine r_iinc d_24_62 rfl (by omega) (stl_4_3 rfl rfl) ?_
        refine r_goto (t := 4) d_24_65 rfl ?_
        exact ih _ (by omega)
      · refine r_if_eq (t := 62) d_24_33 rfl (fun hz => absurd hz (fun k => w (sgn_0.mp k))) (fun _ => ?_)
        exact hmin (Or.inr w)
end
