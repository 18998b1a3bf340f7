/-! The class: countOf. -/
section
variable {e : Nat}
def tyF (sz : Nat → Nat) (Tm : Nat → Nat → Nat → Nat → Kf e) (k : Nat) : Nat × List Int := ty (sz k) (sqA (sz k) (Tm k))
theorem sgn_0 {z : Int} : sgn z = 0 ↔ z = 0 := by
  unfold sgn
  split
  · constructor <;> intro h <;> omega
  · split
    · constructor <;> intro h <;> omega
    · constructor <;> intro h <;> omega
theorem cnY_s {f : Nat → Nat × List Int} {t : Nat × List Int} {q : Nat} : cnY ((List.range (q + 1)).map f) t = cnY ((List.range q).map f) t + (if cmY (f q) t = 0 then 1 else 0) := by
  rw [List.range_succ]
  unfold cnY
  rw [List.map_append, List.countP_append, List.map_singleton, List.countP_singleton]
  by_cases w : cmY (f q) t = 0
  · rw [if_pos w, decide_eq_true w]
    rfl
  · rw [if_neg w, decide_eq_false w]
    rfl
theorem c_countOf (he : e ≤ 1) {M : Mo} {a c : Int} (ha : shp S0 a = (1, 8)) (hc : shp S0 c = (0, 3)) {p : Nat} (hp6 : p ≤ 6) (hcnt : M a 2 = p) {r : Nat → Int} (hr : ∀ k : Nat, k < 6 → M (a + 1) k = r k ∧ shp S0 (r k) = (0, 3)) {sz : Nat → Nat} {Tm : Nat → Nat → Nat → Nat → Kf e} (hA : ∀ k : Nat, k < p → AA e M (r k) (sz k) (Tm k)) {m : Nat} {C : Nat → Nat → Nat → Kf e} (hC : AA e M c m C) : PI 23 [(2, a), (2, c)] M (cnY ((List.range p).map (tyF sz Tm)) (ty m (sqA m C)) : Nat) := by
  refine Cl.intro (L := [(2, a), (2, c), (9, 0), (9, 0)]) (rcv_v ow_23.2.1 ha) (by unfold entl; rw [mx_23]; rfl) (by rw [mx_23]; exact Nat.le_of_ble_eq_true rfl) rfl ?_
  have ha0 := shF_pos ha
  have hc0 := shA_pos hc
  refine r_iconst d_23_0 rfl ?_
  refine r_istore_n d_23_1 rfl (stl_4_2 rfl rfl) ?_
  refine r_iconst d_23_2 rfl ?_
  refine r_istore_n d_23_3 rfl (stl_4_3 rfl rfl) ?_
  refine dn_ind (R := fun b => ∀ z : Int, z = (cnY ((List.range b.toNat).map (tyF sz Tm)) (ty m (sqA m C)) : Nat) → z ≤ b → Rn 23 4 [(2, a), (2, c), (0, z), (0, b)] [] M _) (lo := 0) (n := (p : Int)) ?_ ?_ 0 (by omega) (by omega) 0 rfl (by omega)
  · intro z hz _
    refine r_iload_n d_23_4 rfl ?_
    refine r_aload_n d_23_5 rfl (by omega) ?_
    refine r_getfv (ki := 2) d_23_6 q_23_17 rfl ha hcnt ?_
    refine r_icmp_ge (t := 39) d_23_9 rfl (fun _ => ?_) (fun hz => absurd (by omega) hz)
    refine r_iload_n d_23_39 rfl ?_
    refine r_iret d_23_40 rt_23 ?_
    rw [Int.toNat_natCast] at hz
    rw [hz]
    exact ⟨rfl, rfl⟩
  · intro b b1 b2 ih z hz hzb
    have hb : ((b.toNat : Nat) : Int) = b := by omega
    have hrb := hr b.toNat (by omega)
    rw [hb] at hrb
    have h0 := shA_pos hrb.2
    have hcmp := c_compares he hrb.2 hc (hA b.toNat (by omega)) hC
    have hst := cnY_s (f := tyF sz Tm) (t := ty m (sqA m C)) (q := b.toNat)
    rw [show b.toNat + 1 = (b + 1).toNat by omega] at hst
    have hcy : cmY (tyF sz Tm b.toNat) (ty m (sqA m C)) = cmpT (sz b.toNat) m (sqA (sz b.toNat) (Tm b.toNat)) (sqA m C) := cmY_ty
    rw [← hcy] at hcmp
    refine r_iload_n d_23_4 rfl ?_
    refine r_aload_n d_23_5 rfl (by omega) ?_
    refine r_getfv (ki := 2) d_23_6 q_23_17 rfl ha hcnt ?_
    refine r_icmp_ge (t := 39) d_23_9 rfl (fun hz => absurd hz (by omega)) (fun _ => ?_)
    refine r_iload_n d_23_12 rfl ?_
    refine r_aload_n d_23_13 rfl (by omega) ?_
    refine r_getc (ki := 1) d_23_14 q_23_11 rfl ha (fxF ha).2.1 (by omega) ?_
    refine r_iload_n d_23_17 rfl ?_
    refine r_aaload d_23_18 (shF1 ha) (by decide) (by omega) (by omega) (by rw [hrb.1]; exact h0) ?_
    rw [hrb.1]
    refine r_aload_n d_23_19 rfl (by omega) ?_
    refine r_callvp d_23_20 q_23_71 rfl rfl hcmp ?_
    by_cases w : cmY (tyF sz Tm b.toNat) (ty m (sqA m C)) = 0
    · rw [if_pos w] at hst
      refine r_if_ne (t := 30) d_23_23 rfl (fun hz => absurd hz (fun k => k (sgn_0.mpr w))) (fun _ => ?_)
      refine r_iconst d_23_26 rfl ?_
      refine r_goto (t := 31) d_23_27 rfl ?_
      refine r_iadd d_23_31 (by omega) ?_
      refine r_istore_n d_23_32 rfl (stl_4_2 rfl rfl) ?_
      refine r_iinc d_23_33 rfl (by omega) (stl_4_3 rfl rfl) ?_
      refine r_goto (t := 4) d_23_36 rfl ?_
      exact ih _ (by omega) (by omega)
    · rw [if_neg w] at hst
      refine r_if_ne (t := 30) d_23_23 rfl (fun _ => ?_) (fun hz => absurd (fun k => w (sgn_0.mp k)) hz)
      refine r_iconst d_23_30 rfl ?_
      refine r_iadd d_23_31 (by omega) ?_
      refine r_istore_n d_23_32 rfl (stl_4_2 rfl rfl) ?_
      refine r_iinc d_23_33 rfl (by omega) (stl_4_3 rfl rfl) ?_
      refine r_goto (t := 4) d_23_36 rfl ?_
      exact ih _ (by omega) (by omega)
end
