/-! The model: bits. -/
theorem shr_f : ∀ x : Fin 64, ∀ k : Fin 8, (Int32.ofInt (x.val : Int) >>> (Int32.ofInt (k.val : Int) &&& 31)).toInt = ((x.val / 2 ^ k.val : Nat) : Int) := by decide +kernel
theorem and1_f : ∀ x : Fin 64, (Int32.ofInt (x.val : Int) &&& Int32.ofInt 1).toInt = ((x.val % 2 : Nat) : Int) := by decide +kernel
theorem shr_ok {x k : Nat} (hx : x < 64) (hk : k < 8) : (Int32.ofInt (x : Int) >>> (Int32.ofInt (k : Int) &&& 31)).toInt = ((x / 2 ^ k : Nat) : Int) := shr_f ⟨x, hx⟩ ⟨k, hk⟩
theorem and1_ok {x : Nat} (hx : x < 64) : (Int32.ofInt (x : Int) &&& Int32.ofInt 1).toInt = ((x % 2 : Nat) : Int) := and1_f ⟨x, hx⟩
def bt (x k : Nat) : Nat := x / 2 ^ k % 2
def pop (x : Nat) : Int := sm (fun k => (bt x k : Int)) 6
theorem m_ones (M : Mo) {x : Nat} (hx : x < 64) : PI 208 [(0, (x : Int))] M (pop x) := by
  refine Cl.intro (L := [(0, (x : Int)), (9, 0), (9, 0)]) (rcv_s ow_208.1) (by unfold entl; rw [mx_208]; rfl) (by rw [mx_208]; exact Nat.le_of_ble_eq_true rfl) rfl ?_
  refine r_iconst d_208_0 rfl ?_
  refine r_istore_n d_208_1 rfl (stl_3_1 rfl rfl) ?_
  refine r_iconst d_208_2 rfl ?_
  refine r_istore_n d_208_3 rfl (stl_3_2 rfl rfl) ?_
  refine dn_ind (R := fun k => ∀ s : Int, s = sm (fun k => (bt x k : Int)) k.toNat → 0 ≤ s ∧ s ≤ k → Rn 208 4 [(0, (x : Int)), (0, s), (0, k)] [] M _) (lo := 0) (n := 6) ?_ ?_ 0 (by omega) (by omega) 0 rfl (by omega)
  · intro s hs hb
    refine r_iload_n d_208_4 rfl ?_
    refine r_bipush d_208_5 rfl ?_
    refine r_icmp_ge (t := 24) d_208_7 rfl (fun _ => ?_) (fun hz => absurd (by omega) hz)
    refine r_iload_n d_208_24 rfl ?_
    refine r_iret d_208_25 rt_208 ?_
    exact ⟨by rw [hs]; rfl, rfl⟩
  · intro k k1 k2 ih s hs hb
    have hle : x / 2 ^ k.toNat ≤ x := Nat.div_le_self _ _
    have hsh := shr_ok hx (k := k.toNat) (by omega)
    rw [show ((k.toNat : Nat) : Int) = k by omega] at hsh
    have hb1 : bt x k.toNat < 2 := Nat.mod_lt _ (by omega)
    refine r_iload_n d_208_4 rfl ?_
    refine r_bipush d_208_5 rfl ?_
    refine r_icmp_ge (t := 24) d_208_7 rfl (fun hz => absurd hz (by omega)) (fun _ => ?_)
    refine r_iload_n d_208_10 rfl ?_
    refine r_iload_n d_208_11 rfl ?_
    refine r_iload_n d_208_12 rfl ?_
    refine r_ishr d_208_13 hsh ?_
    refine r_iconst d_208_14 rfl ?_
    refine r_iand d_208_15 (and1_ok (x := x / 2 ^ k.toNat) (by omega)) ?_
    have hbt : x / 2 ^ k.toNat % 2 = bt x k.toNat := rfl
    rw [hbt]
    refine r_iadd d_208_16 (by omega) ?_
    refine r_istore_n d_208_17 rfl (stl_3_1 rfl rfl) ?_
    refine r_iinc d_208_18 rfl (by omega) (stl_3_2 rfl rfl) ?_
    refine r_goto (t := 4) d_208_21 rfl ?_
    refine ih _ ?_ (by omega)
    rw [show (k + 1).toNat = k.toNat + 1 by omega, hs]
    rfl
