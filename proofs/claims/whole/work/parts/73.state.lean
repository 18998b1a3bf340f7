/-! The class: its state; what is kept. -/
theorem shK_f : ∀ i : Fin 32, shp S0 (11 + 2 * (i.val : Int)) = (0, 3) := by decide +kernel
theorem shM_f : ∀ i : Fin 4, shp S0 (209 + 2 * (i.val : Int)) = (0, 3) := by decide +kernel
theorem shK {i : Nat} (h : i < 32) : shp S0 (11 + 2 * (i : Int)) = (0, 3) := shK_f ⟨i, h⟩
theorem shM {i : Nat} (h : i < 4) : shp S0 (209 + 2 * (i : Int)) = (0, 3) := shM_f ⟨i, h⟩
theorem fxK {i : Int} (h0 : 0 ≤ i) (h1 : i < 32) : fx 10 i = some (11 + 2 * i) := by
  unfold fx
  rw [sh_10, if_pos ⟨h0, h1⟩]
  rfl
theorem fxM {i : Int} (h0 : 0 ≤ i) (h1 : i < 4) : fx 2 i = some (209 + 2 * i) := by
  unfold fx
  rw [sh_2, if_pos ⟨h0, h1⟩]
  rfl
def cuC (M : Mo) (s : Sst) : Prop := M 1 0 = pI s.1 ∧ ∀ k : Nat, k < 4 → AA s.1 M (209 + 2 * k) (s.2.1 k) (mdA s k)
def keC (M : Mo) (r : Nat) (s : Sst) : Prop := M 9 r = pI s.1 ∧ ∀ k : Nat, k < 4 → AA s.1 M (11 + 2 * ((4 * r + k : Nat) : Int)) (s.2.1 k) (mdA s k)
def hiC (M : Mo) (H : List Sst) : Prop := ∃ q : Nat, M 8 2 = q ∧ q < 8 ∧ M 8 1 = H.length ∧ H.length ≤ 8 ∧ (∀ s ∈ H, vs s) ∧ ∀ i : Nat, i < H.length → keC M ((q + 8 - H.length + i) % 8) (H.getD i s00)
/-- scratch of the class -/
def WX (x _ : Int) : Prop := (3 ≤ x ∧ x ≤ 7) ∨ (78 ≤ x ∧ x ≤ 208 ∧ x ≠ 82 ∧ x ≠ 107)
/-- what is kept -/
def WH (x y : Int) : Prop := (x = 8 ∧ (y = 1 ∨ y = 2)) ∨ (9 ≤ x ∧ x ≤ 74)
def WZ (x y : Int) : Prop := WX x y ∨ WH x y ∨ (x = 1 ∧ y = 0) ∨ (209 ≤ x ∧ x ≤ 216)
def chC (M M' : Mo) (s' : Sst) (H' : List Sst) : Prop := Fr WZ M M' ∧ cuC M' s' ∧ hiC M' H'
def cbC (M : Mo) : Prop := ∀ i : Int, 11 ≤ i → i ≤ 13 → -1 ≤ M 0 i ∧ M 0 i < 2000000000
theorem cuC.fr {M M' : Mo} {s : Sst} {P : Int → Int → Prop} (h : cuC M s) (hF : Fr P M M') (hP : ∀ x y, P x y → ¬ (x = 1 ∧ y = 0) ∧ ¬ (209 ≤ x ∧ x ≤ 216)) : cuC M' s := ⟨(hF _ _ (fun q => (hP _ _ q).1 ⟨rfl, rfl⟩)).trans h.1, fun k hk => (h.2 k hk).fr hF (fun x y h1 h2 => by
  have := hP x y h2
  unfold WA at h1
  omega)⟩
theorem keC.fr {M M' : Mo} {s : Sst} {r : Nat} (hr : r < 8) {P : Int → Int → Prop} (h : keC M r s) (hF : Fr P M M') (hP : ∀ x y, P x y → ¬ (x = 9 ∧ y = r) ∧ ¬ (11 + 8 * (r : Int) ≤ x ∧ x < 11 + 8 * (r : Int) + 8)) : keC M' r s := ⟨(hF _ _ (fun q => (hP _ _ q).1 ⟨rfl, rfl⟩)).trans h.1, fun k hk => (h.2 k hk).fr hF (fun x y h1 h2 => by
  have := hP x y h2
  unfold WA at h1
  omega)⟩
theorem hiC.fr {M M' : Mo} {H : List Sst} {P : Int → Int → Prop} (h : hiC M H) (hF : Fr P M M') (hP : ∀ x y, P x y → ¬ (8 ≤ x ∧ x ≤ 74)) : hiC M' H := by
  obtain ⟨q, h1, h2, h3, h4, h5, h6⟩ := h
  refine ⟨q, (hF _ _ (fun z => hP _ _ z (by omega))).trans h1, h2, (hF _ _ (fun z => hP _ _ z (by omega))).trans h3, h4, h5, fun i hi => (h6 i hi).fr (by omega) hF (fun x y z => ?_)⟩
  have := hP x y z
  omega
theorem c_fails_b (M : Mo) (h : cbC M) : PJ 107 [(2, 0), (0, -2)] M (-2) (up2 M 0 11 (M 0 11 + 1)) := by
  have hb := h 11 (by omega) (by omega)
  refine Cl.intro (L := [(2, 0), (0, -2)]) (rcv_v ow_107.2.1 sh_0) (by unfold entl; rw [mx_107]; rfl) (by rw [mx_107]; exact Nat.le_of_ble_eq_true rfl) rfl ?_
  refine r_iload_n d_107_0 rfl ?_
  refine r_bipush d_107_1 rfl ?_
  refine r_icmp_ne (t := 19) d_107_3 rfl (fun hz => absurd hz (fun q => q rfl)) (fun _ => ?_)
  refine r_aload_n d_107_6 rfl (by omega) ?_
  refine r_dup d_107_7 rfl ?_
  refine r_getf (ki := 11) d_107_8 q_107_81 rfl sh_0 ?_
  refine r_iconst d_107_11 rfl ?_
  refine r_iadd d_107_12 (by omega) ?_
  refine r_putf (ki := 11) d_107_13 q_107_81 rfl sh_0 fx_0_11 ?_
  refine r_goto (t := 48) d_107_16 rfl ?_
  refine r_iload_n d_107_48 rfl ?_
  refine r_iret d_107_49 rt_107 ?_
  exact ⟨rfl, rfl⟩
theorem c_fails_n (M : Mo) (h : cbC M) : PJ 107 [(2, 0), (0, -3)] M (-3) (up2 M 0 12 (M 0 12 + 1)) := by
  have hb := h 12 (by omega) (by omega)
  refine Cl.intro (L := [(2, 0), (0, -3)]) (rcv_v ow_107.2.1 sh_0) (by unfold entl; rw [mx_107]; rfl) (by rw [mx_107]; exact Nat.le_of_ble_eq_true rfl) rfl ?_
  refine r_iload_n d_107_0 rfl ?_
  refine r_bipush d_107_1 rfl ?_
  refine r_icmp_ne (t := 19) d_107_3 rfl (fun _ => ?_) (fun hz => absurd (by decide) hz)
  refine r_iload_n d_107_19 rfl ?_
  refine r_bipush d_107_20 rfl ?_
  refine r_icmp_ne (t := 38) d_107_22 rfl (fun hz => absurd hz (fun q => q rfl)) (fun _ => ?_)
  refine r_aload_n d_107_25 rfl (by omega) ?_
  refine r_dup d_107_26 rfl ?_
  refine r_getf (ki := 12) d_107_27 q_107_85 rfl sh_0 ?_
  refine r_iconst d_107_30 rfl ?_
  refine r_iadd d_107_31 (by omega) ?_
  refine r_putf (ki := 12) d_107_32 q_107_85 rfl sh_0 fx_0_12 ?_
  refine r_goto (t := 48) d_107_35 rfl ?_
  refine r_iload_n d_107_48 rfl ?_
  refine r_iret d_107_49 rt_107 ?_
  exact ⟨rfl, rfl⟩
theorem c_fails_f (M : Mo) (h : cbC M) : PJ 107 [(2, 0), (0, -4)] M (-4) (up2 M 0 13 (M 0 13 + 1)) := by
  have hb := h 13 (by omega) (by omega)
  refine Cl.intro (L := [(2, 0), (0, -4)]) (rcv_v ow_107.2.1 sh_0) (by unfold entl; rw [mx_107]; rfl) (by rw [mx_107]; exact Nat.le_of_ble_eq_true rfl) rfl ?_
  refine r_iload_n d_107_0 rfl ?_
  refine r_bipush d_107_1 rfl ?_
  refine r_icmp_ne (t := 19) d_107_3 rfl (fun _ => ?_) (fun hz => absurd (by decide) hz)
  refine r_iload_n d_107_19 rfl ?_
  refine r_bipush d_107_20 rfl ?_
  refine r_icmp_ne (t := 38) d_107_22 rfl (fun _ => ?_) (fun hz => absurd (by decide) hz)
  refine r_aload_n d_107_38 rfl (by omega) ?_
  refine r_dup d_107_39 rfl ?_
  refine r_getf (ki := 13) d_107_40 q_107_88 rfl sh_0 ?_
  refine r_iconst d_107_43 rfl ?_
  refine r_iadd d_107_44 (by omega) ?_
  refine r_putf (ki := 13) d_107_45 q_107_88 rfl sh_0 fx_0_13 ?_
  refine r_iload_n d_107_48 rfl ?_
  refine r_iret d_107_49 rt_107 ?_
  exact ⟨rfl, rfl⟩
theorem c_isModule (M : Mo) (k : Int) : PI 109 [(2, 0), (0, k)] M (if 0 ≤ k ∧ k ≤ 3 then 1 else 0) := by
  refine Cl.intro (L := [(2, 0), (0, k)]) (rcv_v ow_109.2.1 sh_0) (by unfold entl; rw [mx_109]; rfl) (by rw [mx_109]; exact Nat.le_of_ble_eq_true rfl) rfl ?_
  refine r_iload_n d_109_0 rfl ?_
  refine r_if_lt (t := 13) d_109_1 rfl (fun h => ?_) (fun h => ?_)
  · refine r_iconst d_109_13 rfl ?_
    refine r_zret d_109_14 rt_109 (by omega) ?_
    exact ⟨by rw [if_neg (by omega)], rfl⟩
  · refine r_iload_n d_109_4 rfl ?_
    refine r_iconst d_109_5 rfl ?_
    refine r_icmp_ge (t := 13) d_109_6 rfl (fun h2 => ?_) (fun h2 => ?_)
    · refine r_iconst d_109_13 rfl ?_
      refine r_zret d_109_14 rt_109 (by omega) ?_
      exact ⟨by rw [if_neg (by omega)], rfl⟩
    · refine r_iconst d_109_9 rfl ?_
      refine r_goto (t := 14) d_109_10 rfl ?_
      refine r_zret d_109_14 rt_109 (by omega) ?_
      exact ⟨by rw [if_pos (by omega)], rfl⟩
theorem c_isMatrix (M : Mo) (g : Int) : PI 110 [(2, 0), (0, g)] M (if 0 ≤ g ∧ g ≤ 1 then 1 else 0) := by
  refine Cl.intro (L := [(2, 0), (0, g)]) (rcv_v ow_110.2.1 sh_0) (by unfold entl; rw [mx_110]; rfl) (by rw [mx_110]; exact Nat.le_of_ble_eq_true rfl) rfl ?_
  refine r_iload_n d_110_0 rfl ?_
  refine r_if_eq (t := 9) d_110_1 rfl (fun h => ?_) (fun h => ?_)
  · refine r_iconst d_110_9 rfl ?_
    refine r_goto (t := 14) d_110_10 rfl ?_
    refine r_zret d_110_14 rt_110 (by omega) ?_
    exact ⟨by rw [if_pos (by omega)], rfl⟩
  · refine r_iload_n d_110_4 rfl ?_
    refine r_iconst d_110_5 rfl ?_
    refine r_icmp_ne (t := 13) d_110_6 rfl (fun h2 => ?_) (fun h2 => ?_)
    · refine r_iconst d_110_13 rfl ?_
      refine r_zret d_110_14 rt_110 (by omega) ?_
      exact ⟨by rw [if_neg (by omega)], rfl⟩
    · refine r_iconst d_110_9 rfl ?_
      refine r_goto (t := 14) d_110_10 rfl ?_
      refine r_zret d_110_14 rt_110 (by omega) ?_
      exact ⟨by rw [if_pos (by omega)], rfl⟩
theorem c_isElement (M : Mo) {p : Int} (hp : M 1 0 = p) (v : Int) : PI 111 [(2, 0), (0, v)] M (if 0 ≤ v ∧ v ≤ p - 1 then 1 else 0) := by
  refine Cl.intro (L := [(2, 0), (0, v)]) (rcv_v ow_111.2.1 sh_0) (by unfold entl; rw [mx_111]; rfl) (by rw [mx_111]; exact Nat.le_of_ble_eq_true rfl) rfl ?_
  refine r_iload_n d_111_0 rfl ?_
  refine r_if_lt (t := 19) d_111_1 rfl (fun h => ?_) (fun h => ?_)
  · refine r_iconst d_111_19 rfl ?_
    refine r_zret d_111_20 rt_111 (by omega) ?_
    exact ⟨by rw [if_neg (by omega)], rfl⟩
  · refine r_iload_n d_111_4 rfl ?_
    refine r_aload_n d_111_5 rfl (by omega) ?_
    refine r_getc (ki := 0) d_111_6 q_111_10 rfl sh_0 fx_0_0 (by omega) ?_
    refine r_getfv (ki := 0) d_111_9 q_111_99 rfl sh_1 hp ?_
    refine r_icmp_ge (t := 19) d_111_12 rfl (fun h2 => ?_) (fun h2 => ?_)
    · refine r_iconst d_111_19 rfl ?_
      refine r_zret d_111_20 rt_111 (by omega) ?_
      exact ⟨by rw [if_neg (by omega)], rfl⟩
    · refine r_iconst d_111_15 rfl ?_
      refine r_goto (t := 20) d_111_16 rfl ?_
      refine r_zret d_111_20 rt_111 (by omega) ?_
      exact ⟨by rw [if_pos (by omega)], rfl⟩
theorem cuC.sz {M : Mo} {s : Sst} (h : cuC M s) {k : Int} (h0 : 0 ≤ k) (h1 : k ≤ 3) : M (209 + 2 * k) 1 = s.2.1 k.toNat ∧ shp S0 (209 + 2 * k) = (0, 3) := by
  obtain ⟨n, rfl⟩ : ∃ n : Nat, k = n := ⟨k.toNat, by omega⟩
  exact ⟨(h.2 n (by omega)).1, shM (by omega)⟩
theorem c_isPlace {M : Mo} {s : Sst} (hc : cuC M s) (k i : Int) : PI 112 [(2, 0), (0, k), (0, i)] M (if (0 ≤ k ∧ k ≤ 3) ∧ 0 ≤ i ∧ i < s.2.1 k.toNat then 1 else 0) := by
  refine Cl.intro (L := [(2, 0), (0, k), (0, i)]) (rcv_v ow_112.2.1 sh_0) (by unfold entl; rw [mx_112]; rfl) (by rw [mx_112]; exact Nat.le_of_ble_eq_true rfl) rfl ?_
  refine r_aload_n d_112_0 rfl (by omega) ?_
  refine r_iload_n d_112_1 rfl ?_
  refine r_callvp d_112_2 q_112_106 rfl rfl (c_isModule M k) ?_
  by_cases hk : 0 ≤ k ∧ k ≤ 3
  · rw [if_pos hk]
    obtain ⟨hs, hsh⟩ := hc.sz hk.1 hk.2
    refine r_if_eq (t := 29) d_112_5 rfl (fun hz => absurd hz (by decide)) (fun _ => ?_)
    refine r_iload_n d_112_8 rfl ?_
    refine r_if_lt (t := 29) d_112_9 rfl (fun h => ?_) (fun h => ?_)
    · refine r_iconst d_112_29 rfl ?_
      refine r_zret d_112_30 rt_112 (by omega) ?_
      exact ⟨by rw [if_neg (by omega)], rfl⟩
    · refine r_iload_n d_112_12 rfl ?_
      refine r_aload_n d_112_13 rfl (by omega) ?_
      refine r_getc (ki := 1) d_112_14 q_112_18 rfl sh_0 fx_0_1 (by omega) ?_
      refine r_iload_n d_112_17 rfl ?_
      refine r_aaloadc d_112_18 sh_2 (by decide) (by omega) (by omega) (fxM hk.1 (by omega)) (by omega) ?_
      refine r_getfv (ki := 1) d_112_19 q_112_149 rfl hsh hs ?_
      refine r_icmp_ge (t := 29) d_112_22 rfl (fun h2 => ?_) (fun h2 => ?_)
      · refine r_iconst d_112_29 rfl ?_
        refine r_zret d_112_30 rt_112 (by omega) ?_
        exact ⟨by rw [if_neg (by omega)], rfl⟩
      · refine r_iconst d_112_25 rfl ?_
        refine r_goto (t := 30) d_112_26 rfl ?_
        refine r_zret d_112_30 rt_112 (by omega) ?_
        exact ⟨by rw [if_pos (by omega)], rfl⟩
  · rw [if_neg hk]
    refine r_if_eq (t := 29) d_112_5 rfl (fun _ => ?_) (fun hz => absurd rfl hz)
    refine r_iconst d_112_29 rfl ?_
    refine r_zret d_112_30 rt_112 (by omega) ?_
    exact ⟨by rw [if_neg (fun q => hk q.1)], rfl⟩
theorem c_isEntry {M : Mo} {s : Sst} (hc : cuC M s) (k g i j : Int) : PI 113 [(2, 0), (0, k), (0, g), (0, i), (0, j)] M (ifp (okE s k g i j) 1 0) := by
  refine Cl.intro (L := [(2, 0), (0, k), (0, g), (0, i), (0, j)]) (rcv_v ow_113.2.1 sh_0) (by unfold entl; rw [mx_113]; rfl) (by rw [mx_113]; exact Nat.le_of_ble_eq_true rfl) rfl ?_
  unfold okE
  refine r_aload_n d_113_0 rfl (by omega) ?_
  refine r_iload_n d_113_1 rfl ?_
  refine r_callvp d_113_2 q_113_182 rfl rfl (c_isMatrix M g) ?_
  by_cases hg : 0 ≤ g ∧ g ≤ 1
  · rw [if_pos hg]
    refine r_if_eq (t := 31) d_113_5 rfl (fun hz => absurd hz (by decide)) (fun _ => ?_)
    refine r_aload_n d_113_8 rfl (by omega) ?_
    refine r_iload_n d_113_9 rfl ?_
    refine r_iload_n d_113_10 rfl ?_
    refine r_callvp d_113_11 q_113_133 rfl rfl (c_isPlace hc k i) ?_
    by_cases hi : (0 ≤ k ∧ k ≤ 3) ∧ 0 ≤ i ∧ i < s.2.1 k.toNat
    · rw [if_pos hi]
      refine r_if_eq (t := 31) d_113_14 rfl (fun hz => absurd hz (by decide)) (fun _ => ?_)
      refine r_aload_n d_113_17 rfl (by omega) ?_
      refine r_iload_n d_113_18 rfl ?_
      refine r_iload d_113_19 rfl ?_
      refine r_callvp d_113_21 q_113_133 rfl rfl (c_isPlace hc k j) ?_
      by_cases hj : (0 ≤ k ∧ k ≤ 3) ∧ 0 ≤ j ∧ j < s.2.1 k.toNat
      · rw [if_pos hj]
        refine r_if_eq (t := 31) d_113_24 rfl (fun hz => absurd hz (by decide)) (fun _ => ?_)
        refine r_iconst d_113_27 rfl ?_
        refine r_goto (t := 32) d_113_28 rfl ?_
        refine r_zret d_113_32 rt_113 (by omega) ?_
        exact ⟨by rw [ifp_t ⟨hi.1, hg, hi.2, hj.2⟩], rfl⟩
      · rw [if_neg hj]
        refine r_if_eq (t := 31) d_113_24 rfl (fun _ => ?_) (fun hz => absurd rfl hz)
        refine r_iconst d_113_31 rfl ?_
        refine r_zret d_113_32 rt_113 (by omega) ?_
        exact ⟨by rw [ifp_f (fun q => hj ⟨q.1, q.2.2.2⟩)], rfl⟩
    · rw [if_neg hi]
      refine r_if_eq (t := 31) d_113_14 rfl (fun _ => ?_) (fun hz => absurd rfl hz)
      refine r_iconst d_113_31 rfl ?_
      refine r_zret d_113_32 rt_113 (by omega) ?_
      exact ⟨by rw [ifp_f (fun q => hi ⟨q.1, q.2.2.1⟩)], rfl⟩
  · rw [if_neg hg]
    refine r_if_eq (t := 31) d_113_5 rfl (fun _ => ?_) (fun hz => absurd rfl hz)
    refine r_iconst d_113_31 rfl ?_
    refine r_zret d_113_32 rt_113 (by omega) ?_
    exact ⟨by rw [ifp_f (fun q => hg q.2.1)], rfl⟩
theorem c_isVector {M : Mo} {s : Sst} (hv : vs s) (hc : cuC M s) (k v : Int) : PI 114 [(2, 0), (0, k), (0, v)] M (ifp (okV s k v) 1 0) := by
  refine Cl.intro (L := [(2, 0), (0, k), (0, v)]) (rcv_v ow_114.2.1 sh_0) (by unfold entl; rw [mx_114]; rfl) (by rw [mx_114]; exact Nat.le_of_ble_eq_true rfl) rfl ?_
  unfold okV
  refine r_aload_n d_114_0 rfl (by omega) ?_
  refine r_iload_n d_114_1 rfl ?_
  refine r_callvp d_114_2 q_114_106 rfl rfl (c_isModule M k) ?_
  by_cases hk : 0 ≤ k ∧ k ≤ 3
  · rw [if_pos hk]
    obtain ⟨hs, hsh⟩ := hc.sz hk.1 hk.2
    have h6 := vs_6 hv (show k.toNat < 4 by omega)
    have hpw := c_power M hc.1 (pI23 hv.1) (s.2.1 k.toNat) (by omega)
    rw [show ((s.2.1 k.toNat : Nat) : Int).toNat = s.2.1 k.toNat by omega] at hpw
    refine r_if_eq (t := 36) d_114_5 rfl (fun hz => absurd hz (by decide)) (fun _ => ?_)
    refine r_iload_n d_114_8 rfl ?_
    refine r_if_lt (t := 36) d_114_9 rfl (fun h => ?_) (fun h => ?_)
    · refine r_iconst d_114_36 rfl ?_
      refine r_zret d_114_37 rt_114 (by omega) ?_
      exact ⟨by rw [ifp_f (fun q => by omega)], rfl⟩
    · refine r_iload_n d_114_12 rfl ?_
      refine r_aload_n d_114_13 rfl (by omega) ?_
      refine r_getc (ki := 0) d_114_14 q_114_10 rfl sh_0 fx_0_0 (by omega) ?_
      refine r_aload_n d_114_17 rfl (by omega) ?_
      refine r_getc (ki := 1) d_114_18 q_114_18 rfl sh_0 fx_0_1 (by omega) ?_
      refine r_iload_n d_114_21 rfl ?_
      refine r_aaloadc d_114_22 sh_2 (by decide) (by omega) (by omega) (fxM hk.1 (by omega)) (by omega) ?_
      refine r_getfv (ki := 1) d_114_23 q_114_149 rfl hsh hs ?_
      refine r_callvp d_114_26 q_114_302 rfl rfl hpw ?_
      refine r_icmp_ge (t := 36) d_114_29 rfl (fun h2 => ?_) (fun h2 => ?_)
      · refine r_iconst d_114_36 rfl ?_
        refine r_zret d_114_37 rt_114 (by omega) ?_
        exact ⟨by rw [ifp_f (fun q => by omega)], rfl⟩
      · refine r_iconst d_114_32 rfl ?_
        refine r_goto (t := 37) d_114_33 rfl ?_
        refine r_zret d_114_37 rt_114 (by omega) ?_
        exact ⟨by rw [ifp_t ⟨hk, by omega, by omega⟩], rfl⟩
  · rw [if_neg hk]
    refine r_if_eq (t := 36) d_114_5 rfl (fun _ => ?_) (fun hz => absurd rfl hz)
    refine r_iconst d_114_36 rfl ?_
    refine r_zret d_114_37 rt_114 (by omega) ?_
    exact ⟨by rw [ifp_f (fun q => hk q.1)], rfl⟩
