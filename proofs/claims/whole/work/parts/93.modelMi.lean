/-! The model: minors, poly. -/
def btS (x : Nat) : Cs := fun k => decide (k < 6 ∧ bt x k = 1)
theorem btS_t {x k : Nat} : btS x k = true ↔ k < 6 ∧ bt x k = 1 := by
  unfold btS
  simp
def clr (x j : Nat) : Nat := if bt x j = 1 then x - 2 ^ j else x
theorem clr_f : ∀ x : Fin 64, ∀ j : Fin 6, (Int32.ofInt (x.val : Int) &&& Int32.ofInt ((Int32.ofInt ((2 ^ j.val : Nat) : Int) ^^^ Int32.ofInt (-1)).toInt)).toInt = (clr x.val j.val : Int) ∧ clr x.val j.val ≤ x.val ∧ (bt x.val j.val = 1 → clr x.val j.val < x.val) := by decide +kernel
theorem clr_b : ∀ x : Fin 64, ∀ j : Fin 6, ∀ k : Fin 6, bt (clr x.val j.val) k.val = if k.val = j.val then 0 else bt x.val k.val := by decide +kernel
theorem sub_f : ∀ x : Fin 64, ∀ s : Fin 64, ((Int32.ofInt (x.val : Int) &&& Int32.ofInt ((Int32.ofInt (s.val : Int) ^^^ Int32.ofInt (-1)).toInt)).toInt = 0) = (∀ k : Fin 6, bt x.val k.val = 1 → bt s.val k.val = 1) := by
  have h : ∀ x : Fin 64, ∀ s : Fin 64, decide ((Int32.ofInt (x.val : Int) &&& Int32.ofInt ((Int32.ofInt (s.val : Int) ^^^ Int32.ofInt (-1)).toInt)).toInt = 0) = decide (∀ k : Fin 6, bt x.val k.val = 1 → bt s.val k.val = 1) := by decide +kernel
  intro x s
  exact propext (decide_eq_decide.mp (h x s))
theorem msk_f : ∀ x : Fin 64, ∀ k : Fin 6, (Int32.ofInt (x.val : Int) &&& Int32.ofInt (((2 ^ k.val : Nat) : Int) - 1)).toInt = ((x.val % 2 ^ k.val : Nat) : Int) ∧ pop (x.val % 2 ^ k.val) = (cdS (btS x.val) k.val : Nat) := by decide +kernel
theorem pop_f : ∀ x : Fin 64, pop x.val = (cdS (btS x.val) 6 : Nat) ∧ (1 ≤ x.val → 1 ≤ cdS (btS x.val) 6) := by decide +kernel
theorem abt_f : ∀ x : Fin 64, ∀ j : Fin 6, pop (x.val / 2 ^ (j.val + 1)) = (abt (btS x.val) j.val 6 : Nat) := by decide +kernel
theorem btS_ad : ∀ n : Fin 6, ∀ x : Fin 64, x.val < 2 ^ n.val → x.val + 2 ^ n.val < 64 ∧ ∀ k : Fin 6, (bt (x.val + 2 ^ n.val) k.val = 1) = (bt x.val k.val = 1 ∨ k.val = n.val) := by
  have h : ∀ n : Fin 6, ∀ x : Fin 64, x.val < 2 ^ n.val → x.val + 2 ^ n.val < 64 ∧ ∀ k : Fin 6, decide (bt (x.val + 2 ^ n.val) k.val = 1) = decide (bt x.val k.val = 1 ∨ k.val = n.val) := by decide +kernel
  intro n x hx
  exact ⟨(h n x hx).1, fun k => propext (decide_eq_decide.mp ((h n x hx).2 k))⟩
theorem btS_add {n x : Nat} (hn : n < 6) (hx : x < 2 ^ n) : btS (x + 2 ^ n) = ad (btS x) n := by
  have hp : 2 ^ n ≤ 32 := by
    have := Nat.pow_le_pow_right (show 0 < 2 by decide) (show n ≤ 5 by omega)
    omega
  have h := btS_ad ⟨n, hn⟩ ⟨x, by omega⟩ hx
  funext k
  apply Bool.eq_iff_iff.mpr
  rw [btS_t, ad_t, btS_t]
  by_cases hk : k < 6
  · have h2 := h.2 ⟨k, hk⟩
    constructor
    · rintro ⟨h3, h4⟩
      have h5 : bt x k = 1 ∨ k = n := h2.mp h4
      rcases h5 with q | q
      · exact Or.inl ⟨h3, q⟩
      · exact Or.inr q
    · rintro (q | q)
      · exact ⟨hk, h2.mpr (Or.inl q.2)⟩
      · exact ⟨hk, h2.mpr (Or.inr q)⟩
  · constructor
    · rintro ⟨h3, -⟩
      omega
    · rintro (q | q)
      · omega
      · omega
theorem btS_0 : btS 0 = fun _ => false := by
  funext k
  unfold btS bt
  simp
theorem sm_split (f : Nat → Int) (a : Nat) : ∀ b : Nat, sm f (a + b) = sm f a + sm (fun k => f (a + k)) b
  | 0 => by
    show sm f a = sm f a + 0
    omega
  | b + 1 => by
    show sm f (a + b) + f (a + b) = sm f a + (sm (fun k => f (a + k)) b + f (a + b))
    rw [sm_split f a b]
    omega
theorem sumS_bits : ∀ {n : Nat}, n ≤ 6 → ∀ f : Cs → Int, sumS n f = sm (fun P => f (btS P)) (2 ^ n)
  | 0, _, f => by
    show f (fun _ => false) = 0 + f (btS 0)
    rw [btS_0]
    omega
  | n + 1, hn, f => by
    show sumS n f + sumS n (fun S => f (ad S n)) = _
    rw [sumS_bits (by omega) f, sumS_bits (by omega) (fun S => f (ad S n)), Nat.pow_succ, Nat.mul_two, sm_split]
    congr 1
    refine sm_congr (fun k hk => ?_)
    rw [Nat.add_comm, btS_add (by omega) hk]
theorem cd_mono {S : Cs} {a : Nat} : ∀ {b : Nat}, a ≤ b → cdS S a ≤ cdS S b
  | 0, h => by rw [Nat.le_zero.mp h]; exact Nat.le_refl _
  | b + 1, h => by
    by_cases q : a = b + 1
    · rw [q]; exact Nat.le_refl _
    · have := cd_mono (S := S) (a := a) (b := b) (by omega)
      show cdS S a ≤ cdS S b + (if S b = true then 1 else 0)
      omega
theorem DD_rk {R : Nat → Nat → Int} {S : Cs} {a : Nat} : ∀ {b : Nat}, a ≤ b → cdS S a = cdS S b → DD R S a = DD R S b
  | 0, h, _ => by rw [Nat.le_zero.mp h]
  | b + 1, h, hc => by
    by_cases q : a = b + 1
    · rw [q]
    · have h1 := cd_mono (S := S) (a := a) (b := b) (by omega)
      have h2 : cdS S (b + 1) = cdS S b + if S b = true then 1 else 0 := rfl
      by_cases q2 : S b = true
      · rw [if_pos q2] at h2
        omega
      · rw [if_neg q2] at h2
        rw [DD_n q2]
        exact DD_rk (b := b) (by omega) (by omega)
theorem DD_rk2 {R : Nat → Nat → Int} {S : Cs} {a b : Nat} (h : cdS S a = cdS S b) : DD R S a = DD R S b := by
  rcases Nat.le_total a b with q | q
  · exact DD_rk q h
  · exact (DD_rk q h.symm).symm
theorem cd_at {S : Cs} {m : Nat} : ∀ {t : Nat}, m < cdS S t → ∃ r, r < t ∧ S r = true ∧ cdS S r = m
  | 0, h => absurd h (Nat.not_lt_zero m)
  | t + 1, h => by
    have h2 : cdS S (t + 1) = cdS S t + if S t = true then 1 else 0 := rfl
    by_cases q : m < cdS S t
    · obtain ⟨r, r1, r2, r3⟩ := cd_at (t := t) q
      exact ⟨r, by omega, r2, r3⟩
    · by_cases q2 : S t = true
      · rw [if_pos q2] at h2
        exact ⟨t, by omega, q2, by omega⟩
      · rw [if_neg q2] at h2
        omega
theorem cd_sub {S T : Cs} (h : ∀ k, S k = true → T k = true) : ∀ t : Nat, cdS S t ≤ cdS T t
  | 0 => Nat.le_refl _
  | t + 1 => by
    have ih := cd_sub h t
    show cdS S t + (if S t = true then 1 else 0) ≤ cdS T t + (if T t = true then 1 else 0)
    by_cases q : S t = true
    · rw [if_pos q, if_pos (h t q)]
      omega
    · rw [if_neg q]
      omega
theorem cd_rm {S : Cs} {j : Nat} (hj : S j = true) (hj6 : j < 6) : cdS S 6 = cdS (rmv S j) 6 + 1 := by
  have h : ¬ rmv S j j = true := fun z => (rmv_t.mp z).2 rfl
  have h2 := cd_ad h 6
  have h3 : ad (rmv S j) j = S := by
    funext k
    apply Bool.eq_iff_iff.mpr
    rw [ad_t, rmv_t]
    constructor
    · rintro (q | q)
      · exact q.1
      · rw [q]; exact hj
    · intro q
      by_cases z : k = j
      · exact Or.inr z
      · exact Or.inl ⟨q, z⟩
  rw [h3, if_pos hj6] at h2
  exact h2
theorem btS_clr {x j : Nat} (hx : x < 64) (hj : j < 6) : btS (clr x j) = rmv (btS x) j := by
  funext k
  apply Bool.eq_iff_iff.mpr
  rw [btS_t, rmv_t, btS_t]
  by_cases hk : k < 6
  · have h : bt (clr x j) k = if k = j then 0 else bt x k := clr_b ⟨x, hx⟩ ⟨j, hj⟩ ⟨k, hk⟩
    rw [h]
    by_cases q : k = j
    · rw [if_pos q]
      exact ⟨fun z => absurd z.2 (by decide), fun z => absurd q z.2⟩
    · rw [if_neg q]
      exact ⟨fun z => ⟨z, q⟩, fun z => z.1⟩
  · exact ⟨fun z => absurd z.1 hk, fun z => absurd z.1.1 hk⟩
theorem m_rowOf (M : Mo) {x a r : Nat} (hx : x < 64) (hr : r < 6) (hb : bt x r = 1) (hc : cdS (btS x) r = a) : PI 209 [(0, (x : Int)), (0, (a : Int))] M (r : Int) := by
  have h6 := cd_mono (S := btS x) (a := r) (b := 6) (by omega)
  have hcd : ∀ k : Nat, k < 6 → PI 208 [(0, ((x % 2 ^ k : Nat) : Int))] M (cdS (btS x) k : Nat) := fun k hk => by
    have h1 := (msk_f ⟨x, hx⟩ ⟨k, hk⟩).2
    have h2 := m_ones M (x := x % 2 ^ k) (by have := Nat.mod_le x (2 ^ k); omega)
    have h3 : pop (x % 2 ^ k) = (cdS (btS x) k : Nat) := h1
    rw [h3] at h2
    exact h2
  have hmk : ∀ k : Nat, k < 6 → (Int32.ofInt (x : Int) &&& Int32.ofInt (((2 ^ k : Nat) : Int) - 1)).toInt = ((x % 2 ^ k : Nat) : Int) := fun k hk => (msk_f ⟨x, hx⟩ ⟨k, hk⟩).1
  have hpk : ∀ k : Nat, k < 6 → 0 ≤ ((2 ^ k : Nat) : Int) ∧ ((2 ^ k : Nat) : Int) ≤ ((32 : Nat) : Int) := fun k hk => by
    have := Nat.pow_le_pow_right (show 0 < 2 by decide) (show k ≤ 5 by omega)
    exact ⟨Int.natCast_nonneg _, Int.ofNat_le.mpr this⟩
  refine Cl.intro (L := [(0, (x : Int)), (0, (a : Int)), (9, 0)]) (rcv_s ow_209.1) (by unfold entl; rw [mx_209]; rfl) (by rw [mx_209]; exact Nat.le_of_ble_eq_true rfl) rfl ?_
  refine r_iconst d_209_0 rfl ?_
  refine r_istore_n d_209_1 rfl (stl_3_2 rfl rfl) ?_
  refine dn_ind (R := fun k => Rn 209 2 [(0, (x : Int)), (0, (a : Int)), (0, k)] [] M _) (lo := 0) (n := (r : Int)) ?_ ?_ 0 (by omega) (by omega)
  · have hp := hpk r hr
    refine r_iload_n d_209_2 rfl ?_
    refine r_iload_n d_209_3 rfl ?_
    refine r_ishr d_209_4 (shr_ok (by omega) (by omega)) ?_
    refine r_iconst d_209_5 rfl ?_
    refine r_iand d_209_6 (bitv (by omega)) ?_
    rw [hb]
    refine r_if_eq (t := 24) d_209_7 rfl (fun hz => absurd hz (by decide)) (fun _ => ?_)
    refine r_iload_n d_209_10 rfl ?_
    refine r_iconst d_209_11 rfl ?_
    refine r_iload_n d_209_12 rfl ?_
    refine r_ishl d_209_13 (shl_ok (by omega)) ?_
    refine r_iconst d_209_14 rfl ?_
    refine r_isub d_209_15 (by omega) ?_
    refine r_iand d_209_16 (hmk r hr) ?_
    refine r_callsp d_209_17 q_209_303 rfl rfl (hcd r hr) ?_
    refine r_iload_n d_209_20 rfl ?_
    refine r_icmp_ge (t := 30) d_209_21 rfl (fun _ => ?_) (fun hz => absurd (by omega) hz)
    refine r_iload_n d_209_30 rfl ?_
    refine r_iret d_209_31 rt_209 ?_
    exact ⟨rfl, rfl⟩
  · intro k k1 k2 ih
    obtain ⟨j, rfl⟩ : ∃ j : Nat, k = j := ⟨k.toNat, by omega⟩
    have hp := hpk j (by omega)
    have h01 := bt_01 x j
    refine r_iload_n d_209_2 rfl ?_
    refine r_iload_n d_209_3 rfl ?_
    refine r_ishr d_209_4 (shr_ok (by omega) (by omega)) ?_
    refine r_iconst d_209_5 rfl ?_
    refine r_iand d_209_6 (bitv (by omega)) ?_
    refine r_if_eq (t := 24) d_209_7 rfl (fun h0 => ?_) (fun h0 => ?_)
    · refine r_iinc d_209_24 rfl (by omega) (stl_3_2 rfl rfl) ?_
      refine r_goto (t := 2) d_209_27 rfl ?_
      exact ih
    · have h1 : btS x j = true := btS_t.mpr ⟨by omega, by omega⟩
      have h2 : cdS (btS x) (j + 1) = cdS (btS x) j + if btS x j = true then 1 else 0 := rfl
      rw [if_pos h1] at h2
      have h3 := cd_mono (S := btS x) (a := j + 1) (b := r) (by omega)
      refine r_iload_n d_209_10 rfl ?_
      refine r_iconst d_209_11 rfl ?_
      refine r_iload_n d_209_12 rfl ?_
      refine r_ishl d_209_13 (shl_ok (by omega)) ?_
      refine r_iconst d_209_14 rfl ?_
      refine r_isub d_209_15 (by omega) ?_
      refine r_iand d_209_16 (hmk j (by omega)) ?_
      refine r_callsp d_209_17 q_209_303 rfl rfl (hcd j (by omega)) ?_
      refine r_iload_n d_209_20 rfl ?_
      refine r_icmp_ge (t := 30) d_209_21 rfl (fun hz => absurd hz (by omega)) (fun _ => ?_)
      refine r_iinc d_209_24 rfl (by omega) (stl_3_2 rfl rfl) ?_
      refine r_goto (t := 2) d_209_27 rfl ?_
      exact ih
theorem m_minor {M : Mo} {p : Int} (hp : M 217 1 = p) (h23 : p23 p) {n : Nat} (hn : n ≤ 6) {R : Nat → Nat → Int} (hR : ∀ i j : Nat, i < n → j < n → M 244 (6 * i + j) = R i j ∧ 0 ≤ R i j ∧ R i j ≤ 2) {x : Nat} (hx : x < 2 ^ n) : CI 210 [(2, 217), (0, (x : Int))] M (fun z M' => z = pm R (btS x) % p ∧ Fr (fun a _ => a = 247) M M') := by
  have hb := h23.b
  have hp64 : 2 ^ n ≤ 64 := by
    have := Nat.pow_le_pow_right (show 0 < 2 by decide) hn
    omega
  have hx64 : x < 64 := by omega
  have hlt : ∀ k, bt x k = 1 → k < n := fun k hk => by
    rcases Nat.lt_or_ge k n with q | q
    · exact q
    · have h1 : 2 ^ n ≤ 2 ^ k := Nat.pow_le_pow_right (by decide) q
      unfold bt at hk
      rw [Nat.div_eq_of_lt (by omega)] at hk
      omega
  refine Cl.intro (L := [(2, 217), (0, (x : Int)), (9, 0), (9, 0), (9, 0), (9, 0), (9, 0)]) (rcv_v ow_210.2.1 sh_217) (by unfold entl; rw [mx_210]; rfl) (by rw [mx_210]; exact Nat.le_of_ble_eq_true rfl) rfl ?_
  refine r_aload_n d_210_0 rfl (by omega) ?_
  refine r_getc (ki := 37) d_210_1 q_210_107 rfl sh_217 fx_217_37 (by omega) ?_
  refine r_iconst d_210_4 rfl ?_
  refine r_iconst d_210_5 rfl ?_
  refine r_iastore d_210_6 sh_247 (by omega) (by omega) ?_
  refine r_iconst d_210_7 rfl ?_
  refine r_istore_n d_210_8 rfl (stl_7_2 rfl rfl) ?_
  refine dn_ind (R := fun o => ∀ (M1 : Mo) (y1 y2 y3 y4 : AV), Fr (fun a _ => a = 247) M M1 → (∀ s : Nat, (s : Int) < o → s ≤ x → (∀ k, k < 6 → bt s k = 1 → bt x k = 1) → 0 ≤ M1 247 s ∧ M1 247 s ≤ p - 1 ∧ ∀ t, t ≤ 6 → cdS (btS x) t = cdS (btS s) 6 → M1 247 s = DD R (btS x) t (btS s) % p) → Rn 210 9 [(2, 217), (0, (x : Int)), (0, o), y1, y2, y3, y4] [] M1 _) (lo := 1) (n := (x : Int) + 1) ?_ ?_ 1 (by omega) (by omega) (up2 M 247 0 1) (9, 0) (9, 0) (9, 0) (9, 0) (fun a b h => uq_ne (by omega)) ?_
  · intro M1 y1 y2 y3 y4 hF hm
    obtain ⟨h0, h1, h2⟩ := hm x (by omega) (Nat.le_refl x) (fun _ _ h => h)
    have h3 := h2 6 (Nat.le_refl 6) rfl
    refine r_iload_n d_210_9 rfl ?_
    refine r_iload_n d_210_10 rfl ?_
    refine r_icmp_gt (t := 142) d_210_11 rfl (fun _ => ?_) (fun hz => absurd (by omega) hz)
    refine r_aload_n d_210_142 rfl (by omega) ?_
    refine r_getc (ki := 37) d_210_143 q_210_107 rfl sh_217 fx_217_37 (by omega) ?_
    refine r_iload_n d_210_146 rfl ?_
    refine r_ialoadv d_210_147 sh_247 (by omega) (by omega) h3 ?_
    refine r_iret d_210_148 rt_210 ?_
    exact ⟨_, rfl, rfl, hF⟩
  · intro o o1 o2 ih M1 y1 y2 y3 y4 hF hm
    obtain ⟨s, rfl⟩ : ∃ s : Nat, o = s := ⟨o.toNat, by omega⟩
    have hs64 : s < 64 := by omega
    have hxr : ∃ z : Int, (Int32.ofInt (x : Int) ^^^ Int32.ofInt (-1)).toInt = z := ⟨_, rfl⟩
    obtain ⟨z, hz⟩ := hxr
    have hsf : ((Int32.ofInt (s : Int) &&& Int32.ofInt z).toInt = 0) = (∀ k : Fin 6, bt s k.val = 1 → bt x k.val = 1) := by
      rw [← hz]
      exact sub_f ⟨s, hs64⟩ ⟨x, hx64⟩
    refine r_iload_n d_210_9 rfl ?_
    refine r_iload_n d_210_10 rfl ?_
    refine r_icmp_gt (t := 142) d_210_11 rfl (fun hz => absurd hz (by omega)) (fun _ => ?_)
    refine r_iload_n d_210_14 rfl ?_
    refine r_iload_n d_210_15 rfl ?_
    refine r_iconst d_210_16 rfl ?_
    refine r_ixor d_210_17 hz ?_
    refine r_iand d_210_18 rfl ?_
    refine r_if_ne (t := 136) d_210_19 rfl (fun hsub => ?_) (fun hsub => ?_)
    · refine r_iinc d_210_136 rfl (by omega) (stl_7_2 rfl rfl) ?_
      refine r_goto (t := 9) d_210_139 rfl ?_
      refine ih M1 _ _ _ _ hF (fun s' z1 z2 z3 => ?_)
      by_cases q : s' = s
      · exfalso
        apply hsub
        rw [hsf, ← q]
        exact fun k hk => z3 k.val k.isLt hk
      · exact hm s' (by omega) z2 z3
    · have hsub0 : (Int32.ofInt (s : Int) &&& Int32.ofInt z).toInt = 0 := by omega
      rw [hsf] at hsub0
      have hsb : ∀ k, k < 6 → bt s k = 1 → bt x k = 1 := fun k hk h => hsub0 ⟨k, hk⟩ h
      have hpo := pop_f ⟨s, hs64⟩
      have hones := m_ones M1 hs64
      have hpp : pop s = (cdS (btS s) 6 : Nat) := hpo.1
      have hc1 : 1 ≤ cdS (btS s) 6 := hpo.2 (by show 1 ≤ s; omega)
      rw [hpp] at hones
      have hcle := cd_sub (S := btS s) (T := btS x) (fun k hk => by
        obtain ⟨k1, k2⟩ := btS_t.mp hk
        exact btS_t.mpr ⟨k1, hsb k k1 k2⟩) 6
      obtain ⟨r, r1, r2, r3⟩ := cd_at (S := btS x) (m := cdS (btS s) 6 - 1) (t := 6) (by omega)
      have hrb := (btS_t.mp r2).2
      have hrn := hlt r hrb
      have hro := m_rowOf M1 hx64 r1 hrb r3
      rw [show ((cdS (btS s) 6 - 1 : Nat) : Int) = ((cdS (btS s) 6 : Nat) : Int) - 1 by omega] at hro
      have hc6 : cdS (btS s) 6 ≤ 6 := by
        have : ∀ t : Nat, cdS (btS s) t ≤ t := by
          intro t
          induction t with
          | zero => exact Nat.le_refl _
          | succ t ih =>
            show cdS (btS s) t + (if btS s t = true then 1 else 0) ≤ t + 1
            split <;> omega
        exact this 6
      have hp1 : M1 217 1 = p := (hF _ _ (by omega)).trans hp
      refine r_iload_n d_210_22 rfl ?_
      refine r_iload_n d_210_23 rfl ?_
      refine r_callsp d_210_24 q_210_303 rfl rfl hones ?_
      refine r_iconst d_210_27 rfl ?_
      refine r_isub d_210_28 (by omega) ?_
      refine r_callsp d_210_29 q_210_306 rfl rfl hro ?_
      refine r_istore_n d_210_32 rfl (stl_7_3 rfl rfl) ?_
      refine r_iconst d_210_33 rfl ?_
      refine r_istore d_210_34 rfl (stl_7_4 rfl rfl) ?_
      refine r_iconst d_210_36 rfl ?_
      refine r_istore d_210_37 rfl (stl_7_5 rfl rfl) ?_
      refine dn_ind (R := fun j => ∀ (t : Int) (y4 : AV), 0 ≤ t ∧ t ≤ 8 * j → t % p = sm (fun j => if btS s j = true then sn (btS s) j * R r j * DD R (btS x) r (rmv (btS s) j) else 0) j.toNat % p → Rn 210 39 [(2, 217), (0, (x : Int)), (0, (s : Int)), (0, (r : Int)), (0, t), (0, j), y4] [] M1 _) (lo := 0) (n := 6) ?_ ?_ 0 (by omega) (by omega) 0 y4 (by omega) rfl
      · intro t y4 ht hq
        have hem := emb (x := t) h23
        refine r_iload d_210_39 rfl ?_
        refine r_bipush d_210_41 rfl ?_
        refine r_icmp_ge (t := 123) d_210_43 rfl (fun _ => ?_) (fun hz => absurd (by omega) hz)
        refine r_aload_n d_210_123 rfl (by omega) ?_
        refine r_getc (ki := 37) d_210_124 q_210_107 rfl sh_217 fx_217_37 (by omega) ?_
        refine r_iload_n d_210_127 rfl ?_
        refine r_iload d_210_128 rfl ?_
        refine r_aload_n d_210_130 rfl (by omega) ?_
        refine r_getfv (ki := 1) d_210_131 q_210_13 rfl sh_217 hp1 ?_
        refine r_iremn d_210_134 (by omega) (by omega) ?_
        refine r_iastore d_210_135 sh_247 (by omega) (by omega) ?_
        refine r_iinc d_210_136 rfl (by omega) (stl_7_2 rfl rfl) ?_
        refine r_goto (t := 9) d_210_139 rfl ?_
        refine ih _ _ _ _ _ (fun a b h => by rw [uq_ne (by omega)]; exact hF a b h) (fun s' z1 z2 z3 => ?_)
        by_cases q : s' = s
        · subst q
          rw [uq_eq]
          refine ⟨hem.1, hem.2, fun t' ht' hc => ?_⟩
          have hc9 : cdS (btS x) (r + 1) = cdS (btS x) r + if btS x r = true then 1 else 0 := rfl
          rw [if_pos r2] at hc9
          rw [DD_rk2 (R := R) (S := btS x) (a := t') (b := r + 1) (by omega), DD_y r2, hq]
          rfl
        · rw [uq_ne (by omega)]
          exact hm s' (by omega) z2 z3
      · intro j j1 j2 ihj t y4 ht hq
        obtain ⟨l, rfl⟩ : ∃ l : Nat, j = l := ⟨j.toNat, by omega⟩
        rw [show ((l : Int)).toNat = l by omega] at hq
        rw [show ((l : Int) + 1).toNat = l + 1 by omega] at ihj
        have h01 := bt_01 s l
        have hst : sm (fun j => if btS s j = true then sn (btS s) j * R r j * DD R (btS x) r (rmv (btS s) j) else 0) (l + 1) = sm (fun j => if btS s j = true then sn (btS s) j * R r j * DD R (btS x) r (rmv (btS s) j) else 0) l + (if btS s l = true then sn (btS s) l * R r l * DD R (btS x) r (rmv (btS s) l) else 0) := rfl
        refine r_iload d_210_39 rfl ?_
        refine r_bipush d_210_41 rfl ?_
        refine r_icmp_ge (t := 123) d_210_43 rfl (fun hz => absurd hz (by omega)) (fun _ => ?_)
        refine r_iload_n d_210_46 rfl ?_
        refine r_iload d_210_47 rfl ?_
        refine r_ishr d_210_49 (shr_ok (by omega) (by omega)) ?_
        refine r_iconst d_210_50 rfl ?_
        refine r_iand d_210_51 (bitv (by omega)) ?_
        refine r_iconst d_210_52 rfl ?_
        refine r_icmp_ne (t := 117) d_210_53 rfl (fun hne => ?_) (fun hne => ?_)
        · rw [if_neg (fun q => by have := (btS_t.mp q).2; omega), Int.add_zero] at hst
          refine r_iinc d_210_117 rfl (by omega) (stl_7_5 rfl rfl) ?_
          refine r_goto (t := 39) d_210_120 rfl ?_
          exact ihj _ _ (by omega) (by rw [hst]; exact hq)
        · have hbl : bt s l = 1 := by omega
          have hsl : btS s l = true := btS_t.mpr ⟨by omega, hbl⟩
          rw [if_pos hsl] at hst
          have hln := hlt l (hsb l (by omega) hbl)
          obtain ⟨hRv, hR0, hR2⟩ := hR r l hrn hln
          have hRv1 : M1 244 (6 * (r : Int) + l) = R r l := (hF _ _ (by omega)).trans hRv
          obtain ⟨c1, c2, c3⟩ := clr_f ⟨s, hs64⟩ ⟨l, by omega⟩
          have c1' : (Int32.ofInt (s : Int) &&& Int32.ofInt ((Int32.ofInt ((2 ^ l : Nat) : Int) ^^^ Int32.ofInt (-1)).toInt)).toInt = (clr s l : Int) := c1
          have c3' : clr s l < s := c3 hbl
          have hcb := btS_clr hs64 (show l < 6 by omega)
          obtain ⟨m0, m1, m2⟩ := hm (clr s l) (by omega) (by omega) (fun k hk hk1 => by
            have h5 : btS (clr s l) k = true := btS_t.mpr ⟨hk, hk1⟩
            rw [hcb] at h5
            exact hsb k hk (btS_t.mp (rmv_t.mp h5).1).2)
          have hcr := cd_rm hsl (by omega)
          have hmv := m2 r (by omega) (by rw [hcb]; omega)
          rw [hcb] at hmv
          have hab : pop (s / 2 ^ (l + 1)) = (abt (btS s) l 6 : Nat) := abt_f ⟨s, hs64⟩ ⟨l, by omega⟩
          have hon2 := m_ones M1 (x := s / 2 ^ (l + 1)) (by have := Nat.div_le_self s (2 ^ (l + 1)); omega)
          rw [hab] at hon2
          have hab6 : abt (btS s) l 6 ≤ 6 := by
            have : ∀ t : Nat, abt (btS s) l t ≤ t := by
              intro t
              induction t with
              | zero => exact Nat.le_refl _
              | succ t ih =>
                show abt (btS s) l t + (if l < t ∧ btS s t = true then 1 else 0) ≤ t + 1
                split <;> omega
            exact this 6
          have hsh := shr_ok hs64 (k := l + 1) (by omega)
          rw [show ((l + 1 : Nat) : Int) = (l : Int) + 1 by omega] at hsh
          have hfb := mb (x := R r l) (y := M1 247 (clr s l : Int)) (a := 2) (b := 2) ⟨hR0, hR2⟩ (by omega)
          have hfb2 := mb (x := p - 1) (y := R r l * M1 247 (clr s l : Int)) (a := 2) (b := 4) (by omega) (by omega)
          have hfm : ∀ c : Int, (c * (R r l * M1 247 (clr s l : Int))) % p = (c * (R r l * DD R (btS x) r (rmv (btS s) l))) % p := fun c => by
            rw [hmv, Int.mul_emod, Int.mul_emod (R r l), Int.emod_emod, ← Int.mul_emod (R r l), ← Int.mul_emod]
          refine r_aload_n d_210_56 rfl (by omega) ?_
          refine r_getc (ki := 34) d_210_57 q_210_98 rfl sh_217 fx_217_34 (by omega) ?_
          refine r_bipush d_210_60 rfl ?_
          refine r_iload_n d_210_62 rfl ?_
          refine r_imul d_210_63 (by omega) ?_
          refine r_iload d_210_64 rfl ?_
          refine r_iadd d_210_66 (by omega) ?_
          refine r_ialoadv d_210_67 sh_244 (by omega) (by omega) hRv1 ?_
          refine r_aload_n d_210_68 rfl (by omega) ?_
          refine r_getc (ki := 37) d_210_69 q_210_107 rfl sh_217 fx_217_37 (by omega) ?_
          refine r_iload_n d_210_72 rfl ?_
          refine r_iconst d_210_73 rfl ?_
          refine r_iload d_210_74 rfl ?_
          refine r_ishl d_210_76 (shl_ok (by omega)) ?_
          refine r_iconst d_210_77 rfl ?_
          refine r_ixor d_210_78 rfl ?_
          refine r_iand d_210_79 c1' ?_
          refine r_iaload d_210_80 sh_247 (by omega) (by omega) ?_
          refine r_imul d_210_81 (by omega) ?_
          refine r_istore d_210_82 rfl (stl_7_6 rfl rfl) ?_
          refine r_iload d_210_84 rfl ?_
          refine r_iload_n d_210_86 rfl ?_
          refine r_iload d_210_87 rfl ?_
          refine r_iconst d_210_89 rfl ?_
          refine r_iadd d_210_90 (by omega) ?_
          refine r_ishr d_210_91 hsh ?_
          refine r_callsp d_210_92 q_210_303 rfl rfl hon2 ?_
          refine r_iconst d_210_95 rfl ?_
          refine r_iremn d_210_96 (by omega) (by omega) ?_
          have hsn : sn (btS s) l = if (abt (btS s) l 6 : Int) % 2 = 0 then 1 else -1 := by
            unfold sn sgz
            by_cases q : abt (btS s) l 6 % 2 = 0
            · rw [if_pos q, if_pos (by omega)]
            · rw [if_neg q, if_neg (by omega)]
          refine r_if_ne (t := 105) d_210_97 rfl (fun hodd => ?_) (fun hodd => ?_)
          · rw [if_neg hodd] at hsn
            refine r_aload_n d_210_105 rfl (by omega) ?_
            refine r_getfv (ki := 1) d_210_106 q_210_13 rfl sh_217 hp1 ?_
            refine r_iconst d_210_109 rfl ?_
            refine r_isub d_210_110 (by omega) ?_
            refine r_iload d_210_111 rfl ?_
            refine r_imul d_210_113 (by omega) ?_
            refine r_iadd d_210_114 (by omega) ?_
            refine r_istore d_210_115 rfl (stl_7_4 rfl rfl) ?_
            refine r_iinc d_210_117 rfl (by omega) (stl_7_5 rfl rfl) ?_
            refine r_goto (t := 39) d_210_120 rfl ?_
            refine ihj _ _ (by omega) ?_
            rw [hst, Int.add_emod, hq, hfm, ← Int.add_emod, hsn]
            have e1 : (p - 1) * (R r l * DD R (btS x) r (rmv (btS s) l)) = -1 * R r l * DD R (btS x) r (rmv (btS s) l) + (R r l * DD R (btS x) r (rmv (btS s) l)) * p := by grind
            rw [e1, ← Int.add_assoc, Int.add_mul_emod_self_right]
          · rw [if_pos (by omega)] at hsn
            refine r_iload d_210_100 rfl ?_
            refine r_goto (t := 114) d_210_102 rfl ?_
            refine r_iadd d_210_114 (by omega) ?_
            refine r_istore d_210_115 rfl (stl_7_4 rfl rfl) ?_
            refine r_iinc d_210_117 rfl (by omega) (stl_7_5 rfl rfl) ?_
            refine r_goto (t := 39) d_210_120 rfl ?_
            refine ihj _ _ (by omega) ?_
            have h1 := hfm 1
            rw [Int.one_mul, Int.one_mul] at h1
            rw [hst, Int.add_emod, hq, h1, ← Int.add_emod, hsn, Int.one_mul]
  · intro s z1 z2 z3
    have hs0 : s = 0 := by omega
    subst hs0
    rw [show (((0 : Nat) : Int)) = 0 from rfl, uq_eq]
    refine ⟨by omega, by omega, fun t ht hc => ?_⟩
    have hc0 : cdS (btS 0) 6 = 0 := by decide
    rw [hc0] at hc
    have h0 : cdS (btS x) 0 = 0 := rfl
    rw [← DD_rk2 (R := R) (S := btS x) (a := 0) (b := t) (by omega)]
    show 1 = 1 % p
    rw [Int.emod_eq_of_lt (by omega) (by omega)]
