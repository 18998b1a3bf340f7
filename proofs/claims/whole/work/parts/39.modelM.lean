/-! The model: turns, parts, rests, moved, spun, row. -/
theorem adec {n : Nat} (hn : 0 < n) {a : Int} (h0 : 0 ≤ a) (h1 : a < ((n * n : Nat) : Int)) : ∃ i j : Nat, a / (n : Int) = i ∧ a % (n : Int) = j ∧ i < n ∧ j < n ∧ a.toNat = i * n + j := by
  have hc : ((a.toNat : Nat) : Int) = a := by omega
  refine ⟨a.toNat / n, a.toNat % n, ?_, ?_, ?_, Nat.mod_lt _ hn, ?_⟩
  · rw [Int.natCast_ediv, hc]
  · rw [Int.natCast_emod, hc]
  · exact Nat.div_lt_of_lt_mul (by omega)
  · have b := Nat.div_add_mod a.toNat n
    rw [Nat.mul_comm (a.toNat / n)]
    omega
def tdf (n : Nat) (B X : Nat → Nat → Nat → Int) (c : Nat) : Int := if B (c / (n * n)) (c % (n * n) / n) (c % (n * n) % n) = X (c / (n * n)) (c % (n * n) / n) (c % (n * n) % n) then 0 else 1
theorem sm_01 {f : Nat → Int} (hf : ∀ c, f c = 0 ∨ f c = 1) : ∀ n : Nat, 0 ≤ sm f n ∧ sm f n ≤ n
  | 0 => ⟨Int.le_refl _, Int.le_refl _⟩
  | n + 1 => by
    have := sm_01 hf n
    show 0 ≤ sm f n + f n ∧ sm f n + f n ≤ ((n + 1 : Nat) : Int)
    have h2 := hf n
    omega
theorem tdf_01 {n : Nat} {B X : Nat → Nat → Nat → Int} (c : Nat) : tdf n B X c = 0 ∨ tdf n B X c = 1 := by
  unfold tdf
  split
  · exact Or.inl rfl
  · exact Or.inr rfl
def okT (s : Sst) (k i j c : Int) : Prop := (0 ≤ k ∧ k ≤ 3) ∧ (0 ≤ i ∧ i < s.2.1 k.toNat) ∧ (0 ≤ j ∧ j < s.2.1 k.toNat) ∧ i ≠ j ∧ 0 ≤ c ∧ c ≤ pI s.1 - 1
theorem m_turns_bad (M : Mo) (hb : cb M) {s : Sst} (hv : vs s) (hc : cu M s) {k i j c : Int} (h : ¬ okT s k i j c) : PJ 158 [(2, 217), (0, k), (0, i), (0, j), (0, c)] M (-2) (up2 M 218 0 (M 218 0 + 1)) := by
  refine Cl.intro (L := [(2, 217), (0, k), (0, i), (0, j), (0, c), (9, 0), (9, 0), (9, 0), (9, 0), (9, 0)]) (rcv_v ow_158.2.1 sh_217) (by unfold entl; rw [mx_158]; rfl) (by rw [mx_158]; exact Nat.le_of_ble_eq_true rfl) rfl ?_
  have hbad := m_bad M (hb 0 (by omega) (by omega))
  have hpb := (pI23 hv.1).b
  refine r_iload_n d_158_0 rfl ?_
  refine r_callsp d_158_1 q_158_178 rfl rfl (m_isModule M k) ?_
  by_cases hk : 0 ≤ k ∧ k ≤ 3
  · have h6 := vs_6 hv (k := k.toNat) (by omega)
    have hsz := (hc.2 k.toNat (by omega)).1
    rw [show ((k.toNat : Nat) : Int) = k by omega] at hsz
    rw [if_pos hk]
    refine r_if_eq (t := 45) d_158_4 rfl (fun hz => absurd hz (by decide)) (fun _ => ?_)
    refine r_aload_n d_158_7 rfl (by omega) ?_
    refine r_iload_n d_158_8 rfl ?_
    refine r_iload_n d_158_9 rfl ?_
    refine r_callvp d_158_10 q_158_185 rfl rfl (m_isPlace M k i (by omega) hsz (by omega)) ?_
    by_cases hi : 0 ≤ i ∧ i < s.2.1 k.toNat
    · rw [if_pos hi]
      refine r_if_eq (t := 45) d_158_13 rfl (fun hz => absurd hz (by decide)) (fun _ => ?_)
      refine r_aload_n d_158_16 rfl (by omega) ?_
      refine r_iload_n d_158_17 rfl ?_
      refine r_iload_n d_158_18 rfl ?_
      refine r_callvp d_158_19 q_158_185 rfl rfl (m_isPlace M k j (by omega) hsz (by omega)) ?_
      by_cases hj : 0 ≤ j ∧ j < s.2.1 k.toNat
      · rw [if_pos hj]
        by_cases hij : i = j
        · refine r_if_eq (t := 45) d_158_22 rfl (fun hz => absurd hz (by decide)) (fun _ => ?_)
          refine r_iload_n d_158_25 rfl ?_
          refine r_iload_n d_158_26 rfl ?_
          refine r_icmp_eq (t := 45) d_158_27 rfl (fun _ => ?_) (fun hz => absurd hij hz)
          refine r_aload_n d_158_45 rfl (by omega) ?_
          refine r_callvj d_158_46 q_158_172 rfl rfl hbad ?_
          refine r_iret d_158_49 rt_158 ?_
          exact ⟨rfl, rfl⟩
        · refine r_if_eq (t := 45) d_158_22 rfl (fun hz => absurd hz (by decide)) (fun _ => ?_)
          refine r_iload_n d_158_25 rfl ?_
          refine r_iload_n d_158_26 rfl ?_
          refine r_icmp_eq (t := 45) d_158_27 rfl (fun hz => absurd hz hij) (fun _ => ?_)
          refine r_iload d_158_30 rfl ?_
          refine r_iconst d_158_32 rfl ?_
          refine r_aload_n d_158_33 rfl (by omega) ?_
          refine r_getfv (ki := 1) d_158_34 q_158_13 rfl sh_217 hc.1 ?_
          refine r_iconst d_158_37 rfl ?_
          refine r_isub d_158_38 (by omega) ?_
          refine r_callsp d_158_39 q_158_118 rfl rfl (m_in M c 0 _) ?_
          rw [if_neg (fun q => h ⟨hk, hi, hj, hij, q⟩)]
          refine r_if_ne (t := 50) d_158_42 rfl (fun hz => absurd hz (by decide)) (fun _ => ?_)
          refine r_aload_n d_158_45 rfl (by omega) ?_
          refine r_callvj d_158_46 q_158_172 rfl rfl hbad ?_
          refine r_iret d_158_49 rt_158 ?_
          exact ⟨rfl, rfl⟩
      · rw [if_neg hj]
        refine r_if_eq (t := 45) d_158_22 rfl (fun _ => ?_) (fun hz => absurd (by decide) hz)
        refine r_aload_n d_158_45 rfl (by omega) ?_
        refine r_callvj d_158_46 q_158_172 rfl rfl hbad ?_
        refine r_iret d_158_49 rt_158 ?_
        exact ⟨rfl, rfl⟩
    · rw [if_neg hi]
      refine r_if_eq (t := 45) d_158_13 rfl (fun _ => ?_) (fun hz => absurd (by decide) hz)
      refine r_aload_n d_158_45 rfl (by omega) ?_
      refine r_callvj d_158_46 q_158_172 rfl rfl hbad ?_
      refine r_iret d_158_49 rt_158 ?_
      exact ⟨rfl, rfl⟩
  · rw [if_neg hk]
    refine r_if_eq (t := 45) d_158_4 rfl (fun _ => ?_) (fun hz => absurd (by decide) hz)
    refine r_aload_n d_158_45 rfl (by omega) ?_
    refine r_callvj d_158_46 q_158_172 rfl rfl hbad ?_
    refine r_iret d_158_49 rt_158 ?_
    exact ⟨rfl, rfl⟩
theorem m_turns {M : Mo} {s : Sst} {H : List Sst} (hv : vs s) (hc : cu M s) (hH : hi M H) {k i j : Nat} {c : Int} (hk : k < 4) (hi : i < s.2.1 k) (hj : j < s.2.1 k) (hij : i ≠ j) (hcc : 0 ≤ c ∧ c ≤ pI s.1 - 1) : CI 158 [(2, 217), (0, (k : Int)), (0, (i : Int)), (0, (j : Int)), (0, c)] M (fun z M' => z = sm (tdf (s.2.1 k) (trnE (pI s.1) (s.2.2 k) i j c) (s.2.2 k)) (2 * (s.2.1 k * s.2.1 k)) ∧ chg M M' (setm s k (s.2.1 k) (trnE (pI s.1) (s.2.2 k) i j c)) (psh H s)) := by
  refine Cl.intro (L := [(2, 217), (0, (k : Int)), (0, (i : Int)), (0, (j : Int)), (0, c), (9, 0), (9, 0), (9, 0), (9, 0), (9, 0)]) (rcv_v ow_158.2.1 sh_217) (by unfold entl; rw [mx_158]; rfl) (by rw [mx_158]; exact Nat.le_of_ble_eq_true rfl) rfl ?_
  have hpb := (pI23 hv.1).b
  have h6 := vs_6 hv hk
  have h1 := (hv.2 k hk).1
  have hrg := (hv.2 k hk).2.2
  have hsz0 := (hc.2 k hk).1
  refine r_iload_n d_158_0 rfl ?_
  refine r_callsp d_158_1 q_158_178 rfl rfl (m_isModule M k) ?_
  rw [if_pos (by omega)]
  refine r_if_eq (t := 45) d_158_4 rfl (fun hz => absurd hz (by decide)) (fun _ => ?_)
  refine r_aload_n d_158_7 rfl (by omega) ?_
  refine r_iload_n d_158_8 rfl ?_
  refine r_iload_n d_158_9 rfl ?_
  refine r_callvp d_158_10 q_158_185 rfl rfl (m_isPlace M k i (by omega) hsz0 (by omega)) ?_
  rw [if_pos (by omega)]
  refine r_if_eq (t := 45) d_158_13 rfl (fun hz => absurd hz (by decide)) (fun _ => ?_)
  refine r_aload_n d_158_16 rfl (by omega) ?_
  refine r_iload_n d_158_17 rfl ?_
  refine r_iload_n d_158_18 rfl ?_
  refine r_callvp d_158_19 q_158_185 rfl rfl (m_isPlace M k j (by omega) hsz0 (by omega)) ?_
  rw [if_pos (by omega)]
  refine r_if_eq (t := 45) d_158_22 rfl (fun hz => absurd hz (by decide)) (fun _ => ?_)
  refine r_iload_n d_158_25 rfl ?_
  refine r_iload_n d_158_26 rfl ?_
  refine r_icmp_eq (t := 45) d_158_27 rfl (fun hz => absurd hz (by omega)) (fun _ => ?_)
  refine r_iload d_158_30 rfl ?_
  refine r_iconst d_158_32 rfl ?_
  refine r_aload_n d_158_33 rfl (by omega) ?_
  refine r_getfv (ki := 1) d_158_34 q_158_13 rfl sh_217 hc.1 ?_
  refine r_iconst d_158_37 rfl ?_
  refine r_isub d_158_38 (by omega) ?_
  refine r_callsp d_158_39 q_158_118 rfl rfl (m_in M c 0 _) ?_
  rw [if_pos hcc]
  refine r_if_ne (t := 50) d_158_42 rfl (fun _ => ?_) (fun hz => absurd (by decide) hz)
  refine r_aload_n d_158_50 rfl (by omega) ?_
  refine r_callvr d_158_51 q_158_175 rfl rfl (m_leavesState M hv hc hH) (fun M1 hM1 => ?_)
  obtain ⟨hF1, h5, hH1⟩ := hM1
  have hc1 : cu M1 s := cu.fr hv hc hF1 (fun x y q => by unfold WL at q; omega)
  refine r_aload_n d_158_54 rfl (by omega) ?_
  refine r_getc (ki := 15) d_158_55 q_158_50 rfl sh_217 fx_217_15 (by omega) ?_
  refine r_iconst d_158_58 rfl ?_
  refine r_iload_n d_158_59 rfl ?_
  refine r_iastore d_158_60 sh_229 (by omega) (by omega) ?_
  refine r_aload_n d_158_61 rfl (by omega) ?_
  refine r_getc (ki := 15) d_158_62 q_158_50 rfl sh_217 fx_217_15 (by omega) ?_
  refine r_iconst d_158_65 rfl ?_
  refine r_iload_n d_158_66 rfl ?_
  refine r_iastore d_158_67 sh_229 (by omega) (by omega) ?_
  refine r_aload_n d_158_68 rfl (by omega) ?_
  refine r_getc (ki := 15) d_158_69 q_158_50 rfl sh_217 fx_217_15 (by omega) ?_
  refine r_iconst d_158_72 rfl ?_
  refine r_iload d_158_73 rfl ?_
  refine r_iastore d_158_75 sh_229 (by omega) (by omega) ?_
  have hFb : Fr (fun x _ => x = 229) M1 (up2 (up2 (up2 M1 229 0 i) 229 1 j) 229 2 c) := fun x y hx => by
    simp [up2, hx]
  have e0 : up2 (up2 (up2 M1 229 0 i) 229 1 j) 229 2 c 229 0 = i := by simp [up2]
  have e1 : up2 (up2 (up2 M1 229 0 i) 229 1 j) 229 2 c 229 1 = j := by simp [up2]
  have e2 : up2 (up2 (up2 M1 229 0 i) 229 1 j) 229 2 c 229 2 = c := by simp [up2]
  generalize up2 (up2 (up2 M1 229 0 i) 229 1 j) 229 2 c = Mb at *
  have hcb : cu Mb s := cu.fr hv hc1 hFb (fun x y q => by omega)
  have hsz := (hcb.2 k hk).1
  have hX := (hcb.2 k hk).2
  have fini := fun {M2 M3 : Mo} {P : Int → Int → Prop} {E : Nat → Nat → Nat → Int} => chg_fin (M2 := M2) (M3 := M3) (P := P) (E := E) (n := s.2.1 k) hv hc hk h6 hF1 h5 hH1
  generalize s.2.1 k = n at *
  generalize s.2.2 k = X at *
  have hnn : (n : Int) * (n : Int) = ((n * n : Nat) : Int) := (Int.natCast_mul n n).symm
  have hnn36 : n * n ≤ 36 := Nat.mul_le_mul h6 h6
  have hnn1 : 1 ≤ n * n := Nat.mul_le_mul h1 h1
  refine r_aload_n d_158_76 rfl (by omega) ?_
  refine r_getc (ki := 2) d_158_77 q_158_17 rfl sh_217 fx_217_2 (by omega) ?_
  refine r_iload_n d_158_80 rfl ?_
  refine r_ialoadv d_158_81 sh_219 (by omega) (by omega) hsz ?_
  refine r_istore d_158_82 rfl (stl_10_5 rfl rfl) ?_
  refine r_iconst d_158_84 rfl ?_
  refine r_istore d_158_85 rfl (stl_10_6 rfl rfl) ?_
  refine r_aload_n d_158_87 rfl (by omega) ?_
  refine r_callvr d_158_88 q_158_156 rfl rfl (m_clearsFresh Mb) (fun M2 hM2 => ?_)
  obtain ⟨f0, rfl, hf0⟩ := hM2
  have hpp : ∀ f, sr Mb 221 f 217 1 = pI s.1 := fun f => by rw [sr_ne _ _ (by decide)]; exact hcb.1
  generalize hB : trnE (pI s.1) X i j c = B at *
  refine r_iconst d_158_91 rfl ?_
  refine r_istore d_158_92 rfl (stl_10_7 rfl rfl) ?_
  refine dn_ind (R := fun g => ∀ (f : Int → Int) (y8 y9 : AV), fic 0 n B f (g.toNat * (n * n)) → Rn 158 94 [(2, 217), (0, (k : Int)), (0, (i : Int)), (0, (j : Int)), (0, c), (0, (n : Int)), (0, sm (tdf n B X) (g.toNat * (n * n))), (0, g), y8, y9] [] (sr Mb 221 f) _) (lo := 0) (n := 2) ?_ ?_ 0 (by omega) (by omega) f0 _ _ (by rw [show Int.toNat 0 = 0 from rfl, Nat.zero_mul]; exact fic.start) |> (fun k => by rw [show Int.toNat 0 = 0 from rfl, Nat.zero_mul] at k; exact k)
  · intro f y8 y9 hf
    rw [show Int.toNat 2 = 2 from rfl] at hf
    refine r_iload d_158_94 rfl ?_
    refine r_iconst d_158_96 rfl ?_
    refine r_icmp_ge (t := 207) d_158_97 rfl (fun _ => ?_) (fun hz => absurd (by omega) hz)
    refine r_aload_n d_158_207 rfl (by omega) ?_
    refine r_iload_n d_158_208 rfl ?_
    refine r_iload d_158_209 rfl ?_
    refine r_callvr d_158_211 q_158_159 rfl rfl (m_takesFresh (sr Mb 221 f) (k := k) (n := (n : Int)) (by omega)) (fun M3 hM3 => ?_)
    obtain ⟨hF3, hs3, hc3⟩ := hM3
    refine r_iload d_158_214 rfl ?_
    refine r_iret d_158_216 rt_158 ?_
    refine ⟨_, rfl, rfl, fini (P := fun x _ => x = 221 ∨ x = 229) (hFb.trans (Q := fun x _ => x = 221) (sr_fr (fun _ => rfl)) (fun x y q => Or.inr q) (fun x y q => Or.inl q)) (fun x y q => q.elim (fun q => Or.inl (Or.inr (Or.inl (by omega)))) Or.inr) hF3 hs3 hc3 (fun g i j a1 a2 a3 => ?_)⟩
    rw [sr_eq]
    have := hf.fin a1 a2 a3
    rw [← this]
    congr 1
    omega
  · intro g g1 g2 ih f y8 y9 hf
    have hsg := sm_01 (tdf_01 (n := n) (B := B) (X := X))
    have hgn : g.toNat * (n * n) ≤ 1 * (n * n) := Nat.mul_le_mul_right _ (by omega)
    refine r_iload d_158_94 rfl ?_
    refine r_iconst d_158_96 rfl ?_
    refine r_icmp_ge (t := 207) d_158_97 rfl (fun hz => absurd hz (by omega)) (fun _ => ?_)
    refine r_iconst d_158_100 rfl ?_
    refine r_istore d_158_101 rfl (stl_10_8 rfl rfl) ?_
    refine dn_ind (R := fun a => ∀ (f : Int → Int) (y9 : AV), fic 0 n B f (g.toNat * (n * n) + a.toNat) → Rn 158 103 [(2, 217), (0, (k : Int)), (0, (i : Int)), (0, (j : Int)), (0, c), (0, (n : Int)), (0, sm (tdf n B X) (g.toNat * (n * n) + a.toNat)), (0, g), (0, a), y9] [] (sr Mb 221 f) _) (lo := 0) (n := ((n * n : Nat) : Int)) ?_ ?_ 0 (by omega) (by omega) f _ hf
    · intro f y9 hf
      have e3 : g.toNat * (n * n) + ((n * n : Nat) : Int).toNat = (g + 1).toNat * (n * n) := by
        rw [Int.toNat_natCast, show (g + 1).toNat = g.toNat + 1 by omega, Nat.add_mul, Nat.one_mul]
      rw [e3] at hf ⊢
      refine r_iload d_158_103 rfl ?_
      refine r_iload d_158_105 rfl ?_
      refine r_iload d_158_107 rfl ?_
      refine r_imul d_158_109 (mr (a := 6) (b := 6) (by omega) (by omega) (by decide)) ?_
      rw [hnn]
      refine r_icmp_ge (t := 201) d_158_110 rfl (fun _ => ?_) (fun hz => absurd (by omega) hz)
      refine r_iinc d_158_201 rfl (by omega) (stl_10_7 rfl rfl) ?_
      refine r_goto (t := 94) d_158_204 rfl ?_
      exact ih _ _ _ hf
    · intro a a1 a2 ih2 f y9 hf
      obtain ⟨i', j', d1, d2, d3, d4, d5⟩ := adec h1 a1 a2
      have hgg : ((g.toNat : Nat) : Int) = g := by omega
      have hg2 : g.toNat < 2 := by omega
      have hX2 : ∀ f, ∀ g i j : Nat, g < 2 → i < n → j < n → sr Mb 221 f 220 (72 * k + 36 * g + 6 * i + j) = X g i j := fun f g i j q1 q2 q3 => by rw [sr_ne _ _ (by decide)]; exact hX g i j q1 q2 q3
      have htu := m_turned (sr Mb 221 f) (hpp f) (pI23 hv.1) hk h6 (hX2 f) hrg hi hj hcc (by rw [sr_ne _ _ (by decide)]; exact e0) (by rw [sr_ne _ _ (by decide)]; exact e1) (by rw [sr_ne _ _ (by decide)]; exact e2) hg2 d3 d4
      rw [hB, hgg] at htu
      have hold := fun f => hX2 f g.toNat i' j' hg2 d3 d4
      rw [hgg] at hold
      have hsr := hsg (g.toNat * (n * n) + a.toNat)
      generalize hmm : sm (tdf n B X) (g.toNat * (n * n) + a.toNat) = m at *
      refine r_iload d_158_103 rfl ?_
      refine r_iload d_158_105 rfl ?_
      refine r_iload d_158_107 rfl ?_
      refine r_imul d_158_109 (mr (a := 6) (b := 6) (by omega) (by omega) (by decide)) ?_
      rw [hnn]
      refine r_icmp_ge (t := 201) d_158_110 rfl (fun hz => absurd hz (by omega)) (fun _ => ?_)
      refine r_aload_n d_158_113 rfl (by omega) ?_
      refine r_iload_n d_158_114 rfl ?_
      refine r_iload d_158_115 rfl ?_
      refine r_iload d_158_117 rfl ?_
      refine r_iload d_158_119 rfl ?_
      refine r_idivn d_158_121 (by omega) (by omega) ?_
      refine r_iload d_158_122 rfl ?_
      refine r_iload d_158_124 rfl ?_
      refine r_iremn d_158_126 (by omega) (by omega) ?_
      refine r_aload_n d_158_127 rfl (by omega) ?_
      refine r_getc (ki := 15) d_158_128 q_158_50 rfl sh_217 fx_217_15 (by omega) ?_
      rw [d1, d2]
      refine r_callvp d_158_131 q_158_198 rfl rfl htu ?_
      refine r_istore d_158_134 rfl (stl_10_9 rfl rfl) ?_
      refine r_aload_n d_158_136 rfl (by omega) ?_
      refine r_getc (ki := 4) d_158_137 q_158_23 rfl sh_217 fx_217_4 (by omega) ?_
      refine r_iconst d_158_140 rfl ?_
      refine r_iload d_158_141 rfl ?_
      refine r_iload d_158_143 rfl ?_
      refine r_iload d_158_145 rfl ?_
      refine r_idivn d_158_147 (by omega) (by omega) ?_
      refine r_iload d_158_148 rfl ?_
      refine r_iload d_158_150 rfl ?_
      refine r_iremn d_158_152 (by omega) (by omega) ?_
      rw [d1, d2]
      refine r_callsp d_158_153 q_158_114 rfl rfl (m_cell _ 0 g i' j' (by omega) (by omega) (by omega) (by omega)) ?_
      refine r_iload d_158_156 rfl ?_
      refine r_iastore d_158_158 sh_221 (by omega) (by omega) ?_
      rw [up_sr]
      refine r_iload d_158_159 rfl ?_
      refine r_iload d_158_161 rfl ?_
      refine r_aload_n d_158_163 rfl (by omega) ?_
      refine r_getc (ki := 3) d_158_164 q_158_20 rfl sh_217 fx_217_3 (by omega) ?_
      refine r_iload_n d_158_167 rfl ?_
      refine r_iload d_158_168 rfl ?_
      refine r_iload d_158_170 rfl ?_
      refine r_iload d_158_172 rfl ?_
      refine r_idivn d_158_174 (by omega) (by omega) ?_
      refine r_iload d_158_175 rfl ?_
      refine r_iload d_158_177 rfl ?_
      refine r_iremn d_158_179 (by omega) (by omega) ?_
      rw [d1, d2]
      refine r_callsp d_158_180 q_158_114 rfl rfl (m_cell _ k g i' j' (by omega) (by omega) (by omega) (by omega)) ?_
      refine r_ialoadv d_158_183 sh_220 (by omega) (by omega) (hold _) ?_
      have ec := cenc (n := n) (g := g.toNat) ⟨h1, h6⟩ d3 d4
      have htd : tdf n B X (g.toNat * (n * n) + a.toNat) = if B g.toNat i' j' = X g.toNat i' j' then 0 else 1 := by
        unfold tdf
        rw [d5, ← Nat.add_assoc, ec.1, ec.2.1, ec.2.2]
      have hsum : sm (tdf n B X) (g.toNat * (n * n) + (a + 1).toNat) = m + tdf n B X (g.toNat * (n * n) + a.toNat) := by
        rw [show g.toNat * (n * n) + (a + 1).toNat = (g.toNat * (n * n) + a.toNat) + 1 by omega, ← hmm]
        rfl
      have hnext := ih2 (u1 f (72 * 0 + 36 * g + 6 * (i' : Int) + (j' : Int)) (B g.toNat i' j')) (0, B g.toNat i' j') (by
        rw [show g.toNat * (n * n) + (a + 1).toNat = (g.toNat * (n * n) + a.toNat) + 1 by omega]
        exact hf.put ⟨h1, h6⟩ d3 d4 (by rw [d5, ← Nat.add_assoc]) rfl (by omega))
      rw [hsum, htd] at hnext
      by_cases hq : B g.toNat i' j' = X g.toNat i' j'
      · rw [if_pos hq] at hnext
        refine r_icmp_ne (t := 191) d_158_184 rfl (fun hz => absurd hz (by omega)) (fun _ => ?_)
        refine r_iconst d_158_187 rfl ?_
        refine r_goto (t := 192) d_158_188 rfl ?_
        refine r_iadd d_158_192 (by omega) ?_
        refine r_istore d_158_193 rfl (stl_10_6 rfl rfl) ?_
        refine r_iinc d_158_195 rfl (by omega) (stl_10_8 rfl rfl) ?_
        refine r_goto (t := 103) d_158_198 rfl ?_
        exact hnext
      · rw [if_neg hq] at hnext
        refine r_icmp_ne (t := 191) d_158_184 rfl (fun _ => ?_) (fun hz => absurd hq hz)
        refine r_iconst d_158_191 rfl ?_
        refine r_iadd d_158_192 (by omega) ?_
        refine r_istore d_158_193 rfl (stl_10_6 rfl rfl) ?_
        refine r_iinc d_158_195 rfl (by omega) (stl_10_8 rfl rfl) ?_
        refine r_goto (t := 103) d_158_198 rfl ?_
        exact hnext
