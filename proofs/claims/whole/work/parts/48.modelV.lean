/-! The model: equations. -/
def NE (M : Mo) (a b c : Int → Int) : Mo := sr (sr (sr M 237 a) 238 b) 239 c
theorem NE_self (M : Mo) : NE M (M 237) (M 238) (M 239) = M := by
  funext x y
  unfold NE sr
  by_cases h1 : x = 239
  · simp [h1]
  · by_cases h2 : x = 238
    · simp [h2]
    · by_cases h3 : x = 237
      · simp [h3]
      · simp [h1, h2, h3]
theorem NE_a {M : Mo} {a b c : Int → Int} {y : Int} : NE M a b c 237 y = a y := by simp [NE, sr]
theorem NE_b {M : Mo} {a b c : Int → Int} {y : Int} : NE M a b c 238 y = b y := by simp [NE, sr]
theorem NE_c {M : Mo} {a b c : Int → Int} {y : Int} : NE M a b c 239 y = c y := by simp [NE, sr]
theorem NE_o {M : Mo} {a b c : Int → Int} {x y : Int} (hx : x ≠ 237 ∧ x ≠ 238 ∧ x ≠ 239) : NE M a b c x y = M x y := by simp [NE, sr, hx]
theorem NE_ua {M : Mo} {a b c : Int → Int} {i v : Int} : up2 (NE M a b c) 237 i v = NE M (u1 a i v) b c := by
  unfold NE
  rw [up_srn _ _ _ _ (by decide), up_srn _ _ _ _ (by decide), up_sr]
theorem NE_ub {M : Mo} {a b c : Int → Int} {i v : Int} : up2 (NE M a b c) 238 i v = NE M a (u1 b i v) c := by
  unfold NE
  rw [up_srn _ _ _ _ (by decide), up_sr]
theorem NE_uc {M : Mo} {a b c : Int → Int} {i v : Int} : up2 (NE M a b c) 239 i v = NE M a b (u1 c i v) := by
  unfold NE
  rw [up_sr]
theorem NE_fr {M : Mo} {a b c : Int → Int} : Fr W1 M (NE M a b c) := fun x y hn => by
  unfold W1 at hn
  exact NE_o (by omega)
/-- leading rows of a space, as the equations keep them -/
def LDs {e : Nat} (u : Nat) (S : Vc e → Prop) (L D : Int → Int) : Prop := ∀ c : Nat, c < u → (Lp S c → D c = 1 ∧ ∃ r, S r ∧ fp r c ∧ r c = 1 ∧ ∀ j : Nat, j < u → L (36 * c + j) = vl (r j)) ∧ (¬ Lp S c → D c = 0)
theorem m_isNew {e : Nat} (he : e ≤ 1) (M : Mo) (hp : M 217 1 = pI e) {u : Nat} (hu : u ≤ 36) {S : Vc e → Prop} (hS : Sub u S) {L D q : Int → Int} (hL : LDs u S L D) {x : Vc e} (hx : sup u x) (hq : ∀ j : Nat, j < u → q j = vl (x j)) : CI 185 [(2, 217), (0, (u : Int))] (NE M q L D) (fun z M' => (z = 0 ∧ S x ∧ ∃ q', M' = NE M q' L D) ∨ (z = 1 ∧ ¬ S x ∧ ∃ q' L' D', M' = NE M q' L' D' ∧ LDs u (ext S x) L' D')) := by
  refine Cl.intro (L := [(2, 217), (0, (u : Int)), (9, 0), (9, 0), (9, 0)]) (rcv_v ow_185.2.1 sh_217) (by unfold entl; rw [mx_185]; rfl) (by rw [mx_185]; exact Nat.le_of_ble_eq_true rfl) rfl ?_
  have h23 := pI23 he
  have hpb := h23.b
  have hp2 : ∀ a b c, NE M a b c 217 1 = pI e := fun a b c => (NE_o (by decide)).trans hp
  refine r_iconst d_185_0 rfl ?_
  refine r_istore_n d_185_1 rfl (stl_5_2 rfl rfl) ?_
  refine dn_ind (R := fun c => ∀ (q : Int → Int) (x' : Vc e) (y3 y4 : AV), sup u x' → (∀ j : Nat, j < u → q j = vl (x' j)) → S (lc x' (-1) x) → (∀ j : Nat, (j : Int) < c → x' j = 0) → Rn 185 2 [(2, 217), (0, (u : Int)), (0, c), y3, y4] [] (NE M q L D) _) (lo := 0) (n := (u : Int)) ?_ ?_ 0 (by omega) (by omega) q x _ _ hx hq (by rw [lc_neg]; exact hS.1) (fun j hj => by omega)
  · intro q x' y3 y4 g1 g2 g3 g4
    refine r_iload_n d_185_2 rfl ?_
    refine r_iload_n d_185_3 rfl ?_
    refine r_icmp_ge (t := 153) d_185_4 rfl (fun _ => ?_) (fun hz => absurd (by omega) hz)
    refine r_iconst d_185_153 rfl ?_
    refine r_zret d_185_154 rt_185 (by omega) ?_
    refine ⟨_, rfl, Or.inl ⟨rfl, ?_, q, rfl⟩⟩
    have hz : x' = z0 := sup_ext g1 sup_z0 (fun i hi => g4 i (by omega))
    rw [hz] at g3
    have h2 := sub_sc hS g3 (-1)
    have e2 : (fun j => -1 * lc z0 (-1) x j) = x := by
      funext j
      unfold lc z0
      grind
    rw [e2] at h2
    exact h2
  · intro c c1 c2 ih q x' y3 y4 g1 g2 g3 g4
    have hcu : c.toNat < u := by omega
    have hqc := g2 c.toNat hcu
    rw [show ((c.toNat : Nat) : Int) = c by omega] at hqc
    have hLc := hL c.toNat hcu
    rw [show ((c.toNat : Nat) : Int) = c by omega] at hLc
    have hxb := vl_b he (x' c.toNat)
    have hmore : ∀ j : Nat, (j : Int) < c + 1 → (j : Int) < c ∨ j = c.toNat := fun j hj => by omega
    refine r_iload_n d_185_2 rfl ?_
    refine r_iload_n d_185_3 rfl ?_
    refine r_icmp_ge (t := 153) d_185_4 rfl (fun hz => absurd hz (by omega)) (fun _ => ?_)
    refine r_aload_n d_185_7 rfl (by omega) ?_
    refine r_getc (ki := 25) d_185_8 q_185_74 rfl sh_217 fx_217_25 (by omega) ?_
    refine r_iload_n d_185_11 rfl ?_
    refine r_ialoadv d_185_12 sh_237 (by omega) (by omega) (NE_a.trans hqc) ?_
    by_cases hz : x' c.toNat = 0
    · have hvz := vl_eq0.mpr hz
      refine r_if_eq (t := 82) d_185_13 rfl (fun _ => ?_) (fun hz => absurd hvz hz)
      refine r_aload_n d_185_82 rfl (by omega) ?_
      refine r_getc (ki := 25) d_185_83 q_185_74 rfl sh_217 fx_217_25 (by omega) ?_
      refine r_iload_n d_185_86 rfl ?_
      refine r_ialoadv d_185_87 sh_237 (by omega) (by omega) (NE_a.trans (hqc.trans hvz)) ?_
      refine r_istore_n d_185_88 rfl (stl_5_3 rfl rfl) ?_
      refine r_iload_n d_185_89 rfl ?_
      refine r_istore d_185_90 rfl (stl_5_4 rfl rfl) ?_
      refine r_iload d_185_92 rfl ?_
      refine r_iload_n d_185_94 rfl ?_
      refine r_icmp_ge (t := 147) d_185_95 rfl (fun hz => absurd hz (by omega)) (fun _ => ?_)
      refine r_iload_n d_185_98 rfl ?_
      refine r_if_eq (t := 147) d_185_99 rfl (fun _ => ?_) (fun hz => absurd (by decide) hz)
      refine r_iinc d_185_147 rfl (by omega) (stl_5_2 rfl rfl) ?_
      refine r_goto (t := 2) d_185_150 rfl ?_
      refine ih q x' _ _ g1 g2 g3 (fun j hj => ?_)
      rcases hmore j hj with p | p
      · exact g4 j p
      · rw [p]
        exact hz
    · have hvz : vl (x' c.toNat) ≠ 0 := fun p => hz (vl_eq0.mp p)
      have hfp : fp x' c.toNat := ⟨hz, fun j hj => g4 j (by omega)⟩
      refine r_if_eq (t := 82) d_185_13 rfl (fun hz => absurd hz hvz) (fun _ => ?_)
      by_cases hLp : Lp S c.toNat
      · obtain ⟨hD, r, r1, r2, r3, r4⟩ := hLc.1 hLp
        have hsupr := hS.2.2 r r1
        refine r_aload_n d_185_16 rfl (by omega) ?_
        refine r_getc (ki := 27) d_185_17 q_185_80 rfl sh_217 fx_217_27 (by omega) ?_
        refine r_iload_n d_185_20 rfl ?_
        refine r_ialoadv d_185_21 sh_239 (by omega) (by omega) (NE_c.trans hD) ?_
        refine r_if_ne (t := 82) d_185_22 rfl (fun _ => ?_) (fun hz => absurd (by decide) hz)
        refine r_aload_n d_185_82 rfl (by omega) ?_
        refine r_getc (ki := 25) d_185_83 q_185_74 rfl sh_217 fx_217_25 (by omega) ?_
        refine r_iload_n d_185_86 rfl ?_
        refine r_ialoadv d_185_87 sh_237 (by omega) (by omega) (NE_a.trans hqc) ?_
        refine r_istore_n d_185_88 rfl (stl_5_3 rfl rfl) ?_
        refine r_iload_n d_185_89 rfl ?_
        refine r_istore d_185_90 rfl (stl_5_4 rfl rfl) ?_
        -- reduce
        refine dn_ind (R := fun f => ∀ q' : Int → Int, (∀ j : Nat, j < u → (j : Int) < f → q' j = vl (lc x' (-(x' c.toNat)) r j)) → (∀ j : Nat, j < u → f ≤ (j : Int) → q' j = vl (x' j)) → Rn 185 92 [(2, 217), (0, (u : Int)), (0, c), (0, vl (x' c.toNat)), (0, f)] [] (NE M q' L D) _) (lo := c) (n := (u : Int)) ?_ ?_ c (by omega) (by omega) q (fun j j1 j2 => ?_) (fun j j1 j2 => g2 j j1)
        · intro q' k1 k2
          refine r_iload d_185_92 rfl ?_
          refine r_iload_n d_185_94 rfl ?_
          refine r_icmp_ge (t := 147) d_185_95 rfl (fun _ => ?_) (fun hz => absurd (by omega) hz)
          refine r_iinc d_185_147 rfl (by omega) (stl_5_2 rfl rfl) ?_
          refine r_goto (t := 2) d_185_150 rfl ?_
          refine ih q' (lc x' (-(x' c.toNat)) r) _ _ (sup_lc g1 hsupr) (fun j hj => k1 j hj (by omega)) ?_ (fun j hj => ?_)
          · have h1 := hS.2.1 _ _ (-(x' c.toNat)) g3 r1
            have e1 : lc (lc x' (-1) x) (-(x' c.toNat)) r = lc (lc x' (-(x' c.toNat)) r) (-1) x := by
              funext j
              unfold lc
              grind
            rw [e1] at h1
            exact h1
          · show x' j + -(x' c.toNat) * r j = 0
            rcases hmore j hj with p | p
            · rw [g4 j p, r2.2 j (by omega)]
              grind
            · rw [p, r3]
              grind
        · intro f f1 f2 ih2 q' k1 k2
          have hqf := k2 f.toNat (by omega) (by omega)
          rw [show ((f.toNat : Nat) : Int) = f by omega] at hqf
          have hLf := r4 f.toNat (by omega)
          rw [show ((f.toNat : Nat) : Int) = f by omega] at hLf
          have b1 := vl_b he (x' f.toNat)
          have b2 := vl_b he (r f.toNat)
          have b3 := mb (a := 3) (b := 2) (x := pI e - vl (x' c.toNat)) (y := vl (r f.toNat)) (by have := vl_rng (x' c.toNat); omega) b2
          have hval : (vl (x' f.toNat) + (pI e - vl (x' c.toNat)) * vl (r f.toNat)) % pI e = vl (lc x' (-(x' c.toNat)) r f.toNat) := by
            unfold lc
            have h9 : (pI e - vl (x' c.toNat)) % pI e * vl (r f.toNat) % pI e = (pI e - vl (x' c.toNat)) * vl (r f.toNat) % pI e := by rw [Int.mul_emod, Int.emod_emod, ← Int.mul_emod]
            rw [vl_add, vl_mul, ← kI_neg, vl_kI, h9, Int.add_emod_emod]
          refine r_iload d_185_92 rfl ?_
          refine r_iload_n d_185_94 rfl ?_
          refine r_icmp_ge (t := 147) d_185_95 rfl (fun hz => absurd hz (by omega)) (fun _ => ?_)
          refine r_iload_n d_185_98 rfl ?_
          refine r_if_eq (t := 147) d_185_99 rfl (fun hz => absurd hz hvz) (fun _ => ?_)
          refine r_aload_n d_185_102 rfl (by omega) ?_
          refine r_getc (ki := 25) d_185_103 q_185_74 rfl sh_217 fx_217_25 (by omega) ?_
          refine r_iload d_185_106 rfl ?_
          refine r_aload_n d_185_108 rfl (by omega) ?_
          refine r_getc (ki := 25) d_185_109 q_185_74 rfl sh_217 fx_217_25 (by omega) ?_
          refine r_iload d_185_112 rfl ?_
          refine r_ialoadv d_185_114 sh_237 (by omega) (by omega) (NE_a.trans hqf) ?_
          refine r_aload_n d_185_115 rfl (by omega) ?_
          refine r_getfv (ki := 1) d_185_116 q_185_13 rfl sh_217 (hp2 _ _ _) ?_
          refine r_iload_n d_185_119 rfl ?_
          refine r_isub d_185_120 (by omega) ?_
          refine r_aload_n d_185_121 rfl (by omega) ?_
          refine r_getc (ki := 26) d_185_122 q_185_77 rfl sh_217 fx_217_26 (by omega) ?_
          refine r_bipush d_185_125 rfl ?_
          refine r_iload_n d_185_127 rfl ?_
          refine r_imul d_185_128 (by omega) ?_
          refine r_iload d_185_129 rfl ?_
          refine r_iadd d_185_131 (by omega) ?_
          refine r_ialoadv d_185_132 sh_238 (by omega) (by omega) (NE_b.trans hLf) ?_
          refine r_imul d_185_133 (by omega) ?_
          refine r_iadd d_185_134 (by omega) ?_
          refine r_aload_n d_185_135 rfl (by omega) ?_
          refine r_getfv (ki := 1) d_185_136 q_185_13 rfl sh_217 (hp2 _ _ _) ?_
          refine r_iremn d_185_139 (by omega) (by omega) ?_
          rw [hval]
          refine r_iastore d_185_140 sh_237 (by omega) (by omega) ?_
          rw [NE_ua]
          refine r_iinc d_185_141 rfl (by omega) (stl_5_4 rfl rfl) ?_
          refine r_goto (t := 92) d_185_144 rfl ?_
          refine ih2 _ (fun j j1 j2 => ?_) (fun j j1 j2 => ?_)
          · by_cases hj : (j : Int) = f
            · rw [hj, u1_eq, show j = f.toNat by omega]
            · rw [u1_ne _ _ hj]
              exact k1 j j1 (by omega)
          · rw [u1_ne _ _ (by omega)]
            exact k2 j j1 (by omega)
        · have hr0 := r2.2 j (by omega)
          rw [g2 j j1]
          unfold lc
          rw [hr0]
          congr 1
          grind
      · have hD := hLc.2 hLp
        have hnS : ¬ S x := fun hSx => by
          have h1 := hS.2.1 _ _ 1 g3 hSx
          have e1 : lc (lc x' (-1) x) 1 x = x' := by
            funext j
            unfold lc
            grind
          rw [e1] at h1
          exact hLp ⟨x', h1, hfp⟩
        refine r_aload_n d_185_16 rfl (by omega) ?_
        refine r_getc (ki := 27) d_185_17 q_185_80 rfl sh_217 fx_217_27 (by omega) ?_
        refine r_iload_n d_185_20 rfl ?_
        refine r_ialoadv d_185_21 sh_239 (by omega) (by omega) (NE_c.trans hD) ?_
        refine r_if_ne (t := 82) d_185_22 rfl (fun hz => absurd hz (by decide)) (fun _ => ?_)
        refine r_aload_n d_185_25 rfl (by omega) ?_
        refine r_getc (ki := 25) d_185_26 q_185_74 rfl sh_217 fx_217_25 (by omega) ?_
        refine r_iload_n d_185_29 rfl ?_
        refine r_ialoadv d_185_30 sh_237 (by omega) (by omega) (NE_a.trans hqc) ?_
        refine r_istore_n d_185_31 rfl (stl_5_3 rfl rfl) ?_
        refine r_iconst d_185_32 rfl ?_
        refine r_istore d_185_33 rfl (stl_5_4 rfl rfl) ?_
        refine dn_ind (R := fun f => ∀ L' : Int → Int, (∀ j : Nat, (j : Int) < f → L' (36 * c + j) = vl (x' c.toNat * x' j)) → (∀ i j : Nat, i < u → j < u → i ≠ c.toNat → L' (36 * i + j) = L (36 * i + j)) → Rn 185 35 [(2, 217), (0, (u : Int)), (0, c), (0, vl (x' c.toNat)), (0, f)] [] (NE M q L' D) _) (lo := 0) (n := (u : Int)) ?_ ?_ 0 (by omega) (by omega) L (fun j hj => by omega) (fun i j _ _ _ => rfl)
        · intro L' k1 k2
          refine r_iload d_185_35 rfl ?_
          refine r_iload_n d_185_37 rfl ?_
          refine r_icmp_ge (t := 73) d_185_38 rfl (fun _ => ?_) (fun hz => absurd (by omega) hz)
          refine r_aload_n d_185_73 rfl (by omega) ?_
          refine r_getc (ki := 27) d_185_74 q_185_80 rfl sh_217 fx_217_27 (by omega) ?_
          refine r_iload_n d_185_77 rfl ?_
          refine r_iconst d_185_78 rfl ?_
          refine r_iastore d_185_79 sh_239 (by omega) (by omega) ?_
          rw [NE_uc]
          refine r_iconst d_185_80 rfl ?_
          refine r_zret d_185_81 rt_185 (by omega) ?_
          refine ⟨_, rfl, Or.inr ⟨rfl, hnS, q, L', _, rfl, fun i hi => ?_⟩⟩
          obtain ⟨i0, i1, i2, i3⟩ := Lp_ext he hS hx hnS
          have hx'e : ext S x x' := ⟨-1, g3⟩
          have hci : c.toNat = i0 := by
            rcases (i3 c.toNat).mp ⟨x', hx'e, hfp⟩ with p | p
            · exact absurd p hLp
            · exact p
          have hes := ext_sub hS hx
          by_cases hic : i = c.toNat
          · subst hic
            refine ⟨fun _ => ⟨by rw [show ((c.toNat : Nat) : Int) = c by omega, u1_eq], fun j => x' c.toNat * x' j, sub_sc hes hx'e _, ⟨?_, fun j hj => ?_⟩, sq1 he hz, fun j hj => ?_⟩, fun p => absurd ((i3 c.toNat).mpr (Or.inr hci)) p⟩
            · show x' c.toNat * x' c.toNat ≠ 0
              rw [sq1 he hz]
              exact k10
            · show x' c.toNat * x' j = 0
              rw [hfp.2 j hj]
              grind
            · rw [show ((c.toNat : Nat) : Int) = c by omega]
              exact k1 j (by omega)
          · have hLi := hL i hi
            have hiff : Lp (ext S x) i ↔ Lp S i := by
              rw [i3 i]
              exact ⟨fun p => p.elim id (fun p => absurd (p.trans hci.symm) hic), Or.inl⟩
            rw [hiff, u1_ne _ _ (by omega)]
            refine ⟨fun p => ?_, hLi.2⟩
            obtain ⟨d1, r, r1, r2, r3, r4⟩ := hLi.1 p
            exact ⟨d1, r, ext_old r1, r2, r3, fun j hj => by rw [k2 i j hi hj hic]; exact r4 j hj⟩
        · intro f f1 f2 ih2 L' k1 k2
          have hqf := g2 f.toNat (by omega)
          rw [show ((f.toNat : Nat) : Int) = f by omega] at hqf
          have b1 := vl_b he (x' f.toNat)
          have b3 := mb b1 hxb
          have hval : vl (x' f.toNat) * vl (x' c.toNat) % pI e = vl (x' c.toNat * x' f.toNat) := by
            rw [vl_mul, Int.mul_comm]
          refine r_iload d_185_35 rfl ?_
          refine r_iload_n d_185_37 rfl ?_
          refine r_icmp_ge (t := 73) d_185_38 rfl (fun hz => absurd hz (by omega)) (fun _ => ?_)
          refine r_aload_n d_185_41 rfl (by omega) ?_
          refine r_getc (ki := 26) d_185_42 q_185_77 rfl sh_217 fx_217_26 (by omega) ?_
          refine r_bipush d_185_45 rfl ?_
          refine r_iload_n d_185_47 rfl ?_
          refine r_imul d_185_48 (by omega) ?_
          refine r_iload d_185_49 rfl ?_
          refine r_iadd d_185_51 (by omega) ?_
          refine r_aload_n d_185_52 rfl (by omega) ?_
          refine r_getc (ki := 25) d_185_53 q_185_74 rfl sh_217 fx_217_25 (by omega) ?_
          refine r_iload d_185_56 rfl ?_
          refine r_ialoadv d_185_58 sh_237 (by omega) (by omega) (NE_a.trans hqf) ?_
          refine r_iload_n d_185_59 rfl ?_
          refine r_imul d_185_60 (by omega) ?_
          refine r_aload_n d_185_61 rfl (by omega) ?_
          refine r_getfv (ki := 1) d_185_62 q_185_13 rfl sh_217 (hp2 _ _ _) ?_
          refine r_iremn d_185_65 (by omega) (by omega) ?_
          rw [hval]
          refine r_iastore d_185_66 sh_238 (by omega) (by omega) ?_
          rw [NE_ub]
          refine r_iinc d_185_67 rfl (by omega) (stl_5_4 rfl rfl) ?_
          refine r_goto (t := 35) d_185_70 rfl ?_
          refine ih2 _ (fun j hj => ?_) (fun i j i1 j1 hi => ?_)
          · by_cases hjf : (j : Int) = f
            · rw [hjf, u1_eq, show j = f.toNat by omega]
            · rw [u1_ne _ _ (by omega)]
              exact k1 j (by omega)
          · rw [u1_ne _ _ (by omega)]
            exact k2 i j i1 j1 hi
