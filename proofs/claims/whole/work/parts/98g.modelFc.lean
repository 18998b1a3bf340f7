/-! The model: cuts. -/
section
variable {e n : Nat}
def ud {α : Type} (f : Nat → α) (i : Nat) (x : α) : Nat → α := fun b => if b = i then x else f b
theorem ud_e {α : Type} {f : Nat → α} {i : Nat} {x : α} : ud f i x i = x := if_pos rfl
theorem ud_n {α : Type} {f : Nat → α} {i b : Nat} {x : α} (h : b ≠ i) : ud f i x b = f b := if_neg h
def sN (f : Nat → Nat) : Nat → Nat
  | 0 => 0
  | p + 1 => sN f p + f p
theorem sN_ge {f : Nat → Nat} : ∀ {p : Nat}, (∀ b, b < p → 1 ≤ f b) → p ≤ sN f p
  | 0, _ => Nat.le_refl 0
  | p + 1, h => by
    have h1 := sN_ge (p := p) (fun b hb => h b (by omega))
    have h2 := h p (by omega)
    show p + 1 ≤ sN f p + f p
    omega
theorem sN_cg {f g : Nat → Nat} : ∀ {p : Nat}, (∀ b, b < p → f b = g b) → sN f p = sN g p
  | 0, _ => rfl
  | p + 1, h => by
    show sN f p + f p = sN g p + g p
    rw [sN_cg (fun b hb => h b (by omega)), h p (by omega)]
theorem sN_u {f : Nat → Nat} {i d : Nat} : ∀ {p : Nat}, i < p → sN (ud f i d) p + f i = sN f p + d
  | 0, h => by omega
  | p + 1, h => by
    show sN (ud f i d) p + ud f i d p + f i = sN f p + f p + d
    by_cases q : i = p
    · rw [q, ud_e, sN_cg (f := ud f p d) (g := f) (fun b hb => ud_n (by omega))]
      omega
    · have := sN_u (f := f) (i := i) (d := d) (p := p) (by omega)
      rw [ud_n (fun z => q z.symm)]
      omega
theorem sN_cut {f : Nat → Nat} {i d p : Nat} (hi : i < p) (hd : d ≤ f i) : sN (ud (ud f i d) p (f i - d)) (p + 1) = sN f p := by
  show sN (ud (ud f i d) p (f i - d)) p + ud (ud f i d) p (f i - d) p = sN f p
  rw [ud_e, sN_cg (f := ud (ud f i d) p (f i - d)) (g := ud f i d) (fun b hb => ud_n (by omega))]
  have := sN_u (f := f) (i := i) (d := d) hi
  omega
theorem sN_le {f : Nat → Nat} {i : Nat} : ∀ {p : Nat}, i < p → f i ≤ sN f p
  | 0, h => by omega
  | p + 1, h => by
    show f i ≤ sN f p + f p
    by_cases q : i = p
    · rw [q]
      omega
    · have := sN_le (f := f) (i := i) (p := p) (by omega)
      omega
theorem fl_cg {α : Type} {f g : Nat → List α} : ∀ {p : Nat}, (∀ b, b < p → f b = g b) → (List.range p).flatMap f = (List.range p).flatMap g
  | 0, _ => rfl
  | p + 1, h => by
    rw [List.range_succ, List.flatMap_append, List.flatMap_append, fl_cg (fun b hb => h b (by omega))]
    congr 1
    show f p ++ [] = g p ++ []
    rw [h p (by omega)]
theorem fl_s {α : Type} {f : Nat → List α} {p : Nat} : (List.range (p + 1)).flatMap f = (List.range p).flatMap f ++ f p := by
  rw [List.range_succ, List.flatMap_append]
  congr 1
  exact List.append_nil _
theorem fl_u {α : Type} {f : Nat → List α} {i : Nat} {X : List α} : ∀ {p : Nat}, i < p → ((List.range p).flatMap (ud f i (f i ++ X))).Perm ((List.range p).flatMap f ++ X)
  | 0, h => by omega
  | p + 1, h => by
    rw [fl_s, fl_s]
    by_cases q : i = p
    · subst q
      rw [ud_e, fl_cg (f := ud f i (f i ++ X)) (g := f) (fun b hb => ud_n (by omega)), List.append_assoc]
    · rw [ud_n (fun z => q z.symm)]
      refine ((fl_u (p := p) (by omega)).append_right _).trans ?_
      rw [List.append_assoc, List.append_assoc]
      exact List.perm_append_comm.append_left _
variable {A : Nat → Nat → Nat → Kf e}
theorem sim_of (he : e ≤ 1) (h1 : 1 ≤ n) (h6 : n ≤ 6) (h : isSim n A) : smM n A := by
  refine ⟨h1, h6, fun X hX => ?_⟩
  by_cases q : ∀ x, X x → x = z0
  · exact Or.inl q
  · right
    obtain ⟨x, x1, x2⟩ : ∃ x, X x ∧ x ≠ z0 := Classical.byContradiction (fun z => q (fun x hx => Classical.byContradiction (fun y => z ⟨x, hx, y⟩)))
    have hx := hX.1.2.2 x x1
    obtain ⟨b1, b2, b3⟩ := num_pos he hx x2
    have hl := h (num n x) b1 b2
    rw [sl_dm he, b3] at hl
    have hok := spS_ok (A := A) he h6 hx
    intro v hv
    exact spS_min hX.1 hX.2 x1 v (dm_all he hok.1 (SI_all (A := A)).1 (fun w hw => hok.1.2.2 w hw) (by rw [dm_sup he]; omega) v hv)
def WCu (x y : Int) : Prop := W1 x y ∨ (x = 219 ∧ 4 ≤ y ∧ y ≤ 9) ∨ (x = 220 ∧ 288 ≤ y ∧ y < 720) ∨ (x = 217 ∧ (y = 5 ∨ y = 16)) ∨ x = 230 ∨ x = 231
def cutI (M : Mo) (n : Nat) (A : Nat → Nat → Nat → Kf e) (p i : Nat) (sz : Nat → Nat) (B : Nat → Nat → Nat → Nat → Kf e) : Prop := i ≤ p ∧ 1 ≤ p ∧ sN sz p = n ∧ (∀ b : Nat, b < p → 1 ≤ sz b ∧ MM e M (4 + (b : Int)) (sz b) (B b)) ∧ (∀ b : Nat, b < i → isSim (sz b) (B b)) ∧ ∀ Ls : Nat → List (Nat × List Int), (∀ b : Nat, b < p → MLs (sz b) (B b) (Ls b)) → ∃ L, MLs n A L ∧ L.Perm ((List.range p).flatMap Ls)
def CT (M : Mo) (n : Nat) (A : Nat → Nat → Nat → Kf e) : Prop := ∃ (p : Nat) (sz : Nat → Nat) (B : Nat → Nat → Nat → Nat → Kf e) (F : Nat → Nat → Int) (O : List Nat), 1 ≤ p ∧ p ≤ 6 ∧ M 217 16 = p ∧ (∀ b : Nat, b < p → MM e M (4 + (b : Int)) (sz b) (B b) ∧ smM (sz b) (B b) ∧ canP (sz b) (B b) (F b) ∧ ∀ c : Nat, c < 2 * (sz b * sz b) → M 230 (72 * b + c) = F b c ∧ 0 ≤ F b c ∧ F b c ≤ 2) ∧ O.Perm (List.range p) ∧ O.Pairwise (rlT sz F) ∧ (∀ q : Nat, q < p → M 231 q = (O.getD q 0 : Nat)) ∧ ∃ L, MLs n A L ∧ L.Perm ((List.range p).map (fun b => ty (sz b) (F b)))
def ctQ (M : Mo) (k : Int) (n : Nat) (A : Nat → Nat → Nat → Kf e) (r : Option AV) (M' : Mo) : Prop := r = none ∧ Fr WCu M M' ∧ M' 217 5 = k ∧ CT M' n A
/-- the end: telling and sorting -/
theorem ct_tell (he : e ≤ 1) {M M1 : Mo} (hp : M1 217 1 = pI e) (hF : Fr WCu M M1) (hn6 : n ≤ 6) {k : Int} {p : Nat} {sz : Nat → Nat} {B : Nat → Nat → Nat → Nat → Kf e} (hI : cutI M1 n A p p sz B) (hpc : M1 217 16 = p) {y2 : Int} {y3 : AV} : Rn 178 129 [(2, 217), (0, k), (0, y2), y3] [] M1 (ctQ M k n A) := by
  obtain ⟨-, i2, i3, i4, i5, i6⟩ := hI
  have hp6 : p ≤ 6 := by
    have := sN_ge (f := sz) (p := p) (fun b hb => (i4 b hb).1)
    omega
  have hs6 : ∀ b : Nat, b < p → sz b ≤ 6 := fun b hb => by
    have := sN_le (f := sz) hb
    omega
  have hsm : ∀ b : Nat, b < p → smM (sz b) (B b) := fun b hb => sim_of he (i4 b hb).1 (hs6 b hb) (i5 b hb)
  refine r_iconst d_178_129 rfl ?_
  refine r_istore_n d_178_130 rfl (stl_4_3 rfl rfl) ?_
  refine dn_ind (R := fun j => ∀ (M2 : Mo) (F : Nat → Nat → Int), Fr WCu M M2 → M2 217 1 = pI e → M2 217 16 = p → (∀ b : Nat, b < p → MM e M2 (4 + (b : Int)) (sz b) (B b)) → (∀ b : Nat, (b : Int) < j → canP (sz b) (B b) (F b) ∧ ∀ c : Nat, c < 2 * (sz b * sz b) → M2 230 (72 * b + c) = F b c ∧ 0 ≤ F b c ∧ F b c ≤ 2) → Rn 178 131 [(2, 217), (0, k), (0, y2), (0, j)] [] M2 _) (lo := 0) (n := (p : Int)) ?_ ?_ 0 (by omega) (by omega) M1 (fun _ _ => 0) hF hp hpc (fun b hb => (i4 b hb).2) (fun b hb => by omega)
  · intro M2 F hF2 hp2 hpc2 hMM hcan
    refine r_iload_n d_178_131 rfl ?_
    refine r_aload_n d_178_132 rfl (by omega) ?_
    refine r_getfv (ki := 16) d_178_133 q_178_226 rfl sh_217 hpc2 ?_
    refine r_icmp_ge (t := 150) d_178_136 rfl (fun _ => ?_) (fun hz => absurd (by omega) hz)
    refine r_aload_n d_178_150 rfl (by omega) ?_
    refine r_callvr d_178_151 q_178_235 rfl rfl (m_sorts hp6 hpc2 (sz := sz) (F := F) (fun b hb => ⟨hs6 b hb, (hMM b hb).1⟩) (fun b hb => (hcan b (by omega)).2)) (fun M3 hM3 => ?_)
    obtain ⟨hF3, O, o1, o2, o3⟩ := hM3
    refine r_aload_n d_178_154 rfl (by omega) ?_
    refine r_iload_n d_178_155 rfl ?_
    refine r_putf (ki := 5) d_178_156 q_178_26 rfl sh_217 fx_217_5 ?_
    refine r_vret d_178_159 rt_178 ?_
    have hF4 : Fr (fun x y => x = 231 ∨ x = 217 ∧ y = 5) M2 (up2 M3 217 5 k) := fun x y h => by
      rw [uq_ne (by omega)]
      exact hF3 x y (by omega)
    refine ⟨rfl, hF2.trans hF4 (fun x y q => q) (fun x y q => by unfold WCu; omega), uq_eq, p, sz, B, F, O, i2, hp6, ?_, fun b hb => ⟨?_, hsm b hb, (hcan b (by omega)).1, fun c hc => ?_⟩, o1, o2, fun q hq => ?_, ?_⟩
    · rw [hF4 _ _ (by omega)]
      exact hpc2
    · exact (hMM b hb).fr hF4 (fun x y q1 q2 => by unfold WK at q1; omega)
    · rw [hF4 _ _ (by omega)]
      exact (hcan b (by omega)).2 c hc
    · rw [uq_ne (by omega)]
      exact o3 q hq
    · obtain ⟨L, l1, l2⟩ := i6 (fun b => [ty (sz b) (F b)]) (fun b hb => MLs_sim (hsm b hb) (hcan b (by omega)).1)
      refine ⟨L, l1, ?_⟩
      rw [List.map_eq_flatMap]
      exact l2
  · intro j j1 j2 ih M2 F hF2 hp2 hpc2 hMM hcan
    have hj : ((j.toNat : Nat) : Int) = j := by omega
    refine r_iload_n d_178_131 rfl ?_
    refine r_aload_n d_178_132 rfl (by omega) ?_
    refine r_getfv (ki := 16) d_178_133 q_178_226 rfl sh_217 hpc2 ?_
    refine r_icmp_ge (t := 150) d_178_136 rfl (fun hz => absurd hz (by omega)) (fun _ => ?_)
    refine r_aload_n d_178_139 rfl (by omega) ?_
    refine r_iload_n d_178_140 rfl ?_
    have htp := m_tellsPiece he M2 hp2 (a := j.toNat) (by omega) (hMM j.toNat (by omega)) (hsm j.toNat (by omega))
    rw [hj] at htp
    refine r_callvr d_178_141 q_178_232 rfl rfl (htp) (fun M3 hM3 => ?_)
    obtain ⟨hF3, G, g1, g2⟩ := hM3
    refine r_iinc d_178_144 rfl (by omega) (stl_4_3 rfl rfl) ?_
    refine r_goto (t := 131) d_178_147 rfl ?_
    refine ih M3 (ud F j.toNat G) (hF2.trans hF3 (fun x y q => q) (fun x y q => q.elim Or.inl (fun q => by unfold WCu; omega))) ((hF3 _ _ (by unfold WT W1; omega)).trans hp2) ((hF3 _ _ (by unfold WT W1; omega)).trans hpc2) (fun b hb => (hMM b hb).wt hF3) (fun b hb => ?_)
    by_cases q : b = j.toNat
    · subst q
      rw [ud_e]
      exact ⟨g1, fun c hc => by rw [hj]; exact g2 c hc⟩
    · rw [ud_n q]
      refine ⟨(hcan b (by omega)).1, fun c hc => ?_⟩
      have h36 : sz b * sz b ≤ 36 := Nat.mul_le_mul (hs6 b (by omega)) (hs6 b (by omega))
      rw [hF3 _ _ (by unfold WT W1; omega)]
      exact (hcan b (by omega)).2 c hc
/-- the loop of cuts -/
theorem ct_loop (he : e ≤ 1) {M : Mo} (hn6 : n ≤ 6) {k : Int} : ∀ (f : Nat) {M1 : Mo} {p i : Nat} {sz : Nat → Nat} {B : Nat → Nat → Nat → Nat → Kf e} {y3 : AV}, 12 ≤ f + i + p → M1 217 1 = pI e → Fr WCu M M1 → cutI M1 n A p i sz B → M1 217 16 = p → Rn 178 58 [(2, 217), (0, k), (0, (i : Int)), y3] [] M1 (ctQ M k n A) := by
  intro f
  induction f with
  | zero =>
    intro M1 p i sz B y3 hf hp hF hI hpc
    have hp6 : p ≤ 6 := by
      have := sN_ge (f := sz) (p := p) (fun b hb => (hI.2.2.2.1 b hb).1)
      have := hI.2.2.1
      omega
    have hip : i = p := by
      have := hI.1
      omega
    subst hip
    refine r_iload_n d_178_58 rfl ?_
    refine r_aload_n d_178_59 rfl (by omega) ?_
    refine r_getfv (ki := 16) d_178_60 q_178_226 rfl sh_217 hpc ?_
    refine r_icmp_ge (t := 129) d_178_63 rfl (fun _ => ?_) (fun hz => absurd (by omega) hz)
    exact ct_tell he hp hF hn6 hI hpc
  | succ f ih =>
    intro M1 p i sz B y3 hf hp hF hI hpc
    by_cases hip : i = p
    · subst hip
      refine r_iload_n d_178_58 rfl ?_
      refine r_aload_n d_178_59 rfl (by omega) ?_
      refine r_getfv (ki := 16) d_178_60 q_178_226 rfl sh_217 hpc ?_
      refine r_icmp_ge (t := 129) d_178_63 rfl (fun _ => ?_) (fun hz => absurd (by omega) hz)
      exact ct_tell he hp hF hn6 hI hpc
    · obtain ⟨a1, a2, a3, a4, a5, a6⟩ := hI
      have hlt : i < p := by omega
      have hp6 : p ≤ 6 := by
        have := sN_ge (f := sz) (p := p) (fun b hb => (a4 b hb).1)
        omega
      have hsz : sz i ≤ n := by
        have := sN_le (f := sz) hlt
        omega
      refine r_iload_n d_178_58 rfl ?_
      refine r_aload_n d_178_59 rfl (by omega) ?_
      refine r_getfv (ki := 16) d_178_60 q_178_226 rfl sh_217 hpc ?_
      refine r_icmp_ge (t := 129) d_178_63 rfl (fun hz => absurd hz (by omega)) (fun _ => ?_)
      refine r_aload_n d_178_66 rfl (by omega) ?_
      refine r_iconst d_178_67 rfl ?_
      refine r_iload_n d_178_68 rfl ?_
      refine r_iadd d_178_69 (by omega) ?_
      refine r_callvi d_178_70 q_178_214 rfl rfl (m_splitter he M1 hp (k := 4 + (i : Int)) (by omega) (a4 i hlt).2) (fun x M2 hM2 => ?_)
      obtain ⟨hz, hF2⟩ := hM2
      have hp2 : M2 217 1 = pI e := (hF2 _ _ (by unfold W1; omega)).trans hp
      have hpc2 : M2 217 16 = p := (hF2 _ _ (by unfold W1; omega)).trans hpc
      have hMM2 : ∀ b : Nat, b < p → MM e M2 (4 + (b : Int)) (sz b) (B b) := fun b hb => (a4 b hb).2.w1 hF2
      have hF12 : Fr WCu M M2 := hF.trans hF2 (fun x y q => q) (fun x y q => Or.inl q)
      rcases hz with ⟨rfl, hz⟩ | ⟨z1, z2, z3, -⟩
      · refine r_istore_n d_178_73 rfl (stl_4_3 rfl rfl) ?_
        refine r_iload_n d_178_74 rfl ?_
        refine r_iconst d_178_75 rfl ?_
        refine r_icmp_ne (t := 85) d_178_76 rfl (fun hz => absurd hz (fun z => z rfl)) (fun _ => ?_)
        refine r_iinc d_178_79 rfl (by omega) (stl_4_2 rfl rfl) ?_
        refine r_goto (t := 126) d_178_82 rfl ?_
        refine r_goto (t := 58) d_178_126 rfl ?_
        refine ih (p := p) (i := i + 1) (by omega) hp2 hF12 ⟨by omega, a2, a3, fun b hb => ⟨(a4 b hb).1, hMM2 b hb⟩, fun b hb => ?_, a6⟩ hpc2
        by_cases q : b = i
        · rw [q]
          exact hz
        · exact a5 b (by omega)
      · refine r_istore_n d_178_73 rfl (stl_4_3 rfl rfl) ?_
        refine r_iload_n d_178_74 rfl ?_
        refine r_iconst d_178_75 rfl ?_
        refine r_icmp_ne (t := 85) d_178_76 rfl (fun _ => ?_) (fun hz => absurd (by omega) hz)
        refine r_aload_n d_178_85 rfl (by omega) ?_
        refine r_iconst d_178_86 rfl ?_
        refine r_iload_n d_178_87 rfl ?_
        refine r_iadd d_178_88 (by omega) ?_
        refine r_iload_n d_178_89 rfl ?_
        refine r_callvr d_178_90 q_178_205 rfl rfl (m_spinV he M2 hp2 (k := 4 + (i : Int)) (by omega) (hMM2 i hlt) (by omega) z2) (fun M3 hM3 => ?_)
        obtain ⟨hF3, hSP⟩ := hM3
        have hp3 : M3 217 1 = pI e := (hF3 _ _ (by unfold W1; omega)).trans hp2
        have hpc3 : M3 217 16 = p := (hF3 _ _ (by unfold W1; omega)).trans hpc2
        have hMM3 : ∀ b : Nat, b < p → MM e M3 (4 + (b : Int)) (sz b) (B b) := fun b hb => (hMM2 b hb).w1 hF3
        have hF13 : Fr WCu M M3 := hF12.trans hF3 (fun x y q => q) (fun x y q => Or.inl q)
        have hG : Good (sz i) (spin (sz i) (B i) [] (toV e (sz i) x)) := spin_good he Good.nil toV_sup
        have hok := spS_ok (A := B i) he (show sz i ≤ 6 by omega) (toV_sup (e := e) (n := sz i) (v := x))
        have hS : SI (sz i) (B i) (spn (spin (sz i) (B i) [] (toV e (sz i) x))) := ⟨hok.1, hok.2.1⟩
        have hdm : dm (sz i) (spn (spin (sz i) (B i) [] (toV e (sz i) x))) = sl (sz i) (B i) x := hG.2
        have hd1 : 1 ≤ dm (sz i) (spn (spin (sz i) (B i) [] (toV e (sz i) x))) := dm_pos hok.1 hok.2.2 (toV_ne he z1 z2)
        have hp5 : p ≤ 5 := by
          have h1 := sN_ge (f := ud (ud sz i 1) p (sz i - 1)) (p := p + 1) (fun b hb => by
            by_cases q : b = p
            · rw [q, ud_e]
              omega
            · rw [ud_n q]
              by_cases q2 : b = i
              · rw [q2, ud_e]
                exact Nat.le_refl 1
              · rw [ud_n q2]
                exact (a4 b (by omega)).1)
          rw [sN_cut hlt (by omega)] at h1
          omega
        have hMS := hSP.2.2
        have hMd : M3 217 7 = dm (sz i) (spn (spin (sz i) (B i) [] (toV e (sz i) x))) := by rw [hSP.1, hG.2]
        refine r_aload_n d_178_93 rfl (by omega) ?_
        refine r_iconst d_178_94 rfl ?_
        refine r_iload_n d_178_95 rfl ?_
        refine r_iadd d_178_96 (by omega) ?_
        refine r_iconst d_178_97 rfl ?_
        refine r_aload_n d_178_98 rfl (by omega) ?_
        refine r_getfv (ki := 16) d_178_99 q_178_226 rfl sh_217 hpc3 ?_
        refine r_iadd d_178_102 (by omega) ?_
        refine r_callvr d_178_103 q_178_211 rfl rfl (m_tellsRest he M3 hp3 (k := 4 + (i : Int)) (k2 := 4 + (p : Int)) (by omega) (by omega) (hMM3 i hlt) hok.1 hMS hMd) (fun M4 hM4 => ?_)
        obtain ⟨hF4, hMM4⟩ := hM4
        have hp4 : M4 217 1 = pI e := (hF4 _ _ (by unfold W2 WF WK; omega)).trans hp3
        have hMd4 : M4 217 7 = dm (sz i) (spn (spin (sz i) (B i) [] (toV e (sz i) x))) := (hF4 _ _ (by unfold W2 WF WK; omega)).trans hMd
        have hMS4 : hs (sz i) (M4 222) (spn (spin (sz i) (B i) [] (toV e (sz i) x))) := by
          have e1 : M4 222 = M3 222 := funext (fun y => hF4 222 y (by unfold W2 WF WK; omega))
          rw [e1]
          exact hMS
        have hMi : MM e M4 (4 + (i : Int)) (sz i) (B i) := (hMM3 i hlt).fr hF4 (fun x y q1 q2 => by unfold WK at q1; unfold W2 WF WK at q2; omega)
        refine r_aload_n d_178_106 rfl (by omega) ?_
        refine r_iconst d_178_107 rfl ?_
        refine r_iload_n d_178_108 rfl ?_
        refine r_iadd d_178_109 (by omega) ?_
        refine r_iconst d_178_110 rfl ?_
        refine r_iload_n d_178_111 rfl ?_
        refine r_iadd d_178_112 (by omega) ?_
        refine r_callvr d_178_113 q_178_208 rfl rfl (m_tellsPart he M4 hp4 (k := 4 + (i : Int)) (k2 := 4 + (i : Int)) (by omega) (by omega) hMi hok.1 hMS4 hMd4) (fun M5 hM5 => ?_)
        obtain ⟨hF5, hMM5⟩ := hM5
        have hpc5 : M5 217 16 = p := (hF5 _ _ (by unfold W2 WF WK; omega)).trans ((hF4 _ _ (by unfold W2 WF WK; omega)).trans hpc3)
        refine r_aload_n d_178_116 rfl (by omega) ?_
        refine r_dup d_178_117 rfl ?_
        refine r_getfv (ki := 16) d_178_118 q_178_226 rfl sh_217 hpc5 ?_
        refine r_iconst d_178_121 rfl ?_
        refine r_iadd d_178_122 (by omega) ?_
        refine r_putf (ki := 16) d_178_123 q_178_226 rfl sh_217 fx_217_16 ?_
        refine r_goto (t := 58) d_178_126 rfl ?_
        have hF6 : Fr (fun x y => x = 217 ∧ y = 16) M5 (up2 M5 217 16 ((p : Int) + 1)) := fun x y h => uq_ne (by omega)
        have hF15 : Fr WCu M (up2 M5 217 16 ((p : Int) + 1)) := ((hF13.trans hF4 (fun x y q => q) (fun x y q => by unfold W2 WF WK at q; unfold WCu W1; omega)).trans hF5 (fun x y q => q) (fun x y q => by unfold W2 WF WK at q; unfold WCu W1; omega)).trans hF6 (fun x y q => q) (fun x y q => by unfold WCu; omega)
        refine ih (p := p + 1) (i := i) (sz := ud (ud sz i (dm (sz i) (spn (spin (sz i) (B i) [] (toV e (sz i) x))))) p (sz i - dm (sz i) (spn (spin (sz i) (B i) [] (toV e (sz i) x))))) (B := ud (ud B i (prt (sz i) (B i) (spn (spin (sz i) (B i) [] (toV e (sz i) x))))) p (rst (sz i) (B i) (spn (spin (sz i) (B i) [] (toV e (sz i) x))))) (by omega) ?_ hF15 ⟨by omega, by omega, ?_, fun b hb => ?_, fun b hb => ?_, fun Ls hLs => ?_⟩ ?_
        · rw [uq_ne (by omega), hF5 _ _ (by unfold W2 WF WK; omega)]
          exact hp4
        · rw [sN_cut hlt (by omega)]
          exact a3
        · by_cases q : b = p
          · subst q
            rw [ud_e, ud_e]
            refine ⟨by omega, (hMM4.fr hF5 (fun x y q1 q2 => ?_)).fr hF6 (fun x y q1 q2 => ?_)⟩
            · unfold WK at q1
              unfold W2 WF WK at q2
              omega
            · unfold WK at q1
              omega
          · rw [ud_n q, ud_n q]
            by_cases q2 : b = i
            · subst q2
              rw [ud_e, ud_e]
              exact ⟨hd1, hMM5.fr hF6 (fun x y q1 q2 => by unfold WK at q1; omega)⟩
            · rw [ud_n q2, ud_n q2]
              refine ⟨(a4 b (by omega)).1, (((hMM3 b (by omega)).fr hF4 (fun x y q1 q2 => ?_)).fr hF5 (fun x y q1 q2 => ?_)).fr hF6 (fun x y q1 q2 => ?_)⟩
              · unfold WK at q1
                unfold W2 WF WK at q2
                omega
              · unfold WK at q1
                unfold W2 WF WK at q2
                omega
              · unfold WK at q1
                omega
        · rw [ud_n (by omega), ud_n (by omega), ud_n (by omega), ud_n (by omega)]
          exact a5 b hb
        · have hi1 := hLs i (by omega)
          rw [ud_n (show i ≠ p by omega), ud_n (show i ≠ p by omega), ud_e, ud_e] at hi1
          have hi2 := hLs p (by omega)
          rw [ud_e, ud_e] at hi2
          obtain ⟨L, l1, l2⟩ := a6 (ud Ls i (Ls i ++ Ls p)) (fun b hb => by
            by_cases q : b = i
            · subst q
              rw [ud_e]
              exact MLs_cut he hS hi1 hi2
            · have h1 := hLs b (by omega)
              rw [ud_n (show b ≠ p by omega), ud_n (show b ≠ p by omega), ud_n q, ud_n q] at h1
              rw [ud_n q]
              exact h1)
          refine ⟨L, l1, l2.trans ?_⟩
          rw [fl_s]
          exact fl_u hlt
        · rw [uq_eq]
          omega
end
theorem m_cuts {M : Mo} {s : Sst} (hv : vs s) (hc : cu M s) {k : Nat} (hk : k < 4) (hne : M 217 5 ≠ k) : CV 178 [(2, 217), (0, (k : Int))] M (fun M' => Fr WCu M M' ∧ M' 217 5 = k ∧ CT M' (s.2.1 k) (mdA s k)) := by
  refine Cl.intro (L := [(2, 217), (0, (k : Int)), (9, 0), (9, 0)]) (rcv_v ow_178.2.1 sh_217) (by unfold entl; rw [mx_178]; rfl) (by rw [mx_178]; exact Nat.le_of_ble_eq_true rfl) rfl ?_
  have h6 := vs_6 hv hk
  have hv1 := (hv.2 k hk).1
  refine r_aload_n d_178_0 rfl (by omega) ?_
  refine r_getf (ki := 5) d_178_1 q_178_26 rfl sh_217 ?_
  refine r_iload_n d_178_4 rfl ?_
  refine r_icmp_ne (t := 9) d_178_5 rfl (fun _ => ?_) (fun hz => absurd hne hz)
  refine r_iconst d_178_9 rfl ?_
  refine r_istore_n d_178_10 rfl (stl_4_2 rfl rfl) ?_
  refine dn_ind (R := fun c => ∀ M1 : Mo, Fr (fun x _ => x = 221) M M1 → (∀ c' : Int, 0 ≤ c' → c' < c → M1 221 c' = M 220 (72 * k + c')) → Rn 178 11 [(2, 217), (0, (k : Int)), (0, c), (9, 0)] [] M1 _) (lo := 0) (n := 72) ?_ ?_ 0 (by omega) (by omega) M Fr.refl (fun c' h1 h2 => by omega)
  · intro M1 hF1 hcp
    have hsz1 : M1 219 (k : Int) = s.2.1 k := (hF1 _ _ (by omega)).trans (hc.2 k hk).1
    refine r_iload_n d_178_11 rfl ?_
    refine r_bipush d_178_12 rfl ?_
    refine r_icmp_ge (t := 40) d_178_14 rfl (fun _ => ?_) (fun hz => absurd (by omega) hz)
    refine r_aload_n d_178_40 rfl (by omega) ?_
    refine r_iconst d_178_41 rfl ?_
    refine r_aload_n d_178_42 rfl (by omega) ?_
    refine r_getc (ki := 2) d_178_43 q_178_17 rfl sh_217 fx_217_2 (by omega) ?_
    refine r_iload_n d_178_46 rfl ?_
    refine r_ialoadv d_178_47 sh_219 (by omega) (by omega) hsz1 ?_
    refine r_callvr d_178_48 q_178_159 rfl rfl (m_takesFresh M1 (k := 4) (n := (s.2.1 k : Nat)) (by omega)) (fun M2 hM2 => ?_)
    obtain ⟨hF2, hs2, hc2⟩ := hM2
    refine r_aload_n d_178_51 rfl (by omega) ?_
    refine r_iconst d_178_52 rfl ?_
    refine r_putf (ki := 16) d_178_53 q_178_226 rfl sh_217 fx_217_16 ?_
    refine r_iconst d_178_56 rfl ?_
    refine r_istore_n d_178_57 rfl (stl_4_2 rfl rfl) ?_
    have hF3 : Fr WCu M (up2 M2 217 16 1) := (hF1.trans hF2 (R := WCu) (fun x y q => by unfold WCu W1; omega) (fun x y q => by unfold WK at q; unfold WCu; omega)).trans (Q := fun x y => x = 217 ∧ y = 16) (fun x y h => uq_ne (by omega)) (fun x y q => q) (fun x y q => by unfold WCu; omega)
    refine ct_loop hv.1 h6 12 (p := 1) (i := 0) (sz := fun _ => s.2.1 k) (B := fun _ => mdA s k) (by omega) ?_ hF3 ⟨by omega, by omega, ?_, fun b hb => ?_, fun b hb => by omega, fun Ls hLs => ?_⟩ ?_
    · rw [uq_ne (by omega), hF2 _ _ (by unfold WK; omega), hF1 _ _ (by omega)]
      exact hc.1
    · show 0 + s.2.1 k = s.2.1 k
      omega
    · obtain rfl : b = 0 := by omega
      have hMM := hc.MM hv hk
      refine ⟨hv1, ?_, hMM.2.1, fun g i j a1 a2 a3 => ?_⟩
      · rw [uq_ne (by omega)]
        exact hs2
      · rw [uq_ne (by omega)]
        have a2' : i < s.2.1 k := a2
        have a3' : j < s.2.1 k := a3
        have h1 := hc2 (36 * g + 6 * i + j) (by omega) (by omega)
        have h2 := hcp (36 * g + 6 * i + j) (by omega) (by omega)
        have h3 := hMM.2.2 g i j a1 a2 a3
        rw [show 72 * (4 + ((0 : Nat) : Int)) + 36 * (g : Int) + 6 * i + j = 72 * 4 + (36 * g + 6 * i + j) by omega, h1, h2, show 72 * (k : Int) + (36 * g + 6 * i + j) = 72 * k + 36 * g + 6 * i + j by omega, h3]
        rfl
    · refine ⟨Ls 0, hLs 0 (by omega), ?_⟩
      show (Ls 0).Perm (Ls 0 ++ [])
      rw [List.append_nil]
    · rw [uq_eq]
      rfl
  · intro c c1 c2 ih M1 hF1 hcp
    refine r_iload_n d_178_11 rfl ?_
    refine r_bipush d_178_12 rfl ?_
    refine r_icmp_ge (t := 40) d_178_14 rfl (fun hz => absurd hz (by omega)) (fun _ => ?_)
    refine r_aload_n d_178_17 rfl (by omega) ?_
    refine r_getc (ki := 4) d_178_18 q_178_23 rfl sh_217 fx_217_4 (by omega) ?_
    refine r_iload_n d_178_21 rfl ?_
    refine r_aload_n d_178_22 rfl (by omega) ?_
    refine r_getc (ki := 3) d_178_23 q_178_20 rfl sh_217 fx_217_3 (by omega) ?_
    refine r_bipush d_178_26 rfl ?_
    refine r_iload_n d_178_28 rfl ?_
    refine r_imul d_178_29 (by omega) ?_
    refine r_iload_n d_178_30 rfl ?_
    refine r_iadd d_178_31 (by omega) ?_
    refine r_iaload d_178_32 sh_220 (by omega) (by omega) ?_
    refine r_iastore d_178_33 sh_221 (by omega) (by omega) ?_
    refine r_iinc d_178_34 rfl (by omega) (stl_4_2 rfl rfl) ?_
    refine r_goto (t := 11) d_178_37 rfl ?_
    refine ih _ (fun x y h => by rw [uq_ne (by omega)]; exact hF1 x y h) (fun c' h1 h2 => ?_)
    by_cases q : c' = c
    · rw [q, uq_eq]
      exact hF1 _ _ (by omega)
    · rw [uq_ne (Or.inr q)]
      exact hcp c' h1 (by omega)
