/-! The relation of both states to one abstract state, and what a pair of calls must do. -/
section
abbrev Sg : Type := Sst × List Sst × (Nat × (Nat → Int)) × (Nat × (Nat → Int)) × (Int → Int)
def ub (b : Int → Int) (i : Int) : Int → Int := fun j => if j = i then b j + 1 else b j
def cU (S : Sg) (i : Int) : Sg := (S.1, S.2.1, S.2.2.1, S.2.2.2.1, ub S.2.2.2.2 i)
def cH (S : Sg) (s : Sst) (H : List Sst) : Sg := (s, H, S.2.2)
def okG (c : Int) (S : Sg) : Prop := vs S.1 ∧ (∀ i : Int, 0 ≤ i → i < 3 → 0 ≤ S.2.2.2.2 i ∧ S.2.2.2.2 i ≤ c) ∧ ∀ u ∈ S.2.1, vs u
def RC (M : Mo) (S : Sg) : Prop := cuC M S.1 ∧ hiC M S.2.1 ∧ TxC M S.2.2.1.1 S.2.2.1.2 ∧ WdC M S.2.2.2.1.1 S.2.2.2.1.2 ∧ (∀ i : Int, 0 ≤ i → i < 3 → M 0 (11 + i) = S.2.2.2.2 i) ∧ rfs M
def RM (M : Mo) (S : Sg) : Prop := cu M S.1 ∧ hi M S.2.1 ∧ Tx M S.2.2.1.1 S.2.2.1.2 ∧ Wd M S.2.2.2.1.1 S.2.2.2.1.2 ∧ (∀ i : Int, 0 ≤ i → i < 3 → M 218 i = S.2.2.2.2 i) ∧ ∀ k : Nat, k < 4 → M 217 5 = k → CT M (S.1.2.1 k) (mdA S.1 k)
theorem TxC.fr {M M' : Mo} {L : Nat} {t : Nat → Int} {P : Int → Int → Prop} (h : TxC M L t) (hF : Fr P M M') (hP : ∀ x y, P x y → ¬ (x = 75 ∧ y = 1) ∧ x ≠ 76) : TxC M' L t := ⟨(hF _ _ (fun q => (hP _ _ q).1 ⟨rfl, rfl⟩)).trans h.1, h.2.1, fun i hi => (hF _ _ (fun q => (hP _ _ q).2 rfl)).trans (h.2.2 i hi)⟩
theorem WdC.fr {M M' : Mo} {L : Nat} {t : Nat → Int} {P : Int → Int → Prop} (h : WdC M L t) (hF : Fr P M M') (hP : ∀ x y, P x y → ¬ (x = 75 ∧ y = 3) ∧ x ≠ 77) : WdC M' L t := ⟨(hF _ _ (fun q => (hP _ _ q).1 ⟨rfl, rfl⟩)).trans h.1, h.2.1, fun i hi => ⟨(hF _ _ (fun q => (hP _ _ q).2 rfl)).trans (h.2.2 i hi).1, (h.2.2 i hi).2⟩⟩
theorem Tx.fr {M M' : Mo} {L : Nat} {t : Nat → Int} {P : Int → Int → Prop} (h : Tx M L t) (hF : Fr P M M') (hP : ∀ x y, P x y → ¬ (x = 217 ∧ y = 31) ∧ x ≠ 242) : Tx M' L t := ⟨(hF _ _ (fun q => (hP _ _ q).1 ⟨rfl, rfl⟩)).trans h.1, h.2.1, fun i hi => (hF _ _ (fun q => (hP _ _ q).2 rfl)).trans (h.2.2 i hi)⟩
theorem Wd.fr {M M' : Mo} {L : Nat} {t : Nat → Int} {P : Int → Int → Prop} (h : Wd M L t) (hF : Fr P M M') (hP : ∀ x y, P x y → ¬ (x = 217 ∧ y = 33) ∧ x ≠ 243) : Wd M' L t := ⟨(hF _ _ (fun q => (hP _ _ q).1 ⟨rfl, rfl⟩)).trans h.1, h.2.1, fun i hi => ⟨(hF _ _ (fun q => (hP _ _ q).2 rfl)).trans (h.2.2 i hi).1, (h.2.2 i hi).2⟩⟩
theorem CT.fr3 {e n : Nat} {A : Nat → Nat → Nat → Kf e} {M M' : Mo} {P : Int → Int → Prop} (h : CT M n A) (hF : Fr P M M') (hP : ∀ x y, P x y → ¬ (x = 217 ∧ y = 16) ∧ ¬ (x = 219 ∧ 4 ≤ y ∧ y ≤ 9) ∧ ¬ (x = 220 ∧ 288 ≤ y ∧ y < 720) ∧ x ≠ 230 ∧ x ≠ 231) : CT M' n A := by
  obtain ⟨p, sz, B, F, O, h1, h2, h3, h4, h5, h6, h7, h8⟩ := h
  refine ⟨p, sz, B, F, O, h1, h2, ?_, fun b hb => ⟨?_, (h4 b hb).2.1, (h4 b hb).2.2.1, fun c hc => ?_⟩, h5, h6, fun q hq => ?_, h8⟩
  · rw [hF _ _ (fun q => by have := hP _ _ q; omega)]
    exact h3
  · exact (h4 b hb).1.fr hF (fun x y q1 q2 => by have := hP _ _ q2; unfold WK at q1; omega)
  · rw [hF _ _ (fun q => by have := hP _ _ q; omega)]
    exact (h4 b hb).2.2.2 c hc
  · rw [hF _ _ (fun q => by have := hP _ _ q; omega)]
    exact h7 q hq
/-- what no quiet call of the class touches -/
def QC (x y : Int) : Prop := ¬ (x = 1 ∧ y = 0) ∧ ¬ (209 ≤ x ∧ x ≤ 216) ∧ ¬ (8 ≤ x ∧ x ≤ 77) ∧ x ≠ 0 ∧ x ≠ 82 ∧ x ≠ 107
theorem RC.fr {M M' : Mo} {S : Sg} {P : Int → Int → Prop} (h : RC M S) (hF : Fr P M M') (hP : ∀ x y, P x y → QC x y) : RC M' S := by
  obtain ⟨h1, h2, h3, h4, h5, h6⟩ := h
  refine ⟨h1.fr hF (fun x y q => ?_), h2.fr hF (fun x y q => ?_), h3.fr hF (fun x y q => ?_), h4.fr hF (fun x y q => ?_), fun i a b => (hF _ _ (fun q => ?_)).trans (h5 i a b), h6.fr hF (fun y => ⟨fun q => ?_, fun q => ?_⟩)⟩
  all_goals
    have := hP _ _ q
    unfold QC at this
    omega
/-- what no quiet call of the model touches -/
def QM (x y : Int) : Prop := ¬ (x = 217 ∧ (y = 1 ∨ y = 5 ∨ y = 13 ∨ y = 16 ∨ y = 31 ∨ y = 33)) ∧ ¬ (x = 219 ∧ 0 ≤ y ∧ y ≤ 9) ∧ ¬ (x = 220 ∧ 0 ≤ y ∧ y < 720) ∧ x ≠ 218 ∧ x ≠ 228 ∧ x ≠ 230 ∧ x ≠ 231 ∧ x ≠ 242 ∧ x ≠ 243
theorem RM.fr {M M' : Mo} {S : Sg} (hv : vs S.1) {P : Int → Int → Prop} (h : RM M S) (hF : Fr P M M') (hP : ∀ x y, P x y → QM x y) : RM M' S := by
  obtain ⟨h1, h2, h3, h4, h5, h6⟩ := h
  have e5 : M' 217 5 = M 217 5 := hF _ _ (fun q => by
    have := hP _ _ q
    unfold QM at this
    omega)
  refine ⟨h1.fr hv hF (fun x y q => ?_), h2.fr hF (fun x y q => ?_), h3.fr hF (fun x y q => ?_), h4.fr hF (fun x y q => ?_), fun i a b => (hF _ _ (fun q => ?_)).trans (h5 i a b), fun k hk w => (h6 k hk (e5.symm.trans w)).fr3 hF (fun x y q => ?_)⟩
  all_goals
    have := hP _ _ q
    unfold QM at this
    omega
def FC (x _ : Int) : Prop := x ≤ 216
def FM (x _ : Int) : Prop := 217 ≤ x
theorem RC.frm {M M' : Mo} {S : Sg} (h : RC M S) (hF : Fr FM M M') : RC M' S := h.fr hF (fun x y q => by unfold FM at q; unfold QC; omega)
theorem RM.frc {M M' : Mo} {S : Sg} (hv : vs S.1) (h : RM M S) (hF : Fr FC M M') : RM M' S := h.fr hv hF (fun x y q => by unfold FC at q; unfold QM; omega)
def KC (g : Nat) (as : List AV) (S S' : Sg) (p : Int → Prop) : Prop := ∀ M, RC M S → CI g ((2, 0) :: as) M (fun z M' => p z ∧ RC M' S' ∧ Fr FC M M')
def KM (g : Nat) (as : List AV) (S S' : Sg) (p : Int → Prop) : Prop := ∀ M, RM M S → CI g ((2, 217) :: as) M (fun z M' => p z ∧ RM M' S' ∧ Fr FM M M')
def EQ (c : Int) (gc gm : Nat) (as : List AV) (S : Sg) : Prop := ∃ (S' : Sg) (p : Int → Prop), okG (c + 1) S' ∧ (∀ y z, p y → p z → y = z) ∧ KC gc as S S' p ∧ KM gm as S S' p
variable {c : Int} {gc gm : Nat} {as : List AV} {S : Sg}
theorem okG.cb (hc : c < 1000000000) (h : okG c S) {M : Mo} (hM : RM M S) : cb M := fun i a b => by
  have h1 := h.2.1 i a b
  have h2 := hM.2.2.2.2.1 i a b
  omega
theorem okG.cbC (hc : c < 1000000000) (h : okG c S) {M : Mo} (hM : RC M S) : cbC M := fun i a b => by
  have h1 := h.2.1 (i - 11) (by omega) (by omega)
  have h2 := hM.2.2.2.2.1 (i - 11) (by omega) (by omega)
  rw [show 11 + (i - 11) = i by omega] at h2
  omega
theorem okG.up (h : okG c S) (i : Int) : okG (c + 1) (cU S i) := ⟨h.1, fun j a b => by
  have := h.2.1 j a b
  show 0 ≤ ub _ i j ∧ ub _ i j ≤ c + 1
  unfold ub
  split <;> omega, h.2.2⟩
theorem okG.ch (h : okG c S) {s : Sst} (hv : vs s) : okG (c + 1) (cH S s (psh S.2.1 S.1)) := ⟨hv, fun j a b => by
  have := h.2.1 j a b
  show 0 ≤ S.2.2.2.2 j ∧ S.2.2.2.2 j ≤ c + 1
  omega, fun u hu => by
  have hu2 : u ∈ psh S.2.1 S.1 := hu
  have hin : u ∈ S.2.1 ∨ u = S.1 := by
    unfold psh at hu2
    split at hu2
    · rcases List.mem_append.mp hu2 with q | q
      · exact Or.inl (List.mem_of_mem_tail q)
      · exact Or.inr (List.mem_singleton.mp q)
    · rcases List.mem_append.mp hu2 with q | q
      · exact Or.inl q
      · exact Or.inr (List.mem_singleton.mp q)
  rcases hin with q | q
  · exact h.2.2 u q
  · rw [q]
    exact h.1⟩
theorem okG.same (h : okG c S) : okG (c + 1) S := ⟨h.1, fun j a b => by
  have := h.2.1 j a b
  omega, h.2.2⟩
theorem kc_up {M : Mo} (h : RC M S) {i : Int} (h0 : 0 ≤ i ∧ i < 3) {j v : Int} (hj : j = 11 + i) (hv : v = M 0 j + 1) : RC (up2 M 0 j v) (cU S i) := by
  obtain ⟨h1, h2, h3, h4, h5, h6⟩ := h
  have hF : Fr (fun x y => x = 0 ∧ y = j) M (up2 M 0 j v) := fun x y q => uq_ne (by omega)
  refine ⟨h1.fr hF (fun x y q => ?_), h2.fr hF (fun x y q => ?_), h3.fr hF (fun x y q => ?_), h4.fr hF (fun x y q => ?_), fun k a b => ?_, h6.fr hF (fun y => ⟨fun q => ?_, fun q => ?_⟩)⟩
  · omega
  · omega
  · omega
  · omega
  · show _ = ub _ i k
    unfold ub
    by_cases w : k = i
    · rw [if_pos w, w, ← hj, uq_eq, hv, ← h5 i (by omega) (by omega), hj]
    · rw [if_neg w, uq_ne (by omega)]
      exact h5 k a b
  · omega
  · omega
theorem km_up {M : Mo} (hv : vs S.1) (h : RM M S) {i : Int} (h0 : 0 ≤ i ∧ i < 3) {v : Int} (hw : v = M 218 i + 1) : RM (up2 M 218 i v) (cU S i) := by
  obtain ⟨h1, h2, h3, h4, h5, h6⟩ := h
  have hF : Fr (fun x y => x = 218 ∧ y = i) M (up2 M 218 i v) := fun x y q => uq_ne (by omega)
  have e5 : up2 M 218 i v 217 5 = M 217 5 := uq_ne (by omega)
  refine ⟨h1.fr hv hF (fun x y q => ?_), h2.fr hF (fun x y q => ?_), h3.fr hF (fun x y q => ?_), h4.fr hF (fun x y q => ?_), fun k a b => ?_, fun k hk w => (h6 k hk (e5.symm.trans w)).fr3 hF (fun x y q => ?_)⟩
  · omega
  · omega
  · omega
  · omega
  · show _ = ub _ i k
    unfold ub
    by_cases w : k = i
    · rw [if_pos w, w, uq_eq, hw, ← h5 i (by omega) (by omega)]
    · rw [if_neg w, uq_ne (by omega)]
      exact h5 k a b
  · omega
theorem uni (z : Int) : ∀ y w : Int, y = z → w = z → y = w := fun _ _ a b => a.trans b.symm
/-- both refuse -/
theorem eq_bad (hc : c < 1000000000) (h : okG c S) {z i j : Int} (h0 : 0 ≤ i ∧ i < 3) (hj : j = 11 + i) (hC : ∀ M, cbC M → RC M S → PJ gc ((2, 0) :: as) M z (up2 M 0 j (M 0 j + 1))) (hM : ∀ M, cb M → RM M S → PJ gm ((2, 217) :: as) M z (up2 M 218 i (M 218 i + 1))) : EQ c gc gm as S := by
  refine ⟨cU S i, fun y => y = z, h.up i, uni z, fun M hR => Cl.mono (hC M (h.cbC hc hR) hR) (fun v M' q => ?_), fun M hR => Cl.mono (hM M (h.cb hc hR) hR) (fun v M' q => ?_)⟩
  · obtain ⟨q1, rfl⟩ := q
    exact ⟨z, q1, rfl, kc_up hR h0 hj rfl, fun x y n => uq_ne (by unfold FC at n; omega)⟩
  · obtain ⟨q1, rfl⟩ := q
    exact ⟨z, q1, rfl, km_up h.1 hR h0 rfl, fun x y n => uq_ne (by unfold FM at n; omega)⟩
/-- both answer and change nothing that counts -/
theorem kc_same {z : Int} (hC : ∀ M, RC M S → PI gc ((2, 0) :: as) M z) : KC gc as S S (fun y => y = z) := fun M hR => Cl.mono (hC M hR) (fun v M' q => by
  obtain ⟨q1, rfl⟩ := q
  exact ⟨z, q1, rfl, hR, Fr.refl⟩)
theorem km_same {z : Int} (hM : ∀ M, RM M S → PI gm ((2, 217) :: as) M z) : KM gm as S S (fun y => y = z) := fun M hR => Cl.mono (hM M hR) (fun v M' q => by
  obtain ⟨q1, rfl⟩ := q
  exact ⟨z, q1, rfl, hR, Fr.refl⟩)
theorem kc_fr {p : Int → Prop} (hC : ∀ M, RC M S → CI gc ((2, 0) :: as) M (fun z M' => p z ∧ Fr WX M M')) : KC gc as S S p := fun M hR => Cl.mono (hC M hR) (fun v M' q => by
  obtain ⟨x, q1, q2, q3⟩ := q
  exact ⟨x, q1, q2, hR.fr q3 (fun x y w => by unfold WX at w; unfold QC; omega), q3.mono (fun x y w => by unfold WX at w; unfold FC; omega)⟩)
theorem km_fr {p : Int → Prop} (hv : vs S.1) (hM : ∀ M, RM M S → CI gm ((2, 217) :: as) M (fun z M' => p z ∧ Fr W1 M M')) : KM gm as S S p := fun M hR => Cl.mono (hM M hR) (fun v M' q => by
  obtain ⟨x, q1, q2, q3⟩ := q
  exact ⟨x, q1, q2, hR.fr hv q3 (fun x y w => by unfold W1 at w; unfold QM; omega), q3.mono (fun x y w => by unfold W1 at w; unfold FM; omega)⟩)
theorem kc_ff {p : Int → Prop} (hC : ∀ M, RC M S → CI gc ((2, 0) :: as) M (fun z M' => p z ∧ Fr WXf M M' ∧ rfs M')) : KC gc as S S p := fun M hR => Cl.mono (hC M hR) (fun v M' q => by
  obtain ⟨x, q1, q2, q3, q4⟩ := q
  obtain ⟨h1, h2, h3, h4, h5, h6⟩ := hR
  refine ⟨x, q1, q2, ⟨h1.fr q3 (fun x y q => ?_), h2.fr q3 (fun x y q => ?_), h3.fr q3 (fun x y q => ?_), h4.fr q3 (fun x y q => ?_), fun i a b => (q3 _ _ (fun q => ?_)).trans (h5 i a b), q4⟩, q3.mono (fun x y q => ?_)⟩
  all_goals
    unfold WXf WX at q
    try unfold FC
    omega)
theorem km_fc {p : Int → Prop} (hv : vs S.1) {k0 : Nat} (hM : ∀ M, RM M S → CI gm ((2, 217) :: as) M (fun z M' => p z ∧ Fr WCm M M' ∧ M' 217 5 = k0 ∧ CT M' (S.1.2.1 k0) (mdA S.1 k0))) : KM gm as S S p := fun M hR => Cl.mono (hM M hR) (fun v M' q => by
  obtain ⟨x, q1, q2, q3, q4, q5⟩ := q
  obtain ⟨h1, h2, h3, h4, h5, h6⟩ := hR
  refine ⟨x, q1, q2, ⟨h1.fr hv q3 (fun x y q => ?_), h2.fr q3 (fun x y q => ?_), h3.fr q3 (fun x y q => ?_), h4.fr q3 (fun x y q => ?_), fun i a b => (q3 _ _ (fun q => ?_)).trans (h5 i a b), fun k hk w => by
    have : k = k0 := by omega
    rw [this]
    exact q5⟩, q3.mono (fun x y q => ?_)⟩
  all_goals
    unfold WCm WCu WEl W1 at q
    try unfold FM
    omega)
theorem kc_ch {z : Int} {s' : Sst} {H' : List Sst} (hC : ∀ M, RC M S → CI gc ((2, 0) :: as) M (fun y M' => y = z ∧ chC M M' s' H')) : KC gc as S (cH S s' H') (fun y => y = z) := fun M hR => Cl.mono (hC M hR) (fun v M' q => by
  obtain ⟨x, q1, q2, q3, q4, q5⟩ := q
  obtain ⟨h1, h2, h3, h4, h5, h6⟩ := hR
  refine ⟨x, q1, q2, ⟨q4, q5, h3.fr q3 (fun x y q => ?_), h4.fr q3 (fun x y q => ?_), fun i a b => (q3 _ _ (fun q => ?_)).trans (h5 i a b), h6.fr q3 (fun y => ⟨fun q => ?_, fun q => ?_⟩)⟩, q3.mono (fun x y q => ?_)⟩
  all_goals
    unfold WZ WX WH at q
    try unfold FC
    omega)
theorem km_cg {z : Int} {s' : Sst} {H' : List Sst} {P : Int → Int → Prop} (hP : ∀ x y, P x y → 217 ≤ x ∧ ¬ (x = 217 ∧ (y = 31 ∨ y = 33)) ∧ x ≠ 218 ∧ x ≠ 242 ∧ x ≠ 243) (hM : ∀ M, RM M S → CI gm ((2, 217) :: as) M (fun y M' => y = z ∧ Fr P M M' ∧ M' 217 5 = -1 ∧ cu M' s' ∧ hi M' H')) : KM gm as S (cH S s' H') (fun y => y = z) := fun M hR => Cl.mono (hM M hR) (fun v M' q => by
  obtain ⟨x, q1, q2, q3, q6, q4, q5⟩ := q
  obtain ⟨h1, h2, h3, h4, h5, h6⟩ := hR
  refine ⟨x, q1, q2, ⟨q4, q5, h3.fr q3 (fun x y q => ?_), h4.fr q3 (fun x y q => ?_), fun i a b => (q3 _ _ (fun q => ?_)).trans (h5 i a b), fun k hk w => by omega⟩, q3.mono (fun x y q => ?_)⟩
  all_goals
    have := hP _ _ q
    try unfold FM
    omega)
theorem km_ch {z : Int} {s' : Sst} {H' : List Sst} (hM : ∀ M, RM M S → CI gm ((2, 217) :: as) M (fun y M' => y = z ∧ chg M M' s' H')) : KM gm as S (cH S s' H') (fun y => y = z) := km_cg (fun x y q => by unfold WC W1 WL at q; omega) hM
theorem eq_same (h : okG c S) {z : Int} (hC : ∀ M, RC M S → PI gc ((2, 0) :: as) M z) (hM : ∀ M, RM M S → PI gm ((2, 217) :: as) M z) : EQ c gc gm as S := ⟨S, _, h.same, uni z, kc_same hC, km_same hM⟩
theorem eq_fr (h : okG c S) {z : Int} (hC : ∀ M, RC M S → CI gc ((2, 0) :: as) M (fun y M' => y = z ∧ Fr WX M M')) (hM : ∀ M, RM M S → CI gm ((2, 217) :: as) M (fun y M' => y = z ∧ Fr W1 M M')) : EQ c gc gm as S := ⟨S, _, h.same, uni z, kc_fr hC, km_fr h.1 hM⟩
theorem eq_ch (h : okG c S) {z : Int} {s' : Sst} (hv : vs s') (hC : ∀ M, RC M S → CI gc ((2, 0) :: as) M (fun y M' => y = z ∧ chC M M' s' (psh S.2.1 S.1))) (hM : ∀ M, RM M S → CI gm ((2, 217) :: as) M (fun y M' => y = z ∧ chg M M' s' (psh S.2.1 S.1))) : EQ c gc gm as S := ⟨_, _, h.ch hv, uni z, kc_ch hC, km_ch hM⟩
theorem eq_fc (h : okG c S) {p : Int → Prop} (hu : ∀ y z, p y → p z → y = z) {k0 : Nat} (hC : ∀ M, RC M S → CI gc ((2, 0) :: as) M (fun z M' => p z ∧ Fr WXf M M' ∧ rfs M')) (hM : ∀ M, RM M S → CI gm ((2, 217) :: as) M (fun z M' => p z ∧ Fr WCm M M' ∧ M' 217 5 = k0 ∧ CT M' (S.1.2.1 k0) (mdA S.1 k0))) : EQ c gc gm as S := ⟨S, p, h.same, hu, kc_ff hC, km_fc h.1 hM⟩
/-! states that come about -/
theorem vs_setm {s : Sst} (hv : vs s) {k n : Nat} {E : Nat → Nat → Nat → Int} (hn : 1 ≤ n ∧ nb s.1 n) (hE : ∀ g i j, g < 2 → i < n → j < n → 0 ≤ E g i j ∧ E g i j ≤ pI s.1 - 1) : vs (setm s k n E) := ⟨hv.1, fun q hq => by
  unfold setm
  dsimp only
  by_cases w : q = k
  · rw [if_pos w, if_pos w]
    exact ⟨hn.1, hn.2, hE⟩
  · rw [if_neg w, if_neg w]
    exact hv.2 q hq⟩
theorem vs_s11 {e : Nat} (he : e ≤ 1) : vs (s11 e) := ⟨he, fun k hk => ⟨Nat.le_refl 1, by show 1 + e ≤ 6; omega, fun g i j _ _ _ => by show (0 : Int) ≤ 0 ∧ (0 : Int) ≤ pI e - 1; unfold pI; omega⟩⟩
theorem md_b {e : Nat} (a : Int) : 0 ≤ a % pI e ∧ a % pI e ≤ pI e - 1 := by
  have h : 0 < pI e := by unfold pI; omega
  have h1 := Int.emod_nonneg a (show pI e ≠ 0 by omega)
  have h2 := Int.emod_lt_of_pos a h
  omega
end
