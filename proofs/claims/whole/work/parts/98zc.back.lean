/-! The rest of the pairs: type, clear, tells, back, digest. -/
section
variable {c : Int} {S : Sg}
theorem m_back_no (M : Mo) (hb : cb M) (hH : hi M []) : PJ 152 [(2, 217)] M (-3) (up2 M 218 1 (M 218 1 + 1)) := by
  have hno := m_no M (hb 1 (by omega) (by omega))
  have h0 : M 217 13 = 0 := hH.1
  refine Cl.intro (L := [(2, 217), (9, 0), (9, 0)]) (rcv_v ow_152.2.1 sh_217) (by unfold entl; rw [mx_152]; rfl) (by rw [mx_152]; exact Nat.le_of_ble_eq_true rfl) rfl ?_
  refine r_aload_n d_152_0 rfl (by omega) ?_
  refine r_getfv (ki := 13) d_152_1 q_152_165 rfl sh_217 h0 ?_
  refine r_if_ne (t := 12) d_152_4 rfl (fun hz => absurd hz (fun q => q rfl)) (fun _ => ?_)
  refine r_aload_n d_152_7 rfl (by omega) ?_
  refine r_callvj d_152_8 q_152_168 rfl rfl hno ?_
  refine r_iret d_152_11 rt_152 ?_
  exact ⟨rfl, rfl⟩
def cT (S : Sg) (T : Nat × (Nat → Int)) : Sg := (S.1, S.2.1, T, S.2.2.2)
def cW (S : Sg) (W : Nat × (Nat → Int)) : Sg := (S.1, S.2.1, S.2.2.1, W, S.2.2.2.2)
theorem okG.cT (h : okG c S) (T : Nat × (Nat → Int)) : okG (c + 1) (cT S T) := h.same
theorem okG.cW (h : okG c S) (W : Nat × (Nat → Int)) : okG (c + 1) (cW S W) := h.same
theorem rc_T {M M' : Mo} (h : RC M S) {T : Nat × (Nat → Int)} (hF : Fr (fun x y => x = 76 ∨ (x = 75 ∧ y = 1)) M M') (hT : TxC M' T.1 T.2) : RC M' (cT S T) ∧ Fr FC M M' := by
  obtain ⟨h1, h2, h3, h4, h5, h6⟩ := h
  refine ⟨⟨h1.fr hF (fun x y q => ?_), h2.fr hF (fun x y q => ?_), hT, h4.fr hF (fun x y q => ?_), fun k a b => (hF _ _ (fun q => ?_)).trans (h5 k a b), h6.fr hF (fun y => ⟨fun q => ?_, fun q => ?_⟩)⟩, hF.mono (fun x y q => ?_)⟩
  all_goals
    try unfold FC
    omega
theorem rm_T {M M' : Mo} (hv : vs S.1) (h : RM M S) {T : Nat × (Nat → Int)} (hF : Fr (fun x y => x = 242 ∨ (x = 217 ∧ y = 31)) M M') (hT : Tx M' T.1 T.2) : RM M' (cT S T) ∧ Fr FM M M' := by
  obtain ⟨h1, h2, h3, h4, h5, h6⟩ := h
  have e5 : M' 217 5 = M 217 5 := hF _ _ (by omega)
  refine ⟨⟨h1.fr hv hF (fun x y q => ?_), h2.fr hF (fun x y q => ?_), hT, h4.fr hF (fun x y q => ?_), fun k a b => (hF _ _ (fun q => ?_)).trans (h5 k a b), fun k hk w => (h6 k hk (e5.symm.trans w)).fr3 hF (fun x y q => ?_)⟩, hF.mono (fun x y q => ?_)⟩
  all_goals
    try unfold FM
    omega
theorem q_type (hc : c < 1000000000) (h : okG c S) (x : Int) : EQ c 98 196 [(0, x)] S := by
  by_cases hx : 0 ≤ x ∧ x ≤ 127
  · by_cases hL : S.2.2.1.1 < 40
    · refine ⟨cT S (S.2.2.1.1 + 1, ud S.2.2.1.2 S.2.2.1.1 x), fun y => y = (S.2.2.1.1 : Int) + 1, h.cT _, uni _, fun M hR => Cl.mono (c_type M hx hR.2.2.1.1 (by omega)) (fun v M' q => ?_), fun M hR => Cl.mono (m_type M hx hR.2.2.1.1 (by omega)) (fun v M' q => ?_)⟩
      · obtain ⟨q1, rfl⟩ := q
        refine ⟨_, q1, rfl, rc_T hR (fun a b n => ?_) ⟨?_, ?_, fun i hi => ?_⟩⟩
        · rw [uq_ne (by omega), uq_ne (by omega)]
        · rw [uq_eq]
          show (S.2.2.1.1 : Int) + 1 = ((S.2.2.1.1 + 1 : Nat) : Int)
          omega
        · show S.2.2.1.1 + 1 ≤ 40
          omega
        · rw [uq_ne (by omega)]
          show _ = ud S.2.2.1.2 S.2.2.1.1 x i
          have hi2 : i < S.2.2.1.1 + 1 := hi
          by_cases w : i = S.2.2.1.1
          · rw [w, ud_e, uq_eq]
          · rw [ud_n w, uq_ne (by omega)]
            exact hR.2.2.1.2.2 i (by omega)
      · obtain ⟨q1, rfl⟩ := q
        refine ⟨_, q1, rfl, rm_T h.1 hR (fun a b n => ?_) ⟨?_, ?_, fun i hi => ?_⟩⟩
        · rw [uq_ne (by omega), uq_ne (by omega)]
        · rw [uq_eq]
          show (S.2.2.1.1 : Int) + 1 = ((S.2.2.1.1 + 1 : Nat) : Int)
          omega
        · show S.2.2.1.1 + 1 ≤ 40
          omega
        · rw [uq_ne (by omega)]
          show _ = ud S.2.2.1.2 S.2.2.1.1 x i
          have hi2 : i < S.2.2.1.1 + 1 := hi
          by_cases w : i = S.2.2.1.1
          · rw [w, ud_e, uq_eq]
          · rw [ud_n w, uq_ne (by omega)]
            exact hR.2.2.1.2.2 i (by omega)
    · exact eq_bad hc h (i := 2) (j := 13) (by omega) rfl (fun M hb hR => c_type_full M hb hx (by
        have h1 := hR.2.2.1.1
        have h2 := hR.2.2.1.2.1
        omega)) (fun M hb hR => m_type_full M hb hx (by
        have h1 := hR.2.2.1.1
        have h2 := hR.2.2.1.2.1
        omega))
  · exact eq_bad hc h (i := 0) (j := 11) (by omega) rfl (fun M hb hR => c_type_bad M hb hx) (fun M hb hR => m_type_bad M hb hx)
theorem q_clear (h : okG c S) : EQ c 99 197 [] S := by
  refine ⟨cT S (0, S.2.2.1.2), fun y => y = (S.2.2.1.1 : Int), h.cT _, uni _, fun M hR => Cl.mono (c_clear M hR.2.2.1.1) (fun v M' q => ?_), fun M hR => Cl.mono (m_clear M hR.2.2.1.1) (fun v M' q => ?_)⟩
  · obtain ⟨q1, rfl⟩ := q
    exact ⟨_, q1, rfl, rc_T hR (fun a b n => uq_ne (by omega)) ⟨uq_eq, by show 0 ≤ 40; omega, fun i hi => absurd hi (Nat.not_lt_zero i)⟩⟩
  · obtain ⟨q1, rfl⟩ := q
    exact ⟨_, q1, rfl, rm_T h.1 hR (fun a b n => uq_ne (by omega)) ⟨uq_eq, by show 0 ≤ 40; omega, fun i hi => absurd hi (Nat.not_lt_zero i)⟩⟩
theorem q_tells (h : okG c S) : EQ c 100 200 [] S := by
  by_cases hs : scan S.2.2.1.2 S.2.2.1.1 0 (-1) = -1
  · refine ⟨cW S S.2.2.1, fun y => y = 1 + plc S.2.2.1.2 S.2.2.1.1, h.cW _, uni _, fun M hR => Cl.mono (c_tells hR.2.2.1) (fun v M' q => ?_), fun M hR => Cl.mono (m_tells hR.2.2.1) (fun v M' q => ?_)⟩
    · obtain ⟨z, q1, ⟨q2, -⟩ | ⟨-, q3, q4, q5, q6⟩⟩ := q
      · exact absurd hs q2
      · obtain ⟨h1, h2, h3, h4, h5, h6⟩ := hR
        refine ⟨z, q1, q3, ⟨h1.fr q4 (fun x y q => ?_), h2.fr q4 (fun x y q => ?_), h3.fr q4 (fun x y q => ?_), ⟨q5, h3.2.1, fun i hi => ⟨q6 i hi, scan_wok hs i (Nat.zero_le i) (by rw [Nat.zero_add]; exact hi)⟩⟩, fun k a b => (q4 _ _ (fun q => ?_)).trans (h5 k a b), h6.fr q4 (fun y => ⟨fun q => ?_, fun q => ?_⟩)⟩, q4.mono (fun x y q => ?_)⟩
        all_goals
          try unfold FC
          omega
    · obtain ⟨z, q1, ⟨q2, -⟩ | ⟨-, q3, q4, q5, q6⟩⟩ := q
      · exact absurd hs q2
      · obtain ⟨h1, h2, h3, h4, h5, h6⟩ := hR
        have e5 : M' 217 5 = M 217 5 := q4 _ _ (by unfold WW; omega)
        refine ⟨z, q1, q3, ⟨h1.fr h.1 q4 (fun x y q => ?_), h2.fr q4 (fun x y q => ?_), h3.fr q4 (fun x y q => ?_), ⟨q5, h3.2.1, fun i hi => ⟨q6 i hi, scan_wok hs i (Nat.zero_le i) (by rw [Nat.zero_add]; exact hi)⟩⟩, fun k a b => (q4 _ _ (fun q => ?_)).trans (h5 k a b), fun k hk w => (h6 k hk (e5.symm.trans w)).fr3 q4 (fun x y q => ?_)⟩, q4.mono (fun x y q => ?_)⟩
        all_goals
          unfold WW at q
          try unfold FM
          omega
  · refine ⟨S, fun y => y = -10 - scan S.2.2.1.2 S.2.2.1.1 0 (-1), h.same, uni _, fun M hR => Cl.mono (c_tells hR.2.2.1) (fun v M' q => ?_), fun M hR => Cl.mono (m_tells hR.2.2.1) (fun v M' q => ?_)⟩
    · obtain ⟨z, q1, ⟨-, q2, rfl⟩ | ⟨q3, -⟩⟩ := q
      · exact ⟨z, q1, q2, hR, Fr.refl⟩
      · exact absurd q3 hs
    · obtain ⟨z, q1, ⟨-, q2, rfl⟩ | ⟨q3, -⟩⟩ := q
      · exact ⟨z, q1, q2, hR, Fr.refl⟩
      · exact absurd q3 hs
theorem q_back (hc : c < 1000000000) (h : okG c S) : EQ c 104 152 [] S := by
  rcases List.eq_nil_or_concat S.2.1 with q | ⟨H, s, q⟩
  · exact eq_bad hc h (i := 1) (j := 12) (by omega) rfl (fun M hb hR => c_back_no M hb (by rw [← q]; exact hR.2.1)) (fun M hb hR => m_back_no M hb (by rw [← q]; exact hR.2.1))
  · rw [List.concat_eq_append] at q
    have hvs : vs s := h.2.2 s (by rw [q]; exact List.mem_append_right _ List.mem_cons_self)
    refine ⟨cH S s H, fun y => y = (H.length : Int), ⟨hvs, fun j a b => ?_, fun u hu => h.2.2 u (by rw [q]; exact List.mem_append_left _ hu)⟩, uni _, kc_ch (fun M hR => c_back (by rw [← q]; exact hR.2.1)), km_cg (P := WB) (fun x y q => by unfold WB at q; omega) (fun M hR => m_back1 M (by rw [← q]; exact hR.2.1))⟩
    have := h.2.1 j a b
    show 0 ≤ S.2.2.2.2 j ∧ S.2.2.2.2 j ≤ c + 1
    omega
noncomputable def dgV (S : Sg) : Int := fd (fun a => vl (wrow (S.1.2.1 0) (mdA S.1 0) S.2.2.2.1.2 S.2.2.2.1.1 (a / S.1.2.1 0) (a % S.1.2.1 0))) (fdA S.1 (fd (fun x => tdV (S.2.2.2.2 0) (S.2.2.2.2 1) (S.2.2.2.2 2) S.2.1.length (pI S.1.1) S.2.2.1.1 x) 1562 6) 4) (S.1.2.1 0 * S.1.2.1 0)
theorem q_digestC (h : okG c S) {M : Mo} (hR : RC M S) : PL 106 [(2, 0)] M (dgV S) := c_digest h.1 hR.1 hR.2.2.2.1 (hR.2.2.2.2.1 0 (by omega) (by omega)) (hR.2.2.2.2.1 1 (by omega) (by omega)) (hR.2.2.2.2.1 2 (by omega) (by omega)) (by obtain ⟨q, q1, q2, q3, q4⟩ := hR.2.1; exact q3) hR.2.2.1.1
theorem q_digestM (h : okG c S) {M : Mo} (hR : RM M S) : CL 214 [(2, 217)] M (fun z M' => z = dgV S ∧ RM M' S ∧ Fr FM M M') := Cl.mono (m_digest h.1 hR.1 hR.2.2.2.1 (hR.2.2.2.2.1 0 (by omega) (by omega)) (hR.2.2.2.2.1 1 (by omega) (by omega)) (hR.2.2.2.2.1 2 (by omega) (by omega)) hR.2.1.1 hR.2.2.1.1) (fun v M' q => by
  obtain ⟨x, q1, q2, q3⟩ := q
  exact ⟨x, q1, q2, hR.fr h.1 q3 (fun x y w => by unfold W1 at w; unfold QM; omega), q3.mono (fun x y w => by unfold W1 at w; unfold FM; omega)⟩)
end
