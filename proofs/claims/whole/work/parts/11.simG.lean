/-! One step of the abstract machine is one of the JVM. -/
section
variable {p : Program} {l : Launch} {e : Env} {R : Room} {s : State} {m : MethodId} {args : Array Value} {below : List Frame} {meth : Method} {c : Code} {Q : State → Prop} {D : va_G} {base bb : Nat} {o : Option (List Int)} {f n0 s0 : Nat} {ad0 : Nat → Nat} {ac0 : Nat → ClassId}
variable {pc pc' len : Nat} {ls st ls' st' : List AV} {σ σ' : Sh} {M M' : Mo}

theorem g_mna1 (C : Cx f o p R s m args meth c base bb D) {k kd : Nat} {ty : FieldType} {z : Nat → vp_A} (hd : decode (bc f) pc = .ok (.multianewarray k 2, 4)) {n b : Int} {st0 : List AV} (hkd : kd = 23 ∨ kd = 24) (hn : 0 ≤ n ∧ n < 65536) (hb0 : 0 ≤ b ∧ b < 65536) (hR : Rm R n0 s0 ((σ ++ [(kd, n.toNat)]) ++ List.replicate n.toNat (kd - 3, b.toNat)))
    (hw : Cond.classLink (cn (own f)) k ("[" ++ (FieldType.array ty).toString) ∈ TG) (hov : va_AOA ty s) (hac : Cond.arrayClass ty ∈ TG) (hfit : fits ty (defaultValue ty) = true) (hdd : (defaultValue ty).isDefault = true) (hcb : componentBytes ty ≤ 8) (ht1 : aty kd = some (.array ty)) (ht2 : aty (kd - 3) = some ty)
    (hz : ∀ (K : Nat) (c : ClassId), Jvm.Free.Multi.innerC c K (defaultValue ty) = vp_cell c (z K)) (harc : ∀ (K : Nat) (ad : Nat → Nat) (cy : ClassId), arc ad (fun _ => cy) 0 (kd - 3) K (fun _ => 0) = .inl (cy, z K)) (hra : ∀ cy : ClassId, s.vm.findClass ("[" ++ ty.toString) = some cy → va_RA s cy ty)
    (hG : G p l e R s m args below meth c Q D base bb o f n0 s0 ad0 ac0 (pc + 4) ls ((2, (σ.length : Int)) :: st0) ((σ ++ [(kd, n.toNat)]) ++ List.replicate n.toNat (kd - 3, b.toNat)) (nwg σ M n.toNat)) : G p l e R s m args below meth c Q D base bb o f n0 s0 ad0 ac0 pc ls ((0, b) :: (0, n) :: st0) σ M := by
  obtain ⟨hx, hb, hml, hown, hts, -, -, -, -, -, hT, hbs, -⟩ := C
  obtain ⟨n1, n2⟩ := n32 hn
  obtain ⟨b1, b2⟩ := n32 hb0
  obtain ⟨cy, ky, comp, y1, y2, y3⟩ := Cond.arrayClass_spec (args := args) (first := s) (o := none) (idx := []) (hts _ hac)
  have hAy : ArrOfT s cy ty := fun n z => ⟨fun k h => (by cases h), ky, y2, comp, y3⟩
  intro H locs cells slots lsm ad ac hk2
  obtain ⟨r1, r2⟩ := hR
  rw [len_g] at r1
  rw [tot_app, tot_app] at r2
  have hrep : tot (List.replicate n.toNat (kd - 3, b.toNat)) = n.toNat * b.toNat := by
    unfold tot
    rw [List.map_replicate, List.sum_replicate_nat]
  rw [hrep] at r2
  have r2 : tot σ + (n.toNat + 0) + n.toNat * b.toNat ≤ s0 + R.slots := r2
  have e1 := hk2.2.2.2.2.2.1
  have e2 := hk2.2.2.2.2.2.2.1
  rw [List.map_cons, List.map_cons, cv0, cv0]
  have hnil : wso ad ac σ M ++ va_pl [] (fun _ => (.inr (0, []) : va_E)) = wso ad ac σ M := by
    show wso ad ac σ M ++ [] = _
    rw [List.append_nil]
  refine va_mna (X := wso ad ac σ M) (L := []) (f := fun _ => (.inr (0, []) : va_E)) (z := z b.toNat) (cy := cy) hx hb hown (hts _ hw) hov (hts _ hac) y1 hT.1 (by rw [hnil]; exact hk2.1.1) (by rw [hnil]; exact hk2.1.2.1) hk2.2.1 (fun q hq => by show base ≤ q; omega) n1 b1 n2 b2 (by omega) (by have : b.toNat * componentBytes ty ≤ b.toNat * 8 := Nat.mul_le_mul_left _ hcb; omega) (by omega) hfit hdd (by omega) (by omega) (hz b.toNat) hd ?_
  intro q r cA H1 hinj _ hK hP hD hS
  have hst := ok_t1 (ok_t1 hk2.sto)
  have hpl : va_pl ([] ++ (List.range n.toNat).map r) (vr_up (fun _ => (.inr (0, []) : va_E)) ((List.range n.toNat).map r) (.inl (cy, z b.toNat))) = (List.range n.toNat).map (fun i => (r i, arc ad (fun _ => cy) 0 (kd - 3) b.toNat (fun _ => 0))) := by
    unfold va_pl
    rw [List.nil_append, List.map_map]
    apply List.map_congr_left
    intro i hi
    show (r i, vr_up _ _ _ (r i)) = _
    rw [vr_up_in (List.mem_map.mpr ⟨i, hi, rfl⟩), harc]
  rw [hpl] at hP hD
  have kk := hG H1 locs (cells + 1 + n.toNat) (slots + n.toNat + n.toNat * b.toNat) lsm _ _ (hk2.mkg hkd hP hD hS (fun t h => by
    rw [ht1] at h
    cases h
    exact hK.2 0 _ rfl) (fun t h => by
    rw [ht2] at h
    cases h
    exact ⟨hAy, hra cy y1⟩) (ok_c1 (okv_r ⟨by omega, by omega⟩) (by simp) (ok_mono hst (by omega))))
  rw [List.map_cons, cv2 _ _ (by omega), Int.toNat_natCast, adg_eq, map_cv hst (fun k hk => adg_lt hk)] at kk
  exact kk
theorem g_mna (C : Cx f o p R s m args meth c base bb D) {k d : Nat} (hd : decode (bc f) pc = .ok (.multianewarray k d, len)) (hR : Rm R n0 s0 σ')
    (h : astep o f pc (.multianewarray k d) len ls st σ M = some (.inl (pc', ls', st', σ', M'))) (hG : G p l e R s m args below meth c Q D base bb o f n0 s0 ad0 ac0 pc' ls' st' σ' M') : G p l e R s m args below meth c Q D base bb o f n0 s0 ad0 ac0 pc ls st σ M := by
  have C0 := C
  obtain ⟨hx, hb, hml, hown, hts, -, -, -, -, -, hT, hbs, -⟩ := C
  unfold astep at h
  dsimp only at h
  split at h
  · rename_i hl
    obtain ⟨rfl, rfl⟩ := hl
    split at h
    · rename_i x b n st0 hgl
      split at h
      · rename_i hn
        obtain ⟨rfl, rfl, rfl, rfl, rfl⟩ := nx_inj h
        have f1 := List.find?_some hgl
        have f2 := List.mem_of_find?_eq_some hgl
        simp only [Bool.and_eq_true, beq_iff_eq] at f1
        have g2 := gT_ok x f2
        rw [f1.1, f1.2] at g2
        rcases g2 with ⟨q1, q2⟩ | ⟨q1, q2⟩
        · rw [q1] at hG hR
          exact g_mna1 (z := fun K => (K, .inl (fun _ => (0 : Int32)))) C0 hd (Or.inl rfl) ⟨hn.1, hn.2.1⟩ hn.2.2 hR (TG_in q2 rfl) hT.2.2.2.1 tg_acI rfl rfl (by decide) rfl rfl (fun K c => arrV_new c K _) (fun K ad cy => rfl) (fun cy h => h) hG
        · rw [q1] at hG hR
          exact g_mna1 (z := fun K => (K, .inr (.inl (fun _ => (0 : Int64))))) C0 hd (Or.inr rfl) ⟨hn.1, hn.2.1⟩ hn.2.2 hR (TG_in q2 rfl) hT.2.2.2.2 tg_acJ rfl rfl (by decide) rfl rfl (fun K c => arrV_new c K _) (fun K ad cy => rfl) (fun cy h => h) hG
      · cases h
    · cases h
  · cases h

end
