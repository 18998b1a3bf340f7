/-! One step of the abstract machine is one of the JVM. -/
theorem i8_of {z : Int} (h : -128 ≤ z) (h2 : z < 128) : (Int8.ofInt z).toInt32 = Int32.ofInt z := by
  rw [← Int32.toInt_inj, Int8.toInt_toInt32, Int8.toInt_ofInt, i32_of (by omega), show Int8.size = 256 from rfl, Int.bmod_eq_of_le (by omega) (by omega)]
theorem i16_of {z : Int} (h : -32768 ≤ z) (h2 : z < 32768) : (Int16.ofInt z).toInt32 = Int32.ofInt z := by
  rw [← Int32.toInt_inj, Int16.toInt_toInt32, Int16.toInt_ofInt, i32_of (by omega), show Int16.size = 65536 from rfl, Int.bmod_eq_of_le (by omega) (by omega)]
theorem i2l_of {z : Int} (h : -2147483648 ≤ z ∧ z < 2147483648) : (Int32.ofInt z).toInt64 = Int64.ofInt z := by
  rw [← Int64.toInt_inj, Int32.toInt_toInt64, i32_of h, i64_of (by omega)]
theorem lc_of : ∀ z : Fin 2, Int64.ofNat z.val = Int64.ofInt z.val := by decide
theorem z32 : (0 : Int32) = Int32.ofInt 0 := rfl

section
variable {p : Program} {l : Launch} {e : Env} {R : Room} {s : State} {m : MethodId} {args : Array Value} {below : List Frame} {meth : Method} {c : Code} {Q : State → Prop} {D : va_G} {base bb : Nat} {o : Option (List Int)} {f n0 s0 : Nat} {ad0 : Nat → Nat} {ac0 : Nat → ClassId}
variable {pc pc' len : Nat} {ls st ls' st' : List AV} {σ σ' : Sh} {M M' : Mo}

theorem g_if (C : Cx f o p R s m args meth c base bb D) {cc : Jvm.ClassFile.Cond} {z : Int} (hd : decode (bc f) pc = .ok (.ifCond cc z, len))
    (h : astep o f pc (.ifCond cc z) len ls st σ M = some (.inl (pc', ls', st', σ', M'))) (hG : G p l e R s m args below meth c Q D base bb o f n0 s0 ad0 ac0 pc' ls' st' σ' M') : G p l e R s m args below meth c Q D base bb o f n0 s0 ad0 ac0 pc ls st σ M := by
  obtain ⟨hx, hb, -⟩ := C
  unfold astep at h
  dsimp only at h
  split at h
  · rename_i hl
    obtain ⟨rfl, hjmp⟩ := hl
    split at h
    · rename_i x st0
      split at h
      · rename_i hc
        obtain ⟨ht, rfl, rfl, rfl, rfl⟩ := jm_spec h
        intro H locs cells slots lsm ad ac hk2
        have k := hG H locs cells slots lsm ad ac (hk2.stk (ok_t1 hk2.sto))
        have rx := ok_rng hk2.sto
        have ry : (-2147483648 : Int) ≤ 0 ∧ (0 : Int) < 2147483648 := by decide
        rw [List.map_cons, cv0]
        cases cc <;> simp only [cmpb, decide_eq_true_eq] at hc
        · exact lv_if_eq hx hb hd ht (fun _ => k) (fun q => absurd (by rw [z32, i32_eq rx ry]; exact hc) q)
        · exact lv_if_ne hx hb hd ht (fun _ => k) (fun q => absurd (by rw [z32, i32_eq rx ry] at q; exact q) hc)
        · exact lv_if_lt hx hb hd ht (fun _ => k) (fun q => absurd (by rw [z32, i32_lt rx ry]; exact hc) q)
        · exact lv_if_ge hx hb hd ht (fun _ => k) (fun q => absurd (by rw [z32, i32_le ry rx]; exact hc) q)
        · exact lv_if_gt hx hb hd ht (fun _ => k) (fun q => absurd (by rw [z32, i32_lt ry rx]; exact hc) q)
        · exact lv_if_le hx hb hd ht (fun _ => k) (fun q => absurd (by rw [z32, i32_le rx ry]; exact hc) q)
      · rename_i hc
        obtain ⟨rfl, rfl, rfl, rfl, rfl⟩ := nx_inj h
        intro H locs cells slots lsm ad ac hk2
        have k := hG H locs cells slots lsm ad ac (hk2.stk (ok_t1 hk2.sto))
        have rx := ok_rng hk2.sto
        have ry : (-2147483648 : Int) ≤ 0 ∧ (0 : Int) < 2147483648 := by decide
        rw [List.map_cons, cv0]
        have hneg : ¬ cmpb cc x 0 = true := hc
        have ht : (pc : Int) + z = (((pc : Int) + z).toNat : Int) := by omega
        cases cc <;> simp only [cmpb, decide_eq_true_eq] at hneg
        · exact lv_if_eq hx hb hd ht (fun q => absurd (by rw [z32, i32_eq rx ry] at q; exact q) hneg) (fun _ => k)
        · exact lv_if_ne hx hb hd ht (fun q => absurd (fun q2 => q (by rw [z32, i32_eq rx ry]; exact q2)) hneg) (fun _ => k)
        · exact lv_if_lt hx hb hd ht (fun q => absurd (by rw [z32, i32_lt rx ry] at q; exact q) hneg) (fun _ => k)
        · exact lv_if_ge hx hb hd ht (fun q => absurd (by rw [z32, i32_le ry rx] at q; exact q) hneg) (fun _ => k)
        · exact lv_if_gt hx hb hd ht (fun q => absurd (by rw [z32, i32_lt ry rx] at q; exact q) hneg) (fun _ => k)
        · exact lv_if_le hx hb hd ht (fun q => absurd (by rw [z32, i32_le rx ry] at q; exact q) hneg) (fun _ => k)
    · cases h
  · cases h
theorem g_icmp (C : Cx f o p R s m args meth c base bb D) {cc : Jvm.ClassFile.Cond} {z : Int} (hd : decode (bc f) pc = .ok (.if_icmp cc z, len))
    (h : astep o f pc (.if_icmp cc z) len ls st σ M = some (.inl (pc', ls', st', σ', M'))) (hG : G p l e R s m args below meth c Q D base bb o f n0 s0 ad0 ac0 pc' ls' st' σ' M') : G p l e R s m args below meth c Q D base bb o f n0 s0 ad0 ac0 pc ls st σ M := by
  obtain ⟨hx, hb, -⟩ := C
  unfold astep at h
  dsimp only at h
  split at h
  · rename_i hl
    obtain ⟨rfl, hjmp⟩ := hl
    split at h
    · rename_i y x st0
      split at h
      · rename_i hc
        obtain ⟨ht, rfl, rfl, rfl, rfl⟩ := jm_spec h
        intro H locs cells slots lsm ad ac hk2
        have k := hG H locs cells slots lsm ad ac (hk2.stk (ok_t1 (ok_t1 hk2.sto)))
        have rx := ok_rng (ok_t1 hk2.sto)
        have ry := ok_rng hk2.sto
        rw [List.map_cons, List.map_cons, cv0, cv0]
        cases cc <;> simp only [cmpb, decide_eq_true_eq] at hc
        · exact lv_icmp_eq hx hb hd ht (fun _ => k) (fun q => absurd (by rw [i32_eq rx ry]; exact hc) q)
        · exact lv_icmp_ne hx hb hd ht (fun _ => k) (fun q => absurd (by rw [i32_eq rx ry] at q; exact q) hc)
        · exact lv_icmp_lt hx hb hd ht (fun _ => k) (fun q => absurd (by rw [i32_lt rx ry]; exact hc) q)
        · exact lv_icmp_ge hx hb hd ht (fun _ => k) (fun q => absurd (by rw [i32_le ry rx]; exact hc) q)
        · exact lv_icmp_gt hx hb hd ht (fun _ => k) (fun q => absurd (by rw [i32_lt ry rx]; exact hc) q)
        · exact lv_icmp_le hx hb hd ht (fun _ => k) (fun q => absurd (by rw [i32_le rx ry]; exact hc) q)
      · rename_i hc
        obtain ⟨rfl, rfl, rfl, rfl, rfl⟩ := nx_inj h
        intro H locs cells slots lsm ad ac hk2
        have k := hG H locs cells slots lsm ad ac (hk2.stk (ok_t1 (ok_t1 hk2.sto)))
        have rx := ok_rng (ok_t1 hk2.sto)
        have ry := ok_rng hk2.sto
        rw [List.map_cons, List.map_cons, cv0, cv0]
        have hneg : ¬ cmpb cc x y = true := hc
        have ht : (pc : Int) + z = (((pc : Int) + z).toNat : Int) := by omega
        cases cc <;> simp only [cmpb, decide_eq_true_eq] at hneg
        · exact lv_icmp_eq hx hb hd ht (fun q => absurd (by rw [i32_eq rx ry] at q; exact q) hneg) (fun _ => k)
        · exact lv_icmp_ne hx hb hd ht (fun q => absurd (fun q2 => q (by rw [i32_eq rx ry]; exact q2)) hneg) (fun _ => k)
        · exact lv_icmp_lt hx hb hd ht (fun q => absurd (by rw [i32_lt rx ry] at q; exact q) hneg) (fun _ => k)
        · exact lv_icmp_ge hx hb hd ht (fun q => absurd (by rw [i32_le ry rx] at q; exact q) hneg) (fun _ => k)
        · exact lv_icmp_gt hx hb hd ht (fun q => absurd (by rw [i32_lt ry rx] at q; exact q) hneg) (fun _ => k)
        · exact lv_icmp_le hx hb hd ht (fun q => absurd (by rw [i32_le rx ry] at q; exact q) hneg) (fun _ => k)
    · cases h
  · cases h
theorem g_inc (C : Cx f o p R s m args meth c base bb D) {n : Nat} {z : Int} (hd : decode (bc f) pc = .ok (.iinc n z, len))
    (h : astep o f pc (.iinc n z) len ls st σ M = some (.inl (pc', ls', st', σ', M'))) (hG : G p l e R s m args below meth c Q D base bb o f n0 s0 ad0 ac0 pc' ls' st' σ' M') : G p l e R s m args below meth c Q D base bb o f n0 s0 ad0 ac0 pc ls st σ M := by
  obtain ⟨hx, hb, -⟩ := C
  unfold astep at h
  dsimp only at h
  split at h
  · rename_i hl
    subst hl
    split at h
    · rename_i x hv
      obtain ⟨rfl, rfl, rfl, rfl, rfl⟩ := nx_inj h
      intro H locs cells slots lsm ad ac hk2
      have hi : n < ls.length := (List.getElem?_eq_some_iff.mp hv).1
      obtain ⟨k, hk⟩ := List.getElem?_of_mem (asl_mem (q := (n, .int (Int32.ofInt x))).mpr ⟨(0, x), hv, by simp, rfl⟩ : (n, Value.int (Int32.ofInt x)) ∈ asl ad bb ls)
      refine lv_iinc (v := Int32.ofInt x + Int32.ofInt z) hx hb hd hk2.2.2.1.has hk rfl (by rw [← hk2.2.2.1.2.2.1]; exact hi) rfl (fun ls' hn => ?_)
      have hn2 : lv_has ls' (mxl f) ((n, cv ad bb (0, (Int32.ofInt x + Int32.ofInt z).toInt)) :: (asl ad bb ls).filter (fun q => !(q.1 == n) && !(q.1 + 1 == n && q.2.category == 2))) := by
        rw [cv0, Int32.ofInt_toInt]
        exact hn
      exact hG H locs cells slots ls' ad ac ⟨hk2.1, hk2.2.1, hk2.2.2.1.st1 hi hn2, stl_ok hk2.2.2.2.1 (okv_i _ _ _) hi, hk2.sto, hk2.2.2.2.2.2⟩
    · cases h
  · cases h
theorem ava_inl {n : Nat} {kds : List Nat} {r : Nat × List AV × List AV × Sh × Mo} (h : ava f len st σ n kds = some (.inl r)) : False := by
  unfold ava at h
  split at h
  · split at h
    · split at h
      · split at h
        · split at h <;> cases h
        · cases h
      · cases h
    · cases h
  · cases h
theorem klk_spec {oc idx : Nat} {x : Nat × Nat × Int × Nat × Nat} (h : klk oc idx = some x) : (x.2.2.2.1 = 0 → Cond.constant (cn oc) idx (Int32.ofInt x.2.2.1) ∈ TG ∧ (Int32.ofInt x.2.2.1).toInt = x.2.2.1) ∧ (x.2.2.2.1 = 1 → Cond.constantLong (cn oc) idx (Int64.ofInt x.2.2.1) ∈ TG ∧ (Int64.ofInt x.2.2.1).toInt = x.2.2.1) := by
  have h1 := List.find?_some h
  have h2 := List.mem_of_find?_eq_some h
  simp only [Bool.and_eq_true, beq_iff_eq] at h1
  have h3 := kT_ok x h2
  rw [h1.1, h1.2] at h3
  rcases h3 with ⟨q1, q2, q3⟩ | ⟨q1, q2, q3⟩
  · exact ⟨fun _ => ⟨TG_in q2 rfl, q3⟩, fun q => by omega⟩
  · exact ⟨fun q => by omega, fun _ => ⟨TG_in q2 rfl, q3⟩⟩
set_option maxHeartbeats 4000000 in
theorem g_step (C : Cx f o p R s m args meth c base bb D) {i : Instr} (hd : decode (bc f) pc = .ok (i, len)) (hR : Rm R n0 s0 σ')
    (h : astep o f pc i len ls st σ M = some (.inl (pc', ls', st', σ', M'))) (hG : G p l e R s m args below meth c Q D base bb o f n0 s0 ad0 ac0 pc' ls' st' σ' M') : G p l e R s m args below meth c Q D base bb o f n0 s0 ad0 ac0 pc ls st σ M := by
  have C0 := C
  obtain ⟨hx, hb, hml, hown, hts, -⟩ := C
  cases i with
  | aload n => exact g_alda (fun hl H locs cells slots lsm a rest k kk => by subst hl; exact lv_aload hx hb hd k kk) h hG
  | aload_n n => exact g_alda (fun hl H locs cells slots lsm a rest k kk => by subst hl; exact lv_aload_n hx hb hd rfl k kk) h hG
  | iload n => exact g_ald (t := 0) (fun hl H locs cells slots lsm ad z rest k kk => by subst hl; exact lv_iload hx hb hd k kk) (by decide) h hG
  | iload_n n => exact g_ald (t := 0) (fun hl H locs cells slots lsm ad z rest k kk => by subst hl; exact lv_iload_n hx hb hd rfl k kk) (by decide) h hG
  | lload n => exact g_ald (t := 1) (fun hl H locs cells slots lsm ad z rest k kk => by subst hl; exact lv_lload hx hb hd k kk) (by decide) h hG
  | lload_n n => exact g_ald (t := 1) (fun hl H locs cells slots lsm ad z rest k kk => by subst hl; exact lv_lload_n hx hb hd rfl k kk) (by decide) h hG
  | istore n => exact g_ast (t := 0) (by decide) (fun hl H locs cells slots lsm ad z rest hi h0 hh kk => by subst hl; exact lv_istore hx hb hd hh hi rfl kk) h hG
  | istore_n n => exact g_ast (t := 0) (by decide) (fun hl H locs cells slots lsm ad z rest hi h0 hh kk => by subst hl; exact lv_istore_n hx hb hd rfl hh hi rfl kk) h hG
  | lstore n => exact g_ast (t := 1) (by decide) (fun hl H locs cells slots lsm ad z rest hi h0 hh kk => by subst hl; exact lv_lstore hx hb hd hh hi rfl kk) h hG
  | lstore_n n => exact g_ast (t := 1) (by decide) (fun hl H locs cells slots lsm ad z rest hi h0 hh kk => by subst hl; exact lv_lstore_n hx hb hd rfl hh hi rfl kk) h hG
  | astore n => exact g_ast (t := 2) (by decide) (fun hl H locs cells slots lsm ad z rest hi h0 hh kk => by subst hl; rw [cv2 _ _ (h0 rfl)] at kk ⊢; exact lv_astore hx hb hd hh hi rfl kk) h hG
  | astore_n n => exact g_ast (t := 2) (by decide) (fun hl H locs cells slots lsm ad z rest hi h0 hh kk => by subst hl; rw [cv2 _ _ (h0 rfl)] at kk ⊢; exact lv_astore_n hx hb hd rfl hh hi rfl kk) h hG
  | iconst z => exact g_cst (fun hl h1 h2 H locs cells slots lsm rest kk => by subst hl; exact lv_iconst hx hb hd rfl kk) h hG
  | bipush z => exact g_cst (fun hl h1 h2 H locs cells slots lsm rest kk => by subst hl; exact lv_bipush hx hb hd (i8_of h1 h2) kk) h hG
  | sipush z =>
    unfold astep at h
    dsimp only at h
    split at h
    · rename_i hl
      obtain ⟨rfl, h1, h2⟩ := hl
      obtain ⟨rfl, rfl, rfl, rfl, rfl⟩ := nx_inj h
      exact g_push (okv_z (by omega)) (by simp) (fun H locs cells slots lsm ad rest kk => lv_sipush hx hb hd (i16_of h1 h2) kk) hG
    · cases h
  | lconst z =>
    unfold astep at h
    dsimp only at h
    split at h
    · rename_i hl
      subst hl
      obtain ⟨rfl, rfl, rfl, rfl, rfl⟩ := nx_inj h
      have hr : (-9223372036854775808 : Int) ≤ ((z.val : Nat) : Int) ∧ ((z.val : Nat) : Int) < 9223372036854775808 := by have := z.isLt; omega
      exact g_push (v := (1, ((z.val : Nat) : Int))) (okv_w hr) (by simp) (fun H locs cells slots lsm ad rest kk => lv_lconst hx hb hd (lc_of z) kk) hG
    · cases h
  | ldc n =>
    unfold astep at h
    dsimp only at h
    split at h
    · rename_i hl
      subst hl
      split at h
      · rename_i x hkl
        split at h
        · rename_i h0
          obtain ⟨rfl, rfl, rfl, rfl, rfl⟩ := nx_inj h
          obtain ⟨q1, q2⟩ := (klk_spec hkl).1 h0
          have hr : -2147483648 ≤ x.2.2.1 ∧ x.2.2.1 < 2147483648 := by rw [← q2]; exact i32_rng _
          exact g_push (v := (0, x.2.2.1)) (okv_z hr) (by simp) (fun H locs cells slots lsm ad rest kk => lv_ldc hx hb hown (hts _ q1) hd kk) hG
        · cases h
      · cases h
    · cases h
  | ldc_w n =>
    unfold astep at h
    dsimp only at h
    split at h
    · rename_i hl
      subst hl
      split at h
      · rename_i x hkl
        split at h
        · rename_i h0
          obtain ⟨rfl, rfl, rfl, rfl, rfl⟩ := nx_inj h
          obtain ⟨q1, q2⟩ := (klk_spec hkl).1 h0
          have hr : -2147483648 ≤ x.2.2.1 ∧ x.2.2.1 < 2147483648 := by rw [← q2]; exact i32_rng _
          exact g_push (v := (0, x.2.2.1)) (okv_z hr) (by simp) (fun H locs cells slots lsm ad rest kk => lv_ldcw hx hb hown (hts _ q1) hd kk) hG
        · cases h
      · cases h
    · cases h
  | ldc2_w n =>
    unfold astep at h
    dsimp only at h
    split at h
    · rename_i hl
      subst hl
      split at h
      · rename_i x hkl
        split at h
        · rename_i h0
          obtain ⟨rfl, rfl, rfl, rfl, rfl⟩ := nx_inj h
          obtain ⟨q1, q2⟩ := (klk_spec hkl).2 h0
          have hr : -9223372036854775808 ≤ x.2.2.1 ∧ x.2.2.1 < 9223372036854775808 := by rw [← q2]; exact i64_rng _
          exact g_push (v := (1, x.2.2.1)) (okv_w hr) (by simp) (fun H locs cells slots lsm ad rest kk => lv_ldc2 hx hb hown (hts _ q1) hd kk) hG
        · cases h
      · cases h
    · cases h
  | iadd => exact g_bi (fun hl H locs cells slots lsm x y rest k => by subst hl; exact lv_iadd hx hb hd k) h hG
  | isub => exact g_bi (fun hl H locs cells slots lsm x y rest k => by subst hl; exact lv_isub hx hb hd k) h hG
  | imul => exact g_bi (fun hl H locs cells slots lsm x y rest k => by subst hl; exact lv_imul hx hb hd k) h hG
  | iand => exact g_bi (fun hl H locs cells slots lsm x y rest k => by subst hl; exact lv_iand hx hb hd k) h hG
  | ixor => exact g_bi (fun hl H locs cells slots lsm x y rest k => by subst hl; exact lv_ixor hx hb hd k) h hG
  | ishl => exact g_bi (len := len) (g := fun x y => x <<< (y &&& 31)) (fun hl H locs cells slots lsm x y rest k => by subst hl; exact lv_ishl hx hb hd k) h hG
  | ishr => exact g_bi (len := len) (g := fun x y => x >>> (y &&& 31)) (fun hl H locs cells slots lsm x y rest k => by subst hl; exact lv_ishr hx hb hd k) h hG
  | iushr => exact g_bi (len := len) (g := fun x y => (x.toUInt32 >>> (y.toUInt32 &&& Int32.toUInt32 31)).toInt32) (fun hl H locs cells slots lsm x y rest k => by subst hl; exact lv_iushr hx hb hd rfl k) h hG
  | idiv => exact g_bz (fun hl H locs cells slots lsm x y rest hy k => by subst hl; exact lv_idiv hx hb hd hy k) h hG
  | irem => exact g_bz (len := len) (g := fun x y => x - x / y * y) (fun hl H locs cells slots lsm x y rest hy k => by subst hl; exact lv_irem hx hb hd hy k) h hG
  | ladd => exact g_bl (fun hl H locs cells slots lsm x y rest k => by subst hl; exact lv_ladd hx hb hd k) h hG
  | lsub => exact g_bl (fun hl H locs cells slots lsm x y rest k => by subst hl; exact lv_lsub hx hb hd k) h hG
  | lmul => exact g_bl (fun hl H locs cells slots lsm x y rest k => by subst hl; exact lv_lmul hx hb hd k) h hG
  | land => exact g_bl (fun hl H locs cells slots lsm x y rest k => by subst hl; exact lv_land hx hb hd k) h hG
  | lor => exact g_bl (fun hl H locs cells slots lsm x y rest k => by subst hl; exact lv_lor hx hb hd k) h hG
  | ldiv => exact g_blz (fun hl H locs cells slots lsm x y rest hy k => by subst hl; exact lv_ldiv hx hb hd hy k) h hG
  | lrem => exact g_blz (len := len) (g := fun x y => x - x / y * y) (fun hl H locs cells slots lsm x y rest hy k => by subst hl; exact lv_lrem hx hb hd hy k) h hG
  | lshl => exact g_bs (len := len) (g := fun x y => x <<< (y.toInt64 &&& 63)) (fun hl H locs cells slots lsm x y rest k => by subst hl; exact lv_lshl hx hb hd rfl k) h hG
  | lushr => exact g_bs (len := len) (g := fun x y => (x.toUInt64 >>> (y.toInt64.toUInt64 &&& Int64.toUInt64 63)).toInt64) (fun hl H locs cells slots lsm x y rest k => by subst hl; exact lv_lushr hx hb hd rfl k) h hG
  | ineg =>
    unfold astep at h
    dsimp only at h
    split at h
    · rename_i hl
      subst hl
      split at h
      · rename_i x st0
        obtain ⟨rfl, rfl, rfl, rfl, rfl⟩ := nx_inj h
        intro H locs cells slots lsm ad ac hk2
        
        have k := hG H locs cells slots lsm ad ac (hk2.stk (ok_c1 (okv_i _ _ _) (by simp) (ok_t1 hk2.sto)))
        rw [List.map_cons, cv0] at k
        rw [List.map_cons, cv0]
        rw [Int32.ofInt_toInt] at k
        exact lv_ineg hx hb hd k
      · cases h
    · cases h
  | i2l =>
    unfold astep at h
    dsimp only at h
    split at h
    · rename_i hl
      subst hl
      split at h
      · rename_i x st0
        obtain ⟨rfl, rfl, rfl, rfl, rfl⟩ := nx_inj h
        intro H locs cells slots lsm ad ac hk2
        have rx := ok_rng hk2.sto
        have k := hG H locs cells slots lsm ad ac (hk2.stk (ok_c1 (okv_w (by omega)) (by simp) (ok_t1 hk2.sto)))
        rw [List.map_cons, cv1] at k
        rw [List.map_cons, cv0]
        exact lv_i2l hx hb hd (i2l_of rx) k
      · cases h
    · cases h
  | l2i =>
    unfold astep at h
    dsimp only at h
    split at h
    · rename_i hl
      subst hl
      split at h
      · rename_i x st0
        obtain ⟨rfl, rfl, rfl, rfl, rfl⟩ := nx_inj h
        intro H locs cells slots lsm ad ac hk2
        
        have k := hG H locs cells slots lsm ad ac (hk2.stk (ok_c1 (okv_i _ _ _) (by simp) (ok_t1 hk2.sto)))
        rw [List.map_cons, cv0] at k
        rw [List.map_cons, cv1]
        rw [Int32.ofInt_toInt] at k
        exact lv_l2i hx hb hd rfl k
      · cases h
    · cases h
  | lcmp =>
    unfold astep at h
    dsimp only at h
    split at h
    · rename_i hl
      subst hl
      split at h
      · rename_i y x st0
        obtain ⟨rfl, rfl, rfl, rfl, rfl⟩ := nx_inj h
        intro H locs cells slots lsm ad ac hk2
        have ry := ok_rngl hk2.sto
        have rx := ok_rngl (ok_t1 hk2.sto)
        have k := hG H locs cells slots lsm ad ac (hk2.stk (ok_c1 (okv_z (by split <;> (try split) <;> omega)) (by simp) (ok_t1 (ok_t1 hk2.sto))))
        rw [List.map_cons, cv0] at k
        rw [List.map_cons, List.map_cons, cv1, cv1]
        refine W.lcmp hx hb hd ?_
        have e : lg_cmp (Int64.ofInt x) (Int64.ofInt y) = Int32.ofInt (if y < x then 1 else if x = y then 0 else -1) := by
          unfold lg_cmp
          by_cases h1 : y < x
          · rw [if_pos h1, if_pos ((i64_lt ry rx).mpr h1)]
            rfl
          · rw [if_neg h1, if_neg (fun q => h1 ((i64_lt ry rx).mp q))]
            by_cases h2 : x = y
            · rw [if_pos h2, if_pos ((i64_eq rx ry).mpr h2)]
              rfl
            · rw [if_neg h2, if_neg (fun q => h2 ((i64_eq rx ry).mp q))]
              rfl
        rw [e]
        exact k
      · cases h
    · cases h
  | iinc n z => exact g_inc C0 hd h hG
  | dup =>
    unfold astep at h
    dsimp only at h
    split at h
    · rename_i hl
      subst hl
      split at h
      · rename_i v st0
        split at h
        · rename_i hv
          obtain ⟨rfl, rfl, rfl, rfl, rfl⟩ := nx_inj h
          intro H locs cells slots lsm ad ac hk2
          have q := hk2.sto _ List.mem_cons_self
          have k := hG H locs cells slots lsm ad ac (hk2.stk (ok_c1 q.1 q.2 hk2.sto))
          exact lv_dup hx hb hd (by rw [cv_cat]; unfold catv; rw [if_neg (by omega)]) k
        · cases h
      · cases h
    · cases h
  | dup2 =>
    unfold astep at h
    dsimp only at h
    split at h
    · rename_i hl
      subst hl
      split at h
      · rename_i v v2 st0
        split at h
        · rename_i hv
          obtain ⟨rfl, rfl, rfl, rfl, rfl⟩ := nx_inj h
          intro H locs cells slots lsm ad ac hk2
          have q := hk2.sto _ List.mem_cons_self
          have q2 := ok_t1 hk2.sto _ List.mem_cons_self
          have k := hG H locs cells slots lsm ad ac (hk2.stk (ok_c1 q.1 q.2 (ok_c1 q2.1 q2.2 hk2.sto)))
          exact lv_dup2_11 hx hb hd (by rw [cv_cat]; unfold catv; rw [if_neg (by omega)]) (by rw [cv_cat]; unfold catv; rw [if_neg (by omega)]) k
        · cases h
      · cases h
    · cases h
  | goto z =>
    unfold astep at h
    dsimp only at h
    split at h
    · rename_i hl
      subst hl
      obtain ⟨ht, rfl, rfl, rfl, rfl⟩ := jm_spec h
      intro H locs cells slots lsm ad ac hk2
      exact lv_goto hx hb hd ht (hG H locs cells slots lsm ad ac hk2)
    · cases h
  | ifCond cc z => exact g_if C0 hd h hG
  | if_icmp cc z => exact g_icmp C0 hd h hG
  | tableswitch d lo hi offs =>
    unfold astep at h
    dsimp only at h
    split at h
    · rename_i x st0
      split at h
      · rename_i hc
        obtain ⟨ht, rfl, rfl, rfl, rfl⟩ := jm_spec h
        intro H locs cells slots lsm ad ac hk2
        have rx := ok_rng hk2.sto
        rw [List.map_cons, cv0]
        exact lv_tableOut hx hb hd (by rw [i32_of rx]; exact hc) ht (hG H locs cells slots lsm ad ac (hk2.stk (ok_t1 hk2.sto)))
      · rename_i hc
        split at h
        · rename_i z hz
          obtain ⟨ht, rfl, rfl, rfl, rfl⟩ := jm_spec h
          intro H locs cells slots lsm ad ac hk2
          have rx := ok_rng hk2.sto
          rw [List.map_cons, cv0]
          exact lv_tableIn hx hb hd (by rw [i32_of rx]; omega) (by rw [i32_of rx]; omega) (by rw [i32_of rx]; exact hz) ht (hG H locs cells slots lsm ad ac (hk2.stk (ok_t1 hk2.sto)))
        · cases h
    · cases h
  | lookupswitch d ps =>
    unfold astep at h
    dsimp only at h
    split at h
    · rename_i x st0
      split at h
      · rename_i hc
        obtain ⟨ht, rfl, rfl, rfl, rfl⟩ := jm_spec h
        intro H locs cells slots lsm ad ac hk2
        have rx := ok_rng hk2.sto
        rw [List.map_cons, cv0]
        exact lv_lookup hx hb hd hc (by rw [i32_of rx]) ht (hG H locs cells slots lsm ad ac (hk2.stk (ok_t1 hk2.sto)))
      · cases h
    · cases h
  | getfield n => exact g_get C0 hd h hG
  | putfield n => exact g_put C0 hd h hG
  | new n => exact g_new C0 hd hR h hG
  | newarray t => exact g_newa C0 hd hR h hG
  | anewarray k => exact g_newq C0 hd hR h hG
  | multianewarray k d => exact g_mna C0 hd hR h hG
  | arraylength => exact g_alen C0 hd h hG
  | iaload => exact g_iald C0 hd h hG
  | laload => exact g_lald C0 hd h hG
  | aaload => exact g_aald C0 hd h hG
  | iastore => exact g_iast C0 hd h hG
  | lastore => exact g_last C0 hd h hG
  | aastore => exact g_aast C0 hd h hG
  | invokevirtual n => exact (ava_inl h).elim
  | invokestatic n =>
    unfold astep at h
    dsimp only at h
    split at h
    · rename_i hm
      exact g_acp C0 hd hm h hG
    · exact (ava_inl h).elim
  | invokespecial n =>
    unfold astep at h
    dsimp only at h
    split at h
    · rename_i hm
      exact g_oini C0 hd hm h hG
    · exact (ava_inl h).elim
  | ireturn =>
    exfalso
    unfold astep at h
    dsimp only at h
    split at h
    · split at h
      · split at h <;> cases h
      · cases h
    · cases h
  | lreturn =>
    exfalso
    unfold astep at h
    dsimp only at h
    split at h
    · split at h
      · split at h <;> cases h
      · cases h
    · cases h
  | return_ =>
    exfalso
    unfold astep at h
    dsimp only at h
    split at h
    · split at h
      · split at h <;> cases h
      · cases h
    · cases h
  | _ => exact nomatch h
end
