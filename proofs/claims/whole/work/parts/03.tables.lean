/-! The tables, checked by the kernel against the statement's words. -/
def tbk (c : Nat) : List Cond := match c with
  | 0 => k2_sels lw_privs
  | 1 => tables_1_1
  | 2 => tables_1_2
  | 3 => tables_1_3
  | 4 => tables_1_4
  | 5 => tables_1_5
  | 6 => tables_1_6
  | _ => []
def atp (p : Nat) : Option Cond := (tbk (p / 1000))[p % 1000]?
theorem atp_in {p : Nat} {w : Cond} (h : atp p = some w) : w ∈ lw_tbl := by
  have h1 := List.mem_of_getElem? h
  show w ∈ k2_sels lw_privs ++ (tables_1_1 ++ (tables_1_2 ++ (tables_1_3 ++ (tables_1_4 ++ (tables_1_5 ++ tables_1_6)))))
  simp only [List.mem_append]
  generalize p / 1000 = c at h1
  match c, h1 with
  | 0, h1 => exact Or.inl h1
  | 1, h1 => exact Or.inr (Or.inl h1)
  | 2, h1 => exact Or.inr (Or.inr (Or.inl h1))
  | 3, h1 => exact Or.inr (Or.inr (Or.inr (Or.inl h1)))
  | 4, h1 => exact Or.inr (Or.inr (Or.inr (Or.inr (Or.inl h1))))
  | 5, h1 => exact Or.inr (Or.inr (Or.inr (Or.inr (Or.inr (Or.inl h1)))))
  | 6, h1 => exact Or.inr (Or.inr (Or.inr (Or.inr (Or.inr (Or.inr h1)))))
  | c + 7, h1 => exact absurd h1 (by simp [tbk])
theorem fT_ok : ∀ e ∈ fT, e.2.2.1 < 11 ∧ e.2.2.2.1 < nfl e.2.2.1 ∧ atp e.2.2.2.2 = some (.fieldLink (cn e.1) e.2.1 (cn e.2.2.1) (fdt e.2.2.1 e.2.2.2.1).2.1 (fdt e.2.2.1 e.2.2.2.1).2.2.1) := by decide +kernel
theorem kT_ok : ∀ e ∈ kT, (e.2.2.2.1 = 0 ∧ atp e.2.2.2.2 = some (.constant (cn e.1) e.2.1 (Int32.ofInt e.2.2.1)) ∧ (Int32.ofInt e.2.2.1).toInt = e.2.2.1) ∨ (e.2.2.2.1 = 1 ∧ atp e.2.2.2.2 = some (.constantLong (cn e.1) e.2.1 (Int64.ofInt e.2.2.1)) ∧ (Int64.ofInt e.2.2.1).toInt = e.2.2.1) := by decide +kernel
theorem nT_ok : ∀ e ∈ nT, e.2.2.1 < 11 ∧ atp e.2.2.2.1 = some (.classLink (cn e.1) e.2.1 (cn e.2.2.1)) ∧ atp e.2.2.2.2.1 = some (.instantiable (cn e.2.2.1) (nfl e.2.2.1)) ∧ atp e.2.2.2.2.2 = some (.initialized (cn e.2.2.1)) := by decide +kernel
theorem aT_ok : ∀ e ∈ aT, atp e.2.2 = some (.classLink (cn e.1) e.2.1 (cn 0)) := by decide +kernel
theorem gT_ok : ∀ e ∈ gT, (e.2.2.1 = 23 ∧ atp e.2.2.2 = some (.classLink (cn e.1) e.2.1 ("[" ++ (FieldType.array .int).toString))) ∨ (e.2.2.1 = 24 ∧ atp e.2.2.2 = some (.classLink (cn e.1) e.2.1 ("[" ++ (FieldType.array .long).toString))) := by decide +kernel
/-- a method's words -/
def mOk (e : Nat × Nat × Nat × Nat × Nat × Nat × Nat × Nat) : Bool :=
  if e.2.2.2.1 = 6 then decide (atp e.2.2.2.2.1 = some (.methodLink (cn e.1) e.2.1 Lib.objectInit))
  else if e.2.2.2.1 = 7 then decide (atp e.2.2.2.2.1 = some (.methodLink (cn e.1) e.2.1 arraycopyName))
  else decide (e.2.2.2.1 < 6 ∧ e.2.2.1 < 222 ∧ atp e.2.2.2.2.2.1 = some (.initialized (nmm e.2.2.1).cls) ∧
    (if e.2.2.2.1 < 3 then atp e.2.2.2.2.1 = some (.methodLink (cn e.1) e.2.1 (nmm e.2.2.1)) else atp e.2.2.2.2.1 = some (.methodLinkNest (cn e.1) e.2.1 (nmm e.2.2.1) "SpunModules")) ∧
    (if e.2.2.2.1 % 3 = 1 then atp e.2.2.2.2.2.2.1 = some (.static (nmm e.2.2.1)) ∧ sta e.2.2.1 = true else atp e.2.2.2.2.2.2.1 = some (.instanceMethod (nmm e.2.2.1)) ∧ sta e.2.2.1 = false) ∧
    (if e.2.2.2.1 % 3 = 0 then atp e.2.2.2.2.2.2.2 = some (.selects (nmm e.2.2.1).cls (nmm e.2.2.1) (nmm e.2.2.1)) else True) ∧
    (if e.2.2.2.1 % 3 = 2 then (nmm e.2.2.1).name = "<init>" ∧ rty e.2.2.1 = none else True))
theorem mT_ok : ∀ e ∈ mT, mOk e = true := by decide +kernel
theorem g_cls : ∀ g ∈ List.range 222, (nmm g).cls = cn (own g) ∧ mxl g ≤ 21 := by decide +kernel
theorem g_nam : ∀ g ∈ List.range 222, (nmm g).cls ≠ "java/lang/invoke/MethodHandle" ∧ (nmm g).cls ≠ "java/lang/invoke/VarHandle" := by decide +kernel
theorem g_npr : ∀ g ∈ List.range 222, (parseMethodDescriptor (nmm g).desc).map (fun d => d.parameters.length) = some (npr g) := by decide +kernel
theorem g_pln : ∀ g ∈ List.range 222, plainFor (nmm g) = true := by decide +kernel
theorem cl_len : vwCl.length = 11 := rfl
theorem cl_ok : ∀ ci ∈ List.range 11, (vwCl.getD ci ("", TX0, 0)).1 = cn ci ∧ (tgL.getD ci []).length = nfl ci := by decide +kernel
set_option maxRecDepth 1000000 in
theorem cw_map : (List.range 221).map (fun g => atp (cpl g)) = (List.range 221).map (fun g => some (Cond.code (nmm g) (bc g) (mxl g) (rty g))) := by rfl
theorem cw_all {g : Nat} (h : g < 221) : atp (cpl g) = some (.code (nmm g) (bc g) (mxl g) (rty g)) := by
  have h1 := congrArg (fun l => l[g]?) cw_map
  simpa [h] using h1
