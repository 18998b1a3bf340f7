/-! The constructors, run by the kernel over the table of their instructions. -/
def okL (M : Mo) : Bool := (List.range 248).all (fun a => if (sg S0 a).1 = 20 ∨ (sg S0 a).1 = 21 then true else (List.range (sg S0 a).2).all (fun i => match fx (a : Int) (i : Int) with | some z => decide (M (a : Int) (i : Int) = z) | none => true))
def okC (M : Mo) : Bool := decide (M 1 0 = 2) && decide (M 8 1 = 0) && decide (M 8 2 = 0) && decide (M 75 1 = 0) && decide (M 75 3 = 1) && decide (M 77 0 = 97) && (List.range 3).all (fun i => decide (M 0 (11 + (i : Int)) = 0)) && (List.range 4).all (fun k => decide (M (209 + 2 * (k : Int)) 1 = 1) && (List.range 12).all (fun c => decide (M (209 + 2 * (k : Int) + 1) (c : Int) = 0))) && (List.range 6).all (fun k => decide (M 82 (k : Int) = 83 + 2 * (k : Int)) && decide (M 107 (k : Int) = 108 + 2 * (k : Int)))
def okM (M : Mo) : Bool := decide (M 217 1 = 2) && decide (M 217 5 = -1) && decide (M 217 13 = 0) && decide (M 217 31 = 0) && decide (M 217 33 = 1) && decide (M 243 0 = 97) && (List.range 3).all (fun i => decide (M 218 (i : Int) = 0)) && (List.range 4).all (fun k => decide (M 219 (k : Int) = 1) && decide (M 220 (72 * (k : Int)) = 0) && decide (M 220 (72 * (k : Int) + 36) = 0))
def ZZ : Bool := match brun 3000 73 0 (entl 73 [(2, 0)]) [] [(9, 14)] (nwc [] (fun _ _ => 0) 9) with
  | some (none, σ2, M2) => decide (σ2.length = 217) && (match brun 1000 125 0 (entl 125 [(2, 217)]) [] (σ2 ++ [(10, 38)]) (nwc σ2 M2 10) with
    | some (none, σ3, M3) => decide (σ3 = S0) && okL M3 && okC M3 && okM M3
    | _ => false)
  | _ => false
theorem ZZ_ok : ZZ = true := by decide +kernel
