/-! ===== useCircuit, kind 1: the five families of patterns ===== -/
def cP (n : Nat) (p a : Nat) : Nat := dg (cel 1 n n p) (n - 1 - a)
def rzn (n : Nat) : Nat := if n = 1 then 1 else if n = 2 then 2 else 4
def c13 (n k : Nat) : Bool := frN (els 1 n n).length fun E => decide (rzn n ≤ E + 1) && match orp (cP n) E n (rzn n) (fun _ => 0) with
  | none => false
  | some w => match ufp (cP n) E n k (rzn n) (fun _ => 0) with
    | none => false
    | some (some u) => (List.range E).all fun i => decide (u i = w i) && decide (w i < k)
    | some none => (List.range E).any fun i => decide (k ≤ w i)
def c45 (n q : Nat) : Bool := frN (els 1 n n).length fun E => decide (q ≤ E) && (List.range E).any fun i => decide (8 ≤ (rn (cP n) E n q 0 (fun _ => 0, false)).1 i)
theorem k_13 : (List.range 4).all (fun n => (List.range 9).all fun k => decide (n = 0) || (decide (k < n) || c13 n k)) = true := by decide +kernel
theorem k_4 : c45 4 7 = true := by decide +kernel
theorem k_5 : c45 5 5 = true := by decide +kernel
