/-! ===== circuitCount: the reference's determinant, the product, and the families ===== -/
def mnl (V : Nat) (A : Nat → Nat → Int64) (rec : Int32 → Option Int64) (r : Nat) : Nat → Int32 → Int64 → Int32 → Nat → Option Int64
  | 0, _, _, _, _ => none
  | z + 1, mask, sum, sg, c => if V ≤ c then some sum else if ((mask >>> (nI c &&& 31)) &&& (1 : Int32)) = 0 then (if A r c = 0 then mnl V A rec r z mask (sum + 0) (-sg) (c + 1) else (rec (mask ||| ((1 : Int32) <<< (nI c &&& 31)))).bind fun q => mnl V A rec r z mask (sum + ((sg.toInt64 * A r c) * q)) (-sg) (c + 1)) else mnl V A rec r z mask sum sg (c + 1)
def mnr (V : Nat) (A : Nat → Nat → Int64) : Nat → Nat → Int32 → Option Int64
  | 0, _, _ => none
  | z + 1, r, mask => if r = V then some 1 else mnl V A (mnr V A z (r + 1)) r 9 mask 0 1 1
def pfl (d : Nat) : Nat → Nat → Int64 → Option Int64
  | 0, _, x => some x
  | z + 1, f, x => if d ≤ f then some x else if lg_cmp x ((9223372036854775807 : Int64) / (nI f).toInt64) ≤ 0 then pfl d z (f + 1) (x * (nI f).toInt64) else none
def pvl (D : Nat → Nat) (V : Nat) : Nat → Nat → Int64 → Option Int64
  | 0, _, x => some x
  | z + 1, v, x => if V ≤ v then some x else (pfl (D v) 300 2 x).bind fun y => pvl D V z (v + 1) y
def tbN (E T : Nat → Nat) (m : Nat) : Nat := (List.range 64).foldl (fun a x => a + (lapE E T (x / 8) (x % 8) m + 1000).toNat * 4096 ^ x) 0
def tbA (N : Nat) (i j : Nat) : Int64 := Int64.ofInt ((N / 4096 ^ (8 * i + j) % 4096 : Nat) - 1000)
def tbC (E T : Nat → Nat) (m : Nat) : Bool := (List.range 8).all fun i => (List.range 8).all fun j => decide (tbA (tbN E T m) i j = Int64.ofInt (lapE E T i j m))
theorem fam_tb : famAll (fun κ n k => decide (κ = 3) || (decide (8 < (vts κ n k).length) || tbC (at0 (gF κ n k)) (at0 (gT κ n k)) (els κ n k).length)) = true := by decide +kernel
