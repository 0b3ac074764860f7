/-! ===== circuitCount: the determinants over the integers ===== -/
def frN {α : Type} (n : Nat) (f : Nat → α) : α := match n with
  | 0 => f 0
  | m + 1 => f (m + 1)
theorem frN_eq {α : Type} {n : Nat} {f : Nat → α} : frN n f = f n := by cases n <;> rfl
def frZ {α : Type} (z : Int) (f : Int → α) : α := match z with
  | .ofNat n => frN n (fun m => f (.ofNat m))
  | .negSucc n => frN n (fun m => f (.negSucc m))
theorem frZ_eq {α : Type} {z : Int} {f : Int → α} : frZ z f = f z := by
  cases z with
  | ofNat n => exact frN_eq (f := fun m => f (.ofNat m))
  | negSucc n => exact frN_eq (f := fun m => f (.negSucc m))
def tbZ (N i j : Nat) : Int := ((N / 4096 ^ (8 * i + j) % 4096 : Nat) : Int) - 1000
def mzl (V : Nat) (A : Nat → Nat → Int) (rec : Nat → Int) (r : Nat) : Nat → Nat → Int → Int → Nat → Int
  | 0, _, sum, _, _ => sum
  | z + 1, mask, sum, sg, c => if V ≤ c then sum else if mask / 2 ^ c % 2 = 0 then (if A r c = 0 then mzl V A rec r z mask sum (-sg) (c + 1) else frN (mask + 2 ^ c) fun m2 => frZ (sum + sg * A r c * rec m2) fun s2 => mzl V A rec r z mask s2 (-sg) (c + 1)) else mzl V A rec r z mask sum sg (c + 1)
def mzr (V : Nat) (A : Nat → Nat → Int) : Nat → Nat → Nat → Int
  | 0, _, _ => 1
  | z + 1, r, mask => if r = V then 1 else mzl V A (mzr V A z (r + 1)) r 9 mask 0 1 1
def bz (A : Nat → Nat → Int) : Nat → Nat → Nat → Int
  | 0, r, c => A r c
  | 1, r, c => A r c * A 0 0 - A r 0 * A 0 c
  | s + 2, r, c => (bz A (s + 1) r c * bz A (s + 1) (s + 1) (s + 1) - bz A (s + 1) r (s + 1) * bz A (s + 1) (s + 1) c).tdiv (bz A s s s)
def bzn (A : Nat → Nat → Int) (s r c : Nat) : Int := bz A s r c * bz A s s s - bz A s r s * bz A s s c
def bzd (A : Nat → Nat → Int) : Nat → Int
  | 0 => 1
  | s + 1 => bz A s s s
def bzC (o : Nat) (A : Nat → Nat → Int) : Bool := (List.range o).all fun s => decide (0 < bz A s s s) && (decide (bz A s s s < 2 ^ 62) && (List.range o).all fun r => (List.range o).all fun c => decide (r ≤ s) || (decide (c ≤ s) || (decide (-2 ^ 62 < bzn A s r c) && decide (bzn A s r c < 2 ^ 62))))
def detC (V N : Nat) (D : Nat → Nat) : Bool := frN N fun N => bzC (V - 1) (fun i j => tbZ N (i + 1) (j + 1)) && frZ (bzd (fun i j => tbZ N (i + 1) (j + 1)) (V - 1)) fun d => decide (mzr V (tbZ N) 9 1 0 = d) && decide (pvl D V 9 0 (Int64.ofInt d) ≠ some (-1))
