/-! ===== circuitCount: the integers' determinants are the machine's ===== -/
theorem oz {x : Int} (h : -2 ^ 62 < x) (h2 : x < 2 ^ 62) (h3 : x ≠ 0) : Int64.ofInt x ≠ 0 := fun q => by
  have := congrArg Int64.toInt q
  rw [Int64.toInt_ofInt_of_le (by omega) (by omega)] at this
  exact h3 this
theorem bit8 {c m : Nat} (hc : c < 8) (hm : m < 256) : (((nI m >>> (nI c &&& 31)) &&& (1 : Int32)) = 0 ↔ m / 2 ^ c % 2 = 0) ∧ (m / 2 ^ c % 2 = 0 → (nI m ||| ((1 : Int32) <<< (nI c &&& 31))) = nI (m + 2 ^ c) ∧ m + 2 ^ c < 256) := by
  have := co_dec (P := fun x => (((nI (x % 256) >>> (nI (x / 256) &&& 31)) &&& (1 : Int32)) = 0 ↔ (x % 256) / 2 ^ (x / 256) % 2 = 0) ∧ ((x % 256) / 2 ^ (x / 256) % 2 = 0 → (nI (x % 256) ||| ((1 : Int32) <<< (nI (x / 256) &&& 31))) = nI (x % 256 + 2 ^ (x / 256)) ∧ x % 256 + 2 ^ (x / 256) < 256)) (N := 2048) (by decide +kernel) (show 256 * c + m < 2048 by omega)
  have e1 : (256 * c + m) % 256 = m := by omega
  have e2 : (256 * c + m) / 256 = c := by omega
  simp only [e1, e2] at this
  exact this
theorem mn_l {V r : Nat} {A : Nat → Nat → Int} {rec' : Int32 → Option Int64} {rec : Nat → Int} (hV : V ≤ 8) (hA : ∀ i j, -2 ^ 62 < A i j ∧ A i j < 2 ^ 62) (hrec : ∀ m, m < 256 → rec' (nI m) = some (Int64.ofInt (rec m))) : ∀ (z c m : Nat) (sum : Int) (sg : Int32) (sz : Int), m < 256 → V < z + c → c ≤ V → ((sg = 1 ∧ sz = 1) ∨ (sg = -1 ∧ sz = -1)) → mnl V (fun i j => Int64.ofInt (A i j)) rec' r z (nI m) (Int64.ofInt sum) sg c = some (Int64.ofInt (mzl V A rec r z m sum sz c)) := by
  intro z
  induction z with
  | zero => intro c m sum sg sz a b d; omega
  | succ z ih =>
    intro c m sum sg sz a b d hs
    rw [mnl, mzl]
    by_cases q : V ≤ c
    · rw [if_pos q, if_pos q]
    · obtain ⟨b1, b2⟩ := bit8 (show c < 8 by omega) a
      rw [if_neg q, if_neg q]
      have hs2 : ((-sg = 1 ∧ -sz = 1) ∨ (-sg = -1 ∧ -sz = -1)) := by
        rcases hs with ⟨rfl, rfl⟩ | ⟨rfl, rfl⟩
        · exact Or.inr ⟨by decide, by decide⟩
        · exact Or.inl ⟨by decide, by decide⟩
      have hs3 : sg.toInt64 = Int64.ofInt sz := by
        rcases hs with ⟨rfl, rfl⟩ | ⟨rfl, rfl⟩ <;> decide
      by_cases w : m / 2 ^ c % 2 = 0
      · rw [if_pos w, if_pos (b1.mpr w)]
        obtain ⟨w1, w2⟩ := b2 w
        by_cases y : A r c = 0
        · rw [if_pos y, if_pos (by show Int64.ofInt (A r c) = 0; rw [y]; rfl), Int64.add_zero]
          exact ih (c + 1) m sum _ _ a (by omega) (by omega) hs2
        · rw [if_neg y, if_neg (oz (hA r c).1 (hA r c).2 y), w1, hrec _ w2, Option.bind_some, frN_eq, frZ_eq, hs3]
          have := ih (c + 1) m (sum + sz * A r c * rec (m + 2 ^ c)) _ _ a (by omega) (by omega) hs2
          rw [Int64.ofInt_add, Int64.ofInt_mul, Int64.ofInt_mul] at this
          exact this
      · rw [if_neg w, if_neg (fun t => w (b1.mp t))]
        exact ih (c + 1) m sum _ _ a (by omega) (by omega) hs
theorem mn_r {V : Nat} {A : Nat → Nat → Int} (hV : V ≤ 8) (hV1 : 1 ≤ V) (hA : ∀ i j, -2 ^ 62 < A i j ∧ A i j < 2 ^ 62) : ∀ (z r m : Nat), V < z + r → r ≤ V → m < 256 → mnr V (fun i j => Int64.ofInt (A i j)) z r (nI m) = some (Int64.ofInt (mzr V A z r m)) := by
  intro z
  induction z with
  | zero => intro r m a b; omega
  | succ z ih =>
    intro r m a b d
    rw [mnr, mzr]
    by_cases q : r = V
    · rw [if_pos q, if_pos q]
      rfl
    · rw [if_neg q, if_neg q]
      exact mn_l hV hA (fun m hm => ih (r + 1) m (by omega) (by omega) hm) 9 1 m 0 1 1 d (by omega) (by omega) (Or.inl ⟨rfl, rfl⟩)
theorem bcl_v {o st r : Nat} {pv dv : Int64} (hr : st < r) : ∀ (z c : Nat) (A : Nat → Nat → Int64), o < z + c → st < c → ∀ i j, i < o → j < o → bcl o st r pv dv z c A i j = if i = r ∧ c ≤ j then (A i j * pv - A i st * A st j) / dv else A i j := by
  intro z
  induction z with
  | zero =>
    intro c A a b i j hi hj
    rw [if_neg (by omega)]
    rfl
  | succ z ih =>
    intro c A a b i j hi hj
    rw [bcl]
    by_cases q : o ≤ c
    · rw [if_pos q, if_neg (by omega)]
    · rw [if_neg q, ih (c + 1) _ (by omega) (by omega) i j hi hj]
      have u1 : up2 A r c ((A r c * pv - A r st * A st c) / dv) i st = A i st := by unfold up2; rw [if_neg (by omega)]
      have u2 : up2 A r c ((A r c * pv - A r st * A st c) / dv) st j = A st j := by unfold up2; rw [if_neg (by omega)]
      rw [u1, u2]
      by_cases w : i = r ∧ c + 1 ≤ j
      · have u3 : up2 A r c ((A r c * pv - A r st * A st c) / dv) i j = A i j := by unfold up2; rw [if_neg (by omega)]
        rw [if_pos w, if_pos (by omega), u3]
      · rw [if_neg w]
        by_cases y : i = r ∧ j = c
        · obtain ⟨y1, y2⟩ := y
          subst y1
          subst y2
          rw [if_pos ⟨rfl, Nat.le_refl _⟩]
          unfold up2
          rw [if_pos ⟨rfl, rfl⟩]
        · rw [if_neg (by omega)]
          unfold up2
          rw [if_neg y]
theorem brl_v {o st : Nat} {pv dv : Int64} (ho : o ≤ 7) : ∀ (z r : Nat) (A : Nat → Nat → Int64), o < z + r → st < r → ∀ i j, i < o → j < o → brl o st pv dv z r A i j = if r ≤ i ∧ st < j then (A i j * pv - A i st * A st j) / dv else A i j := by
  intro z
  induction z with
  | zero =>
    intro r A a b i j hi hj
    rw [if_neg (by omega)]
    rfl
  | succ z ih =>
    intro r A a b i j hi hj
    rw [brl]
    by_cases q : o ≤ r
    · rw [if_pos q, if_neg (by omega)]
    · have hb := bcl_v (o := o) (st := st) (r := r) (pv := pv) (dv := dv) b 9 (st + 1) A (by omega) (by omega)
      rw [if_neg q, ih (r + 1) _ (by omega) (by omega) i j hi hj, hb i j hi hj, hb i st hi (by omega), hb st j (by omega) hj, if_neg (show ¬ (i = r ∧ st + 1 ≤ st) by omega), if_neg (show ¬ (st = r ∧ st + 1 ≤ j) by omega)]
      by_cases w : r + 1 ≤ i ∧ st < j
      · rw [if_pos w, if_neg (by omega), if_pos (by omega)]
      · rw [if_neg w]
        by_cases y : i = r ∧ st < j
        · rw [if_pos (by omega), if_pos (by omega)]
        · rw [if_neg (by omega), if_neg (by omega)]
theorem bz_s {A : Nat → Nat → Int} {s r c : Nat} : bz A (s + 1) r c = (bzn A s r c).tdiv (bzd A s) := by
  cases s with
  | zero =>
    show A r c * A 0 0 - A r 0 * A 0 c = Int.tdiv (A r c * A 0 0 - A r 0 * A 0 c) 1
    rw [Int.tdiv_one]
  | succ s => rfl
theorem bzC_of {o : Nat} {A : Nat → Nat → Int} (h : bzC o A = true) : ∀ s, s < o → 0 < bz A s s s ∧ bz A s s s < 2 ^ 62 ∧ ∀ r c, s < r → r < o → s < c → c < o → -2 ^ 62 < bzn A s r c ∧ bzn A s r c < 2 ^ 62 := by
  intro s hs
  unfold bzC at h
  rw [List.all_eq_true] at h
  have h1 := h s (List.mem_range.mpr hs)
  simp only [Bool.and_eq_true, decide_eq_true_eq] at h1
  refine ⟨h1.1, h1.2.1, fun r c a1 a2 a3 a4 => ?_⟩
  have h2 := h1.2.2
  rw [List.all_eq_true] at h2
  have h3 := h2 r (List.mem_range.mpr a2)
  rw [List.all_eq_true] at h3
  have h4 := h3 c (List.mem_range.mpr a4)
  simp only [Bool.or_eq_true, Bool.and_eq_true, decide_eq_true_eq] at h4
  omega
theorem bs_l {o : Nat} {A : Nat → Nat → Int} (ho : o ≤ 7) (h : bzC o A = true) : ∀ (z st : Nat) (B : Nat → Nat → Int64), o < z + st → st ≤ o → (∀ i j, st ≤ i → i < o → st ≤ j → j < o → B i j = Int64.ofInt (bz A st i j)) → bsl o z st (Int64.ofInt (bzd A st)) B = Int64.ofInt (bzd A o) := by
  intro z
  induction z with
  | zero => intro st B a b; omega
  | succ z ih =>
    intro st B a b hB
    rw [bsl]
    by_cases q : o ≤ st
    · have e : st = o := by omega
      subst e
      rw [if_pos q]
    · obtain ⟨c1, c2, c3⟩ := bzC_of h st (by omega)
      have e0 := hB st st (by omega) (by omega) (by omega) (by omega)
      rw [if_neg q, e0, if_neg (oz (by omega) c2 (by omega))]
      refine ih (st + 1) _ (by omega) (by omega) (fun i j a1 a2 a3 a4 => ?_)
      obtain ⟨d1, d2⟩ := c3 i j (by omega) a2 (by omega) a4
      have d3 : -2 ^ 62 < bzd A st ∧ bzd A st < 2 ^ 62 := by
        cases st with
        | zero => exact ⟨(by decide : (-2 ^ 62 : Int) < 1), (by decide : (1 : Int) < 2 ^ 62)⟩
        | succ st =>
          obtain ⟨x1, x2, -⟩ := bzC_of h st (by omega)
          exact ⟨by show -2 ^ 62 < bz A st st st; omega, x2⟩
      rw [brl_v ho 9 (st + 1) B (by omega) (by omega) i j a2 a4, if_pos ⟨a1, by omega⟩, hB i j (by omega) a2 (by omega) a4, hB i st (by omega) a2 (by omega) (by omega), hB st j (by omega) (by omega) (by omega) a4, bz_s, ← Int64.ofInt_mul, ← Int64.ofInt_mul, ← Int64.ofInt_sub, Int64.ofInt_tdiv (by rw [Int64.toInt_minValue]; omega) (by rw [Int64.toInt_maxValue]; omega) (by rw [Int64.toInt_minValue]; omega) (by rw [Int64.toInt_maxValue]; omega)]
      rfl
theorem det_fam {κ n k : Nat} (ho : okF κ n k = true) (k3 : κ ≠ 3) (hV : (vts κ n k).length ≤ 8) (hV1 : 1 ≤ (vts κ n k).length) (hc : (cirL κ n k).length = (els κ n k).length) : ∃ (Z : Nat → Nat → Int) (x : Int64), (∀ i j, i < 8 → j < 8 → Int64.ofInt (lapE (at0 (gF κ n k)) (at0 (gT κ n k)) i j (els κ n k).length) = Int64.ofInt (Z i j)) ∧ mnr (vts κ n k).length (fun i j => Int64.ofInt (Z i j)) 9 1 0 = some x ∧ bsl ((vts κ n k).length - 1) 9 0 1 (fun i j => Int64.ofInt (Z (i + 1) (j + 1))) = x ∧ pvl (fun v => eqc (at0 (gF κ n k)) v (els κ n k).length) (vts κ n k).length 9 0 x ≠ some (-1) := by
  have h1 := fam_of fam_tb ho
  have h2 := fam_of fam_det ho
  simp only [Bool.or_eq_true, decide_eq_true_eq] at h1 h2
  have h1' := (h1.resolve_left k3).resolve_left (by omega)
  have h2' := ((h2.resolve_left k3).resolve_left (by omega)).resolve_left (fun q => q hc)
  unfold detC at h2'
  unfold tbC at h1'
  rw [frN_eq, frZ_eq] at h2'
  simp only [Bool.and_eq_true, decide_eq_true_eq] at h2'
  obtain ⟨w1, w2, w3⟩ := h2'
  generalize tbN (at0 (gF κ n k)) (at0 (gT κ n k)) (els κ n k).length = N at h1' w1 w2 w3
  refine ⟨tbZ N, _, fun i j hi hj => ?_, ?_, ?_, w3⟩
  · rw [List.all_eq_true] at h1'
    have h3 := h1' i (List.mem_range.mpr hi)
    rw [List.all_eq_true] at h3
    have h4 := h3 j (List.mem_range.mpr hj)
    exact (decide_eq_true_eq.mp h4).symm
  · have : ∀ i j, -2 ^ 62 < tbZ N i j ∧ tbZ N i j < 2 ^ 62 := fun i j => by
      unfold tbZ
      have := Nat.mod_lt (N / 4096 ^ (8 * i + j)) (show 4096 > 0 by decide)
      omega
    rw [← w2]
    exact mn_r hV hV1 this 9 1 0 (by omega) (by omega) (by omega)
  · exact bs_l (A := fun i j => tbZ N (i + 1) (j + 1)) (by omega) w1 9 0 _ (by omega) (by omega) (fun i j _ _ _ _ => rfl)
