/-! ===== 'throw new NoSuchElementException("text")': its maker calls the next by another index ===== -/
def sm_LN (own : String) (ik is : Nat) (text : String) : Prop :=
  Cond.classLink own ik "java/util/NoSuchElementException" ∈ sm_TB ∧ (own, is, text) ∈ sm_strs
theorem sm_throwN {g : sm_G} {pc ik is : Nat} {ls : List (Option Value)} {st : List Value} {M : sm_M} {text : String} (hg : sm_own g = RX11) (L : sm_LN (sm_own g) ik is text) (d0 : decode (sm_cc g) pc = .ok (.new ik, 3)) (d3 : decode (sm_cc g) (pc + 3) = .ok (.dup, 1)) (d4 : decode (sm_cc g) (pc + 4) = .ok (.ldc is, 2)) (d6 : decode (sm_cc g) (pc + 6) = .ok (.invokespecial 154, 3)) (d9 : decode (sm_cc g) (pc + 9) = .ok (.athrow, 1))
    (hw : (st.map fun v => v.category).sum ≤ 8) (hdd : 5 < sm_d g) (ho : sm_o g = .inr "java/util/NoSuchElementException") (hM : sm_mf g = M) : sm_J g pc ls st M := by
  sorry
theorem sm_throwNW {g : sm_G} {pc ik is : Nat} {ls : List (Option Value)} {st : List Value} {M : sm_M} {text : String} (hg : sm_own g = RX11) (L : sm_LN (sm_own g) ik is text) (d0 : decode (sm_cc g) pc = .ok (.new ik, 3)) (d3 : decode (sm_cc g) (pc + 3) = .ok (.dup, 1)) (d4 : decode (sm_cc g) (pc + 4) = .ok (.ldc_w is, 3)) (d7 : decode (sm_cc g) (pc + 7) = .ok (.invokespecial 154, 3)) (d10 : decode (sm_cc g) (pc + 10) = .ok (.athrow, 1))
    (hw : (st.map fun v => v.category).sum ≤ 8) (hdd : 5 < sm_d g) (ho : sm_o g = .inr "java/util/NoSuchElementException") (hM : sm_mf g = M) : sm_J g pc ls st M := by
  sorry
