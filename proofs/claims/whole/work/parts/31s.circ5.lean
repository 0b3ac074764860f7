/-! ===== useCircuit: the circuit of the five-place patterns begins so ===== -/
theorem cir5 : (cirL 1 5 5).take 5 = [0, 1, 2, 6, 24] := by decide +kernel
