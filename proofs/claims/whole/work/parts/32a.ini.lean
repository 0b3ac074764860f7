/-! ===== the first memory ===== -/
theorem ini_all : ∃ F G M1 M2, f_X11_beginFamily F 0 2 2 nm_z = some M1 ∧ f_X12_fill G (nm_ini M1) = some M2 ∧ IV M2 ∧ M2.1 102 = (fun _ => 0) ∧ M2.2 102 = fun _ => 0 := by
  have ho : okF 0 2 2 = true := by decide +kernel
  obtain ⟨M1, e1, c1, c2, c3, c4, c5⟩ := cc_begin (F := 501) (M := nm_z) ho (by omega)
  have z1 : ∀ a, (a < 1 ∨ 27 ≤ a) → M1.1 a = fun _ => 0 := fun a ha => c5 a ha
  have lo : ∀ a, a < 80 → (nm_ini M1).1 a = M1.1 a := fun a ha => if_pos ha
  have h80 : ∀ j, (nm_ini M1).1 80 j = if j = 2 then 2 else if j = 3 then 2 else 0 := fun j => rfl
  have hi : ∀ a, 80 < a → (nm_ini M1).1 a = fun _ => 0 := fun a ha => by
    show (if a < 80 then M1.1 a else if a = 80 then _ else fun _ => 0) = _
    rw [if_neg (by omega), if_neg (by omega)]
  obtain ⟨M2, e2, f1, g⟩ := p_mfill (F := 40000) (M := nm_ini M1) ho (Nat.le_refl _) rfl rfl rfl
  have m80 : ∀ j, 12 ≤ j → M2.1 80 j = 0 := fun j hj => by
    rw [g.1 80 j (by unfold PF; omega), h80, if_neg (by omega), if_neg (by omega)]
  have hCA : CA (nm_ini M1) 0 2 2 0 (fun _ => 0) 0 (fun _ => 0) (fun _ _ => 0) (0, fun _ => 0, 0, fun _ => 0) (0, 0, 0, 0, 0, fun _ => 0) := by
    refine ⟨CF_c c1 (fun x _ _ => lo x (by omega)), ⟨⟨by rw [lo 24 (by omega)]; exact c2, fun i hi => by omega⟩, 0, by omega, ?_, by rw [lo 26 (by omega)]; exact c3, by omega, fun j hj => by omega⟩, ⟨?_, fun i hi => by exact absurd hi (Nat.not_lt_zero _), ?_, fun i hi => by exact absurd hi (Nat.not_lt_zero _)⟩, ?_, fun q => by cases q⟩
    · rw [lo 26 (by omega), c4]
      rfl
    · rw [lo 0 (by omega), z1 0 (by omega)]
      rfl
    · rw [lo 0 (by omega), z1 0 (by omega)]
      rfl
    · rw [lo 0 (by omega), z1 0 (by omega)]
      rfl
  refine ⟨501, 40000, M1, M2, e1, e2, ⟨0, 2, 2, 0, fun _ => 0, 0, fun _ => 0, fun _ _ => 0, (0, fun _ => 0, 0, fun _ => 0), (0, 0, 0, 0, 0, fun _ => 0), ⟨ho, ⟨by omega, fun i hi => by omega, by omega, fun j hj => by omega⟩, ⟨by decide, by decide, fun i hi => absurd hi (Nat.not_lt_zero _), fun i hi => absurd hi (Nat.not_lt_zero _)⟩, Or.inl rfl⟩, CA_m hCA g (fun a j q => by unfold PF at q; unfold PA; omega), f1, ⟨?_, fun i hi => by omega, ?_, fun j hj => by omega⟩, ⟨?_, fun i hi => absurd hi (Nat.not_lt_zero _), ?_, fun i hi => absurd hi (Nat.not_lt_zero _)⟩, ?_, fun q => by cases q⟩, ?_, ?_⟩
  · rw [m80 12 (by omega)]; rfl
  · rw [m80 15 (by omega)]; rfl
  · rw [m80 18 (by omega)]; rfl
  · rw [m80 20 (by omega)]; rfl
  · rw [m80 30 (by omega)]; rfl
  · rw [mfr_row g (fun j => by unfold PF; omega), hi 102 (by omega)]
  · rw [g.2]
    rfl
