/-! where a text is at fault: both loops -/
section TF
variable {text : Nat → Int32} {C : Nat → Nat} {l : Nat}
theorem unit_at {C : Nat → Nat} {l i : Nat} (hi : i ≤ l) : i ≤ (unitP C l i).1 ∧ (unitP C l i).1 ≤ l := by
  unfold unitP
  cases h1 : numP C l i with
  | none => exact ⟨Nat.le_refl i, hi⟩
  | some p =>
    obtain ⟨j, a⟩ := p
    have b1 := numP_le h1
    dsimp only
    cases h2 : chP C l j 47 with
    | false => rw [if_neg ff]; exact ⟨by dsimp only; omega, by dsimp only; omega⟩
    | true =>
      have b2 := chP_lt h2
      rw [if_pos rfl]
      cases h3 : numP C l (j + 1) with
      | none => exact ⟨by dsimp only; omega, by dsimp only; omega⟩
      | some p =>
        obtain ⟨m, b⟩ := p
        have b3 := numP_le h3
        dsimp only
        cases h4 : chP C l m 64 with
        | false => rw [if_neg ff]; exact ⟨by dsimp only; omega, by dsimp only; omega⟩
        | true =>
          have b4 := chP_lt h4
          rw [if_pos rfl]
          cases h5 : dgP C l (m + 1) with
          | false => rw [if_neg ff]; exact ⟨by dsimp only; omega, by dsimp only; omega⟩
          | true =>
            have b5 := dgP_lt h5
            rw [if_pos rfl]
            cases h6 : chP C l (m + 1 + 1) 33 with
            | false => rw [if_neg ff]; exact ⟨by dsimp only; omega, by dsimp only; omega⟩
            | true =>
              have b6 := chP_lt h6
              rw [if_pos rfl]; exact ⟨by dsimp only; omega, by dsimp only; omega⟩
theorem bord_at {C : Nat → Nat} {l i : Nat} (hi : i ≤ l) : i ≤ (bordP C l i).1 ∧ (bordP C l i).1 ≤ l := by
  unfold bordP
  cases h1 : numP C l i with
  | none => exact ⟨Nat.le_refl i, hi⟩
  | some p =>
    obtain ⟨j, a⟩ := p
    have b1 := numP_le h1
    dsimp only
    cases h2 : chP C l j 45 with
    | false => rw [if_neg ff]; exact ⟨by dsimp only; omega, by dsimp only; omega⟩
    | true =>
      have b2 := chP_lt h2
      rw [if_pos rfl]
      cases h3 : numP C l (j + 1) with
      | none => exact ⟨by dsimp only; omega, by dsimp only; omega⟩
      | some p =>
        obtain ⟨m, b⟩ := p
        have b3 := numP_le h3
        dsimp only
        cases h4 : chP C l m 58 with
        | false => rw [if_neg ff]; exact ⟨by dsimp only; omega, by dsimp only; omega⟩
        | true =>
          have b4 := chP_lt h4
          rw [if_pos rfl]
          cases h5 : dgP C l (m + 1) with
          | false => rw [if_neg ff]; exact ⟨by dsimp only; omega, by dsimp only; omega⟩
          | true =>
            have b5 := dgP_lt h5
            rw [if_pos rfl]; exact ⟨by dsimp only; omega, by dsimp only; omega⟩
theorem out_at {C : Nat → Nat} {l i : Nat} (hi : i ≤ l) : i ≤ (outP C l i).1 ∧ (outP C l i).1 ≤ l := by
  unfold outP
  cases h1 : numP C l i with
  | none => exact ⟨Nat.le_refl i, hi⟩
  | some p =>
    obtain ⟨j, a⟩ := p
    have b1 := numP_le h1
    dsimp only
    cases h2 : chP C l j 58 with
    | false => rw [if_neg ff]; exact ⟨by dsimp only; omega, by dsimp only; omega⟩
    | true =>
      have b2 := chP_lt h2
      rw [if_pos rfl]
      cases h5 : dgP C l (j + 1) with
      | false => rw [if_neg ff]; exact ⟨by dsimp only; omega, by dsimp only; omega⟩
      | true =>
        have b5 := dgP_lt h5
        rw [if_pos rfl]; exact ⟨by dsimp only; omega, by dsimp only; omega⟩
theorem stP_at {C : Nat → Nat} {l i : Nat} (hi : i ≤ l) : i ≤ (stP C l i).1 ∧ (stP C l i).1 ≤ l ∧ ((stP C l i).2 ≠ none → i + 1 ≤ (stP C l i).1) := by
  unfold stP
  cases h1 : chP C l i 117 with
  | true =>
    have b := chP_lt h1
    have := unit_at (C := C) (l := l) (i := i + 1) (by omega)
    rw [if_pos rfl]; exact ⟨by omega, this.2, fun _ => this.1⟩
  | false =>
    rw [if_neg ff]
    cases h2 : chP C l i 98 with
    | true =>
      have b := chP_lt h2
      have := bord_at (C := C) (l := l) (i := i + 1) (by omega)
      rw [if_pos rfl]; exact ⟨by omega, this.2, fun _ => this.1⟩
    | false =>
      rw [if_neg ff]
      cases h3 : chP C l i 111 with
      | true =>
        have b := chP_lt h3
        have := out_at (C := C) (l := l) (i := i + 1) (by omega)
        rw [if_pos rfl]; exact ⟨by omega, this.2, fun _ => this.1⟩
      | false =>
        rw [if_neg ff]; exact ⟨Nat.le_refl i, hi, fun q => absurd rfl q⟩
end TF
