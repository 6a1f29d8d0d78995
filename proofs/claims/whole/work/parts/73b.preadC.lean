/-! statements: what is read, and the class's reader -/
/-- kind, first, second, third, core -/
abbrev Stm : Type := Nat × Nat × Nat × Int32 × Int32
def unitP (C : Nat → Nat) (l i : Nat) : Nat × Option Stm := match numP C l i with
  | none => (i, none)
  | some (j, a) => if chP C l j 47 then (match numP C l (j + 1) with
    | none => (j + 1, none)
    | some (m, b) => if chP C l m 64 then (if dgP C l (m + 1) then (if chP C l (m + 1 + 1) 33 then (m + 1 + 1 + 1, some (117, a, b, nI (C (m + 1) - 48), 1)) else (m + 1 + 1, some (117, a, b, nI (C (m + 1) - 48), 0))) else (m + 1, none)) else (m, some (117, a, b, -1, 0))) else (j, none)
def bordP (C : Nat → Nat) (l i : Nat) : Nat × Option Stm := match numP C l i with
  | none => (i, none)
  | some (j, a) => if chP C l j 45 then (match numP C l (j + 1) with
    | none => (j + 1, none)
    | some (m, b) => if chP C l m 58 then (if dgP C l (m + 1) then (m + 1 + 1, some (98, a, b, nI (C (m + 1) - 48), 0)) else (m + 1, none)) else (m, none)) else (j, none)
def outP (C : Nat → Nat) (l i : Nat) : Nat × Option Stm := match numP C l i with
  | none => (i, none)
  | some (j, a) => if chP C l j 58 then (if dgP C l (j + 1) then (j + 1 + 1, some (111, a, C (j + 1) - 48, 0, 0)) else (j + 1, none)) else (j, none)
def stP (C : Nat → Nat) (l i : Nat) : Nat × Option Stm := if chP C l i 117 then unitP C l (i + 1) else if chP C l i 98 then bordP C l (i + 1) else if chP C l i 111 then outP C l (i + 1) else (i, none)
section TC
variable {text : Nat → Int32} {C : Nat → Nat} {l i : Nat}
theorem chP_lt {c : Nat} (h : chP C l i c = true) : i < l ∧ C i = c := of_decide_eq_true h
/-- the class's fields behind a unit -/
def CU (o : Option Stm) (ok f ic sec thd : Int32) : Prop := match o with
  | none => ok = 0
  | some (_, a, b, c, co) => ok = 1 ∧ f = nI a ∧ sec = nI b ∧ thd = c ∧ ic = co ∧ (co = 0 ∨ co = 1)
theorem pX8_readUnit (hT : Txt text C l) (hi : i ≤ l) (f nm sec : Int32) : ∃ ok f' ic nm' sec' thd, fX8_readUnit (nI i) f (nI l) nm sec text = some (ok, nI (unitP C l i).1, f', ic, nm', sec', thd) ∧ CU (unitP C l i).2 ok f' ic sec' thd ∧ (ok = 0 ∨ ok = 1) := by
  rw [fX8_readUnit, pX8_readNumber hT hi, bind_s]
  unfold unitP
  cases h1 : numP C l i with
  | none => exact ⟨_, _, _, _, _, _, rfl, rfl, Or.inl rfl⟩
  | some p =>
    obtain ⟨j, a⟩ := p
    dsimp only
    have b1 := numP_le h1
    show ∃ ok f' ic nm' sec' thd, (if (1 : Int32) = 0 then _ else (fX8_take (nI j) (nI l) text 47).bind _) = _ ∧ _
    rw [if_neg n10, show fX8_take (nI j) (nI l) text 47 = _ from pX8_take hT (by omega) (c := 47) (by decide), bind_s]
    cases h2 : chP C l j 47 with
    | false => exact ⟨_, _, _, _, _, _, rfl, rfl, Or.inl rfl⟩
    | true =>
      have b2 := chP_lt h2
      show ∃ ok f' ic nm' sec' thd, (if (1 : Int32) = 0 then _ else (fX8_readNumber (nI (j + 1)) (nI l) (nI a) text).bind _) = _ ∧ _
      rw [if_neg n10, pX8_readNumber hT (by omega), bind_s]
      cases h3 : numP C l (j + 1) with
      | none => exact ⟨_, _, _, _, _, _, rfl, rfl, Or.inl rfl⟩
      | some p =>
        obtain ⟨m, b⟩ := p
        dsimp only
        have b3 := numP_le h3
        show ∃ ok f' ic nm' sec' thd, (if (1 : Int32) = 0 then _ else (fX8_take (nI m) (nI l) text 64).bind _) = _ ∧ _
        rw [if_neg n10, show fX8_take (nI m) (nI l) text 64 = _ from pX8_take hT (by omega) (c := 64) (by decide), bind_s]
        cases h4 : chP C l m 64 with
        | false => exact ⟨_, _, _, _, _, _, rfl, ⟨rfl, rfl, rfl, rfl, rfl, Or.inl rfl⟩, Or.inr rfl⟩
        | true =>
          have b4 := chP_lt h4
          show ∃ ok f' ic nm' sec' thd, (if (1 : Int32) = 0 then _ else (fX8_readDigit (nI (m + 1)) (nI l) (nI b) text).bind _) = _ ∧ _
          rw [if_neg n10, pX8_readDigit hT (by omega), bind_s]
          cases h5 : dgP C l (m + 1) with
          | false => exact ⟨_, _, _, _, _, _, rfl, rfl, Or.inl rfl⟩
          | true =>
            have b5 := dgP_lt h5
            show ∃ ok f' ic nm' sec' thd, (if (1 : Int32) = 0 then _ else (fX8_take (nI (m + 1 + 1)) (nI l) text 33).bind _) = _ ∧ _
            rw [if_neg n10, show fX8_take (nI (m + 1 + 1)) (nI l) text 33 = _ from pX8_take hT (by omega) (c := 33) (by decide), bind_s]
            cases h6 : chP C l (m + 1 + 1) 33 with
            | false => exact ⟨_, _, _, _, _, _, rfl, ⟨rfl, rfl, rfl, rfl, rfl, Or.inl rfl⟩, Or.inr rfl⟩
            | true => exact ⟨_, _, _, _, _, _, rfl, ⟨rfl, rfl, rfl, rfl, rfl, Or.inr rfl⟩, Or.inr rfl⟩
def CB (o : Option Stm) (ok f sec thd : Int32) : Prop := match o with
  | none => ok = 0
  | some (_, a, b, c, _) => ok = 1 ∧ f = nI a ∧ sec = nI b ∧ thd = c
theorem pX8_readBorder (hT : Txt text C l) (hi : i ≤ l) (f nm sec thd : Int32) : ∃ ok f' nm' sec' thd', fX8_readBorder (nI i) f (nI l) nm sec text thd = some (ok, nI (bordP C l i).1, f', nm', sec', thd') ∧ CB (bordP C l i).2 ok f' sec' thd' ∧ (ok = 0 ∨ ok = 1) := by
  rw [fX8_readBorder, pX8_readNumber hT hi, bind_s]
  unfold bordP
  cases h1 : numP C l i with
  | none => exact ⟨_, _, _, _, _, rfl, rfl, Or.inl rfl⟩
  | some p =>
    obtain ⟨j, a⟩ := p
    dsimp only
    have b1 := numP_le h1
    show ∃ ok f' nm' sec' thd', (if (1 : Int32) = 0 then _ else (fX8_take (nI j) (nI l) text 45).bind _) = _ ∧ _
    rw [if_neg n10, show fX8_take (nI j) (nI l) text 45 = _ from pX8_take hT (by omega) (c := 45) (by decide), bind_s]
    cases h2 : chP C l j 45 with
    | false => exact ⟨_, _, _, _, _, rfl, rfl, Or.inl rfl⟩
    | true =>
      have b2 := chP_lt h2
      show ∃ ok f' nm' sec' thd', (if (1 : Int32) = 0 then _ else (fX8_readNumber (nI (j + 1)) (nI l) (nI a) text).bind _) = _ ∧ _
      rw [if_neg n10, pX8_readNumber hT (by omega), bind_s]
      cases h3 : numP C l (j + 1) with
      | none => exact ⟨_, _, _, _, _, rfl, rfl, Or.inl rfl⟩
      | some p =>
        obtain ⟨m, b⟩ := p
        dsimp only
        have b3 := numP_le h3
        show ∃ ok f' nm' sec' thd', (if (1 : Int32) = 0 then _ else (fX8_take (nI m) (nI l) text 58).bind _) = _ ∧ _
        rw [if_neg n10, show fX8_take (nI m) (nI l) text 58 = _ from pX8_take hT (by omega) (c := 58) (by decide), bind_s]
        cases h4 : chP C l m 58 with
        | false => exact ⟨_, _, _, _, _, rfl, rfl, Or.inl rfl⟩
        | true =>
          have b4 := chP_lt h4
          show ∃ ok f' nm' sec' thd', (if (1 : Int32) = 0 then _ else (fX8_readDigit (nI (m + 1)) (nI l) (nI b) text).bind _) = _ ∧ _
          rw [if_neg n10, pX8_readDigit hT (by omega), bind_s]
          cases h5 : dgP C l (m + 1) with
          | false => exact ⟨_, _, _, _, _, rfl, rfl, Or.inl rfl⟩
          | true => exact ⟨_, _, _, _, _, rfl, ⟨rfl, rfl, rfl, rfl⟩, Or.inr rfl⟩
def CO (o : Option Stm) (ok f sec : Int32) : Prop := match o with
  | none => ok = 0
  | some (_, a, b, _, _) => ok = 1 ∧ f = nI a ∧ sec = nI b
theorem pX8_readOuter (hT : Txt text C l) (hi : i ≤ l) (f nm sec : Int32) : ∃ ok f' nm' sec', fX8_readOuter (nI i) f (nI l) nm sec text = some (ok, nI (outP C l i).1, f', nm', sec') ∧ CO (outP C l i).2 ok f' sec' ∧ (ok = 0 ∨ ok = 1) := by
  rw [fX8_readOuter, pX8_readNumber hT hi, bind_s]
  unfold outP
  cases h1 : numP C l i with
  | none => exact ⟨_, _, _, _, rfl, rfl, Or.inl rfl⟩
  | some p =>
    obtain ⟨j, a⟩ := p
    dsimp only
    have b1 := numP_le h1
    show ∃ ok f' nm' sec', (if (1 : Int32) = 0 then _ else (fX8_take (nI j) (nI l) text 58).bind _) = _ ∧ _
    rw [if_neg n10, show fX8_take (nI j) (nI l) text 58 = _ from pX8_take hT (by omega) (c := 58) (by decide), bind_s]
    cases h2 : chP C l j 58 with
    | false => exact ⟨_, _, _, _, rfl, rfl, Or.inl rfl⟩
    | true =>
      have b2 := chP_lt h2
      show ∃ ok f' nm' sec', (if (1 : Int32) = 0 then _ else (fX8_readDigit (nI (j + 1)) (nI l) (nI a) text).bind _) = _ ∧ _
      rw [if_neg n10, pX8_readDigit hT (by omega), bind_s]
      cases h5 : dgP C l (j + 1) with
      | false => exact ⟨_, _, _, _, rfl, rfl, Or.inl rfl⟩
      | true => exact ⟨_, _, _, _, rfl, ⟨rfl, rfl, rfl⟩, Or.inr rfl⟩
end TC
