/-! the text reader: signs, digits, numbers -/
def chP (C : Nat → Nat) (l i c : Nat) : Bool := decide (i < l ∧ C i = c)
def dgP (C : Nat → Nat) (l i : Nat) : Bool := decide (i < l ∧ 48 ≤ C i ∧ C i ≤ 57)
def numP (C : Nat → Nat) (l i : Nat) : Option (Nat × Nat) := if dgP C l i then (if dgP C l (i + 1) then some (i + 2, 10 * (C i - 48) + (C (i + 1) - 48)) else some (i + 1, C i - 48)) else none
/-- a text of signs -/
def Txt (text : Nat → Int32) (C : Nat → Nat) (l : Nat) : Prop := l ≤ 80 ∧ ∀ j, j < l → text j = nI (C j) ∧ C j < 65536
section TX
variable {text : Nat → Int32} {C : Nat → Nat} {l i : Nat}
theorem sub48 {c : Nat} (h : 48 ≤ c) : nI c - (48 : Int32) = nI (c - 48) := sub_ge (a := 48) h
theorem pX8_take (hT : Txt text C l) (hi : i ≤ l) {c : Nat} (hc : c < 65536) : fX8_take (nI i) (nI l) text (nI c) = some (if chP C l i c then 1 else 0, nI (if chP C l i c then i + 1 else i)) := by
  obtain ⟨hl, hC⟩ := hT
  rw [fX8_take]
  unfold chP
  by_cases h : i < l
  · obtain ⟨c1, c2⟩ := hC i h
    rw [if_neg (nI_ge h (by omega)), if_pos ((inR_nI (by omega)).mpr (by omega)), nI_clamp (by omega), c1]
    by_cases e : C i = c
    · rw [if_pos (by rw [e]), decide_eq_true ⟨h, e⟩, if_pos rfl, if_pos rfl, nI_1]
    · rw [if_neg (fun q => e (nI_inj (by omega) (by omega) q)), decide_eq_false (fun q => e q.2), if_neg ff, if_neg ff]
  · rw [if_pos (nI_le (by omega) (by omega)), decide_eq_false (fun q => h q.1), if_neg ff, if_neg ff]
theorem pX8_readDigit (hT : Txt text C l) (hi : i ≤ l) (nm : Int32) : fX8_readDigit (nI i) (nI l) nm text = some (if dgP C l i then (1, nI (i + 1), nI (C i - 48)) else (0, nI i, nm)) := by
  obtain ⟨hl, hC⟩ := hT
  rw [fX8_readDigit]
  unfold dgP
  by_cases h : i < l
  · obtain ⟨c1, c2⟩ := hC i h
    have h80 : inR (nI i) 80 := (inR_nI (by omega)).mpr (by omega)
    rw [if_neg (nI_ge h (by omega)), if_pos h80, nI_clamp (by omega), c1]
    by_cases e : C i < 48
    · rw [if_pos (show nI (C i) < (48 : Int32) from nI_lt e (by decide)), decide_eq_false (fun q => by omega), if_neg ff]
    · rw [if_neg (show ¬ nI (C i) < (48 : Int32) from nI_nlt (show 48 ≤ C i by omega) (by omega)), if_pos h80]
      by_cases e2 : C i ≤ 57
      · rw [if_pos (show nI (C i) ≤ (57 : Int32) from nI_le e2 (by decide)), if_pos h80, decide_eq_true ⟨h, by omega, e2⟩, if_pos rfl, nI_1, sub48 (by omega)]
      · rw [if_neg (show ¬ nI (C i) ≤ (57 : Int32) from nI_ge (show 57 < C i by omega) (by omega)), decide_eq_false (fun q => e2 q.2.2), if_neg ff]
  · rw [if_pos (nI_le (by omega) (by omega)), decide_eq_false (fun q => h q.1), if_neg ff]
theorem dgP_lt (h : dgP C l i = true) : i < l ∧ 48 ≤ C i ∧ C i ≤ 57 := of_decide_eq_true h
theorem pX8_readNumber (hT : Txt text C l) (hi : i ≤ l) (nm : Int32) : fX8_readNumber (nI i) (nI l) nm text = some (match numP C l i with | some (j, v) => (1, nI j, nI v) | none => (0, nI i, nm)) := by
  rw [fX8_readNumber, pX8_readDigit hT hi, bind_s]
  unfold numP
  cases h1 : dgP C l i with
  | false =>
    rw [if_neg ff, if_neg ff]; rfl
  | true =>
    obtain ⟨a, b, c⟩ := dgP_lt h1
    rw [if_pos rfl, if_pos rfl]
    show (if (1 : Int32) = 0 then _ else (fX8_readDigit (nI (i + 1)) (nI l) (nI (C i - 48)) text).bind _) = _
    rw [if_neg n10, pX8_readDigit hT (by omega), bind_s]
    cases h2 : dgP C l (i + 1) with
    | false => rw [if_neg ff, if_neg ff]; rfl
    | true =>
      rw [if_pos rfl, if_pos rfl]
      show (if (1 : Int32) = 0 then _ else some ((1 : Int32), nI (i + 1 + 1), nI (C (i + 1) - 48) + ((10 : Int32) * nI (C i - 48)))) = some (1, nI (i + 2), nI (10 * (C i - 48) + (C (i + 1) - 48)))
      rw [if_neg n10, show (10 : Int32) = nI 10 from rfl, pk_mul, nI_add, Nat.add_comm (C (i + 1) - 48)]
theorem numP_le {j v : Nat} (h : numP C l i = some (j, v)) : i < j ∧ j ≤ l ∧ v ≤ 99 ∧ j ≤ i + 2 := by
  unfold numP at h
  cases h1 : dgP C l i with
  | false => rw [h1, if_neg ff] at h; cases h
  | true =>
    obtain ⟨a, b, c⟩ := dgP_lt h1
    rw [h1, if_pos rfl] at h
    cases h2 : dgP C l (i + 1) with
    | false =>
      rw [h2, if_neg ff] at h
      cases h
      omega
    | true =>
      obtain ⟨a2, b2, c2⟩ := dgP_lt h2
      rw [h2, if_pos rfl] at h
      cases h
      omega
theorem pX11_here (hT : Txt text C l) (hi : i < 1000) : fX11_here (nI i) text (nI l) = some (if i < l then nI (C i) else 0) := by
  obtain ⟨hl, hC⟩ := hT
  rw [fX11_here]
  by_cases h : i < l
  · rw [if_neg (nI_ge h (by omega)), if_pos ((inR_nI (by omega)).mpr (by omega)), nI_clamp (by omega), (hC i h).1, if_pos h]
  · rw [if_pos (nI_le (by omega) (by omega)), if_neg h]
theorem pX11_eats (hT : Txt text C l) (hi : i ≤ l) {c : Nat} (hc : c < 65536) : fX11_eats (nI i) text (nI l) (nI c) = some (if chP C l i c then 1 else 0, nI (if chP C l i c then i + 1 else i)) := by
  have hl := hT.1
  rw [fX11_eats]
  unfold chP
  by_cases h : i < l
  · obtain ⟨c1, c2⟩ := hT.2 i h
    rw [if_neg (nI_ge h (by omega)), pX11_here hT (by omega), bind_s, if_pos h]
    by_cases e : C i = c
    · rw [if_pos (by rw [e]), decide_eq_true ⟨h, e⟩, if_pos rfl, if_pos rfl, nI_1]
    · rw [if_neg (fun q => e (nI_inj (by omega) (by omega) q)), decide_eq_false (fun q => e q.2), if_neg ff, if_neg ff, add_0]
  · rw [if_pos (nI_le (by omega) (by omega)), decide_eq_false (fun q => h q.1), if_neg ff, if_neg ff, add_0]
end TX
