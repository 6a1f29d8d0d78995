/-! the decompiled functions' own words: tests, guards, binds, and what each says of a run that answers -/
theorem dc_pos {c : Prop} [Decidable c] {α : Sort _} {a b r : α} (hc : c) (h : (if c then a else b) = r) : a = r := by rw [if_pos hc] at h; exact h
theorem dc_neg {c : Prop} [Decidable c] {α : Sort _} {a b r : α} (hc : ¬ c) (h : (if c then a else b) = r) : b = r := by rw [if_neg hc] at h; exact h
abbrev inR (i : Int32) (n : Nat) : Prop := 0 ≤ i.toInt ∧ i.toInt < (n : Int)
abbrev isB (v : Int32) : Prop := v = 0 ∨ v = 1
theorem dc_need {c : Prop} [Decidable c] {α : Type _} {x : Option α} {r : α} (h : (if c then x else none) = some r) : c ∧ x = some r := by
  by_cases hc : c
  · rw [if_pos hc] at h; exact ⟨hc, h⟩
  · rw [if_neg hc] at h; cases h
theorem dc_ne {y : Int32} {α : Type _} {x : Option α} {r : α} (h : (if y = 0 then none else x) = some r) : ¬ y = 0 ∧ x = some r := by
  by_cases hc : y = 0
  · rw [if_pos hc] at h; cases h
  · rw [if_neg hc] at h; exact ⟨hc, h⟩
theorem dc_neL {y : Int64} {α : Type _} {x : Option α} {r : α} (h : (if y = 0 then none else x) = some r) : ¬ y = 0 ∧ x = some r := by
  by_cases hc : y = 0
  · rw [if_pos hc] at h; cases h
  · rw [if_neg hc] at h; exact ⟨hc, h⟩
theorem dc_bind {α β : Type _} {x : Option α} {f : α → Option β} {r : β} (h : x.bind f = some r) : ∃ a, x = some a ∧ f a = some r := by
  cases x with
  | none => cases h
  | some a => exact ⟨a, rfl, h⟩
/-- a value with a name -/
def dc_nm {α : Sort _} {β : Sort _} (a : α) (f : α → β) : β := f a
theorem dc_at {α : Sort _} {β : Sort _} {a x : α} {f : α → β} {r : β} (e : x = a) (h : dc_nm a f = r) : f x = r := by subst e; exact h
theorem dc_inl {α β : Type _} {γ : Type _} {f : α → γ} {g : β → γ} {x : α ⊕ β} {a : α} {r : γ} (e : x = .inl a) (h : Sum.elim f g x = r) : f a = r := by subst e; exact h
theorem dc_inr {α β : Type _} {γ : Type _} {f : α → γ} {g : β → γ} {x : α ⊕ β} {b : β} {r : γ} (e : x = .inr b) (h : Sum.elim f g x = r) : g b = r := by subst e; exact h
abbrev nN (r : UInt32) : Prop := r &&& 0x7fffffff ≤ 0x7f800000
abbrev nD (r : UInt64) : Prop := r &&& 0x7fffffffffffffff ≤ 0x7ff0000000000000
