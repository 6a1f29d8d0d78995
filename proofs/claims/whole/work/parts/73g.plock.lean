/-! the search for a fault: class and reference in step -/
section TL
variable {text tape : Nat → Int32} {C : Nat → Nat} {l : Nat}
/-- every statement from a place on is one, to the end -/
def Good (C : Nat → Nat) (l : Nat) : Nat → Nat → Prop
  | 0, _ => False
  | d + 1, i => ∃ s, (stP C l i).2 = some s ∧ ((stP C l i).1 = l ∨ (chP C l (stP C l i).1 59 = true ∧ Good C l d ((stP C l i).1 + 1)))
theorem fault_lock (hT : Txt text C l) (hT' : Txt tape C l) (kf : Int32 → Int32 → Int32 → Int32 → Int32 → Int32 → Int32 → Option (Int32 × Int32 × Int32 × Int32 × Int32 × Int32 × Int32 × Int32 × Int32)) (kfM : Int32 → Int32 → Int32 → (Nat → Int32) → Option (Int32 × (Nat → Int32) × Int32 × (Nat → Int32) × (Nat → Int32) × Int32 × Int32 × Int32 × (Nat → Int32) × Int32 × Int32)) : ∀ (d i r m m' : Nat) (f ic kd nm sec thd : Int32) (nums : Nat → Int32), l - i < d → i ≤ l → 2 * r ≤ i → d ≤ m → d ≤ m' →
    (∃ (j : Nat) (f' ic' kd' nm' sec' thd' ok lt : Int32) (nums' : Nat → Int32), j ≤ l ∧ (ok = 0 ∨ (ok = 1 ∧ j < l)) ∧ fX8_findFault_L8 text (nI l) m kf (nI r) (nI i) f ic kd nm sec thd = some (nI j, nI j, f', ic', kd', nI l, nm', sec', thd') ∧ (fX11_readsStatement (nI i) nums tape (nI l)).bind (fun q => fX11_extend_L10 tape (nI l) m' kfM q.1 q.2.1 q.2.2.1 q.2.2.2) = kfM ok (nI j) lt nums') ∨
    (∃ (f' ic' kd' nm' sec' thd' lt : Int32) (nums' : Nat → Int32), fX8_findFault_L8 text (nI l) m kf (nI r) (nI i) f ic kd nm sec thd = some (-1, nI l, f', ic', kd', nI l, nm', sec', thd') ∧ (fX11_readsStatement (nI i) nums tape (nI l)).bind (fun q => fX11_extend_L10 tape (nI l) m' kfM q.1 q.2.1 q.2.2.1 q.2.2.2) = kfM 1 (nI l) lt nums' ∧ Good C l d i) := by
  have hl := hT.1
  intro d
  induction d with
  | zero => intro i r m m' f ic kd nm sec thd nums h; omega
  | succ d ih =>
    intro i r m m' f ic kd nm sec thd nums h1 h2 h3 h4 h5
    obtain ⟨m, rfl⟩ : ∃ t, m = t + 1 := ⟨m - 1, by omega⟩
    obtain ⟨m', rfl⟩ : ∃ t, m' = t + 1 := ⟨m' - 1, by omega⟩
    obtain ⟨ok, f1, ic1, kd1, nm1, sec1, thd1, e1, e2⟩ := pX8_readStatement hT h2 f ic nm sec thd
    obtain ⟨okM, lt, nums1, e3, e4⟩ := pX11_readsStatement hT' h2 nums
    have hat := stP_at (C := C) h2
    rw [fX8_findFault_L8, if_neg (show ¬ (80 : Int32) ≤ nI r from nI_ge (show r < 80 by omega) (by decide)), e1, bind_s, e3, bind_s, fX11_extend_L10]
    cases hs : (stP C l i).2 with
    | none =>
      rw [hs] at e2 e4
      have e2 : ok = 0 := e2
      have e4 : okM = 0 := e4
      rw [if_pos e2, if_pos e4]
      exact Or.inl ⟨(stP C l i).1, _, _, _, _, _, _, okM, _, _, hat.2.1, Or.inl e4, rfl, rfl⟩
    | some s =>
      obtain ⟨k, a, b, c, co⟩ := s
      have hj := hat.2.2 (by rw [hs]; exact fun q => by cases q)
      have hj2 := hat.2.1
      rw [hs] at e2 e4
      have e2 : ok = 1 := e2.1
      have e4 : okM = 1 := e4.1
      have hgood : ((stP C l i).1 = l ∨ (chP C l (stP C l i).1 59 = true ∧ Good C l d ((stP C l i).1 + 1))) → Good C l (d + 1) i := fun q => ⟨_, hs, q⟩
      generalize (stP C l i).1 = j at hj hj2 hgood ⊢
      rw [if_neg (show ¬ ok = 0 by rw [e2]; exact n10), if_neg (show ¬ okM = 0 by rw [e4]; exact n10), show fX11_eats (nI j) tape (nI l) 59 = _ from pX11_eats hT' hj2 (c := 59) (by decide), bind_s]
      by_cases hjl : j = l
      · have no : chP C l j 59 = false := decide_eq_false fun q => by omega
        rw [if_pos (show nI j = nI l by rw [hjl]), no, if_neg ff, if_neg ff, if_pos rfl, hjl, e4]
        exact Or.inr ⟨_, _, _, _, _, _, _, _, rfl, rfl, hgood (Or.inl hjl)⟩
      · rw [if_neg (fun q => hjl (nI_inj (by omega) (by omega) q)), show fX8_take (nI j) (nI l) text 59 = _ from pX8_take hT hj2 (c := 59) (by decide), bind_s]
        cases hc : chP C l j 59 with
        | false =>
          rw [if_neg ff, if_neg ff, if_pos rfl, if_pos rfl]
          exact Or.inl ⟨j, _, _, _, _, _, _, okM, _, _, hj2, Or.inr ⟨e4, by omega⟩, rfl, rfl⟩
        | true =>
          rw [if_pos rfl, if_pos rfl, if_neg n10, if_neg n10, nI_1]
          rcases ih (j + 1) (r + 1) m m' f1 ic1 kd1 nm1 sec1 thd1 nums1 (by omega) (by omega) (by omega) (by omega) (by omega) with q | ⟨z1, z2, z3, z4, z5, z6, z7, z8, z9, z10, z11⟩
          · exact Or.inl q
          · exact Or.inr ⟨z1, z2, z3, z4, z5, z6, z7, z8, z9, z10, hgood (Or.inr ⟨hc, z11⟩)⟩
end TL
