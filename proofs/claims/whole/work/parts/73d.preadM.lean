/-! numbers and statements, by the reference -/
section TM
variable {text : Nat → Int32} {C : Nat → Nat} {l i : Nat}
theorem L12_step (hT : Txt text C l) (hi : i ≤ l) {x w i0 : Nat} (hx : x < 4) (h0 : i0 ≤ i) (hw : w ≤ 2) (kf : Int32 → (Nat → Int32) → Option (Int32 × Int32 × (Nat → Int32))) (F : Nat) (nums : Nat → Int32) : fX11_readsNumber_L12 text (nI l) (nI x) (nI w) (nI i0) (F + 1) kf (nI i) nums = if w ≤ i - i0 then kf (nI i) nums else if dgP C l i then fX11_readsNumber_L12 text (nI l) (nI x) (nI w) (nI i0) F kf (nI (i + 1)) (upd nums x (10 * nums x + nI (C i) - 48)) else kf (nI i) nums := by
  have hl := hT.1
  rw [fX11_readsNumber_L12, sub_ge h0]
  by_cases h1 : w ≤ i - i0
  · rw [if_pos (nI_le h1 (by omega)), if_pos h1]
  · rw [if_neg (nI_ge (show i - i0 < w by omega) (by omega)), if_neg h1, pX11_here hT (by omega), bind_s]
    have hin : inR (nI x) 4 := (inR_nI (by omega)).mpr hx
    simp only [if_pos hin, bind_s]
    rw [nI_clamp (by omega), nI_1]
    unfold dgP
    by_cases h : i < l
    · obtain ⟨c1, c2⟩ := hT.2 i h
      rw [if_pos h, show fX11_in (nI (C i)) 48 57 = _ from in_c (a := 48) (b := 57) c2 (by decide) (by decide), bind_s]
      by_cases h2 : 48 ≤ C i ∧ C i ≤ 57
      · rw [if_pos h2, if_neg n10, decide_eq_true ⟨h, h2⟩, if_pos rfl]
      · rw [if_neg h2, if_pos rfl, decide_eq_false (fun q => h2 q.2), if_neg ff]
    · rw [if_neg h, show fX11_in (0 : Int32) 48 57 = some 0 by decide, bind_s, if_pos rfl, decide_eq_false (fun q => h q.1), if_neg ff]
theorem dig_val {v c : Nat} (hc : 48 ≤ c) : (10 : Int32) * nI v + nI c - 48 = nI (10 * v + (c - 48)) := by
  rw [show (10 : Int32) = nI 10 from rfl, pk_mul, nI_add, sub48 (by omega)]
  congr 1
  omega
theorem pX11_number2 (hT : Txt text C l) (hi : i ≤ l) {x : Nat} (hx : x < 4) (nums : Nat → Int32) : ∃ ok nums', fX11_readsNumber (nI i) nums text (nI l) (nI x) 2 = some (ok, nI (match numP C l i with | some p => p.1 | none => i), nums') ∧ (∀ y, y ≠ x → nums' y = nums y) ∧ (match numP C l i with | some p => ok = 1 ∧ nums' x = nI p.2 | none => ok = 0) := by
  have hl := hT.1
  have key : ∀ F kf, fX11_readsNumber_L12 text (nI l) (nI x) 2 (nI i) (F + 3) kf (nI i) (upd nums x 0) = _ := fun F kf => L12_step hT hi hx (Nat.le_refl i) (w := 2) (by decide) kf (F + 2) (upd nums x 0)
  rw [fX11_readsNumber, if_pos ((inR_nI (by omega)).mpr hx), nI_clamp (by omega)]
  rw [show (1000000 : Nat) = 999997 + 3 from rfl, key, Nat.sub_self, if_neg (by decide)]
  unfold numP
  cases h1 : dgP C l i with
  | false =>
    rw [if_neg ff, if_neg ff, if_pos (nI_leS i (by omega))]
    exact ⟨_, _, rfl, fun y hy => pk_un hy, rfl⟩
  | true =>
    obtain ⟨a, b, c⟩ := dgP_lt h1
    rw [if_pos rfl, if_pos rfl, pk_us, show (10 : Int32) * 0 + nI (C i) - 48 = nI (C i - 48) by rw [show (0 : Int32) = nI 0 from rfl, dig_val b]; congr 1; omega]
    rw [show fX11_readsNumber_L12 text (nI l) (nI x) (nI 2) (nI i) (999997 + 2) _ (nI (i + 1)) _ = _ from L12_step hT (by omega) hx (show i ≤ i + 1 by omega) (w := 2) (by decide) _ (999997 + 1) _, if_neg (by omega)]
    cases h2 : dgP C l (i + 1) with
    | false =>
      rw [if_neg ff, if_neg ff, if_neg (nI_ge (show i < i + 1 by omega) (by omega))]
      exact ⟨_, _, rfl, fun y hy => by rw [pk_un hy, pk_un hy], rfl, pk_us⟩
    | true =>
      obtain ⟨a2, b2, c2⟩ := dgP_lt h2
      rw [if_pos rfl, if_pos rfl, pk_us, dig_val b2]
      rw [show fX11_readsNumber_L12 text (nI l) (nI x) (nI 2) (nI i) (999997 + 1) _ (nI (i + 1 + 1)) _ = _ from L12_step hT (by omega) hx (show i ≤ i + 1 + 1 by omega) (w := 2) (by decide) _ 999997 _, if_pos (by omega), if_neg (nI_ge (show i < i + 1 + 1 by omega) (by omega))]
      exact ⟨_, _, rfl, fun y hy => by rw [pk_un hy, pk_un hy, pk_un hy], rfl, pk_us⟩
theorem pX11_number1 (hT : Txt text C l) (hi : i ≤ l) {x : Nat} (hx : x < 4) (nums : Nat → Int32) : ∃ ok nums', fX11_readsNumber (nI i) nums text (nI l) (nI x) 1 = some (ok, nI (if dgP C l i then i + 1 else i), nums') ∧ (∀ y, y ≠ x → nums' y = nums y) ∧ (if dgP C l i then ok = 1 ∧ nums' x = nI (C i - 48) else ok = 0) := by
  have hl := hT.1
  have key : ∀ F kf, fX11_readsNumber_L12 text (nI l) (nI x) 1 (nI i) (F + 3) kf (nI i) (upd nums x 0) = _ := fun F kf => L12_step hT hi hx (Nat.le_refl i) (w := 1) (by decide) kf (F + 2) (upd nums x 0)
  rw [fX11_readsNumber, if_pos ((inR_nI (by omega)).mpr hx), nI_clamp (by omega)]
  rw [show (1000000 : Nat) = 999997 + 3 from rfl, key, Nat.sub_self, if_neg (by decide)]
  cases h1 : dgP C l i with
  | false =>
    rw [if_neg ff, if_neg ff, if_pos (nI_leS i (by omega))]
    exact ⟨_, _, rfl, fun y hy => pk_un hy, rfl⟩
  | true =>
    obtain ⟨a, b, c⟩ := dgP_lt h1
    rw [if_pos rfl, if_pos rfl, pk_us, show (10 : Int32) * 0 + nI (C i) - 48 = nI (C i - 48) by rw [show (0 : Int32) = nI 0 from rfl, dig_val b]; congr 1; omega]
    rw [show fX11_readsNumber_L12 text (nI l) (nI x) (nI 1) (nI i) (999997 + 2) _ (nI (i + 1)) _ = _ from L12_step hT (by omega) hx (show i ≤ i + 1 by omega) (w := 1) (by decide) _ (999997 + 1) _, if_pos (by omega), if_neg (nI_ge (show i < i + 1 by omega) (by omega))]
    exact ⟨_, _, rfl, fun y hy => by rw [pk_un hy, pk_un hy], rfl, pk_us⟩
end TM
