/-! the statements one after another: class and reference in step -/
section CA
variable {g area com : Nat → Int32} {cores : Int32} {len nb outer pop : Nat → Int32} {units : Int32} {n : Nat}
variable {text tape : Nat → Int32} {C : Nat → Nat} {l : Nat}
theorem ext_L104 {ahead : Nat → Int32} {at' imp lt : Int32} {nums : Nat → Int32} {taped th : Int32} (kf : (Nat → Int32) → Option (Int32 × (Nat → Int32) × Int32 × (Nat → Int32) × (Nat → Int32) × Int32 × Int32 × Int32 × (Nat → Int32) × Int32 × Int32)) : fX11_extend_L104 ahead at' imp lt nums taped th 1000000 kf 0 g = kf (fun x => if x < 221 then ahead x else g x) := by
  have key := upS (fun m i s => fX11_extend_L104 ahead at' imp lt nums taped th m kf (nI i) s) (fun i => fun x => if x < i then ahead x else g x) 221 (kf (fun x => if x < 221 then ahead x else g x)) (fun m => ?_) (fun m i hi => ?_) 1000000 (by omega)
  · have e0 : (fun x => if x < 0 then ahead x else g x) = g := funext fun s => if_neg (by omega)
    simp only [e0] at key
    exact key
  · show fX11_extend_L104 ahead at' imp lt nums taped th (m + 1) kf (nI 221) _ = _
    rw [fX11_extend_L104, if_pos (show (221 : Int32) ≤ nI 221 by decide)]
  · show fX11_extend_L104 ahead at' imp lt nums taped th (m + 1) kf (nI i) _ = fX11_extend_L104 ahead at' imp lt nums taped th m kf (nI (i + 1)) (fun x => if x < i + 1 then ahead x else g x)
    rw [fX11_extend_L104, if_neg (ge221 hi), if_pos ((inR_nI (by omega)).mpr hi), if_pos ((inR_nI (by omega)).mpr hi), nI_clamp (by omega), nI_1]
    congr 1
    funext j
    by_cases e : j = i
    · subst e; rw [pk_us, if_pos (Nat.lt_succ_self j)]
    · rw [pk_un e]
      by_cases e2 : j < i
      · rw [if_pos e2, if_pos (show j < i + 1 by omega)]
      · rw [if_neg e2, if_neg (show ¬ j < i + 1 by omega)]
abbrev KC : Type := (Nat → Int32) → (Nat → Int32) → Int32 → (Nat → Int32) → (Nat → Int32) → (Nat → Int32) → (Nat → Int32) → Int32 → Int32 → Int32 → Int32 → Int32 → Int32 → Int32 → Int32 → Option (Int32 × (Nat → Int32) × (Nat → Int32) × Int32 × (Nat → Int32) × (Nat → Int32) × (Nat → Int32) × (Nat → Int32) × Int32 × Int32 × Int32 × Int32 × Int32 × Int32 × Int32 × Int32 × Int32)
abbrev KM : Type := Int32 → (Nat → Int32) → Int32 → Int32 → (Nat → Int32) → Int32 → Int32 → Option (Int32 × (Nat → Int32) × Int32 × (Nat → Int32) × (Nat → Int32) × Int32 × Int32 × Int32 × (Nat → Int32) × Int32 × Int32)
theorem carry_lock (hT : Txt text C l) (hT' : Txt tape C l) (kf : KC) (kfM : KM) (hist ahead : Nat → Int32) (many imp th : Int32) : ∀ (d i r m m' : Nat) (g area com : Nat → Int32) (cores : Int32) (len nb outer pop : Nat → Int32) (units : Int32) (f ic kd nm sec thd lt : Int32) (nums : Nat → Int32), Good C l d i → i ≤ l → 2 * r ≤ i → d ≤ m → d + 1 ≤ m' → WM g area com cores len nb outer pop units →
    (∃ (r' : Nat) (area' com' : Nat → Int32) (cores' : Int32) (len' nb' outer' pop' : Nat → Int32) (units' at' f' ic' kd' nm' sec' thd' atM lt' : Int32) (nums' gR : Nat → Int32), r' ≤ 80 ∧ fX8_carryOut_L9 text (nI l) m kf (nI r) area com cores len nb outer pop units (nI i) f ic kd nm sec thd = some (nI r', area', com', cores', len', nb', outer', pop', units', at', f', ic', kd', nI l, nm', sec', thd') ∧ fX11_extend_L74 hist many tape ahead m' kfM (nI r) (nI i) g imp lt nums (nI l) th = some (0, ahead, atM, gR, hist, many, nI r', lt', nums', 0, 1) ∧ ∀ x, x < 221 → gR x = ahead x) ∨
    (∃ (area' com' : Nat → Int32) (cores' : Int32) (len' nb' outer' pop' : Nat → Int32) (units' at' f' ic' kd' nm' sec' thd' lt' : Int32) (nums' g' : Nat → Int32), fX8_carryOut_L9 text (nI l) m kf (nI r) area com cores len nb outer pop units (nI i) f ic kd nm sec thd = some (-1, area', com', cores', len', nb', outer', pop', units', at', f', ic', kd', nI l, nm', sec', thd') ∧ fX11_extend_L74 hist many tape ahead m' kfM (nI r) (nI i) g imp lt nums (nI l) th = kfM (nI l) g' imp lt' nums' (nI l) th ∧ WM g' area' com' cores' len' nb' outer' pop' units' ∧ ∀ x, 205 ≤ x → g' x = g x) := by
  have hl := hT.1
  intro d
  induction d with
  | zero => intro i r m m' g area com cores len nb outer pop units f ic kd nm sec thd lt nums h; exact h.elim
  | succ d ih =>
    intro i r m m' g area com cores len nb outer pop units f ic kd nm sec thd lt nums hG h2 h3 h4 h5 hw
    obtain ⟨m, rfl⟩ : ∃ t, m = t + 1 := ⟨m - 1, by omega⟩
    obtain ⟨m', rfl⟩ : ∃ t, m' = t + 1 := ⟨m' - 1, by omega⟩
    obtain ⟨ok, f1, ic1, kd1, nm1, sec1, thd1, e1, e2⟩ := pX8_readStatement hT h2 f ic nm sec thd
    obtain ⟨okM, lt1, nums1, e3, e4⟩ := pX11_readsStatement hT' h2 nums
    have hat := stP_at (C := C) h2
    obtain ⟨s, hs, hG⟩ := hG
    have hB := stP_B hs
    have hj := hat.2.2 (by rw [hs]; exact fun q => by cases q)
    have hj2 := hat.2.1
    rw [hs] at e2 e4
    obtain ⟨ok2, A, Cm, co, L, N, O, P, U, g', q1, q2, q3, q4⟩ := st_lock hB e2 e4 hw
    have o1 : ok = 1 := by obtain ⟨k, a, b, c, co⟩ := s; exact e2.1
    rw [fX8_carryOut_L9, if_neg (show ¬ (80 : Int32) ≤ nI r from nI_ge (show r < 80 by omega) (by decide)), e1, bind_s, fX11_extend_L74, if_neg (nI_ge (show i < l by omega) (by omega)), e3, bind_s, if_neg (show ¬ ok = 0 by rw [o1]; exact n10), q1, bind_s, q2, bind_s]
    rcases q3 with q3 | q3
    · rw [if_pos q3, if_pos q3, ext_L104, fX11_fails, bind_s]
      exact Or.inl ⟨r, _, _, _, _, _, _, _, _, _, _, _, _, _, _, _, _, _, _, _, by omega, rfl, rfl, fun x hx => if_pos hx⟩
    · obtain ⟨hw', hx'⟩ := q4 q3
      have q30 : ¬ ok2 = 0 := by rw [q3]; exact n10
      rw [if_neg q30, if_neg q30]
      generalize (stP C l i).1 = j at hj hj2 hG ⊢
      rw [show fX8_take (nI j) (nI l) text 59 = _ from pX8_take hT hj2 (c := 59) (by decide), bind_s, show fX11_eats (nI j) tape (nI l) 59 = _ from pX11_eats hT' hj2 (c := 59) (by decide), bind_s]
      rcases hG with hG | ⟨hc, hG⟩
      · have no : chP C l j 59 = false := decide_eq_false fun q => by omega
        obtain ⟨m', rfl⟩ : ∃ t, m' = t + 1 := ⟨m' - 1, by omega⟩
        rw [no, if_neg ff, if_neg ff, if_pos rfl, hG, fX11_extend_L74, if_pos (nI_leS l (by omega))]
        exact Or.inr ⟨_, _, _, _, _, _, _, _, _, _, _, _, _, _, _, _, _, _, rfl, rfl, hw', hx'⟩
      · have hjl := (chP_lt hc).1
        rw [hc, if_pos rfl, if_pos rfl, if_neg n10, nI_1]
        rcases ih (j + 1) (r + 1) m m' g' A Cm co L N O P U f1 ic1 kd1 nm1 sec1 thd1 lt1 nums1 hG (by omega) (by omega) (by omega) (by omega) hw' with ⟨r', z⟩ | ⟨z1, z2, z3, z4, z5, z6, z7, z8, z9, z10, z11, z12, z13, z14, z15, z16, z17, z18, z19, z20, z21, z22⟩
        · exact Or.inl ⟨r', z⟩
        · exact Or.inr ⟨z1, z2, z3, z4, z5, z6, z7, z8, z9, z10, z11, z12, z13, z14, z15, z16, z17, z18, z19, z20, z21, fun x hx => (z22 x hx).trans (hx' x hx)⟩
end CA
