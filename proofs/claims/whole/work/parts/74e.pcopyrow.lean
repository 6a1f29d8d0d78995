/-! copyRow -/
section RC
variable {ex : Nat → Int32} {rough : Nat → Nat → UInt32} {size : Nat → Int32} {whole : Nat → Nat → Int32} {parts : Nat → UInt32} {msz mso mwh : Nat → Int32}
def cpy4 {α : Type} (a b c : Nat) (f : Nat → α) : Nat → α := fun x => if 4 * b ≤ x ∧ x < 4 * b + c then f (4 * a + (x - 4 * b)) else f x
theorem cpy4_at {α : Type} {a b c d : Nat} {f : Nat → α} : cpy4 a b c f (4 * b + d) = if d < c then f (4 * a + d) else f (4 * b + d) := by
  unfold cpy4
  by_cases h : d < c
  · rw [if_pos (by omega), if_pos h]
    congr 1; omega
  · rw [if_neg (by omega), if_neg h]
theorem cpy4_off {α : Type} {a b c q d : Nat} {f : Nat → α} (hq : q ≠ b) (hd : d < 4) (hc : c ≤ 4) : cpy4 a b c f (4 * q + d) = f (4 * q + d) := if_neg (by omega)
theorem copy_L98 {a b c : Nat} (ha : a < 3) (hb : b < 3) (hc : c ≤ 4) (kf : (Nat → UInt32) → (Nat → Int32) → Option (Int32 × (Nat → UInt32) × Int32 × (Nat → Int32))) : fX11_copyRow_L98 (nI a) (nI b) (nI c) 1000000 kf 0 parts mwh = kf (cpy4 a b c parts) (cpy4 a b c mwh) := by
  have key := upS (fun m i (z : (Nat → UInt32) × (Nat → Int32)) => fX11_copyRow_L98 (nI a) (nI b) (nI c) m kf (nI i) z.1 z.2) (fun i => (cpy4 a b i parts, cpy4 a b i mwh)) c (kf (cpy4 a b c parts) (cpy4 a b c mwh)) (fun m => ?_) (fun m i hi => ?_) 1000000 (by omega)
  · have e0 : cpy4 a b 0 parts = parts := funext fun s => if_neg (by omega)
    have e1 : cpy4 a b 0 mwh = mwh := funext fun s => if_neg (by omega)
    simp only [e0, e1] at key
    exact key
  · show fX11_copyRow_L98 (nI a) (nI b) (nI c) (m + 1) kf (nI c) _ _ = _
    rw [fX11_copyRow_L98, if_pos (nI_leS c (by omega))]
  · show fX11_copyRow_L98 (nI a) (nI b) (nI c) (m + 1) kf (nI i) (cpy4 a b i parts) (cpy4 a b i mwh) = fX11_copyRow_L98 (nI a) (nI b) (nI c) m kf (nI (i + 1)) (cpy4 a b (i + 1) parts) (cpy4 a b (i + 1) mwh)
    have ea : ((4 : Int32) * nI a) + nI i = nI (4 * a + i) := by rw [show (4 : Int32) = nI 4 from rfl, pk_mul, nI_add]
    have eb : ((4 : Int32) * nI b) + nI i = nI (4 * b + i) := by rw [show (4 : Int32) = nI 4 from rfl, pk_mul, nI_add]
    have ia : inR (nI (4 * a + i)) 12 := (inR_nI (by omega)).mpr (by omega)
    have ib : inR (nI (4 * b + i)) 12 := (inR_nI (by omega)).mpr (by omega)
    have ca : (nI (4 * a + i)).toNatClampNeg = 4 * a + i := nI_clamp (by omega)
    have cb : (nI (4 * b + i)).toNatClampNeg = 4 * b + i := nI_clamp (by omega)
    have rd : ∀ {α : Type} (f : Nat → α), cpy4 a b i f (4 * a + i) = f (4 * a + i) := fun f => by
      by_cases e : a = b
      · subst e; rw [cpy4_at, if_neg (by omega)]
      · exact cpy4_off e (by omega) (by omega)
    rw [fX11_copyRow_L98, if_neg (nI_ge hi (by omega)), ea, eb, if_pos ia, if_pos ib, if_pos ia, if_pos ib, ca, cb, rd, rd, nI_1]
    congr 1
    · funext j
      by_cases e : j = 4 * b + i
      · subst e
        rw [vf_s, cpy4_at, if_pos (by omega)]
      · rw [vf_n e]
        unfold cpy4
        by_cases e2 : 4 * b ≤ j ∧ j < 4 * b + i
        · rw [if_pos e2, if_pos (by omega)]
        · rw [if_neg e2, if_neg (by omega)]
    · funext j
      by_cases e : j = 4 * b + i
      · subst e
        rw [pk_us, cpy4_at, if_pos (by omega)]
      · rw [pk_un e]
        unfold cpy4
        by_cases e2 : 4 * b ≤ j ∧ j < 4 * b + i
        · rw [if_pos e2, if_pos (by omega)]
        · rw [if_neg e2, if_neg (by omega)]
/-- the sum of a row -/
theorem rows_sum {r k : Nat} {ex1 : Int32} {ro : Nat → UInt32} {wh : Nat → Int32} (hr : r < 3) (hk : k ≤ 4) (hz : msz r = nI k) (h : (mso r = 1 ∧ ex1 = 1 ∧ ∀ d, d < k → wh d = mwh (4 * r + d)) ∨ (mso r = 2 ∧ ex1 = 0 ∧ ∀ d, d < k → ro d = parts (4 * r + d))) (kf : Int32 → Option (Int32 × (Nat → UInt32) × Int32 × (Nat → Int32))) : ∃ s, fX5_sum ex1 ro (nI k) wh = some s ∧ fX11_copyRow_L160 msz mso (nI r) parts mwh 1000000 kf 0 0 = kf s := by
  have hcl : (nI r).toNatClampNeg = r := nI_clamp (by omega)
  have i3 : inR (nI r) 3 := (inR_nI (by omega)).mpr hr
  rw [fX5_sum]
  rcases h with ⟨h1, rfl, h3⟩ | ⟨h1, rfl, h3⟩
  · refine ⟨sumI k wh, ?_, ?_⟩
    · refine upS (fun m i s => fX5_sum_L4 1 ro (nI k) wh m (fun z4_1 => some z4_1) s (nI i)) (fun i => sumI i wh) k _ (fun m => ?_) (fun m i hi => ?_) 1000000 (by omega)
      · show fX5_sum_L4 1 ro (nI k) wh (m + 1) _ _ (nI k) = _
        rw [fX5_sum_L4, if_pos (nI_leS k (by omega))]
      · show fX5_sum_L4 1 ro (nI k) wh (m + 1) _ _ (nI i) = fX5_sum_L4 1 ro (nI k) wh m _ (sumI i wh + wh i) (nI (i + 1))
        rw [fX5_sum_L4, if_neg (nI_ge hi (by omega)), if_neg n10, if_pos ((inR_nI (by omega)).mpr (show i < 4 by omega)), nI_clamp (by omega), nI_1]
    · refine upS (fun m i s => fX11_copyRow_L160 msz mso (nI r) parts mwh m kf s (nI i)) (fun i => sumI i wh) k _ (fun m => ?_) (fun m i hi => ?_) 1000000 (by omega)
      · show fX11_copyRow_L160 msz mso (nI r) parts mwh (m + 1) kf _ (nI k) = _
        rw [fX11_copyRow_L160, if_pos i3, hcl, hz, if_pos (nI_leS k (by omega))]
      · show fX11_copyRow_L160 msz mso (nI r) parts mwh (m + 1) kf _ (nI i) = fX11_copyRow_L160 msz mso (nI r) parts mwh m kf (sumI i wh + wh i) (nI (i + 1))
        have ei : ((4 : Int32) * nI r) + nI i = nI (4 * r + i) := by rw [show (4 : Int32) = nI 4 from rfl, pk_mul, nI_add]
        rw [fX11_copyRow_L160, if_pos i3, hcl, hz, if_neg (nI_ge hi (by omega)), if_pos i3, h1, if_pos rfl, ei, if_pos ((inR_nI (by omega)).mpr (show 4 * r + i < 12 by omega)), nI_clamp (by omega), nm_eq, nI_1, h3 i hi]
  · refine ⟨sumI k (fun d => FP.f2i (ro d)), ?_, ?_⟩
    · refine upS (fun m i s => fX5_sum_L4 0 ro (nI k) wh m (fun z4_1 => some z4_1) s (nI i)) (fun i => sumI i (fun d => FP.f2i (ro d))) k _ (fun m => ?_) (fun m i hi => ?_) 1000000 (by omega)
      · show fX5_sum_L4 0 ro (nI k) wh (m + 1) _ _ (nI k) = _
        rw [fX5_sum_L4, if_pos (nI_leS k (by omega))]
      · show fX5_sum_L4 0 ro (nI k) wh (m + 1) _ _ (nI i) = fX5_sum_L4 0 ro (nI k) wh m _ (sumI i (fun d => FP.f2i (ro d)) + FP.f2i (ro i)) (nI (i + 1))
        rw [fX5_sum_L4, if_neg (nI_ge hi (by omega)), if_pos rfl, if_pos ((inR_nI (by omega)).mpr (show i < 4 by omega)), nI_clamp (by omega), nI_1]
    · refine upS (fun m i s => fX11_copyRow_L160 msz mso (nI r) parts mwh m kf s (nI i)) (fun i => sumI i (fun d => FP.f2i (ro d))) k _ (fun m => ?_) (fun m i hi => ?_) 1000000 (by omega)
      · show fX11_copyRow_L160 msz mso (nI r) parts mwh (m + 1) kf _ (nI k) = _
        rw [fX11_copyRow_L160, if_pos i3, hcl, hz, if_pos (nI_leS k (by omega))]
      · show fX11_copyRow_L160 msz mso (nI r) parts mwh (m + 1) kf _ (nI i) = fX11_copyRow_L160 msz mso (nI r) parts mwh m kf (sumI i (fun d => FP.f2i (ro d)) + FP.f2i (ro i)) (nI (i + 1))
        have ei : ((4 : Int32) * nI r) + nI i = nI (4 * r + i) := by rw [show (4 : Int32) = nI 4 from rfl, pk_mul, nI_add]
        rw [fX11_copyRow_L160, if_pos i3, hcl, hz, if_neg (nI_ge hi (by omega)), if_pos i3, h1, if_neg (show ¬ (2 : Int32) = 1 by decide), ei, if_pos ((inR_nI (by omega)).mpr (show 4 * r + i < 12 by omega)), nI_clamp (by omega), nm_eq, nI_1, h3 i hi]
theorem op_copyRow (hr : RowsR ex rough size whole parts msz mso mwh) (x y z : Int32) :
    ∃ r rough' whole' b parts' th mwh', fX10_copyRow ex rough size whole x y z = some (r, rough', whole') ∧ fX11_copyRow parts msz mso mwh x y z = some (b, parts', th, mwh') ∧ ansR ["java/lang/IllegalArgumentException", "java/util/NoSuchElementException", "java/lang/UnsupportedOperationException", "java/lang/IndexOutOfBoundsException"] r b th ∧ RowsR ex rough' size whole' parts' msz mso mwh' := by
  rw [fX10_copyRow, fX11_copyRow, pX10_isRow, bind_s, pX11_isRow, bind_s]
  by_cases hx : inR x 3
  · obtain ⟨a, ha, rfl⟩ := inR_of hx (by decide)
    rw [if_pos hx, if_neg n10, if_neg n10, pX10_isRow, bind_s, pX11_isRow, bind_s]
    by_cases hy : inR y 3
    · obtain ⟨b, hb, rfl⟩ := inR_of hy (by decide)
      have ca : (nI a).toNatClampNeg = a := nI_clamp (by omega)
      have cb : (nI b).toNatClampNeg = b := nI_clamp (by omega)
      rw [if_pos hy, if_neg n10, if_neg n10, if_pos hx, if_pos hy, if_pos hx, if_pos hy, if_pos hx, if_pos hy, if_pos hx, if_pos hy, ca, cb, fX5_isMissing, fX5_isMissing]
      rcases hr a ha with ⟨q1, q2, -⟩ | ⟨k1, b1, b2, b3, b4, b5⟩
      · rw [q1, q2, if_pos rfl, if_pos rfl, bind_s, if_neg n10]
        exact ⟨_, _, _, _, _, _, _, rfl, rfl, ⟨by decide +kernel, by decide +kernel⟩, hr⟩
      · have hs1 : ¬ mso a = 0 := by
          rcases b5 with ⟨c1, -⟩ | ⟨c1, -⟩ <;> rw [c1] <;> decide
        rw [if_neg hs1, b3, if_neg (nI_ne0 (show 0 < k1 by omega) (by omega)), bind_s, if_pos rfl]
        rcases hr b hb with ⟨q1, q2, -⟩ | ⟨k2, d1, d2, d3, d4, d5⟩
        · rw [q1, q2, if_pos rfl, if_pos rfl, bind_s, if_neg n10]
          exact ⟨_, _, _, _, _, _, _, rfl, rfl, ⟨by decide +kernel, by decide +kernel⟩, hr⟩
        · have hs2 : ¬ mso b = 0 := by
            rcases d5 with ⟨c1, -⟩ | ⟨c1, -⟩ <;> rw [c1] <;> decide
          rw [if_neg hs2, d3, if_neg (nI_ne0 (show 0 < k2 by omega) (by omega)), bind_s, if_pos rfl, b4, d4]
          have heq : ex a = ex b ↔ mso a = mso b := by
            rcases b5 with ⟨c1, c2, -⟩ | ⟨c1, c2, -⟩ <;> rcases d5 with ⟨c3, c4, -⟩ | ⟨c3, c4, -⟩ <;> rw [c1, c2, c3, c4] <;> decide
          by_cases hs : mso a = mso b
          · rw [if_pos (heq.mpr hs), if_pos hs, show fX11_in z 0 (nI k1) = _ from pX11_inZ (n := k1) (by omega) z, bind_s]
            rcases rng (x := z) (n := k1 + 1) (by omega) with ⟨w1, w2, w3⟩ | ⟨w1, w2⟩ | ⟨w1, w2, w3⟩
            · obtain ⟨c, hc, rfl⟩ := inR_of w1 (by omega)
              rw [if_pos w1, if_neg n10, if_neg w2, if_neg (nI_nlt (show c ≤ k1 by omega) (by omega))]
              by_cases hck : c ≤ k2
              · have cc : (nI c).toNatClampNeg = c := nI_clamp (by omega)
                have ti : 0 ≤ (nI c).toInt ∧ (nI c).toInt ≤ 4 := by rw [nI_toInt (by omega)]; omega
                rw [if_pos (nI_le hck (by omega)), if_pos (nI_le hck (by omega)), copy_L98 ha hb (by omega), fX5_takeElements, cc]
                have off : ∀ {α : Type} (f : Nat → α) (q d : Nat), q ≠ b → d < 4 → cpy4 a b c f (4 * q + d) = f (4 * q + d) := fun f q d h1 h2 => cpy4_off h1 h2 (by omega)
                rcases d5 with ⟨c3, c4, c5⟩ | ⟨c3, c4, c5⟩
                · obtain ⟨c1, c2, c6⟩ : mso a = 1 ∧ ex a = 1 ∧ ∀ d, d < k1 → whole a d = mwh (4 * a + d) ∧ ∃ w, w ≤ 1188 ∧ mwh (4 * a + d) = nI w := by
                    rcases b5 with q | ⟨q, -⟩
                    · exact q
                    · rw [q, c3] at hs; exact absurd hs (by decide)
                  have nw : ∀ d, d < k2 → va_cpy (whole a) (whole b) 0 0 c d = cpy4 a b c mwh (4 * b + d) ∧ ∃ w, w ≤ 1188 ∧ cpy4 a b c mwh (4 * b + d) = nI w := fun d hd => by
                    rw [cpy4_at]
                    by_cases e : d < c
                    · rw [if_pos e, cpy0 e]
                      exact c6 d (by omega)
                    · rw [if_neg e, pk_cpy_out (by omega)]
                      exact c5 d hd
                  obtain ⟨s, s1, s2⟩ := rows_sum (parts := cpy4 a b c parts) (mwh := cpy4 a b c mwh) (msz := msz) (mso := mso) (ex1 := ex b) (ro := rough b) (wh := va_cpy (whole a) (whole b) 0 0 c) hb d2 d4 (Or.inl ⟨c3, c4, fun d hd => (nw d hd).1⟩) (fun z160_4 => (fX11_done z160_4).bind (fun q35 => some (q35.1, cpy4 a b c parts, q35.2, cpy4 a b c mwh)))
                  rw [if_neg (show ¬ ex b = 0 by rw [c4]; exact n10), if_pos ti, bind_s, vu_s, vu_s, s1, bind_s, s2]
                  refine ⟨_, _, _, _, _, _, _, rfl, rfl, ⟨rfl, rfl⟩, fun q hq => ?_⟩
                  by_cases e : q = b
                  · subst e
                    rw [vu_s, vu_s]
                    exact Or.inr ⟨k2, d1, d2, d3, d4, Or.inl ⟨c3, c4, nw⟩⟩
                  · rw [vu_n e, vu_n e]
                    rcases hr q hq with q1 | ⟨k', b1, b2, b3, b4, b5⟩
                    · exact Or.inl q1
                    · refine Or.inr ⟨k', b1, b2, b3, b4, ?_⟩
                      rcases b5 with ⟨c1, c2, c3⟩ | ⟨c1, c2, c3⟩
                      · exact Or.inl ⟨c1, c2, fun d hd => by rw [off _ q d e (by omega)]; exact c3 d hd⟩
                      · exact Or.inr ⟨c1, c2, fun d hd => by rw [off _ q d e (by omega)]; exact c3 d hd⟩
                · obtain ⟨c1, c2, c6⟩ : mso a = 2 ∧ ex a = 0 ∧ ∀ d, d < k1 → rough a d = parts (4 * a + d) ∧ FG (parts (4 * a + d)) := by
                    rcases b5 with ⟨q, -⟩ | q
                    · rw [q, c3] at hs; exact absurd hs (by decide)
                    · exact q
                  have nw : ∀ d, d < k2 → va_cpy (rough a) (rough b) 0 0 c d = cpy4 a b c parts (4 * b + d) ∧ FG (cpy4 a b c parts (4 * b + d)) := fun d hd => by
                    rw [cpy4_at]
                    by_cases e : d < c
                    · rw [if_pos e, pk_cpy_in (by omega) (by omega), show 0 + (d - 0) = d by omega]
                      exact c6 d (by omega)
                    · rw [if_neg e, pk_cpy_out (by omega)]
                      exact c5 d hd
                  obtain ⟨s, s1, s2⟩ := rows_sum (parts := cpy4 a b c parts) (mwh := cpy4 a b c mwh) (msz := msz) (mso := mso) (ex1 := ex b) (ro := va_cpy (rough a) (rough b) 0 0 c) (wh := whole b) hb d2 d4 (Or.inr ⟨c3, c4, fun d hd => (nw d hd).1⟩) (fun z160_4 => (fX11_done z160_4).bind (fun q35 => some (q35.1, cpy4 a b c parts, q35.2, cpy4 a b c mwh)))
                  rw [if_pos (show ex b = 0 from c4), if_pos ti, bind_s, vu_s, vu_s, s1, bind_s, s2]
                  refine ⟨_, _, _, _, _, _, _, rfl, rfl, ⟨rfl, rfl⟩, fun q hq => ?_⟩
                  by_cases e : q = b
                  · subst e
                    rw [vu_s, vu_s]
                    exact Or.inr ⟨k2, d1, d2, d3, d4, Or.inr ⟨c3, c4, nw⟩⟩
                  · rw [vu_n e, vu_n e]
                    rcases hr q hq with q1 | ⟨k', b1, b2, b3, b4, b5⟩
                    · exact Or.inl q1
                    · refine Or.inr ⟨k', b1, b2, b3, b4, ?_⟩
                      rcases b5 with ⟨c1, c2, c3⟩ | ⟨c1, c2, c3⟩
                      · exact Or.inl ⟨c1, c2, fun d hd => by rw [off _ q d e (by omega)]; exact c3 d hd⟩
                      · exact Or.inr ⟨c1, c2, fun d hd => by rw [off _ q d e (by omega)]; exact c3 d hd⟩
              · rw [if_neg (nI_ge (show k2 < c by omega) (by omega)), if_neg (nI_ge (show k2 < c by omega) (by omega))]
                exact ⟨_, _, _, _, _, _, _, rfl, rfl, ⟨by decide +kernel, by decide +kernel⟩, hr⟩
            · rw [if_neg w1, if_pos rfl, if_pos w2]
              exact ⟨_, _, _, _, _, _, _, rfl, rfl, ⟨by decide +kernel, by decide +kernel⟩, hr⟩
            · have w4 : nI k1 < z := by
                rw [lt_nle]
                intro q
                exact w3 (by
                  rw [Int32.lt_iff_toInt_lt, nI_toInt (by omega)]
                  rw [Int32.le_iff_toInt_le, nI_toInt (by omega)] at q
                  omega)
              rw [if_neg w1, if_pos rfl, if_neg w2, if_pos w4]
              exact ⟨_, _, _, _, _, _, _, rfl, rfl, ⟨by decide +kernel, by decide +kernel⟩, hr⟩
          · rw [if_neg (fun q => hs (heq.mp q)), if_neg hs]
            exact ⟨_, _, _, _, _, _, _, rfl, rfl, ⟨by decide +kernel, by decide +kernel⟩, hr⟩
    · rw [if_neg hy, if_pos rfl, if_pos rfl]
      exact ⟨_, _, _, _, _, _, _, rfl, rfl, ⟨by decide +kernel, by decide +kernel⟩, hr⟩
  · rw [if_neg hx, if_pos rfl, if_pos rfl]
    exact ⟨_, _, _, _, _, _, _, rfl, rfl, ⟨by decide +kernel, by decide +kernel⟩, hr⟩
end RC
