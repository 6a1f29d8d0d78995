/-! floats: bits, normal numbers, halves and doubles, quotients -/
section FL
theorem f_tails : FP.Core.b32.tails = 8388608 := by decide
theorem f_exps : FP.Core.b32.exps = 256 := by decide
theorem f_qmin : FP.Core.b32.qmin = -149 := by decide
theorem f_qmax : FP.Core.b32.qmax = 104 := by decide
theorem f_p : FP.Core.b32.p = 24 := rfl
theorem log2_eq {n k : Nat} (h1 : 2 ^ k ≤ n) (h2 : n < 2 ^ (k + 1)) : n.log2 = k := by
  have hp : 0 < 2 ^ k := Nat.pow_pos (by decide)
  have a1 : 2 ^ n.log2 ≤ n := Nat.log2_self_le (by omega)
  have a2 : n < 2 ^ (n.log2 + 1) := Nat.lt_log2_self
  rcases Nat.lt_or_ge n.log2 k with h | h
  · have : 2 ^ (n.log2 + 1) ≤ 2 ^ k := Nat.pow_le_pow_right (by decide) h
    omega
  · rcases Nat.lt_or_ge k n.log2 with h3 | h3
    · have : 2 ^ (k + 1) ≤ 2 ^ n.log2 := Nat.pow_le_pow_right (by decide) h3
      omega
    · omega
/-- a normal number above 0 -/
def NF (x : UInt32) (E T : Nat) : Prop := x.toNat = E * 8388608 + T ∧ T < 8388608 ∧ 1 ≤ E ∧ E ≤ 254
theorem NF.dec {x : UInt32} {E T : Nat} (h : NF x E T) : FP.Core.decode FP.Core.b32 x.toNat = .fin false (8388608 + T) ((E : Int) - 150) := by
  obtain ⟨h, hT, h1, h2⟩ := h
  have fE : FP.Core.fieldE FP.Core.b32 x.toNat = E := by unfold FP.Core.fieldE; rw [f_tails, f_exps, h]; omega
  have fT : FP.Core.fieldT FP.Core.b32 x.toNat = T := by unfold FP.Core.fieldT; rw [f_tails, h]; omega
  have fS : FP.Core.fieldS FP.Core.b32 x.toNat = false := by
    unfold FP.Core.fieldS; rw [f_tails, f_exps, h, show (E * 8388608 + T) / 8388608 / 256 % 2 = 0 by omega]; rfl
  unfold FP.Core.decode
  rw [fE, fT, fS, f_exps, f_tails, f_qmin, if_neg (by omega), if_neg (by omega)]
  congr 1
  omega
theorem enc_fin {c : Nat} {q : Int} (h1 : 8388608 ≤ c) (h2 : c < 16777216) (h3 : -149 ≤ q) (h4 : q ≤ 104) : FP.Core.encode FP.Core.b32 (.fin false c q) = (q + 150).toNat * 8388608 + (c - 8388608) := by
  show (if c < FP.Core.b32.tails then FP.Core.assemble FP.Core.b32 false 0 c else FP.Core.assemble FP.Core.b32 false ((q - FP.Core.b32.qmin).toNat + 1) (c - FP.Core.b32.tails)) = _
  rw [f_tails, if_neg (by omega), f_qmin]
  show (0 * FP.Core.b32.exps + ((q - -149).toNat + 1)) * FP.Core.b32.tails + (c - 8388608) = _
  rw [f_tails, Nat.zero_mul, Nat.zero_add]
  omega
theorem ofN {n : Nat} (h : n < 4294967296) : (UInt32.ofNat n).toNat = n := by
  show n % 4294967296 = n
  omega
theorem of_fin {x : UInt32} {c : Nat} {q : Int} (h : x = .ofNat (FP.Core.encode FP.Core.b32 (.fin false c q))) (h1 : 8388608 ≤ c) (h2 : c < 16777216) (h3 : -149 ≤ q) (h4 : q ≤ 104) : NF x (q + 150).toNat (c - 8388608) := by
  rw [enc_fin h1 h2 h3 h4] at h
  refine ⟨?_, by omega, by omega, by omega⟩
  rw [h, ofN (by omega)]
theorem settle_in {c : Nat} {q : Int} (h2 : c < 16777216) (h4 : q ≤ 104) : FP.Core.settle FP.Core.b32 false c q = .fin false c q := by
  show (if c < 2 ^ FP.Core.b32.p then FP.Core.bound FP.Core.b32 false c q else _) = _
  rw [f_p, if_pos (by omega)]
  show (if q ≤ FP.Core.b32.qmax then _ else _) = _
  rw [f_qmax, if_pos h4]
theorem settle_up {c : Nat} {q : Int} (h2 : ¬ c < 16777216) (h4 : q + 1 ≤ 104) : FP.Core.settle FP.Core.b32 false c q = .fin false 8388608 (q + 1) := by
  show (if c < 2 ^ FP.Core.b32.p then _ else FP.Core.bound FP.Core.b32 false FP.Core.b32.tails (q + 1)) = _
  rw [f_p, if_neg (by omega), f_tails]
  show (if q + 1 ≤ FP.Core.b32.qmax then _ else _) = _
  rw [f_qmax, if_pos h4]
theorem nearest_b (A B : Nat) : A / B ≤ FP.Core.nearest A B ∧ FP.Core.nearest A B ≤ A / B + 1 := by
  unfold FP.Core.nearest
  split
  · omega
  · split
    · omega
    · omega
theorem nearest_m (M : Nat) {B : Nat} (hB : 0 < B) : FP.Core.nearest (M * B) B = M := by
  unfold FP.Core.nearest
  rw [Nat.mul_mod_left, if_pos (by omega), Nat.mul_div_cancel M hB]
/-- a quotient of two significands, rounded -/
theorem quot_rr {c d : Nat} {e : Int} (hc : 8388608 ≤ c) (hc2 : c < 16777216) (hd : 8388608 ≤ d) (hd2 : d < 16777216) (h1 : -120 ≤ e) (h2 : e ≤ 100) : ∃ m q, FP.Core.roundRatio FP.Core.b32 false c d e = .fin false m q ∧ 8388608 ≤ m ∧ m < 16777216 ∧ e - 24 ≤ q ∧ q ≤ e - 22 ∧ (d = 8388608 → m = c ∧ q = e - 23) := by
  have l1 : c.log2 = 23 := log2_eq (by omega) (by omega)
  have l2 : d.log2 = 23 := log2_eq (by omega) (by omega)
  unfold FP.Core.roundRatio
  rw [if_neg (by omega)]
  unfold FP.Core.roundAt FP.Core.quantum
  by_cases h : d ≤ c
  · have hl : FP.Core.leading c d = 0 := by
      unfold FP.Core.leading
      rw [l1, l2]
      exact if_pos (by show d * 1 ≤ c * 1; omega)
    have hq : max FP.Core.b32.qmin ((0 : Int) + e - ((FP.Core.b32.p : Int) - 1)) = e - 23 := by rw [f_qmin, f_p]; omega
    have hn : FP.Core.unitsNum c e (e - 23) = c * 8388608 := by unfold FP.Core.unitsNum; rw [show (e - (e - 23)).toNat = 23 by omega]
    have hm : FP.Core.unitsDen d e (e - 23) = d := by unfold FP.Core.unitsDen; rw [show (e - 23 - e).toNat = 0 by omega]; omega
    rw [hl, hq, hn, hm]
    have hb := nearest_b (c * 8388608) d
    have b1 : 8388608 ≤ c * 8388608 / d := (Nat.le_div_iff_mul_le (by omega)).mpr (by rw [Nat.mul_comm]; exact Nat.mul_le_mul_right _ h)
    have b2 : c * 8388608 / d < 16777216 := (Nat.div_lt_iff_lt_mul (by omega)).mpr (by omega)
    by_cases hs : FP.Core.nearest (c * 8388608) d < 16777216
    · rw [settle_in hs (by omega)]
      refine ⟨_, _, rfl, by omega, hs, by omega, by omega, fun q => ⟨?_, rfl⟩⟩
      subst q
      exact nearest_m c (by decide)
    · rw [settle_up hs (by omega)]
      refine ⟨_, _, rfl, by decide, by decide, by omega, by omega, fun q => ?_⟩
      subst q
      rw [nearest_m c (by decide)] at hs
      omega
  · have hl : FP.Core.leading c d = -1 := by
      unfold FP.Core.leading
      rw [l1, l2]
      exact if_neg (by show ¬ d * 1 ≤ c * 1; omega)
    have hq : max FP.Core.b32.qmin ((-1 : Int) + e - ((FP.Core.b32.p : Int) - 1)) = e - 24 := by rw [f_qmin, f_p]; omega
    have hn : FP.Core.unitsNum c e (e - 24) = c * 16777216 := by unfold FP.Core.unitsNum; rw [show (e - (e - 24)).toNat = 24 by omega]
    have hm : FP.Core.unitsDen d e (e - 24) = d := by unfold FP.Core.unitsDen; rw [show (e - 24 - e).toNat = 0 by omega]; omega
    rw [hl, hq, hn, hm]
    have hb := nearest_b (c * 16777216) d
    have b1 : 8388608 ≤ c * 16777216 / d := (Nat.le_div_iff_mul_le (by omega)).mpr (by omega)
    have b2 : c * 16777216 / d < 16777216 := (Nat.div_lt_iff_lt_mul (by omega)).mpr (by omega)
    by_cases hs : FP.Core.nearest (c * 16777216) d < 16777216
    · rw [settle_in hs (by omega)]
      exact ⟨_, _, rfl, by omega, hs, by omega, by omega, fun q => by omega⟩
    · rw [settle_up hs (by omega)]
      exact ⟨_, _, rfl, by decide, by decide, by omega, by omega, fun q => by omega⟩
/-- a significand times a power of two, rounded: as it is -/
theorem prod_rr {c k : Nat} {e : Int} (hc : 8388608 ≤ c) (hc2 : c < 16777216) (h1 : -149 ≤ e + k) (h2 : e + k ≤ 104) : FP.Core.roundRatio FP.Core.b32 false (c * 2 ^ k) 1 e = .fin false c (e + k) := by
  have hp : 0 < 2 ^ k := Nat.pow_pos (by decide)
  have l1 : (c * 2 ^ k).log2 = 23 + k := log2_eq (by rw [Nat.pow_add]; exact Nat.mul_le_mul_right _ (by omega)) (by rw [show 23 + k + 1 = 24 + k by omega, Nat.pow_add]; exact Nat.mul_lt_mul_of_pos_right (by omega) hp)
  have hpos : ¬ c * 2 ^ k = 0 := Nat.ne_of_gt (Nat.mul_pos (by omega) hp)
  unfold FP.Core.roundRatio
  rw [if_neg hpos]
  unfold FP.Core.roundAt FP.Core.quantum
  have hl : FP.Core.leading (c * 2 ^ k) 1 = 23 + k := by
    unfold FP.Core.leading
    rw [l1, show Nat.log2 1 = 0 by decide]
    have e1 : (((23 + k : Nat) : Int) - ((0 : Nat) : Int)).toNat = 23 + k := by omega
    have e2 : (-(((23 + k : Nat) : Int) - ((0 : Nat) : Int))).toNat = 0 := by omega
    dsimp only
    rw [e1, e2, if_pos]
    · omega
    · rw [Nat.pow_add, Nat.one_mul, Nat.pow_zero, Nat.mul_one]
      exact Nat.mul_le_mul_right _ (by omega)
  have hq : max FP.Core.b32.qmin ((23 + (k : Int)) + e - ((FP.Core.b32.p : Int) - 1)) = e + k := by rw [f_qmin, f_p]; omega
  have hn : FP.Core.unitsNum (c * 2 ^ k) e (e + k) = c * 2 ^ k := by unfold FP.Core.unitsNum; rw [show (e - (e + k)).toNat = 0 by omega]; omega
  have hm : FP.Core.unitsDen 1 e (e + k) = 2 ^ k := by unfold FP.Core.unitsDen; rw [show (e + (k : Int) - e).toNat = k by omega, Nat.one_mul]
  rw [hl, hq, hn, hm, nearest_m c hp, settle_in hc2 h2]
/-- what is not below 0 and not NaN -/
def NN (x : UInt32) : Prop := x.toNat ≤ 2139095040
theorem NN.nN {x : UInt32} (h : NN x) : nN x := by
  have h : x.toNat ≤ 2139095040 := h
  show x &&& 0x7fffffff ≤ 0x7f800000
  rw [UInt32.le_iff_toNat_le, UInt32.toNat_and]
  show x.toNat &&& 2147483647 ≤ 2139095040
  exact Nat.le_trans Nat.and_le_left h
theorem NF.nn {x : UInt32} {E T : Nat} (h : NF x E T) : NN x := by
  obtain ⟨h, hT, h1, h2⟩ := h
  show x.toNat ≤ 2139095040
  omega
theorem nn_0 : NN FP.fconst0 := by unfold NN; decide
theorem enc_bound {c : Nat} {q : Int} (hc : c < 16777216) : FP.Core.encode FP.Core.b32 (FP.Core.bound FP.Core.b32 false c q) ≤ 2139095040 := by
  unfold FP.Core.bound
  rw [f_qmax]
  by_cases h : q ≤ 104
  · rw [if_pos h]
    show (if c < FP.Core.b32.tails then FP.Core.assemble FP.Core.b32 false 0 c else FP.Core.assemble FP.Core.b32 false ((q - FP.Core.b32.qmin).toNat + 1) (c - FP.Core.b32.tails)) ≤ _
    rw [f_tails, f_qmin]
    by_cases h2 : c < 8388608
    · rw [if_pos h2]
      show (0 * FP.Core.b32.exps + 0) * FP.Core.b32.tails + c ≤ _
      rw [Nat.zero_mul, Nat.zero_add, Nat.zero_mul]
      omega
    · rw [if_neg h2]
      show (0 * FP.Core.b32.exps + ((q - -149).toNat + 1)) * FP.Core.b32.tails + (c - 8388608) ≤ _
      rw [f_tails, Nat.zero_mul, Nat.zero_add]
      omega
  · rw [if_neg h]
    decide
theorem enc_rr {A B : Nat} {e : Int} : FP.Core.encode FP.Core.b32 (FP.Core.roundRatio FP.Core.b32 false A B e) ≤ 2139095040 := by
  unfold FP.Core.roundRatio
  by_cases h : A = 0
  · rw [if_pos h]; decide
  · rw [if_neg h]
    unfold FP.Core.roundAt FP.Core.settle
    rw [f_p]
    split
    · exact enc_bound (by omega)
    · exact enc_bound (by rw [f_tails]; decide)
theorem NN.dec {x : UInt32} (h : NN x) : (FP.Core.decode FP.Core.b32 x.toNat = .inf false) ∨ ∃ c q, FP.Core.decode FP.Core.b32 x.toNat = .fin false c q := by
  have h : x.toNat ≤ 2139095040 := h
  have fS : FP.Core.fieldS FP.Core.b32 x.toNat = false := by
    unfold FP.Core.fieldS; rw [f_tails, f_exps, show x.toNat / 8388608 / 256 % 2 = 0 by omega]; rfl
  have fE : FP.Core.fieldE FP.Core.b32 x.toNat = x.toNat / 8388608 % 256 := by unfold FP.Core.fieldE; rw [f_tails, f_exps]
  have fT : FP.Core.fieldT FP.Core.b32 x.toNat = x.toNat % 8388608 := by unfold FP.Core.fieldT; rw [f_tails]
  unfold FP.Core.decode
  rw [fS, fE, fT, f_exps]
  by_cases h1 : x.toNat / 8388608 % 256 = 256 - 1
  · rw [if_pos h1, if_pos (by omega)]
    exact Or.inl rfl
  · rw [if_neg h1]
    split
    · exact Or.inr ⟨_, _, rfl⟩
    · exact Or.inr ⟨_, _, rfl⟩
theorem nn_of {n : Nat} {x : UInt32} (hx : x = .ofNat n) (h : n ≤ 2139095040) : NN x := by
  show x.toNat ≤ 2139095040
  rw [hx, ofN (by omega)]
  exact h
theorem nn_add {x y : UInt32} (hx : NN x) (hy : NN y) : NN (FP.fadd x y) := by
  refine nn_of (n := FP.Core.add FP.Core.b32 x.toNat y.toNat) rfl ?_
  unfold FP.Core.add
  rcases hx.dec with e1 | ⟨c, q, e1⟩ <;> rcases hy.dec with e2 | ⟨d, r, e2⟩ <;> rw [e1, e2]
  · decide
  · show FP.Core.encode FP.Core.b32 (.inf false) ≤ _; decide
  · show FP.Core.encode FP.Core.b32 (.inf false) ≤ _; decide
  · show FP.Core.encode FP.Core.b32 (FP.Core.roundRatio FP.Core.b32 (FP.Core.sumSign false false (FP.Core.sumUnits false c q false d r (min q r))) _ 1 _) ≤ _
    have hs : FP.Core.sumSign false false (FP.Core.sumUnits false c q false d r (min q r)) = false := by
      unfold FP.Core.sumSign
      split
      · rfl
      · apply decide_eq_false
        show ¬ ((FP.Core.inUnits c q (min q r) : Nat) : Int) + ((FP.Core.inUnits d r (min q r) : Nat) : Int) < 0
        omega
    rw [hs]
    exact enc_rr
theorem nn_div {x y : UInt32} {E T : Nat} (hx : NN x) (hy : NF y E T) : NN (FP.fdiv x y) := by
  refine nn_of (n := FP.Core.div FP.Core.b32 x.toNat y.toNat) rfl ?_
  unfold FP.Core.div
  rw [hy.dec]
  rcases hx.dec with e1 | ⟨c, q, e1⟩ <;> rw [e1]
  · show FP.Core.encode FP.Core.b32 (.inf false) ≤ _; decide
  · show FP.Core.encode FP.Core.b32 (if 8388608 + T = 0 then _ else FP.Core.roundRatio FP.Core.b32 false c (8388608 + T) _) ≤ _
    rw [if_neg (by omega)]
    exact enc_rr
end FL
