/-! the bits of a float, by the class and by the reference -/
section FB
theorem nf_2 : NF FP.fconst2 128 0 := ⟨by decide, by decide, by decide, by decide⟩
theorem nf_1 : NF FP.fconst1 127 0 := ⟨by decide, by decide, by decide, by decide⟩
theorem nf_8M : NF (1258291200 : UInt32) 150 0 := ⟨by decide, by decide, by decide, by decide⟩
theorem NF.cg {x : UInt32} {E T E' T' : Nat} (h : NF x E T) (h1 : E = E') (h2 : T = T') : NF x E' T' := by
  subst h1; subst h2; exact h
theorem nf_half {x : UInt32} {E T : Nat} (h : NF x E T) (h1 : 50 ≤ E) (h2 : E ≤ 200) : NF (FP.fdiv x FP.fconst2) (E - 1) T := by
  obtain ⟨m, q, e1, e2, e3, -, -, e4⟩ := quot_rr (c := 8388608 + T) (d := 8388608 + 0) (e := (E : Int) - 150 - (((128 : Nat) : Int) - 150)) (by omega) (by have := h.2.1; omega) (by decide) (by decide) (by omega) (by omega)
  obtain ⟨rfl, rfl⟩ := e4 rfl
  have key : FP.fdiv x FP.fconst2 = .ofNat (FP.Core.encode FP.Core.b32 (.fin false (8388608 + T) ((E : Int) - 150 - (((128 : Nat) : Int) - 150) - 23))) := by
    show UInt32.ofNat (FP.Core.encode FP.Core.b32 (FP.Core.quotient FP.Core.b32 (FP.Core.decode FP.Core.b32 x.toNat) (FP.Core.decode FP.Core.b32 FP.fconst2.toNat))) = _
    rw [h.dec, nf_2.dec]
    show UInt32.ofNat (FP.Core.encode FP.Core.b32 (if 8388608 + 0 = 0 then (if 8388608 + T = 0 then FP.Core.Datum.nan else FP.Core.Datum.inf (false != false)) else FP.Core.roundRatio FP.Core.b32 (false != false) (8388608 + T) (8388608 + 0) ((E : Int) - 150 - (((128 : Nat) : Int) - 150)))) = _
    rw [if_neg (by decide), show (false != false) = false from rfl, e1]
  exact (of_fin key e2 e3 (by omega) (by omega)).cg (by omega) (by omega)
theorem nf_mul {x y : UInt32} {E T F : Nat} (h : NF x E T) (hy : NF y F 0) (h1 : 50 ≤ E) (h2 : E ≤ 180) (h3 : 100 ≤ F) (h4 : F ≤ 160) : NF (FP.fmul x y) (E + F - 127) T := by
  have hT := h.2.1
  have key : FP.fmul x y = .ofNat (FP.Core.encode FP.Core.b32 (.fin false (8388608 + T) ((E : Int) - 150 + ((F : Int) - 150) + ((23 : Nat) : Int)))) := by
    show UInt32.ofNat (FP.Core.encode FP.Core.b32 (FP.Core.round FP.Core.b32 (FP.Core.exactProduct (FP.Core.decode FP.Core.b32 x.toNat) (FP.Core.decode FP.Core.b32 y.toNat)))) = _
    rw [h.dec, hy.dec]
    show UInt32.ofNat (FP.Core.encode FP.Core.b32 (FP.Core.roundRatio FP.Core.b32 (false != false) ((8388608 + T) * (8388608 + 0)) 1 ((E : Int) - 150 + ((F : Int) - 150)))) = _
    rw [show (false != false) = false from rfl, show (8388608 + T) * (8388608 + 0) = (8388608 + T) * 2 ^ 23 from rfl, prod_rr (c := 8388608 + T) (k := 23) (by omega) (by omega) (by omega) (by omega)]
  exact (of_fin key (by omega) (by omega) (by omega) (by omega)).cg (by omega) (by omega)
theorem cmpI (a b : Int) : compare a b = (if a < b then Ordering.lt else if a = b then Ordering.eq else Ordering.gt) := rfl
theorem fcmp_lt {x y : UInt32} {E T F : Nat} (h : NF x E T) (hy : NF y F 0) (hE : E < F) : FP.fcmp x y = some .lt := by
  have hT := h.2.1
  show FP.Core.order (FP.Core.decode FP.Core.b32 x.toNat) (FP.Core.decode FP.Core.b32 y.toNat) = _
  rw [h.dec, hy.dec]
  show some (compare ((FP.Core.inUnits (8388608 + T) ((E : Int) - 150) (min ((E : Int) - 150) ((F : Int) - 150)) : Nat) : Int) ((FP.Core.inUnits (8388608 + 0) ((F : Int) - 150) (min ((E : Int) - 150) ((F : Int) - 150)) : Nat) : Int)) = _
  unfold FP.Core.inUnits
  rw [show min ((E : Int) - 150) ((F : Int) - 150) = (E : Int) - 150 by omega, show ((E : Int) - 150 - ((E : Int) - 150)).toNat = 0 by omega, show ((F : Int) - 150 - ((E : Int) - 150)).toNat = (F - E - 1) + 1 by omega, Nat.pow_succ, Nat.pow_zero, cmpI, if_pos]
  have hp : 0 < 2 ^ (F - E - 1) := Nat.pow_pos (by decide)
  generalize 2 ^ (F - E - 1) = z at hp ⊢
  omega
theorem fcmp_ge {x y : UInt32} {E T F : Nat} (h : NF x E T) (hy : NF y F 0) (hE : F ≤ E) : FP.fcmp x y = some .eq ∨ FP.fcmp x y = some .gt := by
  have e0 : FP.fcmp x y = FP.Core.order (FP.Core.decode FP.Core.b32 x.toNat) (FP.Core.decode FP.Core.b32 y.toNat) := rfl
  rw [e0, h.dec, hy.dec]
  show some (compare ((FP.Core.inUnits (8388608 + T) ((E : Int) - 150) (min ((E : Int) - 150) ((F : Int) - 150)) : Nat) : Int) ((FP.Core.inUnits (8388608 + 0) ((F : Int) - 150) (min ((E : Int) - 150) ((F : Int) - 150)) : Nat) : Int)) = _ ∨ some (compare ((FP.Core.inUnits (8388608 + T) ((E : Int) - 150) (min ((E : Int) - 150) ((F : Int) - 150)) : Nat) : Int) ((FP.Core.inUnits (8388608 + 0) ((F : Int) - 150) (min ((E : Int) - 150) ((F : Int) - 150)) : Nat) : Int)) = _
  unfold FP.Core.inUnits
  rw [show min ((E : Int) - 150) ((F : Int) - 150) = (F : Int) - 150 by omega, show ((F : Int) - 150 - ((F : Int) - 150)).toNat = 0 by omega, show ((E : Int) - 150 - ((F : Int) - 150)).toNat = E - F by omega, Nat.pow_zero, cmpI]
  have hp : 0 < 2 ^ (E - F) := Nat.pow_pos (by decide)
  have hle : (8388608 + 0) * 1 ≤ (8388608 + T) * 2 ^ (E - F) := Nat.mul_le_mul (by omega) hp
  generalize (8388608 + T) * 2 ^ (E - F) = z at hle ⊢
  rw [if_neg (by omega)]
  by_cases hz : (z : Int) = (((8388608 + 0) * 1 : Nat) : Int)
  · rw [if_pos hz]; exact Or.inl rfl
  · rw [if_neg hz]; exact Or.inr rfl
theorem fcmp_0 {x : UInt32} {E T : Nat} (h : NF x E T) : FP.fcmp x FP.fconst0 = some .gt := by
  have e0 : FP.fcmp x FP.fconst0 = FP.Core.order (FP.Core.decode FP.Core.b32 x.toNat) (FP.Core.decode FP.Core.b32 FP.fconst0.toNat) := rfl
  rw [e0, h.dec, show FP.Core.decode FP.Core.b32 FP.fconst0.toNat = .fin false 0 (-149) by decide]
  show some (compare ((FP.Core.inUnits (8388608 + T) ((E : Int) - 150) (min ((E : Int) - 150) (-149)) : Nat) : Int) ((FP.Core.inUnits 0 (-149) (min ((E : Int) - 150) (-149)) : Nat) : Int)) = _
  unfold FP.Core.inUnits
  have hp : 0 < 2 ^ ((E : Int) - 150 - min ((E : Int) - 150) (-149)).toNat := Nat.pow_pos (by decide)
  have hle : 0 < (8388608 + T) * 2 ^ ((E : Int) - 150 - min ((E : Int) - 150) (-149)).toNat := Nat.mul_pos (by omega) hp
  rw [Nat.zero_mul, cmpI, if_neg (by omega), if_neg (by omega)]
theorem bits_L15 (kf : UInt32 → Int32 → Option Int32) : ∀ (d E i T n : Nat) (x : UInt32), NF x E T → E = 127 + d → d ≤ 60 → i + d ≤ 60 → d < n → ∃ y, NF y 127 T ∧ fX5_bitsOf_L15 n kf x (nI (127 + i)) (nI i) = kf y (nI (127 + i + d))
  | 0, E, i, T, n, x, h, hE, hd, hi, hn => by
    obtain ⟨n, rfl⟩ : ∃ t, n = t + 1 := ⟨n - 1, by omega⟩
    refine ⟨x, h.cg hE rfl, ?_⟩
    rw [fX5_bitsOf_L15, if_neg (show ¬ (126 : Int32) ≤ nI i from nI_ge (show i < 126 by omega) (by decide)), fcmp_lt h nf_2 (by omega), if_pos (by decide)]
    rfl
  | d + 1, E, i, T, n, x, h, hE, hd, hi, hn => by
    obtain ⟨n, rfl⟩ : ∃ t, n = t + 1 := ⟨n - 1, by omega⟩
    have hh := nf_half h (by omega) (by omega)
    obtain ⟨y, h1, h2⟩ := bits_L15 kf d (E - 1) (i + 1) T n _ hh (by omega) (by omega) (by omega) (by omega)
    refine ⟨y, h1, ?_⟩
    rw [fX5_bitsOf_L15, if_neg (show ¬ (126 : Int32) ≤ nI i from nI_ge (show i < 126 by omega) (by decide)), if_neg (by rcases fcmp_ge h nf_2 (by omega) with e | e <;> rw [e] <;> decide), if_pos hh.nn.nN, nI_1, nI_1]
    show fX5_bitsOf_L15 n kf _ (nI (127 + i + 1)) (nI (i + 1)) = _
    rw [show 127 + i + 1 = 127 + (i + 1) by omega, h2]
    congr 2
    omega
theorem bits_L42 (kf : UInt32 → Int32 → Option Int32) : ∀ (d E i T n b : Nat) (x : UInt32), NF x E T → E + d = 127 → d ≤ 60 → i + d ≤ 60 → d < n → d ≤ b → ∃ y, NF y 127 T ∧ fX5_bitsOf_L42 n kf x (nI b) (nI i) = kf y (nI (b - d))
  | 0, E, i, T, n, b, x, h, hE, hd, hi, hn, hb => by
    obtain ⟨n, rfl⟩ : ∃ t, n = t + 1 := ⟨n - 1, by omega⟩
    refine ⟨x, h.cg hE rfl, ?_⟩
    rw [fX5_bitsOf_L42, if_neg (show ¬ (126 : Int32) ≤ nI i from nI_ge (show i < 126 by omega) (by decide)), if_pos (by rcases fcmp_ge h nf_1 (by omega) with e | e <;> rw [e] <;> decide)]
    rfl
  | d + 1, E, i, T, n, b, x, h, hE, hd, hi, hn, hb => by
    obtain ⟨n, rfl⟩ : ∃ t, n = t + 1 := ⟨n - 1, by omega⟩
    obtain ⟨b, rfl⟩ : ∃ t, b = t + 1 := ⟨b - 1, by omega⟩
    have hh := nf_mul h nf_2 (by omega) (by omega) (by decide) (by decide)
    obtain ⟨y, h1, h2⟩ := bits_L42 kf d (E + 128 - 127) (i + 1) T n b _ hh (by omega) (by omega) (by omega) (by omega) (by omega)
    refine ⟨y, h1, ?_⟩
    rw [fX5_bitsOf_L42, if_neg (show ¬ (126 : Int32) ≤ nI i from nI_ge (show i < 126 by omega) (by decide)), fcmp_lt h nf_1 (by omega), if_neg (by decide), if_pos hh.nn.nN, nI_1, pk_m1, h2, show b + 1 - (d + 1) = b - d by omega]
/-- a whole number with a power of two, rounded: as it is -/
theorem whole_rr {k : Nat} {e : Int} (h0 : 1 ≤ k) (h1 : k < 16777216) (he : -120 ≤ e) (he2 : e ≤ 100) : ∃ L : Nat, L ≤ 23 ∧ 8388608 ≤ k * 2 ^ (23 - L) ∧ k * 2 ^ (23 - L) < 16777216 ∧ FP.Core.roundRatio FP.Core.b32 false k 1 e = .fin false (k * 2 ^ (23 - L)) ((L : Int) - 23 + e) := by
  have a1 : 2 ^ k.log2 ≤ k := Nat.log2_self_le (by omega)
  have a2 : k < 2 ^ (k.log2 + 1) := Nat.lt_log2_self
  have hL : k.log2 ≤ 23 := by
    rcases Nat.lt_or_ge 23 k.log2 with h | h
    · have : 2 ^ (23 + 1) ≤ 2 ^ k.log2 := Nat.pow_le_pow_right (by decide) h
      omega
    · exact h
  have hl : FP.Core.leading k 1 = (k.log2 : Int) := by
    unfold FP.Core.leading
    rw [show Nat.log2 1 = 0 by decide]
    generalize k.log2 = L at a1 a2 hL ⊢
    have e1 : ((L : Int) - ((0 : Nat) : Int)).toNat = L := by omega
    have e2 : (-((L : Int) - ((0 : Nat) : Int))).toNat = 0 := by omega
    dsimp only
    rw [e1, e2, if_pos]
    · omega
    · rw [Nat.one_mul, Nat.pow_zero, Nat.mul_one]; exact a1
  generalize k.log2 = L at a1 a2 hL hl
  have hp : 0 < 2 ^ (23 - L) := Nat.pow_pos (by decide)
  have hc1 : 8388608 ≤ k * 2 ^ (23 - L) := by
    have : 2 ^ L * 2 ^ (23 - L) ≤ k * 2 ^ (23 - L) := Nat.mul_le_mul_right _ a1
    rw [← Nat.pow_add, show L + (23 - L) = 23 by omega] at this
    exact this
  have hc2 : k * 2 ^ (23 - L) < 16777216 := by
    have : k * 2 ^ (23 - L) < 2 ^ (L + 1) * 2 ^ (23 - L) := Nat.mul_lt_mul_of_pos_right a2 hp
    rw [← Nat.pow_add, show L + 1 + (23 - L) = 24 by omega] at this
    exact this
  refine ⟨L, hL, hc1, hc2, ?_⟩
  unfold FP.Core.roundRatio
  rw [if_neg (by omega)]
  unfold FP.Core.roundAt FP.Core.quantum
  have hq : max FP.Core.b32.qmin ((L : Int) + e - ((FP.Core.b32.p : Int) - 1)) = (L : Int) - 23 + e := by rw [f_qmin, f_p]; omega
  have hn : FP.Core.unitsNum k e ((L : Int) - 23 + e) = k * 2 ^ (23 - L) := by unfold FP.Core.unitsNum; rw [show (e - ((L : Int) - 23 + e)).toNat = 23 - L by omega]
  have hm : FP.Core.unitsDen 1 e ((L : Int) - 23 + e) = 1 := by unfold FP.Core.unitsDen; rw [show ((L : Int) - 23 + e - e).toNat = 0 by omega]
  rw [hl, hq, hn, hm]
  have := nearest_m (k * 2 ^ (23 - L)) (show 0 < 1 by decide)
  rw [Nat.mul_one] at this
  rw [this, settle_in hc2 (by omega)]
/-- what is behind the point of a number from 1 to 2 -/
theorem sub_one {y : UInt32} {T : Nat} (h : NF y 127 T) : (T = 0 ∧ FP.fsub y FP.fconst1 = FP.fconst0) ∨ ∃ k, k ≤ 23 ∧ 8388608 ≤ T * 2 ^ k ∧ T * 2 ^ k < 16777216 ∧ NF (FP.fsub y FP.fconst1) (127 - k) (T * 2 ^ k - 8388608) := by
  have hT := h.2.1
  have hv : FP.Core.sumUnits false (8388608 + T) (((127 : Nat) : Int) - 150) true (8388608 + 0) (((127 : Nat) : Int) - 150) (min (((127 : Nat) : Int) - 150) (((127 : Nat) : Int) - 150)) = (T : Int) := by
    show ((FP.Core.inUnits (8388608 + T) (((127 : Nat) : Int) - 150) (min (((127 : Nat) : Int) - 150) (((127 : Nat) : Int) - 150)) : Nat) : Int) + -((FP.Core.inUnits (8388608 + 0) (((127 : Nat) : Int) - 150) (min (((127 : Nat) : Int) - 150) (((127 : Nat) : Int) - 150)) : Nat) : Int) = _
    unfold FP.Core.inUnits
    rw [show (((127 : Nat) : Int) - 150 - min (((127 : Nat) : Int) - 150) (((127 : Nat) : Int) - 150)).toNat = 0 by decide, Nat.pow_zero]
    omega
  have hs : FP.Core.sumSign false true (T : Int) = false := by
    unfold FP.Core.sumSign
    split
    · rfl
    · exact decide_eq_false (by omega)
  have key : FP.fsub y FP.fconst1 = .ofNat (FP.Core.encode FP.Core.b32 (FP.Core.roundRatio FP.Core.b32 false T 1 (-23))) := by
    show UInt32.ofNat (FP.Core.encode FP.Core.b32 (FP.Core.round FP.Core.b32 (FP.Core.exactSum (FP.Core.decode FP.Core.b32 y.toNat) (FP.Core.negate (FP.Core.decode FP.Core.b32 FP.fconst1.toNat))))) = _
    rw [h.dec, nf_1.dec]
    show UInt32.ofNat (FP.Core.encode FP.Core.b32 (FP.Core.roundRatio FP.Core.b32 (FP.Core.sumSign false true (FP.Core.sumUnits false (8388608 + T) (((127 : Nat) : Int) - 150) true (8388608 + 0) (((127 : Nat) : Int) - 150) (min (((127 : Nat) : Int) - 150) (((127 : Nat) : Int) - 150)))) (FP.Core.sumUnits false (8388608 + T) (((127 : Nat) : Int) - 150) true (8388608 + 0) (((127 : Nat) : Int) - 150) (min (((127 : Nat) : Int) - 150) (((127 : Nat) : Int) - 150))).natAbs 1 (min (((127 : Nat) : Int) - 150) (((127 : Nat) : Int) - 150)))) = _
    rw [hv, hs, Int.natAbs_natCast, show min (((127 : Nat) : Int) - 150) (((127 : Nat) : Int) - 150) = -23 by decide]
  rcases Nat.eq_zero_or_pos T with rfl | h0
  · refine Or.inl ⟨rfl, ?_⟩
    rw [key]
    decide
  · obtain ⟨L, l1, l2, l3, l4⟩ := whole_rr (e := -23) h0 (by omega) (by decide) (by decide)
    rw [l4] at key
    exact Or.inr ⟨23 - L, by omega, l2, l3, (of_fin key l2 l3 (by omega) (by omega)).cg (by omega) rfl⟩
theorem f2i_k {x : UInt32} {T k : Nat} (hT : T < 8388608) (hk : k ≤ 23) (h1 : 8388608 ≤ T * 2 ^ k) (h : NF x (150 - k) (T * 2 ^ k - 8388608)) : FP.f2i x = nI T := by
  show FP.Core.toI (FP.Core.decode FP.Core.b32 x.toNat) = _
  rw [h.dec]
  show Int32.ofInt (max (-2 ^ 31) (min (2 ^ 31 - 1) (((8388608 + (T * 2 ^ k - 8388608)) * 2 ^ (((150 - k : Nat) : Int) - 150).toNat / 2 ^ (-(((150 - k : Nat) : Int) - 150)).toNat : Nat) : Int))) = _
  rw [show (((150 - k : Nat) : Int) - 150).toNat = 0 by omega, show (-(((150 - k : Nat) : Int) - 150)).toNat = k by omega, show 8388608 + (T * 2 ^ k - 8388608) = T * 2 ^ k by omega, Nat.pow_zero, Nat.mul_one, Nat.mul_div_cancel T (Nat.pow_pos (by decide)), show max (-2 ^ 31 : Int) (min (2 ^ 31 - 1) ((T : Nat) : Int)) = ((T : Nat) : Int) by omega, Int32.ofInt_eq_ofNat]
  rfl
theorem frac {y : UInt32} {T : Nat} (h : NF y 127 T) : nN (FP.fsub y FP.fconst1) ∧ nN (FP.fmul (FP.fsub y FP.fconst1) (1258291200 : UInt32)) ∧ FP.f2i (FP.fmul (FP.fsub y FP.fconst1) (1258291200 : UInt32)) = nI T := by
  rcases sub_one h with ⟨rfl, e⟩ | ⟨k, k1, k2, k3, hz⟩
  · rw [e]
    decide
  · have hm := (nf_mul hz nf_8M (by omega) (by omega) (by decide) (by decide)).cg (show 127 - k + 150 - 127 = 150 - k by omega) rfl
    exact ⟨hz.nn.nN, hm.nn.nN, f2i_k h.2.1 k1 k2 hm⟩
theorem shl23 : ∀ E : Fin 256, nI E.val <<< ((23 : Int32) &&& 31) = nI (E.val * 8388608) := by decide +kernel
theorem toI32 {x : UInt32} {n : Nat} (h : x.toNat = n) : UInt32.toInt32 x = nI n := by
  subst h
  show UInt32.toInt32 x = (UInt32.ofNat x.toNat).toInt32
  rw [UInt32.ofNat_toNat]
theorem pX5_bitsOf {x : UInt32} {E T : Nat} (h : NF x E T) (h1 : 100 ≤ E) (h2 : E ≤ 160) : fX5_bitsOf x = some (UInt32.toInt32 x) := by
  have hT := h.2.1
  rw [fX5_bitsOf, fcmp_0 h, if_pos (by decide), toI32 h.1]
  have fin : ∀ {y : UInt32}, NF y 127 T → (if nN (FP.fsub y FP.fconst1) then (if nN (FP.fmul (FP.fsub y FP.fconst1) (1258291200 : UInt32)) then dc_nm (FP.f2i (FP.fmul (FP.fsub y FP.fconst1) (1258291200 : UInt32))) (fun n10 => some ((nI E <<< ((23 : Int32) &&& 31)) + n10)) else none) else none) = some (nI (E * 8388608 + T)) := fun {y} hy => by
    obtain ⟨g1, g2, g3⟩ := frac hy
    rw [if_pos g1, if_pos g2, g3]
    show some ((nI E <<< ((23 : Int32) &&& 31)) + nI T) = _
    rw [show nI E <<< ((23 : Int32) &&& 31) = nI (E * 8388608) from shl23 ⟨E, by omega⟩, nI_add]
  rcases Nat.lt_or_ge E 127 with hE | hE
  · obtain ⟨y, y1, y2⟩ := bits_L42 (fun z42_1 z42_2 => (if nN (FP.fsub z42_1 FP.fconst1) then (if nN (FP.fmul (FP.fsub z42_1 FP.fconst1) (1258291200 : UInt32)) then dc_nm (FP.f2i (FP.fmul (FP.fsub z42_1 FP.fconst1) (1258291200 : UInt32))) (fun n10 => some ((z42_2 <<< ((23 : Int32) &&& 31)) + n10)) else none) else none)) (127 - E) E 0 T 1000000 127 x h (by omega) (by omega) (by omega) (by omega) (by omega)
    rw [fX5_bitsOf_L15, if_neg (show ¬ (126 : Int32) ≤ 0 by decide), fcmp_lt h nf_2 (by omega), if_pos (by decide), show fX5_bitsOf_L42 1000000 _ x 127 0 = _ from y2, show 127 - (127 - E) = E by omega]
    exact fin y1
  · obtain ⟨y, y1, y2⟩ := bits_L15 (fun z15_1 z15_2 => fX5_bitsOf_L42 1000000 (fun z42_1 z42_2 => (if nN (FP.fsub z42_1 FP.fconst1) then (if nN (FP.fmul (FP.fsub z42_1 FP.fconst1) (1258291200 : UInt32)) then dc_nm (FP.f2i (FP.fmul (FP.fsub z42_1 FP.fconst1) (1258291200 : UInt32))) (fun n10 => some ((z42_2 <<< ((23 : Int32) &&& 31)) + n10)) else none) else none)) z15_1 z15_2 (0 : Int32)) (E - 127) E 0 T 1000000 x h (by omega) (by omega) (by omega) (by omega)
    obtain ⟨w, w1, w2⟩ := bits_L42 (fun z42_1 z42_2 => (if nN (FP.fsub z42_1 FP.fconst1) then (if nN (FP.fmul (FP.fsub z42_1 FP.fconst1) (1258291200 : UInt32)) then dc_nm (FP.f2i (FP.fmul (FP.fsub z42_1 FP.fconst1) (1258291200 : UInt32))) (fun n10 => some ((z42_2 <<< ((23 : Int32) &&& 31)) + n10)) else none) else none)) 0 127 0 T 1000000 (127 + 0 + (E - 127)) y y1 (by omega) (by omega) (by omega) (by omega) (by omega)
    rw [show fX5_bitsOf_L15 1000000 _ x 127 0 = _ from y2, show fX5_bitsOf_L42 1000000 _ y (nI (127 + 0 + (E - 127))) 0 = _ from w2, show 127 + 0 + (E - 127) - 0 = E by omega]
    exact fin w1
theorem pX5_bitsOf_0 : fX5_bitsOf FP.fconst0 = some (UInt32.toInt32 FP.fconst0) := by
  have e : Op.cmpValue (FP.fcmp FP.fconst0 FP.fconst0) CmpOp.g = 0 := by decide
  rw [fX5_bitsOf, e, if_neg (by decide)]
  rfl
theorem pX11_floatBits {x : UInt32} (h : NN x) : fJxf58ca_floatToIntBits_5c35a x = some (UInt32.toInt32 x) := by
  have e : FP.fcmp x x = some .eq := by
    have e0 : FP.fcmp x x = FP.Core.order (FP.Core.decode FP.Core.b32 x.toNat) (FP.Core.decode FP.Core.b32 x.toNat) := rfl
    rw [e0]
    rcases h.dec with e1 | ⟨c, q, e1⟩
    · rw [e1]; decide
    · rw [e1]
      show some (compare _ _) = _
      rw [cmpI, if_neg (by omega), if_pos rfl]
  rw [fJxf58ca_floatToIntBits_5c35a, fJxf58ca_isNaN_12338, e, if_pos (by decide), bind_s, if_pos rfl]
/-- whole numbers as floats -/
theorem nf_int {k : Nat} (h0 : 1 ≤ k) (h1 : k < 16777216) : ∃ L T, L ≤ 23 ∧ 2 ^ L ≤ k ∧ k < 2 ^ (L + 1) ∧ NF (FP.i2f (nI k)) (127 + L) T := by
  have a1 : 2 ^ k.log2 ≤ k := Nat.log2_self_le (by omega)
  have a2 : k < 2 ^ (k.log2 + 1) := Nat.lt_log2_self
  have hL : k.log2 ≤ 23 := by
    rcases Nat.lt_or_ge 23 k.log2 with h | h
    · have : 2 ^ (23 + 1) ≤ 2 ^ k.log2 := Nat.pow_le_pow_right (by decide) h
      omega
    · exact h
  have hl : FP.Core.leading k 1 = (k.log2 : Int) := by
    unfold FP.Core.leading
    rw [show Nat.log2 1 = 0 by decide]
    generalize k.log2 = L at a1 a2 hL ⊢
    have e1 : ((L : Int) - ((0 : Nat) : Int)).toNat = L := by omega
    have e2 : (-((L : Int) - ((0 : Nat) : Int))).toNat = 0 := by omega
    dsimp only
    rw [e1, e2, if_pos]
    · omega
    · rw [Nat.one_mul, Nat.pow_zero, Nat.mul_one]; exact a1
  generalize k.log2 = L at a1 a2 hL hl
  have hp : 0 < 2 ^ (23 - L) := Nat.pow_pos (by decide)
  have hc1 : 8388608 ≤ k * 2 ^ (23 - L) := by
    have : 2 ^ L * 2 ^ (23 - L) ≤ k * 2 ^ (23 - L) := Nat.mul_le_mul_right _ a1
    rw [← Nat.pow_add, show L + (23 - L) = 23 by omega] at this
    exact this
  have hc2 : k * 2 ^ (23 - L) < 16777216 := by
    have : k * 2 ^ (23 - L) < 2 ^ (L + 1) * 2 ^ (23 - L) := Nat.mul_lt_mul_of_pos_right a2 hp
    rw [← Nat.pow_add, show L + 1 + (23 - L) = 24 by omega] at this
    exact this
  have hrr : FP.Core.roundRatio FP.Core.b32 false k 1 0 = .fin false (k * 2 ^ (23 - L)) ((L : Int) - 23) := by
    unfold FP.Core.roundRatio
    rw [if_neg (by omega)]
    unfold FP.Core.roundAt FP.Core.quantum
    have hq : max FP.Core.b32.qmin ((L : Int) + 0 - ((FP.Core.b32.p : Int) - 1)) = (L : Int) - 23 := by rw [f_qmin, f_p]; omega
    have hn : FP.Core.unitsNum k 0 ((L : Int) - 23) = k * 2 ^ (23 - L) := by unfold FP.Core.unitsNum; rw [show (0 - ((L : Int) - 23)).toNat = 23 - L by omega]
    have hm : FP.Core.unitsDen 1 0 ((L : Int) - 23) = 1 := by unfold FP.Core.unitsDen; rw [show ((L : Int) - 23 - 0).toNat = 0 by omega]
    rw [hl, hq, hn, hm]
    have := nearest_m (k * 2 ^ (23 - L)) (show 0 < 1 by decide)
    rw [Nat.mul_one] at this
    rw [this, settle_in hc2 (by omega)]
  have key : FP.i2f (nI k) = .ofNat (FP.Core.encode FP.Core.b32 (.fin false (k * 2 ^ (23 - L)) ((L : Int) - 23))) := by
    show UInt32.ofNat (FP.Core.encode FP.Core.b32 (FP.Core.round FP.Core.b32 (FP.Core.ofInt (nI k).toInt))) = _
    rw [nI_toInt (by omega)]
    show UInt32.ofNat (FP.Core.encode FP.Core.b32 (FP.Core.roundRatio FP.Core.b32 (decide ((k : Int) < 0)) k 1 0)) = _
    rw [decide_eq_false (by omega), hrr]
  exact ⟨L, _, hL, a1, a2, (of_fin key hc1 hc2 (by omega) (by omega)).cg (by omega) rfl⟩
theorem i2f_0 : FP.i2f (nI 0) = FP.fconst0 := by decide
/-- a whole number by another one -/
theorem nf_quot {a b : Nat} (ha : 1 ≤ a) (ha2 : a < 16777216) (hb : 1 ≤ b) (hb2 : b < 16777216) : ∃ E T, NF (FP.fdiv (FP.i2f (nI a)) (FP.i2f (nI b))) E T ∧ 100 ≤ E ∧ E ≤ 160 := by
  obtain ⟨L, T, l1, -, -, h⟩ := nf_int ha ha2
  obtain ⟨M, S, m1, -, -, h2⟩ := nf_int hb hb2
  have hT := h.2.1
  have hS := h2.2.1
  obtain ⟨m, q, e1, e2, e3, e5, e6, -⟩ := quot_rr (c := 8388608 + T) (d := 8388608 + S) (e := ((127 + L : Nat) : Int) - 150 - (((127 + M : Nat) : Int) - 150)) (by omega) (by omega) (by omega) (by omega) (by omega) (by omega)
  have key : FP.fdiv (FP.i2f (nI a)) (FP.i2f (nI b)) = .ofNat (FP.Core.encode FP.Core.b32 (.fin false m q)) := by
    show UInt32.ofNat (FP.Core.encode FP.Core.b32 (FP.Core.quotient FP.Core.b32 (FP.Core.decode FP.Core.b32 (FP.i2f (nI a)).toNat) (FP.Core.decode FP.Core.b32 (FP.i2f (nI b)).toNat))) = _
    rw [h.dec, h2.dec]
    show UInt32.ofNat (FP.Core.encode FP.Core.b32 (if 8388608 + S = 0 then (if 8388608 + T = 0 then FP.Core.Datum.nan else FP.Core.Datum.inf (false != false)) else FP.Core.roundRatio FP.Core.b32 (false != false) (8388608 + T) (8388608 + S) (((127 + L : Nat) : Int) - 150 - (((127 + M : Nat) : Int) - 150)))) = _
    rw [if_neg (by omega), show (false != false) = false from rfl, e1]
  exact ⟨_, _, of_fin key e2 e3 (by omega) (by omega), by omega, by omega⟩
end FB
