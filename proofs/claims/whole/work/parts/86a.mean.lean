/-! the mean: as a double -/
section MD
theorem g_tails : FP.Core.b64.tails = 4503599627370496 := by decide
theorem g_exps : FP.Core.b64.exps = 2048 := by decide
theorem g_qmin : FP.Core.b64.qmin = -1074 := by decide
theorem g_qmax : FP.Core.b64.qmax = 971 := by decide
theorem g_p : FP.Core.b64.p = 53 := rfl
theorem g_bound {c : Nat} {q : Int} (hc : c < 9007199254740992) : FP.Core.encode FP.Core.b64 (FP.Core.bound FP.Core.b64 false c q) ≤ 9218868437227405312 := by
  unfold FP.Core.bound
  rw [g_qmax]
  by_cases h : q ≤ 971
  · rw [if_pos h]
    show (if c < FP.Core.b64.tails then FP.Core.assemble FP.Core.b64 false 0 c else FP.Core.assemble FP.Core.b64 false ((q - FP.Core.b64.qmin).toNat + 1) (c - FP.Core.b64.tails)) ≤ _
    rw [g_tails, g_qmin]
    by_cases h2 : c < 4503599627370496
    · rw [if_pos h2]
      show (0 * FP.Core.b64.exps + 0) * FP.Core.b64.tails + c ≤ _
      rw [Nat.zero_mul, Nat.zero_add, Nat.zero_mul]
      omega
    · rw [if_neg h2]
      show (0 * FP.Core.b64.exps + ((q - -1074).toNat + 1)) * FP.Core.b64.tails + (c - 4503599627370496) ≤ _
      rw [g_tails, Nat.zero_mul, Nat.zero_add]
      omega
  · rw [if_neg h]
    decide
theorem g_rr {A B : Nat} {e : Int} : FP.Core.encode FP.Core.b64 (FP.Core.roundRatio FP.Core.b64 false A B e) ≤ 9218868437227405312 := by
  unfold FP.Core.roundRatio
  by_cases h : A = 0
  · rw [if_pos h]; decide
  · rw [if_neg h]
    unfold FP.Core.roundAt FP.Core.settle
    rw [g_p]
    split
    · exact g_bound (by omega)
    · exact g_bound (by rw [g_tails]; decide)
/-- a double, not below 0 and not NaN -/
def NN64 (x : UInt64) : Prop := x.toNat ≤ 9218868437227405312
theorem ofN64 {n : Nat} (h : n < 18446744073709551616) : (UInt64.ofNat n).toNat = n := by
  show n % 18446744073709551616 = n
  omega
theorem NN.f2d {v : UInt32} (h : NN v) : NN64 (FP.f2d v) := by
  have hn : FP.Core.fIsNaN v = false := by
    show decide (FP.Core.decode FP.Core.b32 v.toNat = .nan) = false
    apply decide_eq_false
    rcases h.dec with e | ⟨c, q, e⟩ <;> rw [e] <;> exact fun q => by cases q
  have e0 : FP.f2d v = if FP.Core.fIsNaN v then FP.nanF2D v else FP.Core.f2d v := rfl
  rw [e0, hn, if_neg ff]
  have key : FP.Core.encode FP.Core.b64 (FP.Core.round FP.Core.b64 (FP.Core.decode FP.Core.b32 v.toNat)) ≤ 9218868437227405312 := by
    rcases h.dec with e | ⟨c, q, e⟩ <;> rw [e]
    · decide
    · exact g_rr
  show (UInt64.ofNat (FP.Core.encode FP.Core.b64 (FP.Core.round FP.Core.b64 (FP.Core.decode FP.Core.b32 v.toNat)))).toNat ≤ _
  rw [ofN64 (by omega)]
  exact key
theorem NN64.n64 {x : UInt64} (h : NN64 x) : vf_n64 x := by
  have h : x.toNat ≤ 9218868437227405312 := h
  show x &&& 0x7fffffffffffffff ≤ 0x7ff0000000000000
  rw [UInt64.le_iff_toNat_le, UInt64.toNat_and]
  show x.toNat &&& 9223372036854775807 ≤ 9218868437227405312
  exact Nat.le_trans Nat.and_le_left h
theorem NN64.cmp {x : UInt64} (h : NN64 x) : FP.dcmp x x = some .eq := by
  have h : x.toNat ≤ 9218868437227405312 := h
  have e0 : FP.dcmp x x = FP.Core.order (FP.Core.decode FP.Core.b64 x.toNat) (FP.Core.decode FP.Core.b64 x.toNat) := rfl
  have fS : FP.Core.fieldS FP.Core.b64 x.toNat = false := by
    unfold FP.Core.fieldS; rw [g_tails, g_exps, show x.toNat / 4503599627370496 / 2048 % 2 = 0 by omega]; rfl
  have fE : FP.Core.fieldE FP.Core.b64 x.toNat = x.toNat / 4503599627370496 % 2048 := by unfold FP.Core.fieldE; rw [g_tails, g_exps]
  have fT : FP.Core.fieldT FP.Core.b64 x.toNat = x.toNat % 4503599627370496 := by unfold FP.Core.fieldT; rw [g_tails]
  have hd : (FP.Core.decode FP.Core.b64 x.toNat = .inf false) ∨ ∃ c q, FP.Core.decode FP.Core.b64 x.toNat = .fin false c q := by
    unfold FP.Core.decode
    rw [fS, fE, fT, g_exps]
    by_cases h1 : x.toNat / 4503599627370496 % 2048 = 2048 - 1
    · rw [if_pos h1, if_pos (by omega)]
      exact Or.inl rfl
    · rw [if_neg h1]
      split
      · exact Or.inr ⟨_, _, rfl⟩
      · exact Or.inr ⟨_, _, rfl⟩
  rw [e0]
  rcases hd with e | ⟨c, q, e⟩ <;> rw [e]
  · decide
  · show some (compare _ _) = _
    rw [cmpI, if_neg (by omega), if_pos rfl]
theorem mean_cmp {v : UInt32} {out : Nat → UInt64} (h : NN64 (FP.f2d v)) : Op.cmpValue (FP.dcmp (loutF (.inr v) out (Int32.toNatClampNeg 0)) (FP.f2d v)) CmpOp.l = 0 := by
  have e : loutF (.inr v) out (Int32.toNatClampNeg 0) = FP.f2d v := show vf_upd out 0 (FP.f2d v) (Int32.toNatClampNeg 0) = _ from if_pos (by decide)
  rw [e, h.cmp]
  rfl
theorem mean_f2d {g area com : Nat → Int32} {cores dist has : Int32} {len nb outer places sets pop : Nat → Int32} {tol units : Int32} {r : String ⊕ UInt32} (h : WR g area com cores dist has len nb outer places sets pop tol units) (e1 : fX10_meanCompactness area dist has len outer sets units = some r) : ∀ v, r = .inr v → NN64 (FP.f2d v) := by
  obtain ⟨n, k, rfl, hR, hW, hX, rfl, e3, e4, e5, rfl, ⟨t, e7, e8⟩, rfl, e10, e11⟩ := h
  have hn := hR.n12
  intro v hv
  subst hv
  rw [fX10_meanCompactness, fX10_checkPlan] at e1
  by_cases hp : g 219 = 0
  · rw [if_pos hp, bind_s, se_l] at e1
    cases e1
  · obtain ⟨h1, hP⟩ := e11 (e10.resolve_left hp)
    obtain ⟨L, T, -, -, -, hk⟩ := nf_int (k := k) (by omega) (by omega)
    have hdv : NN (FP.fdiv (meanS n g (fun x => g (207 + x)) k) (FP.i2f (nI k))) := nn_div (meanS_nn hW hn k) hk
    rw [if_neg hp, bind_s, se_r] at e1
    have key1 := upS (fun m i z => fX10_meanCompactness_L8 area (nI k) len outer sets (nI n) m (fun z8_1 => (if nN (FP.fdiv z8_1 (FP.i2f (nI k))) then some (Sum.inr (FP.fdiv z8_1 (FP.i2f (nI k)))) else none)) z (nI i)) (meanS n g (fun x => g (207 + x))) k (some (Sum.inr (FP.fdiv (meanS n g (fun x => g (207 + x)) k) (FP.i2f (nI k))))) (fun m => ?_) (fun m i hi => ?_) 1000000 (by omega)
    · have e2 := e1.symm.trans key1
      cases e2
      exact hdv.f2d
    · show fX10_meanCompactness_L8 area (nI k) len outer sets (nI n) (m + 1) _ _ (nI k) = _
      rw [fX10_meanCompactness_L8, if_pos (nI_leS k (by omega)), if_pos hdv.nN]
    · show fX10_meanCompactness_L8 area (nI k) len outer sets (nI n) (m + 1) _ _ (nI i) = fX10_meanCompactness_L8 area (nI k) len outer sets (nI n) m _ (FP.fadd (meanS n g (fun x => g (207 + x)) i) (comC n g (fun x => g (207 + x)) i)) (nI (i + 1))
      rw [fX10_meanCompactness_L8, if_neg (nI_ge hi (by omega)), if_pos ((inR_nI (by omega)).mpr (show i < 4 by omega)), nI_clamp (by omega), pX6_rough hR hW hP (by omega), bind_s, if_pos (nn_add (meanS_nn hW hn i) (comC_ok hW hn i).nn).nN, nI_1]
end MD
