/-! the map's numbers: class and reference -/
theorem nI_leS (n : Nat) (h : n < 2 ^ 31) : nI n ≤ nI n := nI_le (Nat.le_refl n) h
theorem kk_lit (n : Nat) (h : n < 2 ^ 31) : (OfNat.ofNat n : Int32).toNatClampNeg = n := nI_clamp h
/-- the sum over a set's units -/
def ssum (n : Nat) (set : Int32) (f : Nat → Int32) : Int32 := sumI n (fun u => if pbit set u then f u else 0)
theorem ssum_congr {n : Nat} {set : Int32} {f g : Nat → Int32} (h : ∀ u, u < n → f u = g u) : ssum n set f = ssum n set g := sumI_congr fun u hu => by rw [h u hu]
theorem pX9_populationOf {pop : Nat → Int32} {n : Nat} {set : Int32} (hn : n ≤ 12) : fX9_populationOf pop (nI n) set = some (ssum n set pop) := by
  rw [fX9_populationOf]
  refine upS (fun m i s => fX9_populationOf_L4 pop (nI n) set m (fun z => some z) s (nI i)) (fun i => ssum i set pop) n _ (fun m => ?_) (fun m i hi => ?_) 1000000 (by omega)
  · show fX9_populationOf_L4 pop (nI n) set (m + 1) _ _ (nI n) = _
    rw [fX9_populationOf_L4, if_pos (nI_leS n (by omega))]
  · show fX9_populationOf_L4 pop (nI n) set (m + 1) _ _ (nI i) = fX9_populationOf_L4 pop (nI n) set m _ _ (nI (i + 1))
    rw [fX9_populationOf_L4, if_neg (nI_ge hi (by omega)), nI_1]
    show _ = fX9_populationOf_L4 pop (nI n) set m _ (ssum i set pop + if pbit set i then pop i else 0) (nI (i + 1))
    cases hb : pbit set i with
    | true => rw [if_neg (by rw [shr_eq0 _ (by omega), hb]; decide), if_pos ((inR_nI (by omega)).mpr (by omega)), nI_clamp (by omega), if_pos rfl]
    | false => rw [if_pos ((shr_eq0 _ (by omega)).mpr hb), if_neg ff, add_0]
theorem pX9_areaOf {pop : Nat → Int32} {n : Nat} {set : Int32} (hn : n ≤ 12) : fX9_areaOf pop (nI n) set = some (ssum n set pop) := by
  rw [fX9_areaOf]
  refine upS (fun m i s => fX9_areaOf_L4 pop (nI n) set m (fun z => some z) s (nI i)) (fun i => ssum i set pop) n _ (fun m => ?_) (fun m i hi => ?_) 1000000 (by omega)
  · show fX9_areaOf_L4 pop (nI n) set (m + 1) _ _ (nI n) = _
    rw [fX9_areaOf_L4, if_pos (nI_leS n (by omega))]
  · show fX9_areaOf_L4 pop (nI n) set (m + 1) _ _ (nI i) = fX9_areaOf_L4 pop (nI n) set m _ _ (nI (i + 1))
    rw [fX9_areaOf_L4, if_neg (nI_ge hi (by omega)), nI_1]
    show _ = fX9_areaOf_L4 pop (nI n) set m _ (ssum i set pop + if pbit set i then pop i else 0) (nI (i + 1))
    cases hb : pbit set i with
    | true => rw [if_neg (by rw [shr_eq0 _ (by omega), hb]; decide), if_pos ((inR_nI (by omega)).mpr (by omega)), nI_clamp (by omega), if_pos rfl]
    | false => rw [if_pos ((shr_eq0 _ (by omega)).mpr hb), if_neg ff, add_0]
/-- all units -/
def allS (n : Nat) : Int32 := ((1 : Int32) <<< (nI n &&& 31)) - 1
theorem pX9_allUnits (n : Nat) : fX9_allUnits (nI n) = some (allS n) := rfl
theorem pbit_allS {n : Nat} (hn : n ≤ 12) (u : Nat) : pbit (allS n) u = decide (u < n) := by
  rcases Nat.lt_or_ge u 32 with hu | hu
  · have : ∀ (n : Fin 13) (u : Fin 32), pbit (allS n.val) u.val = decide (u.val < n.val) := by decide +kernel
    exact this ⟨n, by omega⟩ ⟨u, hu⟩
  · rw [pbit_ge hu]; exact (decide_eq_false (by omega)).symm
theorem ssum_all {n : Nat} (hn : n ≤ 12) (f : Nat → Int32) : ssum n (allS n) f = sumI n f := sumI_congr fun u hu => by rw [pbit_allS hn, decide_eq_true hu, if_pos rfl]
/-- how far a set's population is off -/
def offS (n : Nat) (k : Int32) (pop : Nat → Int32) (set : Int32) : Int32 := if 0 ≤ ssum n set pop * k - sumI n pop then ssum n set pop * k - sumI n pop else 0 - (ssum n set pop * k - sumI n pop)
theorem pX9_imbalanceOf {pop : Nat → Int32} {n : Nat} {k set : Int32} (hn : n ≤ 12) : fX9_imbalanceOf k pop (nI n) set = some (offS n k pop set) := by
  rw [fX9_imbalanceOf, pX9_populationOf hn, bind_s, pX9_allUnits, bind_s, pX9_populationOf hn, bind_s, ssum_all hn]
  rfl
/-- balanced -/
def balS (n : Nat) (k tol : Int32) (pop : Nat → Int32) (set : Int32) : Prop := 100 * offS n k pop set ≤ tol * sumI n pop
theorem le_nlt (a b : Int32) : a ≤ b ↔ ¬ b < a := by
  rw [Int32.le_iff_toInt_le, Int32.lt_iff_toInt_lt]; omega
theorem pX9_isBalanced {pop : Nat → Int32} {n : Nat} {k tol set : Int32} (hn : n ≤ 12) : fX9_isBalanced k pop tol (nI n) set = some (if 100 * offS n k pop set ≤ tol * sumI n pop then 1 else 0) := by
  rw [fX9_isBalanced, pX9_imbalanceOf hn, bind_s, pX9_allUnits, bind_s, pX9_populationOf hn, bind_s, ssum_all hn]
  by_cases h : tol * sumI n pop < 100 * offS n k pop set
  · rw [if_pos h, if_neg (by rw [le_nlt]; exact fun q => q h)]
  · rw [if_neg h, if_pos (by rw [le_nlt]; exact h)]
/-- the units of a community -/
def memS (n : Nat) (com : Nat → Int32) (c : Int32) : Int32 := mkS n (fun u => com u = c)
theorem pX9_membersOf {com : Nat → Int32} {n : Nat} {c : Int32} (hn : n ≤ 12) : fX9_membersOf com (nI n) c = some (memS n com c) := by
  rw [fX9_membersOf]
  refine upS (fun m i s => fX9_membersOf_L4 com (nI n) c m (fun z => some z) s (nI i)) (fun i => memS i com c) n _ (fun m => ?_) (fun m i hi => ?_) 1000000 (by omega)
  · show fX9_membersOf_L4 com (nI n) c (m + 1) _ _ (nI n) = _
    rw [fX9_membersOf_L4, if_pos (nI_leS n (by omega))]
  · show fX9_membersOf_L4 com (nI n) c (m + 1) _ _ (nI i) = fX9_membersOf_L4 com (nI n) c m _ _ (nI (i + 1))
    rw [fX9_membersOf_L4, if_neg (nI_ge hi (by omega)), nI_1, if_pos ((inR_nI (by omega)).mpr (by omega)), nI_clamp (by omega)]
    show _ = fX9_membersOf_L4 com (nI n) c m _ (memS i com c ||| if decide (com i = c) then (1 : Int32) <<< (nI i &&& 31) else 0) (nI (i + 1))
    by_cases hb : com i = c
    · rw [if_pos hb, decide_eq_true hb, if_pos rfl]
    · rw [if_neg hb, decide_eq_false hb, if_neg ff, or_0]
theorem pX9_coresOf {com : Nat → Int32} {n : Nat} {c cores : Int32} (hn : n ≤ 12) : fX9_coresOf com cores (nI n) c = some (memS n com c &&& cores) := by
  rw [fX9_coresOf, pX9_membersOf hn]; rfl
/-- a set cuts another one in two -/
def cutsB (set mem : Int32) : Bool := decide (mem &&& set ≠ 0) && decide (mem &&& set ≠ mem)
def anyB (k : Nat) (p : Nat → Bool) : Bool := (List.range k).any p
theorem anyB_iff {k : Nat} {p : Nat → Bool} : anyB k p = true ↔ ∃ i, i < k ∧ p i = true := by
  unfold anyB
  rw [List.any_eq_true]
  constructor
  · rintro ⟨i, h1, h2⟩; exact ⟨i, List.mem_range.mp h1, h2⟩
  · rintro ⟨i, h1, h2⟩; exact ⟨i, List.mem_range.mpr h1, h2⟩
theorem anyB_false {k : Nat} {p : Nat → Bool} : anyB k p = false ↔ ∀ i, i < k → p i = false := by
  rw [← Bool.not_eq_true, anyB_iff]
  constructor
  · intro h i hi
    cases hp : p i
    · rfl
    · exact absurd ⟨i, hi, hp⟩ h
  · rintro h ⟨i, hi, hp⟩
    rw [h i hi] at hp; cases hp
/-- a loop of tests: ends early where one holds -/
theorem upA {R : Type} (F : Nat → Nat → Option R) (e : Nat) (p : Nat → Bool) (r q : Option R) (hx : ∀ n, F (n + 1) e = r) (hs : ∀ n i, i < e → p i = false → F (n + 1) i = F n (i + 1)) (hq : ∀ n i, i < e → p i = true → F (n + 1) i = q) (n : Nat) (hn : e < n) : F n 0 = if anyB e p then q else r := by
  rw [upX F e (fun _ => q) p r hx hs hq e 0 n (by omega) hn]
  have e1 : List.range' 0 e = List.range e := (List.range_eq_range' (n := e)).symm
  rw [e1]
  cases h : anyB e p with
  | true =>
    rw [if_pos rfl]
    unfold anyB at h
    cases hf : (List.range e).find? p with
    | some j => rfl
    | none =>
      rw [List.find?_eq_none] at hf
      obtain ⟨i, h1, h2⟩ := List.any_eq_true.mp h
      exact absurd h2 (hf i h1)
  | false =>
    rw [if_neg (by decide)]
    have : (List.range e).find? p = none := by
      rw [List.find?_eq_none]
      intro i hi hp
      rw [anyB_false.mp h i (List.mem_range.mp hi)] at hp; cases hp
    rw [this]
theorem pX9_splitsCores {com : Nat → Int32} {n : Nat} {cores set : Int32} (hn : n ≤ 12) : fX9_splitsCores com cores (nI n) set = some (if anyB 4 (fun c => cutsB set (memS n com (nI c) &&& cores)) then 1 else 0) := by
  rw [fX9_splitsCores]
  refine Eq.trans (upA (fun m i => fX9_splitsCores_L2 com cores (nI n) set m (some 0) (nI i)) 4 (fun c => cutsB set (memS n com (nI c) &&& cores)) (some 0) (some 1) (fun m => ?_) (fun m i hi hp => ?_) (fun m i hi hp => ?_) 1000000 (by omega)) ?_
  · show fX9_splitsCores_L2 com cores (nI n) set (m + 1) _ (nI 4) = _
    rw [fX9_splitsCores_L2, if_pos (show (4 : Int32) ≤ nI 4 by decide)]
  · show fX9_splitsCores_L2 com cores (nI n) set (m + 1) _ (nI i) = fX9_splitsCores_L2 com cores (nI n) set m _ (nI (i + 1))
    rw [fX9_splitsCores_L2, if_neg (ge4 hi), pX9_coresOf hn, bind_s, nI_1]
    simp only [cutsB, Bool.and_eq_false_iff, decide_eq_false_iff_not, Decidable.not_not] at hp
    rcases hp with hp | hp
    · rw [if_pos hp]
    · by_cases h0 : (memS n com (nI i) &&& cores) &&& set = 0
      · rw [if_pos h0]
      · rw [if_neg h0, if_pos hp]
  · show fX9_splitsCores_L2 com cores (nI n) set (m + 1) _ (nI i) = _
    rw [fX9_splitsCores_L2, if_neg (ge4 hi), pX9_coresOf hn, bind_s]
    simp only [cutsB, Bool.and_eq_true, decide_eq_true_eq] at hp
    rw [if_neg hp.1, if_neg hp.2]
  · split <;> rfl
theorem pX9_lengthBetween {len : Nat → Int32} {u v : Nat} (hu : u < 12) (hv : v < 12) : fX9_lengthBetween len (nI u) (nI v) = some (len (u * 12 + v)) := by
  rw [fX9_lengthBetween]
  have e : (nI u * (12 : Int32)) + nI v = nI (u * 12 + v) := by rw [show (12 : Int32) = nI 12 from rfl, pk_mul, nI_add]
  rw [e, if_pos ((inR_nI (by omega)).mpr (by omega)), nI_clamp (by omega)]
theorem pX9_lengthToOutside {len : Nat → Int32} {n u : Nat} {set : Int32} (hn : n ≤ 12) (hu : u < 12) : fX9_lengthToOutside len (nI n) (nI u) set = some (sumI n (fun v => if pbit set v then 0 else len (u * 12 + v))) := by
  rw [fX9_lengthToOutside]
  refine upS (fun m i s => fX9_lengthToOutside_L5 len (nI n) (nI u) set m (fun z => some z) s (nI i)) (fun i => sumI i (fun v => if pbit set v then 0 else len (u * 12 + v))) n _ (fun m => ?_) (fun m i hi => ?_) 1000000 (by omega)
  · show fX9_lengthToOutside_L5 len (nI n) (nI u) set (m + 1) _ _ (nI n) = _
    rw [fX9_lengthToOutside_L5, if_pos (nI_leS n (by omega))]
  · show fX9_lengthToOutside_L5 len (nI n) (nI u) set (m + 1) _ _ (nI i) = fX9_lengthToOutside_L5 len (nI n) (nI u) set m _ (sumI i (fun v => if pbit set v then 0 else len (u * 12 + v)) + if pbit set i then 0 else len (u * 12 + i)) (nI (i + 1))
    have e : (nI u * (12 : Int32)) + nI i = nI (u * 12 + i) := by rw [show (12 : Int32) = nI 12 from rfl, pk_mul, nI_add]
    rw [fX9_lengthToOutside_L5, if_neg (nI_ge hi (by omega)), nI_1]
    cases hb : pbit set i with
    | false => rw [if_pos ((shr_eq0 _ (by omega)).mpr hb), if_neg ff, e, if_pos ((inR_nI (by omega)).mpr (by omega)), nI_clamp (by omega)]; rfl
    | true => rw [if_neg (by rw [shr_eq0 _ (by omega), hb]; decide), if_pos rfl, add_0]
/-- the perimeter of a set -/
def perS (n : Nat) (outer : Nat → Int32) (b : Nat → Nat → Int32) (set : Int32) : Int32 := sumI n (fun u => if pbit set u then outer u + sumI n (fun v => if pbit set v then 0 else b u v) else 0)
theorem pX9_perimeterOf {len outer : Nat → Int32} {n : Nat} {set : Int32} (hn : n ≤ 12) : fX9_perimeterOf len outer (nI n) set = some (perS n outer (fun u v => len (u * 12 + v)) set) := by
  rw [fX9_perimeterOf]
  refine upS (fun m i s => fX9_perimeterOf_L4 len outer (nI n) set m (fun z => some z) s (nI i)) (fun i => sumI i (fun u => if pbit set u then outer u + sumI n (fun v => if pbit set v then 0 else len (u * 12 + v)) else 0)) n _ (fun m => ?_) (fun m i hi => ?_) 1000000 (by omega)
  · show fX9_perimeterOf_L4 len outer (nI n) set (m + 1) _ _ (nI n) = _
    rw [fX9_perimeterOf_L4, if_pos (nI_leS n (by omega))]; rfl
  · show fX9_perimeterOf_L4 len outer (nI n) set (m + 1) _ _ (nI i) = fX9_perimeterOf_L4 len outer (nI n) set m _ (_ + if pbit set i then outer i + sumI n (fun v => if pbit set v then 0 else len (i * 12 + v)) else 0) (nI (i + 1))
    rw [fX9_perimeterOf_L4, if_neg (nI_ge hi (by omega)), nI_1]
    cases hb : pbit set i with
    | true => rw [if_neg (by rw [shr_eq0 _ (by omega), hb]; decide), if_pos ((inR_nI (by omega)).mpr (by omega)), pX9_lengthToOutside hn (by omega), bind_s, nI_clamp (by omega), if_pos rfl]
    | false => rw [if_pos ((shr_eq0 _ (by omega)).mpr hb), if_neg ff, add_0]
