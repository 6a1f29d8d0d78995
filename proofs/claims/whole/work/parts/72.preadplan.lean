/-! readPlan -/
/-- the district of a letter -/
def dL (k c : Nat) : Option Nat := if 65 ≤ c ∧ c < 65 + k then some (c - 65) else if 97 ≤ c ∧ c < 97 + k then some (c - 97) else none
theorem sub65 : ∀ c : Fin 65, nI c.val - (65 : Int32) < 0 := by decide +kernel
theorem sub97 : ∀ c : Fin 97, nI c.val - (97 : Int32) < 0 := by decide +kernel
theorem sub_ge {c a : Nat} (h : a ≤ c) : nI c - nI a = nI (c - a) := by
  have : nI c = nI (c - a) + nI a := by rw [nI_add, Nat.sub_add_cancel h]
  rw [this]; simp
theorem pX10_districtOf {c k : Nat} (hc : c < 65536) (hk : k ≤ 4) : fX10_districtOf (nI k) (nI c) = some (match dL k c with | some d => nI d | none => -1) := by
  rw [fX10_districtOf]
  have h97 : ¬ (65 ≤ c ∧ c < 65 + k) → (if (nI c - (97 : Int32)) < (0 : Int32) then some (-1 : Int32) else (if nI k ≤ (nI c - (97 : Int32)) then some (-1 : Int32) else some (nI c - (97 : Int32)))) = some (match dL k c with | some d => nI d | none => -1) := by
    intro h65
    unfold dL
    rw [if_neg h65]
    by_cases h1 : c < 97
    · rw [if_pos (sub97 ⟨c, h1⟩), if_neg (by omega)]
    · rw [show nI c - (97 : Int32) = nI (c - 97) from sub_ge (a := 97) (by omega), if_neg (show ¬ nI (c - 97) < (0 : Int32) from nI_nlt (Nat.zero_le _) (by omega))]
      by_cases h2 : c - 97 < k
      · rw [if_neg (nI_ge h2 (by omega)), if_pos (by omega)]
      · rw [if_pos (nI_le (by omega) (by omega)), if_neg (by omega)]
  by_cases h1 : c < 65
  · rw [if_pos (sub65 ⟨c, h1⟩)]
    exact h97 (by omega)
  · rw [show nI c - (65 : Int32) = nI (c - 65) from sub_ge (a := 65) (by omega), if_neg (show ¬ nI (c - 65) < (0 : Int32) from nI_nlt (Nat.zero_le _) (by omega))]
    by_cases h2 : c - 65 < k
    · rw [if_neg (nI_ge h2 (by omega))]
      unfold dL
      rw [if_pos (by omega)]
    · rw [if_pos (nI_le (by omega) (by omega))]
      exact h97 (by omega)
/-- a row of the first i districts -/
def rowD (D : Nat → Nat) (i : Nat) : List Nat := (List.range i).map D
theorem rowD_at {D : Nat → Nat} {i j : Nat} : (rowD D i).getD j 0 = if j < i then D j else 0 := by
  unfold rowD
  rw [List.getD_eq_getElem?_getD, List.getElem?_map]
  by_cases h : j < i
  · rw [List.getElem?_range h, if_pos h]; rfl
  · rw [List.getElem?_eq_none (by rw [List.length_range]; omega), if_neg h]; rfl
theorem rowD_len {D : Nat → Nat} {i : Nat} : (rowD D i).length = i := by
  unfold rowD
  rw [List.length_map, List.length_range]
theorem rowD_upd {D : Nat → Nat} {q : Nat → Int32} {i : Nat} (hi : i < 12) : upd (arL q (rowD D i)) i (nI (D i)) = arL q (rowD D (i + 1)) := by
  funext j
  unfold arL
  by_cases e : j = i
  · subst e
    rw [pk_us, if_pos hi, rowD_at, if_pos (Nat.lt_succ_self j)]
  · rw [pk_un e]
    by_cases h12 : j < 12
    · rw [if_pos h12, if_pos h12, rowD_at, rowD_at]
      by_cases h : j < i
      · rw [if_pos h, if_pos (show j < i + 1 by omega)]
      · rw [if_neg h, if_neg (show ¬ j < i + 1 by omega)]
    · rw [if_neg h12, if_neg h12]
theorem rowD_0 {D : Nat → Nat} {q : Nat → Int32} : (fun j => if j < 12 then 0 else q j) = arL q (rowD D 0) := by
  funext j
  unfold arL
  by_cases h : j < 12
  · rw [if_pos h, if_pos h, rowD_at, if_neg (Nat.not_lt_zero j)]; rfl
  · rw [if_neg h, if_neg h]
/-- a fault at a place -/
def fltB (n k : Nat) (C : Nat → Nat) (i : Nat) : Bool := decide (n ≤ i) || (dL k (C i)).isNone
def disD (k : Nat) (C : Nat → Nat) (j : Nat) : Nat := (dL k (C j)).getD 0
theorem dL_lt {k c d : Nat} (h : dL k c = some d) : d < k := by
  unfold dL at h
  by_cases h1 : 65 ≤ c ∧ c < 65 + k
  · rw [if_pos h1] at h
    have := Option.some.inj h
    omega
  · rw [if_neg h1] at h
    by_cases h2 : 97 ≤ c ∧ c < 97 + k
    · rw [if_pos h2] at h
      have := Option.some.inj h
      omega
    · rw [if_neg h2] at h; cases h
theorem pX10_findPlanFault {input : Nat → Int32} {C : Nat → Nat} {n k l : Nat} (hn : n ≤ 12) (hk : k ≤ 4) (hl : l ≤ 80) (hC : ∀ j, j < l → input j = nI (C j) ∧ C j < 65536) : fX10_findPlanFault input (nI k) (nI n) (nI l) = (fstP l (fltB n k C)).elim (if n ≤ l then some (-1) else some (nI l)) (fun i => some (nI i)) := by
  rw [fX10_findPlanFault]
  have e : (if nI n ≤ nI l then some (-1 : Int32) else some (nI l)) = if n ≤ l then some (-1) else some (nI l) := by
    by_cases h : n ≤ l
    · rw [if_pos h, if_pos (nI_le h (by omega))]
    · rw [if_neg h, if_neg (nI_ge (by omega) (by omega))]
  rw [e]
  refine upF (fun m i => fX10_findPlanFault_L2 input (nI k) (nI n) (nI l) m _ (nI i)) l (fun i => some (nI i)) (fltB n k C) _ (fun m => ?_) (fun m i hi hp => ?_) (fun m i hi hp => ?_) 1000000 (by omega)
  · show fX10_findPlanFault_L2 input (nI k) (nI n) (nI l) (m + 1) _ (nI l) = _
    rw [fX10_findPlanFault_L2, if_pos (nI_leS l (by omega))]
  · show fX10_findPlanFault_L2 input (nI k) (nI n) (nI l) (m + 1) _ (nI i) = fX10_findPlanFault_L2 input (nI k) (nI n) (nI l) m _ (nI (i + 1))
    obtain ⟨c1, c2⟩ := hC i hi
    unfold fltB at hp
    rw [Bool.or_eq_false_iff] at hp
    have hn' := of_decide_eq_false hp.1
    rw [fX10_findPlanFault_L2, if_neg (nI_ge hi (by omega)), if_neg (nI_ge (show i < n by omega) (by omega)), if_pos ((inR_nI (by omega)).mpr (by omega)), nI_clamp (by omega), c1, pX10_districtOf c2 hk, bind_s, nI_1]
    cases hd : dL k (C i) with
    | none => rw [hd] at hp; cases hp.2
    | some d => exact if_pos (show (0 : Int32) ≤ nI d from nI_le (Nat.zero_le d) (by have := dL_lt hd; omega))
  · show fX10_findPlanFault_L2 input (nI k) (nI n) (nI l) (m + 1) _ (nI i) = _
    obtain ⟨c1, c2⟩ := hC i hi
    rw [fX10_findPlanFault_L2, if_neg (nI_ge hi (by omega))]
    by_cases h1 : n ≤ i
    · rw [if_pos (nI_le h1 (by omega))]
    · unfold fltB at hp
      rw [decide_eq_false h1, Bool.false_or] at hp
      rw [if_neg (nI_ge (show i < n by omega) (by omega)), if_pos ((inR_nI (by omega)).mpr (by omega)), nI_clamp (by omega), c1, pX10_districtOf c2 hk, bind_s]
      cases hd : dL k (C i) with
      | some d => rw [hd] at hp; cases hp
      | none => exact if_neg (by decide)
theorem in_c {c a b : Nat} (hc : c < 65536) (ha : a < 65536) (hb : b < 65536) : fX11_in (nI c) (nI a) (nI b) = some (if a ≤ c ∧ c ≤ b then 1 else 0) := by
  rw [fX11_in]
  by_cases h1 : c < a
  · rw [if_pos (nI_lt h1 (by omega)), if_neg (by omega)]
  · rw [if_neg (nI_nlt (by omega) (by omega))]
    by_cases h2 : b < c
    · rw [if_pos (nI_lt h2 (by omega)), if_neg (by omega)]
    · rw [if_neg (nI_nlt (by omega) (by omega)), if_pos (by omega)]
section RP
variable {g tape q ahead hist : Nat → Int32} {C : Nat → Nat} {n k l : Nat} {dt kd kr many th : Int32}
theorem readM_step (hg : g 204 = nI n) (hn : n ≤ 12) (hgk : g 205 = nI k) (hk : k ≤ 4) (kf : (Nat → Int32) → Int32 → Option (Int32 × (Nat → Int32) × Int32 × (Nat → Int32) × (Nat → Int32) × Int32 × Int32 × Int32 × (Nat → Int32) × Int32 × Int32)) {m i : Nat} (hi : i < l) (hl : l ≤ 80) (hc : tape i = nI (C i)) (hc2 : C i < 65536) : fX11_readPlan_L50 ahead dt g hist many kd kr tape (nI l) 0 (m + 1) kf (nI i) (arL q (rowD (disD k C) i)) th = if fltB n k C i then some (-100 - nI i, ahead, dt, g, hist, many, kd, kr, arL q (rowD (disD k C) i), 0, 0) else fX11_readPlan_L50 ahead dt g hist many kd kr tape (nI l) 0 m kf (nI (i + 1)) (arL q (rowD (disD k C) (i + 1))) th := by
  have hi80 : inR (nI i) 80 := (inR_nI (by omega)).mpr (by omega)
  have fin : ∀ d, dL k (C i) = some d → (if nI i < nI n then (if inR (nI i) 12 then fX11_readPlan_L50 ahead dt g hist many kd kr tape (nI l) 0 m kf (nI i + 1) (upd (arL q (rowD (disD k C) i)) i (nI d)) th else none) else (fX11_done ((-100 : Int32) - nI i)).bind (fun q24 => some (q24.1, ahead, dt, g, hist, many, kd, kr, (arL q (rowD (disD k C) i)), 0, q24.2))) = if fltB n k C i then some (-100 - nI i, ahead, dt, g, hist, many, kd, kr, arL q (rowD (disD k C) i), 0, 0) else fX11_readPlan_L50 ahead dt g hist many kd kr tape (nI l) 0 m kf (nI (i + 1)) (arL q (rowD (disD k C) (i + 1))) th := by
    intro d hd
    have e1 : disD k C i = d := by unfold disD; rw [hd]; rfl
    unfold fltB
    rw [hd]
    by_cases h : i < n
    · rw [if_pos (nI_lt h (by omega)), if_pos ((inR_nI (by omega)).mpr (by omega)), decide_eq_false (by omega), ← e1, rowD_upd (by omega), nI_1]; rfl
    · rw [if_neg (nI_nlt (by omega) (by omega)), decide_eq_true (by omega)]; rfl
  have flt : dL k (C i) = none → fltB n k C i = true := fun h => by
    unfold fltB
    rw [h]; simp
  rw [fX11_readPlan_L50, if_neg (nI_ge hi (by omega)), if_pos hi80, nI_clamp (by omega), hc, show fX11_in (nI (C i)) 65 90 = _ from in_c (a := 65) (b := 90) hc2 (by decide) (by decide), bind_s, k204, hg]
  simp only [if_pos hi80]
  by_cases h1 : 65 ≤ C i ∧ C i ≤ 90
  · rw [if_pos h1, if_neg n10, show nI (C i) - (65 : Int32) = nI (C i - 65) from sub_ge (a := 65) h1.1, pX11_isDistrict hgk (by omega), bind_s]
    by_cases h2 : C i - 65 < k
    · rw [if_pos ((inR_nI (by omega)).mpr h2), if_neg n10]
      exact fin _ (if_pos (by omega))
    · rw [if_neg (fun h => h2 ((inR_nI (by omega)).mp h)), if_pos rfl, flt (by unfold dL; rw [if_neg (by omega), if_neg (by omega)]), if_pos rfl]; rfl
  · rw [if_neg h1, if_pos rfl, show fX11_in (nI (C i)) 97 122 = _ from in_c (a := 97) (b := 122) hc2 (by decide) (by decide), bind_s]
    by_cases h3 : 97 ≤ C i ∧ C i ≤ 122
    · rw [if_pos h3, if_neg n10, show nI (C i) - (97 : Int32) = nI (C i - 97) from sub_ge (a := 97) h3.1, pX11_isDistrict hgk (by omega), bind_s]
      by_cases h2 : C i - 97 < k
      · rw [if_pos ((inR_nI (by omega)).mpr h2), if_neg n10]
        refine fin _ ?_
        unfold dL
        rw [if_neg (by omega), if_pos (by omega)]
      · rw [if_neg (fun h => h2 ((inR_nI (by omega)).mp h)), if_pos rfl, flt (by unfold dL; rw [if_neg (by omega), if_neg (by omega)]), if_pos rfl]; rfl
    · rw [if_neg h3, if_pos rfl, pX11_isDistrict hgk (by omega), bind_s, show (if inR (-1 : Int32) k then (1 : Int32) else 0) = 0 from if_neg (fun h => absurd h.1 (by decide)), if_pos rfl, flt (by unfold dL; rw [if_neg (by omega), if_neg (by omega)]), if_pos rfl]; rfl
theorem readM_loop (hg : g 204 = nI n) (hn : n ≤ 12) (hgk : g 205 = nI k) (hk : k ≤ 4) (kf : (Nat → Int32) → Int32 → Option (Int32 × (Nat → Int32) × Int32 × (Nat → Int32) × (Nat → Int32) × Int32 × Int32 × Int32 × (Nat → Int32) × Int32 × Int32)) (hl : l ≤ 80) (hC : ∀ j, j < l → tape j = nI (C j) ∧ C j < 65536) : fX11_readPlan_L50 ahead dt g hist many kd kr tape (nI l) 0 1000000 kf 0 (arL q (rowD (disD k C) 0)) th = (fstP l (fltB n k C)).elim (kf (arL q (rowD (disD k C) l)) th) (fun i => some (-100 - nI i, ahead, dt, g, hist, many, kd, kr, arL q (rowD (disD k C) i), 0, 0)) := by
  refine upF (fun m i => fX11_readPlan_L50 ahead dt g hist many kd kr tape (nI l) 0 m kf (nI i) (arL q (rowD (disD k C) i)) th) l _ (fltB n k C) _ (fun m => ?_) (fun m i hi hp => ?_) (fun m i hi hp => ?_) 1000000 (by omega)
  · show fX11_readPlan_L50 ahead dt g hist many kd kr tape (nI l) 0 (m + 1) kf (nI l) _ _ = _
    rw [fX11_readPlan_L50, if_pos (nI_leS l (by omega))]
  · show fX11_readPlan_L50 ahead dt g hist many kd kr tape (nI l) 0 (m + 1) kf (nI i) _ _ = _
    rw [readM_step hg hn hgk hk kf hi hl (hC i hi).1 (hC i hi).2, hp, if_neg ff]
  · show fX11_readPlan_L50 ahead dt g hist many kd kr tape (nI l) 0 (m + 1) kf (nI i) _ _ = _
    rw [readM_step hg hn hgk hk kf hi hl (hC i hi).1 (hC i hi).2, hp, if_pos rfl]
theorem readM_L29 {y1 y2 : Int32} (D : Nat → Nat) (kf : (Nat → Int32) → Option (Int32 × (Nat → Int32) × Int32 × (Nat → Int32) × (Nat → Int32) × Int32 × Int32 × Int32 × (Nat → Int32) × Int32 × Int32)) : fX11_readPlan_L29 y1 y2 1000000 kf 0 q = kf (arL q (rowD D 0)) := by
  rw [← rowD_0]
  have h := upS (fun m i s => fX11_readPlan_L29 y1 y2 m kf (nI i) s) (fun i => fun j => if j < i then 0 else q j) 12 (kf (fun j => if j < 12 then 0 else q j)) (fun m => ?_) (fun m i hi => ?_) 1000000 (by omega)
  · have e0 : (fun j => if j < 0 then 0 else q j) = q := funext fun j => if_neg (Nat.not_lt_zero j)
    simp only [e0] at h
    exact h
  · show fX11_readPlan_L29 y1 y2 (m + 1) kf (nI 12) _ = _
    rw [fX11_readPlan_L29, if_pos (show (12 : Int32) ≤ nI 12 by decide)]
  · show fX11_readPlan_L29 y1 y2 (m + 1) kf (nI i) _ = fX11_readPlan_L29 y1 y2 m kf (nI (i + 1)) (fun j => if j < i + 1 then 0 else q j)
    rw [fX11_readPlan_L29, if_neg (ge12 hi), if_pos ((inR_nI (by omega)).mpr hi), nI_clamp (by omega), nI_1]
    congr 1
    funext j
    by_cases e : j = i
    · subst e; rw [pk_us, if_pos (Nat.lt_succ_self j)]
    · rw [pk_un e]
      by_cases e2 : j < i
      · rw [if_pos e2, if_pos (show j < i + 1 by omega)]
      · rw [if_neg e2, if_neg (show ¬ j < i + 1 by omega)]
end RP
