/-! the calls that ask -/
/-- which of the law's handlers takes a thrown thing -/
def cdN : List String → String → Nat
  | [], _ => 0
  | a :: l, s => if s = a then 1 else if cdN l s = 0 then 0 else cdN l s + 1
/-- an answer or a thrown thing as the reference has it -/
def ansR {α : Type} (names : List String) (r : String ⊕ α) (b : α) (th : Int32) : Prop := match r with
  | Sum.inl s => cdN names s ≠ 0 ∧ th = nI (cdN names s)
  | Sum.inr v => th = 0 ∧ v = b
theorem se_l {α β γ : Type} {f : α → γ} {h : β → γ} {a : α} : Sum.elim f h (Sum.inl a) = f a := rfl
theorem se_r {α β γ : Type} {f : α → γ} {h : β → γ} {b : β} : Sum.elim f h (Sum.inr b) = h b := rfl
theorem rng {x : Int32} {n : Nat} (hn : n < 2 ^ 31) : (inR x n ∧ ¬ x < 0 ∧ x < nI n) ∨ (¬ inR x n ∧ x < 0) ∨ (¬ inR x n ∧ ¬ x < 0 ∧ ¬ x < nI n) := by
  have h0 : (0 : Int32).toInt = 0 := by decide
  rw [Int32.lt_iff_toInt_lt, Int32.lt_iff_toInt_lt, nI_toInt hn, h0]
  show ((0 ≤ x.toInt ∧ x.toInt < (n : Int)) ∧ _) ∨ (¬ (0 ≤ x.toInt ∧ x.toInt < (n : Int)) ∧ _) ∨ (¬ (0 ≤ x.toInt ∧ x.toInt < (n : Int)) ∧ _)
  omega
theorem pX10_checkUnit {n : Nat} (hn : n < 2 ^ 31) (x : Int32) : fX10_checkUnit (nI n) x = some (if inR x n then Sum.inr () else Sum.inl "java/lang/IndexOutOfBoundsException") := by
  rw [fX10_checkUnit]
  rcases rng (x := x) hn with ⟨a, b, c⟩ | ⟨a, b⟩ | ⟨a, b, c⟩
  · rw [if_neg b, if_pos c, if_pos a]
  · rw [if_pos b, if_neg a]
  · rw [if_neg b, if_neg c, if_neg a]
theorem pX10_checkDistrict {n : Nat} (hn : n < 2 ^ 31) (x : Int32) : fX10_checkDistrict (nI n) x = some (if inR x n then Sum.inr () else Sum.inl "java/lang/IndexOutOfBoundsException") := pX10_checkUnit hn x
theorem pX10_checkMeasure (x : Int32) : fX10_checkMeasure x = some (if inR x 4 then Sum.inr () else Sum.inl "java/lang/IllegalArgumentException") := by
  rw [fX10_checkMeasure]
  rcases rng (x := x) (show 4 < 2 ^ 31 by decide) with ⟨a, b, c⟩ | ⟨a, b⟩ | ⟨a, b, c⟩
  · rw [if_neg b, if_pos (show x < (4 : Int32) from c), if_pos a]
  · rw [if_pos b, if_neg a]
  · rw [if_neg b, if_neg (show ¬ x < (4 : Int32) from c), if_neg a]
theorem pX11_inZ {n : Nat} (hn : n < 2 ^ 30) (x : Int32) : fX11_in x 0 (nI n) = some (if inR x (n + 1) then 1 else 0) := by
  rw [fX11_in]
  have e : ∀ y : Int32, (nI n < y ↔ ¬ y < nI (n + 1)) := fun y => by
    rw [Int32.lt_iff_toInt_lt, Int32.lt_iff_toInt_lt, nI_toInt (by omega), nI_toInt (by omega)]; omega
  rcases rng (x := x) (show n + 1 < 2 ^ 31 by omega) with ⟨a, b, c⟩ | ⟨a, b⟩ | ⟨a, b, c⟩
  · rw [if_neg b, if_neg (fun q => (e x).mp q c), if_pos a]
  · rw [if_pos b, if_neg a]
  · rw [if_neg b, if_pos ((e x).mpr c), if_neg a]
theorem pX11_in3 (x : Int32) : fX11_in x 0 3 = some (if inR x 4 then 1 else 0) := pX11_inZ (n := 3) (by decide) x
theorem pX10_checkListed {n : Nat} (hn : n ≤ 12) : fX10_checkListed (nI n) = some (if 1 ≤ n ∧ n ≤ 9 then Sum.inr () else Sum.inl "java/lang/IllegalStateException") := by
  rw [fX10_checkListed]
  by_cases h1 : 1 ≤ n
  · rw [if_neg (show ¬ nI n < (1 : Int32) from nI_nlt h1 (by omega))]
    by_cases h2 : n ≤ 9
    · rw [if_pos (show nI n ≤ (9 : Int32) from nI_le h2 (by decide)), if_pos ⟨h1, h2⟩]
    · rw [if_neg (show ¬ nI n ≤ (9 : Int32) from nI_ge (show 9 < n by omega) (by omega)), if_neg (fun q => h2 q.2)]
  · rw [if_pos (show nI n < (1 : Int32) from nI_lt (show n < 1 by omega) (by decide)), if_neg (fun q => h1 q.1)]
theorem pX11_isSmall {g : Nat → Int32} {n : Nat} (hg : g 204 = nI n) (hn : n ≤ 12) : fX11_isSmall g = some (if 1 ≤ n ∧ n ≤ 9 then 1 else 0) := by
  rw [fX11_isSmall, k204, hg, fX11_in]
  by_cases h1 : 1 ≤ n
  · rw [if_neg (show ¬ nI n < (1 : Int32) from nI_nlt h1 (by omega))]
    by_cases h2 : n ≤ 9
    · rw [if_neg (show ¬ (9 : Int32) < nI n from nI_nlt h2 (by decide)), if_pos ⟨h1, h2⟩]; rfl
    · rw [if_pos (show (9 : Int32) < nI n from nI_lt (show 9 < n by omega) (by omega)), if_neg (fun q => h2 q.2)]; rfl
  · rw [if_pos (show nI n < (1 : Int32) from nI_lt (show n < 1 by omega) (by decide)), if_neg (fun q => h1 q.1)]; rfl
theorem c_fails (x : Int32) : fX11_fails x = some (0, x) := rfl
theorem c_done (x : Int32) : fX11_done x = some (x, 0) := rfl
theorem op_refusal (kd kr x : Int32) : ∃ r b th, fX10_refusal kd kr x = some r ∧ fX11_refusal kd kr x = some (b, th) ∧ ansR ["java/util/NoSuchElementException"] r b th := by
  rw [fX10_refusal, fX11_refusal]
  by_cases h : kr = 0
  · rw [if_pos h, if_pos h]
    exact ⟨_, _, _, rfl, rfl, by decide +kernel, by decide +kernel⟩
  · rw [if_neg h, if_neg h]
    by_cases h2 : x = 0
    · rw [if_pos h2, if_pos h2]; exact ⟨_, _, _, rfl, rfl, rfl, rfl⟩
    · rw [if_neg h2, if_neg h2]; exact ⟨_, _, _, rfl, rfl, rfl, rfl⟩
/-- the impossible statement: -1 or a number -/
def ImpR (x : Int32) : Prop := x = -1 ∨ 0 ≤ x
theorem op_impossible {x : Int32} (h : ImpR x) : ∃ r b th, fX10_impossible x = some r ∧ fX11_impossible x = some (b, th) ∧ ansR ["java/util/NoSuchElementException"] r b th := by
  rw [fX10_impossible, fX11_impossible]
  rcases h with rfl | h
  · rw [if_neg (by decide), if_pos rfl]
    exact ⟨_, _, _, rfl, rfl, by decide +kernel, by decide +kernel⟩
  · rw [if_pos h, if_neg (fun e => by rw [e] at h; exact absurd h (by decide))]
    exact ⟨_, _, _, rfl, rfl, rfl, rfl⟩
theorem add207x {u : Nat} : (207 : Int32) + nI u = nI (207 + u) := add207
theorem pX11_districtOf {g : Nat → Int32} {u : Nat} (hu : u < 12) : fX11_districtOf g (nI u) = some (if g 219 = 1 then g (207 + u) else -1) := by
  rw [fX11_districtOf, k219, add207x, if_pos ((inR_nI (by omega)).mpr (by omega)), nI_clamp (by omega)]
  split <;> rfl
section RD
variable {g area com : Nat → Int32} {cores dist has : Int32} {len nb outer places sets pop : Nat → Int32} {tol units : Int32}
theorem op_letter (h : WR g area com cores dist has len nb outer places sets pop tol units) (x : Int32) : ∃ r b th, fX10_letter has places units x = some r ∧ fX11_letter g x = some (b, th) ∧ ansR ["java/lang/IndexOutOfBoundsException", "java/lang/IllegalStateException"] r b th := by
  obtain ⟨n, k, rfl, hR, hW, hX, rfl, e3, e4, e5, rfl, ⟨t, e7, e8⟩, rfl, e10, e11⟩ := h
  have hn := hR.n12
  rw [fX10_letter, fX11_letter, pX10_checkUnit (by omega), bind_s, pX11_isUnit hR.g204 (by omega), bind_s, k219]
  by_cases hx : inR x n
  · obtain ⟨u, hu, rfl⟩ := inR_of hx (by omega)
    rw [if_pos hx, if_pos hx, if_neg n10, se_r, fX10_checkPlan]
    by_cases hp : g 219 = 0
    · rw [if_pos hp, if_pos hp, bind_s, se_l]
      exact ⟨_, _, _, rfl, rfl, by decide +kernel, by decide +kernel⟩
    · have hP := (e11 (e10.resolve_left hp)).2
      rw [if_neg hp, if_neg hp, bind_s, se_r, if_pos ((inR_nI (by omega)).mpr (by omega)), nI_clamp (by omega), add207x, if_pos ((inR_nI (by omega)).mpr (by omega)), nI_clamp (by omega), (hP.1 u hu).1]
      exact ⟨_, _, _, rfl, rfl, rfl, rfl⟩
  · rw [if_neg hx, if_neg hx, if_pos rfl, se_l]
    exact ⟨_, _, _, rfl, rfl, by decide +kernel, by decide +kernel⟩
theorem op_border (h : WR g area com cores dist has len nb outer places sets pop tol units) (x y : Int32) : ∃ r b th, fX10_border len units x y = some r ∧ fX11_border g x y = some (b, th) ∧ ansR ["java/lang/IndexOutOfBoundsException"] r b th := by
  obtain ⟨n, k, rfl, hR, -⟩ := h
  have hn := hR.n12
  rw [fX10_border, fX11_border, pX10_checkUnit (by omega), bind_s, pX11_isUnit hR.g204 (by omega), bind_s]
  by_cases hx : inR x n
  · rw [if_pos hx, if_pos hx, if_neg n10, se_r, pX10_checkUnit (by omega), bind_s, pX11_isUnit hR.g204 (by omega), bind_s]
    by_cases hy : inR y n
    · obtain ⟨u, hu, rfl⟩ := inR_of hx (by omega)
      obtain ⟨v, hv, rfl⟩ := inR_of hy (by omega)
      rw [if_pos hy, if_pos hy, if_neg n10, se_r, pX9_lengthBetween (by omega) (by omega), bind_s, pX11_borderOf (by omega) (by omega), bind_s, hR.len hu hv]
      exact ⟨_, _, _, rfl, rfl, rfl, rfl⟩
    · rw [if_neg hy, if_neg hy, if_pos rfl, se_l]
      exact ⟨_, _, _, rfl, rfl, by decide +kernel, by decide +kernel⟩
  · rw [if_neg hx, if_neg hx, if_pos rfl, se_l]
    exact ⟨_, _, _, rfl, rfl, by decide +kernel, by decide +kernel⟩
theorem pX11_unit_L96 {n : Nat} (hg : g 204 = nI n) (hn : n ≤ 12) {u : Nat} (hu : u < n) (kf : Int32 → Option (Int32 × Int32)) : fX11_unit_L96 g (nI u) 1000000 kf 0 0 = kf (if anyB n (fun v => decide (0 < gB g u v) && decide (g 219 = 1) && decide (g (207 + v) ≠ g (207 + u))) then 1 else 0) := by
  refine upS (fun m i s => fX11_unit_L96 g (nI u) m kf s (nI i)) (fun i => if anyB i (fun v => decide (0 < gB g u v) && decide (g 219 = 1) && decide (g (207 + v) ≠ g (207 + u))) then 1 else 0) n _ (fun m => ?_) (fun m i hi => ?_) 1000000 (by omega)
  · show fX11_unit_L96 g (nI u) (m + 1) kf _ (nI n) = _
    rw [fX11_unit_L96, k204, hg, if_pos (nI_leS n (by omega))]
  · show fX11_unit_L96 g (nI u) (m + 1) kf _ (nI i) = fX11_unit_L96 g (nI u) m kf _ (nI (i + 1))
    rw [fX11_unit_L96, k204, hg, if_neg (nI_ge hi (by omega)), pX11_borderOf (by omega) (by omega), bind_s, nI_1, anyB_succ, pX11_districtOf (by omega), bind_s, pX11_districtOf (by omega), bind_s]
    generalize hA : anyB i (fun v => decide (0 < gB g u v) && decide (g 219 = 1) && decide (g (207 + v) ≠ g (207 + u))) = A
    by_cases h1 : gB g u i ≤ 0
    · have e1 : decide (0 < gB g u i) = false := decide_eq_false (by rw [lt_nle]; exact fun q => q h1)
      rw [if_pos h1, e1, Bool.false_and, Bool.false_and, Bool.or_false]
    · have e1 : decide (0 < gB g u i) = true := decide_eq_true (by rw [lt_nle]; exact h1)
      rw [if_neg h1, e1, Bool.true_and]
      by_cases h2 : g 219 = 1
      · have e2 : decide (g 219 = 1) = true := decide_eq_true h2
        rw [if_pos h2, if_pos h2, e2, Bool.true_and]
        by_cases h3 : g (207 + i) = g (207 + u)
        · have e3 : decide (g (207 + i) ≠ g (207 + u)) = false := decide_eq_false (fun q => q h3)
          rw [if_pos h3, e3, Bool.or_false]
        · have e3 : decide (g (207 + i) ≠ g (207 + u)) = true := decide_eq_true h3
          rw [if_neg h3, e3, Bool.or_true, if_pos rfl]
      · have e2 : decide (g 219 = 1) = false := decide_eq_false h2
        rw [if_neg h2, if_neg h2, if_pos rfl, e2, Bool.false_and, Bool.or_false]
theorem op_unit (h : WR g area com cores dist has len nb outer places sets pop tol units) (x y : Int32) : ∃ r b th, fX10_unit area com cores has nb outer places sets pop units x y = some r ∧ fX11_unit g x y = some (b, th) ∧ ansR ["java/lang/IndexOutOfBoundsException", "java/lang/IllegalArgumentException"] r b th := by
  obtain ⟨n, k, rfl, hR, hW, hX, rfl, e3, e4, e5, rfl, ⟨t, e7, e8⟩, rfl, e10, e11⟩ := h
  have hn := hR.n12
  rw [fX10_unit, fX11_unit, pX10_checkUnit (by omega), bind_s, pX11_isUnit hR.g204 (by omega), bind_s]
  by_cases hx : inR x n
  · obtain ⟨u, hu, rfl⟩ := inR_of hx (by omega)
    have hx12 : inR (nI u) 12 := (inR_nI (by omega)).mpr (by omega)
    rw [if_pos hx, if_pos hx, if_neg n10, se_r, nI_clamp (by omega)]
    by_cases y0 : y = 0
    · subst y0
      rw [if_pos rfl, if_pos rfl, if_pos hx12, show (0 : Int32) = nI 0 from rfl, pX11_of (by omega) (by omega), bind_s, hR.pop hu]
      exact ⟨_, _, _, rfl, rfl, rfl, rfl⟩
    rw [if_neg y0, if_neg y0]
    by_cases y1 : y = 1
    · subst y1
      rw [if_pos rfl, if_pos rfl, if_pos hx12, show (1 : Int32) = nI 1 from rfl, pX11_of (by omega) (by omega), bind_s, hR.area hu]
      exact ⟨_, _, _, rfl, rfl, rfl, rfl⟩
    rw [if_neg y1, if_neg y1]
    by_cases y2 : y = 2
    · subst y2
      rw [if_pos rfl, if_pos rfl, if_pos hx12, show (2 : Int32) = nI 2 from rfl, pX11_of (by omega) (by omega), bind_s, hR.com hu]
      exact ⟨_, _, _, rfl, rfl, rfl, rfl⟩
    rw [if_neg y2, if_neg y2]
    by_cases y3 : y = 3
    · subst y3
      rw [if_pos rfl, if_pos rfl, pbit_shr _ (by omega), show (3 : Int32) = nI 3 from rfl, pX11_of (by omega) (by omega), bind_s, hR.core hu]
      exact ⟨_, _, _, rfl, rfl, rfl, rfl⟩
    rw [if_neg y3, if_neg y3]
    by_cases y4 : y = 4
    · subst y4
      rw [if_pos rfl, if_pos rfl, if_pos hx12, show (4 : Int32) = nI 4 from rfl, pX11_of (by omega) (by omega), bind_s, hR.outer hu]
      exact ⟨_, _, _, rfl, rfl, rfl, rfl⟩
    rw [if_neg y4, if_neg y4]
    by_cases y5 : y = 5
    · rw [if_pos y5, if_pos y5, if_pos hx12, pX11_neighbors hR.g204 hn (by omega), bind_s, hR.nb hu]
      exact ⟨_, _, _, rfl, rfl, rfl, rfl⟩
    rw [if_neg y5, if_neg y5]
    by_cases y6 : y = 6
    · rw [if_pos y6, if_pos y6, pX11_districtOf (by omega), bind_s]
      by_cases hp : g 219 = 0
      · rw [if_pos hp, if_neg (fun e => by rw [hp] at e; exact absurd e (by decide))]
        exact ⟨_, _, _, rfl, rfl, rfl, rfl⟩
      · have h1 := e10.resolve_left hp
        rw [if_neg hp, if_pos h1, if_pos hx12, ((e11 h1).2.1 u hu).1]
        exact ⟨_, _, _, rfl, rfl, rfl, rfl⟩
    rw [if_neg y6, if_neg y6]
    by_cases y7 : y = 7
    · rw [if_pos y7, if_pos y7, pX11_unit_L96 hR.g204 hn hu, fX9_isAtEdge]
      by_cases hp : g 219 = 0
      · have e : anyB n (fun v => decide (0 < gB g u v) && decide (g 219 = 1) && decide (g (207 + v) ≠ g (207 + u))) = false := anyB_false.mpr fun v _ => by
          rw [hp, decide_eq_false (show ¬ (0 : Int32) = 1 by decide), Bool.and_false, Bool.false_and]
        rw [if_pos hp, bind_s, if_pos rfl, e]
        exact ⟨_, _, _, rfl, rfl, rfl, rfl⟩
      · have h1 := e10.resolve_left hp
        have hP := (e11 h1).2
        obtain ⟨d, hd, ed⟩ := (hP.1 u hu).2
        have ed : g (207 + u) = nI d := ed
        have ep : places u = nI d := (hP.1 u hu).1.trans ed
        rw [if_neg hp, if_pos hx12, if_pos hx12, nI_clamp (by omega), ep, if_pos ((inR_nI (by omega)).mpr (by omega)), nI_clamp (by omega), hR.nb hu, hP.2 d (by omega)]
        have key : (nbS n g u &&& (setS n (fun x => g (207 + x)) d ^^^ (-1 : Int32)) = 0) ↔ anyB n (fun v => decide (0 < gB g u v) && decide (g 219 = 1) && decide (g (207 + v) ≠ g (207 + u))) = false := by
          rw [eq0_bit, anyB_false]
          constructor
          · intro q v hv
            have := q v
            unfold nbS at this
            rw [pbit_and, pbit_not _ (by omega), pbit_mkS' (by omega), pbit_mkS' (by omega), decide_eq_true hv, Bool.true_and, Bool.true_and] at this
            rw [h1, decide_eq_true rfl, Bool.and_true, ed]
            cases hb : decide (0 < gB g u v) with
            | false => rfl
            | true =>
              rw [hb, Bool.true_and] at this
              rw [Bool.true_and]
              by_cases q2 : g (207 + v) = nI d
              · exact decide_eq_false (fun q3 => q3 q2)
              · rw [decide_eq_false q2] at this; cases this
          · intro q v
            rcases Nat.lt_or_ge v n with hv | hv
            · have := q v hv
              rw [h1, decide_eq_true rfl, Bool.and_true, ed] at this
              unfold nbS
              rw [pbit_and, pbit_not _ (by omega), pbit_mkS' (by omega), pbit_mkS' (by omega), decide_eq_true hv, Bool.true_and, Bool.true_and]
              cases hb : decide (0 < gB g u v) with
              | false => rfl
              | true =>
                rw [hb, Bool.true_and] at this
                have := Decidable.not_not.mp (of_decide_eq_false this)
                rw [Bool.true_and, decide_eq_true this]; rfl
            · unfold nbS
              rw [pbit_and, pbit_mkS' (by omega), decide_eq_false (by omega), Bool.false_and, Bool.false_and]
        cases ha : anyB n (fun v => decide (0 < gB g u v) && decide (g 219 = 1) && decide (g (207 + v) ≠ g (207 + u))) with
        | false =>
          rw [if_pos (key.mpr ha), bind_s, if_pos rfl]
          exact ⟨_, _, _, rfl, rfl, rfl, rfl⟩
        | true =>
          rw [if_neg (fun q => by rw [key.mp q] at ha; cases ha), bind_s, if_neg n10]
          exact ⟨_, _, _, rfl, rfl, rfl, rfl⟩
    rw [if_neg y7, if_neg y7]
    exact ⟨_, _, _, rfl, rfl, by decide +kernel, by decide +kernel⟩
  · rw [if_neg hx, if_neg hx, if_pos rfl, se_l]
    exact ⟨_, _, _, rfl, rfl, by decide +kernel, by decide +kernel⟩
theorem op_measure {vb vt : Int64} (h : WR g area com cores dist has len nb outer places sets pop tol units) (ab be : Int64) (plan : Nat → Int32) (x y : Int32) : ∃ r vb' vt' b ab' be' plan' th, fX10_measure area com dist has len outer places sets pop units vb vt x y = some (r, vb', vt') ∧ fX11_measure ab be g plan x y = some (b, ab', be', plan', th) ∧ ansR ["java/lang/IllegalArgumentException", "java/lang/IllegalStateException"] r b th := by
  obtain ⟨n, k, rfl, hR, hW, hX, rfl, e3, e4, e5, rfl, ⟨t, e7, e8⟩, rfl, e10, e11⟩ := h
  have hn := hR.n12
  rw [fX10_measure, fX11_measure, pX10_checkMeasure, bind_s, pX11_in3, bind_s, k219]
  by_cases hx : inR x 4
  · rw [if_pos hx, if_pos hx, if_neg n10, se_r, fX10_checkPlan]
    by_cases hp : g 219 = 0
    · rw [if_pos hp, if_pos hp, bind_s, se_l]
      exact ⟨_, _, _, _, _, _, _, _, rfl, rfl, by decide +kernel, by decide +kernel⟩
    · obtain ⟨h1, hP⟩ := e11 (e10.resolve_left hp)
      have hP0 : PlanR n k places sets (tl g plan) := hP.congr (fun _ _ => rfl) (fun _ _ => rfl) (fun u hu => if_pos (by omega))
      rw [if_neg hp, if_neg hp, bind_s, se_r, pX6_weigh hR hW h1 e5 hP0, bind_s, pX11_tells, bind_s, pX11_tellMeasure hR.g204 hn e3 hW h1 (by omega) e5 hP0.m, bind_s]
      by_cases hy : y = 0
      · rw [if_pos hy, if_pos hy]
        exact ⟨_, _, _, _, _, _, _, _, rfl, rfl, rfl, rfl⟩
      · rw [if_neg hy, if_neg hy]
        exact ⟨_, _, _, _, _, _, _, _, rfl, rfl, rfl, rfl⟩
  · rw [if_neg hx, if_neg hx, if_pos rfl, se_l]
    exact ⟨_, _, _, _, _, _, _, _, rfl, rfl, by decide +kernel, by decide +kernel⟩
end RD
