/-! a map and a plan, as class and reference hold them; why a plan is refused -/
def MapR (g : Nat → Int32) (n : Nat) (pop area com outer nb len : Nat → Int32) (cores : Int32) : Prop :=
  g 204 = nI n ∧ n ≤ 12 ∧ (∀ u, u < n → pop u = g (5 * u) ∧ area u = g (5 * u + 1) ∧ com u = g (5 * u + 2) ∧ outer u = g (5 * u + 4) ∧ g (5 * u + 3) = if pbit cores u then 1 else 0) ∧ (∀ u v, u < n → v < n → len (u * 12 + v) = gB g u v) ∧ (∀ u, u < n → nb u = nbS n g u)
section MR
variable {g fp fa fc fo fn fl : Nat → Int32} {n : Nat} {cores : Int32}
theorem MapR.g204 (h : MapR g n fp fa fc fo fn fl cores) : g 204 = nI n := h.1
theorem MapR.n12 (h : MapR g n fp fa fc fo fn fl cores) : n ≤ 12 := h.2.1
theorem MapR.pop (h : MapR g n fp fa fc fo fn fl cores) {u : Nat} (hu : u < n) : fp u = g (5 * u) := (h.2.2.1 u hu).1
theorem MapR.area (h : MapR g n fp fa fc fo fn fl cores) {u : Nat} (hu : u < n) : fa u = g (5 * u + 1) := (h.2.2.1 u hu).2.1
theorem MapR.com (h : MapR g n fp fa fc fo fn fl cores) {u : Nat} (hu : u < n) : fc u = g (5 * u + 2) := (h.2.2.1 u hu).2.2.1
theorem MapR.outer (h : MapR g n fp fa fc fo fn fl cores) {u : Nat} (hu : u < n) : fo u = g (5 * u + 4) := (h.2.2.1 u hu).2.2.2.1
theorem MapR.core (h : MapR g n fp fa fc fo fn fl cores) {u : Nat} (hu : u < n) : g (5 * u + 3) = if pbit cores u then 1 else 0 := (h.2.2.1 u hu).2.2.2.2
theorem MapR.len (h : MapR g n fp fa fc fo fn fl cores) {u v : Nat} (hu : u < n) (hv : v < n) : fl (u * 12 + v) = gB g u v := h.2.2.2.1 u v hu hv
theorem MapR.nb (h : MapR g n fp fa fc fo fn fl cores) {u : Nat} (hu : u < n) : fn u = nbS n g u := h.2.2.2.2 u hu
end MR
/-- a plan: places and sets, and the reference's row -/
def PlanR (n k : Nat) (places sets plan : Nat → Int32) : Prop := (∀ u, u < n → places u = plan u ∧ ∃ d, d < k ∧ plan u = nI d) ∧ (∀ d, d < 4 → sets d = mkS n (fun u => decide (plan u = nI d)))
/-- the set of a district -/
abbrev setS (n : Nat) (plan : Nat → Int32) (d : Nat) : Int32 := mkS n (fun u => decide (plan u = nI d))
theorem setS_12 {n : Nat} (hn : n ≤ 12) {p : Nat → Bool} : ∀ v, pbit (mkS n p) v = true → v < 12 := fun v h => by
  have := (pbit_mkS (by omega)).mp h
  omega
/-- the first of some tests that holds -/
def fstP (k : Nat) (p : Nat → Bool) : Option Nat := (List.range k).find? p
theorem upF {R : Type} (F : Nat → Nat → Option R) (e : Nat) (G : Nat → Option R) (p : Nat → Bool) (r : Option R) (hx : ∀ n, F (n + 1) e = r) (hs : ∀ n i, i < e → p i = false → F (n + 1) i = F n (i + 1)) (hq : ∀ n i, i < e → p i = true → F (n + 1) i = G i) (n : Nat) (hn : e < n) : F n 0 = (fstP e p).elim r G := by
  rw [upX F e G p r hx hs hq e 0 n (by omega) hn]
  unfold fstP
  rw [List.range_eq_range']
  cases List.find? p (List.range' 0 e) <;> rfl
theorem fstP_lt {k : Nat} {p : Nat → Bool} {j : Nat} (h : fstP k p = some j) : j < k ∧ p j = true := ⟨List.mem_range.mp (List.mem_of_find?_eq_some h), List.find?_some h⟩
theorem fstP_none {k : Nat} {p : Nat → Bool} (h : fstP k p = none) {j : Nat} (hj : j < k) : p j = false := by
  have := List.find?_eq_none.mp h j (List.mem_range.mpr hj)
  cases hp : p j
  · rfl
  · exact absurd hp this
theorem fstP_congr {k : Nat} {p q : Nat → Bool} (h : ∀ i, i < k → p i = q i) : fstP k p = fstP k q := by
  unfold fstP
  have : ∀ l : List Nat, (∀ i ∈ l, p i = q i) → l.find? p = l.find? q := by
    intro l
    induction l with
    | nil => intro _; rfl
    | cons a l ih =>
      intro hl
      rw [List.find?_cons, List.find?_cons, hl a List.mem_cons_self, ih fun i hi => hl i (List.mem_cons_of_mem _ hi)]
  exact this _ fun i hi => h i (List.mem_range.mp hi)
/-- units with q in different districts -/
def twoP (n : Nat) (plan : Nat → Int32) (q : Nat → Bool) : Prop := ∃ u v, u < n ∧ v < n ∧ q u = true ∧ q v = true ∧ plan u ≠ plan v
noncomputable def twoB (n : Nat) (plan : Nat → Int32) (q : Nat → Bool) : Bool := @decide (twoP n plan q) (Classical.propDecidable _)
theorem twoB_iff {n : Nat} {plan : Nat → Int32} {q : Nat → Bool} : twoB n plan q = true ↔ twoP n plan q := by
  unfold twoB
  exact @decide_eq_true_iff _ (Classical.propDecidable _)
theorem twoB_false {n : Nat} {plan : Nat → Int32} {q : Nat → Bool} : twoB n plan q = false ↔ ¬ twoP n plan q := by
  rw [← twoB_iff, Bool.not_eq_true]
theorem nI_inj {a b : Nat} (ha : a < 2 ^ 31) (hb : b < 2 ^ 31) (h : nI a = nI b) : a = b := (nI_eq ha hb).mp h
theorem eq0_bit {x : Int32} : x = 0 ↔ ∀ u, pbit x u = false := by
  constructor
  · rintro rfl u; exact pbit_0 u
  · intro h
    apply pbit_ext
    intro u _
    rw [h u, pbit_0]
theorem ne0_bit {x : Int32} (h : x ≠ 0) : ∃ u, pbit x u = true := by
  refine Classical.byContradiction fun hc => h (eq0_bit.mpr fun u => ?_)
  cases hu : pbit x u
  · rfl
  · exact absurd ⟨u, hu⟩ hc
/-- the class's test -/
theorem cuts_iff {n k : Nat} {sets plan : Nat → Int32} {q : Nat → Bool} (hn : n ≤ 12) (hk : k ≤ 4) (hp : ∀ u, u < n → ∃ d, d < k ∧ plan u = nI d) (hs : ∀ d, d < 4 → sets d = setS n plan d) : (∃ d, d < 4 ∧ sets d &&& mkS n q ≠ 0 ∧ sets d &&& mkS n q ≠ mkS n q) ↔ twoP n plan q := by
  constructor
  · rintro ⟨d, hd, h1, h2⟩
    rw [hs d hd] at h1 h2
    obtain ⟨u, hu⟩ := ne0_bit h1
    rw [pbit_and, Bool.and_eq_true, pbit_mkS (by omega), pbit_mkS (by omega)] at hu
    obtain ⟨⟨u1, u2⟩, u3, u4⟩ := hu
    have u2 := of_decide_eq_true u2
    obtain ⟨v, v1, v2⟩ := ne_bit (x := setS n plan d &&& mkS n q) (z := mkS n q) (fun u hu => by rw [pbit_and, Bool.and_eq_true] at hu; exact hu.2) (fun e => h2 e.symm)
    rw [pbit_and, v1, Bool.and_true] at v2
    rw [pbit_mkS (by omega)] at v1
    rw [pbit_mkS' (by omega), decide_eq_true v1.1, Bool.true_and] at v2
    have v3 := of_decide_eq_false v2
    exact ⟨u, v, u1, v1.1, u4, v1.2, fun e => v3 (e.symm.trans u2)⟩
  · rintro ⟨u, v, hu, hv, qu, qv, hne⟩
    obtain ⟨d, hd, e⟩ := hp u hu
    refine ⟨d, by omega, ?_, ?_⟩
    · rw [hs d (by omega)]
      intro h0
      have := eq0_bit.mp h0 u
      rw [pbit_and, pbit_mkS' (by omega), pbit_mkS' (by omega), decide_eq_true hu, qu, decide_eq_true e] at this
      cases this
    · rw [hs d (by omega)]
      intro h0
      have h1 : pbit (mkS n q) v = true := (pbit_mkS (by omega)).mpr ⟨hv, qv⟩
      rw [← h0, pbit_and, Bool.and_eq_true, pbit_mkS (by omega)] at h1
      have := of_decide_eq_true h1.1.2
      exact hne (e.trans this.symm)
theorem pX4_splits {n k : Nat} {sets plan : Nat → Int32} {q : Nat → Bool} (hn : n ≤ 12) (hk : k ≤ 4) (hp : ∀ u, u < n → ∃ d, d < k ∧ plan u = nI d) (hs : ∀ d, d < 4 → sets d = setS n plan d) : fX4_splits sets (mkS n q) = some (if twoB n plan q then 1 else 0) := by
  rw [fX4_splits]
  have key := upA (fun m i => fX4_splits_L2 sets (mkS n q) m (some 0) (nI i)) 4 (fun d => decide (sets d &&& mkS n q ≠ 0) && decide (sets d &&& mkS n q ≠ mkS n q)) (some 0) (some 1) (fun m => ?_) (fun m i hi hp => ?_) (fun m i hi hp => ?_) 1000000 (by omega)
  · refine Eq.trans key ?_
    by_cases h : twoP n plan q
    · rw [twoB_iff.mpr h, if_pos rfl, if_pos]
      obtain ⟨d, h1, h2, h3⟩ := (cuts_iff hn hk hp hs).mpr h
      exact anyB_iff.mpr ⟨d, h1, by rw [decide_eq_true h2, decide_eq_true h3]; rfl⟩
    · rw [twoB_false.mpr h, if_neg ff, if_neg]
      intro h1
      obtain ⟨d, h1, h2⟩ := anyB_iff.mp h1
      rw [Bool.and_eq_true, decide_eq_true_eq, decide_eq_true_eq] at h2
      exact h ((cuts_iff hn hk hp hs).mp ⟨d, h1, h2.1, h2.2⟩)
  · show fX4_splits_L2 sets (mkS n q) (m + 1) _ (nI 4) = _
    rw [fX4_splits_L2, if_pos (show (4 : Int32) ≤ nI 4 by decide)]
  · show fX4_splits_L2 sets (mkS n q) (m + 1) _ (nI i) = fX4_splits_L2 sets (mkS n q) m _ (nI (i + 1))
    rw [fX4_splits_L2, if_neg (ge4 hi), if_pos ((inR_nI (by omega)).mpr hi), nI_clamp (by omega), nI_1]
    simp only [Bool.and_eq_false_iff, decide_eq_false_iff_not, Decidable.not_not] at hp
    rcases hp with hp | hp
    · rw [if_pos hp]
    · by_cases h0 : sets i &&& mkS n q = 0
      · rw [if_pos h0]
      · rw [if_neg h0, if_pos hp]
  · show fX4_splits_L2 sets (mkS n q) (m + 1) _ (nI i) = _
    rw [fX4_splits_L2, if_neg (ge4 hi), if_pos ((inR_nI (by omega)).mpr hi), nI_clamp (by omega)]
    simp only [Bool.and_eq_true, decide_eq_true_eq] at hp
    rw [if_neg hp.1, if_neg hp.2]
/-- the reference's test -/
theorem two_bits (b0 b1 b2 b3 : Bool) : (mkS 4 (fun u => if u = 0 then b0 else if u = 1 then b1 else if u = 2 then b2 else b3) &&& (mkS 4 (fun u => if u = 0 then b0 else if u = 1 then b1 else if u = 2 then b2 else b3) - 1) = 0) ↔ (b0 && b1 || b0 && b2 || b0 && b3 || b1 && b2 || b1 && b3 || b2 && b3) = false := by
  cases b0 <;> cases b1 <;> cases b2 <;> cases b3 <;> decide
theorem seen_iff {n k : Nat} {plan : Nat → Int32} {q : Nat → Bool} (hk : k ≤ 4) (hp : ∀ u, u < n → ∃ d, d < k ∧ plan u = nI d) : (orI n (fun u => if q u then (1 : Int32) <<< (plan u &&& 31) else 0) &&& (orI n (fun u => if q u then (1 : Int32) <<< (plan u &&& 31) else 0) - 1) = 0) ↔ ¬ twoP n plan q := by
  generalize hs : orI n (fun u => if q u then (1 : Int32) <<< (plan u &&& 31) else 0) = s
  have hb : ∀ d, pbit s d = true ↔ ∃ u, u < n ∧ q u = true ∧ plan u = nI d ∧ d < 4 := by
    intro d
    rw [← hs, pbit_orI]
    constructor
    · rintro ⟨u, hu, h⟩
      obtain ⟨d', hd', e⟩ := hp u hu
      cases hq : q u with
      | false => rw [hq, if_neg ff, pbit_0] at h; cases h
      | true =>
        rw [hq, if_pos rfl, e, pbit_shl (by omega)] at h
        have := of_decide_eq_true h
        subst this
        exact ⟨u, hu, hq, e, by omega⟩
    · rintro ⟨u, hu, hq, e, hd⟩
      refine ⟨u, hu, ?_⟩
      rw [hq, if_pos rfl, e, pbit_shl (by omega)]
      exact decide_eq_true rfl
  have e4 : s = mkS 4 (fun u => if u = 0 then pbit s 0 else if u = 1 then pbit s 1 else if u = 2 then pbit s 2 else pbit s 3) := by
    apply pbit_ext
    intro u _
    rw [pbit_mkS' (by omega)]
    by_cases h4 : u < 4
    · rcases (show u = 0 ∨ u = 1 ∨ u = 2 ∨ u = 3 by omega) with rfl | rfl | rfl | rfl <;> simp
    · rw [decide_eq_false h4, Bool.false_and]
      cases h : pbit s u with
      | false => rfl
      | true => obtain ⟨_, _, _, _, h5⟩ := (hb u).mp h; exact absurd h5 h4
  have e5 := two_bits (pbit s 0) (pbit s 1) (pbit s 2) (pbit s 3)
  rw [← e4] at e5
  rw [e5, ← Bool.not_eq_true]
  refine not_congr ?_
  constructor
  · intro h
    have key : ∀ i j, i < 4 → j < 4 → i ≠ j → pbit s i = true → pbit s j = true → twoP n plan q := by
      intro i j hi hj hij h1 h2
      obtain ⟨u, u1, u2, u3, _⟩ := (hb i).mp h1
      obtain ⟨v, v1, v2, v3, _⟩ := (hb j).mp h2
      exact ⟨u, v, u1, v1, u2, v2, fun e => hij (nI_inj (by omega) (by omega) (u3.symm.trans (e.trans v3)))⟩
    simp only [Bool.or_eq_true, Bool.and_eq_true] at h
    rcases h with ((((h | h) | h) | h) | h) | h
    · exact key 0 1 (by decide) (by decide) (by decide) h.1 h.2
    · exact key 0 2 (by decide) (by decide) (by decide) h.1 h.2
    · exact key 0 3 (by decide) (by decide) (by decide) h.1 h.2
    · exact key 1 2 (by decide) (by decide) (by decide) h.1 h.2
    · exact key 1 3 (by decide) (by decide) (by decide) h.1 h.2
    · exact key 2 3 (by decide) (by decide) (by decide) h.1 h.2
  · rintro ⟨u, v, hu, hv, qu, qv, hne⟩
    obtain ⟨i, hi, e1⟩ := hp u hu
    obtain ⟨j, hj, e2⟩ := hp v hv
    have h1 : pbit s i = true := (hb i).mpr ⟨u, hu, qu, e1, by omega⟩
    have h2 : pbit s j = true := (hb j).mpr ⟨v, hv, qv, e2, by omega⟩
    have hij : i ≠ j := fun e => hne (by rw [e1, e2, e])
    simp only [Bool.or_eq_true, Bool.and_eq_true]
    rcases (show i = 0 ∨ i = 1 ∨ i = 2 ∨ i = 3 by omega) with rfl | rfl | rfl | rfl <;> rcases (show j = 0 ∨ j = 1 ∨ j = 2 ∨ j = 3 by omega) with rfl | rfl | rfl | rfl <;> first | exact absurd rfl hij | simp [h1, h2]
/-- the core units of a community -/
def coreB (g : Nat → Int32) (c : Nat) (u : Nat) : Bool := decide (g (5 * u + 2) = nI c) && decide (g (5 * u + 3) = 1)
theorem coresS_eq {g pop area com outer nb len : Nat → Int32} {n : Nat} {cores : Int32} (h : MapR g n pop area com outer nb len cores) (c : Nat) : memS n com (nI c) &&& cores = mkS n (coreB g c) := by
  have hn := h.n12
  apply pbit_ext
  intro u _
  unfold memS coreB
  rw [pbit_and, pbit_mkS' (by omega), pbit_mkS' (by omega)]
  by_cases hu : u < n
  · rw [h.com hu, h.core hu]
    cases pbit cores u <;> simp
  · rw [decide_eq_false hu, Bool.false_and, Bool.false_and, Bool.false_and]
/-- the four tests of a plan -/
abbrev tE (n : Nat) (plan : Nat → Int32) (d : Nat) : Bool := decide (setS n plan d = 0)
abbrev tC (n : Nat) (g plan : Nat → Int32) (d : Nat) : Bool := decide (reachS n (nbS n g) (setS n plan d) ≠ setS n plan d)
noncomputable abbrev tK (n : Nat) (g plan : Nat → Int32) (c : Nat) : Bool := twoB n plan (coreB g c)
abbrev tB (n k : Nat) (g plan : Nat → Int32) (d : Nat) : Bool := decide (¬ 100 * offS n (nI k) (fun u => g (5 * u)) (setS n plan d) ≤ g 206 * sumI n (fun u => g (5 * u)))
/-- why a plan is refused, with the detail -/
noncomputable def reasS (n k : Nat) (g plan : Nat → Int32) : Int32 × Int32 :=
  (fstP k (tE n plan)).elim ((fstP k (tC n g plan)).elim ((fstP 4 (tK n g plan)).elim ((fstP k (tB n k g plan)).elim (0, 0) (fun d => (4, nI d))) (fun c => (3, nI c))) (fun d => (2, nI d))) (fun d => (1, nI d))
theorem offS_congr {n : Nat} {k set : Int32} {f g : Nat → Int32} (h : ∀ u, u < n → f u = g u) : offS n k f set = offS n k g set := by
  unfold offS
  rw [ssum_congr h, sumI_congr h]
theorem pX3_judgePlan {g pop area com outer nb len : Nat → Int32} {n k : Nat} {cores dt rs : Int32} (h : MapR g n pop area com outer nb len cores) (hk : k ≤ 4) {places sets plan : Nat → Int32} (hP : PlanR n k places sets plan) : fX3_judgePlan com cores (nI k) nb pop (g 206) (nI n) sets dt rs = some ((reasS n k g plan).1, (reasS n k g plan).2, (reasS n k g plan).1) := by
  have hn := h.n12
  have hs := hP.2
  have hp := fun u hu => (hP.1 u hu).2
  rw [fX3_judgePlan]
  unfold reasS
  refine Eq.trans (upF (fun m i => fX3_judgePlan_L2 (nI k) sets m _ (nI i) dt rs) k (fun d => some (1, nI d, 1)) (tE n plan) ((fstP k (tC n g plan)).elim ((fstP 4 (tK n g plan)).elim ((fstP k (tB n k g plan)).elim (some (0, 0, 0)) (fun d => some (4, nI d, 4))) (fun c => some (3, nI c, 3))) (fun d => some (2, nI d, 2))) (fun m => ?_) (fun m i hi hq => ?_) (fun m i hi hq => ?_) 1000000 (by omega)) ?_
  · show fX3_judgePlan_L2 (nI k) sets (m + 1) _ (nI k) dt rs = _
    rw [fX3_judgePlan_L2, if_pos (nI_leS k (by omega))]
    -- contiguous
    refine upF (fun m i => fX3_judgePlan_L34 (nI k) nb (nI n) sets m _ (nI i) dt rs) k (fun d => some (2, nI d, 2)) (tC n g plan) _ (fun m => ?_) (fun m i hi hq => ?_) (fun m i hi hq => ?_) 1000000 (by omega)
    · show fX3_judgePlan_L34 (nI k) nb (nI n) sets (m + 1) _ (nI k) dt rs = _
      rw [fX3_judgePlan_L34, if_pos (nI_leS k (by omega))]
      -- cores
      refine upF (fun m i => fX3_judgePlan_L70 com cores (nI n) sets m _ (nI i) dt rs) 4 (fun d => some (3, nI d, 3)) (tK n g plan) _ (fun m => ?_) (fun m i hi hq => ?_) (fun m i hi hq => ?_) 1000000 (by omega)
      · show fX3_judgePlan_L70 com cores (nI n) sets (m + 1) _ (nI 4) dt rs = _
        rw [fX3_judgePlan_L70, if_pos (show (4 : Int32) ≤ nI 4 by decide)]
        -- balance
        refine upF (fun m i => fX3_judgePlan_L102 (nI k) pop (g 206) (nI n) sets m _ (nI i) dt rs) k (fun d => some (4, nI d, 4)) (tB n k g plan) (some (0, 0, 0)) (fun m => ?_) (fun m i hi hq => ?_) (fun m i hi hq => ?_) 1000000 (by omega)
        · show fX3_judgePlan_L102 (nI k) pop (g 206) (nI n) sets (m + 1) _ (nI k) dt rs = _
          rw [fX3_judgePlan_L102, if_pos (nI_leS k (by omega))]; rfl
        · show fX3_judgePlan_L102 (nI k) pop (g 206) (nI n) sets (m + 1) _ (nI i) dt rs = fX3_judgePlan_L102 (nI k) pop (g 206) (nI n) sets m _ (nI (i + 1)) dt rs
          have hq := of_decide_eq_false hq
          rw [fX3_judgePlan_L102, if_neg (nI_ge hi (by omega)), if_pos ((inR_nI (by omega)).mpr (by omega)), nI_clamp (by omega), pX9_isBalanced hn, bind_s, nI_1, hs i (by omega), offS_congr (fun u hu => h.pop hu), sumI_congr (fun u hu => h.pop hu), if_pos (Decidable.not_not.mp hq), if_neg n10]
        · show fX3_judgePlan_L102 (nI k) pop (g 206) (nI n) sets (m + 1) _ (nI i) dt rs = _
          have hq := of_decide_eq_true hq
          rw [fX3_judgePlan_L102, if_neg (nI_ge hi (by omega)), if_pos ((inR_nI (by omega)).mpr (by omega)), nI_clamp (by omega), pX9_isBalanced hn, bind_s, hs i (by omega), offS_congr (fun u hu => h.pop hu), sumI_congr (fun u hu => h.pop hu), if_neg hq, if_pos rfl]; rfl
      · show fX3_judgePlan_L70 com cores (nI n) sets (m + 1) _ (nI i) dt rs = fX3_judgePlan_L70 com cores (nI n) sets m _ (nI (i + 1)) dt rs
        rw [fX3_judgePlan_L70, if_neg (ge4 hi), pX9_coresOf hn, bind_s, coresS_eq h, pX4_splits hn hk hp hs, bind_s, show twoB n plan (coreB g i) = false from hq, if_neg ff, if_pos rfl, nI_1]
      · show fX3_judgePlan_L70 com cores (nI n) sets (m + 1) _ (nI i) dt rs = _
        rw [fX3_judgePlan_L70, if_neg (ge4 hi), pX9_coresOf hn, bind_s, coresS_eq h, pX4_splits hn hk hp hs, bind_s, show twoB n plan (coreB g i) = true from hq, if_pos rfl, if_neg n10]; rfl
    · show fX3_judgePlan_L34 (nI k) nb (nI n) sets (m + 1) _ (nI i) dt rs = fX3_judgePlan_L34 (nI k) nb (nI n) sets m _ (nI (i + 1)) dt rs
      have hq := of_decide_eq_false hq
      rw [fX3_judgePlan_L34, if_neg (nI_ge hi (by omega)), if_pos ((inR_nI (by omega)).mpr (by omega)), nI_clamp (by omega), hs i (by omega), pX9_isContiguous hn (setS_12 hn), bind_s, nI_1, reachS_congr hn (setS_12 hn) (fun u hu => h.nb hu), if_pos (Decidable.not_not.mp hq), if_neg n10]
    · show fX3_judgePlan_L34 (nI k) nb (nI n) sets (m + 1) _ (nI i) dt rs = _
      have hq := of_decide_eq_true hq
      rw [fX3_judgePlan_L34, if_neg (nI_ge hi (by omega)), if_pos ((inR_nI (by omega)).mpr (by omega)), nI_clamp (by omega), hs i (by omega), pX9_isContiguous hn (setS_12 hn), bind_s, reachS_congr hn (setS_12 hn) (fun u hu => h.nb hu), if_neg hq, if_pos rfl]; rfl
  · show fX3_judgePlan_L2 (nI k) sets (m + 1) _ (nI i) dt rs = fX3_judgePlan_L2 (nI k) sets m _ (nI (i + 1)) dt rs
    have hq := of_decide_eq_false hq
    rw [fX3_judgePlan_L2, if_neg (nI_ge hi (by omega)), if_pos ((inR_nI (by omega)).mpr (by omega)), nI_clamp (by omega), hs i (by omega), if_neg hq, nI_1]
  · show fX3_judgePlan_L2 (nI k) sets (m + 1) _ (nI i) dt rs = _
    have hq := of_decide_eq_true hq
    rw [fX3_judgePlan_L2, if_neg (nI_ge hi (by omega)), if_pos ((inR_nI (by omega)).mpr (by omega)), nI_clamp (by omega), hs i (by omega), if_pos hq]; rfl
  · cases fstP k (tE n plan) with
    | some d => rfl
    | none =>
      cases fstP k (tC n g plan) with
      | some d => rfl
      | none =>
        cases fstP 4 (tK n g plan) with
        | some c => rfl
        | none =>
          cases fstP k (tB n k g plan) with
          | some d => rfl
          | none => rfl
