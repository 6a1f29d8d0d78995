/-! perimeters, cuts, measures -/
theorem sumI_add {f h : Nat → Int32} : ∀ {n : Nat}, sumI n (fun u => f u + h u) = sumI n f + sumI n h
  | 0 => rfl
  | n + 1 => by
    rw [sumI, sumI, sumI, sumI_add]
    simp only [Int32.add_assoc]
    congr 1
    rw [← Int32.add_assoc, ← Int32.add_assoc, Int32.add_comm (sumI n h)]
theorem sumI_zero {f : Nat → Int32} : ∀ {n : Nat}, (∀ u, u < n → f u = 0) → sumI n f = 0
  | 0, _ => rfl
  | n + 1, h => by rw [sumI, sumI_zero (fun u hu => h u (by omega)), h n (by omega)]; rfl
theorem sumI_swap {F : Nat → Nat → Int32} {m : Nat} : ∀ {n : Nat}, sumI n (fun u => sumI m (fun v => F u v)) = sumI m (fun v => sumI n (fun u => F u v))
  | 0 => (sumI_zero (fun _ _ => rfl)).symm
  | n + 1 => by
    rw [sumI, sumI_swap, ← sumI_add]
    exact sumI_congr fun v _ => rfl
theorem add_as (a b c : Int32) : a + b + c = a + (b + c) := Int32.add_assoc a b c
/-- the reference's perimeter -/
theorem pX11_perimeter {g plan : Nat → Int32} {n d : Nat} (hg : g 204 = nI n) (hn : n ≤ 12) : fX11_perimeter g plan (nI d) = some (perS n (fun u => g (5 * u + 4)) (gB g) (setS n plan d)) := by
  rw [fX11_perimeter, pX11_set hg hn, bind_s, show (4 : Int32) = nI 4 from rfl, pX11_sum hg hn (by omega), bind_s]
  have inner : ∀ (u : Nat) (s : Int32) (kf : Int32 → Option Int32), u < 12 → fX11_perimeter_L28 g plan (nI d) (nI u) 1000000 kf s 0 = kf (s + sumI n (fun v => if plan u = nI d then (if plan v = nI d then 0 else gB g u v) else 0)) := by
    intro u s kf hu
    have e0 : s + sumI 0 (fun v => if plan u = nI d then (if plan v = nI d then 0 else gB g u v) else 0) = s := add_0 s
    have h := upS (fun m i s => fX11_perimeter_L28 g plan (nI d) (nI u) m kf s (nI i)) (fun i => s + sumI i (fun v => if plan u = nI d then (if plan v = nI d then 0 else gB g u v) else 0)) n (kf (s + sumI n (fun v => if plan u = nI d then (if plan v = nI d then 0 else gB g u v) else 0))) (fun m => ?_) (fun m i hi => ?_) 1000000 (by omega)
    · simp only [e0] at h
      exact h
    · show fX11_perimeter_L28 g plan (nI d) (nI u) (m + 1) kf _ (nI n) = _
      rw [fX11_perimeter_L28, k204, hg, if_pos (nI_leS n (by omega))]
    · show fX11_perimeter_L28 g plan (nI d) (nI u) (m + 1) kf _ (nI i) = fX11_perimeter_L28 g plan (nI d) (nI u) m kf (s + (sumI i _ + (if plan u = nI d then (if plan i = nI d then 0 else gB g u i) else 0))) (nI (i + 1))
      rw [fX11_perimeter_L28, k204, hg, if_neg (nI_ge hi (by omega)), if_pos ((inR_nI (by omega)).mpr hu), nI_clamp (by omega), nI_1, ← add_as]
      by_cases h1 : plan u = nI d
      · rw [if_pos h1, if_pos h1, if_pos ((inR_nI (by omega)).mpr (by omega)), nI_clamp (by omega)]
        by_cases h2 : plan i = nI d
        · rw [if_pos h2, if_pos h2]
        · rw [if_neg h2, if_neg h2, pX11_borderOf hu (by omega), bind_s]
      · rw [if_neg h1, if_neg h1]
  have outer := upS (fun m i s => fX11_perimeter_L13 g plan (nI d) m (fun z => some z) s (nI i)) (fun i => ssum n (setS n plan d) (fun u => g (5 * u + 4)) + sumI i (fun u => sumI n (fun v => if plan u = nI d then (if plan v = nI d then 0 else gB g u v) else 0))) n (some (ssum n (setS n plan d) (fun u => g (5 * u + 4)) + sumI n (fun u => sumI n (fun v => if plan u = nI d then (if plan v = nI d then 0 else gB g u v) else 0)))) (fun m => ?_) (fun m i hi => ?_) 1000000 (by omega)
  · have e0 : ssum n (setS n plan d) (fun u => g (5 * u + 4)) + sumI 0 (fun u => sumI n (fun v => if plan u = nI d then (if plan v = nI d then 0 else gB g u v) else 0)) = ssum n (setS n plan d) (fun u => g (5 * u + 4)) := add_0 _
    simp only [e0] at outer
    refine Eq.trans outer ?_
    unfold perS ssum
    rw [← sumI_add]
    congr 1
    refine sumI_congr fun u hu => ?_
    rw [pbit_mkS' (by omega), decide_eq_true hu, Bool.true_and]
    by_cases h1 : plan u = nI d
    · rw [decide_eq_true h1, if_pos rfl, if_pos rfl]
      congr 1
      refine sumI_congr fun v hv => ?_
      rw [if_pos h1, pbit_mkS' (by omega), decide_eq_true hv, Bool.true_and]
      by_cases h2 : plan v = nI d
      · rw [if_pos h2, decide_eq_true h2, if_pos rfl]
      · rw [if_neg h2, decide_eq_false h2, if_neg ff]
    · rw [decide_eq_false h1, if_neg ff, if_neg ff, sumI_zero (fun v _ => if_neg h1)]; rfl
  · show fX11_perimeter_L13 g plan (nI d) (m + 1) _ _ (nI n) = _
    rw [fX11_perimeter_L13, k204, hg, if_pos (nI_leS n (by omega))]
  · show fX11_perimeter_L13 g plan (nI d) (m + 1) _ _ (nI i) = fX11_perimeter_L13 g plan (nI d) m _ (_ + (sumI i _ + _)) (nI (i + 1))
    rw [fX11_perimeter_L13, k204, hg, if_neg (nI_ge hi (by omega)), inner i _ _ (by omega), nI_1, ← add_as]
theorem perS_congr {n : Nat} {o o' : Nat → Int32} {b b' : Nat → Nat → Int32} {set : Int32} (h1 : ∀ u, u < n → o u = o' u) (h2 : ∀ u v, u < n → v < n → b u v = b' u v) : perS n o b set = perS n o' b' set := by
  unfold perS
  refine sumI_congr fun u hu => ?_
  rw [h1 u hu, sumI_congr fun v hv => by rw [h2 u v hu hv]]
/-- the cut between different districts -/
def cutS (n : Nat) (g plan : Nat → Int32) : Int32 := sumI n (fun u => sumI n (fun v => if v < u then (if plan u = plan v then 0 else gB g u v) else 0))
theorem pX11_cutLengths {g plan : Nat → Int32} {n : Nat} (hg : g 204 = nI n) (hn : n ≤ 12) : fX11_cutLengths g plan = some (cutS n g plan) := by
  rw [fX11_cutLengths]
  have inner : ∀ (u : Nat) (s : Int32) (kf : Int32 → Option Int32), u < n → fX11_cutLengths_L18 g plan (nI u) 1000000 kf s 0 = kf (s + sumI n (fun v => if v < u then (if plan u = plan v then 0 else gB g u v) else 0)) := by
    intro u s kf hu
    have e0 : s + sumI 0 (fun v => if plan u = plan v then 0 else gB g u v) = s := add_0 s
    have e1 : sumI n (fun v => if v < u then (if plan u = plan v then 0 else gB g u v) else 0) = sumI u (fun v => if plan u = plan v then 0 else gB g u v) := by
      have : ∀ k, u + k ≤ n → sumI (u + k) (fun v => if v < u then (if plan u = plan v then 0 else gB g u v) else 0) = sumI u (fun v => if plan u = plan v then 0 else gB g u v) := by
        intro k
        induction k with
        | zero => intro _; exact sumI_congr fun v hv => if_pos hv
        | succ k ih => intro hk; rw [← Nat.add_assoc, sumI, ih (by omega), if_neg (by omega), add_0]
      have := this (n - u) (by omega)
      rw [show u + (n - u) = n by omega] at this
      exact this
    rw [e1]
    have h := upS (fun m i s => fX11_cutLengths_L18 g plan (nI u) m kf s (nI i)) (fun i => s + sumI i (fun v => if plan u = plan v then 0 else gB g u v)) u (kf (s + sumI u (fun v => if plan u = plan v then 0 else gB g u v))) (fun m => ?_) (fun m i hi => ?_) 1000000 (by omega)
    · simp only [e0] at h
      exact h
    · show fX11_cutLengths_L18 g plan (nI u) (m + 1) kf _ (nI u) = _
      rw [fX11_cutLengths_L18, if_pos (nI_leS u (by omega))]
    · show fX11_cutLengths_L18 g plan (nI u) (m + 1) kf _ (nI i) = fX11_cutLengths_L18 g plan (nI u) m kf (s + (sumI i _ + (if plan u = plan i then 0 else gB g u i))) (nI (i + 1))
      rw [fX11_cutLengths_L18, if_neg (nI_ge hi (by omega)), if_pos ((inR_nI (by omega)).mpr (by omega)), if_pos ((inR_nI (by omega)).mpr (by omega)), nI_clamp (by omega), nI_clamp (by omega), nI_1, ← add_as]
      by_cases h2 : plan u = plan i
      · rw [if_pos h2, if_pos h2]
      · rw [if_neg h2, if_neg h2, pX11_borderOf (by omega) (by omega), bind_s]
  refine upS (fun m i s => fX11_cutLengths_L4 g plan m (fun z => some z) s (nI i)) (fun i => sumI i (fun u => sumI n (fun v => if v < u then (if plan u = plan v then 0 else gB g u v) else 0))) n _ (fun m => ?_) (fun m i hi => ?_) 1000000 (by omega)
  · show fX11_cutLengths_L4 g plan (m + 1) _ _ (nI n) = _
    rw [fX11_cutLengths_L4, k204, hg, if_pos (nI_leS n (by omega))]; rfl
  · show fX11_cutLengths_L4 g plan (m + 1) _ _ (nI i) = fX11_cutLengths_L4 g plan m _ (sumI i _ + _) (nI (i + 1))
    rw [fX11_cutLengths_L4, k204, hg, if_neg (nI_ge hi (by omega)), inner i _ _ hi, nI_1]
/-- borders are the same from both sides -/
def SymB (g : Nat → Int32) (n : Nat) : Prop := ∀ u v, u < n → v < n → gB g u v = gB g v u
theorem pX6_cutLength {g pop area com outer nb len : Nat → Int32} {n k : Nat} {cores : Int32} (h : MapR g n pop area com outer nb len cores) (hsy : SymB g n) {places sets plan : Nat → Int32} (hP : PlanR n k places sets plan) : fX6_cutLength len (nI n) places = some (cutS n g plan) := by
  have hn := h.n12
  rw [fX6_cutLength]
  have inner : ∀ (u : Nat) (s : Int32) (kf : Int32 → Option Int32), u < n → fX6_cutLength_L17 len (nI n) places (nI u) 1000000 kf s (nI (u + 1)) = kf (s + sumI n (fun v => if u < v then (if plan u = plan v then 0 else gB g u v) else 0)) := by
    intro u s kf hu
    have e0 : s + sumI (u + 1) (fun v => if u < v then (if plan u = plan v then 0 else gB g u v) else 0) = s := by rw [sumI_zero (fun v hv => if_neg (by omega)), add_0]
    have h := upSF (fun m i s => fX6_cutLength_L17 len (nI n) places (nI u) m kf s (nI i)) (fun i => s + sumI i (fun v => if u < v then (if plan u = plan v then 0 else gB g u v) else 0)) (u + 1) n (by omega) (kf (s + sumI n (fun v => if u < v then (if plan u = plan v then 0 else gB g u v) else 0))) (fun m => ?_) (fun m i hb hi => ?_) 1000000 (by omega)
    · simp only [e0] at h
      exact h
    · show fX6_cutLength_L17 len (nI n) places (nI u) (m + 1) kf _ (nI n) = _
      rw [fX6_cutLength_L17, if_pos (nI_leS n (by omega))]
    · show fX6_cutLength_L17 len (nI n) places (nI u) (m + 1) kf _ (nI i) = fX6_cutLength_L17 len (nI n) places (nI u) m kf (s + (sumI i _ + (if u < i then (if plan u = plan i then 0 else gB g u i) else 0))) (nI (i + 1))
      rw [fX6_cutLength_L17, if_neg (nI_ge hi (by omega)), if_pos ((inR_nI (by omega)).mpr (by omega)), if_pos ((inR_nI (by omega)).mpr (by omega)), nI_clamp (by omega), nI_clamp (by omega), nI_1, ← add_as, (hP.1 u hu).1, (hP.1 i hi).1, if_pos (show u < i by omega)]
      by_cases h2 : plan u = plan i
      · rw [if_pos h2, if_pos h2, add_0]
      · rw [if_neg h2, if_neg h2, pX9_lengthBetween (by omega) (by omega), bind_s, h.len hu hi]
  refine Eq.trans (upS (fun m i s => fX6_cutLength_L4 len (nI n) places m (fun z => some z) s (nI i)) (fun i => sumI i (fun u => sumI n (fun v => if u < v then (if plan u = plan v then 0 else gB g u v) else 0))) n (some (sumI n (fun u => sumI n (fun v => if u < v then (if plan u = plan v then 0 else gB g u v) else 0)))) (fun m => ?_) (fun m i hi => ?_) 1000000 (by omega)) ?_
  · show fX6_cutLength_L4 len (nI n) places (m + 1) _ _ (nI n) = _
    rw [fX6_cutLength_L4, if_pos (nI_leS n (by omega))]
  · show fX6_cutLength_L4 len (nI n) places (m + 1) _ _ (nI i) = fX6_cutLength_L4 len (nI n) places m _ (sumI i _ + _) (nI (i + 1))
    rw [fX6_cutLength_L4, if_neg (nI_ge hi (by omega)), nI_1, inner i _ _ hi]
  · unfold cutS
    rw [sumI_swap]
    congr 1
    refine sumI_congr fun u hu => sumI_congr fun v hv => ?_
    by_cases h1 : v < u
    · rw [if_pos h1, if_pos h1, hsy v u hv hu]
      by_cases h2 : plan u = plan v
      · rw [if_pos h2, if_pos h2.symm]
      · rw [if_neg h2, if_neg (fun q => h2 q.symm)]
    · rw [if_neg h1, if_neg h1]
/-- the communities that are torn -/
noncomputable def tornS (n : Nat) (g plan : Nat → Int32) : Int32 := sumI 4 (fun c => if twoB n plan (fun u => decide (g (5 * u + 2) = nI c)) then 1 else 0)
theorem pX6_countSplitCommunities {g pop area com outer nb len : Nat → Int32} {n k : Nat} {cores : Int32} (h : MapR g n pop area com outer nb len cores) (hk : k ≤ 4) {places sets plan : Nat → Int32} (hP : PlanR n k places sets plan) : fX6_countSplitCommunities com (nI n) sets = some (tornS n g plan) := by
  have hn := h.n12
  rw [fX6_countSplitCommunities]
  refine upS (fun m i s => fX6_countSplitCommunities_L4 com (nI n) sets m (fun z => some z) s (nI i)) (fun i => sumI i (fun c => if twoB n plan (fun u => decide (g (5 * u + 2) = nI c)) then 1 else 0)) 4 _ (fun m => ?_) (fun m i hi => ?_) 1000000 (by omega)
  · show fX6_countSplitCommunities_L4 com (nI n) sets (m + 1) _ _ (nI 4) = _
    rw [fX6_countSplitCommunities_L4, if_pos (show (4 : Int32) ≤ nI 4 by decide)]; rfl
  · show fX6_countSplitCommunities_L4 com (nI n) sets (m + 1) _ _ (nI i) = fX6_countSplitCommunities_L4 com (nI n) sets m _ (sumI i _ + (if twoB n plan (fun u => decide (g (5 * u + 2) = nI i)) then 1 else 0)) (nI (i + 1))
    have e : memS n com (nI i) = mkS n (fun u => decide (g (5 * u + 2) = nI i)) := mkS_congr fun u hu => by rw [h.com hu]
    rw [fX6_countSplitCommunities_L4, if_neg (ge4 hi), pX9_membersOf hn, bind_s, e, pX4_splits hn hk hP.m hP.2, bind_s, nI_1]
    cases twoB n plan (fun u => decide (g (5 * u + 2) = nI i)) with
    | true => rw [if_pos rfl, if_neg n10]
    | false => rw [if_neg ff, if_pos rfl, add_0]
theorem pX11_torn {g plan : Nat → Int32} {n k : Nat} (hg : g 204 = nI n) (hn : n ≤ 12) (hk : k ≤ 4) (hp : PlanM n k plan) : fX11_torn g plan = some (tornS n g plan) := by
  rw [fX11_torn]
  have inner : ∀ (a : Int32) (c : Nat) (kf : Int32 → Option Int32), fX11_torn_L14 g plan a (nI c) 1000000 kf 0 0 = kf (orI n (fun u => if decide (g (5 * u + 2) = nI c) then (1 : Int32) <<< (plan u &&& 31) else 0)) := by
    intro a c kf
    refine upS (fun m i s => fX11_torn_L14 g plan a (nI c) m kf s (nI i)) (fun i => orI i (fun u => if decide (g (5 * u + 2) = nI c) then (1 : Int32) <<< (plan u &&& 31) else 0)) n _ (fun m => ?_) (fun m i hi => ?_) 1000000 (by omega)
    · show fX11_torn_L14 g plan a (nI c) (m + 1) kf _ (nI n) = _
      rw [fX11_torn_L14, k204, hg, if_pos (nI_leS n (by omega))]
    · show fX11_torn_L14 g plan a (nI c) (m + 1) kf _ (nI i) = fX11_torn_L14 g plan a (nI c) m kf (orI i _ ||| if decide (g (5 * i + 2) = nI c) then (1 : Int32) <<< (plan i &&& 31) else 0) (nI (i + 1))
      rw [fX11_torn_L14, k204, hg, if_neg (nI_ge hi (by omega)), show (2 : Int32) = nI 2 from rfl, pX11_of (by omega) (by omega), bind_s, nI_1]
      by_cases h1 : g (5 * i + 2) = nI c
      · rw [if_pos h1, decide_eq_true h1, if_pos rfl, if_pos ((inR_nI (by omega)).mpr (by omega)), nI_clamp (by omega)]; rfl
      · rw [if_neg h1, decide_eq_false h1, if_neg ff]
  refine upS (fun m i s => fX11_torn_L4 g plan m (fun z => some z) s (nI i)) (fun i => sumI i (fun c => if twoB n plan (fun u => decide (g (5 * u + 2) = nI c)) then 1 else 0)) 4 _ (fun m => ?_) (fun m i hi => ?_) 1000000 (by omega)
  · show fX11_torn_L4 g plan (m + 1) _ _ (nI 4) = _
    rw [fX11_torn_L4, if_pos (show (4 : Int32) ≤ nI 4 by decide)]; rfl
  · show fX11_torn_L4 g plan (m + 1) _ _ (nI i) = fX11_torn_L4 g plan m _ (sumI i _ + (if twoB n plan (fun u => decide (g (5 * u + 2) = nI i)) then 1 else 0)) (nI (i + 1))
    rw [fX11_torn_L4, if_neg (ge4 hi), inner, nI_1]
    cases ht : twoB n plan (fun u => decide (g (5 * u + 2) = nI i)) with
    | true => rw [if_neg (fun e => (seen_iff hk hp).mp e (twoB_iff.mp ht)), if_pos rfl]
    | false => rw [if_pos ((seen_iff hk hp).mpr (twoB_false.mp ht)), if_neg ff]
/-- the greatest imbalance -/
def maxOff (n k : Nat) (g plan : Nat → Int32) : Nat → Int32
  | 0 => 0
  | d + 1 => if maxOff n k g plan d < offS n (nI k) (fun u => g (5 * u)) (setS n plan d) then offS n (nI k) (fun u => g (5 * u)) (setS n plan d) else maxOff n k g plan d
theorem pX6_greatestImbalance {g pop area com outer nb len : Nat → Int32} {n k : Nat} {cores : Int32} (h : MapR g n pop area com outer nb len cores) (hk : k ≤ 4) {places sets plan : Nat → Int32} (hP : PlanR n k places sets plan) : fX6_greatestImbalance (nI k) pop (nI n) sets = some (maxOff n k g plan k) := by
  have hn := h.n12
  rw [fX6_greatestImbalance]
  refine upS (fun m i s => fX6_greatestImbalance_L4 (nI k) pop (nI n) sets m (fun z => some z) s (nI i)) (fun i => maxOff n k g plan i) k _ (fun m => ?_) (fun m i hi => ?_) 1000000 (by omega)
  · show fX6_greatestImbalance_L4 (nI k) pop (nI n) sets (m + 1) _ _ (nI k) = _
    rw [fX6_greatestImbalance_L4, if_pos (nI_leS k (by omega))]
  · show fX6_greatestImbalance_L4 (nI k) pop (nI n) sets (m + 1) _ _ (nI i) = fX6_greatestImbalance_L4 (nI k) pop (nI n) sets m _ (if maxOff n k g plan i < offS n (nI k) (fun u => g (5 * u)) (setS n plan i) then offS n (nI k) (fun u => g (5 * u)) (setS n plan i) else maxOff n k g plan i) (nI (i + 1))
    rw [fX6_greatestImbalance_L4, if_neg (nI_ge hi (by omega)), if_pos ((inR_nI (by omega)).mpr (by omega)), nI_clamp (by omega), pX9_imbalanceOf hn, bind_s, nI_1, hP.2 i (by omega), offS_congr (fun u hu => h.pop hu)]
theorem pX11_tellMeasure_L129 {g plan : Nat → Int32} {n k : Nat} {b : Int64} (hg : g 204 = nI n) (hn : n ≤ 12) (hgk : g 205 = nI k) (hk : k ≤ 4) (kf : Int32 → Option (Int64 × Int64)) : fX11_tellMeasure_L129 g plan b 1000000 kf 0 0 = kf (maxOff n k g plan k) := by
  refine upS (fun m i s => fX11_tellMeasure_L129 g plan b m kf s (nI i)) (fun i => maxOff n k g plan i) k _ (fun m => ?_) (fun m i hi => ?_) 1000000 (by omega)
  · show fX11_tellMeasure_L129 g plan b (m + 1) kf _ (nI k) = _
    rw [fX11_tellMeasure_L129, k205, hgk, if_pos (nI_leS k (by omega))]
  · show fX11_tellMeasure_L129 g plan b (m + 1) kf _ (nI i) = fX11_tellMeasure_L129 g plan b m kf (if maxOff n k g plan i < offS n (nI k) (fun u => g (5 * u)) (setS n plan i) then offS n (nI k) (fun u => g (5 * u)) (setS n plan i) else maxOff n k g plan i) (nI (i + 1))
    rw [fX11_tellMeasure_L129, k205, hgk, if_neg (nI_ge hi (by omega)), pX11_off hg hn, bind_s, bind_s, nI_1, hgk]
    by_cases h1 : offS n (nI k) (fun u => g (5 * u)) (setS n plan i) ≤ maxOff n k g plan i
    · rw [if_pos h1, if_neg (by rw [lt_nle]; exact fun q => q h1)]
    · rw [if_neg h1, if_pos (by rw [lt_nle]; exact h1)]
