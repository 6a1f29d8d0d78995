/-! the reference's reasons; moves and swaps -/
def PlanM (n k : Nat) (plan : Nat → Int32) : Prop := ∀ u, u < n → ∃ d, d < k ∧ plan u = nI d
theorem PlanR.m {n k : Nat} {places sets plan : Nat → Int32} (h : PlanR n k places sets plan) : PlanM n k plan := fun u hu => (h.1 u hu).2
theorem pX11_reason_L90 {g plan : Nat → Int32} {n c : Nat} {dt : Int32} (hg : g 204 = nI n) (hn : n ≤ 12) (hc : c < 4) (kf : Int32 → Option (Int32 × Int32)) : fX11_reason_L90 g plan (nI c) dt 1000000 kf 0 0 = kf (orI n (fun u => if coreB g c u then (1 : Int32) <<< (plan u &&& 31) else 0)) := by
  refine upS (fun m i s => fX11_reason_L90 g plan (nI c) dt m kf s (nI i)) (fun i => orI i (fun u => if coreB g c u then (1 : Int32) <<< (plan u &&& 31) else 0)) n _ (fun m => ?_) (fun m i hi => ?_) 1000000 (by omega)
  · show fX11_reason_L90 g plan (nI c) dt (m + 1) kf _ (nI n) = _
    rw [fX11_reason_L90, k204, hg, if_pos (nI_leS n (by omega))]
  · show fX11_reason_L90 g plan (nI c) dt (m + 1) kf _ (nI i) = fX11_reason_L90 g plan (nI c) dt m kf (orI i _ ||| if coreB g c i then (1 : Int32) <<< (plan i &&& 31) else 0) (nI (i + 1))
    rw [fX11_reason_L90, k204, hg, if_neg (nI_ge hi (by omega)), show (2 : Int32) = nI 2 from rfl, pX11_of (by omega) (by omega), bind_s, nI_1]
    by_cases h1 : g (5 * i + 2) = nI c
    · rw [if_pos h1, show (3 : Int32) = nI 3 from rfl, pX11_of (by omega) (by omega), bind_s]
      by_cases h2 : g (5 * i + 3) = 1
      · have hb : coreB g c i = true := by unfold coreB; rw [decide_eq_true h1, decide_eq_true h2]; rfl
        rw [if_pos h2, if_pos ((inR_nI (by omega)).mpr (by omega)), nI_clamp (by omega), hb, if_pos rfl]; rfl
      · have hb : coreB g c i = false := by unfold coreB; rw [decide_eq_false h2, Bool.and_false]
        rw [if_neg h2, hb, if_neg ff]
    · have hb : coreB g c i = false := by unfold coreB; rw [decide_eq_false h1, Bool.false_and]
      rw [if_neg h1, hb, if_neg ff]
theorem pX11_reason {g plan : Nat → Int32} {n k : Nat} {dt : Int32} (hg : g 204 = nI n) (hn : n ≤ 12) (hgk : g 205 = nI k) (hk : k ≤ 4) (hp : PlanM n k plan) : fX11_reason dt g plan = some ((reasS n k g plan).1, if (reasS n k g plan).1 = 0 then dt else (reasS n k g plan).2) := by
  rw [fX11_reason]
  unfold reasS
  refine Eq.trans (upF (fun m i => fX11_reason_L2 g plan m _ (nI i) dt) k (fun d => some (1, nI d)) (tE n plan) ((fstP k (tC n g plan)).elim ((fstP 4 (tK n g plan)).elim ((fstP k (tB n k g plan)).elim (some (0, dt)) (fun d => some (4, nI d))) (fun c => some (3, nI c))) (fun d => some (2, nI d))) (fun m => ?_) (fun m i hi hq => ?_) (fun m i hi hq => ?_) 1000000 (by omega)) ?_
  · show fX11_reason_L2 g plan (m + 1) _ (nI k) dt = _
    rw [fX11_reason_L2, k205, hgk, if_pos (nI_leS k (by omega))]
    refine upF (fun m i => fX11_reason_L37 g plan m _ (nI i) dt) k (fun d => some (2, nI d)) (tC n g plan) _ (fun m => ?_) (fun m i hi hq => ?_) (fun m i hi hq => ?_) 1000000 (by omega)
    · show fX11_reason_L37 g plan (m + 1) _ (nI k) dt = _
      rw [fX11_reason_L37, k205, hgk, if_pos (nI_leS k (by omega))]
      refine upF (fun m i => fX11_reason_L81 g plan m _ (nI i) dt) 4 (fun d => some (3, nI d)) (tK n g plan) _ (fun m => ?_) (fun m i hi hq => ?_) (fun m i hi hq => ?_) 1000000 (by omega)
      · show fX11_reason_L81 g plan (m + 1) _ (nI 4) dt = _
        rw [fX11_reason_L81, if_pos (show (4 : Int32) ≤ nI 4 by decide)]
        refine upF (fun m i => fX11_reason_L166 g plan m _ (nI i) dt) k (fun d => some (4, nI d)) (tB n k g plan) (some (0, dt)) (fun m => ?_) (fun m i hi hq => ?_) (fun m i hi hq => ?_) 1000000 (by omega)
        · show fX11_reason_L166 g plan (m + 1) _ (nI k) dt = _
          rw [fX11_reason_L166, k205, hgk, if_pos (nI_leS k (by omega))]
        · show fX11_reason_L166 g plan (m + 1) _ (nI i) dt = fX11_reason_L166 g plan m _ (nI (i + 1)) dt
          have hq := of_decide_eq_false hq
          rw [fX11_reason_L166, k205, hgk, if_neg (nI_ge hi (by omega)), pX11_off hg hn, bind_s, pX11_all hg, bind_s, show (0 : Int32) = nI 0 from rfl, pX11_sum hg hn (by omega), bind_s, ssum_all hn, nI_1, k206, hgk]
          exact if_pos (Decidable.not_not.mp hq)
        · show fX11_reason_L166 g plan (m + 1) _ (nI i) dt = _
          have hq := of_decide_eq_true hq
          rw [fX11_reason_L166, k205, hgk, if_neg (nI_ge hi (by omega)), pX11_off hg hn, bind_s, pX11_all hg, bind_s, show (0 : Int32) = nI 0 from rfl, pX11_sum hg hn (by omega), bind_s, ssum_all hn, k206, hgk]
          exact if_neg hq
      · show fX11_reason_L81 g plan (m + 1) _ (nI i) dt = fX11_reason_L81 g plan m _ (nI (i + 1)) dt
        rw [fX11_reason_L81, if_neg (ge4 hi), pX11_reason_L90 hg hn (by omega), if_pos ((seen_iff hk hp).mpr (twoB_false.mp hq)), nI_1]
      · show fX11_reason_L81 g plan (m + 1) _ (nI i) dt = _
        rw [fX11_reason_L81, if_neg (ge4 hi), pX11_reason_L90 hg hn (by omega), if_neg (fun e => (seen_iff hk hp).mp e (twoB_iff.mp hq))]
    · show fX11_reason_L37 g plan (m + 1) _ (nI i) dt = fX11_reason_L37 g plan m _ (nI (i + 1)) dt
      have hq := of_decide_eq_false hq
      rw [fX11_reason_L37, k205, hgk, if_neg (nI_ge hi (by omega)), pX11_set hg hn, bind_s, pX11_reached hg hn (setS_12 hn), bind_s, bind_s, if_pos (Decidable.not_not.mp hq), nI_1]
    · show fX11_reason_L37 g plan (m + 1) _ (nI i) dt = _
      have hq := of_decide_eq_true hq
      rw [fX11_reason_L37, k205, hgk, if_neg (nI_ge hi (by omega)), pX11_set hg hn, bind_s, pX11_reached hg hn (setS_12 hn), bind_s, bind_s, if_neg hq]
  · show fX11_reason_L2 g plan (m + 1) _ (nI i) dt = fX11_reason_L2 g plan m _ (nI (i + 1)) dt
    have hq := of_decide_eq_false hq
    rw [fX11_reason_L2, k205, hgk, if_neg (nI_ge hi (by omega)), pX11_set hg hn, bind_s, if_neg hq, nI_1]
  · show fX11_reason_L2 g plan (m + 1) _ (nI i) dt = _
    have hq := of_decide_eq_true hq
    rw [fX11_reason_L2, k205, hgk, if_neg (nI_ge hi (by omega)), pX11_set hg hn, bind_s, if_pos hq]
  · cases fstP k (tE n plan) with
    | some d => rfl
    | none =>
      cases fstP k (tC n g plan) with
      | some d => rfl
      | none =>
        cases fstP 4 (tK n g plan) with
        | some c => rfl
        | none =>
          cases fstP k (tB n k g plan) with
          | some d => rfl
          | none => rfl
