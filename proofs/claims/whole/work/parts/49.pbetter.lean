/-! weigh and tellMeasure; which measure is better -/
theorem nI0 {i : Nat} (hi : i < 2 ^ 31) : nI i = (0 : Int32) ↔ i = 0 := nI_eq (b := 0) hi (by decide)
theorem pX6_weigh {g pop area com outer nb len : Nat → Int32} {n k : Nat} {cores w : Int32} (h : MapR g n pop area com outer nb len cores) (hw : MapW g n) (h1 : 1 ≤ n) (hk : k ≤ 4) {places sets plan : Nat → Int32} (hP : PlanR n k places sets plan) : fX6_weigh area com (nI k) len outer pop (nI n) places sets w = some ((finM n k g plan w).2, (finM n k g plan w).1) := by
  have hn := h.n12
  rw [fX6_weigh]
  have hb := become_fin (plan := plan) (w := w) hw hn h1 hk
  by_cases w0 : w = 0
  · subst w0
    rw [if_pos rfl]
    have e : fX6_weighCompactness area (nI k) len outer (nI n) sets = some ((finM n k g plan 0).2, (finM n k g plan 0).1) := by
      rw [fX6_weighCompactness]
      generalize hkf : (fun z8_3 z8_5 => (fX1_become z8_3 z8_5).bind (fun q11 => some (q11.1, q11.2))) = kf
      have key := upS (fun m i (s : Int64 × Int64) => fX6_weighCompactness_L8 area (nI k) len outer (nI n) sets m kf s.1 s.2 (nI i)) (fun i => bestT n g plan i) k (some ((finM n k g plan 0).2, (finM n k g plan 0).1)) (fun m => ?_) (fun m i hi => ?_) 1000000 (by omega)
      · exact key
      · show fX6_weighCompactness_L8 area (nI k) len outer (nI n) sets (m + 1) kf _ _ (nI k) = _
        rw [fX6_weighCompactness_L8, if_pos (nI_leS k (by omega)), ← hkf]
        show (fX1_become (measN n k g plan 0).1 (measN n k g plan 0).2).bind _ = _
        rw [hb]; rfl
      · show fX6_weighCompactness_L8 area (nI k) len outer (nI n) sets (m + 1) kf _ _ (nI i) = fX6_weighCompactness_L8 area (nI k) len outer (nI n) sets m kf (bestT n g plan (i + 1)).1 (bestT n g plan (i + 1)).2 (nI (i + 1))
        have ep : perS n outer (fun u v => len (u * 12 + v)) (sets i) = cPer n g plan i := by rw [hP.2 i (by omega)]; exact perS_congr (fun u hu => h.outer hu) (fun u v hu hv => h.len hu hv)
        have ea : ssum n (sets i) area = cAr n g plan i := by rw [hP.2 i (by omega)]; exact ssum_congr (fun u hu => h.area hu)
        rw [fX6_weighCompactness_L8, if_neg (nI_ge hi (by omega)), if_pos ((inR_nI (by omega)).mpr (by omega)), nI_clamp (by omega), pX9_perimeterOf hn, bind_s, nI_1, ep, pX9_areaOf hn, bind_s, ea]
        have eT : cT n g plan i = if lg_cmp (Int32.toInt64 (cPer n g plan i)) 0 = 0 then 0 else 16 * Int32.toInt64 (cAr n g plan i) := rfl
        have eB : cB n g plan i = if lg_cmp (Int32.toInt64 (cPer n g plan i)) 0 = 0 then 1 else Int32.toInt64 (cPer n g plan i) * Int32.toInt64 (cPer n g plan i) := rfl
        have eN : bestT n g plan (i + 1) = if i = 0 then (cT n g plan i, cB n g plan i) else if 0 ≤ lg_cmp (cT n g plan i * (bestT n g plan i).2) ((bestT n g plan i).1 * cB n g plan i) then bestT n g plan i else (cT n g plan i, cB n g plan i) := rfl
        generalize bestT n g plan (i + 1) = B1 at eN ⊢
        generalize bestT n g plan i = B0 at eN ⊢
        generalize cT n g plan i = t at eT eN
        generalize cB n g plan i = b at eB eN
        generalize Int32.toInt64 (cPer n g plan i) = p at eT eB ⊢
        generalize Int32.toInt64 (cAr n g plan i) = a at eT ⊢
        by_cases c0 : lg_cmp p 0 = 0
        · rw [if_pos c0] at eT eB
          subst eT; subst eB
          rw [if_pos c0]
          by_cases hi0 : i = 0
          · rw [if_pos hi0] at eN
            subst eN
            rw [if_pos ((nI0 (by omega)).mpr hi0)]
          · rw [if_neg hi0] at eN
            rw [if_neg (fun q => hi0 ((nI0 (by omega)).mp q))]
            by_cases c1 : 0 ≤ lg_cmp (0 * B0.2) (B0.1 * 1)
            · rw [if_pos c1] at eN ⊢; subst eN; rfl
            · rw [if_neg c1] at eN ⊢; subst eN; rfl
        · rw [if_neg c0] at eT eB
          subst eT; subst eB
          rw [if_neg c0, if_pos ((inR_nI (by omega)).mpr (by omega))]
          by_cases hi0 : i = 0
          · rw [if_pos hi0] at eN
            subst eN
            rw [if_pos ((nI0 (by omega)).mpr hi0)]
          · rw [if_neg hi0] at eN
            rw [if_neg (fun q => hi0 ((nI0 (by omega)).mp q))]
            by_cases c1 : 0 ≤ lg_cmp (16 * a * B0.2) (B0.1 * (p * p))
            · rw [if_pos c1] at eN ⊢; subst eN; rfl
            · rw [if_neg c1] at eN ⊢; subst eN; rfl
    rw [e]; rfl
  · rw [if_neg w0]
    by_cases w1 : w = 1
    · subst w1
      rw [if_pos rfl, pX6_cutLength h hw.sym hP, bind_s]
      have : measN n k g plan 1 = (Int32.toInt64 (cutS n g plan), 1) := rfl
      rw [this] at hb
      rw [hb]; rfl
    · rw [if_neg w1]
      by_cases w2 : w = 2
      · subst w2
        rw [if_pos rfl, pX6_countSplitCommunities h hk hP, bind_s]
        have : measN n k g plan 2 = (Int32.toInt64 (tornS n g plan), 1) := rfl
        rw [this] at hb
        rw [hb]; rfl
      · rw [if_neg w2, pX6_greatestImbalance h hk hP, bind_s, pX9_allUnits, bind_s, pX9_populationOf hn, bind_s, ssum_all hn, sumI_congr (fun u hu => h.pop hu)]
        have : measN n k g plan w = (Int32.toInt64 (maxOff n k g plan k), Int32.toInt64 (sumI n (fun u => g (5 * u)))) := by unfold measN; rw [if_neg w0, if_neg w1, if_neg w2]
        rw [this] at hb
        rw [hb]; rfl
theorem pX11_tellCompactness {g plan : Nat → Int32} {n d : Nat} (hg : g 204 = nI n) (hn : n ≤ 12) : fX11_tellCompactness g plan (nI d) = some (cT n g plan d, cB n g plan d) := by
  rw [fX11_tellCompactness, pX11_perimeter hg hn, bind_s]
  unfold cT cB
  show (if lg_cmp (Int32.toInt64 (cPer n g plan d)) 0 = 0 then _ else _) = _
  by_cases c0 : lg_cmp (Int32.toInt64 (cPer n g plan d)) 0 = 0
  · rw [if_pos c0, if_pos c0, if_pos c0]
  · rw [if_neg c0, if_neg c0, if_neg c0, pX11_set hg hn, bind_s, show (1 : Int32) = nI 1 from rfl, pX11_sum hg hn (by omega), bind_s]; rfl
theorem pX11_tellMeasure {g plan : Nat → Int32} {n k : Nat} {w : Int32} {ab : Int64} (hg : g 204 = nI n) (hn : n ≤ 12) (hgk : g 205 = nI k) (hw : MapW g n) (h1 : 1 ≤ n) (hk0 : 1 ≤ k) (hk : k ≤ 4) (hp : PlanM n k plan) : fX11_tellMeasure ab g plan w = some (finM n k g plan w) := by
  rw [fX11_tellMeasure]
  have hb := divide_fin (plan := plan) (w := w) hw hn h1 hk
  by_cases w0 : w = 0
  · subst w0
    rw [if_pos rfl]
    generalize hkf : (fun z17_2 z17_4 z17_t_above z17_t_below => (fX11_divisor z17_2 z17_4).bind (fun q6 => (if q6 = 0 then none else (if q6 = 0 then none else some ((z17_2 / q6), (z17_4 / q6)))))) = kf
    have key := upS (fun m i (s : Int64 × Int64 × Int64 × Int64) => fX11_tellMeasure_L17 g plan m kf s.1 s.2.1 (nI i) s.2.2.1 s.2.2.2) (fun i => if i = 0 then ((0 : Int64), (0 : Int64), ab, (1 : Int64)) else ((bestT n g plan i).1, (bestT n g plan i).2, cT n g plan (i - 1), cB n g plan (i - 1))) k (some (finM n k g plan 0)) (fun m => ?_) (fun m i hi => ?_) 1000000 (by omega)
    · exact key
    · rw [if_neg (by omega)]
      show fX11_tellMeasure_L17 g plan (m + 1) kf (bestT n g plan k).1 (bestT n g plan k).2 (nI k) _ _ = _
      rw [fX11_tellMeasure_L17, k205, hgk, if_pos (nI_leS k (by omega)), ← hkf]
      exact hb
    · rw [if_neg (Nat.succ_ne_zero i)]
      show fX11_tellMeasure_L17 g plan (m + 1) kf _ _ (nI i) _ _ = fX11_tellMeasure_L17 g plan m kf (bestT n g plan (i + 1)).1 (bestT n g plan (i + 1)).2 (nI (i + 1)) (cT n g plan i) (cB n g plan i)
      have eN : bestT n g plan (i + 1) = if i = 0 then (cT n g plan i, cB n g plan i) else if 0 ≤ lg_cmp (cT n g plan i * (bestT n g plan i).2) ((bestT n g plan i).1 * cB n g plan i) then bestT n g plan i else (cT n g plan i, cB n g plan i) := rfl
      generalize bestT n g plan (i + 1) = B1 at eN ⊢
      by_cases hi0 : i = 0
      · subst hi0
        rw [if_pos rfl] at eN
        subst eN
        rw [if_pos rfl]
        show fX11_tellMeasure_L17 g plan (m + 1) kf 0 0 (nI 0) ab 1 = _
        rw [fX11_tellMeasure_L17, k205, hgk, if_neg (nI_ge hi (by omega)), pX11_tellCompactness hg hn, bind_s, nI_1, if_pos (show lg_cmp 0 0 = 0 from by decide)]
      · rw [if_neg hi0] at eN
        rw [if_neg hi0]
        show fX11_tellMeasure_L17 g plan (m + 1) kf (bestT n g plan i).1 (bestT n g plan i).2 (nI i) _ _ = _
        obtain ⟨x, y, e1, e2, e3, e4, e5⟩ := bestT_ex (plan := plan) hw hn i
        generalize bestT n g plan i = B0 at eN e1 e2 ⊢
        rw [fX11_tellMeasure_L17, k205, hgk, if_neg (nI_ge hi (by omega)), pX11_tellCompactness hg hn, bind_s, nI_1, if_neg (fun q => by
          rw [e2, lg_cmp_eq, lN0 (by omega)] at q; omega)]
        by_cases c : 0 ≤ lg_cmp (cT n g plan i * B0.2) (B0.1 * cB n g plan i)
        · rw [if_pos c] at eN
          subst eN
          exact if_pos c
        · rw [if_neg c] at eN
          subst eN
          exact if_neg c
  · rw [if_neg w0]
    by_cases w1 : w = 1
    · subst w1
      rw [if_pos rfl, pX11_cutLengths hg hn, bind_s]
      exact hb
    · rw [if_neg w1]
      by_cases w2 : w = 2
      · subst w2
        rw [if_pos rfl, pX11_torn hg hn hk hp, bind_s]
        exact hb
      · rw [if_neg w2, pX11_tellMeasure_L129 hg hn hgk hk, pX11_all hg, bind_s, show (0 : Int32) = nI 0 from rfl, pX11_sum hg hn (by omega), bind_s, ssum_all hn]
        have : measN n k g plan w = (Int32.toInt64 (maxOff n k g plan k), Int32.toInt64 (sumI n (fun u => g (5 * u)))) := by unfold measN; rw [if_neg w0, if_neg w1, if_neg w2]
        rw [this] at hb
        exact hb
/-- the first is better -/
def betB (w : Int32) (one other : Int64 × Int64) : Bool := if w = 0 then decide (other.1 * one.2 < one.1 * other.2) else decide (one.1 * other.2 < other.1 * one.2)
theorem pX6_isBetter (w : Int32) (one other : Int64 × Int64) : fX6_isBetter one.2 one.1 other.2 other.1 w = some (if betB w one other then 1 else 0) := by
  rw [fX6_isBetter, fX1_compareWith, fJ13_compare_74951]
  unfold betB
  generalize one.1 * other.2 = a
  generalize other.1 * one.2 = b
  by_cases h1 : 0 ≤ lg_cmp a b
  · rw [if_pos h1]
    by_cases h2 : lg_cmp a b = 0
    · rw [if_pos h2]
      have e := (lg_cmp_eq _ _).mp h2
      subst e
      have hn : ¬ a < a := by rw [Int64.lt_iff_toInt_lt]; omega
      rw [bind_s, bind_s]
      by_cases w0 : w = 0
      · rw [if_pos w0, if_pos w0, if_pos (by decide), decide_eq_false hn, if_neg ff]
      · rw [if_neg w0, if_neg w0, if_pos (by decide), decide_eq_false hn, if_neg ff]
    · rw [if_neg h2, bind_s, bind_s]
      have e1 := (lg_cmp_ge _ _).mp h1
      have e2 : ¬ a = b := fun q => h2 ((lg_cmp_eq _ _).mpr q)
      have e3 : b < a := by
        rw [Int64.le_iff_toInt_le] at e1
        rw [Int64.lt_iff_toInt_lt]
        have : a.toInt ≠ b.toInt := fun q => e2 (Int64.toInt_inj.mp q)
        omega
      have e4 : ¬ a < b := by
        rw [Int64.lt_iff_toInt_lt] at e3 ⊢
        omega
      by_cases w0 : w = 0
      · rw [if_pos w0, if_pos w0, if_neg (by decide), decide_eq_true e3, if_pos rfl]
      · rw [if_neg w0, if_neg w0, if_pos (by decide), decide_eq_false e4, if_neg ff]
  · rw [if_neg h1, bind_s, bind_s]
    have e1 : a < b := by
      have : ¬ b ≤ a := fun q => h1 ((lg_cmp_ge _ _).mpr q)
      rw [Int64.le_iff_toInt_le] at this
      rw [Int64.lt_iff_toInt_lt]
      omega
    have e4 : ¬ b < a := by
      rw [Int64.lt_iff_toInt_lt] at e1 ⊢
      omega
    by_cases w0 : w = 0
    · rw [if_pos w0, if_pos w0, if_pos (by decide), decide_eq_false e4, if_neg ff]
    · rw [if_neg w0, if_neg w0, if_neg (by decide), decide_eq_true e1, if_pos rfl]
theorem pX11_isBetter {g plan : Nat → Int32} {n k : Nat} {w : Int32} {ab ba bb : Int64} (hg : g 204 = nI n) (hn : n ≤ 12) (hgk : g 205 = nI k) (hw : MapW g n) (h1 : 1 ≤ n) (hk0 : 1 ≤ k) (hk : k ≤ 4) (hp : PlanM n k plan) : fX11_isBetter ab ba bb g plan w = some ((if betB w (finM n k g plan w) (ba, bb) then 1 else 0), (finM n k g plan w).1, (finM n k g plan w).2) := by
  rw [fX11_isBetter, pX11_tellMeasure hg hn hgk hw h1 hk0 hk hp, bind_s]
  unfold betB
  generalize finM n k g plan w = q
  show (if w = 0 then (if lg_cmp (q.1 * bb) (ba * q.2) ≤ 0 then _ else _) else (if 0 ≤ lg_cmp (q.1 * bb) (ba * q.2) then _ else _)) = _
  by_cases w0 : w = 0
  · rw [if_pos w0, if_pos w0]
    by_cases c : lg_cmp (q.1 * bb) (ba * q.2) ≤ 0
    · rw [if_pos c, decide_eq_false (fun e => by
        have := (lg_cmp_le _ _).mp c
        rw [Int64.le_iff_toInt_le] at this
        rw [Int64.lt_iff_toInt_lt] at e
        have e : (ba * q.2).toInt < (q.1 * bb).toInt := e
        omega), if_neg ff]
    · rw [if_neg c, decide_eq_true (by
        have : ¬ (q.1 * bb) ≤ (ba * q.2) := fun e => c ((lg_cmp_le _ _).mpr e)
        rw [Int64.le_iff_toInt_le] at this
        rw [Int64.lt_iff_toInt_lt]
        show (ba * q.2).toInt < (q.1 * bb).toInt
        omega), if_pos rfl]
  · rw [if_neg w0, if_neg w0]
    by_cases c : 0 ≤ lg_cmp (q.1 * bb) (ba * q.2)
    · rw [if_pos c, decide_eq_false (fun e => by
        have := (lg_cmp_ge _ _).mp c
        rw [Int64.le_iff_toInt_le] at this
        rw [Int64.lt_iff_toInt_lt] at e
        have e : (q.1 * bb).toInt < (ba * q.2).toInt := e
        omega), if_neg ff]
    · rw [if_neg c, decide_eq_true (by
        have : ¬ (ba * q.2) ≤ (q.1 * bb) := fun e => c ((lg_cmp_ge _ _).mpr e)
        rw [Int64.le_iff_toInt_le] at this
        rw [Int64.lt_iff_toInt_lt]
        show (q.1 * bb).toInt < (ba * q.2).toInt
        omega), if_pos rfl]
