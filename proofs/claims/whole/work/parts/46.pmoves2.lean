/-! neighbors in a district; a unit given; moves and swaps -/
theorem anyB_succ (i : Nat) (p : Nat → Bool) : anyB (i + 1) p = (anyB i p || p i) := by
  unfold anyB
  rw [List.range_succ, List.any_append]
  simp
def nbrB (n : Nat) (g plan : Nat → Int32) (u : Nat) (d : Int32) : Bool := anyB n (fun v => decide (0 < gB g u v) && decide (plan v = d))
theorem pX11_hasNeighbor {g plan : Nat → Int32} {n u : Nat} {d : Int32} (hg : g 204 = nI n) (hn : n ≤ 12) (hu : u < 12) : fX11_hasNeighbor g plan (nI u) d = some (if nbrB n g plan u d then 1 else 0) := by
  rw [fX11_hasNeighbor]
  refine Eq.trans (upS (fun m i s => fX11_hasNeighbor_L5 g plan (nI u) d m (fun z => if isB z then some z else none) s (nI i)) (fun i => if anyB i (fun v => decide (0 < gB g u v) && decide (plan v = d)) then 1 else 0) n (some (if nbrB n g plan u d then 1 else 0)) (fun m => ?_) (fun m i hi => ?_) 1000000 (by omega)) rfl
  · show fX11_hasNeighbor_L5 g plan (nI u) d (m + 1) _ _ (nI n) = _
    rw [fX11_hasNeighbor_L5, k204, hg, if_pos (nI_leS n (by omega)), if_pos isB01]; rfl
  · show fX11_hasNeighbor_L5 g plan (nI u) d (m + 1) _ _ (nI i) = fX11_hasNeighbor_L5 g plan (nI u) d m _ _ (nI (i + 1))
    rw [fX11_hasNeighbor_L5, k204, hg, if_neg (nI_ge hi (by omega)), nI_1, anyB_succ]
    cases ha : anyB i (fun v => decide (0 < gB g u v) && decide (plan v = d)) with
    | true => rw [if_pos rfl, if_neg n10, Bool.true_or, if_pos rfl]
    | false =>
      rw [if_neg ff, if_pos rfl, pX11_borderOf hu (by omega), bind_s, Bool.false_or]
      by_cases hb : gB g u i ≤ 0
      · rw [if_pos hb, decide_eq_false (by rw [lt_nle]; exact fun q => q hb), Bool.false_and, if_neg ff]
      · rw [if_neg hb, decide_eq_true (by rw [lt_nle]; exact hb), Bool.true_and, if_pos ((inR_nI (by omega)).mpr (by omega)), nI_clamp (by omega)]
        by_cases hp : plan i = d
        · rw [if_pos hp, decide_eq_true hp, if_pos rfl]
        · rw [if_neg hp, decide_eq_false hp, if_neg ff]
theorem nbr_iff {g plan : Nat → Int32} {n u d : Nat} (hn : n ≤ 12) : (nbS n g u &&& setS n plan d = 0) ↔ nbrB n g plan u (nI d) = false := by
  unfold nbrB nbS
  rw [anyB_false, eq0_bit]
  constructor
  · intro h v hv
    have := h v
    rw [pbit_and, pbit_mkS' (by omega), pbit_mkS' (by omega), decide_eq_true hv, Bool.true_and, Bool.true_and] at this
    exact this
  · intro h v
    rw [pbit_and, pbit_mkS' (by omega), pbit_mkS' (by omega)]
    by_cases hv : v < n
    · rw [decide_eq_true hv, Bool.true_and, Bool.true_and]; exact h v hv
    · rw [decide_eq_false hv, Bool.false_and, Bool.false_and]
theorem PlanR.congr {n k : Nat} {places sets plan places' sets' plan' : Nat → Int32} (h : PlanR n k places sets plan) (h1 : ∀ u, u < n → places' u = places u) (h2 : ∀ d, d < 4 → sets' d = sets d) (h3 : ∀ u, u < n → plan' u = plan u) : PlanR n k places' sets' plan' := by
  refine ⟨fun u hu => ?_, fun d hd => ?_⟩
  · rw [h1 u hu, h3 u hu]; exact h.1 u hu
  · rw [h2 d hd, h.2 d hd]
    exact mkS_congr fun u hu => by rw [h3 u hu]
/-- the sets behind a unit that is given -/
def giveF (sets : Nat → Int32) (u d0 d : Nat) : Nat → Int32 := upd (upd sets d0 (sets d0 &&& (((1 : Int32) <<< (nI u &&& 31)) ^^^ (-1 : Int32)))) d ((upd sets d0 (sets d0 &&& (((1 : Int32) <<< (nI u &&& 31)) ^^^ (-1 : Int32)))) d ||| ((1 : Int32) <<< (nI u &&& 31)))
theorem giveF_bit {sets : Nat → Int32} {u d0 d e v : Nat} (hu : u < 32) (h0 : pbit (sets e) u = true → e = d0) : pbit (giveF sets u d0 d e) v = if v = u then decide (e = d) else pbit (sets e) v := by
  have hc : ∀ x : Int32, pbit (x &&& (((1 : Int32) <<< (nI u &&& 31)) ^^^ (-1 : Int32))) v = (pbit x v && !decide (u = v)) := by
    intro x
    rw [pbit_and]
    rcases Nat.lt_or_ge v 32 with hv | hv
    · rw [pbit_not _ hv, pbit_shl hu]
    · rw [pbit_ge hv, Bool.false_and, Bool.false_and]
  unfold giveF
  by_cases e1 : e = d
  · subst e1
    rw [pk_us, pbit_or, pbit_shl hu, decide_eq_true rfl]
    by_cases ev : v = u
    · subst ev; rw [decide_eq_true rfl, Bool.or_true, if_pos rfl]
    · rw [decide_eq_false (fun q => ev q.symm), Bool.or_false, if_neg ev]
      by_cases e2 : e = d0
      · subst e2; rw [pk_us, hc, decide_eq_false (fun q => ev q.symm)]; simp
      · rw [pk_un e2]
  · rw [pk_un e1, decide_eq_false e1]
    by_cases e2 : e = d0
    · subst e2
      rw [pk_us, hc]
      by_cases ev : v = u
      · subst ev; simp
      · rw [decide_eq_false (fun q => ev q.symm), if_neg ev]; simp
    · rw [pk_un e2]
      by_cases ev : v = u
      · subst ev
        rw [if_pos rfl]
        cases hb : pbit (sets e) v with
        | false => rfl
        | true => exact absurd (h0 hb) e2
      · rw [if_neg ev]
theorem pX4_giveE {places sets : Nat → Int32} {u d0 d : Nat} (hu : u < 12) (h0 : places u = nI d0) (hd0 : d0 < 4) (hd : d < 4) : fX4_give places sets (nI u) (nI d) = some (upd places u (nI d), giveF sets u d0 d) := by
  rw [fX4_give, nI_clamp (by omega), h0, nI_clamp (by omega), nI_clamp (by omega)]
  rw [if_pos ((inR_nI (by omega)).mpr hu), if_pos ((inR_nI (by omega)).mpr hd0), if_pos ((inR_nI (by omega)).mpr hd0), if_pos ((inR_nI (by omega)).mpr hu), if_pos ((inR_nI (by omega)).mpr hd), if_pos ((inR_nI (by omega)).mpr hd)]
  rfl
theorem pX4_give {n k : Nat} {places sets plan : Nat → Int32} (hn : n ≤ 12) (hk : k ≤ 4) (hP : PlanR n k places sets plan) {u d : Nat} (hu : u < n) (hd : d < k) : ∃ s', fX4_give places sets (nI u) (nI d) = some (upd places u (nI d), s') ∧ PlanR n k (upd places u (nI d)) s' (upd plan u (nI d)) := by
  obtain ⟨d0, hd0, e0⟩ := (hP.1 u hu).2
  refine ⟨_, pX4_giveE (by omega) ((hP.1 u hu).1.trans e0) (by omega) (by omega), fun v hv => ?_, fun e he => ?_⟩
  · by_cases ev : v = u
    · subst ev; rw [pk_us, pk_us]; exact ⟨rfl, d, hd, rfl⟩
    · rw [pk_un ev, pk_un ev]; exact hP.1 v hv
  · apply pbit_ext
    intro v _
    rw [giveF_bit (by omega), pbit_mkS' (by omega)]
    · by_cases ev : v = u
      · subst ev
        rw [if_pos rfl, pk_us, decide_eq_true hu, Bool.true_and]
        exact decide_eq_decide.mpr ⟨fun q => by rw [q], fun q => (nI_inj (by omega) (by omega) q).symm⟩
      · rw [if_neg ev, pk_un ev, hP.2 e he, pbit_mkS' (by omega)]
    · intro hb
      rw [hP.2 e he, pbit_mkS (by omega)] at hb
      exact nI_inj (by omega) (by omega) ((of_decide_eq_true hb.2).symm.trans e0)
theorem k12 : (12 : Int32).toNatClampNeg = 12 := by decide
theorem k4 : (4 : Int32).toNatClampNeg = 4 := by decide
theorem cpy0 {f h : Nat → Int32} {n j : Nat} (hj : j < n) : va_cpy f h 0 0 n j = f j := by
  have := pk_cpy_in (f := f) (g := h) (sp := 0) (dp := 0) (n := n) (j := j) (by omega) (by omega)
  simpa using this
theorem pX4_copyFrom {n k : Nat} {places sets plan p4 s4 : Nat → Int32} (hn : n ≤ 12) (hP : PlanR n k places sets plan) : ∃ p s, fX4_copyFrom places sets p4 s4 = some (p, s) ∧ PlanR n k p s plan ∧ (∀ u, u < 12 → p u = places u) := by
  rw [fX4_copyFrom, k12, k4]
  exact ⟨_, _, rfl, hP.congr (fun u hu => cpy0 (by omega)) (fun d hd => cpy0 hd) (fun u hu => rfl), fun u hu => cpy0 hu⟩
noncomputable def moveS (n k : Nat) (g plan : Nat → Int32) (u d : Nat) : Int32 × Int32 := if nbrB n g plan u (nI d) then reasS n k g (upd plan u (nI d)) else (5, nI u)
theorem PlanM.upd {n k : Nat} {plan : Nat → Int32} (h : PlanM n k plan) {u d : Nat} (hd : d < k) : PlanM n k (upd plan u (nI d)) := by
  intro v hv
  by_cases e : v = u
  · subst e; rw [pk_us]; exact ⟨d, hd, rfl⟩
  · rw [pk_un e]; exact h v hv
theorem pX3_judgeMove {g pop area com outer nb len : Nat → Int32} {n k : Nat} {cores dt rs : Int32} (h : MapR g n pop area com outer nb len cores) (hk : k ≤ 4) {places sets plan p4 s4 : Nat → Int32} (hP : PlanR n k places sets plan) {u d : Nat} (hu : u < n) (hd : d < k) :
    ∃ bp bs, fX3_judgeMove com cores (nI k) nb places sets pop (g 206) (nI n) p4 s4 dt rs (nI u) (nI d) = some ((moveS n k g plan u d).1, bp, bs, (moveS n k g plan u d).2, (moveS n k g plan u d).1) ∧ (nbrB n g plan u (nI d) = true → PlanR n k bp bs (upd plan u (nI d))) := by
  have hn := h.n12
  rw [fX3_judgeMove, if_pos ((inR_nI (by omega)).mpr (by omega)), if_pos ((inR_nI (by omega)).mpr (by omega)), nI_clamp (by omega), nI_clamp (by omega), h.nb hu, hP.2 d (by omega)]
  unfold moveS
  cases hb : nbrB n g plan u (nI d) with
  | false =>
    rw [if_pos ((nbr_iff hn).mpr hb), if_neg ff]
    exact ⟨p4, s4, rfl, fun q => by cases q⟩
  | true =>
    rw [if_neg (fun q => by rw [(nbr_iff hn).mp q] at hb; cases hb), if_pos rfl]
    obtain ⟨p1, s1, e1, hP1, -⟩ := pX4_copyFrom (p4 := p4) (s4 := s4) hn hP
    obtain ⟨s2, e2, hP2⟩ := pX4_give hn hk hP1 hu hd
    rw [e1, bind_s, e2, bind_s, pX3_judgePlan h hk hP2, bind_s]
    exact ⟨_, _, rfl, fun _ => hP2⟩
theorem pX11_moves {g plan : Nat → Int32} {n k : Nat} {dt : Int32} (hg : g 204 = nI n) (hn : n ≤ 12) (hgk : g 205 = nI k) (hk : k ≤ 4) (hp : PlanM n k plan) {u d : Nat} (hu : u < n) (hd : d < k) : fX11_moves dt g plan (nI u) (nI d) = some ((moveS n k g plan u d).1, (if (moveS n k g plan u d).1 = 0 then dt else (moveS n k g plan u d).2), if nbrB n g plan u (nI d) then upd plan u (nI d) else plan) := by
  rw [fX11_moves, pX11_hasNeighbor hg hn (by omega), bind_s]
  unfold moveS
  cases hb : nbrB n g plan u (nI d) with
  | false =>
    rw [if_neg ff, if_pos rfl, if_neg ff, if_neg ff]
    rw [if_neg (show ¬ ((5 : Int32), nI u).1 = 0 from (by decide : ¬ (5 : Int32) = 0))]
  | true =>
    rw [if_pos rfl, if_neg n10, if_pos ((inR_nI (by omega)).mpr (by omega)), nI_clamp (by omega), pX11_reason hg hn hgk hk (hp.upd hd), bind_s, if_pos rfl, if_pos rfl]
noncomputable def swapS (n k : Nat) (g plan : Nat → Int32) (u v : Nat) : Int32 × Int32 := if nbrB n g plan u (plan v) then (if nbrB n g plan v (plan u) then reasS n k g (upd (upd plan u (plan v)) v (plan u)) else (5, nI v)) else (5, nI u)
def swapB (n : Nat) (g plan : Nat → Int32) (u v : Nat) : Bool := nbrB n g plan u (plan v) && nbrB n g plan v (plan u)
theorem pX3_judgeSwap {g pop area com outer nb len : Nat → Int32} {n k : Nat} {cores dt rs : Int32} (h : MapR g n pop area com outer nb len cores) (hk : k ≤ 4) {places sets plan p4 s4 : Nat → Int32} (hP : PlanR n k places sets plan) {u v : Nat} (hu : u < n) (hv : v < n) (hne : u ≠ v) :
    ∃ bp bs, fX3_judgeSwap com cores (nI k) nb places sets pop (g 206) (nI n) p4 s4 dt rs (nI u) (nI v) = some ((swapS n k g plan u v).1, bp, bs, (swapS n k g plan u v).2, (swapS n k g plan u v).1) ∧ (swapB n g plan u v = true → PlanR n k bp bs (upd (upd plan u (plan v)) v (plan u))) := by
  have hn := h.n12
  obtain ⟨du, hdu, eu⟩ := (hP.1 u hu).2
  obtain ⟨dv, hdv, ev⟩ := (hP.1 v hv).2
  have pu := (hP.1 u hu).1
  have pv := (hP.1 v hv).1
  rw [fX3_judgeSwap, nI_clamp (by omega), nI_clamp (by omega), pu, pv, eu, ev, nI_clamp (by omega), nI_clamp (by omega)]
  rw [if_pos ((inR_nI (by omega)).mpr (by omega)), if_pos ((inR_nI (by omega)).mpr (by omega)), if_pos ((inR_nI (by omega)).mpr (by omega)), if_pos ((inR_nI (by omega)).mpr (by omega)), h.nb hu, hP.2 dv (by omega), h.nb hv, hP.2 du (by omega)]
  unfold swapS swapB
  rw [eu, ev]
  cases h1 : nbrB n g plan u (nI dv) with
  | false =>
    rw [if_pos ((nbr_iff hn).mpr h1), if_neg ff]
    exact ⟨p4, s4, rfl, fun q => by cases q⟩
  | true =>
    rw [if_neg (fun q => by rw [(nbr_iff hn).mp q] at h1; cases h1), if_pos rfl, if_pos ((inR_nI (by omega)).mpr (by omega)), if_pos ((inR_nI (by omega)).mpr (by omega))]
    cases h2 : nbrB n g plan v (nI du) with
    | false =>
      rw [if_pos ((nbr_iff hn).mpr h2), if_neg ff]
      exact ⟨p4, s4, rfl, fun q => by cases q⟩
    | true =>
      rw [if_neg (fun q => by rw [(nbr_iff hn).mp q] at h2; cases h2), if_pos rfl]
      obtain ⟨p1, s1, e1, hP1, -⟩ := pX4_copyFrom (p4 := p4) (s4 := s4) hn hP
      obtain ⟨s2, e2, hP2⟩ := pX4_give hn hk hP1 hu hdv
      obtain ⟨s3, e3, hP3⟩ := pX4_give hn hk hP2 hv hdu
      rw [e1, bind_s, e2, bind_s, e3, bind_s, pX3_judgePlan h hk hP3, bind_s]
      exact ⟨_, _, rfl, fun _ => hP3⟩
theorem pX11_swaps {g plan : Nat → Int32} {n k : Nat} {dt : Int32} (hg : g 204 = nI n) (hn : n ≤ 12) (hgk : g 205 = nI k) (hk : k ≤ 4) (hp : PlanM n k plan) {u v : Nat} (hu : u < n) (hv : v < n) : fX11_swaps dt g plan (nI u) (nI v) = some ((swapS n k g plan u v).1, (if (swapS n k g plan u v).1 = 0 then dt else (swapS n k g plan u v).2), if swapB n g plan u v then upd (upd plan u (plan v)) v (plan u) else plan) := by
  obtain ⟨du, hdu, eu⟩ := hp u hu
  obtain ⟨dv, hdv, ev⟩ := hp v hv
  rw [fX11_swaps, nI_clamp (by omega), nI_clamp (by omega)]
  rw [if_pos ((inR_nI (by omega)).mpr (by omega)), pX11_hasNeighbor hg hn (by omega), bind_s, if_pos ((inR_nI (by omega)).mpr (by omega)), pX11_hasNeighbor hg hn (by omega), bind_s]
  unfold swapS swapB
  cases h1 : nbrB n g plan u (plan v) with
  | false =>
    rw [if_neg ff, if_pos rfl, if_neg ff, Bool.false_and, if_neg ff]
    rw [if_neg (show ¬ ((5 : Int32), nI u).1 = 0 from (by decide : ¬ (5 : Int32) = 0))]
  | true =>
    rw [if_pos rfl, if_neg n10, if_pos rfl, Bool.true_and]
    cases h2 : nbrB n g plan v (plan u) with
    | false =>
      rw [if_neg ff, if_pos rfl, if_neg ff, if_neg ff]
      rw [if_neg (show ¬ ((5 : Int32), nI v).1 = 0 from (by decide : ¬ (5 : Int32) = 0))]
    | true =>
      rw [if_pos rfl, if_neg n10, if_pos rfl, if_pos rfl]
      rw [if_pos ((inR_nI (by omega)).mpr (by omega)), if_pos ((inR_nI (by omega)).mpr (by omega)), if_pos ((inR_nI (by omega)).mpr (by omega)), if_pos ((inR_nI (by omega)).mpr (by omega))]
      have hp2 : PlanM n k (upd (upd plan u (plan v)) v (plan u)) := by rw [eu, ev]; exact (hp.upd hdv).upd hdu
      rw [pX11_reason hg hn hgk hk hp2, bind_s]
