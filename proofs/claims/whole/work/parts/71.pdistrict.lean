/-! a district's properties -/
section DI
variable {g area com : Nat → Int32} {cores dist has : Int32} {len nb outer places sets pop : Nat → Int32} {tol units : Int32} {n k : Nat}
/-- the districts around one -/
def aroundB (n : Nat) (g plan : Nat → Int32) (d o : Nat) : Bool := anyB n (fun u => anyB n (fun v => decide (plan u = nI d) && decide (plan v = nI o) && decide (0 < gB g u v)))
def aroundS (n k : Nat) (g plan : Nat → Int32) (d : Nat) : Int32 := mkS k (fun o => decide (o ≠ d) && aroundB n g plan d o)
theorem pX9_districtsAround {plan : Nat → Int32} {d : Nat} (hR : MapR g n pop area com outer nb len cores) (hk : k ≤ 4) (hP : PlanR n k places sets plan) (hd : d < k) : fX9_districtsAround (nI k) nb places sets (nI n) (nI d) = some (aroundS n k g plan d) := by
  have hn := hR.n12
  rw [fX9_districtsAround]
  have L4 : ∀ kf : Int32 → Option Int32, fX9_districtsAround_L4 nb places (nI n) (nI d) 1000000 kf 0 0 = kf (orI n (fun u => if plan u = nI d then nbS n g u else 0)) := by
    intro kf
    refine upS (fun m i s => fX9_districtsAround_L4 nb places (nI n) (nI d) m kf s (nI i)) (fun i => orI i (fun u => if plan u = nI d then nbS n g u else 0)) n _ (fun m => ?_) (fun m i hi => ?_) 1000000 (by omega)
    · show fX9_districtsAround_L4 nb places (nI n) (nI d) (m + 1) kf _ (nI n) = _
      rw [fX9_districtsAround_L4, if_pos (nI_leS n (by omega))]
    · show fX9_districtsAround_L4 nb places (nI n) (nI d) (m + 1) kf _ (nI i) = fX9_districtsAround_L4 nb places (nI n) (nI d) m kf (orI i _ ||| if plan i = nI d then nbS n g i else 0) (nI (i + 1))
      rw [fX9_districtsAround_L4, if_neg (nI_ge hi (by omega)), if_pos ((inR_nI (by omega)).mpr (by omega)), if_pos ((inR_nI (by omega)).mpr (by omega)), nI_clamp (by omega), (hP.1 i hi).1, hR.nb hi, nI_1]
      by_cases c : plan i = nI d
      · rw [if_pos c, if_pos c]
      · rw [if_neg c, if_neg c, or_0]
  rw [L4]
  have ht : ∀ o, o < k → ((orI n (fun u => if plan u = nI d then nbS n g u else 0) &&& setS n plan o = 0) ↔ aroundB n g plan d o = false) := by
    intro o ho
    unfold aroundB
    rw [eq0_bit, anyB_false]
    constructor
    · intro q u hu
      rw [anyB_false]
      intro v hv
      have := q v
      cases h1 : decide (plan u = nI d) with
      | false => rfl
      | true =>
        cases h2 : decide (plan v = nI o) with
        | false => rfl
        | true =>
          cases h3 : decide (0 < gB g u v) with
          | false => rfl
          | true =>
            have e1 : pbit (orI n (fun u => if plan u = nI d then nbS n g u else 0)) v = true := pbit_orI.mpr ⟨u, hu, by
              rw [if_pos (of_decide_eq_true h1)]
              exact (pbit_mkS (by omega)).mpr ⟨hv, h3⟩⟩
            rw [pbit_and, e1, pbit_mkS' (by omega), decide_eq_true hv, h2] at this
            cases this
    · intro q v
      rw [pbit_and]
      cases h1 : pbit (orI n (fun u => if plan u = nI d then nbS n g u else 0)) v with
      | false => rfl
      | true =>
        obtain ⟨u, hu, h2⟩ := pbit_orI.mp h1
        by_cases c : plan u = nI d
        · rw [if_pos c] at h2
          obtain ⟨hv, h3⟩ := (pbit_mkS (by omega)).mp h2
          have := anyB_false.mp (q u hu) v hv
          rw [decide_eq_true c, h3, Bool.true_and, Bool.and_true] at this
          rw [pbit_mkS' (by omega), this, Bool.and_false]; rfl
        · rw [if_neg c, pbit_0] at h2; cases h2
  generalize orI n (fun u => if plan u = nI d then nbS n g u else 0) = tch at ht ⊢
  refine upS (fun m i s => fX9_districtsAround_L45 (nI k) sets (nI d) tch m (fun z => some z) s (nI i)) (fun i => mkS i (fun o => decide (o ≠ d) && aroundB n g plan d o)) k _ (fun m => ?_) (fun m i hi => ?_) 1000000 (by omega)
  · show fX9_districtsAround_L45 (nI k) sets (nI d) tch (m + 1) _ _ (nI k) = _
    rw [fX9_districtsAround_L45, if_pos (nI_leS k (by omega))]; rfl
  · show fX9_districtsAround_L45 (nI k) sets (nI d) tch (m + 1) _ _ (nI i) = fX9_districtsAround_L45 (nI k) sets (nI d) tch m _ (mkS i _ ||| if (decide (i ≠ d) && aroundB n g plan d i) then (1 : Int32) <<< (nI i &&& 31) else 0) (nI (i + 1))
    rw [fX9_districtsAround_L45, if_neg (nI_ge hi (by omega)), nI_1]
    by_cases c : i = d
    · rw [if_pos (show nI i = nI d by rw [c]), decide_eq_false (fun q => q c), Bool.false_and, if_neg ff, or_0]
    · rw [if_neg (fun e => c (nI_inj (by omega) (by omega) e)), if_pos ((inR_nI (by omega)).mpr (by omega)), nI_clamp (by omega), hP.2 i (by omega), decide_eq_true c, Bool.true_and]
      cases hb : aroundB n g plan d i with
      | false => rw [if_pos ((ht i hi).mpr hb), if_neg ff, or_0]
      | true => rw [if_neg (fun q => by rw [(ht i hi).mp q] at hb; cases hb), if_pos rfl]
theorem pX11_others {plan : Nat → Int32} {d : Nat} (hg : g 204 = nI n) (hn : n ≤ 12) (hk : k ≤ 4) (hp : PlanM n k plan) (hd : d < k) : fX11_others g plan (nI d) = some (aroundS n k g plan d) := by
  rw [fX11_others]
  have inner : ∀ (u : Nat) (s : Int32) (kf : Int32 → Option Int32), u < n → fX11_others_L19 g plan (nI d) (nI u) 1000000 kf s 0 = kf (s ||| orI n (fun v => if plan u = nI d ∧ plan v ≠ nI d ∧ 0 < gB g u v then (1 : Int32) <<< (plan v &&& 31) else 0)) := by
    intro u s kf hu
    have h := upS (fun m i z => fX11_others_L19 g plan (nI d) (nI u) m kf z (nI i)) (fun i => s ||| orI i (fun v => if plan u = nI d ∧ plan v ≠ nI d ∧ 0 < gB g u v then (1 : Int32) <<< (plan v &&& 31) else 0)) n (kf (s ||| orI n (fun v => if plan u = nI d ∧ plan v ≠ nI d ∧ 0 < gB g u v then (1 : Int32) <<< (plan v &&& 31) else 0))) (fun m => ?_) (fun m i hi => ?_) 1000000 (by omega)
    · have e : s ||| orI 0 (fun v => if plan u = nI d ∧ plan v ≠ nI d ∧ 0 < gB g u v then (1 : Int32) <<< (plan v &&& 31) else 0) = s := or_0 s
      simp only [e] at h
      exact h
    · show fX11_others_L19 g plan (nI d) (nI u) (m + 1) kf _ (nI n) = _
      rw [fX11_others_L19, k204, hg, if_pos (nI_leS n (by omega))]
    · show fX11_others_L19 g plan (nI d) (nI u) (m + 1) kf _ (nI i) = fX11_others_L19 g plan (nI d) (nI u) m kf (s ||| (orI i _ ||| if plan u = nI d ∧ plan i ≠ nI d ∧ 0 < gB g u i then (1 : Int32) <<< (plan i &&& 31) else 0)) (nI (i + 1))
      rw [fX11_others_L19, k204, hg, if_neg (nI_ge hi (by omega)), if_pos ((inR_nI (by omega)).mpr (by omega)), if_pos ((inR_nI (by omega)).mpr (by omega)), nI_clamp (by omega), nI_clamp (by omega), pX11_borderOf (by omega) (by omega), bind_s, nI_1, ← or_as]
      generalize hs : s ||| orI i (fun v => if plan u = nI d ∧ plan v ≠ nI d ∧ 0 < gB g u v then (1 : Int32) <<< (plan v &&& 31) else 0) = sv
      by_cases c1 : plan u = nI d
      · rw [if_pos c1]
        by_cases c2 : plan i = nI d
        · rw [if_pos c2, if_neg (fun q => q.2.1 c2)]
        · rw [if_neg c2]
          by_cases c3 : gB g u i ≤ 0
          · rw [if_pos c3, if_neg (fun q => by rw [lt_nle] at q; exact q.2.2 c3)]
          · rw [if_neg c3, if_pos ((inR_nI (by omega)).mpr (by omega)), nm_eq, if_pos ⟨c1, c2, by rw [lt_nle]; exact c3⟩]
      · rw [if_neg c1, if_neg (fun q => c1 q.1)]
  have h := upS (fun m i z => fX11_others_L4 g plan (nI d) m (fun z => some z) z (nI i)) (fun i => orI i (fun u => orI n (fun v => if plan u = nI d ∧ plan v ≠ nI d ∧ 0 < gB g u v then (1 : Int32) <<< (plan v &&& 31) else 0))) n (some (orI n (fun u => orI n (fun v => if plan u = nI d ∧ plan v ≠ nI d ∧ 0 < gB g u v then (1 : Int32) <<< (plan v &&& 31) else 0)))) (fun m => ?_) (fun m i hi => ?_) 1000000 (by omega)
  · refine Eq.trans h ?_
    congr 1
    apply pbit_ext
    intro o _
    rw [Bool.eq_iff_iff, pbit_orI]
    unfold aroundS
    rw [pbit_mkS (by omega), Bool.and_eq_true, decide_eq_true_eq]
    unfold aroundB
    rw [anyB_iff]
    constructor
    · rintro ⟨u, hu, q⟩
      obtain ⟨v, hv, q⟩ := pbit_orI.mp q
      by_cases c : plan u = nI d ∧ plan v ≠ nI d ∧ 0 < gB g u v
      · obtain ⟨o', ho', eo⟩ := hp v hv
        rw [if_pos c, eo, pbit_shl (by omega), decide_eq_true_eq] at q
        subst q
        refine ⟨ho', fun e => c.2.1 (by rw [eo, e]), u, hu, anyB_iff.mpr ⟨v, hv, ?_⟩⟩
        rw [decide_eq_true c.1, decide_eq_true eo, decide_eq_true c.2.2]; rfl
      · rw [if_neg c, pbit_0] at q; cases q
    · rintro ⟨ho, hne, u, hu, q⟩
      obtain ⟨v, hv, q⟩ := anyB_iff.mp q
      rw [Bool.and_eq_true, Bool.and_eq_true, decide_eq_true_eq, decide_eq_true_eq, decide_eq_true_eq] at q
      refine ⟨u, hu, pbit_orI.mpr ⟨v, hv, ?_⟩⟩
      rw [if_pos ⟨q.1.1, fun e => hne (nI_inj (by omega) (by omega) (q.1.2.symm.trans e)), q.2⟩, q.1.2, pbit_shl (by omega)]
      exact decide_eq_true rfl
  · show fX11_others_L4 g plan (nI d) (m + 1) _ _ (nI n) = _
    rw [fX11_others_L4, k204, hg, if_pos (nI_leS n (by omega))]
  · show fX11_others_L4 g plan (nI d) (m + 1) _ _ (nI i) = fX11_others_L4 g plan (nI d) m _ (orI i _ ||| orI n (fun v => if plan i = nI d ∧ plan v ≠ nI d ∧ 0 < gB g i v then (1 : Int32) <<< (plan v &&& 31) else 0)) (nI (i + 1))
    rw [fX11_others_L4, k204, hg, if_neg (nI_ge hi (by omega)), inner i _ _ hi, nI_1]
theorem pX11_district_L102 {plan : Nat → Int32} {set : Int32} (hg : g 204 = nI n) (hn : n ≤ 12) (hs : ∀ v, pbit set v = true → v < n) (kf : Int32 → Option (Int32 × (Nat → Int32) × Int32)) : fX11_district_L102 g set plan 1000000 kf 0 0 = kf (nI (cntB set 12)) := by
  rw [show cntB set 12 = cntB set n by
    rw [cntB_sum, cntB_sum]
    exact sumN_ext hn fun u h1 _ => by
      cases hb : pbit set u with
      | false => rfl
      | true => have := hs u hb; omega]
  refine upS (fun m i z => fX11_district_L102 g set plan m kf z (nI i)) (fun i => nI (cntB set i)) n _ (fun m => ?_) (fun m i hi => ?_) 1000000 (by omega)
  · show fX11_district_L102 g set plan (m + 1) kf _ (nI n) = _
    rw [fX11_district_L102, k204, hg, if_pos (nI_leS n (by omega))]
  · show fX11_district_L102 g set plan (m + 1) kf _ (nI i) = fX11_district_L102 g set plan m kf (nI (cntB set i + if pbit set i then 1 else 0)) (nI (i + 1))
    rw [fX11_district_L102, k204, hg, if_neg (nI_ge hi (by omega)), nI_1, pbit_shr _ (by omega)]
    cases pbit set i with
    | true => rw [if_pos rfl, if_pos rfl, nI_1]
    | false => rw [if_neg ff, if_neg ff, add_0]; rfl
theorem op_district (h : WR g area com cores dist has len nb outer places sets pop tol units) (plan : Nat → Int32) (x y : Int32) : ∃ r b plan' th, fX10_district area com dist has len nb outer places sets pop units x y = some r ∧ fX11_district g plan x y = some (b, plan', th) ∧ ansR ["java/lang/IndexOutOfBoundsException", "java/lang/IllegalArgumentException", "java/lang/IllegalStateException"] r b th := by
  obtain ⟨n, k, rfl, hR, hW, hX, rfl, e3, e4, e5, rfl, ⟨t, e7, e8⟩, rfl, e10, e11⟩ := h
  have hn := hR.n12
  rw [fX10_district, fX11_district, pX10_checkDistrict (by omega), bind_s, pX11_isDistrict e3 (by omega), bind_s]
  by_cases hx : inR x k
  · obtain ⟨d, hd, rfl⟩ := inR_of hx (by omega)
    rw [if_pos hx, if_pos hx, if_neg n10, se_r, k219]
    rcases in_lohi (x := y) (show 6 < 2 ^ 30 by decide) (show 0 ≤ 6 by decide) with ⟨a, e⟩ | ⟨a, b, e⟩ | ⟨a, b, e, j, h1, h2, rfl⟩
    · rw [if_pos (show y < (0 : Int32) from a), show fX11_in y 0 6 = some 0 from e, bind_s, if_pos rfl]
      exact ⟨_, _, _, _, rfl, rfl, by decide +kernel, by decide +kernel⟩
    · rw [if_neg (show ¬ y < (0 : Int32) from a), if_neg (show ¬ y ≤ (6 : Int32) from b), show fX11_in y 0 6 = some 0 from e, bind_s, if_pos rfl]
      exact ⟨_, _, _, _, rfl, rfl, by decide +kernel, by decide +kernel⟩
    · rw [if_neg (show ¬ nI j < (0 : Int32) from a), if_pos (show nI j ≤ (6 : Int32) from b), show fX11_in (nI j) 0 6 = some 1 from e, bind_s, if_neg n10, fX10_checkPlan]
      by_cases hp : g 219 = 0
      · rw [if_pos hp, if_pos hp, bind_s, se_l]
        exact ⟨_, _, _, _, rfl, rfl, by decide +kernel, by decide +kernel⟩
      · obtain ⟨n1, hPl⟩ := e11 (e10.resolve_left hp)
        have hP0 : PlanR n k places sets (tl g plan) := hPl.congr (fun _ _ => rfl) (fun _ _ => rfl) (fun u hu => if_pos (by omega))
        have hb : ∀ v, pbit (setS n (tl g plan) d) v = true → v < n := fun v q => ((pbit_mkS (by omega)).mp q).1
        rw [if_neg hp, if_neg hp, bind_s, se_r, if_pos ((inR_nI (by omega)).mpr (by omega)), nI_clamp (by omega), hP0.2 d (by omega), pX11_tells, bind_s, pX11_set hR.g204 hn, bind_s]
        rcases (show j = 0 ∨ j = 1 ∨ j = 2 ∨ j = 3 ∨ j = 4 ∨ j = 5 ∨ j = 6 by omega) with rfl | rfl | rfl | rfl | rfl | rfl | rfl
        · rw [if_pos (show nI 0 = (0 : Int32) from rfl), if_pos (show nI 0 = (0 : Int32) from rfl), bitc (setS_12 hn), bind_s, pX11_district_L102 hR.g204 hn hb]
          exact ⟨_, _, _, _, rfl, rfl, rfl, rfl⟩
        · rw [if_neg (show ¬ nI 1 = (0 : Int32) by decide), if_neg (show ¬ nI 1 = (0 : Int32) by decide), if_pos (show nI 1 = (1 : Int32) from rfl), if_pos (show nI 1 = (1 : Int32) from rfl)]
          exact ⟨_, _, _, _, rfl, rfl, rfl, rfl⟩
        · rw [if_neg (show ¬ nI 2 = (0 : Int32) by decide), if_neg (show ¬ nI 2 = (0 : Int32) by decide), if_neg (show ¬ nI 2 = (1 : Int32) by decide), if_neg (show ¬ nI 2 = (1 : Int32) by decide), if_pos (show nI 2 = (2 : Int32) from rfl), if_pos (show nI 2 = (2 : Int32) from rfl), pX9_populationOf hn, bind_s, show nI 2 - (2 : Int32) = nI 0 by decide, pX11_sum hR.g204 hn (by decide), bind_s, ssum_congr (fun u hu => hR.pop hu)]
          exact ⟨_, _, _, _, rfl, rfl, rfl, rfl⟩
        · rw [if_neg (show ¬ nI 3 = (0 : Int32) by decide), if_neg (show ¬ nI 3 = (0 : Int32) by decide), if_neg (show ¬ nI 3 = (1 : Int32) by decide), if_neg (show ¬ nI 3 = (1 : Int32) by decide), if_neg (show ¬ nI 3 = (2 : Int32) by decide), if_neg (show ¬ nI 3 = (2 : Int32) by decide), if_pos (show nI 3 = (3 : Int32) from rfl), if_pos (show nI 3 = (3 : Int32) from rfl), pX9_areaOf hn, bind_s, show nI 3 - (2 : Int32) = nI 1 by decide, pX11_sum hR.g204 hn (by decide), bind_s, ssum_congr (fun u hu => hR.area hu)]
          exact ⟨_, _, _, _, rfl, rfl, rfl, rfl⟩
        · rw [if_neg (show ¬ nI 4 = (0 : Int32) by decide), if_neg (show ¬ nI 4 = (0 : Int32) by decide), if_neg (show ¬ nI 4 = (1 : Int32) by decide), if_neg (show ¬ nI 4 = (1 : Int32) by decide), if_neg (show ¬ nI 4 = (2 : Int32) by decide), if_neg (show ¬ nI 4 = (2 : Int32) by decide), if_neg (show ¬ nI 4 = (3 : Int32) by decide), if_neg (show ¬ nI 4 = (3 : Int32) by decide), if_pos (show nI 4 = (4 : Int32) from rfl), if_pos (show nI 4 = (4 : Int32) from rfl), pX9_perimeterOf hn, bind_s, pX11_perimeter hR.g204 hn, bind_s, perS_congr (fun u hu => hR.outer hu) (fun u v hu hv => hR.len hu hv)]
          exact ⟨_, _, _, _, rfl, rfl, rfl, rfl⟩
        · rw [if_neg (show ¬ nI 5 = (0 : Int32) by decide), if_neg (show ¬ nI 5 = (0 : Int32) by decide), if_neg (show ¬ nI 5 = (1 : Int32) by decide), if_neg (show ¬ nI 5 = (1 : Int32) by decide), if_neg (show ¬ nI 5 = (2 : Int32) by decide), if_neg (show ¬ nI 5 = (2 : Int32) by decide), if_neg (show ¬ nI 5 = (3 : Int32) by decide), if_neg (show ¬ nI 5 = (3 : Int32) by decide), if_neg (show ¬ nI 5 = (4 : Int32) by decide), if_neg (show ¬ nI 5 = (4 : Int32) by decide), if_pos (show nI 5 = (5 : Int32) from rfl), if_pos (show nI 5 = (5 : Int32) from rfl), pX9_districtsAround hR e5 hP0 hd, bind_s, pX11_others hR.g204 hn e5 hP0.m hd, bind_s]
          exact ⟨_, _, _, _, rfl, rfl, rfl, rfl⟩
        · rw [if_neg (show ¬ nI 6 = (0 : Int32) by decide), if_neg (show ¬ nI 6 = (0 : Int32) by decide), if_neg (show ¬ nI 6 = (1 : Int32) by decide), if_neg (show ¬ nI 6 = (1 : Int32) by decide), if_neg (show ¬ nI 6 = (2 : Int32) by decide), if_neg (show ¬ nI 6 = (2 : Int32) by decide), if_neg (show ¬ nI 6 = (3 : Int32) by decide), if_neg (show ¬ nI 6 = (3 : Int32) by decide), if_neg (show ¬ nI 6 = (4 : Int32) by decide), if_neg (show ¬ nI 6 = (4 : Int32) by decide), if_neg (show ¬ nI 6 = (5 : Int32) by decide), if_neg (show ¬ nI 6 = (5 : Int32) by decide), pX9_countCommunities hR, bind_s, pX11_communities hR.g204 hn hW, bind_s]
          exact ⟨_, _, _, _, rfl, rfl, rfl, rfl⟩
  · rw [if_neg hx, if_neg hx, if_pos rfl, se_l]
    exact ⟨_, _, _, _, rfl, rfl, by decide +kernel, by decide +kernel⟩
end DI
