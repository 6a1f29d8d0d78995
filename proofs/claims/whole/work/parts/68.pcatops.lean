/-! the catalog's calls -/
theorem nbS_cg {n : Nat} {g g' : Nat → Int32} (hn : n ≤ 12) (hg : ∀ x, x < 207 → g' x = g x) {u : Nat} (hu : u < n) : nbS n g' u = nbS n g u := by
  unfold nbS gB
  exact mkS_congr fun v hv => by rw [hg _ (by omega)]
theorem coreB_cg {n : Nat} {g g' : Nat → Int32} (hn : n ≤ 12) (hg : ∀ x, x < 207 → g' x = g x) (c : Nat) : mkS n (coreB g' c) = mkS n (coreB g c) := mkS_congr fun v hv => by
  unfold coreB
  rw [hg _ (by omega), hg _ (by omega)]
theorem okS_cg {n k : Nat} {g g' : Nat → Int32} {s : Int32} (hn : n ≤ 12) (hg : ∀ x, x < 207 → g' x = g x) (hs : ∀ v, pbit s v = true → v < 12) : okS n k g' s = okS n k g s := by
  have e1 : offS n (nI k) (fun u => g' (5 * u)) s = offS n (nI k) (fun u => g (5 * u)) s := offS_congr fun u hu => hg _ (by omega)
  have e2 : sumI n (fun u => g' (5 * u)) = sumI n (fun u => g (5 * u)) := sumI_congr fun u hu => hg _ (by omega)
  have e3 : reachS n (nbS n g') s = reachS n (nbS n g) s := reachS_congr hn hs fun u hu => nbS_cg hn hg hu
  have e4 : okP n k g' s ↔ okP n k g s := by
    unfold okP
    rw [e1, e2, e3, hg 206 (by omega)]
    have : (∀ c, c < 4 → cutsB s (mkS n (coreB g' c)) = false) ↔ (∀ c, c < 4 → cutsB s (mkS n (coreB g c)) = false) := forall_congr' fun c => by rw [coreB_cg hn hg]
    rw [this]
  rw [Bool.eq_iff_iff, okS_iff, okS_iff, e4]
theorem lawR_cg {n k : Nat} {g g' : Nat → Int32} (hn : n ≤ 12) (hk0 : 1 ≤ k) (hk : k ≤ 4) (hg : ∀ x, x < 207 → g' x = g x) : lawR n k g' = lawR n k g := by
  unfold lawR
  refine filter_cg fun t ht => ?_
  obtain ⟨hl, hd⟩ := genL_ok hk0 ht
  have hm := arL_m (q := fun _ => 0) (n := n) (k := k) hn hl hd
  rw [Bool.eq_iff_iff, lawL_iff (q := fun _ => 0) hn, lawL_iff (q := fun _ => 0) hn, reasS_0 hn hk hm, reasS_0 hn hk hm]
  exact forall_congr' fun d => by rw [okS_cg hn hg (setS_12 hn)]
theorem CatR.cg {n k : Nat} {g g' poss codes : Nat → Int32} {hs hp size : Int32} (h : CatR n k g hs poss hp codes size) (hk0 : 1 ≤ k) (hk : k ≤ 4) (hg : ∀ x, x < 207 → g' x = g x) : CatR n k g' hs poss hp codes size := by
  refine ⟨fun q => ⟨(h.1 q).1, fun s hs' => ?_⟩, fun q => ⟨(h.2 q).1, ?_⟩⟩
  · have hn := (h.1 q).1
    rw [(h.1 q).2 s hs', okS_cg (by omega) hg (fun v hv => by have := bit_nI_lt hs' hv; omega)]
  · have hn := (h.2 q).1
    obtain ⟨a, b⟩ := (h.2 q).2
    unfold ListR
    rw [lawR_cg (by omega) hk0 hk hg]
    exact ⟨a, b⟩
/-- what the catalog knows of the present world -/
def CatP (g : Nat → Int32) (hs : Int32) (poss : Nat → Int32) (hp : Int32) (codes : Nat → Int32) (size : Int32) : Prop := ∀ n k, g 204 = nI n → g 205 = nI k → n ≤ 12 → 1 ≤ k → k ≤ 4 → CatR n k g hs poss hp codes size
theorem CatP.cg {g g' poss codes : Nat → Int32} {hs hp size : Int32} (h : CatP g hs poss hp codes size) (hg : ∀ x, x < 207 → g' x = g x) : CatP g' hs poss hp codes size := fun n k a b c d e => (h n k (by rw [← hg 204 (by omega)]; exact a) (by rw [← hg 205 (by omega)]; exact b) c d e).cg d e hg
theorem CatP.none {g poss codes : Nat → Int32} {size : Int32} : CatP g 0 poss 0 codes size := fun n k _ _ _ _ _ => ⟨fun q => absurd rfl q, fun q => absurd rfl q⟩
theorem CatP.of {n k : Nat} {g poss codes : Nat → Int32} {hs hp size : Int32} (h : CatR n k g hs poss hp codes size) (hg : g 204 = nI n) (hgk : g 205 = nI k) (hn : n ≤ 12) (hk : k ≤ 4) : CatP g hs poss hp codes size := fun n1 k1 a b c _ e => by
  have q1 : n1 = n := nI_inj (by omega) (by omega) (a.symm.trans hg)
  have q2 : k1 = k := nI_inj (by omega) (by omega) (b.symm.trans hgk)
  subst q1 q2
  exact h
theorem foldB_lt {f : List Nat → Int64 × Int64} {w : Int32} : ∀ {l : List (List Nat)} {c : Nat} {o : BO} {s : Nat × (Int64 × Int64)}, (∀ t, o = some t → t.1 < c) → foldB f w c o l = some s → s.1 < c + l.length
  | [], c, o, s, h, e => h s e
  | r :: l, c, o, s, h, e => by
    rw [foldB] at e
    have := foldB_lt (l := l) (fun t q => by
      unfold stepO at q
      cases o with
      | none =>
        have q := Option.some.inj q
        rw [← q]; exact Nat.lt_succ_self c
      | some t0 =>
        have h0 := h t0 rfl
        by_cases hb : betB w (f r) t0.2 = true
        · have q : (if betB w (f r) t0.2 then some (c, f r) else some t0) = some t := q
          rw [if_pos hb] at q
          rw [← Option.some.inj q]; exact Nat.lt_succ_self c
        · have q : (if betB w (f r) t0.2 then some (c, f r) else some t0) = some t := q
          rw [if_neg hb] at q
          rw [← Option.some.inj q]; omega) e
    rw [List.length_cons]; omega
theorem nI_m1 {a : Nat} (h : a < 2 ^ 31) : ¬ nI a = (-1 : Int32) := fun e => by
  have h1 := nI_toInt h
  rw [e] at h1
  have : (-1 : Int32).toInt = -1 := by decide
  omega
section CO
variable {next size : Int32} {hA hC : Nat → Nat → Int32} {hco hdi hha : Nat → Int32} {hL hN hO hP hS hQ : Nat → Nat → Int32} {hT hU : Nat → Int32} {hist : Nat → Int32} {many : Int32}
variable {g area com : Nat → Int32} {cores dist has : Int32} {len nb outer places sets pop : Nat → Int32} {tol units : Int32} {codes poss csets : Nat → Int32} {hp hs csize : Int32}
theorem op_plans (h : WR g area com cores dist has len nb outer places sets pop tol units) (hc : CatP g hs poss hp codes csize) (dm : Int32) (plan : Nat → Int32) : ∃ r codes' hp' hs' poss' csets' csize' b dm' plan' th, fX10_plans codes hp hs poss csets csize com cores dist nb pop tol units = some (r, codes', hp', hs', poss', csets', csize') ∧ fX11_plans dm g plan = some (b, dm', plan', th) ∧ ansR ["java/lang/IllegalStateException"] r b th ∧ CatP g hs' poss' hp' codes' csize' := by
  obtain ⟨n, k, rfl, hR, hW, hX, rfl, e3, e4, e5, rfl, ⟨t, e7, e8⟩, e9, e10, e11⟩ := h
  have hn := hR.n12
  rw [fX10_plans, fX11_plans, pX10_checkListed hn, bind_s, pX11_isSmall hR.g204 hn, bind_s]
  by_cases hsm : 1 ≤ n ∧ n ≤ 9
  · obtain ⟨codes', hp', hs', poss', csets', f1, f2, f3⟩ := pX0_countPlans (sets := csets) hR hsm.2 (by omega) e5 (hc n k hR.g204 e3 hn (by omega) e5)
    obtain ⟨dm', y, f4, -⟩ := pX11_plansUpTo (N := 100000) (plan := plan) (dt := dm) hR.g204 hsm.2 hsm.1 e3 (by omega) e5 (by decide)
    have hle := lawR_le (g := g) hsm.2 e5
    rw [if_pos hsm, if_pos hsm, se_r, f1, bind_s, if_neg n10, fX11_allPlans, show fX11_plansUpTo dm g plan 100000 = _ from f4, bind_s, bind_s, Nat.min_eq_left (by omega)]
    exact ⟨_, _, _, _, _, _, _, _, _, _, _, rfl, rfl, ⟨rfl, rfl⟩, CatP.of f2 hR.g204 e3 hn e5⟩
  · rw [if_neg hsm, if_neg hsm, se_l, if_pos rfl]
    exact ⟨_, _, _, _, _, _, _, _, _, _, _, rfl, rfl, ⟨by decide +kernel, by decide +kernel⟩, hc⟩
theorem op_counted (h : WR g area com cores dist has len nb outer places sets pop tol units) (hc : CatP g hs poss hp codes csize) (dm : Int32) (plan : Nat → Int32) : ∃ r hs' poss' b dm' plan' th, fX10_counted hs poss com cores dist nb pop tol units = some (r, hs', poss') ∧ fX11_counted dm g plan = some (b, dm', plan', th) ∧ ansR ["java/lang/IllegalStateException"] r b th ∧ CatP g hs' poss' hp codes csize := by
  obtain ⟨n, k, rfl, hR, hW, hX, rfl, e3, e4, e5, rfl, ⟨t, e7, e8⟩, e9, e10, e11⟩ := h
  have hn := hR.n12
  rw [fX10_counted, fX11_counted, pX10_checkListed hn, bind_s, pX11_isSmall hR.g204 hn, bind_s]
  by_cases hsm : 1 ≤ n ∧ n ≤ 9
  · obtain ⟨hs', poss', f1, f2⟩ := pX0_countBySets hR hsm.2 (by omega) e5 (hc n k hR.g204 e3 hn (by omega) e5)
    obtain ⟨dm', y, f4, -⟩ := pX11_plansUpTo (N := 100000) (plan := plan) (dt := dm) hR.g204 hsm.2 hsm.1 e3 (by omega) e5 (by decide)
    have hle := lawR_le (g := g) hsm.2 e5
    rw [if_pos hsm, if_pos hsm, se_r, f1, bind_s, if_neg n10, fX11_allPlans, show fX11_plansUpTo dm g plan 100000 = _ from f4, bind_s, bind_s, Nat.min_eq_left (by omega)]
    exact ⟨_, _, _, _, _, _, _, rfl, rfl, ⟨rfl, rfl⟩, CatP.of f2 hR.g204 e3 hn e5⟩
  · rw [if_neg hsm, if_neg hsm, se_l, if_pos rfl]
    exact ⟨_, _, _, _, _, _, _, rfl, rfl, ⟨by decide +kernel, by decide +kernel⟩, hc⟩
theorem op_checkListedPlan {n k : Nat} (hR : MapR g n pop area com outer nb len cores) (hn9 : n ≤ 9) (hk0 : 1 ≤ k) (hk : k ≤ 4) (hc : CatR n k g hs poss hp codes csize) (x : Int32) : ∃ codes' hp' hs' poss' csets' csize', fX10_checkListedPlan codes hp hs poss csets csize com cores (nI k) nb pop (g 206) (nI n) x = some ((if inR x (lawR n k g).length then Sum.inr () else Sum.inl "java/util/NoSuchElementException"), codes', hp', hs', poss', csets', csize') ∧ CatR n k g hs' poss' hp' codes' csize' ∧ (inR x (lawR n k g).length → ListR n k g codes' csize') := by
  have hle := lawR_le (g := g) hn9 hk
  obtain ⟨codes', hp', hs', poss', csets', f1, f2, f3⟩ := pX0_countPlans (sets := csets) hR hn9 hk0 hk hc
  rw [fX10_checkListedPlan]
  rcases rng (x := x) (show (lawR n k g).length < 2 ^ 31 by omega) with ⟨a, b, c⟩ | ⟨a, b⟩ | ⟨a, b, c⟩
  · rw [if_neg b, f1, bind_s, if_pos c, if_pos a]
    exact ⟨_, _, _, _, _, _, rfl, f2, fun _ => f3⟩
  · rw [if_pos b, if_neg a]
    exact ⟨_, _, _, _, _, _, rfl, hc, fun q => absurd q a⟩
  · rw [if_neg b, f1, bind_s, if_neg c, if_neg a]
    exact ⟨_, _, _, _, _, _, rfl, f2, fun q => absurd q a⟩
theorem op_planned (h : WR g area com cores dist has len nb outer places sets pop tol units) (hc : CatP g hs poss hp codes csize) (b0 s0 : Nat → Int32) (dm : Int32) (plan : Nat → Int32) (x y : Int32) : ∃ r b1 s1 codes' hp' hs' poss' csets' csize' b dm' plan' th, fX10_planned b0 s0 codes hp hs poss csets csize com cores dist nb pop tol units x y = some (r, b1, s1, codes', hp', hs', poss', csets', csize') ∧ fX11_planned dm g plan x y = some (b, dm', plan', th) ∧ ansR ["java/lang/IllegalStateException", "java/lang/IndexOutOfBoundsException", "java/util/NoSuchElementException"] r b th ∧ CatP g hs' poss' hp' codes' csize' := by
  obtain ⟨n, k, rfl, hR, hW, hX, rfl, e3, e4, e5, rfl, ⟨t, e7, e8⟩, e9, e10, e11⟩ := h
  have hn := hR.n12
  rw [fX10_planned, fX11_planned, pX10_checkListed hn, bind_s, pX11_isSmall hR.g204 hn, bind_s]
  by_cases hsm : 1 ≤ n ∧ n ≤ 9
  · rw [if_pos hsm, if_pos hsm, se_r, if_neg n10, pX10_checkUnit (by omega), bind_s, pX11_isUnit hR.g204 (by omega), bind_s]
    by_cases hy : inR y n
    · obtain ⟨v, hv, rfl⟩ := inR_of hy (by omega)
      obtain ⟨codes', hp', hs', poss', csets', csize', f1, f2, f3⟩ := op_checkListedPlan (csets := csets) hR hsm.2 (by omega) e5 (hc n k hR.g204 e3 hn (by omega) e5) x
      have hle := lawR_cap (g := g) hsm.2 (show 1 ≤ k by omega) e5
      rw [if_pos hy, if_pos hy, se_r, if_neg n10, f1, bind_s]
      by_cases hx : inR x (lawR n k g).length
      · obtain ⟨N, hN, rfl⟩ := inR_of hx (by omega)
        obtain ⟨p, s, f4, f5⟩ := pX0_copyPlan (p0 := b0) (s0 := s0) (q := plan) hsm.2 (show 1 ≤ k by omega) e5 (f3 hx) hN hle
        obtain ⟨dm', z, f6, f7⟩ := pX11_plansUpTo (N := N) (plan := plan) (dt := dm) hR.g204 hsm.2 hsm.1 e3 (by omega) e5 (by omega)
        have hz : (lawR n k g).getD N [] = z := by rw [List.getD_eq_getElem?_getD, f7 hN]; rfl
        rw [hz] at f5
        rw [if_pos hx, se_r, f4, bind_s, if_pos ((inR_nI (by omega)).mpr (by omega)), if_neg (show ¬ nI N < (0 : Int32) from nI_nlt (Nat.zero_le N) (by omega)), if_neg (show ¬ (99999 : Int32) < nI N from nI_nlt (show N ≤ 99999 by omega) (by decide)), f6, bind_s, if_pos (nI_lt (show N < min (lawR n k g).length (N + 1) by omega) (by omega)), if_pos ((inR_nI (by omega)).mpr (by omega)), nI_clamp (by omega), c_done, bind_s]
        exact ⟨_, _, _, _, _, _, _, _, _, _, _, _, _, rfl, rfl, ⟨rfl, (f5.1 v hv).1⟩, CatP.of f2 hR.g204 e3 hn e5⟩
      · rw [if_neg hx, se_l]
        rcases rng (x := x) (show 100000 < 2 ^ 31 by decide) with ⟨a, b, c⟩ | ⟨a, b⟩ | ⟨a, b, c⟩
        · obtain ⟨N, hN, rfl⟩ := inR_of a (by decide)
          obtain ⟨dm', z, f6, f7⟩ := pX11_plansUpTo (N := N) (plan := plan) (dt := dm) hR.g204 hsm.2 hsm.1 e3 (by omega) e5 (by omega)
          have hNl : ¬ N < (lawR n k g).length := fun q => hx ((inR_nI (by omega)).mpr q)
          rw [if_neg b, if_neg (show ¬ (99999 : Int32) < nI N from nI_nlt (show N ≤ 99999 by omega) (by decide)), f6, bind_s, if_neg (nI_nlt (show min (lawR n k g).length (N + 1) ≤ N by omega) (by omega))]
          exact ⟨_, _, _, _, _, _, _, _, _, _, _, _, _, rfl, rfl, ⟨by decide +kernel, by decide +kernel⟩, CatP.of f2 hR.g204 e3 hn e5⟩
        · rw [if_pos b]
          exact ⟨_, _, _, _, _, _, _, _, _, _, _, _, _, rfl, rfl, ⟨by decide +kernel, by decide +kernel⟩, CatP.of f2 hR.g204 e3 hn e5⟩
        · have hbig : (99999 : Int32) < x := by
            rw [Int32.lt_iff_toInt_lt] at c ⊢
            have h9 : (99999 : Int32).toInt = 99999 := by decide
            have h10 : (nI 100000).toInt = 100000 := by decide
            omega
          rw [if_neg b, if_pos hbig]
          exact ⟨_, _, _, _, _, _, _, _, _, _, _, _, _, rfl, rfl, ⟨by decide +kernel, by decide +kernel⟩, CatP.of f2 hR.g204 e3 hn e5⟩
    · rw [if_neg hy, if_neg hy, se_l, if_pos rfl]
      exact ⟨_, _, _, _, _, _, _, _, _, _, _, _, _, rfl, rfl, ⟨by decide +kernel, by decide +kernel⟩, hc⟩
  · rw [if_neg hsm, if_neg hsm, se_l, if_pos rfl]
    exact ⟨_, _, _, _, _, _, _, _, _, _, _, _, _, rfl, rfl, ⟨by decide +kernel, by decide +kernel⟩, hc⟩
theorem op_best (h : WR g area com cores dist has len nb outer places sets pop tol units) (hc : CatP g hs poss hp codes csize) (cbb cbt : Int64) (cp cs : Nat → Int32) (ctb ctt ab be ba bb : Int64) (dm : Int32) (plan : Nat → Int32) (x : Int32) : ∃ r cbb' cbt' codes' hp' hs' poss' cp' cs' csets' csize' ctb' ctt' b ab' be' ba' bb' dm' plan' th, fX10_best cbb cbt codes hp hs poss cp cs csets csize ctb ctt area com cores dist len nb outer pop tol units x = some (r, cbb', cbt', codes', hp', hs', poss', cp', cs', csets', csize', ctb', ctt') ∧ fX11_best ab be ba bb dm g plan x = some (b, ab', be', ba', bb', dm', plan', th) ∧ ansR ["java/lang/IllegalArgumentException", "java/lang/IllegalStateException", "java/util/NoSuchElementException"] r b th ∧ CatP g hs' poss' hp' codes' csize' := by
  obtain ⟨n, k, rfl, hR, hW, hX, rfl, e3, e4, e5, rfl, ⟨t, e7, e8⟩, e9, e10, e11⟩ := h
  have hn := hR.n12
  rw [fX10_best, fX11_best, pX10_checkMeasure, bind_s, pX11_in3, bind_s]
  by_cases hx : inR x 4
  · rw [if_pos hx, if_pos hx, if_neg n10, se_r, pX10_checkListed hn, bind_s, pX11_isSmall hR.g204 hn, bind_s]
    by_cases hsm : 1 ≤ n ∧ n ≤ 9
    · obtain ⟨codes', hp', hs', poss', csets', f1, f2, f3⟩ := pX0_countPlans (sets := csets) hR hsm.2 (show 1 ≤ k by omega) e5 (hc n k hR.g204 e3 hn (by omega) e5)
      have hle := lawR_le (g := g) hsm.2 e5
      rw [if_pos hsm, if_pos hsm, se_r, f1, bind_s, if_neg n10]
      obtain ⟨c', y2', ab', be', ba', bb', dm', z, f4, f5⟩ := pX11_bestLoop (plan := plan) (w := x) (ab := ab) (be := be) (ba := ba) (bb := bb) (dt := dm) hR.g204 hsm.2 hsm.1 e3 hW (show 1 ≤ k by omega) e5 (fun z39_2 z39_t_above z39_t_below z39_t_bestAbove z39_t_bestBelow z39_t_detail z39_t_plan => (if z39_2 = (-1 : Int32) then (fX11_fails (3 : Int32)).bind (fun q20 => some (q20.1, z39_t_above, z39_t_below, z39_t_bestAbove, z39_t_bestBelow, z39_t_detail, z39_t_plan, q20.2)) else (fX11_done z39_2).bind (fun q21 => some (q21.1, z39_t_above, z39_t_below, z39_t_bestAbove, z39_t_bestBelow, z39_t_detail, z39_t_plan, q21.2))))
      rw [f4]
      by_cases h0 : (lawR n k g).length = 0
      · have hnil : lawR n k g = [] := List.length_eq_zero_iff.mp h0
        have hb : bestO n k g x = none := by unfold bestO; rw [hnil]; rfl
        rw [hb] at f5
        rcases f5 with ⟨-, -, f6⟩ | ⟨s, f6, -⟩
        · rw [if_pos (show nI (lawR n k g).length = (0 : Int32) by rw [h0]; rfl), if_pos f6]
          exact ⟨_, _, _, _, _, _, _, _, _, _, _, _, _, _, _, _, _, _, _, _, _, rfl, rfl, ⟨by decide +kernel, by decide +kernel⟩, CatP.of f2 hR.g204 e3 hn e5⟩
        · cases f6
      · obtain ⟨s, bb1, bt1, pp1, ps1, tb1, tt1, f7, f8⟩ := pX0_findBest hR hW hsm.1 hsm.2 (show 1 ≤ k by omega) e5 f3 h0 cbb cbt cp cs ctb ctt (w := x)
        rw [f7] at f5
        rcases f5 with ⟨f6, -⟩ | ⟨s', f6, f9, f10, -⟩
        · cases f6
        · have es : s = s' := Option.some.inj f6
          subst es
          have hm1 : ¬ y2' = -1 := by
            have hlt := foldB_lt (l := lawR n k g) (c := 0) (o := none) (fun t q => by cases q) f7
            rw [f10]
            exact nI_m1 (by omega)
          rw [if_neg (show ¬ nI (lawR n k g).length = (0 : Int32) from fun e => h0 (nI_inj (by omega) (by omega) e)), f8, bind_s, if_neg hm1, f10]
          exact ⟨_, _, _, _, _, _, _, _, _, _, _, _, _, _, _, _, _, _, _, _, _, rfl, rfl, ⟨rfl, rfl⟩, CatP.of f2 hR.g204 e3 hn e5⟩
    · rw [if_neg hsm, if_neg hsm, se_l, if_pos rfl]
      exact ⟨_, _, _, _, _, _, _, _, _, _, _, _, _, _, _, _, _, _, _, _, _, rfl, rfl, ⟨by decide +kernel, by decide +kernel⟩, hc⟩
  · rw [if_neg hx, if_neg hx, if_pos rfl, se_l]
    exact ⟨_, _, _, _, _, _, _, _, _, _, _, _, _, _, _, _, _, _, _, _, _, rfl, rfl, ⟨by decide +kernel, by decide +kernel⟩, hc⟩
/-- how many units change -/
def diffS (n : Nat) (g p : Nat → Int32) : Int32 := sumI n (fun u => if g 219 = 1 ∧ g (207 + u) = p u then 0 else 1)
theorem pX11_choose_L42 {p : Nat → Int32} {n k : Nat} {dm : Int32} (hg : g 204 = nI n) (hn : n ≤ 12) (hk : k ≤ 4) (hp : PlanM n k p) (kf : Int32 → Option (Int32 × (Nat → Int32) × Int32 × (Nat → Int32) × (Nat → Int32) × Int32 × (Nat → Int32) × Int32)) : fX11_choose_L42 g dm p 1000000 kf 0 0 = kf (diffS n g p) := by
  refine upS (fun m i s => fX11_choose_L42 g dm p m kf s (nI i)) (fun i => sumI i (fun u => if g 219 = 1 ∧ g (207 + u) = p u then 0 else 1)) n _ (fun m => ?_) (fun m i hi => ?_) 1000000 (by omega)
  · show fX11_choose_L42 g dm p (m + 1) kf _ (nI n) = _
    rw [fX11_choose_L42, k204, hg, if_pos (nI_leS n (by omega))]; rfl
  · show fX11_choose_L42 g dm p (m + 1) kf _ (nI i) = fX11_choose_L42 g dm p m kf (sumI i _ + if g 219 = 1 ∧ g (207 + i) = p i then 0 else 1) (nI (i + 1))
    rw [fX11_choose_L42, k204, hg, if_neg (nI_ge hi (by omega)), if_pos ((inR_nI (by omega)).mpr (by omega)), pX11_districtOf (by omega), bind_s, nI_clamp (by omega), nI_1]
    obtain ⟨d, hd, ed⟩ := hp i hi
    by_cases h1 : g 219 = 1
    · rw [if_pos h1]
      by_cases h2 : p i = g (207 + i)
      · rw [if_pos h2, if_pos ⟨h1, h2.symm⟩]
      · rw [if_neg h2, if_neg (fun q => h2 q.2.symm)]
    · rw [if_neg h1, if_neg (show ¬ p i = -1 by rw [ed]; exact nI_m1 (by omega)), if_neg (fun q => h1 q.1)]
theorem pX10_choose_L29 {p bp bs : Nat → Int32} {n k : Nat} {c1 c4 c5 : Nat → Int32} {c2 c3 c6 : Int32} (hn : n ≤ 12) (h01 : g 219 = 0 ∨ g 219 = 1) (hpl : g 219 = 1 → PlanR n k places sets (fun x => g (207 + x))) (hb : PlanR n k bp bs p) (kf : Int32 → Option ((String ⊕ Int32) × (Nat → Int32) × (Nat → Int32) × (Nat → Int32) × Int32 × Int32 × (Nat → Int32) × (Nat → Int32) × Int32 × Int32 × Int32 × (Nat → Nat → Int32) × (Nat → Nat → Int32) × (Nat → Int32) × (Nat → Int32) × (Nat → Int32) × (Nat → Nat → Int32) × (Nat → Nat → Int32) × (Nat → Nat → Int32) × (Nat → Nat → Int32) × (Nat → Nat → Int32) × (Nat → Nat → Int32) × (Nat → Int32) × (Nat → Int32) × Int32 × (Nat → Int32) × (Nat → Int32))) : fX10_choose_L29 (g 219) places (nI n) bp bs c1 c2 c3 c4 c5 c6 1000000 kf 0 0 = kf (diffS n g p) := by
  refine upS (fun m i s => fX10_choose_L29 (g 219) places (nI n) bp bs c1 c2 c3 c4 c5 c6 m kf s (nI i)) (fun i => sumI i (fun u => if g 219 = 1 ∧ g (207 + u) = p u then 0 else 1)) n _ (fun m => ?_) (fun m i hi => ?_) 1000000 (by omega)
  · show fX10_choose_L29 (g 219) places (nI n) bp bs c1 c2 c3 c4 c5 c6 (m + 1) kf _ (nI n) = _
    rw [fX10_choose_L29, if_pos (nI_leS n (by omega))]; rfl
  · show fX10_choose_L29 (g 219) places (nI n) bp bs c1 c2 c3 c4 c5 c6 (m + 1) kf _ (nI i) = fX10_choose_L29 (g 219) places (nI n) bp bs c1 c2 c3 c4 c5 c6 m kf (sumI i _ + if g 219 = 1 ∧ g (207 + i) = p i then 0 else 1) (nI (i + 1))
    rw [fX10_choose_L29, if_neg (nI_ge hi (by omega)), if_pos ((inR_nI (by omega)).mpr (by omega)), if_pos ((inR_nI (by omega)).mpr (by omega)), nI_clamp (by omega), nI_1, (hb.1 i hi).1]
    rcases h01 with h0 | h1
    · rw [if_pos h0, if_neg (fun q => by rw [h0] at q; exact absurd q.1 (by decide))]
    · rw [if_neg (show ¬ g 219 = 0 by rw [h1]; exact n10), ((hpl h1).1 i hi).1]
      by_cases h2 : g (207 + i) = p i
      · rw [if_pos h2, if_pos ⟨h1, h2⟩, add_0]
      · rw [if_neg h2, if_neg (fun q => h2 q.2)]
theorem op_choose (hH : HR next size hA hC hco hdi hha hL hN hO hP hS hQ hT hU hist many) (h : WR g area com cores dist has len nb outer places sets pop tol units) (hc : CatP g hs poss hp codes csize) (b0 s0 ahead : Nat → Int32) (dm : Int32) (plan : Nat → Int32) (x : Int32) : ∃ r b1 s1 codes' hp' hs' poss' csets' csize' n' s' A C co di ha L N O P S Q T U has' places' sets' b ahead' dm' g' hist' many' plan' th, fX10_choose b0 s0 codes hp hs poss csets csize next size hA hC hco hdi hha hL hN hO hP hS hQ hT hU area com cores dist has len nb outer places sets pop tol units x = some (r, b1, s1, codes', hp', hs', poss', csets', csize', n', s', A, C, co, di, ha, L, N, O, P, S, Q, T, U, has', places', sets') ∧ fX11_choose ahead dm g hist many plan x = some (b, ahead', dm', g', hist', many', plan', th) ∧ ansR ["java/lang/IllegalStateException", "java/util/NoSuchElementException"] r b th ∧ HR n' s' A C co di ha L N O P S Q T U hist' many' ∧ WR g' area com cores dist has' len nb outer places' sets' pop tol units ∧ CatP g' hs' poss' hp' codes' csize' := by
  obtain ⟨n, k, rfl, hR, hW, hX, rfl, e3, e4, e5, e6, ⟨t, e7, e8⟩, e9, e10, e11⟩ := id h
  subst e6 e9
  have hn := hR.n12
  rw [fX10_choose, fX11_choose, pX10_checkListed hn, bind_s, pX11_isSmall hR.g204 hn, bind_s]
  by_cases hsm : 1 ≤ n ∧ n ≤ 9
  · obtain ⟨codes', hp', hs', poss', csets', csize', f1, f2, f3⟩ := op_checkListedPlan (csets := csets) hR hsm.2 (show 1 ≤ k by omega) e5 (hc n k hR.g204 e3 hn (by omega) e5) x
    have hle := lawR_cap (g := g) hsm.2 (show 1 ≤ k by omega) e5
    rw [if_pos hsm, if_pos hsm, se_r, if_neg n10, f1, bind_s]
    by_cases hx : inR x (lawR n k g).length
    · obtain ⟨N, hN, rfl⟩ := inR_of hx (by omega)
      obtain ⟨p, s, f4, f5⟩ := pX0_copyPlan (p0 := b0) (s0 := s0) (q := plan) hsm.2 (show 1 ≤ k by omega) e5 (f3 hx) hN hle
      obtain ⟨dm', z, f6, f7⟩ := pX11_plansUpTo (N := N) (plan := plan) (dt := dm) hR.g204 hsm.2 hsm.1 e3 (show 1 ≤ k by omega) e5 (by omega)
      have hz : (lawR n k g).getD N [] = z := by rw [List.getD_eq_getElem?_getD, f7 hN]; rfl
      rw [hz] at f5
      obtain ⟨n', s', A, C, co, di, ha, L, N1, O, P, S, Q, T, U, p', s'', ah, hist', many', m1, m2, m3, m4, m5⟩ := op_becomePresent (bp := p) (bs := s) (pm := arL plan z) (ahead := ahead) hH h (fun n2 k2 a b c e => by
        have q1 : n2 = n := nI_inj (by omega) (by omega) a.symm
        have q2 : k2 = k := nI_inj (by omega) (by omega) b.symm
        subst q1 q2
        exact ⟨hsm.1, f5⟩)
      rw [if_pos hx, se_r, f4, bind_s, pX10_choose_L29 hn e10 (fun q => (e11 q).2) f5, m1, bind_s, if_neg (show ¬ nI N < (0 : Int32) from nI_nlt (Nat.zero_le N) (by omega)), if_neg (show ¬ (99999 : Int32) < nI N from nI_nlt (show N ≤ 99999 by omega) (by decide)), f6, bind_s, if_pos (nI_lt (show N < min (lawR n k g).length (N + 1) by omega) (by omega)), pX11_choose_L42 hR.g204 hn e5 f5.m, m2, bind_s, pX11_keeps, bind_s, m3, bind_s]
      exact ⟨_, _, _, _, _, _, _, _, _, _, _, _, _, _, _, _, _, _, _, _, _, _, _, _, _, _, _, _, _, _, _, _, _, _, _, rfl, rfl, ⟨rfl, rfl⟩, m4, m5, (CatP.of f2 hR.g204 e3 hn e5).cg fun x hx => keep_lo hx⟩
    · rw [if_neg hx, se_l]
      rcases rng (x := x) (show 100000 < 2 ^ 31 by decide) with ⟨a, b, c⟩ | ⟨a, b⟩ | ⟨a, b, c⟩
      · obtain ⟨N, hN, rfl⟩ := inR_of a (by decide)
        obtain ⟨dm', z, f6, f7⟩ := pX11_plansUpTo (N := N) (plan := plan) (dt := dm) hR.g204 hsm.2 hsm.1 e3 (show 1 ≤ k by omega) e5 (by omega)
        have hNl : ¬ N < (lawR n k g).length := fun q => hx ((inR_nI (by omega)).mpr q)
        rw [if_neg b, if_neg (show ¬ (99999 : Int32) < nI N from nI_nlt (show N ≤ 99999 by omega) (by decide)), f6, bind_s, if_neg (nI_nlt (show min (lawR n k g).length (N + 1) ≤ N by omega) (by omega))]
        exact ⟨_, _, _, _, _, _, _, _, _, _, _, _, _, _, _, _, _, _, _, _, _, _, _, _, _, _, _, _, _, _, _, _, _, _, _, rfl, rfl, ⟨by decide +kernel, by decide +kernel⟩, hH, h, CatP.of f2 hR.g204 e3 hn e5⟩
      · rw [if_pos b]
        exact ⟨_, _, _, _, _, _, _, _, _, _, _, _, _, _, _, _, _, _, _, _, _, _, _, _, _, _, _, _, _, _, _, _, _, _, _, rfl, rfl, ⟨by decide +kernel, by decide +kernel⟩, hH, h, CatP.of f2 hR.g204 e3 hn e5⟩
      · have hbig : (99999 : Int32) < x := by
          rw [Int32.lt_iff_toInt_lt] at c ⊢
          have h9 : (99999 : Int32).toInt = 99999 := by decide
          have h10 : (nI 100000).toInt = 100000 := by decide
          omega
        rw [if_neg b, if_pos hbig]
        exact ⟨_, _, _, _, _, _, _, _, _, _, _, _, _, _, _, _, _, _, _, _, _, _, _, _, _, _, _, _, _, _, _, _, _, _, _, rfl, rfl, ⟨by decide +kernel, by decide +kernel⟩, hH, h, CatP.of f2 hR.g204 e3 hn e5⟩
  · rw [if_neg hsm, if_neg hsm, se_l, if_pos rfl]
    exact ⟨_, _, _, _, _, _, _, _, _, _, _, _, _, _, _, _, _, _, _, _, _, _, _, _, _, _, _, _, _, _, _, _, _, _, _, rfl, rfl, ⟨by decide +kernel, by decide +kernel⟩, hH, h, hc⟩
end CO
