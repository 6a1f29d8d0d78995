/-! improve and possible as calls -/
section IP
variable {next size : Int32} {hA hC : Nat → Nat → Int32} {hco hdi hha : Nat → Int32} {hL hN hO hP hS hQ : Nat → Nat → Int32} {hT hU : Nat → Int32} {hist : Nat → Int32} {many : Int32}
variable {g area com : Nat → Int32} {cores dist has : Int32} {len nb outer places sets pop : Nat → Int32} {tol units : Int32}
theorem WR.other {g' p s : Nat → Int32} (h : WR g area com cores dist has len nb outer places sets pop tol units) (hg : ∀ x, ¬ (207 ≤ x ∧ x < 219) → g' x = g x) (hp : ∀ n k, units = nI n → dist = nI k → n ≤ 12 → k ≤ 4 → PlanR n k p s (fun x => g' (207 + x))) : WR g' area com cores dist has len nb outer p s pop tol units := by
  obtain ⟨n, k, e1, hR, hW, hX, e2, e3, e4, e5, e6, ⟨t, e7, e8⟩, e9, e10, e11⟩ := h
  have hn := hR.n12
  have lo : ∀ x, x < 207 → g' x = g x := fun x hx => hg x (by omega)
  exact ⟨n, k, e1, hR.congr lo, hW.congr hn lo, hX, e2, by rw [lo 205 (by omega)]; exact e3, e4, e5, by rw [lo 206 (by omega)]; exact e6, ⟨t, e7, by rw [lo 206 (by omega)]; exact e8⟩, by rw [hg 219 (by omega)]; exact e9, e10, fun q => ⟨(e11 q).1, hp n k e1 e2 hn e5⟩⟩
theorem op_improve (hH : HR next size hA hC hco hdi hha hL hN hO hP hS hQ hT hU hist many) (h : WR g area com cores dist has len nb outer places sets pop tol units) (jd jr : Int32) (sp ss : Nat → Int32) (bb bt : Int64) (fp fs : Nat → Int32) (hf ms : Int32) (tb tt ab be ba bb2 : Int64) (ahead bpl plan : Nat → Int32) (dm : Int32) (x : Int32) : ∃ r n' s' A C co di ha L N O P S Q T U jd' jr' places' sets' sp' ss' bb' bt' fp' fs' hf' ms' tb' tt' b ab' ahead' be' ba' bb2' bpl' dm' g' hist' many' plan' th, fX10_improve next size hA hC hco hdi hha hL hN hO hP hS hQ hT hU jd jr area com cores dist has len nb outer places sets pop tol units sp ss bb bt fp fs hf ms tb tt x = some (r, n', s', A, C, co, di, ha, L, N, O, P, S, Q, T, U, jd', jr', places', sets', sp', ss', bb', bt', fp', fs', hf', ms', tb', tt') ∧ fX11_improve ab ahead be ba bb2 bpl dm g hist many plan x = some (b, ab', ahead', be', ba', bb2', bpl', dm', g', hist', many', plan', th) ∧ ansR ["java/lang/IllegalArgumentException", "java/lang/IllegalStateException"] r b th ∧ HR n' s' A C co di ha L N O P S Q T U hist' many' ∧ WR g' area com cores dist has len nb outer places' sets' pop tol units ∧ ∀ x, x < 207 → g' x = g x := by
  obtain ⟨n, k, rfl, hR, hW, hX, rfl, e3, e4, e5, e6, ⟨t, e7, e8⟩, e9, e10, e11⟩ := id h
  subst e6 e9
  have hn := hR.n12
  rw [fX10_improve, fX11_improve, pX10_checkMeasure, bind_s, pX11_in3, bind_s, k219]
  by_cases hx : inR x 4
  · rw [if_pos hx, if_pos hx, if_neg n10, se_r, fX10_checkPlan]
    by_cases hp : g 219 = 0
    · rw [if_pos hp, if_pos hp, bind_s, se_l]
      exact ⟨_, _, _, _, _, _, _, _, _, _, _, _, _, _, _, _, _, _, _, _, _, _, _, _, _, _, _, _, _, _, _, _, _, _, _, _, _, _, _, _, _, _, _, rfl, rfl, ⟨by decide +kernel, by decide +kernel⟩, hH, h, fun _ _ => rfl⟩
    · obtain ⟨n1, hPl⟩ := e11 (e10.resolve_left hp)
      have hah : WR (fun x => if x < 221 then g x else ahead x) area com cores (nI k) (g 219) len nb outer places sets pop (g 206) (nI n) := h.cg fun x hx => if_pos hx
      obtain ⟨n', s', A, C, co, di, ha, L, N, O, P, S, Q, T, U, hist', many', f1, f2, f3⟩ := pX2_remember hH hah
      have hm1 : x ≠ -1 := fun e => by
        rw [e] at hx
        exact absurd hx.1 (by decide)
      rw [if_neg hp, if_neg hp, bind_s, se_r, f1, bind_s, pX11_remembers, bind_s]
      obtain ⟨s, dt', rs', pl', ps', u1, u2, u3, u4, u5, u6, u7, u8, u9, u10, w1, w2, w3, w4, w5, w6, g', w7, v1, v2, v3, v4, v5⟩ := pImprove (h1 := n') (h2 := s') (h3 := A) (h4 := C) (h5 := co) (h6 := di) (h7 := ha) (h8 := L) (h9 := N) (h10 := O) (h11 := P) (h12 := S) (h13 := Q) (h14 := T) (h15 := U) (ah := fun x => if x < 221 then g x else ahead x) (w := x) (pop := pop) (area := area) (com := com) (outer := outer) (nb := nb) (len := len) (cores := cores) n1 (by omega) e5 hm1 (nI k) (g 206) rfl (fun z22_t_judge_detail z22_t_judge_reason z22_t_now_plan_places z22_t_now_plan_sets z22_t_search_behind_places z22_t_search_behind_sets z22_t_search_best_bottom z22_t_search_best_top z22_t_search_found_places z22_t_search_found_sets z22_t_search_hasFound z22_t_search_measure z22_t_search_tried_bottom z22_t_search_tried_top => some (Sum.inr (20 : Int32), n', s', A, C, co, di, ha, L, N, O, P, S, Q, T, U, z22_t_judge_detail, z22_t_judge_reason, z22_t_now_plan_places, z22_t_now_plan_sets, z22_t_search_behind_places, z22_t_search_behind_sets, z22_t_search_best_bottom, z22_t_search_best_top, z22_t_search_found_places, z22_t_search_found_sets, z22_t_search_hasFound, z22_t_search_measure, z22_t_search_tried_bottom, z22_t_search_tried_top)) (fun _ _ _ _ _ _ _ _ _ _ _ _ _ _ => rfl) (fun z38_2 z38_t_above z38_t_below z38_t_bestAbove z38_t_bestBelow z38_t_bestPlan z38_t_detail z38_t_g z38_t_plan => (fX11_changes (fun x => if x < 221 then g x else ahead x) hist many).bind (fun q10 => (fX11_done z38_2).bind (fun q11 => some (q11.1, z38_t_above, (fun x => if x < 221 then g x else ahead x), z38_t_below, z38_t_bestAbove, z38_t_bestBelow, z38_t_bestPlan, z38_t_detail, z38_t_g, q10.1, q10.2, z38_t_plan, q11.2)))) 20 0 1000000 1000000 g jd jr places sets sp ss bb bt fp fs hf ms tb tt ab be ba bb2 bpl dm plan (by omega) (by omega) (by omega) hR hW e3 rfl hPl
      have v3' : fX11_improve_L38 x (fun x => if x < 221 then g x else ahead x) 1000000 (fun z38_2 z38_t_above z38_t_below z38_t_bestAbove z38_t_bestBelow z38_t_bestPlan z38_t_detail z38_t_g z38_t_plan => (fX11_changes (fun x => if x < 221 then g x else ahead x) hist many).bind (fun q10 => (fX11_done z38_2).bind (fun q11 => some (q11.1, z38_t_above, (fun x => if x < 221 then g x else ahead x), z38_t_below, z38_t_bestAbove, z38_t_bestBelow, z38_t_bestPlan, z38_t_detail, z38_t_g, q10.1, q10.2, z38_t_plan, q11.2)))) (nI 0) ab be ba bb2 bpl dm g plan = some (nI s, w1, (fun x => if x < 221 then g x else ahead x), w2, w3, w4, w5, w6, g', hist', many', w7, 0) := v3.trans (by rw [f2]; rfl)
      refine ⟨_, _, _, _, _, _, _, _, _, _, _, _, _, _, _, _, _, _, _, _, _, _, _, _, _, _, _, _, _, _, _, _, _, _, _, _, _, _, _, _, _, _, _, v2, v3', ⟨rfl, rfl⟩, f3, h.other v4 (fun n2 k2 a b c d => ?_), fun x hx => v4 x (by omega)⟩
      have q1 : n2 = n := nI_inj (by omega) (by omega) a.symm
      have q2 : k2 = k := nI_inj (by omega) (by omega) b.symm
      subst q1 q2
      exact v5
  · rw [if_neg hx, if_neg hx, if_pos rfl, se_l]
    exact ⟨_, _, _, _, _, _, _, _, _, _, _, _, _, _, _, _, _, _, _, _, _, _, _, _, _, _, _, _, _, _, _, _, _, _, _, _, _, _, _, _, _, _, _, rfl, rfl, ⟨by decide +kernel, by decide +kernel⟩, hH, h, fun _ _ => rfl⟩
theorem op_possible (h : WR g area com cores dist has len nb outer places sets pop tol units) (jd jr : Int32) (sp ss : Nat → Int32) (bb bt : Int64) (fp fs : Nat → Int32) (hf ms : Int32) (tb tt : Int64) (plan : Nat → Int32) (dm : Int32) (x : Int32) : ∃ r jd' jr' sp' ss' bb' bt' fp' fs' hf' ms' tb' tt' b dm' plan' th, fX10_possible jd jr area com cores dist has len nb outer places sets pop tol units sp ss bb bt fp fs hf ms tb tt x = some (r, jd', jr', sp', ss', bb', bt', fp', fs', hf', ms', tb', tt') ∧ fX11_possible dm g plan x = some (b, dm', plan', th) ∧ ansR ["java/lang/IllegalStateException"] r b th := by
  obtain ⟨n, k, rfl, hR, hW, hX, rfl, e3, e4, e5, e6, ⟨t, e7, e8⟩, e9, e10, e11⟩ := id h
  subst e6 e9
  have hn := hR.n12
  rw [fX10_possible, fX10_checkPlan]
  by_cases hp : g 219 = 0
  · rw [if_pos hp, bind_s, se_l, fX11_possible, k219, if_pos hp]
    exact ⟨_, _, _, _, _, _, _, _, _, _, _, _, _, _, _, _, _, rfl, rfl, ⟨by decide +kernel, by decide +kernel⟩⟩
  · obtain ⟨n1, hPl⟩ := e11 (e10.resolve_left hp)
    have hP0 : PlanR n k places sets (tl g plan) := hPl.congr (fun _ _ => rfl) (fun _ _ => rfl) (fun u hu => if_pos (by omega))
    obtain ⟨dt', plan', em⟩ := pX11_possible (x := x) (dt := dm) e3 hR.g204 hn e5 (e10.resolve_left hp) hP0.m
    have hS : SR n k (0, (bt, bb), tl g plan) bb bt fp fs 0 := ⟨rfl, Or.inl rfl, rfl, fun e => absurd e (by decide : ¬ (0 : Int32) = 1)⟩
    rw [if_neg hp, bind_s, se_r, fX7_begin, if_pos rfl, bind_s, em]
    by_cases hx : x = 0
    · obtain ⟨⟨c1, d1, r1, bp1, bs1, bb1, bt1, fp1, fs1, hf1, tb1, tt1⟩, ⟨hc, -⟩, eC1⟩ := pX7_tryMoves (w := -1) hR hW n1 e5 hP0 jd jr sp ss bb bt fp fs 0 tb tt _ hS
      have hc : c1 = mvCnt n k g (tl g plan) := hc
      rw [if_pos hx, eC1, bind_s, if_pos hx, ← hc]
      exact ⟨_, _, _, _, _, _, _, _, _, _, _, _, _, _, _, _, _, rfl, rfl, ⟨rfl, rfl⟩⟩
    · obtain ⟨⟨c1, d1, r1, bp1, bs1, bb1, bt1, fp1, fs1, hf1, tb1, tt1⟩, ⟨hc, -⟩, eC1⟩ := pX7_trySwaps (w := -1) hR hW n1 e5 hP0 jd jr sp ss bb bt fp fs 0 tb tt _ hS
      have hc : c1 = swCnt n k g (tl g plan) := hc
      rw [if_neg hx, eC1, bind_s, if_neg hx, ← hc]
      exact ⟨_, _, _, _, _, _, _, _, _, _, _, _, _, _, _, _, _, rfl, rfl, ⟨rfl, rfl⟩⟩
end IP
