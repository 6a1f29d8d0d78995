/-! the calls that change the plan -/
theorem pX11_keeps {g p : Nat → Int32} : fX11_keeps g p = some (upd (putP g p) 219 1) := by
  rw [fX11_keeps, k219]
  have key := upS (fun m i z => fX11_keeps_L2 p m (fun z => some (upd z 219 1)) (nI i) z) (fun i => fun x => if 207 ≤ x ∧ x < 207 + i then p (x - 207) else g x) 12 (some (upd (putP g p) 219 1)) (fun m => ?_) (fun m i hi => ?_) 1000000 (by omega)
  · have e0 : (fun x => if 207 ≤ x ∧ x < 207 + 0 then p (x - 207) else g x) = g := funext fun x => if_neg (by omega)
    simp only [e0] at key
    exact key
  · show fX11_keeps_L2 p (m + 1) _ (nI 12) _ = _
    rw [fX11_keeps_L2, if_pos (show (12 : Int32) ≤ nI 12 by decide)]; rfl
  · show fX11_keeps_L2 p (m + 1) _ (nI i) _ = fX11_keeps_L2 p m _ (nI (i + 1)) (fun x => if 207 ≤ x ∧ x < 207 + (i + 1) then p (x - 207) else g x)
    rw [fX11_keeps_L2, if_neg (ge12 hi), add207, if_pos ((inR_nI (by omega)).mpr hi), if_pos ((inR_nI (by omega)).mpr (by omega)), nI_clamp (by omega), nI_clamp (by omega), nI_1]
    congr 1
    funext x
    by_cases e : x = 207 + i
    · subst e; rw [pk_us, if_pos (by omega), show 207 + i - 207 = i by omega]
    · rw [pk_un e]
      by_cases e2 : 207 ≤ x ∧ x < 207 + i
      · rw [if_pos e2, if_pos (by omega)]
      · rw [if_neg e2, if_neg (by omega)]
theorem keep_lo {g p : Nat → Int32} {x : Nat} (h : x < 207) : upd (putP g p) 219 1 x = g x := by
  rw [pk_un (by omega)]
  exact putP_lo h
section MV
variable {next size : Int32} {hA hC : Nat → Nat → Int32} {hco hdi hha : Nat → Int32} {hL hN hO hP hS hQ : Nat → Nat → Int32} {hT hU : Nat → Int32} {hist : Nat → Int32} {many : Int32}
variable {g area com : Nat → Int32} {cores dist has : Int32} {len nb outer places sets pop : Nat → Int32} {tol units : Int32}
theorem WR.setPlan {p s pm : Nat → Int32} (h : WR g area com cores dist has len nb outer places sets pop tol units) (hp : ∀ n k, units = nI n → dist = nI k → n ≤ 12 → k ≤ 4 → 1 ≤ n ∧ PlanR n k p s pm) : WR (upd (putP g pm) 219 1) area com cores dist 1 len nb outer p s pop tol units := by
  obtain ⟨n, k, e1, hR, hW, hX, e2, e3, e4, e5, e6, ⟨t, e7, e8⟩, -, -, -⟩ := h
  have hn := hR.n12
  have lo : ∀ x, x < 207 → upd (putP g pm) 219 1 x = g x := fun x hx => keep_lo hx
  obtain ⟨h1, hP⟩ := hp n k e1 e2 hn e5
  refine ⟨n, k, e1, hR.congr lo, hW.congr hn lo, hX, e2, by rw [lo 205 (by omega)]; exact e3, e4, e5, by rw [lo 206 (by omega)]; exact e6, ⟨t, e7, by rw [lo 206 (by omega)]; exact e8⟩, pk_us.symm, Or.inr rfl, fun _ => ⟨h1, hP.congr (fun _ _ => rfl) (fun _ _ => rfl) fun u hu => ?_⟩⟩
  rw [pk_un (by omega)]
  exact putP_at (by omega)
theorem op_becomePresent {bp bs pm ahead : Nat → Int32} (hH : HR next size hA hC hco hdi hha hL hN hO hP hS hQ hT hU hist many) (h : WR g area com cores dist has len nb outer places sets pop tol units) (hp : ∀ n k, units = nI n → dist = nI k → n ≤ 12 → k ≤ 4 → 1 ≤ n ∧ PlanR n k bp bs pm) :
    ∃ (n' s' : Int32) (A C : Nat → Nat → Int32) (co di ha : Nat → Int32) (L N O P S Q : Nat → Nat → Int32) (T U : Nat → Int32) (p' s'' : Nat → Int32) (ah hist' : Nat → Int32) (many' : Int32), fX10_becomePresent bp bs next size hA hC hco hdi hha hL hN hO hP hS hQ hT hU area com cores dist has len nb outer places sets pop tol units = some (n', s', A, C, co, di, ha, L, N, O, P, S, Q, T, U, 1, p', s'') ∧ fX11_remembers ahead g = some ah ∧ fX11_changes ah hist many = some (hist', many') ∧ HR n' s' A C co di ha L N O P S Q T U hist' many' ∧ WR (upd (putP g pm) 219 1) area com cores dist 1 len nb outer p' s'' pop tol units := by
  have hah : WR (fun x => if x < 221 then g x else ahead x) area com cores dist has len nb outer places sets pop tol units := h.cg fun x hx => if_pos hx
  obtain ⟨n', s', A, C, co, di, ha, L, N, O, P, S, Q, T, U, hist', many', e1, e2, e3⟩ := pX2_remember hH hah
  obtain ⟨n, k, u1, hR, -, -, u2, -, -, u5, -⟩ := id h
  obtain ⟨p1, s1, e4, hP1, -⟩ := pX4_copyFrom (p4 := places) (s4 := sets) hR.n12 (hp n k u1 u2 hR.n12 u5).2
  refine ⟨n', s', A, C, co, di, ha, L, N, O, P, S, Q, T, U, p1, s1, _, hist', many', ?_, pX11_remembers, e2, e3, h.setPlan fun n1 k1 a b c d => ?_⟩
  · rw [fX10_becomePresent, e1, bind_s, e4, bind_s]
  · have e : n1 = n := nI_inj (by omega) (by have := hR.n12; omega) (a.symm.trans u1)
    have e' : k1 = k := nI_inj (by omega) (by omega) (b.symm.trans u2)
    subst e e'
    exact ⟨(hp n1 k1 a b c d).1, hP1⟩
theorem op_checkMove (h : WR g area com cores dist has len nb outer places sets pop tol units) (x y : Int32) : (∃ s c, fX10_checkMove dist has places units x y = some (Sum.inl s) ∧ fX11_lacksMove g x y = some c ∧ c ≠ 0 ∧ cdN ["java/lang/IndexOutOfBoundsException", "java/lang/IllegalStateException", "java/lang/IllegalArgumentException"] s ≠ 0 ∧ cdN ["java/lang/IndexOutOfBoundsException", "java/lang/IllegalStateException", "java/lang/IllegalArgumentException", "java/lang/UnsupportedOperationException"] s ≠ 0 ∧ c = nI (cdN ["java/lang/IndexOutOfBoundsException", "java/lang/IllegalStateException", "java/lang/IllegalArgumentException"] s) ∧ c = nI (cdN ["java/lang/IndexOutOfBoundsException", "java/lang/IllegalStateException", "java/lang/IllegalArgumentException", "java/lang/UnsupportedOperationException"] s)) ∨
    (∃ u d, fX10_checkMove dist has places units x y = some (Sum.inr ()) ∧ fX11_lacksMove g x y = some 0 ∧ x = nI u ∧ y = nI d ∧ g 219 = 1 ∧ ∀ n k, units = nI n → dist = nI k → n ≤ 12 → k ≤ 4 → u < n ∧ d < k) := by
  obtain ⟨n, k, rfl, hR, hW, hX, rfl, e3, e4, e5, rfl, ⟨t, e7, e8⟩, rfl, e10, e11⟩ := h
  have hn := hR.n12
  rw [fX10_checkMove, fX11_lacksMove, pX10_checkUnit (by omega), bind_s, pX11_isUnit hR.g204 (by omega), bind_s, k219]
  by_cases hx : inR x n
  · rw [if_pos hx, if_pos hx, if_neg n10, se_r, pX10_checkDistrict (by omega), bind_s, pX11_isDistrict e3 (by omega), bind_s]
    by_cases hy : inR y k
    · rw [if_pos hy, if_pos hy, if_neg n10, se_r, fX10_checkPlan]
      obtain ⟨u, hu, rfl⟩ := inR_of hx (by omega)
      obtain ⟨d, hd, rfl⟩ := inR_of hy (by omega)
      by_cases hp : g 219 = 0
      · rw [if_pos hp, if_pos hp, bind_s, se_l]
        exact Or.inl ⟨_, _, rfl, rfl, by decide +kernel, by decide +kernel, by decide +kernel, by decide +kernel, by decide +kernel⟩
      · have h1 := e10.resolve_left hp
        have hPl := (e11 h1).2
        rw [if_neg hp, if_neg hp, bind_s, se_r, if_pos ((inR_nI (by omega)).mpr (by omega)), nI_clamp (by omega), add207x, if_pos ((inR_nI (by omega)).mpr (by omega)), nI_clamp (by omega), (hPl.1 u hu).1]
        by_cases hq : g (207 + u) = nI d
        · rw [if_pos hq, if_pos hq]
          exact Or.inl ⟨_, _, rfl, rfl, by decide +kernel, by decide +kernel, by decide +kernel, by decide +kernel, by decide +kernel⟩
        · rw [if_neg hq, if_neg hq]
          refine Or.inr ⟨u, d, rfl, rfl, rfl, rfl, h1, fun n1 k1 a b c e => ?_⟩
          have e1 : n1 = n := nI_inj (by omega) (by omega) a.symm
          have e2 : k1 = k := nI_inj (by omega) (by omega) b.symm
          omega
    · rw [if_neg hy, if_neg hy, if_pos rfl, se_l]
      exact Or.inl ⟨_, _, rfl, rfl, by decide +kernel, by decide +kernel, by decide +kernel, by decide +kernel, by decide +kernel⟩
  · rw [if_neg hx, if_neg hx, if_pos rfl, se_l]
    exact Or.inl ⟨_, _, rfl, rfl, by decide +kernel, by decide +kernel, by decide +kernel, by decide +kernel, by decide +kernel⟩
theorem op_refuses (h : WR g area com cores dist has len nb outer places sets pop tol units) (b0 s0 : Nat → Int32) (jd jr dm : Int32) (plan : Nat → Int32) (x y : Int32) : ∃ r b1 s1 jd' jr' b dm' plan' th, fX10_refuses b0 s0 jd jr com cores dist has nb places sets pop tol units x y = some (r, b1, s1, jd', jr') ∧ fX11_refuses dm g plan x y = some (b, dm', plan', th) ∧ ansR ["java/lang/IndexOutOfBoundsException", "java/lang/IllegalStateException", "java/lang/IllegalArgumentException"] r b th := by
  rw [fX10_refuses, fX11_refuses]
  rcases op_checkMove h x y with ⟨s, c, h1, h2, h3, h4, -, h5, -⟩ | ⟨u, d, h1, h2, rfl, rfl, h3, h4⟩
  · rw [h1, bind_s, se_l, h2, bind_s, if_neg h3]
    exact ⟨_, _, _, _, _, _, _, _, _, rfl, rfl, h4, h5⟩
  · obtain ⟨n, k, rfl, hR, hW, hX, rfl, e3, e4, e5, rfl, ⟨t, e7, e8⟩, rfl, e10, e11⟩ := h
    have hn := hR.n12
    obtain ⟨hu, hd⟩ := h4 n k rfl rfl hn e5
    obtain ⟨n1, hPl⟩ := e11 h3
    have hP0 : PlanR n k places sets (tl g plan) := hPl.congr (fun _ _ => rfl) (fun _ _ => rfl) (fun u hu => if_pos (by omega))
    obtain ⟨bp, bs, j1, -⟩ := pX3_judgeMove (p4 := b0) (s4 := s0) (dt := jd) (rs := jr) hR e5 hP0 hu hd
    rw [h1, bind_s, se_r, h2, bind_s, if_pos rfl, j1, bind_s, pX11_tells, bind_s, pX11_moves hR.g204 hn e3 e5 hP0.m hu hd, bind_s]
    exact ⟨_, _, _, _, _, _, _, _, _, rfl, rfl, rfl, rfl⟩
theorem op_move (hH : HR next size hA hC hco hdi hha hL hN hO hP hS hQ hT hU hist many) (h : WR g area com cores dist has len nb outer places sets pop tol units) (b0 s0 ahead : Nat → Int32) (jd jr dm kd kr : Int32) (plan : Nat → Int32) (x y : Int32) : ∃ r b1 s1 n' s' A C co di ha L N O P S Q T U jd' jr' kd' kr' has' places' sets' b ahead' dm' g' hist' many' plan' th, fX10_move b0 s0 next size hA hC hco hdi hha hL hN hO hP hS hQ hT hU jd jr kd kr area com cores dist has len nb outer places sets pop tol units x y = some (r, b1, s1, n', s', A, C, co, di, ha, L, N, O, P, S, Q, T, U, jd', jr', kd', kr', has', places', sets') ∧ fX11_move ahead dm g hist many kd kr plan x y = some (b, ahead', dm', g', hist', many', kd', kr', plan', th) ∧ ansR ["java/lang/IndexOutOfBoundsException", "java/lang/IllegalStateException", "java/lang/IllegalArgumentException", "java/lang/UnsupportedOperationException"] r b th ∧ HR n' s' A C co di ha L N O P S Q T U hist' many' ∧ WR g' area com cores dist has' len nb outer places' sets' pop tol units ∧ ∀ x, x < 207 → g' x = g x := by
  rw [fX10_move, fX11_move]
  rcases op_checkMove h x y with ⟨s, c, h1, h2, h3, -, h4, -, h5⟩ | ⟨u, d, h1, h2, rfl, rfl, h3, h4⟩
  · rw [h1, bind_s, se_l, h2, bind_s, if_neg h3]
    exact ⟨_, _, _, _, _, _, _, _, _, _, _, _, _, _, _, _, _, _, _, _, _, _, _, _, _, _, _, _, _, _, _, _, _, rfl, rfl, ⟨h4, h5⟩, hH, h, fun _ _ => rfl⟩
  · obtain ⟨n, k, rfl, hR, hW, hX, rfl, e3, e4, e5, e6, ⟨t, e7, e8⟩, e9, e10, e11⟩ := id h
    subst e6
    have hn := hR.n12
    obtain ⟨hu, hd⟩ := h4 n k rfl rfl hn e5
    obtain ⟨n1, hPl⟩ := e11 (e9.trans h3)
    have hP0 : PlanR n k places sets (tl g plan) := hPl.congr (fun _ _ => rfl) (fun _ _ => rfl) (fun u hu => if_pos (by omega))
    obtain ⟨bp, bs, j1, j2⟩ := pX3_judgeMove (p4 := b0) (s4 := s0) (dt := jd) (rs := jr) hR e5 hP0 hu hd
    rw [h1, bind_s, se_r, h2, bind_s, if_pos rfl, j1, bind_s, pX11_tells, bind_s, pX11_moves hR.g204 hn e3 e5 hP0.m hu hd, bind_s]
    by_cases hz : (moveS n k g (tl g plan) u d).1 = 0
    · have hb := move0 hz
      have hnew := j2 hb
      obtain ⟨n', s', A, C, co, di, ha, L, N, O, P, S, Q, T, U, p', s'', ah, hist', many', f1, f2, f3, f4, f5⟩ := op_becomePresent (bp := bp) (bs := bs) (pm := upd (tl g plan) u (nI d)) (ahead := ahead) hH h (fun n2 k2 a b c e => by
        have q1 : n2 = n := nI_inj (by omega) (by omega) a.symm
        have q2 : k2 = k := nI_inj (by omega) (by omega) b.symm
        subst q1 q2
        exact ⟨n1, hnew⟩)
      rw [if_pos hz, if_pos hz, if_pos ((inR_nI (by omega)).mpr (by omega)), f1, bind_s, f2, bind_s, add207x, if_pos ((inR_nI (by omega)).mpr (by omega)), hb, if_pos rfl, pX11_keeps, bind_s, f3, bind_s, nI_clamp (by omega), nI_clamp (by omega), (hPl.1 u hu).1]
      exact ⟨_, _, _, _, _, _, _, _, _, _, _, _, _, _, _, _, _, _, _, _, _, _, _, _, _, _, _, _, _, _, _, _, _, rfl, rfl, ⟨rfl, rfl⟩, f4, f5, fun x hx => keep_lo hx⟩
    · rw [if_neg hz, if_neg hz, fX10_keepRefusal, bind_s, fX11_keepsReason, bind_s, if_neg hz]
      exact ⟨_, _, _, _, _, _, _, _, _, _, _, _, _, _, _, _, _, _, _, _, _, _, _, _, _, _, _, _, _, _, _, _, _, rfl, rfl, ⟨by decide +kernel, by decide +kernel⟩, hH, h, fun _ _ => rfl⟩
theorem op_swap (hH : HR next size hA hC hco hdi hha hL hN hO hP hS hQ hT hU hist many) (h : WR g area com cores dist has len nb outer places sets pop tol units) (b0 s0 ahead : Nat → Int32) (jd jr dm kd kr : Int32) (plan : Nat → Int32) (x y : Int32) : ∃ r b1 s1 n' s' A C co di ha L N O P S Q T U jd' jr' kd' kr' has' places' sets' b ahead' dm' g' hist' many' plan' th, fX10_swap b0 s0 next size hA hC hco hdi hha hL hN hO hP hS hQ hT hU jd jr kd kr area com cores dist has len nb outer places sets pop tol units x y = some (r, b1, s1, n', s', A, C, co, di, ha, L, N, O, P, S, Q, T, U, jd', jr', kd', kr', has', places', sets') ∧ fX11_swap ahead dm g hist many kd kr plan x y = some (b, ahead', dm', g', hist', many', kd', kr', plan', th) ∧ ansR ["java/lang/IndexOutOfBoundsException", "java/lang/IllegalStateException", "java/lang/IllegalArgumentException", "java/lang/UnsupportedOperationException"] r b th ∧ HR n' s' A C co di ha L N O P S Q T U hist' many' ∧ WR g' area com cores dist has' len nb outer places' sets' pop tol units ∧ ∀ x, x < 207 → g' x = g x := by
  obtain ⟨n, k, rfl, hR, hW, hX, rfl, e3, e4, e5, e6, ⟨t, e7, e8⟩, e9, e10, e11⟩ := id h
  subst e6 e9
  have hn := hR.n12
  rw [fX10_swap, fX11_swap, pX10_checkUnit (by omega), bind_s, pX11_isUnit hR.g204 (by omega), bind_s, k219]
  by_cases hx : inR x n
  · rw [if_pos hx, if_pos hx, if_neg n10, se_r, pX10_checkUnit (by omega), bind_s, pX11_isUnit hR.g204 (by omega), bind_s]
    by_cases hy : inR y n
    · obtain ⟨u, hu, rfl⟩ := inR_of hx (by omega)
      obtain ⟨v, hv, rfl⟩ := inR_of hy (by omega)
      rw [if_pos hy, if_pos hy, if_neg n10, se_r, fX10_checkPlan]
      by_cases hp : g 219 = 0
      · rw [if_pos hp, if_pos hp, bind_s, se_l]
        exact ⟨_, _, _, _, _, _, _, _, _, _, _, _, _, _, _, _, _, _, _, _, _, _, _, _, _, _, _, _, _, _, _, _, _, rfl, rfl, ⟨by decide +kernel, by decide +kernel⟩, hH, h, fun _ _ => rfl⟩
      · obtain ⟨n1, hPl⟩ := e11 (e10.resolve_left hp)
        have hu12 : inR (nI u) 12 := (inR_nI (by omega)).mpr (by omega)
        have hv12 : inR (nI v) 12 := (inR_nI (by omega)).mpr (by omega)
        rw [if_neg hp, if_neg hp, bind_s, se_r, if_pos hu12, if_pos hv12, add207x, add207x, if_pos ((inR_nI (by omega)).mpr (by omega)), if_pos ((inR_nI (by omega)).mpr (by omega)), nI_clamp (by omega), nI_clamp (by omega), nI_clamp (by omega), nI_clamp (by omega), (hPl.1 u hu).1, (hPl.1 v hv).1]
        by_cases hq : g (207 + u) = g (207 + v)
        · rw [if_pos hq, if_pos hq]
          exact ⟨_, _, _, _, _, _, _, _, _, _, _, _, _, _, _, _, _, _, _, _, _, _, _, _, _, _, _, _, _, _, _, _, _, rfl, rfl, ⟨by decide +kernel, by decide +kernel⟩, hH, h, fun _ _ => rfl⟩
        · have hP0 : PlanR n k places sets (tl g plan) := hPl.congr (fun _ _ => rfl) (fun _ _ => rfl) (fun u hu => if_pos (by omega))
          have hne : u ≠ v := fun e => hq (by rw [e])
          obtain ⟨bp, bs, j1, j2⟩ := pX3_judgeSwap (p4 := b0) (s4 := s0) (dt := jd) (rs := jr) hR e5 hP0 hu hv hne
          rw [if_neg hq, if_neg hq, j1, bind_s, pX11_tells, bind_s, pX11_swaps hR.g204 hn e3 e5 hP0.m hu hv, bind_s]
          by_cases hz : (swapS n k g (tl g plan) u v).1 = 0
          · have hb := swap0 hz
            have hnew := j2 hb
            obtain ⟨n', s', A, C, co, di, ha, L, N, O, P, S, Q, T, U, p', s'', ah, hist', many', f1, f2, f3, f4, f5⟩ := op_becomePresent (bp := bp) (bs := bs) (pm := upd (upd (tl g plan) u (tl g plan v)) v (tl g plan u)) (ahead := ahead) hH h (fun n2 k2 a b c e => by
              have q1 : n2 = n := nI_inj (by omega) (by omega) a.symm
              have q2 : k2 = k := nI_inj (by omega) (by omega) b.symm
              subst q1 q2
              exact ⟨n1, hnew⟩)
            rw [if_pos hz, if_pos hz, if_pos hu12, f1, bind_s, f2, bind_s, if_pos ((inR_nI (by omega)).mpr (by omega)), hb, if_pos rfl, pX11_keeps, bind_s, f3, bind_s]
            exact ⟨_, _, _, _, _, _, _, _, _, _, _, _, _, _, _, _, _, _, _, _, _, _, _, _, _, _, _, _, _, _, _, _, _, rfl, rfl, ⟨rfl, rfl⟩, f4, f5, fun x hx => keep_lo hx⟩
          · rw [if_neg hz, if_neg hz, fX10_keepRefusal, bind_s, fX11_keepsReason, bind_s, if_neg hz]
            exact ⟨_, _, _, _, _, _, _, _, _, _, _, _, _, _, _, _, _, _, _, _, _, _, _, _, _, _, _, _, _, _, _, _, _, rfl, rfl, ⟨by decide +kernel, by decide +kernel⟩, hH, h, fun _ _ => rfl⟩
    · rw [if_neg hy, if_neg hy, if_pos rfl, se_l]
      exact ⟨_, _, _, _, _, _, _, _, _, _, _, _, _, _, _, _, _, _, _, _, _, _, _, _, _, _, _, _, _, _, _, _, _, rfl, rfl, ⟨by decide +kernel, by decide +kernel⟩, hH, h, fun _ _ => rfl⟩
  · rw [if_neg hx, if_neg hx, if_pos rfl, se_l]
    exact ⟨_, _, _, _, _, _, _, _, _, _, _, _, _, _, _, _, _, _, _, _, _, _, _, _, _, _, _, _, _, _, _, _, _, rfl, rfl, ⟨by decide +kernel, by decide +kernel⟩, hH, h, fun _ _ => rfl⟩
end MV
