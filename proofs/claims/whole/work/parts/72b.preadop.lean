/-! readPlan as a call -/
section RQ
variable {next size : Int32} {hA hC : Nat → Nat → Int32} {hco hdi hha : Nat → Int32} {hL hN hO hP hS hQ : Nat → Nat → Int32} {hT hU : Nat → Int32} {hist : Nat → Int32} {many : Int32}
variable {g area com : Nat → Int32} {cores dist has : Int32} {len nb outer places sets pop : Nat → Int32} {tol units : Int32} {input tape : Nat → Int32} {il taped : Int32}
theorem InR.chars (h : InR input il tape taped) : il = taped ∧ ∃ (l : Nat) (C : Nat → Nat), l ≤ 80 ∧ il = nI l ∧ ∀ j, j < l → input j = nI (C j) ∧ tape j = nI (C j) ∧ C j < 65536 := by
  obtain ⟨h1, l, h2, h3, h4⟩ := h
  refine ⟨h1, l, fun j => (input j).toNatClampNeg, h2, h3, fun j hj => ?_⟩
  obtain ⟨e, c, hc, e2⟩ := h4 j hj
  have e3 : (input j).toNatClampNeg = c := by rw [e2]; exact nI_clamp (by omega)
  show input j = nI (input j).toNatClampNeg ∧ tape j = nI (input j).toNatClampNeg ∧ (input j).toNatClampNeg < 65536
  rw [e3, ← e]
  exact ⟨e2, e2, hc⟩
theorem readC_L54 {n k l : Nat} {C : Nat → Nat} {b0 s0 : Nat → Int32} {y : Int32} (hn : n ≤ 12) (hk : k ≤ 4) (hC' : ∀ j, j < n → input j = nI (C j) ∧ C j < 65536) (hf : ∀ j, j < n → fltB n k C j = false) (kf : (Nat → Int32) → (Nat → Int32) → Option ((String ⊕ Int32) × (Nat → Int32) × (Nat → Int32) × Int32 × Int32 × (Nat → Nat → Int32) × (Nat → Nat → Int32) × (Nat → Int32) × (Nat → Int32) × (Nat → Int32) × (Nat → Nat → Int32) × (Nat → Nat → Int32) × (Nat → Nat → Int32) × (Nat → Nat → Int32) × (Nat → Nat → Int32) × (Nat → Nat → Int32) × (Nat → Int32) × (Nat → Int32) × Int32 × Int32 × Int32 × Int32 × Int32 × Int32 × (Nat → Int32) × (Nat → Int32))) :
    ∃ p s, fX10_readPlan_L54 input (nI k) (nI n) y 1000000 kf 0 (fun j => if j < 12 then 0 else b0 j) (fun j => if j < 4 then 0 else s0 j) = kf p s ∧ layI (rowD (disD k C) n) n p s := by
  obtain ⟨⟨p, s⟩, hI, e⟩ := upI (fun m j (s : (Nat → Int32) × (Nat → Int32)) => fX10_readPlan_L54 input (nI k) (nI n) y m kf (nI j) s.1 s.2) (fun s => kf s.1 s.2) (fun j s => layI (rowD (disD k C) n) j s.1 s.2) 0 n (Nat.zero_le n) (fun m s _ => by
      show fX10_readPlan_L54 input (nI k) (nI n) y (m + 1) kf (nI n) _ _ = _
      rw [fX10_readPlan_L54, if_pos (nI_leS n (by omega))]) (fun m j s _ hj hI => by
      obtain ⟨c1, c2⟩ := hC' j hj
      have hfj := hf j hj
      unfold fltB at hfj
      rw [Bool.or_eq_false_iff] at hfj
      cases hd : dL k (C j) with
      | none => rw [hd] at hfj; cases hfj.2
      | some d =>
        have hdk := dL_lt hd
        have ed : (rowD (disD k C) n).getD j 0 = d := by
          rw [rowD_at, if_pos hj]
          unfold disD
          rw [hd]; rfl
        obtain ⟨p', s', e1, e2⟩ := lay_give (by omega) ed (by omega) hI
        refine ⟨(p', s'), e2, ?_⟩
        show fX10_readPlan_L54 input (nI k) (nI n) y (m + 1) kf (nI j) _ _ = _
        rw [fX10_readPlan_L54, if_neg (nI_ge hj (by omega)), if_pos ((inR_nI (by omega)).mpr (by omega)), nI_clamp (by omega), c1, pX10_districtOf c2 hk, bind_s, hd, e1, bind_s, nI_1]) 1000000 ((fun j => if j < 12 then 0 else b0 j), fun j => if j < 4 then 0 else s0 j) (by omega) ⟨fun j hj => by
      show (if j < 12 then (0 : Int32) else b0 j) = _
      rw [if_pos hj, if_neg (Nat.not_lt_zero j)], fun d hd v => by
      show pbit (if d < 4 then (0 : Int32) else s0 d) v = _
      rw [if_pos hd, pbit_0, decide_eq_false (Nat.not_lt_zero v), Bool.false_and]⟩
  exact ⟨p, s, e, hI⟩
theorem op_readPlan (hH : HR next size hA hC hco hdi hha hL hN hO hP hS hQ hT hU hist many) (h : WR g area com cores dist has len nb outer places sets pop tol units) (hI : InR input il tape taped) (b0 s0 ahead : Nat → Int32) (jd jr dm kd kr th0 : Int32) (plan : Nat → Int32) : ∃ r b1 s1 n' s' A C co di ha L N O P S Q T U jd' jr' kd' kr' has' places' sets' b ahead' dm' g' hist' many' plan' th, fX10_readPlan b0 s0 next size hA hC hco hdi hha hL hN hO hP hS hQ hT hU input il jd jr kd kr area com cores dist has len nb outer places sets pop tol units = some (r, b1, s1, n', s', A, C, co, di, ha, L, N, O, P, S, Q, T, U, 0, jd', jr', kd', kr', has', places', sets') ∧ fX11_readPlan ahead dm g hist many kd kr plan tape taped th0 = some (b, ahead', dm', g', hist', many', kd', kr', plan', 0, th) ∧ ansR ["java/lang/IllegalStateException"] r b th ∧ HR n' s' A C co di ha L N O P S Q T U hist' many' ∧ WR g' area com cores dist has' len nb outer places' sets' pop tol units ∧ ∀ x, x < 207 → g' x = g x := by
  obtain ⟨rfl, l, C, hl, rfl, hCC⟩ := hI.chars
  obtain ⟨n, k, rfl, hR, hW, hX, rfl, e3, e4, e5, e6, ⟨t, e7, e8⟩, e9, e10, e11⟩ := id h
  subst e6
  have hn := hR.n12
  rw [fX10_readPlan, fX11_readPlan, k204, hR.g204]
  by_cases hn0 : n = 0
  · subst hn0
    rw [if_pos (show nI 0 = (0 : Int32) from rfl), if_pos (show nI 0 = (0 : Int32) from rfl)]
    exact ⟨_, _, _, _, _, _, _, _, _, _, _, _, _, _, _, _, _, _, _, _, _, _, _, _, _, _, _, _, _, _, _, _, _, rfl, rfl, ⟨by decide +kernel, by decide +kernel⟩, hH, h, fun _ _ => rfl⟩
  · have hnz : ¬ nI n = (0 : Int32) := fun e => hn0 (nI_inj (a := n) (b := 0) (by omega) (by decide) e)
    rw [if_neg hnz, if_neg hnz, pX10_findPlanFault hn e5 hl (fun j hj => ⟨(hCC j hj).1, (hCC j hj).2.2⟩), readM_L29 (disD k C), readM_loop hR.g204 hn e3 e5 _ hl (fun j hj => ⟨(hCC j hj).2.1, (hCC j hj).2.2⟩)]
    cases hf : fstP l (fltB n k C) with
    | some i =>
      have hil := (fstP_lt hf).1
      show ∃ r b1 s1 n' s' A C co di ha L N O P S Q T U jd' jr' kd' kr' has' places' sets' b ahead' dm' g' hist' many' plan' th, ((some (nI i)).bind _) = _ ∧ some _ = _ ∧ _
      rw [bind_s, if_neg (show ¬ nI i < (0 : Int32) from nI_nlt (Nat.zero_le i) (by omega))]
      exact ⟨_, _, _, _, _, _, _, _, _, _, _, _, _, _, _, _, _, _, _, _, _, _, _, _, _, _, _, _, _, _, _, _, _, rfl, rfl, ⟨rfl, rfl⟩, hH, h, fun _ _ => rfl⟩
    | none =>
      have hno : ∀ j, j < l → fltB n k C j = false := fun j hj => fstP_none hf hj
      have hln : l ≤ n := by
        rcases Nat.lt_or_ge n l with q | q
        · have := hno n q
          unfold fltB at this
          rw [decide_eq_true (Nat.le_refl n)] at this
          cases this
        · exact q
      by_cases hle : n ≤ l
      · have e : l = n := by omega
        subst e
        obtain ⟨p, s, f1, f2⟩ := readC_L54 (b0 := b0) (s0 := s0) (y := 0) (l := l) hn e5 (fun j hj => ⟨(hCC j hj).1, (hCC j hj).2.2⟩) hno (fun z54_t_behind_places z54_t_behind_sets => (fX3_judgePlan com cores (nI k) nb pop (g 206) (nI l) z54_t_behind_sets jd jr).bind (fun q9 => (if q9.1 = (0 : Int32) then (fX10_becomePresent z54_t_behind_places z54_t_behind_sets next size hA hC hco hdi hha hL hN hO hP hS hQ hT hU area com cores (nI k) has len nb outer places sets pop (g 206) (nI l)).bind (fun q11 => some (Sum.inr (0 : Int32), z54_t_behind_places, z54_t_behind_sets, q11.1, q11.2.1, q11.2.2.1, q11.2.2.2.1, q11.2.2.2.2.1, q11.2.2.2.2.2.1, q11.2.2.2.2.2.2.1, q11.2.2.2.2.2.2.2.1, q11.2.2.2.2.2.2.2.2.1, q11.2.2.2.2.2.2.2.2.2.1, q11.2.2.2.2.2.2.2.2.2.2.1, q11.2.2.2.2.2.2.2.2.2.2.2.1, q11.2.2.2.2.2.2.2.2.2.2.2.2.1, q11.2.2.2.2.2.2.2.2.2.2.2.2.2.1, q11.2.2.2.2.2.2.2.2.2.2.2.2.2.2.1, (0 : Int32), q9.2.1, q9.2.2, kd, kr, q11.2.2.2.2.2.2.2.2.2.2.2.2.2.2.2.1, q11.2.2.2.2.2.2.2.2.2.2.2.2.2.2.2.2.1, q11.2.2.2.2.2.2.2.2.2.2.2.2.2.2.2.2.2)) else (fX10_keepRefusal q9.2.1 q9.2.2).bind (fun q12 => some (Sum.inr q9.2.2, z54_t_behind_places, z54_t_behind_sets, next, size, hA, hC, hco, hdi, hha, hL, hN, hO, hP, hS, hQ, hT, hU, (0 : Int32), q9.2.1, q9.2.2, q12.1, q12.2, has, places, sets)))))
        have hPl : PlanR l k p s (arL plan (rowD (disD k C) l)) := lay_plan hn e5 rowD_len (fun d hd => by
          unfold rowD at hd
          obtain ⟨j, hj, rfl⟩ := List.mem_map.mp hd
          have := hno j (List.mem_range.mp hj)
          unfold fltB at this
          rw [Bool.or_eq_false_iff] at this
          unfold disD
          cases hdj : dL k (C j) with
          | none => rw [hdj] at this; cases this.2
          | some d => exact dL_lt hdj) (by omega) f2
        show ∃ r b1 s1 n' s' A C co di ha L N O P S Q T U jd' jr' kd' kr' has' places' sets' b ahead' dm' g' hist' many' plan' th, ((if l ≤ l then some (-1 : Int32) else some (nI l)).bind _) = _ ∧ (if nI l ≤ nI l then _ else _) = _ ∧ _
        rw [if_pos (Nat.le_refl l), bind_s, if_pos (show (-1 : Int32) < 0 by decide), fX4_clear, pJ7_fill (by decide), bind_s, pJ7_fill (by decide), bind_s, bind_s, f1, pX3_judgePlan hR e5 hPl, bind_s, if_pos (nI_leS l (by omega)), pX11_reason hR.g204 hn e3 e5 hPl.m, bind_s]
        by_cases hz : (reasS l k g (arL plan (rowD (disD k C) l))).1 = 0
        · obtain ⟨n', s', A, C', co, di, ha, L, N, O, P, S, Q, T, U, p', s'', ah, hist', many', m1, m2, m3, m4, m5⟩ := op_becomePresent (bp := p) (bs := s) (pm := arL plan (rowD (disD k C) l)) (ahead := ahead) hH h (fun n2 k2 a b c e => by
            have q1 : n2 = l := nI_inj (by omega) (by omega) a.symm
            have q2 : k2 = k := nI_inj (by omega) (by omega) b.symm
            subst q1 q2
            exact ⟨by omega, hPl⟩)
          rw [if_pos hz, if_pos hz, m1, bind_s, m2, bind_s, pX11_keeps, bind_s, m3, bind_s]
          exact ⟨_, _, _, _, _, _, _, _, _, _, _, _, _, _, _, _, _, _, _, _, _, _, _, _, _, _, _, _, _, _, _, _, _, rfl, rfl, ⟨rfl, rfl⟩, m4, m5, fun x hx => keep_lo hx⟩
        · rw [if_neg hz, if_neg hz, fX10_keepRefusal, bind_s, fX11_keepsReason, bind_s, if_neg hz]
          exact ⟨_, _, _, _, _, _, _, _, _, _, _, _, _, _, _, _, _, _, _, _, _, _, _, _, _, _, _, _, _, _, _, _, _, rfl, rfl, ⟨rfl, rfl⟩, hH, h, fun _ _ => rfl⟩
      · show ∃ r b1 s1 n' s' A C co di ha L N O P S Q T U jd' jr' kd' kr' has' places' sets' b ahead' dm' g' hist' many' plan' th, ((if n ≤ l then some (-1 : Int32) else some (nI l)).bind _) = _ ∧ (if nI n ≤ nI l then _ else _) = _ ∧ _
        rw [if_neg hle, bind_s, if_neg (show ¬ nI l < (0 : Int32) from nI_nlt (Nat.zero_le l) (by omega)), if_neg (nI_ge (show l < n by omega) (by omega))]
        exact ⟨_, _, _, _, _, _, _, _, _, _, _, _, _, _, _, _, _, _, _, _, _, _, _, _, _, _, _, _, _, _, _, _, _, rfl, rfl, ⟨rfl, rfl⟩, hH, h, fun _ _ => rfl⟩
end RQ
