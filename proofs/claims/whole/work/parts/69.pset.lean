/-! undo, snapshots, clearMap, setDistricts, setTolerance, feed -/
theorem MapR.cg5 {g g' pop area com outer nb len : Nat → Int32} {n : Nat} {cores : Int32} (h : MapR g n pop area com outer nb len cores) (hg : ∀ x, x < 205 → g' x = g x) : MapR g' n pop area com outer nb len cores := by
  have hn := h.n12
  refine ⟨by rw [hg 204 (by omega)]; exact h.1, hn, fun u hu => ?_, fun u v hu hv => ?_, fun u hu => ?_⟩
  · rw [hg (5 * u) (by omega), hg (5 * u + 1) (by omega), hg (5 * u + 2) (by omega), hg (5 * u + 4) (by omega), hg (5 * u + 3) (by omega)]
    exact h.2.2.1 u hu
  · unfold gB
    rw [hg _ (by omega)]
    exact h.2.2.2.1 u v hu hv
  · rw [h.nb hu]
    unfold nbS
    exact mkS_congr fun v hv => by unfold gB; rw [hg _ (by omega)]
theorem MapW.cg5 {g g' : Nat → Int32} {n : Nat} (h : MapW g n) (hn : n ≤ 12) (hg : ∀ x, x < 205 → g' x = g x) : MapW g' n := by
  refine ⟨fun u hu => ?_, fun u v hu hv => ?_⟩
  · rw [hg (5 * u) (by omega), hg (5 * u + 1) (by omega), hg (5 * u + 2) (by omega), hg (5 * u + 4) (by omega), hg (5 * u + 3) (by omega)]
    exact h.1 u hu
  · unfold gB
    rw [hg _ (by omega), hg _ (by omega)]
    exact h.2 u v hu hv
theorem k204' : (204 : Int32).toNatClampNeg = 204 := by decide
section ST2
variable {next size : Int32} {hA hC : Nat → Nat → Int32} {hco hdi hha : Nat → Int32} {hL hN hO hP hS hQ : Nat → Nat → Int32} {hT hU : Nat → Int32} {hist : Nat → Int32} {many : Int32}
variable {g area com : Nat → Int32} {cores dist has : Int32} {len nb outer places sets pop : Nat → Int32} {tol units : Int32}
theorem WR.reset {g' p s : Nat → Int32} {k' t' : Nat} (h : WR g area com cores dist has len nb outer places sets pop tol units) (hg : ∀ x, x < 205 → g' x = g x) (h9 : g' 219 = 0) (hk : g' 205 = nI k') (h2 : 2 ≤ k') (h4 : k' ≤ 4) (ht : g' 206 = nI t') (h99 : t' ≤ 99) : WR g' area com cores (nI k') 0 len nb outer p s pop (g' 206) units := by
  obtain ⟨n, k, e1, hR, hW, hX, e2, e3, e4, e5, e6, -, -, -, -⟩ := h
  exact ⟨n, k', e1, hR.cg5 hg, hW.cg5 hR.n12 hg, hX, rfl, hk, h2, h4, rfl, ⟨t', h99, ht⟩, h9.symm, Or.inl rfl, fun q => absurd q (by decide)⟩
theorem op_remember {ahead : Nat → Int32} (hH : HR next size hA hC hco hdi hha hL hN hO hP hS hQ hT hU hist many) (h : WR g area com cores dist has len nb outer places sets pop tol units) : ∃ n' s' A C co di ha L N O P S Q T U hist' many', fX2_remember area com cores dist has len nb outer places sets pop tol units next size hA hC hco hdi hha hL hN hO hP hS hQ hT hU = some (n', s', A, C, co, di, ha, L, N, O, P, S, Q, T, U) ∧ fX11_changes (fun x => if x < 221 then g x else ahead x) hist many = some (hist', many') ∧ HR n' s' A C co di ha L N O P S Q T U hist' many' :=
  pX2_remember hH (h.cg fun x hx => if_pos hx)
theorem op_forgetPlans {p s : Nat → Int32} : ∃ p' s', fX10_forgetPlans p s = some (0, 0, 0, p', s') := by
  rw [fX10_forgetPlans, fX9_dropPlan, fX4_clear, pJ7_fill (by decide), bind_s, pJ7_fill (by decide)]
  exact ⟨_, _, rfl⟩
theorem in_lohi {x : Int32} {a b : Nat} (hb : b < 2 ^ 30) (hab : a ≤ b) : (x < nI a ∧ fX11_in x (nI a) (nI b) = some 0) ∨ (¬ x < nI a ∧ ¬ x ≤ nI b ∧ fX11_in x (nI a) (nI b) = some 0) ∨ (¬ x < nI a ∧ x ≤ nI b ∧ fX11_in x (nI a) (nI b) = some 1 ∧ ∃ j, a ≤ j ∧ j ≤ b ∧ x = nI j) := by
  rw [fX11_in]
  by_cases h1 : x < nI a
  · exact Or.inl ⟨h1, if_pos h1⟩
  · right
    rw [if_neg h1]
    by_cases h2 : x ≤ nI b
    · right
      refine ⟨h1, h2, if_neg (by rw [lt_nle]; exact fun q => q h2), ?_⟩
      have hx : inR x (b + 1) := by
        rw [Int32.lt_iff_toInt_lt, nI_toInt (by omega)] at h1
        rw [Int32.le_iff_toInt_le, nI_toInt (by omega)] at h2
        exact ⟨by omega, by omega⟩
      obtain ⟨j, hj, rfl⟩ := inR_of hx (by omega)
      rw [Int32.lt_iff_toInt_lt, nI_toInt (by omega), nI_toInt (by omega)] at h1
      exact ⟨j, by omega, by omega, rfl⟩
    · left
      exact ⟨h1, h2, if_pos (by rw [lt_nle]; exact h2)⟩
theorem op_setDistricts {hp hs : Int32} (hH : HR next size hA hC hco hdi hha hL hN hO hP hS hQ hT hU hist many) (h : WR g area com cores dist has len nb outer places sets pop tol units) (ahead : Nat → Int32) (x : Int32) : ∃ r hp' hs' n' s' A C co di ha L N O P S Q T U dist' has' places' sets' b ahead' g' hist' many' th, fX10_setDistricts hp hs next size hA hC hco hdi hha hL hN hO hP hS hQ hT hU area com cores dist has len nb outer places sets pop tol units x = some (r, hp', hs', n', s', A, C, co, di, ha, L, N, O, P, S, Q, T, U, dist', has', places', sets') ∧ fX11_setDistricts ahead g hist many x = some (b, ahead', g', hist', many', th) ∧ ansR ["java/lang/IllegalArgumentException"] r b th ∧ HR n' s' A C co di ha L N O P S Q T U hist' many' ∧ WR g' area com cores dist' has' len nb outer places' sets' pop tol units ∧ ((hp' = 0 ∧ hs' = 0) ∨ (hp' = hp ∧ hs' = hs ∧ g' = g)) := by
  rw [fX10_setDistricts, fX11_setDistricts, k205]
  rcases in_lohi (x := x) (show 4 < 2 ^ 30 by decide) (show 2 ≤ 4 by decide) with ⟨a, e⟩ | ⟨a, b, e⟩ | ⟨a, b, e, j, h1, h2, rfl⟩
  · rw [if_pos (show x < (2 : Int32) from a), show fX11_in x 2 4 = some 0 from e, bind_s, if_pos rfl]
    exact ⟨_, _, _, _, _, _, _, _, _, _, _, _, _, _, _, _, _, _, _, _, _, _, _, _, _, _, _, _, rfl, rfl, ⟨by decide +kernel, by decide +kernel⟩, hH, h, Or.inr ⟨rfl, rfl, rfl⟩⟩
  · rw [if_neg (show ¬ x < (2 : Int32) from a), if_neg (show ¬ x ≤ (4 : Int32) from b), show fX11_in x 2 4 = some 0 from e, bind_s, if_pos rfl]
    exact ⟨_, _, _, _, _, _, _, _, _, _, _, _, _, _, _, _, _, _, _, _, _, _, _, _, _, _, _, _, rfl, rfl, ⟨by decide +kernel, by decide +kernel⟩, hH, h, Or.inr ⟨rfl, rfl, rfl⟩⟩
  · obtain ⟨n', s', A, C, co, di, ha, L, N, O, P, S, Q, T, U, hist', many', f1, f2, f3⟩ := op_remember (ahead := ahead) hH h
    obtain ⟨p', s'', f4⟩ := op_forgetPlans (p := places) (s := sets)
    obtain ⟨n, k, u1, hR, -, -, u2, u3, -, -, u6, ⟨t, u7, u8⟩, -⟩ := id h
    rw [if_neg (show ¬ nI j < (2 : Int32) from a), if_pos (show nI j ≤ (4 : Int32) from b), show fX11_in (nI j) 2 4 = some 1 from e, bind_s, if_neg n10, f1, bind_s, f4, bind_s, pX11_remembers, bind_s, f2, bind_s]
    have hg5 : ∀ x, x < 205 → upd (upd g 205 (nI j)) 219 0 x = g x := fun x hx => by rw [pk_un (by omega), pk_un (by omega)]
    have h5 : upd (upd g 205 (nI j)) 219 0 205 = nI j := by rw [pk_un (by decide), pk_us]
    have h6 : upd (upd g 205 (nI j)) 219 0 206 = g 206 := by rw [pk_un (by decide), pk_un (by decide)]
    have hw := h.reset (p := p') (s := s'') hg5 pk_us h5 h1 h2 (h6.trans u8) u7
    rw [h6, ← u6] at hw
    exact ⟨_, _, _, _, _, _, _, _, _, _, _, _, _, _, _, _, _, _, _, _, _, _, _, _, _, _, _, _, rfl, rfl, ⟨rfl, u2.trans u3.symm⟩, f3, hw, Or.inl ⟨rfl, rfl⟩⟩
theorem op_setTolerance {hp hs : Int32} (hH : HR next size hA hC hco hdi hha hL hN hO hP hS hQ hT hU hist many) (h : WR g area com cores dist has len nb outer places sets pop tol units) (ahead : Nat → Int32) (x : Int32) : ∃ r hp' hs' n' s' A C co di ha L N O P S Q T U has' places' sets' tol' b ahead' g' hist' many' th, fX10_setTolerance hp hs next size hA hC hco hdi hha hL hN hO hP hS hQ hT hU area com cores dist has len nb outer places sets pop tol units x = some (r, hp', hs', n', s', A, C, co, di, ha, L, N, O, P, S, Q, T, U, has', places', sets', tol') ∧ fX11_setTolerance ahead g hist many x = some (b, ahead', g', hist', many', th) ∧ ansR ["java/lang/IllegalArgumentException"] r b th ∧ HR n' s' A C co di ha L N O P S Q T U hist' many' ∧ WR g' area com cores dist has' len nb outer places' sets' pop tol' units ∧ ((hp' = 0 ∧ hs' = 0) ∨ (hp' = hp ∧ hs' = hs ∧ g' = g)) := by
  rw [fX10_setTolerance, fX11_setTolerance, k206]
  rcases in_lohi (x := x) (show 99 < 2 ^ 30 by decide) (show 0 ≤ 99 by decide) with ⟨a, e⟩ | ⟨a, b, e⟩ | ⟨a, b, e, j, h1, h2, rfl⟩
  · rw [if_pos (show x < (0 : Int32) from a), show fX11_in x 0 99 = some 0 from e, bind_s, if_pos rfl]
    exact ⟨_, _, _, _, _, _, _, _, _, _, _, _, _, _, _, _, _, _, _, _, _, _, _, _, _, _, _, _, rfl, rfl, ⟨by decide +kernel, by decide +kernel⟩, hH, h, Or.inr ⟨rfl, rfl, rfl⟩⟩
  · rw [if_neg (show ¬ x < (0 : Int32) from a), if_neg (show ¬ x ≤ (99 : Int32) from b), show fX11_in x 0 99 = some 0 from e, bind_s, if_pos rfl]
    exact ⟨_, _, _, _, _, _, _, _, _, _, _, _, _, _, _, _, _, _, _, _, _, _, _, _, _, _, _, _, rfl, rfl, ⟨by decide +kernel, by decide +kernel⟩, hH, h, Or.inr ⟨rfl, rfl, rfl⟩⟩
  · obtain ⟨n', s', A, C, co, di, ha, L, N, O, P, S, Q, T, U, hist', many', f1, f2, f3⟩ := op_remember (ahead := ahead) hH h
    obtain ⟨p', s'', f4⟩ := op_forgetPlans (p := places) (s := sets)
    obtain ⟨n, k, u1, hR, -, -, u2, u3, u4, u5, u6, ⟨t, u7, u8⟩, -⟩ := id h
    rw [if_neg (show ¬ nI j < (0 : Int32) from a), if_pos (show nI j ≤ (99 : Int32) from b), show fX11_in (nI j) 0 99 = some 1 from e, bind_s, if_neg n10, f1, bind_s, f4, bind_s, pX11_remembers, bind_s, f2, bind_s]
    have hg5 : ∀ x, x < 205 → upd (upd g 206 (nI j)) 219 0 x = g x := fun x hx => by rw [pk_un (by omega), pk_un (by omega)]
    have h5 : upd (upd g 206 (nI j)) 219 0 205 = nI k := by rw [pk_un (by decide), pk_un (by decide)]; exact u3
    have h6 : upd (upd g 206 (nI j)) 219 0 206 = nI j := by rw [pk_un (by decide), pk_us]
    have hw := h.reset (p := p') (s := s'') hg5 pk_us h5 u4 u5 h6 h2
    rw [h6, ← u2] at hw
    exact ⟨_, _, _, _, _, _, _, _, _, _, _, _, _, _, _, _, _, _, _, _, _, _, _, _, _, _, _, _, rfl, rfl, ⟨rfl, u6⟩, f3, hw, Or.inl ⟨rfl, rfl⟩⟩
theorem op_clearMap (hH : HR next size hA hC hco hdi hha hL hN hO hP hS hQ hT hU hist many) (h : WR g area com cores dist has len nb outer places sets pop tol units) (ahead : Nat → Int32) : ∃ v n' s' A C co di ha L N O P S Q T U cores' len' nb' places' sets' ahead' g' hist' many', fX10_clearMap next size hA hC hco hdi hha hL hN hO hP hS hQ hT hU area com cores dist has len nb outer places sets pop tol units = some (v, 0, 0, n', s', A, C, co, di, ha, L, N, O, P, S, Q, T, U, cores', 0, len', nb', places', sets', 0) ∧ fX11_clearMap ahead g hist many = some (v, ahead', g', hist', many', 0) ∧ HR n' s' A C co di ha L N O P S Q T U hist' many' ∧ WR g' area com cores' dist 0 len' nb' outer places' sets' pop tol 0 := by
  obtain ⟨n', s', A, C, co, di, ha, L, N, O, P, S, Q, T, U, hist', many', f1, f2, f3⟩ := op_remember (ahead := ahead) hH h
  obtain ⟨p', s'', f4⟩ := op_forgetPlans (p := places) (s := sets)
  obtain ⟨n, k, u1, hR, -, -, u2, u3, u4, u5, u6, ⟨t, u7, u8⟩, -⟩ := id h
  rw [fX10_clearMap, fX11_clearMap, f1, bind_s, fX9_removeUnits, pJ7_fill (by decide), bind_s, pJ7_fill (by decide), bind_s, bind_s, f4, bind_s, pX11_remembers, bind_s, f2, bind_s, k204, k219, hR.g204, ← u1]
  refine ⟨_, _, _, _, _, _, _, _, _, _, _, _, _, _, _, _, _, _, _, _, _, _, _, _, _, rfl, rfl, f3, ?_⟩
  have h4 : upd (upd g 204 0) 219 0 204 = 0 := by rw [pk_un (by decide), pk_us]
  have hx : ∀ x, 205 ≤ x → x < 219 → upd (upd g 204 0) 219 0 x = g x := fun x a b => by rw [pk_un (by omega), pk_un (by omega)]
  refine ⟨0, k, rfl, ⟨h4, by decide, fun u hu => by omega, fun u v hu => by omega, fun u hu => by omega⟩, ⟨fun u hu => by omega, fun u v hu => by omega⟩, ⟨fun u v hu hv _ => if_pos (by omega), fun u _ hu => if_pos hu, fun u _ => pbit_0 u⟩, u2, (hx 205 (by decide) (by decide)).trans u3, u4, u5, u6.trans (hx 206 (by decide) (by decide)).symm, ⟨t, u7, (hx 206 (by decide) (by decide)).trans u8⟩, pk_us.symm, Or.inl rfl, fun q => absurd q (by decide)⟩
theorem op_undo {hp hs : Int32} (hH : HR next size hA hC hco hdi hha hL hN hO hP hS hQ hT hU hist many) (h : WR g area com cores dist has len nb outer places sets pop tol units) : ∃ r hp' hs' n' s' area' com' cores' dist' has' len' nb' outer' places' sets' pop' tol' units' b g' many' th, fX10_undo hp hs next size hA hC hco hdi hha hL hN hO hP hS hQ hT hU area com cores dist has len nb outer places sets pop tol units = some (r, hp', hs', n', s', area', com', cores', dist', has', len', nb', outer', places', sets', pop', tol', units') ∧ fX11_undo g hist many = some (b, g', many', th) ∧ ansR ["java/lang/IllegalStateException"] r b th ∧ HR n' s' hA hC hco hdi hha hL hN hO hP hS hQ hT hU hist many' ∧ WR g' area' com' cores' dist' has' len' nb' outer' places' sets' pop' tol' units' ∧ ((hp' = 0 ∧ hs' = 0) ∨ (hp' = hp ∧ hs' = hs ∧ g' = g)) := by
  obtain ⟨nx, s, e1, e2, e3, e4, e5, -⟩ := id hH
  rw [fX10_undo, fX11_undo, e3, e5]
  by_cases h0 : s = 0
  · subst h0
    rw [if_pos (show nI 0 = (0 : Int32) from rfl), if_pos (show nI 0 = (0 : Int32) from rfl)]
    rw [e3, e5] at hH
    exact ⟨_, _, _, _, _, _, _, _, _, _, _, _, _, _, _, _, _, _, _, _, _, _, rfl, rfl, ⟨by decide +kernel, by decide +kernel⟩, hH, h, Or.inr ⟨rfl, rfl, rfl⟩⟩
  · obtain ⟨s, rfl⟩ : ∃ m, s = m + 1 := ⟨s - 1, by omega⟩
    have hne : ¬ nI (s + 1) = (0 : Int32) := fun e => absurd (nI_inj (a := s + 1) (b := 0) (by omega) (by decide) e) (by omega)
    obtain ⟨A, C, co, di, ha, L, N, O, P, S, Q, T, U, n', f1, f2, f3⟩ := pX2_giveBack (a0 := area) (c0 := com) (l0 := len) (n0 := nb) (o0 := outer) (p0 := places) (s0 := sets) (q0 := pop) (g := g) (show s < 8 by omega) e5 hH
    rw [e3] at f1
    have em : nI (s + 1) - (1 : Int32) = nI s := by rw [← nI_1]; simp
    rw [if_neg hne, if_neg hne, f1, bind_s, em, pX11_undo_L25 (by omega)]
    exact ⟨_, _, _, _, _, _, _, _, _, _, _, _, _, _, _, _, _, _, _, _, _, _, rfl, rfl, ⟨rfl, rfl⟩, f2, f3, Or.inl ⟨rfl, rfl⟩⟩
theorem pX11_restore_L15 {saved : Nat → Int32} (kf : (Nat → Int32) → Option (Int32 × (Nat → Int32) × Int32 × Int32)) : fX11_restoreSnapshot_L15 saved 1000000 kf 0 g = kf (fun x => if x < 221 then saved x else g x) := by
  have key := upS (fun m i z => fX11_restoreSnapshot_L15 saved m kf (nI i) z) (fun i => fun x => if x < i then saved x else g x) 221 (kf (fun x => if x < 221 then saved x else g x)) (fun m => ?_) (fun m i hi => ?_) 1000000 (by omega)
  · have e0 : (fun x => if x < 0 then saved x else g x) = g := funext fun x => if_neg (by omega)
    simp only [e0] at key
    exact key
  · show fX11_restoreSnapshot_L15 saved (m + 1) kf (nI 221) _ = _
    rw [fX11_restoreSnapshot_L15, if_pos (show (221 : Int32) ≤ nI 221 by decide)]
  · show fX11_restoreSnapshot_L15 saved (m + 1) kf (nI i) _ = fX11_restoreSnapshot_L15 saved m kf (nI (i + 1)) (fun x => if x < i + 1 then saved x else g x)
    rw [fX11_restoreSnapshot_L15, if_neg (ge221 hi), if_pos ((inR_nI (by omega)).mpr hi), if_pos ((inR_nI (by omega)).mpr hi), nI_clamp (by omega), nI_1]
    congr 1
    funext x
    by_cases e : x = i
    · subst e; rw [pk_us, if_pos (Nat.lt_succ_self x)]
    · rw [pk_un e]
      by_cases e2 : x < i
      · rw [if_pos e2, if_pos (show x < i + 1 by omega)]
      · rw [if_neg e2, if_neg (show ¬ x < i + 1 by omega)]
theorem pX11_save_L7 {saved : Nat → Int32} {b1 : Int32} (kf : (Nat → Int32) → Option (Int32 × Int32 × (Nat → Int32) × Int32)) : fX11_saveSnapshot_L7 g b1 1000000 kf 0 saved = kf (fun x => if x < 221 then g x else saved x) := by
  have key := upS (fun m i z => fX11_saveSnapshot_L7 g b1 m kf (nI i) z) (fun i => fun x => if x < i then g x else saved x) 221 (kf (fun x => if x < 221 then g x else saved x)) (fun m => ?_) (fun m i hi => ?_) 1000000 (by omega)
  · have e0 : (fun x => if x < 0 then g x else saved x) = saved := funext fun x => if_neg (by omega)
    simp only [e0] at key
    exact key
  · show fX11_saveSnapshot_L7 g b1 (m + 1) kf (nI 221) _ = _
    rw [fX11_saveSnapshot_L7, if_pos (show (221 : Int32) ≤ nI 221 by decide)]
  · show fX11_saveSnapshot_L7 g b1 (m + 1) kf (nI i) _ = fX11_saveSnapshot_L7 g b1 m kf (nI (i + 1)) (fun x => if x < i + 1 then g x else saved x)
    rw [fX11_saveSnapshot_L7, if_neg (ge221 hi), if_pos ((inR_nI (by omega)).mpr hi), if_pos ((inR_nI (by omega)).mpr hi), nI_clamp (by omega), nI_1]
    congr 1
    funext x
    by_cases e : x = i
    · subst e; rw [pk_us, if_pos (Nat.lt_succ_self x)]
    · rw [pk_un e]
      by_cases e2 : x < i
      · rw [if_pos e2, if_pos (show x < i + 1 by omega)]
      · rw [if_neg e2, if_neg (show ¬ x < i + 1 by omega)]
/-- the snapshot -/
def SnR (hasS : Int32) (sA sC : Nat → Int32) (sco sdi sha : Int32) (sL sN sO sP sS sQ : Nat → Int32) (sT sU : Int32) (hasSaved : Int32) (saved : Nat → Int32) : Prop := hasS = hasSaved ∧ (hasS = 0 ∨ (hasS = 1 ∧ WR saved sA sC sco sdi sha sL sN sO sP sS sQ sT sU))
theorem op_save {sA sC sL sN sO sP sS sQ : Nat → Int32} (h : WR g area com cores dist has len nb outer places sets pop tol units) (saved : Nat → Int32) : ∃ v A C co di ha L N O P S Q T U saved', fX10_saveSnapshot area com cores dist has len nb outer places sets pop tol units sA sC sL sN sO sP sS sQ = some (v, 1, A, C, co, di, ha, L, N, O, P, S, Q, T, U) ∧ fX11_saveSnapshot g saved = some (v, 1, saved', 0) ∧ SnR 1 A C co di ha L N O P S Q T U 1 saved' := by
  obtain ⟨a', c', l', nn, o', p', s', q', e1, hw'⟩ := pX9_copyFrom (g' := fun x => if x < 221 then g x else saved x) (a0 := sA) (c0 := sC) (l0 := sL) (n0 := sN) (o0 := sO) (p0 := sP) (s0 := sS) (q0 := sQ) h (fun x hx => if_pos hx)
  obtain ⟨n, k, u1, hR, -⟩ := id h
  rw [fX10_saveSnapshot, fX11_saveSnapshot, e1, bind_s, pX11_save_L7, k204, hR.g204, ← u1]
  exact ⟨_, _, _, _, _, _, _, _, _, _, _, _, _, _, _, rfl, rfl, rfl, Or.inr ⟨rfl, hw'⟩⟩
theorem op_restore {hp hs : Int32} {sA sC : Nat → Int32} {sco sdi sha : Int32} {sL sN sO sP sS sQ : Nat → Int32} {sT sU : Int32} {hasS hasSaved : Int32} {saved : Nat → Int32} (hH : HR next size hA hC hco hdi hha hL hN hO hP hS hQ hT hU hist many) (h : WR g area com cores dist has len nb outer places sets pop tol units) (hSn : SnR hasS sA sC sco sdi sha sL sN sO sP sS sQ sT sU hasSaved saved) : ∃ r hp' hs' size' area' com' cores' dist' has' len' nb' outer' places' sets' pop' tol' units' b g' many' th, fX10_restoreSnapshot hp hs hasS size area com cores dist has len nb outer places sets pop tol units sA sC sco sdi sha sL sN sO sP sS sQ sT sU = some (r, hp', hs', size', area', com', cores', dist', has', len', nb', outer', places', sets', pop', tol', units') ∧ fX11_restoreSnapshot g hasSaved many saved = some (b, g', many', th) ∧ ansR ["java/lang/IllegalStateException"] r b th ∧ HR next size' hA hC hco hdi hha hL hN hO hP hS hQ hT hU hist many' ∧ WR g' area' com' cores' dist' has' len' nb' outer' places' sets' pop' tol' units' ∧ ((hp' = 0 ∧ hs' = 0) ∨ (hp' = hp ∧ hs' = hs ∧ g' = g)) := by
  obtain ⟨rfl, hS2⟩ := hSn
  rw [fX10_restoreSnapshot, fX11_restoreSnapshot]
  rcases hS2 with h0 | ⟨h1, hw⟩
  · rw [if_pos h0, if_pos h0]
    exact ⟨_, _, _, _, _, _, _, _, _, _, _, _, _, _, _, _, _, _, _, _, _, rfl, rfl, ⟨by decide +kernel, by decide +kernel⟩, hH, h, Or.inr ⟨rfl, rfl, rfl⟩⟩
  · have hne : ¬ hasS = 0 := by rw [h1]; exact n10
    obtain ⟨a', c', l', nn, o', p', s', q', e1, hw'⟩ := pX9_copyFrom (g' := fun x => if x < 221 then saved x else g x) (a0 := area) (c0 := com) (l0 := len) (n0 := nb) (o0 := outer) (p0 := places) (s0 := sets) (q0 := pop) hw (fun x hx => if_pos hx)
    obtain ⟨n, k, u1, hR, -⟩ := id hw
    obtain ⟨nx, s, e2, e3, -, -, -, -⟩ := id hH
    have e204 : (fun x => if x < 221 then saved x else g x) 204 = sU := (if_pos (by decide)).trans (hR.g204.trans u1.symm)
    rw [if_neg hne, if_neg hne, e1, bind_s, fX2_forget, bind_s, fX0_forget, bind_s, pX11_restore_L15, k204, c_done, bind_s, e204]
    exact ⟨_, _, _, _, _, _, _, _, _, _, _, _, _, _, _, _, _, _, _, _, _, rfl, rfl, ⟨rfl, rfl⟩, ⟨nx, 0, e2, e3, rfl, by omega, rfl, fun j hj => by omega⟩, hw', Or.inl ⟨rfl, rfl⟩⟩
/-- the input -/
def InR (input : Nat → Int32) (il : Int32) (tape : Nat → Int32) (taped : Int32) : Prop := il = taped ∧ ∃ l, l ≤ 80 ∧ il = nI l ∧ ∀ j, j < l → input j = tape j ∧ ∃ c, c < 65536 ∧ input j = nI c
theorem nar_char (x : Int32) : ∃ c, c < 65536 ∧ vp_nar .char x = nI c := by
  have : ∃ c, c < 65536 ∧ ((Int32.toUInt32 x) % 65536).toInt32 = nI c := by
    refine ⟨x.toUInt32.toNat % 65536, Nat.mod_lt _ (by decide), ?_⟩
    apply Int32.toBitVec_inj.1
    apply BitVec.eq_of_toNat_eq
    show ((Int32.toUInt32 x) % 65536).toNat = (BitVec.ofNat 32 (x.toUInt32.toNat % 65536)).toNat
    rw [BitVec.toNat_ofNat, UInt32.toNat_mod]
    show x.toUInt32.toNat % 65536 = _
    omega
  exact this
theorem op_feed {input tape : Nat → Int32} {il taped : Int32} (h : InR input il tape taped) (x : Int32) : ∃ r input' il' b tape' taped' th, fX10_feed input il x = some (r, input', il') ∧ fX11_feed tape taped x = some (b, tape', taped', th) ∧ ansR ["java/lang/IllegalStateException"] r b th ∧ InR input' il' tape' taped' := by
  obtain ⟨rfl, l, hl, rfl, hj⟩ := h
  rw [fX10_feed, fX11_feed]
  by_cases h8 : l = 80
  · subst h8
    rw [if_neg (show ¬ nI 80 < (80 : Int32) by decide), if_pos (show nI 80 = (80 : Int32) from rfl)]
    exact ⟨_, _, _, _, _, _, _, rfl, rfl, ⟨by decide +kernel, by decide +kernel⟩, rfl, 80, by omega, rfl, hj⟩
  · rw [if_pos (show nI l < (80 : Int32) from nI_lt (show l < 80 by omega) (by decide)), if_pos ((inR_nI (by omega)).mpr (by omega)), if_neg (show ¬ nI l = (80 : Int32) from fun e => h8 (nI_inj (by omega) (by decide) e)), if_pos ((inR_nI (by omega)).mpr (by omega)), nI_clamp (by omega), nI_1]
    refine ⟨_, _, _, _, _, _, _, rfl, rfl, ⟨rfl, rfl⟩, rfl, l + 1, by omega, rfl, fun j hj' => ?_⟩
    by_cases e : j = l
    · subst e
      rw [pk_us, pk_us]
      obtain ⟨c, c1, c2⟩ := nar_char x
      exact ⟨rfl, c, c1, c2⟩
    · rw [pk_un e, pk_un e]
      exact hj j (by omega)
end ST2
