/-! extend: class and reference -/
abbrev R11 : Type := Int32 × (Nat → Int32) × Int32 × (Nat → Int32) × (Nat → Int32) × Int32 × Int32 × Int32 × (Nat → Int32) × Int32 × Int32
def extK2 (q9 t_history : Nat → Int32) (t_historyMany : Int32) : KM := (fun z74_t_at z74_t_g z74_t_impossibleAt z74_t_letter z74_t_numbers z74_t_taped z74_t_thrown => (fX11_changes q9 t_history t_historyMany).bind (fun q19 => (fX11_done ((upd z74_t_g (219 : Int32).toNatClampNeg (0 : Int32)) (204 : Int32).toNatClampNeg)).bind (fun q20 => some (q20.1, q9, z74_t_at, (upd z74_t_g (219 : Int32).toNatClampNeg (0 : Int32)), q19.1, q19.2, z74_t_impossibleAt, z74_t_letter, z74_t_numbers, (0 : Int32), q20.2))))
def extK (t_ahead t_g t_history : Nat → Int32) (t_historyMany t_impossibleAt : Int32) (t_tape : Nat → Int32) (t_taped t_thrown : Int32) : Int32 → Int32 → Int32 → (Nat → Int32) → Option R11 := (fun z10_1 z10_t_at z10_t_letter z10_t_numbers => (if z10_1 = (0 : Int32) then (fX11_done ((-100 : Int32) - z10_t_at)).bind (fun q7 => some (q7.1, t_ahead, z10_t_at, t_g, t_history, t_historyMany, t_impossibleAt, z10_t_letter, z10_t_numbers, (0 : Int32), q7.2)) else (if t_taped ≤ z10_t_at then (fX11_remembers t_ahead t_g).bind (fun q9 => fX11_extend_L74 t_history t_historyMany t_tape q9 1000000 (extK2 q9 t_history t_historyMany) (0 : Int32) (0 : Int32) t_g t_impossibleAt z10_t_letter z10_t_numbers t_taped t_thrown) else (fX11_done ((-100 : Int32) - z10_t_at)).bind (fun q21 => some (q21.1, t_ahead, z10_t_at, t_g, t_history, t_historyMany, t_impossibleAt, z10_t_letter, z10_t_numbers, (0 : Int32), q21.2)))))
theorem extend_K {ahead g hist : Nat → Int32} {many imp : Int32} {nums tape : Nat → Int32} {taped th : Int32} : fX11_extend ahead g hist many imp nums tape taped th = (fX11_readsStatement (0 : Int32) nums tape taped).bind (fun q => fX11_extend_L10 tape taped 1000000 (extK ahead g hist many imp tape taped th) q.1 q.2.1 q.2.2.1 q.2.2.2) := rfl
section EX
variable {next size : Int32} {hA hC : Nat → Nat → Int32} {hco hdi hha : Nat → Int32} {hL hN hO hP hS hQ : Nat → Nat → Int32} {hT hU : Nat → Int32} {hist : Nat → Int32} {many : Int32}
variable {g area com : Nat → Int32} {cores dist has : Int32} {len nb outer places sets pop : Nat → Int32} {tol units : Int32}
variable {input tape : Nat → Int32} {il taped : Int32}
theorem pX9_copyAny {a0 c0 l0 n0 o0 p0 s0 q0 : Nat → Int32} (hB : has = 0 ∨ has = 1) : ∃ a' c' l' n' o' p' s' q', fX9_copyFrom area com cores dist has len nb outer places sets pop tol units a0 c0 l0 n0 o0 p0 s0 q0 = some (a', c', cores, dist, has, l', n', o', p', s', q', tol, units) ∧ (∀ u, u < 12 → a' u = area u) ∧ (∀ u, u < 12 → c' u = com u) ∧ (∀ u, u < 144 → l' u = len u) ∧ (∀ u, u < 12 → n' u = nb u) ∧ (∀ u, u < 12 → o' u = outer u) ∧ (∀ u, u < 12 → q' u = pop u) := by
  rw [fX9_copyFrom, if_pos (isB01' hB), fX4_copyFrom, bind_s, k12, k4, k144]
  exact ⟨_, _, _, _, _, _, _, _, rfl, fun u hu => cpy0 hu, fun u hu => cpy0 hu, fun u hu => cpy0 hu, fun u hu => cpy0 hu, fun u hu => cpy0 hu, fun u hu => cpy0 hu⟩
theorem WM.congr {g' area' com' len' nb' outer' pop' : Nat → Int32} (h : WM g area com cores len nb outer pop units) (hg : ∀ x, x < 205 → g' x = g x) (ha : ∀ u, u < 12 → area' u = area u) (hc : ∀ u, u < 12 → com' u = com u) (hl : ∀ u, u < 144 → len' u = len u) (hn : ∀ u, u < 12 → nb' u = nb u) (ho : ∀ u, u < 12 → outer' u = outer u) (hq : ∀ u, u < 12 → pop' u = pop u) : WM g' area' com' cores len' nb' outer' pop' units := by
  obtain ⟨n, e1, hR, hW, hX⟩ := h
  have hn12 := hR.n12
  have hR' := hR.cg5 hg
  refine ⟨n, e1, ⟨hR'.1, hn12, fun u hu => ?_, fun u v hu hv => ?_, fun u hu => ?_⟩, hW.cg5 hn12 hg, ⟨fun u v hu hv huv => ?_, fun u hu hu12 => ?_, hX.2.2⟩⟩
  · rw [hq u (by omega), ha u (by omega), hc u (by omega), ho u (by omega)]
    exact hR'.2.2.1 u hu
  · rw [hl _ (by omega)]
    exact hR'.2.2.2.1 u v hu hv
  · rw [hn u (by omega)]
    exact hR'.2.2.2.2 u hu
  · rw [hl _ (by omega)]
    exact hX.1 u v hu hv huv
  · rw [hn u hu12]
    exact hX.2.1 u hu hu12
theorem WR.wm (h : WR g area com cores dist has len nb outer places sets pop tol units) : WM g area com cores len nb outer pop units := by
  obtain ⟨n, k, e1, hR, hW, hX, -⟩ := h
  exact ⟨n, e1, hR, hW, hX⟩
theorem extK_0 {ahead : Nat → Int32} {imp th0 ok lt : Int32} {nums : Nat → Int32} {j l : Nat} (h : ok = 0 ∨ (ok = 1 ∧ j < l)) (hl : l ≤ 80) : extK ahead g hist many imp tape (nI l) th0 ok (nI j) lt nums = some (-100 - nI j, ahead, nI j, g, hist, many, imp, lt, nums, 0, 0) := by
  unfold extK
  rcases h with h | ⟨h, hj⟩
  · rw [if_pos h]; rfl
  · rw [if_neg (show ¬ ok = 0 by rw [h]; exact n10), if_neg (nI_ge hj (by omega))]; rfl
theorem op_extend {hp hs ddi dha dT dU imp f ic kd nm sec thd : Int32} {dA dC dL dN dO dP dS dQ : Nat → Int32} {dco : Int32} (hH : HR next size hA hC hco hdi hha hL hN hO hP hS hQ hT hU hist many) (h : WR g area com cores dist has len nb outer places sets pop tol units) (hI : InR input il tape taped) (hImp : ImpR imp) (ahead nums : Nat → Int32) (th0 : Int32) :
    ∃ r hp' hs' dA' dC' dco' ddi' dha' dL' dN' dO' dP' dS' dQ' dT' dU' n' s' A C co di ha L N O P S Q T U imp' area' com' cores' has' len' nb' outer' places' sets' pop' units' at' f' ic' kd' ln' nm' sec' thd' b ahead' atM g' hist' many' ltM nums' th', fX10_extend hp hs dA dC dco ddi dha dL dN dO dP dS dQ dT dU next size hA hC hco hdi hha hL hN hO hP hS hQ hT hU imp input il area com cores dist has len nb outer places sets pop tol units f ic kd nm sec thd = some (r, hp', hs', dA', dC', dco', ddi', dha', dL', dN', dO', dP', dS', dQ', dT', dU', n', s', A, C, co, di, ha, L, N, O, P, S, Q, T, U, imp', 0, area', com', cores', dist, has', len', nb', outer', places', sets', pop', tol, units', at', f', ic', kd', ln', nm', sec', thd') ∧ fX11_extend ahead g hist many imp nums tape taped th0 = some (b, ahead', atM, g', hist', many', imp', ltM, nums', 0, th') ∧ ansR ["java/lang/UnsupportedOperationException"] r b th' ∧ HR n' s' A C co di ha L N O P S Q T U hist' many' ∧ WR g' area' com' cores' dist has' len' nb' outer' places' sets' pop' tol units' ∧ ImpR imp' ∧ ((hp' = 0 ∧ hs' = 0) ∨ (hp' = hp ∧ hs' = hs ∧ ∀ x, x < 221 → g' x = g x)) := by
  obtain ⟨rfl, l, C, hl, rfl, hCC⟩ := hI.chars
  have hTx : Txt input C l := ⟨hl, fun j hj => ⟨(hCC j hj).1, (hCC j hj).2.2⟩⟩
  have hTt : Txt tape C l := ⟨hl, fun j hj => ⟨(hCC j hj).2.1, (hCC j hj).2.2⟩⟩
  have h80 : ¬ (80 : Int32) < nI l := nI_nlt (a := 80) hl (by omega)
  have key : ∀ kf, fX8_findFault_L8 input (nI l) 1000000 kf (nI 0) (nI 0) f ic kd nm sec thd = fX8_findFault_L8 input (nI l) 1000000 kf 0 0 f ic kd nm sec thd := fun _ => rfl
  rw [fX10_extend, fX8_findFault, fX8_begin, bind_s, if_neg h80, extend_K, ← key]
  rcases fault_lock hTx hTt (fun z8_t_at z8_t_first z8_t_isCore z8_t_kind z8_t_number z8_t_second z8_t_third => some (z8_t_at, z8_t_at, z8_t_first, z8_t_isCore, z8_t_kind, nI l, z8_t_number, z8_t_second, z8_t_third)) (extK ahead g hist many imp tape (nI l) th0) (l + 1) 0 0 1000000 1000000 f ic kd nm sec thd nums (by omega) (by omega) (by omega) (by omega) (by omega) with ⟨j, f', ic', kd', nm', sec', thd', ok, lt, nums', hj, hok, e1, e2⟩ | ⟨f', ic', kd', nm', sec', thd', lt, nums', e1, e2, hG⟩
  · rw [e1, bind_s, if_neg (nI_pos (show j < 2 ^ 31 by omega)), show (fX11_readsStatement (0 : Int32) nums tape (nI l)).bind _ = _ from e2, extK_0 hok hl]
    exact ⟨_, _, _, _, _, _, _, _, _, _, _, _, _, _, _, _, _, _, _, _, _, _, _, _, _, _, _, _, _, _, _, _, _, _, _, _, _, _, _, _, _, _, _, _, _, _, _, _, _, _, _, _, _, _, _, _, _, _, _, _, rfl, rfl, ⟨rfl, rfl⟩, hH, h, hImp, Or.inr ⟨rfl, rfl, fun _ _ => rfl⟩⟩
  · obtain ⟨a1, c1, l1, n1, o1, p1, s1, q1, e3, hw1⟩ := pX9_copyFrom (g' := g) (a0 := dA) (c0 := dC) (l0 := dL) (n0 := dN) (o0 := dO) (p0 := dP) (s0 := dS) (q0 := dQ) h (fun _ _ => rfl)
    rw [e1, bind_s, if_pos (show (-1 : Int32) < 0 by decide), e3, bind_s, show (fX11_readsStatement (0 : Int32) nums tape (nI l)).bind _ = _ from e2]
    have eK : extK ahead g hist many imp tape (nI l) th0 1 (nI l) lt nums' = fX11_extend_L74 hist many tape (fun x => if x < 221 then g x else ahead x) 1000000 (extK2 (fun x => if x < 221 then g x else ahead x) hist many) (nI 0) (nI 0) g imp lt nums' (nI l) th0 := by
      unfold extK
      rw [if_neg n10, if_pos (nI_leS l (by omega)), pX11_remembers, bind_s]; rfl
    rw [eK, fX8_carryOut, fX8_begin, bind_s, if_neg h80]
    rcases carry_lock hTx hTt (fun z9_p3_area z9_p3_community z9_p3_cores z9_p3_lengths z9_p3_neighbors z9_p3_outer z9_p3_population z9_p3_units z9_t_at z9_t_first z9_t_isCore z9_t_kind z9_t_number z9_t_second z9_t_third => some ((-1 : Int32), z9_p3_area, z9_p3_community, z9_p3_cores, z9_p3_lengths, z9_p3_neighbors, z9_p3_outer, z9_p3_population, z9_p3_units, z9_t_at, z9_t_first, z9_t_isCore, z9_t_kind, nI l, z9_t_number, z9_t_second, z9_t_third)) (extK2 (fun x => if x < 221 then g x else ahead x) hist many) hist (fun x => if x < 221 then g x else ahead x) many imp th0 (l + 1) 0 0 1000000 1000000 g a1 c1 cores l1 n1 o1 q1 units f' ic' kd' nm' sec' thd' lt nums' hG (by omega) (by omega) (by omega) (by omega) hw1.wm with ⟨r', A', C', co', L', N', O', Q', U', at', f2, ic2, kd2, nm2, sec2, thd2, atM, lt2, nums2, gR, hr, e4, e5, e6⟩ | ⟨A', C', co', L', N', O', Q', U', at', f2, ic2, kd2, nm2, sec2, thd2, lt2, nums2, g2, e4, e5, hw2, hg2⟩
    · rw [show fX8_carryOut_L9 input (nI l) 1000000 _ 0 a1 c1 cores l1 n1 o1 q1 units 0 f' ic' kd' nm' sec' thd' = _ from e4, bind_s, if_neg (nI_pos (show r' < 2 ^ 31 by omega)), e5]
      have eg : ∀ x, x < 221 → gR x = g x := fun x hx => (e6 x hx).trans (if_pos hx)
      exact ⟨_, _, _, _, _, _, _, _, _, _, _, _, _, _, _, _, _, _, _, _, _, _, _, _, _, _, _, _, _, _, _, _, _, _, _, _, _, _, _, _, _, _, _, _, _, _, _, _, _, _, _, _, _, _, _, _, _, _, _, _, rfl, rfl, ⟨by decide +kernel, by decide +kernel⟩, hH, h.cg eg, Or.inr (nI_pos' (by omega)), Or.inr ⟨rfl, rfl, eg⟩⟩
    · obtain ⟨n', s', A, C, co, di, ha, L, N, O, P, S, Q, T, U, hist', many', m1, m2, m3⟩ := op_remember (ahead := ahead) hH h
      obtain ⟨a3, c3, l3, n3, o3, p3, s3, q3, e7, w1, w2, w3, w4, w5, w6⟩ := pX9_copyAny (area := A') (com := C') (cores := co') (dist := dist) (len := L') (nb := N') (outer := O') (places := p1) (sets := s1) (pop := Q') (tol := tol) (units := U') (a0 := area) (c0 := com) (l0 := len) (n0 := nb) (o0 := outer) (p0 := places) (s0 := sets) (q0 := pop) h.isB
      obtain ⟨p4, s4, f4⟩ := op_forgetPlans (p := p3) (s := s3)
      rw [show fX8_carryOut_L9 input (nI l) 1000000 _ 0 a1 c1 cores l1 n1 o1 q1 units 0 f' ic' kd' nm' sec' thd' = _ from e4, bind_s, if_pos (show (-1 : Int32) < 0 by decide), m1, bind_s, e7, bind_s, f4, bind_s, e5]
      unfold extK2
      rw [m2, bind_s, k219, k204]
      obtain ⟨n9, k9, u1, -, -, -, u2, u3, u4, u5, u6, ⟨t, u7, u8⟩, -⟩ := id h
      have hi : ∀ x, 205 ≤ x → x < 219 → upd g2 219 0 x = g x := fun x a b => (pk_un (by omega)).trans (hg2 x a)
      have hw3 : WM (upd g2 219 0) a3 c3 co' l3 n3 o3 q3 U' := hw2.congr (fun x hx => pk_un (by omega)) w1 w2 w3 w4 w5 w6
      have hU : upd g2 219 0 204 = U' := by
        obtain ⟨n7, r1, r2, -⟩ := hw3
        rw [r2.g204, r1]
      have hwr : WR (upd g2 219 0) a3 c3 co' dist 0 l3 n3 o3 p4 s4 q3 tol U' := by
        obtain ⟨n7, r1, r2, r3, r4⟩ := hw3
        exact ⟨n7, k9, r1, r2, r3, r4, u2, (hi 205 (by decide) (by decide)).trans u3, u4, u5, u6.trans (hi 206 (by decide) (by decide)).symm, ⟨t, u7, (hi 206 (by decide) (by decide)).trans u8⟩, pk_us.symm, Or.inl rfl, fun q => absurd q (by decide)⟩
      rw [hU]
      exact ⟨_, _, _, _, _, _, _, _, _, _, _, _, _, _, _, _, _, _, _, _, _, _, _, _, _, _, _, _, _, _, _, _, _, _, _, _, _, _, _, _, _, _, _, _, _, _, _, _, _, _, _, _, _, _, _, _, _, _, _, _, rfl, rfl, ⟨rfl, rfl⟩, m3, hwr, hImp, Or.inl ⟨rfl, rfl⟩⟩
end EX
