/-! remember and changes, giveBack and undo -/
theorem WR.cg {g g' area com : Nat → Int32} {cores dist has : Int32} {len nb outer places sets pop : Nat → Int32} {tol units : Int32} (h : WR g area com cores dist has len nb outer places sets pop tol units) (hg : ∀ x, x < 221 → g' x = g x) : WR g' area com cores dist has len nb outer places sets pop tol units :=
  h.congr hg (fun _ _ => rfl) (fun _ _ => rfl) (fun _ _ => rfl) (fun _ _ => rfl) (fun _ _ => rfl) (fun _ _ => rfl) (fun _ _ => rfl) (fun _ _ => rfl)
section HI
variable {next size : Int32} {hA hC : Nat → Nat → Int32} {hco hdi hha : Nat → Int32} {hL hN hO hP hS hQ : Nat → Nat → Int32} {hT hU : Nat → Int32} {hist : Nat → Int32} {many : Int32}
variable {area com : Nat → Int32} {cores dist has : Int32} {len nb outer places sets pop : Nat → Int32} {tol units : Int32}
theorem pX2_remember {ahead : Nat → Int32} (h : HR next size hA hC hco hdi hha hL hN hO hP hS hQ hT hU hist many) (hw : WR ahead area com cores dist has len nb outer places sets pop tol units) :
    ∃ (n' s' : Int32) (A C : Nat → Nat → Int32) (co di ha : Nat → Int32) (L N O P S Q : Nat → Nat → Int32) (T U : Nat → Int32) (hist' : Nat → Int32) (many' : Int32), fX2_remember area com cores dist has len nb outer places sets pop tol units next size hA hC hco hdi hha hL hN hO hP hS hQ hT hU = some (n', s', A, C, co, di, ha, L, N, O, P, S, Q, T, U) ∧ fX11_changes ahead hist many = some (hist', many') ∧ HR n' s' A C co di ha L N O P S Q T U hist' many' := by
  obtain ⟨nx, s, rfl, hnx, rfl, hs, rfl, hj⟩ := h
  obtain ⟨a', c', l', nn, o', p', s', q', e1, hw'⟩ := pX9_copyFrom (g' := ahead) (a0 := hA nx) (c0 := hC nx) (l0 := hL nx) (n0 := hN nx) (o0 := hO nx) (p0 := hP nx) (s0 := hS nx) (q0 := hQ nx) hw (fun _ _ => rfl)
  rw [fX2_remember, fX2_remember_el, if_pos ((inR_nI (by omega)).mpr hnx), if_pos ((inR_nI (by omega)).mpr hnx), bind_s, nI_clamp (by omega), e1, bind_s, bind_s, pX11_changes hs, show (nI nx + 1) - (nI nx + 1) / (8 : Int32) * (8 : Int32) = nI ((nx + 1) % 8) from next8 ⟨nx, hnx⟩]
  refine ⟨_, _, _, _, _, _, _, _, _, _, _, _, _, _, _, (if s = 8 then putH ahead (shiftH hist) 7 else putH ahead hist s), (if s = 8 then nI 8 else nI (s + 1)), rfl, by split <;> rfl, ?_⟩
  by_cases h8 : s = 8
  · subst h8
    rw [if_pos rfl, if_pos rfl]
    refine ⟨(nx + 1) % 8, 8, rfl, by omega, (by show (if (8 : Int32) < nI 8 + 1 then (8 : Int32) else nI 8 + 1) = nI 8; decide), by decide, rfl, fun j hj8 => ?_⟩
    by_cases h7 : j = 7
    · subst h7
      have e : ((nx + 1) % 8 + 8 - 8 + 7) % 8 = nx := by omega
      rw [e]
      simp only [va_up, if_true]
      exact hw'.cg fun x hx => by
        show putH ahead (shiftH hist) 7 (221 * 7 + x) = _
        unfold putH
        rw [if_pos (by omega), show 221 * 7 + x - 221 * 7 = x by omega]
    · have e : ((nx + 1) % 8 + 8 - 8 + j) % 8 = (nx + 8 - 8 + (j + 1)) % 8 := by omega
      have ne : ¬ (nx + 8 - 8 + (j + 1)) % 8 = nx := by omega
      rw [e]
      simp only [va_up, if_neg ne]
      exact (hj (j + 1) (by omega)).cg fun x hx => by
        show putH ahead (shiftH hist) 7 (221 * j + x) = _
        unfold putH shiftH
        rw [if_neg (by omega), if_pos (by omega), show 221 * j + x + 221 = 221 * (j + 1) + x by omega]
  · rw [if_neg h8, if_neg h8]
    have es : (if (8 : Int32) < (nI s + (1 : Int32)) then (8 : Int32) else (nI s + (1 : Int32))) = nI (s + 1) := by
      rw [nI_1, if_neg (show ¬ (8 : Int32) < nI (s + 1) from nI_nlt (show s + 1 ≤ 8 by omega) (by decide))]
    refine ⟨(nx + 1) % 8, s + 1, rfl, by omega, es, by omega, rfl, fun j hj8 => ?_⟩
    by_cases h7 : j = s
    · subst h7
      have e : ((nx + 1) % 8 + 8 - (j + 1) + j) % 8 = nx := by omega
      rw [e]
      simp only [va_up, if_true]
      exact hw'.cg fun x hx => by
        show putH ahead hist j (221 * j + x) = _
        unfold putH
        rw [if_pos (by omega), show 221 * j + x - 221 * j = x by omega]
    · have e : ((nx + 1) % 8 + 8 - (s + 1) + j) % 8 = (nx + 8 - s + j) % 8 := by omega
      have ne : ¬ (nx + 8 - s + j) % 8 = nx := by omega
      rw [e]
      simp only [va_up, if_neg ne]
      exact (hj j (by omega)).cg fun x hx => by
        show putH ahead hist s (221 * j + x) = _
        unfold putH
        rw [if_neg (by omega)]
theorem pX11_undo_L25 {g : Nat → Int32} {s : Nat} (hs : s < 8) (kf : (Nat → Int32) → Option (Int32 × (Nat → Int32) × Int32 × Int32)) : fX11_undo_L25 hist (nI s) 1000000 kf 0 g = kf (fun x => if x < 221 then hist (221 * s + x) else g x) := by
  have ei : ∀ i, i < 221 → ((221 : Int32) * nI s) + nI i = nI (221 * s + i) := fun i _ => by rw [show (221 : Int32) = nI 221 from rfl, pk_mul, nI_add]
  have key := upS (fun m i z => fX11_undo_L25 hist (nI s) m kf (nI i) z) (fun i => fun x => if x < i then hist (221 * s + x) else g x) 221 (kf (fun x => if x < 221 then hist (221 * s + x) else g x)) (fun m => ?_) (fun m i hi => ?_) 1000000 (by omega)
  · have e0 : (fun x => if x < 0 then hist (221 * s + x) else g x) = g := funext fun x => if_neg (by omega)
    simp only [e0] at key
    exact key
  · show fX11_undo_L25 hist (nI s) (m + 1) kf (nI 221) _ = _
    rw [fX11_undo_L25, if_pos (show (221 : Int32) ≤ nI 221 by decide)]
  · show fX11_undo_L25 hist (nI s) (m + 1) kf (nI i) _ = fX11_undo_L25 hist (nI s) m kf (nI (i + 1)) (fun x => if x < i + 1 then hist (221 * s + x) else g x)
    rw [fX11_undo_L25, if_neg (ge221 hi), ei i hi, if_pos ((inR_nI (by omega)).mpr (by omega)), if_pos ((inR_nI (by omega)).mpr hi), nI_clamp (by omega), nI_clamp (by omega), nI_1]
    congr 1
    funext x
    by_cases e : x = i
    · subst e; rw [pk_us, if_pos (Nat.lt_succ_self x)]
    · rw [pk_un e]
      by_cases e2 : x < i
      · rw [if_pos e2, if_pos (show x < i + 1 by omega)]
      · rw [if_neg e2, if_neg (show ¬ x < i + 1 by omega)]
theorem pX2_giveBack {s : Nat} {a0 c0 l0 n0 o0 p0 s0 q0 g : Nat → Int32} (hs9 : s < 8) (hm : many = nI (s + 1)) (h : HR next size hA hC hco hdi hha hL hN hO hP hS hQ hT hU hist many) :
    ∃ (A C : Nat → Int32) (co di ha : Int32) (L N O P S Q : Nat → Int32) (T U n' : Int32), fX2_giveBack a0 c0 l0 n0 o0 p0 s0 q0 next size hA hC hco hdi hha hL hN hO hP hS hQ hT hU = some (A, C, co, di, ha, L, N, O, P, S, Q, T, U, n', nI s) ∧ HR n' (nI s) hA hC hco hdi hha hL hN hO hP hS hQ hT hU hist (nI s) ∧ WR (fun x => if x < 221 then hist (221 * s + x) else g x) A C co di ha L N O P S Q T U := by
  obtain ⟨nx, s', rfl, hnx, rfl, hs, e, hj⟩ := h
  have : s' = s + 1 := by
    rw [hm] at e
    exact (nI_inj (by omega) (by omega) e).symm
  subst this
  have e8 : ((nI nx + (8 : Int32)) - (1 : Int32)) - ((nI nx + (8 : Int32)) - (1 : Int32)) / (8 : Int32) * (8 : Int32) = nI ((nx + 7) % 8) := prev8 ⟨nx, hnx⟩
  have hlast := hj s (by omega)
  have ei : (nx + 8 - (s + 1) + s) % 8 = (nx + 7) % 8 := by omega
  rw [ei] at hlast
  obtain ⟨a', c', l', nn, o', p', s', q', e1, hw'⟩ := pX9_copyFrom (g' := fun x => if x < 221 then hist (221 * s + x) else g x) (a0 := a0) (c0 := c0) (l0 := l0) (n0 := n0) (o0 := o0) (p0 := p0) (s0 := s0) (q0 := q0) hlast (fun x hx => if_pos hx)
  rw [fX2_giveBack, fX2_giveBack_el, e8, if_pos ((inR_nI (by omega)).mpr (by omega)), if_pos ((inR_nI (by omega)).mpr (by omega)), bind_s, nI_clamp (by omega), e1, bind_s, bind_s, show nI (s + 1) - (1 : Int32) = nI s by rw [← nI_1]; simp]
  refine ⟨_, _, _, _, _, _, _, _, _, _, _, _, _, _, rfl, ⟨(nx + 7) % 8, s, rfl, by omega, rfl, by omega, rfl, fun j hj' => ?_⟩, hw'⟩
  have e : ((nx + 7) % 8 + 8 - s + j) % 8 = (nx + 8 - (s + 1) + j) % 8 := by omega
  rw [e]
  exact hj j (by omega)
end HI
