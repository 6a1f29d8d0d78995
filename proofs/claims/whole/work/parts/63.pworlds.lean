/-! worlds: the class's fields and the reference's row of numbers -/
/-- what the class keeps beyond its units -/
def MapX (n : Nat) (len nb : Nat → Int32) (cores : Int32) : Prop := (∀ u v, u < 12 → v < 12 → (n ≤ u ∨ n ≤ v) → len (u * 12 + v) = 0) ∧ (∀ u, n ≤ u → u < 12 → nb u = 0) ∧ ∀ u, n ≤ u → pbit cores u = false
def WR (g area com : Nat → Int32) (cores dist has : Int32) (len nb outer places sets pop : Nat → Int32) (tol units : Int32) : Prop :=
  ∃ n k, units = nI n ∧ MapR g n pop area com outer nb len cores ∧ MapW g n ∧ MapX n len nb cores ∧ dist = nI k ∧ g 205 = nI k ∧ 2 ≤ k ∧ k ≤ 4 ∧ tol = g 206 ∧ (∃ t, t ≤ 99 ∧ g 206 = nI t) ∧ has = g 219 ∧ (has = 0 ∨ has = 1) ∧ (has = 1 → 1 ≤ n ∧ PlanR n k places sets (fun x => g (207 + x)))
theorem WR.isB {g area com : Nat → Int32} {cores dist has : Int32} {len nb outer places sets pop : Nat → Int32} {tol units : Int32} (h : WR g area com cores dist has len nb outer places sets pop tol units) : has = 0 ∨ has = 1 := by
  obtain ⟨n, k, _, _, _, _, _, _, _, _, _, _, _, h1, _⟩ := h
  exact h1
theorem WR.congr {g g' area com : Nat → Int32} {cores dist has : Int32} {len nb outer places sets pop : Nat → Int32} {tol units : Int32} {area' com' len' nb' outer' places' sets' pop' : Nat → Int32} (h : WR g area com cores dist has len nb outer places sets pop tol units)
    (hg : ∀ x, x < 221 → g' x = g x) (ha : ∀ u, u < 12 → area' u = area u) (hc : ∀ u, u < 12 → com' u = com u) (hl : ∀ u, u < 144 → len' u = len u) (hn : ∀ u, u < 12 → nb' u = nb u) (ho : ∀ u, u < 12 → outer' u = outer u) (hp : ∀ u, u < 12 → places' u = places u) (hs : ∀ u, u < 4 → sets' u = sets u) (hq : ∀ u, u < 12 → pop' u = pop u) : WR g' area' com' cores dist has len' nb' outer' places' sets' pop' tol units := by
  obtain ⟨n, k, e1, hR, hW, hX, e2, e3, e4, e5, e6, ⟨t, e7, e8⟩, e9, e10, e11⟩ := h
  have hn12 := hR.n12
  have lo : ∀ x, x < 207 → g' x = g x := fun x hx => hg x (by omega)
  have hR' := hR.congr lo
  refine ⟨n, k, e1, ⟨hR'.1, hn12, fun u hu => ?_, fun u v hu hv => ?_, fun u hu => ?_⟩, hW.congr hn12 lo, ⟨fun u v hu hv huv => ?_, fun u hu hu12 => ?_, hX.2.2⟩, e2, by rw [lo 205 (by omega)]; exact e3, e4, e5, by rw [lo 206 (by omega)]; exact e6, ⟨t, e7, by rw [lo 206 (by omega)]; exact e8⟩, by rw [hg 219 (by omega)]; exact e9, e10, fun q => ⟨(e11 q).1, (e11 q).2.congr (fun u hu => hp u (by omega)) (fun d hd => hs d hd) (fun u hu => hg (207 + u) (by omega))⟩⟩
  · rw [hq u (by omega), ha u (by omega), hc u (by omega), ho u (by omega)]
    exact hR'.2.2.1 u hu
  · rw [hl _ (by omega)]
    exact hR'.2.2.2.1 u v hu hv
  · rw [hn u (by omega)]
    exact hR'.2.2.2.2 u hu
  · rw [hl _ (by omega)]
    exact hX.1 u v hu hv huv
  · rw [hn u hu12]
    exact hX.2.1 u hu hu12
theorem k144 : (144 : Int32).toNatClampNeg = 144 := by decide
theorem isB01' {x : Int32} (h : x = 0 ∨ x = 1) : isB x := by
  rcases h with rfl | rfl
  · exact Or.inl rfl
  · exact Or.inr rfl
theorem pX9_copyFrom {g g' area com : Nat → Int32} {cores dist has : Int32} {len nb outer places sets pop : Nat → Int32} {tol units : Int32} {a0 c0 l0 n0 o0 p0 s0 q0 : Nat → Int32} (h : WR g area com cores dist has len nb outer places sets pop tol units) (hg : ∀ x, x < 221 → g' x = g x) :
    ∃ a' c' l' n' o' p' s' q', fX9_copyFrom area com cores dist has len nb outer places sets pop tol units a0 c0 l0 n0 o0 p0 s0 q0 = some (a', c', cores, dist, has, l', n', o', p', s', q', tol, units) ∧ WR g' a' c' cores dist has l' n' o' p' s' q' tol units := by
  rw [fX9_copyFrom, if_pos (isB01' h.isB), fX4_copyFrom, bind_s, k12, k4, k144]
  exact ⟨_, _, _, _, _, _, _, _, rfl, h.congr hg (fun u hu => cpy0 hu) (fun u hu => cpy0 hu) (fun u hu => cpy0 hu) (fun u hu => cpy0 hu) (fun u hu => cpy0 hu) (fun u hu => cpy0 hu) (fun u hu => cpy0 hu) (fun u hu => cpy0 hu)⟩
/-! the history: the class's ring, the reference's rows one behind another -/
def HR (next size : Int32) (area com : Nat → Nat → Int32) (cores dist has : Nat → Int32) (len nb outer places sets pop : Nat → Nat → Int32) (tol units : Nat → Int32) (hist : Nat → Int32) (many : Int32) : Prop :=
  ∃ nx s, next = nI nx ∧ nx < 8 ∧ size = nI s ∧ s ≤ 8 ∧ many = nI s ∧ ∀ j, j < s → WR (fun x => hist (221 * j + x)) (area ((nx + 8 - s + j) % 8)) (com ((nx + 8 - s + j) % 8)) (cores ((nx + 8 - s + j) % 8)) (dist ((nx + 8 - s + j) % 8)) (has ((nx + 8 - s + j) % 8)) (len ((nx + 8 - s + j) % 8)) (nb ((nx + 8 - s + j) % 8)) (outer ((nx + 8 - s + j) % 8)) (places ((nx + 8 - s + j) % 8)) (sets ((nx + 8 - s + j) % 8)) (pop ((nx + 8 - s + j) % 8)) (tol ((nx + 8 - s + j) % 8)) (units ((nx + 8 - s + j) % 8))
theorem pX11_remembers {ahead g : Nat → Int32} : fX11_remembers ahead g = some (fun x => if x < 221 then g x else ahead x) := by
  rw [fX11_remembers]
  have key := upS (fun m i s => fX11_remembers_L2 g m (fun z => some z) (nI i) s) (fun i => fun x => if x < i then g x else ahead x) 221 (some (fun x => if x < 221 then g x else ahead x)) (fun m => ?_) (fun m i hi => ?_) 1000000 (by omega)
  · have e0 : (fun x => if x < 0 then g x else ahead x) = ahead := funext fun s => if_neg (by omega)
    simp only [e0] at key
    exact key
  · show fX11_remembers_L2 g (m + 1) _ (nI 221) _ = _
    rw [fX11_remembers_L2, if_pos (show (221 : Int32) ≤ nI 221 by decide)]
  · show fX11_remembers_L2 g (m + 1) _ (nI i) _ = fX11_remembers_L2 g m _ (nI (i + 1)) (fun x => if x < i + 1 then g x else ahead x)
    rw [fX11_remembers_L2, if_neg (ge221 hi), if_pos ((inR_nI (by omega)).mpr hi), if_pos ((inR_nI (by omega)).mpr hi), nI_clamp (by omega), nI_1]
    congr 1
    funext j
    by_cases e : j = i
    · subst e; rw [pk_us, if_pos (Nat.lt_succ_self j)]
    · rw [pk_un e]
      by_cases e2 : j < i
      · rw [if_pos e2, if_pos (show j < i + 1 by omega)]
      · rw [if_neg e2, if_neg (show ¬ j < i + 1 by omega)]
/-- one row more behind s others -/
def putH (ahead hist : Nat → Int32) (s : Nat) : Nat → Int32 := fun x => if 221 * s ≤ x ∧ x < 221 * s + 221 then ahead (x - 221 * s) else hist x
theorem pX11_changes_L52 {ahead hist : Nat → Int32} {s : Nat} (hs : s < 8) (kf : (Nat → Int32) → Option ((Nat → Int32) × Int32)) : fX11_changes_L52 ahead (nI s) 1000000 kf 0 hist = kf (putH ahead hist s) := by
  have ei : ∀ i, i < 221 → ((221 : Int32) * nI s) + nI i = nI (221 * s + i) := fun i _ => by rw [show (221 : Int32) = nI 221 from rfl, pk_mul, nI_add]
  have key := upS (fun m i z => fX11_changes_L52 ahead (nI s) m kf (nI i) z) (fun i => fun x => if 221 * s ≤ x ∧ x < 221 * s + i then ahead (x - 221 * s) else hist x) 221 (kf (putH ahead hist s)) (fun m => ?_) (fun m i hi => ?_) 1000000 (by omega)
  · have e0 : (fun x => if 221 * s ≤ x ∧ x < 221 * s + 0 then ahead (x - 221 * s) else hist x) = hist := funext fun x => if_neg (by omega)
    simp only [e0] at key
    exact key
  · show fX11_changes_L52 ahead (nI s) (m + 1) kf (nI 221) _ = _
    rw [fX11_changes_L52, if_pos (show (221 : Int32) ≤ nI 221 by decide)]; rfl
  · show fX11_changes_L52 ahead (nI s) (m + 1) kf (nI i) _ = fX11_changes_L52 ahead (nI s) m kf (nI (i + 1)) (fun x => if 221 * s ≤ x ∧ x < 221 * s + (i + 1) then ahead (x - 221 * s) else hist x)
    rw [fX11_changes_L52, if_neg (ge221 hi), ei i hi, if_pos ((inR_nI (by omega)).mpr hi), if_pos ((inR_nI (by omega)).mpr (by omega)), nI_clamp (by omega), nI_clamp (by omega), nI_1]
    congr 1
    funext x
    by_cases e : x = 221 * s + i
    · subst e; rw [pk_us, if_pos (by omega), show 221 * s + i - 221 * s = i by omega]
    · rw [pk_un e]
      by_cases e2 : 221 * s ≤ x ∧ x < 221 * s + i
      · rw [if_pos e2, if_pos (by omega)]
      · rw [if_neg e2, if_neg (by omega)]
/-- the rows moved down by one -/
def shiftH (hist : Nat → Int32) : Nat → Int32 := fun x => if x < 1547 then hist (x + 221) else hist x
theorem pX11_changes_L11 {hist : Nat → Int32} (kf : (Nat → Int32) → Option ((Nat → Int32) × Int32)) : fX11_changes_L11 1000000 kf 0 hist = kf (shiftH hist) := by
  have key := upS (fun m i z => fX11_changes_L11 m kf (nI i) z) (fun i => fun x => if x < i then hist (x + 221) else hist x) 1547 (kf (shiftH hist)) (fun m => ?_) (fun m i hi => ?_) 1000000 (by omega)
  · have e0 : (fun x => if x < 0 then hist (x + 221) else hist x) = hist := funext fun x => if_neg (by omega)
    simp only [e0] at key
    exact key
  · show fX11_changes_L11 (m + 1) kf (nI 1547) _ = _
    rw [fX11_changes_L11, if_pos (show (1547 : Int32) ≤ nI 1547 by decide)]; rfl
  · show fX11_changes_L11 (m + 1) kf (nI i) _ = fX11_changes_L11 m kf (nI (i + 1)) (fun x => if x < i + 1 then hist (x + 221) else hist x)
    rw [fX11_changes_L11, if_neg (show ¬ (1547 : Int32) ≤ nI i from nI_ge hi (by decide)), show nI i + (221 : Int32) = nI (i + 221) by rw [show (221 : Int32) = nI 221 from rfl, nI_add], if_pos ((inR_nI (by omega)).mpr (by omega)), if_pos ((inR_nI (by omega)).mpr (by omega)), nI_clamp (by omega), nI_clamp (by omega), nI_1]
    congr 1
    funext x
    by_cases e : x = i
    · subst e; rw [pk_us, if_pos (Nat.lt_succ_self x)]; exact if_neg (by omega)
    · rw [pk_un e]
      by_cases e2 : x < i
      · rw [if_pos e2, if_pos (show x < i + 1 by omega)]
      · rw [if_neg e2, if_neg (show ¬ x < i + 1 by omega)]
theorem pX11_changes {ahead hist : Nat → Int32} {s : Nat} (hs : s ≤ 8) : fX11_changes ahead hist (nI s) = some (if s = 8 then (putH ahead (shiftH hist) 7, nI 8) else (putH ahead hist s, nI (s + 1))) := by
  rw [fX11_changes]
  by_cases h : s = 8
  · subst h
    rw [if_pos (show nI 8 = (8 : Int32) from rfl), if_pos rfl, pX11_changes_L11, show nI 8 - (1 : Int32) = nI 7 by decide, pX11_changes_L52 (by decide)]; rfl
  · rw [if_neg (show ¬ nI s = (8 : Int32) from fun e => h (nI_inj (by omega) (by decide) e)), if_neg h, pX11_changes_L52 (by omega), nI_1]
theorem next8 : ∀ i : Fin 8, (nI i.val + 1) - (nI i.val + 1) / (8 : Int32) * (8 : Int32) = nI ((i.val + 1) % 8) := by decide +kernel
theorem prev8 : ∀ i : Fin 8, ((nI i.val + (8 : Int32)) - (1 : Int32)) - ((nI i.val + (8 : Int32)) - (1 : Int32)) / (8 : Int32) * (8 : Int32) = nI ((i.val + 7) % 8) := by decide +kernel
