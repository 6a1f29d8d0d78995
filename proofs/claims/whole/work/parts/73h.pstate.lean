/-! what a statement does: class and reference -/
def StB (s : Stm) : Prop := s.2.1 ≤ 99 ∧ ((s.1 = 117 ∧ s.2.2.1 ≤ 99 ∧ (s.2.2.2.1 = -1 ∨ ∃ d, d ≤ 9 ∧ s.2.2.2.1 = nI d) ∧ (s.2.2.2.2 = 0 ∨ s.2.2.2.2 = 1)) ∨ (s.1 = 98 ∧ s.2.2.1 ≤ 99 ∧ ∃ d, d ≤ 9 ∧ s.2.2.2.1 = nI d) ∨ (s.1 = 111 ∧ s.2.2.1 ≤ 9))
theorem unit_B {C : Nat → Nat} {l i : Nat} {s : Stm} (h : (unitP C l i).2 = some s) : StB s := by
  unfold unitP at h
  cases h1 : numP C l i with
  | none => rw [h1] at h; cases h
  | some p =>
    obtain ⟨j, a⟩ := p
    have b1 := numP_le h1
    rw [h1] at h
    dsimp only at h
    cases h2 : chP C l j 47 with
    | false => rw [h2, if_neg ff] at h; cases h
    | true =>
      rw [h2, if_pos rfl] at h
      cases h3 : numP C l (j + 1) with
      | none => rw [h3] at h; cases h
      | some p =>
        obtain ⟨m, b⟩ := p
        have b3 := numP_le h3
        rw [h3] at h
        dsimp only at h
        cases h4 : chP C l m 64 with
        | false =>
          rw [h4, if_neg ff] at h
          cases h
          exact ⟨b1.2.2.1, Or.inl ⟨rfl, b3.2.2.1, Or.inl rfl, Or.inl rfl⟩⟩
        | true =>
          rw [h4, if_pos rfl] at h
          cases h5 : dgP C l (m + 1) with
          | false => rw [h5, if_neg ff] at h; cases h
          | true =>
            have b5 := dgP_lt h5
            rw [h5, if_pos rfl] at h
            cases h6 : chP C l (m + 1 + 1) 33 with
            | false =>
              rw [h6, if_neg ff] at h
              cases h
              exact ⟨b1.2.2.1, Or.inl ⟨rfl, b3.2.2.1, Or.inr ⟨_, by omega, rfl⟩, Or.inl rfl⟩⟩
            | true =>
              rw [h6, if_pos rfl] at h
              cases h
              exact ⟨b1.2.2.1, Or.inl ⟨rfl, b3.2.2.1, Or.inr ⟨_, by omega, rfl⟩, Or.inr rfl⟩⟩
theorem bord_B {C : Nat → Nat} {l i : Nat} {s : Stm} (h : (bordP C l i).2 = some s) : StB s := by
  unfold bordP at h
  cases h1 : numP C l i with
  | none => rw [h1] at h; cases h
  | some p =>
    obtain ⟨j, a⟩ := p
    have b1 := numP_le h1
    rw [h1] at h
    dsimp only at h
    cases h2 : chP C l j 45 with
    | false => rw [h2, if_neg ff] at h; cases h
    | true =>
      rw [h2, if_pos rfl] at h
      cases h3 : numP C l (j + 1) with
      | none => rw [h3] at h; cases h
      | some p =>
        obtain ⟨m, b⟩ := p
        have b3 := numP_le h3
        rw [h3] at h
        dsimp only at h
        cases h4 : chP C l m 58 with
        | false => rw [h4, if_neg ff] at h; cases h
        | true =>
          rw [h4, if_pos rfl] at h
          cases h5 : dgP C l (m + 1) with
          | false => rw [h5, if_neg ff] at h; cases h
          | true =>
            have b5 := dgP_lt h5
            rw [h5, if_pos rfl] at h
            cases h
            exact ⟨b1.2.2.1, Or.inr (Or.inl ⟨rfl, b3.2.2.1, _, by omega, rfl⟩)⟩
theorem out_B {C : Nat → Nat} {l i : Nat} {s : Stm} (h : (outP C l i).2 = some s) : StB s := by
  unfold outP at h
  cases h1 : numP C l i with
  | none => rw [h1] at h; cases h
  | some p =>
    obtain ⟨j, a⟩ := p
    have b1 := numP_le h1
    rw [h1] at h
    dsimp only at h
    cases h2 : chP C l j 58 with
    | false => rw [h2, if_neg ff] at h; cases h
    | true =>
      rw [h2, if_pos rfl] at h
      cases h5 : dgP C l (j + 1) with
      | false => rw [h5, if_neg ff] at h; cases h
      | true =>
        have b5 := dgP_lt h5
        rw [h5, if_pos rfl] at h
        cases h
        exact ⟨b1.2.2.1, Or.inr (Or.inr ⟨rfl, by dsimp only; omega⟩)⟩
theorem stP_B {C : Nat → Nat} {l i : Nat} {s : Stm} (h : (stP C l i).2 = some s) : StB s := by
  unfold stP at h
  cases h1 : chP C l i 117 with
  | true => rw [h1, if_pos rfl] at h; exact unit_B h
  | false =>
    rw [h1, if_neg ff] at h
    cases h2 : chP C l i 98 with
    | true => rw [h2, if_pos rfl] at h; exact bord_B h
    | false =>
      rw [h2, if_neg ff] at h
      cases h3 : chP C l i 111 with
      | true => rw [h3, if_pos rfl] at h; exact out_B h
      | false => rw [h3, if_neg ff] at h; cases h
/-- a map alone, without plan -/
def WM (g area com : Nat → Int32) (cores : Int32) (len nb outer pop : Nat → Int32) (units : Int32) : Prop :=
  ∃ n, units = nI n ∧ MapR g n pop area com outer nb len cores ∧ MapW g n ∧ MapX n len nb cores
/-- a unit's numbers at its place -/
def putU (n : Nat) (nums g : Nat → Int32) : Nat → Int32 := fun x => if 5 * n ≤ x ∧ x < 5 * n + 4 then nums (x - 5 * n) else g x
section DO
variable {g area com : Nat → Int32} {cores : Int32} {len nb outer pop : Nat → Int32} {units : Int32} {n : Nat}
theorem does_L54 {nums : Nat → Int32} (hg : g 204 = nI n) (hn : n < 12) (kf : (Nat → Int32) → Option (Int32 × (Nat → Int32))) : fX11_does_L54 nums 1000000 kf 0 g = kf (putU n nums g) := by
  have key := upS (fun m i z => fX11_does_L54 nums m kf (nI i) z) (fun i => fun x => if 5 * n ≤ x ∧ x < 5 * n + i then nums (x - 5 * n) else g x) 4 (kf (putU n nums g)) (fun m => ?_) (fun m i hi => ?_) 1000000 (by omega)
  · have e0 : (fun x => if 5 * n ≤ x ∧ x < 5 * n + 0 then nums (x - 5 * n) else g x) = g := funext fun s => if_neg (by omega)
    simp only [e0] at key
    exact key
  · show fX11_does_L54 nums (m + 1) kf (nI 4) _ = _
    rw [fX11_does_L54, if_pos (show (4 : Int32) ≤ nI 4 by decide)]; rfl
  · show fX11_does_L54 nums (m + 1) kf (nI i) (fun x => if 5 * n ≤ x ∧ x < 5 * n + i then nums (x - 5 * n) else g x) = fX11_does_L54 nums m kf (nI (i + 1)) (fun x => if 5 * n ≤ x ∧ x < 5 * n + (i + 1) then nums (x - 5 * n) else g x)
    have e4 : (if 5 * n ≤ 204 ∧ 204 < 5 * n + i then nums (204 - 5 * n) else g 204) = nI n := by rw [if_neg (by omega)]; exact hg
    have ei : ((0 : Int32) + ((5 : Int32) * nI n)) + nI i = nI (5 * n + i) := by rw [show (5 : Int32) = nI 5 from rfl, pk_mul, show (0 : Int32) = nI 0 from rfl, nI_add, nI_add]; congr 1; omega
    rw [fX11_does_L54, if_neg (ge4 hi), if_pos ((inR_nI (by omega)).mpr hi), k204, e4, ei, if_pos ((inR_nI (by omega)).mpr (by omega)), nI_clamp (by omega), nI_clamp (by omega), nI_1]
    congr 1
    funext j
    by_cases e : j = 5 * n + i
    · subst e
      rw [pk_us, if_pos (by omega)]
      congr 1; omega
    · rw [pk_un e]
      by_cases e2 : 5 * n ≤ j ∧ j < 5 * n + i
      · rw [if_pos e2, if_pos (by omega)]
      · rw [if_neg e2, if_neg (by omega)]
def zerB (n i : Nat) (h : Nat → Int32) : Nat → Int32 := fun x => if 60 ≤ x ∧ x < 204 ∧ (((x - 60) / 12 = n ∧ (x - 60) % 12 < i) ∨ ((x - 60) % 12 = n ∧ (x - 60) / 12 < i)) then 0 else h x
theorem does_L112 {h : Nat → Int32} (hg : h 204 = nI n) (hn : n < 12) (kf : (Nat → Int32) → Option (Int32 × (Nat → Int32))) : fX11_does_L112 1000000 kf 0 h = kf (zerB n 12 h) := by
  have key := upS (fun m i z => fX11_does_L112 m kf (nI i) z) (fun i => zerB n i h) 12 (kf (zerB n 12 h)) (fun m => ?_) (fun m i hi => ?_) 1000000 (by omega)
  · have e0 : zerB n 0 h = h := funext fun s => if_neg (by omega)
    simp only [e0] at key
    exact key
  · show fX11_does_L112 (m + 1) kf (nI 12) _ = _
    rw [fX11_does_L112, if_pos (show (12 : Int32) ≤ nI 12 by decide)]
  · show fX11_does_L112 (m + 1) kf (nI i) (zerB n i h) = fX11_does_L112 m kf (nI (i + 1)) (zerB n (i + 1) h)
    have e4 : zerB n i h 204 = nI n := by unfold zerB; rw [if_neg (by omega)]; exact hg
    have e1 : ((60 : Int32) + ((12 : Int32) * nI n)) + nI i = nI (60 + 12 * n + i) := by rw [show (12 : Int32) = nI 12 from rfl, pk_mul, show (60 : Int32) = nI 60 from rfl, nI_add, nI_add]
    have e2 : ((60 : Int32) + ((12 : Int32) * nI i)) + nI n = nI (60 + 12 * i + n) := by rw [show (12 : Int32) = nI 12 from rfl, pk_mul, show (60 : Int32) = nI 60 from rfl, nI_add, nI_add]
    have e5 : upd (zerB n i h) (60 + 12 * n + i) 0 204 = nI n := by rw [pk_un (by omega)]; exact e4
    rw [fX11_does_L112, if_neg (ge12 hi), k204, e4, e1, if_pos ((inR_nI (by omega)).mpr (by omega)), nI_clamp (show 60 + 12 * n + i < 2 ^ 31 by omega), e5, e2, if_pos ((inR_nI (by omega)).mpr (by omega)), nI_clamp (by omega), nI_1]
    congr 1
    funext j
    by_cases d1 : j = 60 + 12 * i + n
    · subst d1
      rw [pk_us]
      unfold zerB
      rw [if_pos (by omega)]
    · rw [pk_un d1]
      by_cases d2 : j = 60 + 12 * n + i
      · subst d2
        rw [pk_us]
        unfold zerB
        rw [if_pos (by omega)]
      · rw [pk_un d2]
        unfold zerB
        by_cases d3 : 60 ≤ j ∧ j < 204 ∧ (((j - 60) / 12 = n ∧ (j - 60) % 12 < i) ∨ ((j - 60) % 12 = n ∧ (j - 60) / 12 < i))
        · rw [if_pos d3, if_pos (by omega)]
        · rw [if_neg d3, if_neg (by omega)]
/-- the map with a unit more -/
theorem wm_unit {g' : Nat → Int32} {a b : Nat} {c co cores' : Int32} (hR : MapR g n pop area com outer nb len cores) (hW : MapW g n) (hX : MapX n len nb cores) (hn : n < 12) (ha : 1 ≤ a ∧ a ≤ 99) (hb : 1 ≤ b ∧ b ≤ 99) (hc : c = -1 ∨ ∃ d, d < 4 ∧ c = nI d) (hco : co = 0 ∨ co = 1)
    (g0 : g' 204 = nI (n + 1)) (g1 : g' (5 * n) = nI a ∧ g' (5 * n + 1) = nI b ∧ g' (5 * n + 2) = c ∧ g' (5 * n + 3) = co ∧ g' (5 * n + 4) = 0) (g2 : ∀ x, x < 5 * n → g' x = g x) (g3 : ∀ u v, u < n → v < n → gB g' u v = gB g u v) (g4 : ∀ v, v < 12 → gB g' n v = 0 ∧ gB g' v n = 0) (g5 : ∀ v, pbit cores' v = if v = n then decide (co ≠ 0) else pbit cores v) : WM g' (upd area n (nI b)) (upd com n c) cores' len nb (upd outer n 0) (upd pop n (nI a)) (nI n + 1) := by
  refine ⟨n + 1, nI_1 n, ⟨g0, hn, fun u hu => ?_, fun u v hu hv => ?_, fun u hu => ?_⟩, ⟨fun u hu => ?_, fun u v hu hv => ?_⟩, ⟨fun u v hu hv h => hX.1 u v hu hv (by omega), fun u hu h12 => hX.2.1 u (by omega) h12, fun u hu => ?_⟩⟩
  · by_cases e : u = n
    · subst e
      rw [pk_us, pk_us, pk_us, pk_us, g1.1, g1.2.1, g1.2.2.1, g1.2.2.2.1, g1.2.2.2.2, g5, if_pos rfl]
      refine ⟨rfl, rfl, rfl, rfl, ?_⟩
      rcases hco with h | h <;> subst h <;> decide
    · rw [pk_un e, pk_un e, pk_un e, pk_un e, g5, if_neg e, g2 (5 * u) (by omega), g2 (5 * u + 1) (by omega), g2 (5 * u + 2) (by omega), g2 (5 * u + 3) (by omega), g2 (5 * u + 4) (by omega)]
      exact hR.2.2.1 u (by omega)
  · by_cases e : u = n
    · subst e
      rw [hX.1 u v (by omega) (by omega) (Or.inl (Nat.le_refl u)), (g4 v (by omega)).1]
    · by_cases e2 : v = n
      · subst e2
        rw [hX.1 u v (by omega) (by omega) (Or.inr (Nat.le_refl v)), (g4 u (by omega)).2]
      · rw [g3 u v (by omega) (by omega)]
        exact hR.len (by omega) (by omega)
  · unfold nbS
    by_cases e : u = n
    · subst e
      rw [hX.2.1 u (Nat.le_refl u) (by omega)]
      apply pbit_ext
      intro v _
      rw [pbit_0, pbit_mkS' (by omega)]
      by_cases hv : v < u + 1
      · rw [(g4 v (by omega)).1]; simp
      · rw [decide_eq_false hv]; rfl
    · rw [mkS_succ, (g4 u (by omega)).2, if_neg (by decide), or_0, hR.nb (by omega)]
      exact mkS_congr fun v hv => by rw [g3 u v (by omega) hv]
  · by_cases e : u = n
    · subst e
      rw [g1.1, g1.2.1, g1.2.2.1, g1.2.2.2.1, g1.2.2.2.2]
      exact ⟨⟨a, ha.1, ha.2, rfl⟩, ⟨b, hb.1, hb.2, rfl⟩, hc, hco, 0, by decide, rfl⟩
    · rw [g2 (5 * u) (by omega), g2 (5 * u + 1) (by omega), g2 (5 * u + 2) (by omega), g2 (5 * u + 3) (by omega), g2 (5 * u + 4) (by omega)]
      exact hW.1 u (by omega)
  · by_cases e : u = n
    · subst e
      exact ⟨0, by decide, (g4 v (by omega)).1, (g4 v (by omega)).2, fun _ => rfl⟩
    · by_cases e2 : v = n
      · subst e2
        exact ⟨0, by decide, (g4 u (by omega)).2, (g4 u (by omega)).1, fun _ => rfl⟩
      · rw [g3 u v (by omega) (by omega), g3 v u (by omega) (by omega)]
        exact hW.2 u v (by omega) (by omega)
  · rw [g5, if_neg (by omega)]
    exact hX.2.2 u (by omega)
end DO
