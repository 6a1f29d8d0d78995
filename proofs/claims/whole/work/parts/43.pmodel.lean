/-! the reference's own numbers -/
theorem k204 : (204 : Int32).toNatClampNeg = 204 := by decide
theorem k205 : (205 : Int32).toNatClampNeg = 205 := by decide
theorem k206 : (206 : Int32).toNatClampNeg = 206 := by decide
theorem k219 : (219 : Int32).toNatClampNeg = 219 := by decide
theorem in_neg {x : Int32} {n : Nat} (h : ¬ inR x n) (hn : n < 2 ^ 31) : x < 0 ∨ nI n ≤ x := by
  rw [Int32.lt_iff_toInt_lt, Int32.le_iff_toInt_le, nI_toInt hn]
  have : (0 : Int32).toInt = 0 := by decide
  rw [this]
  by_cases h0 : x.toInt < 0
  · exact Or.inl h0
  · refine Or.inr ?_
    refine Classical.byContradiction fun h1 => h ⟨by omega, by omega⟩
theorem pX11_inN {x : Int32} {n : Nat} (h0 : 0 < n) (hn : n < 2 ^ 31) : fX11_in x 0 (nI n - 1) = some (if inR x n then 1 else 0) := by
  rw [fX11_in]
  have e : nI n - 1 = nI (n - 1) := by
    obtain ⟨m, rfl⟩ : ∃ m, n = m + 1 := ⟨n - 1, by omega⟩
    exact nI_pred m
  rw [e]
  by_cases h : inR x n
  · obtain ⟨j, h1, rfl⟩ := inR_of h hn
    rw [if_pos h, if_neg (nI_pos (by omega)), if_neg (nI_nlt (by omega) (by omega))]
  · rw [if_neg h]
    rcases in_neg h hn with q | q
    · rw [if_pos q]
    · by_cases h0' : x < 0
      · rw [if_pos h0']
      · rw [if_neg h0', if_pos]
        obtain ⟨j, hj, rfl⟩ := nI_of h0'
        have := (nI_leI (by omega) (by omega)).mp q
        exact nI_lt (by omega) (by omega)
theorem pX11_in0 {x : Int32} : fX11_in x 0 (nI 0 - 1) = some 0 := by
  rw [fX11_in]
  by_cases h : x < 0
  · rw [if_pos h]
  · rw [if_neg h, if_pos]
    obtain ⟨j, hj, rfl⟩ := nI_of h
    have : (nI 0 - 1 : Int32) < 0 := by decide
    rw [Int32.lt_iff_toInt_lt] at this ⊢
    rw [nI_toInt hj]
    have : (0 : Int32).toInt = 0 := by decide
    omega
theorem not_in0 {x : Int32} : ¬ inR x 0 := fun h => by have := h.1; have := h.2; omega
theorem isB01 {c : Prop} [Decidable c] : isB (if c then (1 : Int32) else 0) := by
  split
  · exact Or.inr rfl
  · exact Or.inl rfl
theorem pX11_isUnit {g : Nat → Int32} {n : Nat} (hg : g 204 = nI n) (hn : n < 2 ^ 31) (x : Int32) : fX11_isUnit g x = some (if inR x n then 1 else 0) := by
  rw [fX11_isUnit, k204, hg]
  rcases Nat.eq_zero_or_pos n with h | h
  · subst h
    rw [pX11_in0, bind_s, if_neg not_in0, if_pos (Or.inl rfl)]
  · rw [pX11_inN h hn, bind_s, if_pos isB01]
theorem pX11_isDistrict {g : Nat → Int32} {k : Nat} (hg : g 205 = nI k) (hk : k < 2 ^ 31) (x : Int32) : fX11_isDistrict g x = some (if inR x k then 1 else 0) := by
  rw [fX11_isDistrict, k205, hg]
  rcases Nat.eq_zero_or_pos k with h | h
  · subst h
    rw [pX11_in0, bind_s, if_neg not_in0, if_pos (Or.inl rfl)]
  · rw [pX11_inN h hk, bind_s, if_pos isB01]
theorem pX11_of {g : Nat → Int32} {u w : Nat} (hu : u < 12) (hw : w < 5) : fX11_of g (nI u) (nI w) = some (g (5 * u + w)) := by
  rw [fX11_of]
  have e : ((0 : Int32) + (5 : Int32) * nI u) + nI w = nI (5 * u + w) := by rw [show (5 : Int32) = nI 5 from rfl, pk_mul, show (0 : Int32) = nI 0 from rfl, nI_add, nI_add]; congr 1; omega
  rw [e, if_pos ((inR_nI (by omega)).mpr (by omega)), nI_clamp (by omega)]
/-- a border's length -/
abbrev gB (g : Nat → Int32) (u v : Nat) : Int32 := g (60 + 12 * u + v)
theorem pX11_borderOf {g : Nat → Int32} {u v : Nat} (hu : u < 12) (hv : v < 12) : fX11_borderOf g (nI u) (nI v) = some (gB g u v) := by
  rw [fX11_borderOf]
  have e : ((60 : Int32) + (12 : Int32) * nI u) + nI v = nI (60 + 12 * u + v) := by rw [show (12 : Int32) = nI 12 from rfl, pk_mul, show (60 : Int32) = nI 60 from rfl, nI_add, nI_add]
  rw [e, if_pos ((inR_nI (by omega)).mpr (by omega)), nI_clamp (by omega)]
/-- a unit's neighbors -/
def nbS (n : Nat) (g : Nat → Int32) (u : Nat) : Int32 := mkS n (fun v => decide (0 < gB g u v))
theorem lt_nle (a b : Int32) : a < b ↔ ¬ b ≤ a := by
  rw [Int32.le_iff_toInt_le, Int32.lt_iff_toInt_lt]; omega
theorem pX11_neighbors {g : Nat → Int32} {n u : Nat} (hg : g 204 = nI n) (hn : n ≤ 12) (hu : u < 12) : fX11_neighbors g (nI u) = some (nbS n g u) := by
  rw [fX11_neighbors]
  refine upS (fun m i s => fX11_neighbors_L4 g (nI u) m (fun z => some z) s (nI i)) (fun i => mkS i (fun v => decide (0 < gB g u v))) n _ (fun m => ?_) (fun m i hi => ?_) 1000000 (by omega)
  · show fX11_neighbors_L4 g (nI u) (m + 1) _ _ (nI n) = _
    rw [fX11_neighbors_L4, k204, hg, if_pos (nI_leS n (by omega))]; rfl
  · show fX11_neighbors_L4 g (nI u) (m + 1) _ _ (nI i) = fX11_neighbors_L4 g (nI u) m _ (mkS (i + 1) _) (nI (i + 1))
    rw [fX11_neighbors_L4, k204, hg, if_neg (nI_ge hi (by omega)), pX11_borderOf hu (by omega), bind_s, nI_1, mkS_succ]
    by_cases h : gB g u i ≤ 0
    · rw [if_pos h, decide_eq_false (by rw [lt_nle]; exact fun q => q h), if_neg ff]
    · rw [if_neg h, decide_eq_true (by rw [lt_nle]; exact h), if_pos rfl]
theorem pX11_all {g : Nat → Int32} {n : Nat} (hg : g 204 = nI n) : fX11_all g = some (allS n) := by rw [fX11_all, k204, hg]; rfl
theorem pX11_sum {g : Nat → Int32} {n w : Nat} {set : Int32} (hg : g 204 = nI n) (hn : n ≤ 12) (hw : w < 5) : fX11_sum g set (nI w) = some (ssum n set (fun u => g (5 * u + w))) := by
  rw [fX11_sum]
  refine upS (fun m i s => fX11_sum_L5 g set (nI w) m (fun z => some z) s (nI i)) (fun i => ssum i set (fun u => g (5 * u + w))) n _ (fun m => ?_) (fun m i hi => ?_) 1000000 (by omega)
  · show fX11_sum_L5 g set (nI w) (m + 1) _ _ (nI n) = _
    rw [fX11_sum_L5, k204, hg, if_pos (nI_leS n (by omega))]
  · show fX11_sum_L5 g set (nI w) (m + 1) _ _ (nI i) = fX11_sum_L5 g set (nI w) m _ (ssum i set (fun u => g (5 * u + w)) + if pbit set i then g (5 * i + w) else 0) (nI (i + 1))
    rw [fX11_sum_L5, k204, hg, if_neg (nI_ge hi (by omega)), nI_1]
    cases hb : pbit set i with
    | true => rw [if_pos ((shr_eq1 _ (by omega)).mpr hb), pX11_of (by omega) hw, bind_s, if_pos rfl]
    | false => rw [if_neg (by rw [shr_eq1 _ (by omega), hb]; decide), if_neg ff]
/-- a synchronous round -/
def synR (n : Nat) (nb : Nat → Int32) (set had : Int32) : Int32 := had ||| orI n (fun u => if pbit had u then nb u &&& set else 0)
theorem or_assoc3 (a b c : Int32) : (a ||| b) ||| c = a ||| (b ||| c) := by
  apply pbit_ext; intro u _; simp only [pbit_or, Bool.or_assoc]
theorem pX11_reached_L17 {g : Nat → Int32} {n : Nat} {set had : Int32} (hg : g 204 = nI n) (hn : n ≤ 12) (kf : Int32 → Option Int32) : fX11_reached_L17 g set had 1000000 kf had 0 = kf (synR n (nbS n g) set had) := by
  have h := upS (fun m i s => fX11_reached_L17 g set had m kf s (nI i)) (fun i => had ||| orI i (fun u => if pbit had u then nbS n g u &&& set else 0)) n (kf (synR n (nbS n g) set had)) (fun m => ?_) (fun m i hi => ?_) 1000000 (by omega)
  · have e : had ||| orI 0 (fun u => if pbit had u then nbS n g u &&& set else 0) = had := or_0 had
    simp only [e] at h
    exact h
  · show fX11_reached_L17 g set had (m + 1) kf _ (nI n) = _
    rw [fX11_reached_L17, k204, hg, if_pos (nI_leS n (by omega))]; rfl
  · show fX11_reached_L17 g set had (m + 1) kf _ (nI i) = fX11_reached_L17 g set had m kf (had ||| (orI i _ ||| (if pbit had i then nbS n g i &&& set else 0))) (nI (i + 1))
    rw [fX11_reached_L17, k204, hg, if_neg (nI_ge hi (by omega)), nI_1, ← or_assoc3]
    cases hb : pbit had i with
    | true => rw [if_pos ((shr_eq1 _ (by omega)).mpr hb), pX11_neighbors hg hn (by omega), bind_s, if_pos rfl]
    | false => rw [if_neg (by rw [shr_eq1 _ (by omega), hb]; decide), if_neg ff]
theorem pbit_synR {n : Nat} {nb : Nat → Int32} {set had : Int32} {v : Nat} : pbit (synR n nb set had) v = true ↔ pbit had v = true ∨ ∃ u, u < n ∧ pbit had u = true ∧ pbit (nb u) v = true ∧ pbit set v = true := by
  unfold synR
  rw [pbit_or, Bool.or_eq_true, pbit_orI]
  constructor
  · rintro (h | ⟨u, h1, h2⟩)
    · exact Or.inl h
    · refine Or.inr ⟨u, h1, ?_⟩
      cases hb : pbit had u with
      | false => rw [hb, if_neg ff, pbit_0] at h2; cases h2
      | true =>
        rw [hb, if_pos rfl, pbit_and, Bool.and_eq_true] at h2
        exact ⟨rfl, h2.1, h2.2⟩
  · rintro (h | ⟨u, h1, h2, h3, h4⟩)
    · exact Or.inl h
    · exact Or.inr ⟨u, h1, by rw [h2, if_pos rfl, pbit_and, h3, h4]; rfl⟩
theorem pX11_reached_ex {g : Nat → Int32} {n : Nat} {set : Int32} (hg : g 204 = nI n) (hn : n ≤ 12) : ∃ r, fX11_reached g set = some r ∧ IsReach n (nbS n g) set r := by
  rw [fX11_reached]
  have key : ∀ (d m : Nat) (x y : Int32), 33 ≤ cntB y 32 + d → d < m → (∀ v, pbit y v = true → pbit x v = true) → (∀ v, pbit (lowS set) v = true → pbit x v = true) → (∀ u v, u < n → pbit y u = true → pbit (nbS n g u) v = true → pbit set v = true → pbit x v = true) → (∀ c : Nat → Prop, (∀ v, pbit (lowS set) v = true → c v) → (∀ u v, u < n → c u → pbit (nbS n g u) v = true → pbit set v = true → c v) → ∀ v, pbit x v = true → c v) → ∃ r, fX11_reached_L7 g set m (fun z => some z) x y = some r ∧ IsReach n (nbS n g) set r := by
    intro d
    induction d with
    | zero =>
      intro m x y h0
      have := cntB_le y 32
      omega
    | succ d ih =>
      intro m x y h0 hm h1 h2 h3 h4
      obtain ⟨m, rfl⟩ : ∃ q, m = q + 1 := ⟨m - 1, by omega⟩
      rw [fX11_reached_L7]
      by_cases e : x = y
      · subst e
        rw [if_pos rfl]
        exact ⟨x, rfl, h2, h3, h4⟩
      · rw [if_neg e, pX11_reached_L17 hg hn]
        obtain ⟨v, v1, v2⟩ := ne_bit h1 e
        have hlt := cntB_lt h1 v1 v2 32 (pbit_lt v1)
        refine ih m _ x (by omega) (by omega) (fun v hv => pbit_synR.mpr (Or.inl hv)) (fun v hv => pbit_synR.mpr (Or.inl (h2 v hv))) (fun u v hu a b c => pbit_synR.mpr (Or.inr ⟨u, hu, a, b, c⟩)) (fun c c1 c2 v hv => ?_)
        rcases pbit_synR.mp hv with hv | ⟨u, hu, a, b, d⟩
        · exact h4 c c1 c2 v hv
        · exact c2 u v hu (h4 c c1 c2 u a) b d
  refine key 40 1000000 _ 0 (by omega) (by omega) (fun v hv => by rw [pbit_0] at hv; cases hv) (fun v hv => hv) (fun u v _ hv => by rw [pbit_0] at hv; cases hv) (fun c c1 c2 v hv => c1 v hv)
theorem pX11_reached {g : Nat → Int32} {n : Nat} {set : Int32} (hg : g 204 = nI n) (hn : n ≤ 12) (hs : ∀ v, pbit set v = true → v < 12) : fX11_reached g set = some (reachS n (nbS n g) set) := by
  obtain ⟨r, h1, h2⟩ := pX11_reached_ex (set := set) hg hn
  rw [h1, IsReach_unique h2 (reachS_is hn hs)]
theorem pX11_set {g plan : Nat → Int32} {n : Nat} {d : Int32} (hg : g 204 = nI n) (hn : n ≤ 12) : fX11_set g plan d = some (mkS n (fun u => decide (plan u = d))) := by
  rw [fX11_set]
  refine upS (fun m i s => fX11_set_L4 g plan d m (fun z => some z) s (nI i)) (fun i => mkS i (fun u => decide (plan u = d))) n _ (fun m => ?_) (fun m i hi => ?_) 1000000 (by omega)
  · show fX11_set_L4 g plan d (m + 1) _ _ (nI n) = _
    rw [fX11_set_L4, k204, hg, if_pos (nI_leS n (by omega))]
  · show fX11_set_L4 g plan d (m + 1) _ _ (nI i) = fX11_set_L4 g plan d m _ (mkS (i + 1) _) (nI (i + 1))
    rw [fX11_set_L4, k204, hg, if_neg (nI_ge hi (by omega)), nI_1, mkS_succ, if_pos ((inR_nI (by omega)).mpr (by omega)), nI_clamp (by omega)]
    by_cases h : plan i = d
    · rw [if_pos h, decide_eq_true h, if_pos rfl]
    · rw [if_neg h, decide_eq_false h, if_neg ff]
theorem ite_some {α : Type _} {c : Prop} [Decidable c] (a b : α) : (if c then some a else some b) = some (if c then a else b) := by split <;> rfl
theorem zero_sub' (x : Int32) : 0 - x = -x := by simp
theorem pX11_off {g plan : Nat → Int32} {n : Nat} {d : Int32} (hg : g 204 = nI n) (hn : n ≤ 12) : fX11_off g plan d = some (offS n (g 205) (fun u => g (5 * u)) (mkS n (fun u => decide (plan u = d)))) := by
  rw [fX11_off, pX11_set hg hn, bind_s, show (0 : Int32) = nI 0 from rfl, pX11_sum hg hn (by omega), bind_s, pX11_all hg, bind_s, pX11_sum hg hn (by omega), bind_s, ssum_all hn, k205]
  unfold offS
  rw [← zero_sub', show nI 0 = (0 : Int32) from rfl]
  exact ite_some _ _
