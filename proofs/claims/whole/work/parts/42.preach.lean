/-! what a set's lowest unit reaches -/
def lowS (s : Int32) : Int32 := s &&& (-s)
def cntB (r : Int32) : Nat → Nat
  | 0 => 0
  | n + 1 => cntB r n + if pbit r n then 1 else 0
theorem cntB_le (r : Int32) : ∀ n, cntB r n ≤ n
  | 0 => Nat.le_refl 0
  | n + 1 => by
    have := cntB_le r n
    rw [cntB]
    split <;> omega
theorem cntB_mono {x z : Int32} (h : ∀ u, pbit x u = true → pbit z u = true) : ∀ n, cntB x n ≤ cntB z n
  | 0 => Nat.le_refl 0
  | n + 1 => by
    have := cntB_mono h n
    rw [cntB, cntB]
    by_cases hb : pbit x n = true
    · rw [if_pos hb, if_pos (h n hb)]; omega
    · rw [if_neg hb]; omega
theorem cntB_lt {x z : Int32} (h : ∀ u, pbit x u = true → pbit z u = true) {v : Nat} (hz : pbit z v = true) (hx : pbit x v = false) : ∀ n, v < n → cntB x n < cntB z n
  | 0, h0 => by omega
  | n + 1, h0 => by
    rw [cntB, cntB]
    by_cases e : v = n
    · subst e
      have := cntB_mono h v
      rw [if_neg (by rw [hx]; decide), if_pos hz]; omega
    · have := cntB_lt h hz hx n (by omega)
      by_cases hb : pbit x n = true
      · rw [if_pos hb, if_pos (h n hb)]; omega
      · rw [if_neg hb]; omega
theorem ne_bit {x z : Int32} (h : ∀ u, pbit x u = true → pbit z u = true) (hne : z ≠ x) : ∃ v, pbit z v = true ∧ pbit x v = false := by
  refine Classical.byContradiction fun hc => hne (pbit_ext fun u _ => ?_)
  cases hx : pbit x u with
  | true => exact h u hx
  | false =>
    cases hz : pbit z u with
    | false => rfl
    | true => exact absurd ⟨u, hz, hx⟩ hc
theorem cntB_pos {x : Int32} {v n : Nat} (h : pbit x v = true) (hv : v < n) : 1 ≤ cntB x n := by
  have h0 : cntB 0 n = 0 := by
    clear hv
    induction n with
    | zero => rfl
    | succ n ih => rw [cntB, ih, pbit_0]; rfl
  have := cntB_lt (x := 0) (z := x) (fun u hu => by rw [pbit_0] at hu; cases hu) h (pbit_0 v) n hv
  omega
def IsReach (n : Nat) (nb : Nat → Int32) (set r : Int32) : Prop :=
  (∀ v, pbit (lowS set) v = true → pbit r v = true) ∧
  (∀ u v, u < n → pbit r u = true → pbit (nb u) v = true → pbit set v = true → pbit r v = true) ∧
  (∀ c : Nat → Prop, (∀ v, pbit (lowS set) v = true → c v) → (∀ u v, u < n → c u → pbit (nb u) v = true → pbit set v = true → c v) → ∀ v, pbit r v = true → c v)
theorem IsReach_unique {n : Nat} {nb : Nat → Int32} {set r r' : Int32} (h : IsReach n nb set r) (h' : IsReach n nb set r') : r = r' := by
  apply pbit_ext
  intro u _
  rw [Bool.eq_iff_iff]
  exact ⟨fun q => h.2.2 (fun v => pbit r' v = true) h'.1 h'.2.1 u q, fun q => h'.2.2 (fun v => pbit r v = true) h.1 h.2.1 u q⟩
theorem IsReach_congr {n : Nat} {nb nb' : Nat → Int32} {set r : Int32} (e : ∀ u, u < n → nb u = nb' u) (h : IsReach n nb set r) : IsReach n nb' set r :=
  ⟨h.1, fun u v hu h1 h2 h3 => h.2.1 u v hu h1 (by rw [e u hu]; exact h2) h3, fun c h1 h2 v hv => h.2.2 c h1 (fun u v hu a b d => h2 u v hu a (by rw [← e u hu]; exact b) d) v hv⟩
/-- one round, in place -/
def asyR (nb : Nat → Int32) (set r : Int32) : Nat → Int32
  | 0 => r
  | i + 1 => if pbit (asyR nb set r i) i then asyR nb set r i ||| (nb i &&& set) else asyR nb set r i
theorem asyR_grow {nb : Nat → Int32} {set r : Int32} {v : Nat} : ∀ {i j : Nat}, i ≤ j → pbit (asyR nb set r i) v = true → pbit (asyR nb set r j) v = true := by
  intro i j hij h
  induction j with
  | zero =>
    have : i = 0 := by omega
    subst this; exact h
  | succ j ih =>
    by_cases e : i = j + 1
    · subst e; exact h
    · have := ih (by omega)
      rw [asyR]
      split
      · rw [pbit_or, this]; rfl
      · exact this
theorem asyR_step {nb : Nat → Int32} {set r : Int32} {u v n : Nat} (hu : u < n) (h : pbit r u = true) (h2 : pbit (nb u) v = true) (h3 : pbit set v = true) : pbit (asyR nb set r n) v = true := by
  refine asyR_grow (i := u + 1) (by omega) ?_
  have h1 : pbit (asyR nb set r u) u = true := asyR_grow (i := 0) (by omega) h
  rw [asyR, if_pos h1, pbit_or, pbit_and, h2, h3]
  simp
theorem asyR_in {nb : Nat → Int32} {set r : Int32} {n : Nat} {c : Nat → Prop} (h0 : ∀ v, pbit r v = true → c v) (h1 : ∀ u v, u < n → c u → pbit (nb u) v = true → pbit set v = true → c v) : ∀ i, i ≤ n → ∀ v, pbit (asyR nb set r i) v = true → c v
  | 0, _, v, hv => h0 v hv
  | i + 1, hi, v, hv => by
    rw [asyR] at hv
    split at hv
    · rename_i hb
      rw [pbit_or, pbit_and, Bool.or_eq_true, Bool.and_eq_true] at hv
      rcases hv with hv | hv
      · exact asyR_in h0 h1 i (by omega) v hv
      · exact h1 i v (by omega) (asyR_in h0 h1 i (by omega) i hb) hv.1 hv.2
    · exact asyR_in h0 h1 i (by omega) v hv
theorem asyR_set {nb : Nat → Int32} {set r : Int32} (h0 : ∀ v, pbit r v = true → pbit set v = true) : ∀ i v, pbit (asyR nb set r i) v = true → pbit set v = true
  | 0, v, hv => h0 v hv
  | i + 1, v, hv => by
    rw [asyR] at hv
    split at hv
    · rw [pbit_or, pbit_and, Bool.or_eq_true, Bool.and_eq_true] at hv
      rcases hv with hv | hv
      · exact asyR_set h0 i v hv
      · exact hv.2
    · exact asyR_set h0 i v hv
theorem pX9_reach_L19 {nb : Nat → Int32} {n : Nat} {set a b : Int32} (hn : n ≤ 12) (kf : Int32 → Option Int32) (r : Int32) : fX9_reach_L19 nb (nI n) set a b 1000000 kf r 0 = kf (asyR nb set r n) := by
  refine upS (fun m i s => fX9_reach_L19 nb (nI n) set a b m kf s (nI i)) (fun i => asyR nb set r i) n _ (fun m => ?_) (fun m i hi => ?_) 1000000 (by omega)
  · show fX9_reach_L19 nb (nI n) set a b (m + 1) kf _ (nI n) = _
    rw [fX9_reach_L19, if_pos (nI_leS n (by omega))]
  · show fX9_reach_L19 nb (nI n) set a b (m + 1) kf _ (nI i) = fX9_reach_L19 nb (nI n) set a b m kf (asyR nb set r (i + 1)) (nI (i + 1))
    rw [fX9_reach_L19, if_neg (nI_ge hi (by omega)), nI_1]
    cases hb : pbit (asyR nb set r i) i with
    | true => rw [if_neg (by rw [shr_eq0 _ (by omega), hb]; decide), if_pos ((inR_nI (by omega)).mpr (by omega)), nI_clamp (by omega), asyR, if_pos hb]
    | false => rw [if_pos ((shr_eq0 _ (by omega)).mpr hb), asyR, if_neg (by rw [hb]; decide)]
theorem lowS_sub {set : Int32} {v : Nat} (h : pbit (lowS set) v = true) : pbit set v = true := by
  unfold lowS at h
  rw [pbit_and, Bool.and_eq_true] at h
  exact h.1
theorem pX9_reach_ex {nb : Nat → Int32} {n : Nat} {set : Int32} (hn : n ≤ 12) (hs : ∀ v, pbit set v = true → v < 12) : ∃ r, fX9_reach nb (nI n) set = some r ∧ IsReach n nb set r := by
  rw [fX9_reach]
  have key : ∀ (d i m : Nat) (x : Int32), i + d = 12 → d < m → (∀ v, pbit (lowS set) v = true → pbit x v = true) → (∀ v, pbit x v = true → pbit set v = true) → (∀ c : Nat → Prop, (∀ v, pbit (lowS set) v = true → c v) → (∀ u v, u < n → c u → pbit (nb u) v = true → pbit set v = true → c v) → ∀ v, pbit x v = true → c v) → (i = 0 ∨ i + 1 ≤ cntB x 12) → ∃ r, fX9_reach_L7 nb (nI n) set m (fun z => some z) x (nI i) = some r ∧ IsReach n nb set r := by
    intro d
    induction d with
    | zero =>
      intro i m x hi _ _ _ _ h4
      have := cntB_le x 12
      omega
    | succ d ih =>
      intro i m x hi hm h1 h2 h3 h4
      obtain ⟨m, rfl⟩ : ∃ q, m = q + 1 := ⟨m - 1, by omega⟩
      rw [fX9_reach_L7, if_neg (ge12 (by omega)), pX9_reach_L19 hn]
      by_cases e : asyR nb set x n = x
      · rw [if_pos e, e]
        refine ⟨x, rfl, h1, fun u v hu a b c => ?_, h3⟩
        rw [← e]
        exact asyR_step hu a b c
      · rw [if_neg e, nI_1]
        have hg : ∀ u, pbit x u = true → pbit (asyR nb set x n) u = true := fun u hu => asyR_grow (i := 0) (by omega) hu
        have hz : ∀ v, pbit (asyR nb set x n) v = true → pbit set v = true := fun v hv => asyR_set h2 n v hv
        obtain ⟨v, v1, v2⟩ := ne_bit hg e
        have hlt := cntB_lt hg v1 v2 12 (hs v (hz v v1))
        refine ih (i + 1) m _ (by omega) (by omega) (fun v hv => hg v (h1 v hv)) hz (fun c c1 c2 v hv => asyR_in (fun v hv => h3 c c1 c2 v hv) c2 n (Nat.le_refl n) v hv) (Or.inr ?_)
        rcases h4 with h4 | h4
        · subst h4
          have : 1 ≤ cntB x 12 := by
            refine Classical.byContradiction fun hc => e ?_
            have hx0 : ∀ u, pbit x u = false := fun u => by
              cases hu : pbit x u with
              | false => rfl
              | true => exact absurd (cntB_pos hu (hs u (h2 u hu))) hc
            apply pbit_ext
            intro w _
            rw [hx0 w]
            cases hw : pbit (asyR nb set x n) w with
            | false => rfl
            | true => exact (asyR_in (n := n) (c := fun _ => False) (fun v hv => by rw [hx0 v] at hv; cases hv) (fun _ _ _ h _ _ => h) n (Nat.le_refl n) w hw).elim
          omega
        · omega
  exact key 12 0 1000000 _ rfl (by omega) (fun v hv => hv) (fun v hv => lowS_sub hv) (fun c c1 c2 v hv => c1 v hv) (Or.inl rfl)
/-- what is reached -/
def reachS (n : Nat) (nb : Nat → Int32) (set : Int32) : Int32 := (fX9_reach nb (nI n) set).getD 0
theorem pX9_reach {nb : Nat → Int32} {n : Nat} {set : Int32} (hn : n ≤ 12) (hs : ∀ v, pbit set v = true → v < 12) : fX9_reach nb (nI n) set = some (reachS n nb set) := by
  obtain ⟨r, h, _⟩ := pX9_reach_ex (nb := nb) hn hs
  unfold reachS
  rw [h]; rfl
theorem reachS_is {nb : Nat → Int32} {n : Nat} {set : Int32} (hn : n ≤ 12) (hs : ∀ v, pbit set v = true → v < 12) : IsReach n nb set (reachS n nb set) := by
  obtain ⟨r, h, h2⟩ := pX9_reach_ex (nb := nb) hn hs
  unfold reachS
  rw [h]; exact h2
theorem reachS_congr {nb nb' : Nat → Int32} {n : Nat} {set : Int32} (hn : n ≤ 12) (hs : ∀ v, pbit set v = true → v < 12) (e : ∀ u, u < n → nb u = nb' u) : reachS n nb set = reachS n nb' set :=
  IsReach_unique (IsReach_congr e (reachS_is hn hs)) (reachS_is hn hs)
theorem reachS_sub {nb : Nat → Int32} {n : Nat} {set : Int32} (hn : n ≤ 12) (hs : ∀ v, pbit set v = true → v < 12) {v : Nat} (h : pbit (reachS n nb set) v = true) : pbit set v = true :=
  (reachS_is hn hs).2.2 (fun v => pbit set v = true) (fun _ hv => lowS_sub hv) (fun _ _ _ _ _ h => h) v h
theorem pX9_isContiguous {nb : Nat → Int32} {n : Nat} {set : Int32} (hn : n ≤ 12) (hs : ∀ v, pbit set v = true → v < 12) : fX9_isContiguous nb (nI n) set = some (if reachS n nb set = set then 1 else 0) := by
  rw [fX9_isContiguous, pX9_reach hn hs, bind_s]
  split <;> rfl
