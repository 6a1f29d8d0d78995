/-! possible: how many -/
section PS
variable {g P0 : Nat → Int32} {n k : Nat}
/-- the state of the count: number, detail, plan -/
def CR (P0 : Nat → Int32) (c : Int32) (s : Int32 × Int32 × (Nat → Int32)) : Prop := s.1 = c ∧ ∀ j, 12 ≤ j → s.2.2 j = P0 j
theorem pos_moves (hgk : g 205 = nI k) (hg : g 204 = nI n) (hn : n ≤ 12) (hk : k ≤ 4) (hP : tl g P0 = P0) (hp : PlanM n k P0) {u : Nat} (hu : u < n) (kf : Int32 → Int32 → (Nat → Int32) → Option (Int32 × Int32 × (Nat → Int32) × Int32)) (c : Int32) (s : Int32 × Int32 × (Nat → Int32)) (hs : CR P0 c s) :
    ∃ s' : Int32 × Int32 × (Nat → Int32), CR P0 (c + sumI k (fun d => mvC n k g P0 u d)) s' ∧ fX11_possible_L46 g 0 (nI u) 1000000 kf s.1 0 s.2.1 s.2.2 = kf s'.1 s'.2.1 s'.2.2 := by
  refine upI (fun m i (s : Int32 × Int32 × (Nat → Int32)) => fX11_possible_L46 g 0 (nI u) m kf s.1 (nI i) s.2.1 s.2.2) (fun s' => kf s'.1 s'.2.1 s'.2.2) (fun i s => CR P0 (c + sumI i (fun d => mvC n k g P0 u d)) s) 0 k (Nat.zero_le k) (fun m s _ => ?_) (fun m i s _ hi hI => ?_) 1000000 s (by omega) ?_
  · show fX11_possible_L46 g 0 (nI u) (m + 1) kf _ (nI k) _ _ = _
    rw [fX11_possible_L46, if_pos rfl, k205, hgk, if_pos (nI_leS k (by omega))]
  · obtain ⟨c0, dt, plan⟩ := s
    obtain ⟨i1, i2⟩ := hI
    have i1 : c0 = c + sumI i (fun d => mvC n k g P0 u d) := i1
    have i2 : ∀ j, 12 ≤ j → plan j = P0 j := i2
    show ∃ s', CR P0 (c + (sumI i _ + mvC n k g P0 u i)) s' ∧ fX11_possible_L46 g 0 (nI u) (m + 1) kf c0 (nI i) dt plan = _
    rw [fX11_possible_L46, if_pos rfl, k205, hgk, if_neg (nI_ge hi (by omega)), pX11_tells, bind_s, tl_same i2, hP, if_pos ((inR_nI (by omega)).mpr (by omega)), nI_clamp (by omega), nI_1, ← add_as, ← i1]
    unfold mvC
    by_cases e1 : P0 u = nI i
    · rw [if_pos e1, if_pos e1]
      exact ⟨(c0 + 0, dt, P0), ⟨rfl, fun _ _ => rfl⟩, rfl⟩
    · rw [if_neg e1, if_neg e1, pX11_moves hg hn hgk hk hp hu hi, bind_s]
      have hh : ∀ j, 12 ≤ j → (if nbrB n g P0 u (nI i) then upd P0 u (nI i) else P0) j = P0 j := fun j hj => by
        split
        · exact upd_hi (by omega) hj
        · rfl
      by_cases e3 : (moveS n k g P0 u i).1 = 0
      · rw [if_pos e3, if_pos e3]
        exact ⟨(c0 + 1, _, _), ⟨rfl, hh⟩, rfl⟩
      · rw [if_neg e3, if_neg e3]
        exact ⟨(c0 + 0, _, _), ⟨rfl, hh⟩, rfl⟩
  · obtain ⟨i1, i2⟩ := hs
    exact ⟨i1.trans (add_0 c).symm, i2⟩
theorem pos_swaps (hgk : g 205 = nI k) (hg : g 204 = nI n) (hn : n ≤ 12) (hk : k ≤ 4) (hP : tl g P0 = P0) (hp : PlanM n k P0) {u : Nat} (hu : u < n) {x : Int32} (hx : ¬ x = 0) (kf : Int32 → Int32 → (Nat → Int32) → Option (Int32 × Int32 × (Nat → Int32) × Int32)) (c : Int32) (s : Int32 × Int32 × (Nat → Int32)) (hs : CR P0 c s) :
    ∃ s' : Int32 × Int32 × (Nat → Int32), CR P0 (c + sumI n (fun v => swC n k g P0 u v)) s' ∧ fX11_possible_L46 g x (nI u) 1000000 kf s.1 (nI (u + 1)) s.2.1 s.2.2 = kf s'.1 s'.2.1 s'.2.2 := by
  have z1 : ∀ i, i ≤ u + 1 → sumI i (fun v => swC n k g P0 u v) = 0 := fun i hi => sumI_zero (fun v hv => if_neg (by omega))
  refine upI (fun m i (s : Int32 × Int32 × (Nat → Int32)) => fX11_possible_L46 g x (nI u) m kf s.1 (nI i) s.2.1 s.2.2) (fun s' => kf s'.1 s'.2.1 s'.2.2) (fun i s => CR P0 (c + sumI i (fun v => swC n k g P0 u v)) s) (u + 1) n (by omega) (fun m s _ => ?_) (fun m i s hui hi hI => ?_) 1000000 s (by omega) ?_
  · show fX11_possible_L46 g x (nI u) (m + 1) kf _ (nI n) _ _ = _
    rw [fX11_possible_L46, if_neg hx, k204, hg, if_pos (nI_leS n (by omega))]
  · obtain ⟨c0, dt, plan⟩ := s
    obtain ⟨i1, i2⟩ := hI
    have i1 : c0 = c + sumI i (fun v => swC n k g P0 u v) := i1
    have i2 : ∀ j, 12 ≤ j → plan j = P0 j := i2
    show ∃ s', CR P0 (c + (sumI i _ + swC n k g P0 u i)) s' ∧ fX11_possible_L46 g x (nI u) (m + 1) kf c0 (nI i) dt plan = _
    rw [fX11_possible_L46, if_neg hx, k204, hg, if_neg (nI_ge hi (by omega)), pX11_tells, bind_s, tl_same i2, hP, if_pos ((inR_nI (by omega)).mpr (by omega)), if_pos ((inR_nI (by omega)).mpr (by omega)), nI_clamp (by omega), nI_clamp (by omega), nI_1, ← add_as, ← i1]
    unfold swC
    rw [if_pos (show u < i by omega)]
    by_cases e1 : P0 u = P0 i
    · rw [if_pos e1, if_pos e1]
      exact ⟨(c0 + 0, dt, P0), ⟨rfl, fun _ _ => rfl⟩, rfl⟩
    · rw [if_neg e1, if_neg e1, pX11_swaps hg hn hgk hk hp hu hi, bind_s]
      have hh : ∀ j, 12 ≤ j → (if swapB n g P0 u i then upd (upd P0 u (P0 i)) i (P0 u) else P0) j = P0 j := fun j hj => by
        split
        · exact (upd_hi (by omega) hj).trans (upd_hi (by omega) hj)
        · rfl
      by_cases e3 : (swapS n k g P0 u i).1 = 0
      · rw [if_pos e3, if_pos e3]
        exact ⟨(c0 + 1, _, _), ⟨rfl, hh⟩, rfl⟩
      · rw [if_neg e3, if_neg e3]
        exact ⟨(c0 + 0, _, _), ⟨rfl, hh⟩, rfl⟩
  · obtain ⟨i1, i2⟩ := hs
    exact ⟨i1.trans (by rw [z1 _ (Nat.le_refl _)]; exact (add_0 c).symm), i2⟩
theorem pX11_possible {plan : Nat → Int32} {dt x : Int32} (hgk : g 205 = nI k) (hg : g 204 = nI n) (hn : n ≤ 12) (hk : k ≤ 4) (hpl : g 219 = 1) (hp : PlanM n k (tl g plan)) :
    ∃ dt' plan', fX11_possible dt g plan x = some ((if x = 0 then mvCnt n k g (tl g plan) else swCnt n k g (tl g plan)), dt', plan', 0) := by
  rw [fX11_possible, k219, hpl, if_neg n10]
  generalize hkf : (fun z21_2 z21_t_detail z21_t_plan => (fX11_done z21_2).bind (fun q19 => some (q19.1, z21_t_detail, z21_t_plan, q19.2))) = kf
  have hP : tl g (tl g plan) = tl g plan := tl_tl
  have hpl : ∀ j, 12 ≤ j → plan j = tl g plan j := fun j hj => (if_neg (by omega)).symm
  generalize tl g plan = P0 at hp hP hpl ⊢
  by_cases hx : x = 0
  · subst hx
    obtain ⟨s', ⟨h1, -⟩, h2⟩ := upI (fun m i (s : Int32 × Int32 × (Nat → Int32)) => fX11_possible_L21 g 0 m kf s.1 (nI i) s.2.1 s.2.2) (fun s' => kf s'.1 s'.2.1 s'.2.2) (fun i s => CR P0 (sumI i (fun u => sumI k (fun d => mvC n k g P0 u d))) s) 0 n (Nat.zero_le n) (fun m s _ => by
      show fX11_possible_L21 g 0 (m + 1) kf _ (nI n) _ _ = _
      rw [fX11_possible_L21, k204, hg, if_pos (nI_leS n (by omega))]) (fun m i s _ hi hI => by
      show ∃ s', CR P0 (sumI i _ + sumI k (fun d => mvC n k g P0 i d)) s' ∧ fX11_possible_L21 g 0 (m + 1) kf _ (nI i) _ _ = _
      rw [fX11_possible_L21, k204, hg, if_neg (nI_ge hi (by omega)), if_pos rfl, nI_1]
      exact pos_moves hgk hg hn hk hP hp hi _ _ s hI) 1000000 (0, dt, plan) (by omega) ⟨rfl, hpl⟩
    refine ⟨s'.2.1, s'.2.2, h2.trans ?_⟩
    rw [← hkf, if_pos rfl]
    show some (s'.1, _, _, 0) = some (mvCnt n k g P0, _, _, 0)
    rw [h1]; rfl
  · obtain ⟨s', ⟨h1, -⟩, h2⟩ := upI (fun m i (s : Int32 × Int32 × (Nat → Int32)) => fX11_possible_L21 g x m kf s.1 (nI i) s.2.1 s.2.2) (fun s' => kf s'.1 s'.2.1 s'.2.2) (fun i s => CR P0 (sumI i (fun u => sumI n (fun v => swC n k g P0 u v))) s) 0 n (Nat.zero_le n) (fun m s _ => by
      show fX11_possible_L21 g x (m + 1) kf _ (nI n) _ _ = _
      rw [fX11_possible_L21, k204, hg, if_pos (nI_leS n (by omega))]) (fun m i s _ hi hI => by
      show ∃ s', CR P0 (sumI i _ + sumI n (fun v => swC n k g P0 i v)) s' ∧ fX11_possible_L21 g x (m + 1) kf _ (nI i) _ _ = _
      rw [fX11_possible_L21, k204, hg, if_neg (nI_ge hi (by omega)), if_neg hx, nI_1]
      exact pos_swaps hgk hg hn hk hP hp hi hx _ _ s hI) 1000000 (0, dt, plan) (by omega) ⟨rfl, hpl⟩
    refine ⟨s'.2.1, s'.2.2, h2.trans ?_⟩
    rw [← hkf, if_neg hx]
    show some (s'.1, _, _, 0) = some (swCnt n k g P0, _, _, 0)
    rw [h1]; rfl
end PS
