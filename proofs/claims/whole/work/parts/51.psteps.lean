/-! the reference's step -/
/-- the plan that g holds, as tells reads it -/
def tl (g plan : Nat → Int32) : Nat → Int32 := fun j => if j < 12 then g (207 + j) else plan j
theorem add207 {i : Nat} : (207 : Int32) + nI i = nI (207 + i) := by rw [show (207 : Int32) = nI 207 from rfl, nI_add]
theorem pX11_tells {g plan : Nat → Int32} : fX11_tells g plan = some (tl g plan) := by
  rw [fX11_tells]
  have h := upS (fun m i s => fX11_tells_L2 g m (fun z => some z) (nI i) s) (fun i => fun j => if j < i then g (207 + j) else plan j) 12 (some (tl g plan)) (fun m => ?_) (fun m i hi => ?_) 1000000 (by omega)
  · have e0 : (fun j => if j < 0 then g (207 + j) else plan j) = plan := funext fun j => if_neg (Nat.not_lt_zero j)
    simp only [e0] at h
    exact h
  · show fX11_tells_L2 g (m + 1) _ (nI 12) _ = _
    rw [fX11_tells_L2, if_pos (show (12 : Int32) ≤ nI 12 by decide)]; rfl
  · show fX11_tells_L2 g (m + 1) _ (nI i) _ = fX11_tells_L2 g m _ (nI (i + 1)) (fun j => if j < i + 1 then g (207 + j) else plan j)
    rw [fX11_tells_L2, if_neg (ge12 hi), add207, if_pos ((inR_nI (by omega)).mpr (by omega)), if_pos ((inR_nI (by omega)).mpr hi), nI_clamp (by omega), nI_clamp (by omega), nI_1]
    congr 1
    funext j
    by_cases e : j = i
    · subst e; rw [pk_us, if_pos (by omega)]
    · rw [pk_un e]
      by_cases e2 : j < i
      · rw [if_pos e2, if_pos (by omega)]
      · rw [if_neg e2, if_neg (by omega)]
theorem tl_same {g plan plan' : Nat → Int32} (h : ∀ j, 12 ≤ j → plan' j = plan j) : tl g plan' = tl g plan := by
  funext j
  unfold tl
  by_cases e : j < 12
  · rw [if_pos e, if_pos e]
  · rw [if_neg e, if_neg e, h j (by omega)]
theorem tl_tl {g plan : Nat → Int32} : tl g (tl g plan) = tl g plan := tl_same (fun j hj => if_neg (by omega))
theorem upd_hi {f : Nat → Int32} {u : Nat} {x : Int32} (hu : u < 12) {j : Nat} (hj : 12 ≤ j) : upd f u x j = f j := pk_un (by omega)
theorem pX11_isBest {ab be : Int64} {bpl plan : Nat → Int32} : fX11_isBest ab be bpl plan = some (ab, be, fun j => if j < 12 then plan j else bpl j) := by
  rw [fX11_isBest]
  have h := upS (fun m i s => fX11_isBest_L18 plan ab be m (fun z => some (ab, be, z)) (nI i) s) (fun i => fun j => if j < i then plan j else bpl j) 12 (some (ab, be, fun j => if j < 12 then plan j else bpl j)) (fun m => ?_) (fun m i hi => ?_) 1000000 (by omega)
  · have e0 : (fun j => if j < 0 then plan j else bpl j) = bpl := funext fun j => if_neg (Nat.not_lt_zero j)
    simp only [e0] at h
    exact h
  · show fX11_isBest_L18 plan ab be (m + 1) _ (nI 12) _ = _
    rw [fX11_isBest_L18, if_pos (show (12 : Int32) ≤ nI 12 by decide)]
  · show fX11_isBest_L18 plan ab be (m + 1) _ (nI i) _ = fX11_isBest_L18 plan ab be m _ (nI (i + 1)) (fun j => if j < i + 1 then plan j else bpl j)
    rw [fX11_isBest_L18, if_neg (ge12 hi), if_pos ((inR_nI (by omega)).mpr (by omega)), if_pos ((inR_nI (by omega)).mpr hi), nI_clamp (by omega), nI_1]
    congr 1
    funext j
    by_cases e : j = i
    · subst e; rw [pk_us, if_pos (by omega)]
    · rw [pk_un e]
      by_cases e2 : j < i
      · rw [if_pos e2, if_pos (by omega)]
      · rw [if_neg e2, if_neg (by omega)]
/-- the eight of a round: any, above, below, best above, best below, best plan, detail, plan -/
abbrev T8 : Type := Int32 × Int64 × Int64 × Int64 × Int64 × (Nat → Int32) × Int32 × (Nat → Int32)
def MR8 (P0 : Nat → Int32) (σ : SS) (s : T8) : Prop := s.1 = σ.1 ∧ (σ.1 = 0 ∨ σ.1 = 1) ∧ (s.2.2.2.1, s.2.2.2.2.1) = σ.2.1 ∧ (∀ j, j < 12 → s.2.2.2.2.2.1 j = σ.2.2 j) ∧ ∀ j, 12 ≤ j → s.2.2.2.2.2.2.2 j = P0 j
section ST
variable {g P0 : Nat → Int32} {n k : Nat} {w : Int32}
theorem st_moves (hg : g 204 = nI n) (hn : n ≤ 12) (hgk : g 205 = nI k) (hw : MapW g n) (h1 : 1 ≤ n) (hk0 : 1 ≤ k) (hk : k ≤ 4) (hm : w ≠ -1) (hP : tl g P0 = P0) (hp : PlanM n k P0) {u : Nat} (hu : u < n) (kf : Int32 → Int64 → Int64 → Int64 → Int64 → (Nat → Int32) → Int32 → (Nat → Int32) → Option (Int32 × Int64 × Int64 × Int64 × Int64 × (Nat → Int32) × Int32 × (Nat → Int32) × (Nat → Int32))) (σ : SS) (s : T8) (hs : MR8 P0 σ s) :
    ∃ s' : T8, MR8 P0 (itF k (fun d => mvS n k g w P0 u d) σ) s' ∧ fX11_steps_L32 g w (nI u) 1000000 kf s.1 0 s.2.1 s.2.2.1 s.2.2.2.1 s.2.2.2.2.1 s.2.2.2.2.2.1 s.2.2.2.2.2.2.1 s.2.2.2.2.2.2.2 = kf s'.1 s'.2.1 s'.2.2.1 s'.2.2.2.1 s'.2.2.2.2.1 s'.2.2.2.2.2.1 s'.2.2.2.2.2.2.1 s'.2.2.2.2.2.2.2 := by
  refine upI (fun m i (s : T8) => fX11_steps_L32 g w (nI u) m kf s.1 (nI i) s.2.1 s.2.2.1 s.2.2.2.1 s.2.2.2.2.1 s.2.2.2.2.2.1 s.2.2.2.2.2.2.1 s.2.2.2.2.2.2.2) (fun s' => kf s'.1 s'.2.1 s'.2.2.1 s'.2.2.2.1 s'.2.2.2.2.1 s'.2.2.2.2.2.1 s'.2.2.2.2.2.2.1 s'.2.2.2.2.2.2.2) (fun i s => MR8 P0 (itF i (fun d => mvS n k g w P0 u d) σ) s) 0 k (Nat.zero_le k) (fun m s _ => ?_) (fun m i s _ hi hI => ?_) 1000000 s (by omega) hs
  · show fX11_steps_L32 g w (nI u) (m + 1) kf _ (nI k) _ _ _ _ _ _ _ = _
    rw [fX11_steps_L32, k205, hgk, if_pos (nI_leS k (by omega))]
  · obtain ⟨any, ab, be, ba, bb, bpl, dt, plan⟩ := s
    obtain ⟨i1, i2, i3, i4, i5⟩ := hI
    have i5 : ∀ j, 12 ≤ j → plan j = P0 j := i5
    have i1 : any = (itF i (fun d => mvS n k g w P0 u d) σ).1 := i1
    have i3 : (ba, bb) = (itF i (fun d => mvS n k g w P0 u d) σ).2.1 := i3
    have i4 : ∀ j, j < 12 → bpl j = (itF i (fun d => mvS n k g w P0 u d) σ).2.2 j := i4
    show ∃ s' : T8, MR8 P0 (mvS n k g w P0 u i (itF i (fun d => mvS n k g w P0 u d) σ)) s' ∧ fX11_steps_L32 g w (nI u) (m + 1) kf any (nI i) ab be ba bb bpl dt plan = _
    rw [fX11_steps_L32, k205, hgk, if_neg (nI_ge hi (by omega)), pX11_tells, bind_s, tl_same i5, hP, if_pos ((inR_nI (by omega)).mpr (by omega)), nI_clamp (by omega), nI_1]
    generalize itF i (fun d => mvS n k g w P0 u d) σ = σi at i1 i2 i3 i4 ⊢
    unfold mvS
    by_cases e1 : P0 u = nI i
    · rw [if_pos e1, if_pos e1]
      exact ⟨(any, ab, be, ba, bb, bpl, dt, P0), ⟨i1, i2, i3, i4, fun _ _ => rfl⟩, rfl⟩
    · rw [if_neg e1, if_neg e1, pX11_moves hg hn hgk hk hp hu hi, bind_s]
      by_cases e3 : (moveS n k g P0 u i).1 = 0
      · have hb := move0 e3
        rw [if_pos e3, if_pos e3, if_pos e3, hb, if_pos rfl]
        show ∃ s' : T8, _ ∧ ((fX11_isBetter ab ba bb g (upd P0 u (nI i)) w).bind _) = _
        rw [pX11_isBetter hg hn hgk hw h1 hk0 hk (hp.upd hi), bind_s]
        unfold consS
        rw [if_neg hm, ← i3]
        cases hbb : betB w (finM n k g (upd P0 u (nI i)) w) (ba, bb) with
        | false =>
          rw [if_neg ff, if_neg ff]
          exact ⟨(any, _, _, ba, bb, bpl, dt, upd P0 u (nI i)), ⟨i1, i2, i3, i4, fun j hj => upd_hi (by omega) hj⟩, rfl⟩
        | true =>
          rw [if_pos rfl, if_pos rfl]
          show ∃ s' : T8, _ ∧ (if (1 : Int32) = 0 then _ else ((fX11_isBest _ _ bpl (upd P0 u (nI i))).bind _)) = _
          rw [if_neg n10, pX11_isBest, bind_s]
          exact ⟨(1, _, _, _, _, _, dt, upd P0 u (nI i)), ⟨rfl, Or.inr rfl, rfl, fun j hj => if_pos hj, fun j hj => upd_hi (by omega) hj⟩, rfl⟩
      · rw [if_neg e3, if_neg e3]
        refine ⟨(any, ab, be, ba, bb, bpl, _, _), ⟨i1, i2, i3, i4, fun j hj => ?_⟩, rfl⟩
        show (if nbrB n g P0 u (nI i) then upd P0 u (nI i) else P0) j = P0 j
        split
        · exact upd_hi (by omega) hj
        · rfl
theorem st_swaps (hg : g 204 = nI n) (hn : n ≤ 12) (hgk : g 205 = nI k) (hw : MapW g n) (h1 : 1 ≤ n) (hk0 : 1 ≤ k) (hk : k ≤ 4) (hm : w ≠ -1) (hP : tl g P0 = P0) (hp : PlanM n k P0) {u : Nat} (hu : u < n) (kf : Int32 → Int64 → Int64 → Int64 → Int64 → (Nat → Int32) → Int32 → (Nat → Int32) → Option (Int32 × Int64 × Int64 × Int64 × Int64 × (Nat → Int32) × Int32 × (Nat → Int32) × (Nat → Int32))) (σ : SS) (s : T8) (hs : MR8 P0 σ s) :
    ∃ s' : T8, MR8 P0 (itF n (fun v => swS n k g w P0 u v) σ) s' ∧ fX11_steps_L115 g w (nI u) 1000000 kf s.1 (nI (u + 1)) s.2.1 s.2.2.1 s.2.2.2.1 s.2.2.2.2.1 s.2.2.2.2.2.1 s.2.2.2.2.2.2.1 s.2.2.2.2.2.2.2 = kf s'.1 s'.2.1 s'.2.2.1 s'.2.2.2.1 s'.2.2.2.2.1 s'.2.2.2.2.2.1 s'.2.2.2.2.2.2.1 s'.2.2.2.2.2.2.2 := by
  have z2 : ∀ i, i ≤ u + 1 → itF i (fun v => swS n k g w P0 u v) σ = σ := by
    intro i
    induction i with
    | zero => intro _; rfl
    | succ i ih => intro hi; rw [itF, ih (by omega)]; exact if_neg (by omega)
  refine upI (fun m i (s : T8) => fX11_steps_L115 g w (nI u) m kf s.1 (nI i) s.2.1 s.2.2.1 s.2.2.2.1 s.2.2.2.2.1 s.2.2.2.2.2.1 s.2.2.2.2.2.2.1 s.2.2.2.2.2.2.2) (fun s' => kf s'.1 s'.2.1 s'.2.2.1 s'.2.2.2.1 s'.2.2.2.2.1 s'.2.2.2.2.2.1 s'.2.2.2.2.2.2.1 s'.2.2.2.2.2.2.2) (fun i s => MR8 P0 (itF i (fun v => swS n k g w P0 u v) σ) s) (u + 1) n (by omega) (fun m s _ => ?_) (fun m i s hui hi hI => ?_) 1000000 s (by omega) (by rw [z2 _ (Nat.le_refl _)]; exact hs)
  · show fX11_steps_L115 g w (nI u) (m + 1) kf _ (nI n) _ _ _ _ _ _ _ = _
    rw [fX11_steps_L115, k204, hg, if_pos (nI_leS n (by omega))]
  · obtain ⟨any, ab, be, ba, bb, bpl, dt, plan⟩ := s
    obtain ⟨i1, i2, i3, i4, i5⟩ := hI
    have i5 : ∀ j, 12 ≤ j → plan j = P0 j := i5
    have i1 : any = (itF i (fun v => swS n k g w P0 u v) σ).1 := i1
    have i3 : (ba, bb) = (itF i (fun v => swS n k g w P0 u v) σ).2.1 := i3
    have i4 : ∀ j, j < 12 → bpl j = (itF i (fun v => swS n k g w P0 u v) σ).2.2 j := i4
    show ∃ s' : T8, MR8 P0 (swS n k g w P0 u i (itF i (fun v => swS n k g w P0 u v) σ)) s' ∧ fX11_steps_L115 g w (nI u) (m + 1) kf any (nI i) ab be ba bb bpl dt plan = _
    rw [fX11_steps_L115, k204, hg, if_neg (nI_ge hi (by omega)), pX11_tells, bind_s, tl_same i5, hP, if_pos ((inR_nI (by omega)).mpr (by omega)), if_pos ((inR_nI (by omega)).mpr (by omega)), nI_clamp (by omega), nI_clamp (by omega), nI_1]
    generalize itF i (fun v => swS n k g w P0 u v) σ = σi at i1 i2 i3 i4 ⊢
    unfold swS
    rw [if_pos (show u < i by omega)]
    by_cases e1 : P0 u = P0 i
    · rw [if_pos e1, if_pos e1]
      exact ⟨(any, ab, be, ba, bb, bpl, dt, P0), ⟨i1, i2, i3, i4, fun _ _ => rfl⟩, rfl⟩
    · rw [if_neg e1, if_neg e1, pX11_swaps hg hn hgk hk hp hu hi, bind_s]
      obtain ⟨du, hdu, eu⟩ := hp u hu
      obtain ⟨dv, hdv, ev⟩ := hp i hi
      have hp2 : PlanM n k (upd (upd P0 u (P0 i)) i (P0 u)) := by rw [eu, ev]; exact (hp.upd hdv).upd hdu
      have hhi : ∀ j, 12 ≤ j → upd (upd P0 u (P0 i)) i (P0 u) j = P0 j := fun j hj => (upd_hi (by omega) hj).trans (upd_hi (by omega) hj)
      by_cases e3 : (swapS n k g P0 u i).1 = 0
      · have hb := swap0 e3
        rw [if_pos e3, if_pos e3, if_pos e3, hb, if_pos rfl]
        show ∃ s' : T8, _ ∧ ((fX11_isBetter ab ba bb g (upd (upd P0 u (P0 i)) i (P0 u)) w).bind _) = _
        rw [pX11_isBetter hg hn hgk hw h1 hk0 hk hp2, bind_s]
        unfold consS
        rw [if_neg hm, ← i3]
        cases hbb : betB w (finM n k g (upd (upd P0 u (P0 i)) i (P0 u)) w) (ba, bb) with
        | false =>
          rw [if_neg ff, if_neg ff]
          exact ⟨(any, _, _, ba, bb, bpl, dt, upd (upd P0 u (P0 i)) i (P0 u)), ⟨i1, i2, i3, i4, hhi⟩, rfl⟩
        | true =>
          rw [if_pos rfl, if_pos rfl]
          show ∃ s' : T8, _ ∧ (if (1 : Int32) = 0 then _ else ((fX11_isBest _ _ bpl (upd (upd P0 u (P0 i)) i (P0 u))).bind _)) = _
          rw [if_neg n10, pX11_isBest, bind_s]
          exact ⟨(1, _, _, _, _, _, dt, upd (upd P0 u (P0 i)) i (P0 u)), ⟨rfl, Or.inr rfl, rfl, fun j hj => if_pos hj, hhi⟩, rfl⟩
      · rw [if_neg e3, if_neg e3]
        refine ⟨(any, ab, be, ba, bb, bpl, _, _), ⟨i1, i2, i3, i4, fun j hj => ?_⟩, rfl⟩
        show (if swapB n g P0 u i then upd (upd P0 u (P0 i)) i (P0 u) else P0) j = P0 j
        split
        · exact hhi j hj
        · rfl
/-- g with another plan -/
def putP (g p : Nat → Int32) : Nat → Int32 := fun x => if 207 ≤ x ∧ x < 219 then p (x - 207) else g x
theorem pX11_steps_L186 {y2 : Int32} {ya yb yc yd : Int64} {yp : Nat → Int32} {ye : Int32} {yf : Nat → Int32} {kf : (Nat → Int32) → Option (Int32 × Int64 × Int64 × Int64 × Int64 × (Nat → Int32) × Int32 × (Nat → Int32) × (Nat → Int32))} : fX11_steps_L186 y2 ya yb yc yd yp ye yf 1000000 kf 0 g = kf (putP g yp) := by
  have h := upS (fun m i s => fX11_steps_L186 y2 ya yb yc yd yp ye yf m kf (nI i) s) (fun i => fun x => if 207 ≤ x ∧ x < 207 + i then yp (x - 207) else g x) 12 (kf (putP g yp)) (fun m => ?_) (fun m i hi => ?_) 1000000 (by omega)
  · have e0 : (fun x => if 207 ≤ x ∧ x < 207 + 0 then yp (x - 207) else g x) = g := funext fun x => if_neg (by omega)
    simp only [e0] at h
    exact h
  · show fX11_steps_L186 y2 ya yb yc yd yp ye yf (m + 1) kf (nI 12) _ = _
    rw [fX11_steps_L186, if_pos (show (12 : Int32) ≤ nI 12 by decide)]; rfl
  · show fX11_steps_L186 y2 ya yb yc yd yp ye yf (m + 1) kf (nI i) _ = fX11_steps_L186 y2 ya yb yc yd yp ye yf m kf (nI (i + 1)) (fun x => if 207 ≤ x ∧ x < 207 + (i + 1) then yp (x - 207) else g x)
    rw [fX11_steps_L186, if_neg (ge12 hi), add207, if_pos ((inR_nI (by omega)).mpr hi), if_pos ((inR_nI (by omega)).mpr (by omega)), nI_clamp (by omega), nI_clamp (by omega), nI_1]
    congr 1
    funext x
    by_cases e : x = 207 + i
    · subst e; rw [pk_us, if_pos (by omega), show 207 + i - 207 = i by omega]
    · rw [pk_un e]
      by_cases e2 : 207 ≤ x ∧ x < 207 + i
      · rw [if_pos e2, if_pos (by omega)]
      · rw [if_neg e2, if_neg (by omega)]
theorem putP_congr {p q : Nat → Int32} (h : ∀ j, j < 12 → p j = q j) : putP g p = putP g q := by
  funext x
  unfold putP
  by_cases e : 207 ≤ x ∧ x < 219
  · rw [if_pos e, if_pos e, h _ (by omega)]
  · rw [if_neg e, if_neg e]
/-- what a step comes to -/
noncomputable def stepS (n k : Nat) (g : Nat → Int32) (w : Int32) (p0 : Nat → Int32) : SS := swAll n k g w p0 (mvAll n k g w p0 (0, finM n k g p0 w, p0))
theorem pX11_steps (hg : g 204 = nI n) (hn : n ≤ 12) (hgk : g 205 = nI k) (hw : MapW g n) (h1 : 1 ≤ n) (hk0 : 1 ≤ k) (hk : k ≤ 4) (hm : w ≠ -1) {plan : Nat → Int32} (hp : PlanM n k (tl g plan)) (ab : Int64) (bpl : Nat → Int32) (dt : Int32) :
    ∃ (ab' be' ba' bb' : Int64) (bpl' : Nat → Int32) (dt' : Int32) (plan' : Nat → Int32), fX11_steps ab bpl dt g plan w = some ((stepS n k g w (tl g plan)).1, ab', be', ba', bb', bpl', dt', putP g (stepS n k g w (tl g plan)).2.2, plan') ∧ ((stepS n k g w (tl g plan)).1 = 0 ∨ (stepS n k g w (tl g plan)).1 = 1) ∧ (∀ j, 12 ≤ j → plan' j = plan j) := by
  rw [fX11_steps, pX11_tells, bind_s, pX11_tellMeasure hg hn hgk hw h1 hk0 hk hp, bind_s, pX11_isBest, bind_s]
  have hP : tl g (tl g plan) = tl g plan := tl_tl
  generalize hP0 : tl g plan = P0 at hp hP ⊢
  have hP12 : ∀ j, 12 ≤ j → P0 j = plan j := fun j hj => by rw [← hP0]; exact if_neg (by omega)
  generalize hk1 : (fun z17_2 z17_t_above z17_t_below z17_t_bestAbove z17_t_bestBelow z17_t_bestPlan z17_t_detail z17_t_plan => fX11_steps_L98 g w 1000000 (fun z98_2 z98_t_above z98_t_below z98_t_bestAbove z98_t_bestBelow z98_t_bestPlan z98_t_detail z98_t_plan => fX11_steps_L186 z98_2 z98_t_above z98_t_below z98_t_bestAbove z98_t_bestBelow z98_t_bestPlan z98_t_detail z98_t_plan 1000000 (fun z186_t_g => (if isB z98_2 then some (z98_2, z98_t_above, z98_t_below, z98_t_bestAbove, z98_t_bestBelow, z98_t_bestPlan, z98_t_detail, z186_t_g, z98_t_plan) else none)) (0 : Int32) g) z17_2 (0 : Int32) z17_t_above z17_t_below z17_t_bestAbove z17_t_bestBelow z17_t_bestPlan z17_t_detail z17_t_plan) = kf1
  have A := upI (fun m i (s : T8) => fX11_steps_L17 g w m kf1 s.1 (nI i) s.2.1 s.2.2.1 s.2.2.2.1 s.2.2.2.2.1 s.2.2.2.2.2.1 s.2.2.2.2.2.2.1 s.2.2.2.2.2.2.2) (fun s' => kf1 s'.1 s'.2.1 s'.2.2.1 s'.2.2.2.1 s'.2.2.2.2.1 s'.2.2.2.2.2.1 s'.2.2.2.2.2.2.1 s'.2.2.2.2.2.2.2) (fun i s => MR8 P0 (itF i (fun u => itF k (fun d => mvS n k g w P0 u d)) (0, finM n k g P0 w, P0)) s) 0 n (Nat.zero_le n) (fun m s _ => ?_) (fun m i s _ hi hI => ?_) 1000000 (0, (finM n k g P0 w).1, (finM n k g P0 w).2, (finM n k g P0 w).1, (finM n k g P0 w).2, (fun j => if j < 12 then P0 j else bpl j), dt, P0) (by omega) ⟨rfl, Or.inl rfl, rfl, fun j hj => if_pos hj, fun _ _ => rfl⟩
  · obtain ⟨s1, m1, e1⟩ := A
    generalize hk2 : (fun z98_2 z98_t_above z98_t_below z98_t_bestAbove z98_t_bestBelow z98_t_bestPlan z98_t_detail z98_t_plan => fX11_steps_L186 z98_2 z98_t_above z98_t_below z98_t_bestAbove z98_t_bestBelow z98_t_bestPlan z98_t_detail z98_t_plan 1000000 (fun z186_t_g => (if isB z98_2 then some (z98_2, z98_t_above, z98_t_below, z98_t_bestAbove, z98_t_bestBelow, z98_t_bestPlan, z98_t_detail, z186_t_g, z98_t_plan) else none)) (0 : Int32) g) = kf2 at hk1
    have B := upI (fun m i (s : T8) => fX11_steps_L98 g w m kf2 s.1 (nI i) s.2.1 s.2.2.1 s.2.2.2.1 s.2.2.2.2.1 s.2.2.2.2.2.1 s.2.2.2.2.2.2.1 s.2.2.2.2.2.2.2) (fun s' => kf2 s'.1 s'.2.1 s'.2.2.1 s'.2.2.2.1 s'.2.2.2.2.1 s'.2.2.2.2.2.1 s'.2.2.2.2.2.2.1 s'.2.2.2.2.2.2.2) (fun i s => MR8 P0 (itF i (fun u => itF n (fun v => swS n k g w P0 u v)) (mvAll n k g w P0 (0, finM n k g P0 w, P0))) s) 0 n (Nat.zero_le n) (fun m s _ => ?_) (fun m i s _ hi hI => ?_) 1000000 s1 (by omega) m1
    · obtain ⟨s2, m2, e2⟩ := B
      obtain ⟨i1, i2, i3, i4, i5⟩ := m2
      have hst : swAll n k g w P0 (mvAll n k g w P0 (0, finM n k g P0 w, P0)) = stepS n k g w P0 := rfl
      have e3 : kf1 s1.1 s1.2.1 s1.2.2.1 s1.2.2.2.1 s1.2.2.2.2.1 s1.2.2.2.2.2.1 s1.2.2.2.2.2.2.1 s1.2.2.2.2.2.2.2 = kf2 s2.1 s2.2.1 s2.2.2.1 s2.2.2.2.1 s2.2.2.2.2.1 s2.2.2.2.2.2.1 s2.2.2.2.2.2.2.1 s2.2.2.2.2.2.2.2 := by rw [← hk1]; exact e2
      have i1 : s2.1 = (stepS n k g w P0).1 := i1
      have i2 : (stepS n k g w P0).1 = 0 ∨ (stepS n k g w P0).1 = 1 := i2
      have i4 : ∀ j, j < 12 → s2.2.2.2.2.2.1 j = (stepS n k g w P0).2.2 j := i4
      refine ⟨s2.2.1, s2.2.2.1, s2.2.2.2.1, s2.2.2.2.2.1, s2.2.2.2.2.2.1, s2.2.2.2.2.2.2.1, s2.2.2.2.2.2.2.2, ?_, i2, fun j hj => (i5 j hj).trans (hP12 j hj)⟩
      refine Eq.trans e1 (e3.trans ?_)
      rw [← hk2]
      show fX11_steps_L186 _ _ _ _ _ _ _ _ 1000000 _ 0 g = _
      rw [pX11_steps_L186, if_pos (by rw [i1]; exact i2), putP_congr i4, i1]
    · show fX11_steps_L98 g w (m + 1) kf2 _ (nI n) _ _ _ _ _ _ _ = _
      rw [fX11_steps_L98, k204, hg, if_pos (nI_leS n (by omega))]
    · show ∃ s' : T8, MR8 P0 (itF n (fun v => swS n k g w P0 i v) (itF i (fun u => itF n (fun v => swS n k g w P0 u v)) (mvAll n k g w P0 (0, finM n k g P0 w, P0)))) s' ∧ fX11_steps_L98 g w (m + 1) kf2 _ (nI i) _ _ _ _ _ _ _ = _
      rw [fX11_steps_L98, k204, hg, if_neg (nI_ge hi (by omega)), nI_1]
      exact st_swaps hg hn hgk hw h1 hk0 hk hm hP hp hi _ _ s hI
  · show fX11_steps_L17 g w (m + 1) kf1 _ (nI n) _ _ _ _ _ _ _ = _
    rw [fX11_steps_L17, k204, hg, if_pos (nI_leS n (by omega))]
  · show ∃ s' : T8, MR8 P0 (itF k (fun d => mvS n k g w P0 i d) (itF i (fun u => itF k (fun d => mvS n k g w P0 u d)) (0, finM n k g P0 w, P0))) s' ∧ fX11_steps_L17 g w (m + 1) kf1 _ (nI i) _ _ _ _ _ _ _ = _
    rw [fX11_steps_L17, k204, hg, if_neg (nI_ge hi (by omega)), nI_1]
    exact st_moves hg hn hgk hw h1 hk0 hk hm hP hp hi _ _ s hI
end ST
