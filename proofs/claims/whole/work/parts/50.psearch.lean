/-! the search for a step: class and reference -/
/-- a loop that counts up, its states known by what holds of them -/
theorem upI {R α : Type} (F : Nat → Nat → α → Option R) (kf : α → Option R) (I : Nat → α → Prop) (b e : Nat) (hb : b ≤ e) (hx : ∀ n s, I e s → F (n + 1) e s = kf s) (hs : ∀ n i s, b ≤ i → i < e → I i s → ∃ s', I (i + 1) s' ∧ F (n + 1) i s = F n (i + 1) s') : ∀ n s, e < n → I b s → ∃ s', I e s' ∧ F n b s = kf s' := by
  have key : ∀ k i n s, b ≤ i → i + k = e → k < n → I i s → ∃ s', I e s' ∧ F n i s = kf s' := by
    intro k
    induction k with
    | zero =>
      intro i n s h0 h1 h2 h3
      obtain ⟨n, rfl⟩ : ∃ m, n = m + 1 := ⟨n - 1, by omega⟩
      have : i = e := by omega
      subst this
      exact ⟨s, h3, hx n s h3⟩
    | succ k ih =>
      intro i n s h0 h1 h2 h3
      obtain ⟨n, rfl⟩ : ∃ m, n = m + 1 := ⟨n - 1, by omega⟩
      obtain ⟨s', h4, h5⟩ := hs n i s h0 (by omega) h3
      rw [h5]
      exact ih (i + 1) n s' (by omega) (by omega) (by omega) h4
  intro n s hn h
  exact key (e - b) b n s (Nat.le_refl b) (by omega) (by omega) h
def itF {α : Type} : Nat → (Nat → α → α) → α → α
  | 0, _, a => a
  | i + 1, f, a => f i (itF i f a)
/-- whether one was found, the best measure, the best plan -/
abbrev SS : Type := Int32 × (Int64 × Int64) × (Nat → Int32)
noncomputable def consS (n k : Nat) (g : Nat → Int32) (w : Int32) (σ : SS) (p : Nat → Int32) : SS := if w = -1 then σ else if betB w (finM n k g p w) σ.2.1 then (1, finM n k g p w, p) else σ
noncomputable def mvS (n k : Nat) (g : Nat → Int32) (w : Int32) (p0 : Nat → Int32) (u d : Nat) (σ : SS) : SS := if p0 u = nI d then σ else if (moveS n k g p0 u d).1 = 0 then consS n k g w σ (upd p0 u (nI d)) else σ
noncomputable def swS (n k : Nat) (g : Nat → Int32) (w : Int32) (p0 : Nat → Int32) (u v : Nat) (σ : SS) : SS := if u < v then (if p0 u = p0 v then σ else if (swapS n k g p0 u v).1 = 0 then consS n k g w σ (upd (upd p0 u (p0 v)) v (p0 u)) else σ) else σ
noncomputable def mvC (n k : Nat) (g : Nat → Int32) (p0 : Nat → Int32) (u d : Nat) : Int32 := if p0 u = nI d then 0 else if (moveS n k g p0 u d).1 = 0 then 1 else 0
noncomputable def swC (n k : Nat) (g : Nat → Int32) (p0 : Nat → Int32) (u v : Nat) : Int32 := if u < v then (if p0 u = p0 v then 0 else if (swapS n k g p0 u v).1 = 0 then 1 else 0) else 0
noncomputable def mvAll (n k : Nat) (g : Nat → Int32) (w : Int32) (p0 : Nat → Int32) (σ : SS) : SS := itF n (fun u => itF k (fun d => mvS n k g w p0 u d)) σ
noncomputable def swAll (n k : Nat) (g : Nat → Int32) (w : Int32) (p0 : Nat → Int32) (σ : SS) : SS := itF n (fun u => itF n (fun v => swS n k g w p0 u v)) σ
noncomputable def mvCnt (n k : Nat) (g p0 : Nat → Int32) : Int32 := sumI n (fun u => sumI k (fun d => mvC n k g p0 u d))
noncomputable def swCnt (n k : Nat) (g p0 : Nat → Int32) : Int32 := sumI n (fun u => sumI n (fun v => swC n k g p0 u v))
theorem move0 {n k : Nat} {g p0 : Nat → Int32} {u d : Nat} (h : (moveS n k g p0 u d).1 = 0) : nbrB n g p0 u (nI d) = true := by
  cases hb : nbrB n g p0 u (nI d) with
  | true => rfl
  | false =>
    unfold moveS at h
    rw [hb, if_neg ff] at h
    exact absurd h (by decide : ¬ (5 : Int32) = 0)
theorem swap0 {n k : Nat} {g p0 : Nat → Int32} {u v : Nat} (h : (swapS n k g p0 u v).1 = 0) : swapB n g p0 u v = true := by
  unfold swapB
  unfold swapS at h
  cases h1 : nbrB n g p0 u (p0 v) with
  | false =>
    rw [h1, if_neg ff] at h
    exact absurd h (by decide : ¬ (5 : Int32) = 0)
  | true =>
    rw [h1, if_pos rfl] at h
    cases h2 : nbrB n g p0 v (p0 u) with
    | false =>
      rw [h2, if_neg ff] at h
      exact absurd h (by decide : ¬ (5 : Int32) = 0)
    | true => rfl
/-- the class's search holds what the spec says -/
def SR (n k : Nat) (σ : SS) (bb bt : Int64) (fp fs : Nat → Int32) (hf : Int32) : Prop := hf = σ.1 ∧ (σ.1 = 0 ∨ σ.1 = 1) ∧ (bt, bb) = σ.2.1 ∧ (σ.1 = 1 → PlanR n k fp fs σ.2.2)
section SE
variable {g pop area com outer nb len : Nat → Int32} {n k : Nat} {cores w : Int32} {places sets p0 : Nat → Int32}
theorem pX7_consider (h : MapR g n pop area com outer nb len cores) (hw : MapW g n) (h1 : 1 ≤ n) (hk : k ≤ 4) {bp bs p : Nat → Int32} (hP : PlanR n k bp bs p) {σ : SS} {bb bt tb tt : Int64} {fp fs : Nat → Int32} {hf : Int32} (hS : SR n k σ bb bt fp fs hf) :
    ∃ bb' bt' fp' fs' hf' tb' tt', fX7_consider area com (nI k) len outer pop (nI n) bp bs bb bt fp fs hf w tb tt = some (bb', bt', fp', fs', hf', tb', tt') ∧ SR n k (consS n k g w σ p) bb' bt' fp' fs' hf' := by
  have hn := h.n12
  rw [fX7_consider]
  unfold consS
  by_cases hm : w = -1
  · rw [if_pos hm, if_pos hm]
    exact ⟨_, _, _, _, _, _, _, rfl, hS⟩
  · rw [if_neg hm, if_neg hm, pX6_weigh h hw h1 hk hP, bind_s]
    obtain ⟨s1, s2, s3, s4⟩ := hS
    have eb : bb = (bt, bb).2 := rfl
    have et : bt = (bt, bb).1 := rfl
    have hbet : fX6_isBetter (finM n k g p w).2 (finM n k g p w).1 bb bt w = some (if betB w (finM n k g p w) σ.2.1 then 1 else 0) := by rw [← s3]; exact pX6_isBetter w _ (bt, bb)
    rw [hbet, bind_s]
    cases hb : betB w (finM n k g p w) σ.2.1 with
    | false =>
      rw [if_neg ff, if_neg ff, if_pos rfl]
      exact ⟨_, _, _, _, _, _, _, rfl, s1, s2, s3, s4⟩
    | true =>
      rw [if_pos rfl, if_pos rfl, if_neg n10]
      obtain ⟨p1, q1, e1, hP1, -⟩ := pX4_copyFrom (p4 := fp) (s4 := fs) hn hP
      rw [fX1_copyFrom, bind_s, e1, bind_s]
      exact ⟨_, _, _, _, _, _, _, rfl, rfl, Or.inr rfl, rfl, fun _ => hP1⟩
/-- the twelve of a round: number, detail, reason, behind, best, found, tried -/
abbrev T12 : Type := Int32 × Int32 × Int32 × (Nat → Int32) × (Nat → Int32) × Int64 × Int64 × (Nat → Int32) × (Nat → Int32) × Int32 × Int64 × Int64
def SR12 (n k : Nat) (c : Int32) (σ : SS) (s : T12) : Prop := s.1 = c ∧ SR n k σ s.2.2.2.2.2.1 s.2.2.2.2.2.2.1 s.2.2.2.2.2.2.2.1 s.2.2.2.2.2.2.2.2.1 s.2.2.2.2.2.2.2.2.2.1
theorem tm_inner (h : MapR g n pop area com outer nb len cores) (hw : MapW g n) (h1 : 1 ≤ n) (hk : k ≤ 4) (hP : PlanR n k places sets p0) {u : Nat} (hu : u < n) (kf : Int32 → Int32 → Int32 → (Nat → Int32) → (Nat → Int32) → Int64 → Int64 → (Nat → Int32) → (Nat → Int32) → Int32 → Int64 → Int64 → Option T12) (c : Int32) (σ : SS) (s : T12) (hs : SR12 n k c σ s) :
    ∃ s' : T12, SR12 n k (c + sumI k (fun d => mvC n k g p0 u d)) (itF k (fun d => mvS n k g w p0 u d) σ) s' ∧ fX7_tryMoves_L17 area com cores (nI k) len nb outer places sets pop (g 206) (nI n) w (nI u) 1000000 kf s.1 0 s.2.1 s.2.2.1 s.2.2.2.1 s.2.2.2.2.1 s.2.2.2.2.2.1 s.2.2.2.2.2.2.1 s.2.2.2.2.2.2.2.1 s.2.2.2.2.2.2.2.2.1 s.2.2.2.2.2.2.2.2.2.1 s.2.2.2.2.2.2.2.2.2.2.1 s.2.2.2.2.2.2.2.2.2.2.2 = kf s'.1 s'.2.1 s'.2.2.1 s'.2.2.2.1 s'.2.2.2.2.1 s'.2.2.2.2.2.1 s'.2.2.2.2.2.2.1 s'.2.2.2.2.2.2.2.1 s'.2.2.2.2.2.2.2.2.1 s'.2.2.2.2.2.2.2.2.2.1 s'.2.2.2.2.2.2.2.2.2.2.1 s'.2.2.2.2.2.2.2.2.2.2.2 := by
  have hn := h.n12
  refine upI (fun m i (s : T12) => fX7_tryMoves_L17 area com cores (nI k) len nb outer places sets pop (g 206) (nI n) w (nI u) m kf s.1 (nI i) s.2.1 s.2.2.1 s.2.2.2.1 s.2.2.2.2.1 s.2.2.2.2.2.1 s.2.2.2.2.2.2.1 s.2.2.2.2.2.2.2.1 s.2.2.2.2.2.2.2.2.1 s.2.2.2.2.2.2.2.2.2.1 s.2.2.2.2.2.2.2.2.2.2.1 s.2.2.2.2.2.2.2.2.2.2.2) (fun s' => kf s'.1 s'.2.1 s'.2.2.1 s'.2.2.2.1 s'.2.2.2.2.1 s'.2.2.2.2.2.1 s'.2.2.2.2.2.2.1 s'.2.2.2.2.2.2.2.1 s'.2.2.2.2.2.2.2.2.1 s'.2.2.2.2.2.2.2.2.2.1 s'.2.2.2.2.2.2.2.2.2.2.1 s'.2.2.2.2.2.2.2.2.2.2.2) (fun i s => SR12 n k (c + sumI i (fun d => mvC n k g p0 u d)) (itF i (fun d => mvS n k g w p0 u d) σ) s) 0 k (Nat.zero_le k) (fun m s _ => ?_) (fun m i s _ hi hI => ?_) 1000000 s (by omega) ?_
  · show fX7_tryMoves_L17 area com cores (nI k) len nb outer places sets pop (g 206) (nI n) w (nI u) (m + 1) kf _ (nI k) _ _ _ _ _ _ _ _ _ _ _ = _
    rw [fX7_tryMoves_L17, if_pos (nI_leS k (by omega))]
  · obtain ⟨c0, dt, rs, bp, bs, bb, bt, fp, fs, hf, tb, tt⟩ := s
    obtain ⟨i1, i2⟩ := hI
    have i1 : c0 = c + sumI i (fun d => mvC n k g p0 u d) := i1
    have i2 : SR n k (itF i (fun d => mvS n k g w p0 u d) σ) bb bt fp fs hf := i2
    show ∃ s' : T12, SR12 n k (c + (sumI i _ + mvC n k g p0 u i)) (mvS n k g w p0 u i (itF i (fun d => mvS n k g w p0 u d) σ)) s' ∧ fX7_tryMoves_L17 area com cores (nI k) len nb outer places sets pop (g 206) (nI n) w (nI u) (m + 1) kf c0 (nI i) dt rs bp bs bb bt fp fs hf tb tt = _
    rw [fX7_tryMoves_L17, if_neg (nI_ge hi (by omega)), if_pos ((inR_nI (by omega)).mpr (by omega)), nI_clamp (by omega), (hP.1 u hu).1, nI_1, ← add_as, ← i1]
    generalize itF i (fun d => mvS n k g w p0 u d) σ = σi at i2 ⊢
    clear i1
    unfold mvS mvC
    by_cases e1 : p0 u = nI i
    · rw [if_pos e1.symm, if_pos e1, if_pos e1]
      exact ⟨(c0, dt, rs, bp, bs, bb, bt, fp, fs, hf, tb, tt), ⟨(add_0 c0).symm, i2⟩, rfl⟩
    · rw [if_neg (show ¬ nI i = p0 u from fun q => e1 q.symm), if_neg e1, if_neg e1]
      obtain ⟨bp', bs', e2, hB⟩ := pX3_judgeMove (p4 := bp) (s4 := bs) (dt := dt) (rs := rs) h hk hP hu hi
      rw [e2, bind_s]
      by_cases e3 : (moveS n k g p0 u i).1 = 0
      · rw [if_pos e3, if_pos e3, if_pos e3]
        obtain ⟨bb', bt', fp', fs', hf', tb', tt', e4, hS⟩ := pX7_consider (w := w) (tb := tb) (tt := tt) h hw h1 hk (hB (move0 e3)) i2
        rw [e4, bind_s]
        exact ⟨(c0 + 1, _, _, bp', bs', bb', bt', fp', fs', hf', tb', tt'), ⟨rfl, hS⟩, rfl⟩
      · rw [if_neg e3, if_neg e3, if_neg e3]
        exact ⟨(c0, _, _, bp', bs', bb, bt, fp, fs, hf, tb, tt), ⟨(add_0 c0).symm, i2⟩, rfl⟩
  · obtain ⟨i1, i2⟩ := hs
    exact ⟨i1.trans (add_0 c).symm, i2⟩
theorem pX7_tryMoves (h : MapR g n pop area com outer nb len cores) (hw : MapW g n) (h1 : 1 ≤ n) (hk : k ≤ 4) (hP : PlanR n k places sets p0) (dt rs : Int32) (bp bs : Nat → Int32) (bb bt : Int64) (fp fs : Nat → Int32) (hf : Int32) (tb tt : Int64) (σ : SS) (hs : SR n k σ bb bt fp fs hf) :
    ∃ s' : T12, SR12 n k (mvCnt n k g p0) (mvAll n k g w p0 σ) s' ∧ fX7_tryMoves area com cores (nI k) len nb outer places sets pop (g 206) (nI n) dt rs bp bs bb bt fp fs hf w tb tt = some s' := by
  have hn := h.n12
  rw [fX7_tryMoves]
  have key := upI (fun m i (s : T12) => fX7_tryMoves_L5 area com cores (nI k) len nb outer places sets pop (g 206) (nI n) w m (fun z1 z2 z3 z4 z5 z6 z7 z8 z9 z10 z11 z12 => some (z1, z2, z3, z4, z5, z6, z7, z8, z9, z10, z11, z12)) s.1 (nI i) s.2.1 s.2.2.1 s.2.2.2.1 s.2.2.2.2.1 s.2.2.2.2.2.1 s.2.2.2.2.2.2.1 s.2.2.2.2.2.2.2.1 s.2.2.2.2.2.2.2.2.1 s.2.2.2.2.2.2.2.2.2.1 s.2.2.2.2.2.2.2.2.2.2.1 s.2.2.2.2.2.2.2.2.2.2.2) (fun s' => some s') (fun i s => SR12 n k (sumI i (fun u => sumI k (fun d => mvC n k g p0 u d))) (itF i (fun u => itF k (fun d => mvS n k g w p0 u d)) σ) s) 0 n (Nat.zero_le n) (fun m s _ => ?_) (fun m i s _ hi hI => ?_) 1000000 (0, dt, rs, bp, bs, bb, bt, fp, fs, hf, tb, tt) (by omega) ⟨rfl, hs⟩
  · exact key
  · show fX7_tryMoves_L5 area com cores (nI k) len nb outer places sets pop (g 206) (nI n) w (m + 1) _ _ (nI n) _ _ _ _ _ _ _ _ _ _ _ = _
    rw [fX7_tryMoves_L5, if_pos (nI_leS n (by omega))]
  · show ∃ s' : T12, SR12 n k (sumI i _ + sumI k (fun d => mvC n k g p0 i d)) (itF k (fun d => mvS n k g w p0 i d) (itF i (fun u => itF k (fun d => mvS n k g w p0 u d)) σ)) s' ∧ fX7_tryMoves_L5 area com cores (nI k) len nb outer places sets pop (g 206) (nI n) w (m + 1) _ _ (nI i) _ _ _ _ _ _ _ _ _ _ _ = _
    rw [fX7_tryMoves_L5, if_neg (nI_ge hi (by omega)), nI_1]
    exact tm_inner h hw h1 hk hP hi _ _ _ s hI
theorem ts_inner (h : MapR g n pop area com outer nb len cores) (hw : MapW g n) (h1 : 1 ≤ n) (hk : k ≤ 4) (hP : PlanR n k places sets p0) {u : Nat} (hu : u < n) (kf : Int32 → Int32 → Int32 → (Nat → Int32) → (Nat → Int32) → Int64 → Int64 → (Nat → Int32) → (Nat → Int32) → Int32 → Int64 → Int64 → Option T12) (c : Int32) (σ : SS) (s : T12) (hs : SR12 n k c σ s) :
    ∃ s' : T12, SR12 n k (c + sumI n (fun v => swC n k g p0 u v)) (itF n (fun v => swS n k g w p0 u v) σ) s' ∧ fX7_trySwaps_L20 area com cores (nI k) len nb outer places sets pop (g 206) (nI n) w (nI u) 1000000 kf s.1 (nI (u + 1)) s.2.1 s.2.2.1 s.2.2.2.1 s.2.2.2.2.1 s.2.2.2.2.2.1 s.2.2.2.2.2.2.1 s.2.2.2.2.2.2.2.1 s.2.2.2.2.2.2.2.2.1 s.2.2.2.2.2.2.2.2.2.1 s.2.2.2.2.2.2.2.2.2.2.1 s.2.2.2.2.2.2.2.2.2.2.2 = kf s'.1 s'.2.1 s'.2.2.1 s'.2.2.2.1 s'.2.2.2.2.1 s'.2.2.2.2.2.1 s'.2.2.2.2.2.2.1 s'.2.2.2.2.2.2.2.1 s'.2.2.2.2.2.2.2.2.1 s'.2.2.2.2.2.2.2.2.2.1 s'.2.2.2.2.2.2.2.2.2.2.1 s'.2.2.2.2.2.2.2.2.2.2.2 := by
  have hn := h.n12
  have z1 : ∀ i, i ≤ u + 1 → sumI i (fun v => swC n k g p0 u v) = 0 := fun i hi => sumI_zero (fun v hv => if_neg (by omega))
  have z2 : ∀ i, i ≤ u + 1 → itF i (fun v => swS n k g w p0 u v) σ = σ := by
    intro i
    induction i with
    | zero => intro _; rfl
    | succ i ih => intro hi; rw [itF, ih (by omega)]; exact if_neg (by omega)
  refine upI (fun m i (s : T12) => fX7_trySwaps_L20 area com cores (nI k) len nb outer places sets pop (g 206) (nI n) w (nI u) m kf s.1 (nI i) s.2.1 s.2.2.1 s.2.2.2.1 s.2.2.2.2.1 s.2.2.2.2.2.1 s.2.2.2.2.2.2.1 s.2.2.2.2.2.2.2.1 s.2.2.2.2.2.2.2.2.1 s.2.2.2.2.2.2.2.2.2.1 s.2.2.2.2.2.2.2.2.2.2.1 s.2.2.2.2.2.2.2.2.2.2.2) (fun s' => kf s'.1 s'.2.1 s'.2.2.1 s'.2.2.2.1 s'.2.2.2.2.1 s'.2.2.2.2.2.1 s'.2.2.2.2.2.2.1 s'.2.2.2.2.2.2.2.1 s'.2.2.2.2.2.2.2.2.1 s'.2.2.2.2.2.2.2.2.2.1 s'.2.2.2.2.2.2.2.2.2.2.1 s'.2.2.2.2.2.2.2.2.2.2.2) (fun i s => SR12 n k (c + sumI i (fun v => swC n k g p0 u v)) (itF i (fun v => swS n k g w p0 u v) σ) s) (u + 1) n (by omega) (fun m s _ => ?_) (fun m i s hui hi hI => ?_) 1000000 s (by omega) ?_
  · show fX7_trySwaps_L20 area com cores (nI k) len nb outer places sets pop (g 206) (nI n) w (nI u) (m + 1) kf _ (nI n) _ _ _ _ _ _ _ _ _ _ _ = _
    rw [fX7_trySwaps_L20, if_pos (nI_leS n (by omega))]
  · obtain ⟨c0, dt, rs, bp, bs, bb, bt, fp, fs, hf, tb, tt⟩ := s
    obtain ⟨i1, i2⟩ := hI
    have i1 : c0 = c + sumI i (fun v => swC n k g p0 u v) := i1
    have i2 : SR n k (itF i (fun v => swS n k g w p0 u v) σ) bb bt fp fs hf := i2
    show ∃ s' : T12, SR12 n k (c + (sumI i _ + swC n k g p0 u i)) (swS n k g w p0 u i (itF i (fun v => swS n k g w p0 u v) σ)) s' ∧ fX7_trySwaps_L20 area com cores (nI k) len nb outer places sets pop (g 206) (nI n) w (nI u) (m + 1) kf c0 (nI i) dt rs bp bs bb bt fp fs hf tb tt = _
    rw [fX7_trySwaps_L20, if_neg (nI_ge hi (by omega)), if_pos ((inR_nI (by omega)).mpr (by omega)), if_pos ((inR_nI (by omega)).mpr (by omega)), nI_clamp (by omega), nI_clamp (by omega), (hP.1 u hu).1, (hP.1 i hi).1, nI_1, ← add_as, ← i1]
    generalize itF i (fun v => swS n k g w p0 u v) σ = σi at i2 ⊢
    clear i1
    unfold swS swC
    rw [if_pos (show u < i by omega), if_pos (show u < i by omega)]
    by_cases e1 : p0 u = p0 i
    · rw [if_pos e1, if_pos e1, if_pos e1]
      exact ⟨(c0, dt, rs, bp, bs, bb, bt, fp, fs, hf, tb, tt), ⟨(add_0 c0).symm, i2⟩, rfl⟩
    · rw [if_neg e1, if_neg e1, if_neg e1]
      obtain ⟨bp', bs', e2, hB⟩ := pX3_judgeSwap (p4 := bp) (s4 := bs) (dt := dt) (rs := rs) h hk hP hu hi (by omega)
      rw [e2, bind_s]
      by_cases e3 : (swapS n k g p0 u i).1 = 0
      · rw [if_pos e3, if_pos e3, if_pos e3]
        obtain ⟨bb', bt', fp', fs', hf', tb', tt', e4, hS⟩ := pX7_consider (w := w) (tb := tb) (tt := tt) h hw h1 hk (hB (swap0 e3)) i2
        rw [e4, bind_s]
        exact ⟨(c0 + 1, _, _, bp', bs', bb', bt', fp', fs', hf', tb', tt'), ⟨rfl, hS⟩, rfl⟩
      · rw [if_neg e3, if_neg e3, if_neg e3]
        exact ⟨(c0, _, _, bp', bs', bb, bt, fp, fs, hf, tb, tt), ⟨(add_0 c0).symm, i2⟩, rfl⟩
  · obtain ⟨i1, i2⟩ := hs
    show SR12 n k (c + sumI (u + 1) (fun v => swC n k g p0 u v)) (itF (u + 1) (fun v => swS n k g w p0 u v) σ) s
    rw [z1 _ (Nat.le_refl _), z2 _ (Nat.le_refl _), add_0]
    exact ⟨i1, i2⟩
theorem pX7_trySwaps (h : MapR g n pop area com outer nb len cores) (hw : MapW g n) (h1 : 1 ≤ n) (hk : k ≤ 4) (hP : PlanR n k places sets p0) (dt rs : Int32) (bp bs : Nat → Int32) (bb bt : Int64) (fp fs : Nat → Int32) (hf : Int32) (tb tt : Int64) (σ : SS) (hs : SR n k σ bb bt fp fs hf) :
    ∃ s' : T12, SR12 n k (swCnt n k g p0) (swAll n k g w p0 σ) s' ∧ fX7_trySwaps area com cores (nI k) len nb outer places sets pop (g 206) (nI n) dt rs bp bs bb bt fp fs hf w tb tt = some s' := by
  have hn := h.n12
  rw [fX7_trySwaps]
  have key := upI (fun m i (s : T12) => fX7_trySwaps_L5 area com cores (nI k) len nb outer places sets pop (g 206) (nI n) w m (fun z1 z2 z3 z4 z5 z6 z7 z8 z9 z10 z11 z12 => some (z1, z2, z3, z4, z5, z6, z7, z8, z9, z10, z11, z12)) s.1 (nI i) s.2.1 s.2.2.1 s.2.2.2.1 s.2.2.2.2.1 s.2.2.2.2.2.1 s.2.2.2.2.2.2.1 s.2.2.2.2.2.2.2.1 s.2.2.2.2.2.2.2.2.1 s.2.2.2.2.2.2.2.2.2.1 s.2.2.2.2.2.2.2.2.2.2.1 s.2.2.2.2.2.2.2.2.2.2.2) (fun s' => some s') (fun i s => SR12 n k (sumI i (fun u => sumI n (fun v => swC n k g p0 u v))) (itF i (fun u => itF n (fun v => swS n k g w p0 u v)) σ) s) 0 n (Nat.zero_le n) (fun m s _ => ?_) (fun m i s _ hi hI => ?_) 1000000 (0, dt, rs, bp, bs, bb, bt, fp, fs, hf, tb, tt) (by omega) ⟨rfl, hs⟩
  · exact key
  · show fX7_trySwaps_L5 area com cores (nI k) len nb outer places sets pop (g 206) (nI n) w (m + 1) _ _ (nI n) _ _ _ _ _ _ _ _ _ _ _ = _
    rw [fX7_trySwaps_L5, if_pos (nI_leS n (by omega))]
  · show ∃ s' : T12, SR12 n k (sumI i _ + sumI n (fun v => swC n k g p0 i v)) (itF n (fun v => swS n k g w p0 i v) (itF i (fun u => itF n (fun v => swS n k g w p0 u v)) σ)) s' ∧ fX7_trySwaps_L5 area com cores (nI k) len nb outer places sets pop (g 206) (nI n) w (m + 1) _ _ (nI i) _ _ _ _ _ _ _ _ _ _ _ = _
    rw [fX7_trySwaps_L5, if_neg (nI_ge hi (by omega)), nI_1]
    exact ts_inner h hw h1 hk hP hi _ _ _ s hI
end SE
