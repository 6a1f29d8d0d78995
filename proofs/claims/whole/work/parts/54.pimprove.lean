/-! improve and possible: class and reference -/
theorem MapR.congr {g g' pop area com outer nb len : Nat → Int32} {n : Nat} {cores : Int32} (h : MapR g n pop area com outer nb len cores) (hg : ∀ x, x < 207 → g' x = g x) : MapR g' n pop area com outer nb len cores := by
  have hn := h.n12
  refine ⟨by rw [hg 204 (by omega)]; exact h.1, hn, fun u hu => ?_, fun u v hu hv => ?_, fun u hu => ?_⟩
  · rw [hg (5 * u) (by omega), hg (5 * u + 1) (by omega), hg (5 * u + 2) (by omega), hg (5 * u + 4) (by omega), hg (5 * u + 3) (by omega)]
    exact h.2.2.1 u hu
  · unfold gB
    rw [hg _ (by omega)]
    exact h.2.2.2.1 u v hu hv
  · rw [h.nb hu]
    unfold nbS
    exact mkS_congr fun v hv => by unfold gB; rw [hg _ (by omega)]
theorem MapW.congr {g g' : Nat → Int32} {n : Nat} (h : MapW g n) (hn : n ≤ 12) (hg : ∀ x, x < 207 → g' x = g x) : MapW g' n := by
  refine ⟨fun u hu => ?_, fun u v hu hv => ?_⟩
  · rw [hg (5 * u) (by omega), hg (5 * u + 1) (by omega), hg (5 * u + 2) (by omega), hg (5 * u + 4) (by omega), hg (5 * u + 3) (by omega)]
    exact h.1 u hu
  · unfold gB
    rw [hg _ (by omega), hg _ (by omega)]
    exact h.2 u v hu hv
theorem putP_lo {g p : Nat → Int32} {x : Nat} (h : x < 207) : putP g p x = g x := if_neg (by omega)
theorem putP_at {g p : Nat → Int32} {x : Nat} (h : x < 12) : putP g p (207 + x) = p x := by
  unfold putP
  rw [if_pos (by omega), show 207 + x - 207 = x by omega]
theorem itF_ind {α : Type} {P : α → Prop} {f : Nat → α → α} (h : ∀ i a, P a → P (f i a)) : ∀ {n : Nat} {a : α}, P a → P (itF n f a)
  | 0, _, ha => ha
  | n + 1, _, ha => h n _ (itF_ind h ha)
/-- none found: the plan stays -/
def noneS (p0 : Nat → Int32) (σ : SS) : Prop := σ.1 = 0 → σ.2.2 = p0
theorem consS_none {n k : Nat} {g : Nat → Int32} {w : Int32} {p0 p : Nat → Int32} {σ : SS} (h : noneS p0 σ) : noneS p0 (consS n k g w σ p) := by
  unfold consS
  split
  · exact h
  · split
    · exact fun e => absurd e n10
    · exact h
theorem stepS_none {n k : Nat} {g : Nat → Int32} {w : Int32} {p0 : Nat → Int32} : noneS p0 (stepS n k g w p0) := by
  unfold stepS swAll mvAll
  refine itF_ind (fun u a ha => itF_ind (fun v a ha => ?_) ha) (itF_ind (fun u a ha => itF_ind (fun d a ha => ?_) ha) (fun _ => rfl))
  · unfold swS
    split
    · split
      · exact ha
      · split
        · exact consS_none ha
        · exact ha
    · exact ha
  · unfold mvS
    split
    · exact ha
    · split
      · exact consS_none ha
      · exact ha
section IM
variable {n k : Nat} {w : Int32} {pop area com outer nb len : Nat → Int32} {cores : Int32}
theorem pImprove {h1 h2 : Int32} {h3 h4 h8 h9 h10 h11 h12 h13 : Nat → Nat → Int32} {h5 h6 h7 h14 h15 : Nat → Int32} {ah : Nat → Int32}
    (k1 : 1 ≤ n) (hk0 : 1 ≤ k) (hk : k ≤ 4) (hm : w ≠ -1) (dd tt0 : Int32) (hdd : dd = nI k)
    (kf : Int32 → Int32 → (Nat → Int32) → (Nat → Int32) → (Nat → Int32) → (Nat → Int32) → Int64 → Int64 → (Nat → Int32) → (Nat → Int32) → Int32 → Int32 → Int64 → Int64 → Option ((String ⊕ Int32) × Int32 × Int32 × (Nat → Nat → Int32) × (Nat → Nat → Int32) × (Nat → Int32) × (Nat → Int32) × (Nat → Int32) × (Nat → Nat → Int32) × (Nat → Nat → Int32) × (Nat → Nat → Int32) × (Nat → Nat → Int32) × (Nat → Nat → Int32) × (Nat → Nat → Int32) × (Nat → Int32) × (Nat → Int32) × Int32 × Int32 × (Nat → Int32) × (Nat → Int32) × (Nat → Int32) × (Nat → Int32) × Int64 × Int64 × (Nat → Int32) × (Nat → Int32) × Int32 × Int32 × Int64 × Int64))
    (hkf : ∀ a1 a2 a3 a4 a5 a6 a7 a8 a9 a10 a11 a12 a13 a14, kf a1 a2 a3 a4 a5 a6 a7 a8 a9 a10 a11 a12 a13 a14 = some (Sum.inr 20, h1, h2, h3, h4, h5, h6, h7, h8, h9, h10, h11, h12, h13, h14, h15, a1, a2, a3, a4, a5, a6, a7, a8, a9, a10, a11, a12, a13, a14))
    (kfM : Int32 → Int64 → Int64 → Int64 → Int64 → (Nat → Int32) → Int32 → (Nat → Int32) → (Nat → Int32) → Option (Int32 × Int64 × (Nat → Int32) × Int64 × Int64 × Int64 × (Nat → Int32) × Int32 × (Nat → Int32) × (Nat → Int32) × Int32 × (Nat → Int32) × Int32)) :
    ∀ (j i m m' : Nat) (g : Nat → Int32) (dt rs : Int32) (pl ps bp bs : Nat → Int32) (bb bt : Int64) (fp fs : Nat → Int32) (hf ms : Int32) (tb tt : Int64) (ab be ba bb2 : Int64) (bpl : Nat → Int32) (dm : Int32) (plan : Nat → Int32), i + j = 20 → j < m → j < m' → MapR g n pop area com outer nb len cores → MapW g n → g 205 = nI k → tt0 = g 206 → PlanR n k pl ps (fun x => g (207 + x)) →
    ∃ (s : Nat) (dt' rs' : Int32) (pl' ps' bp' bs' : Nat → Int32) (bb' bt' : Int64) (fp' fs' : Nat → Int32) (hf' ms' : Int32) (tb' tt' : Int64) (ab' be' ba' bb2' : Int64) (bpl' : Nat → Int32) (dm' : Int32) (g' plan' : Nat → Int32),
      s ≤ 20 ∧ fX10_improve_L22 area com cores dd len nb outer pop tt0 (nI n) w h1 h2 h3 h4 h5 h6 h7 h8 h9 h10 h11 h12 h13 h14 h15 m kf (nI i) dt rs pl ps bp bs bb bt fp fs hf ms tb tt = some (Sum.inr (nI s), h1, h2, h3, h4, h5, h6, h7, h8, h9, h10, h11, h12, h13, h14, h15, dt', rs', pl', ps', bp', bs', bb', bt', fp', fs', hf', ms', tb', tt') ∧
      fX11_improve_L38 w ah m' kfM (nI i) ab be ba bb2 bpl dm g plan = kfM (nI s) ab' be' ba' bb2' bpl' dm' g' plan' ∧ (∀ x, ¬ (207 ≤ x ∧ x < 219) → g' x = g x) ∧ PlanR n k pl' ps' (fun x => g' (207 + x)) := by
  subst hdd
  intro j
  induction j with
  | zero =>
    intro i m m' g dt rs pl ps bp bs bb bt fp fs hf ms tb tt ab be ba bb2 bpl dm plan hi hm1 hm2 hR hW hgk hto hP
    obtain ⟨m, rfl⟩ : ∃ t, m = t + 1 := ⟨m - 1, by omega⟩
    obtain ⟨m', rfl⟩ : ∃ t, m' = t + 1 := ⟨m' - 1, by omega⟩
    have : i = 20 := by omega
    subst this
    refine ⟨20, dt, rs, pl, ps, bp, bs, bb, bt, fp, fs, hf, ms, tb, tt, ab, be, ba, bb2, bpl, dm, g, plan, by omega, ?_, ?_, fun x _ => rfl, hP⟩
    · rw [fX10_improve_L22, if_pos (show (20 : Int32) ≤ nI 20 by decide), hkf]; rfl
    · rw [fX11_improve_L38, if_pos (show (20 : Int32) ≤ nI 20 by decide)]
  | succ j ih =>
    intro i m m' g dt rs pl ps bp bs bb bt fp fs hf ms tb tt ab be ba bb2 bpl dm plan hi hm1 hm2 hR hW hgk hto hP
    obtain ⟨m, rfl⟩ : ∃ t, m = t + 1 := ⟨m - 1, by omega⟩
    obtain ⟨m', rfl⟩ : ∃ t, m' = t + 1 := ⟨m' - 1, by omega⟩
    have hn := hR.n12
    have hP0 : PlanR n k pl ps (tl g plan) := hP.congr (fun _ _ => rfl) (fun _ _ => rfl) (fun u hu => if_pos (by omega))
    have h20 : ¬ (20 : Int32) ≤ nI i := nI_ge (show i < 20 by omega) (by decide)
    obtain ⟨ab', be', ba', bb2', bpl', dm', plan', eM, hσ, hpl⟩ := pX11_steps hR.g204 hn hgk hW k1 hk0 hk hm hP0.m ab bpl dm
    have hno := stepS_none (n := n) (k := k) (g := g) (w := w) (p0 := tl g plan)
    have hS0 : SR n k (0, finM n k g (tl g plan) w, tl g plan) (finM n k g (tl g plan) w).2 (finM n k g (tl g plan) w).1 fp fs 0 := ⟨rfl, Or.inl rfl, rfl, fun e => absurd e (by decide : ¬ (0 : Int32) = 1)⟩
    obtain ⟨⟨c1, d1, r1, bp1, bs1, bb1, bt1, fp1, fs1, hf1, tb1, tt1⟩, ⟨-, s2⟩, eC1⟩ := pX7_tryMoves (w := w) hR hW k1 hk hP0 dt rs bp bs _ _ fp fs 0 tb tt _ hS0
    have s2 : SR n k (mvAll n k g w (tl g plan) (0, finM n k g (tl g plan) w, tl g plan)) bb1 bt1 fp1 fs1 hf1 := s2
    obtain ⟨⟨c2, d2, r2, bp2, bs2, bb3, bt2, fp2, fs2, hf2, tb2, tt2⟩, ⟨-, s3⟩, eC2⟩ := pX7_trySwaps (w := w) hR hW k1 hk hP0 d1 r1 bp1 bs1 _ _ fp1 fs1 hf1 tb1 tt1 _ s2
    have s3 : SR n k (stepS n k g w (tl g plan)) bb3 bt2 fp2 fs2 hf2 := s3
    obtain ⟨t1, t2, t3, t4⟩ := s3
    have t1 : hf2 = (stepS n k g w (tl g plan)).1 := t1
    rw [fX10_improve_L22, if_neg h20, fX7_begin, if_neg hm, pX6_weigh hR hW k1 hk hP0, bind_s, bind_s, hto, eC1, bind_s, eC2, bind_s]
    rw [fX11_improve_L38, if_neg h20, eM, bind_s]
    generalize stepS n k g w (tl g plan) = σ at hσ hno t1 t2 t3 t4 ⊢
    rcases hσ with e0 | e1
    · have eq : putP g σ.2.2 = g := by
        rw [hno e0]
        funext x
        unfold putP
        by_cases e : 207 ≤ x ∧ x < 219
        · rw [if_pos e]
          unfold tl
          rw [if_pos (by omega), show 207 + (x - 207) = x by omega]
        · rw [if_neg e]
      rw [eq]
      refine ⟨i, d2, r2, pl, ps, bp2, bs2, bb3, bt2, fp2, fs2, hf2, w, tb2, tt2, ab', be', ba', bb2', bpl', dm', g, plan', by omega, ?_, ?_, fun x _ => rfl, hP⟩
      · rw [if_pos (t1.trans e0)]
      · rw [if_pos e0]
    · have hn0 : ¬ hf2 = 0 := by rw [t1, e1]; exact n10
      have hn1 : ¬ σ.1 = 0 := by rw [e1]; exact n10
      obtain ⟨p5, q5, e5, hP5, -⟩ := pX4_copyFrom (p4 := pl) (s4 := ps) hn (t4 e1)
      rw [if_neg hn0, if_neg hn1]
      simp only []
      rw [e5, bind_s, nI_1]
      have lo : ∀ x, x < 207 → putP g σ.2.2 x = g x := fun x hx => putP_lo hx
      obtain ⟨s, dt', rs', pl', ps', bp', bs', bb', bt', fp', fs', hf', ms', tb', tt', u1, u2, u3, u4, u5, u6, g', u7, v1, v2, v3, v4, v5⟩ := ih (i + 1) m m' (putP g σ.2.2) d2 r2 p5 q5 bp2 bs2 bb3 bt2 fp2 fs2 hf2 w tb2 tt2 ab' be' ba' bb2' bpl' dm' plan' (by omega) (by omega) (by omega) (hR.congr lo) (hW.congr hn lo) (by rw [lo 205 (by omega)]; exact hgk) (by rw [lo 206 (by omega)]; exact hto) (hP5.congr (fun _ _ => rfl) (fun _ _ => rfl) (fun u hu => putP_at (by omega)))
      rw [hto] at v2
      refine ⟨s, dt', rs', pl', ps', bp', bs', bb', bt', fp', fs', hf', ms', tb', tt', u1, u2, u3, u4, u5, u6, g', u7, v1, v2, v3, fun x hx => ?_, v5⟩
      rw [v4 x hx]
      exact if_neg hx
end IM
