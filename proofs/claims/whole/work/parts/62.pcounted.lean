/-! the class's count is the number of lawful rows -/
theorem mask_lo {u : Nat} {us : List Nat} (h : Asc (u :: us)) : maskL (u :: us) &&& (-(maskL (u :: us))) = bitI u ∧ maskL (u :: us) &&& (bitI u ^^^ (-1 : Int32)) = maskL us := by
  have h32 : ∀ v ∈ u :: us, v < 32 := fun v hv => by have := h.lt v hv; omega
  have h32' : ∀ v ∈ us, v < 32 := fun v hv => h32 v (List.mem_cons_of_mem _ hv)
  have hb := pbit_maskL h32
  constructor
  · obtain ⟨j, hj, e⟩ := in512 (fun v hv => h.lt v ((hb v).mp hv))
    rw [e]
    rw [e] at hb
    exact minus_C ⟨u, h.1⟩ ⟨j, hj⟩ ((hb u).mpr List.mem_cons_self) (fun v hv => by
      rcases List.mem_cons.mp ((hb v.val).mp hv) with q | q
      · exact Nat.le_of_eq q.symm
      · exact Nat.le_of_lt (h.2.1 v.val q))
  · apply pbit_ext
    intro v hv
    rw [pbit_and, pbit_not _ hv, pbit_shl (h32 u List.mem_cons_self), Bool.eq_iff_iff, Bool.and_eq_true, hb v, pbit_maskL h32', List.mem_cons]
    constructor
    · rintro ⟨q | q, h2⟩
      · rw [q, decide_eq_true rfl] at h2; cases h2
      · exact q
    · intro q
      have := h.2.1 v q
      exact ⟨Or.inr q, by rw [decide_eq_false (show ¬ u = v by omega)]; rfl⟩
theorem mask_rest {us : List Nat} {p : Int32} (h : ∀ v ∈ us, v < 32) : maskL us &&& (p ^^^ (-1 : Int32)) = maskL (restL us p) := by
  apply pbit_ext
  intro v hv
  have h2 : ∀ w ∈ restL us p, w < 32 := fun w hw => h w (List.mem_filter.mp hw).1
  rw [pbit_and, pbit_not _ hv, Bool.eq_iff_iff, Bool.and_eq_true, pbit_maskL h, pbit_maskL h2]
  unfold restL
  rw [List.mem_filter]
theorem asc_len : ∀ {us : List Nat} {N : Nat}, Asc us → (∀ v ∈ us, N ≤ v) → N ≤ 9 → us.length + N ≤ 9
  | [], N, _, _, h => by rw [List.length_nil]; omega
  | u :: us, N, h, hN, _ => by
    have h1 := hN u List.mem_cons_self
    have := asc_len (N := u + 1) h.2.2 (fun v hv => h.2.1 v hv) (by have := h.1; omega)
    rw [List.length_cons]; omega
theorem bitI_nz {u : Nat} (hu : u < 32) : ∀ v, pbit (bitI u) v = decide (u = v) := fun v => pbit_shl hu
theorem pX0_countFrom {poss : Nat → Int32} {P : Int32 → Bool} (hP : ∀ s, P s = decide (¬ poss s.toNatClampNeg = 0)) (h0 : poss 0 = 0) : ∀ (dd left : Nat) (us : List Nat), Asc us → 1 ≤ left → left ≤ dd → left < 100 → fX0_countFrom dd poss (maskL us) (nI left) = some (nI (waysC P us [] left)) := by
  have hP0 : P 0 = false := by
    rw [hP]
    exact decide_eq_false fun q => q h0
  intro dd
  induction dd with
  | zero => intro left us _ h1 h2; omega
  | succ dd ih =>
    intro left us hA h1 h2 h3
    have h32 : ∀ v ∈ us, v < 32 := fun v hv => by have := hA.lt v hv; omega
    have hin : inR (maskL us) 512 := inR_bits (Nat.le_refl 9) (fun v hv => hA.lt v ((pbit_maskL h32 v).mp hv))
    rw [fX0_countFrom]
    by_cases hl : 1 < left
    · rw [if_pos (show (1 : Int32) < nI left from nI_lt hl (by omega))]
      obtain ⟨m, rfl⟩ : ∃ m, left = m + 2 := ⟨left - 2, by omega⟩
      have elm : nI (m + 2) - (1 : Int32) = nI (m + 1) := by
        rw [show nI (m + 2) = nI (m + 1) + 1 by rw [nI_1]]
        simp
      cases us with
      | nil =>
        have e0 : maskL [] &&& (-(maskL [])) = 0 := by decide
        have e1 : maskL [] &&& ((maskL [] &&& (-(maskL []))) ^^^ (-1 : Int32)) = 0 := by decide
        have eL := pX0_L42 (rc := fX0_countFrom dd) (poss := poss) (left := nI (m + 2)) (low := 0) (M := 0) (f := fun _ => 0) (fun z => some z) [] 0 1000000 0 0 rfl (fun q hq => by
          rw [List.mem_singleton] at hq
          subst hq
          exact ⟨by decide, fun _ => rfl, fun h => absurd h0 h⟩) (by decide) (by decide)
        rw [e1, e0]
        refine Eq.trans eL ?_
        rw [waysC, if_neg (fun q => by omega)]; rfl
      | cons u us =>
        obtain ⟨e1, e2⟩ := mask_lo hA
        have hA' := hA.2.2
        have h32' : ∀ v ∈ us, v < 32 := fun v hv => h32 v (List.mem_cons_of_mem _ hv)
        have hu9 := hA.1
        rw [e1, e2]
        obtain ⟨L, hL⟩ := subs_head us
        have hlen : (subs us).length ≤ 512 := by
          rw [subs_len]
          have := asc_len hA' (N := 0) (fun v _ => Nat.zero_le v) (by decide)
          exact Nat.pow_le_pow_right (by decide) (show us.length ≤ 9 by omega)
        have hch := subs_ch hA'
        have hbits : ∀ q ∈ subs us, ∀ v, pbit q v = true → v ∈ us := fun q hq => subs_bits h32' hq
        rw [hL] at hlen hch hbits
        rw [List.length_cons] at hlen
        have key := pX0_L42 (rc := fX0_countFrom dd) (poss := poss) (left := nI (m + 2)) (low := bitI u) (M := maskL us) (f := fun p => if P (bitI u ||| p) then waysC P (restL us p) [] (m + 1) else 0) (fun z => some z) L (maskL us) 1000000 0 0 hch (fun q hq => by
          refine ⟨inR_bits (Nat.le_refl 9) (fun v hv => ?_), fun hz => ?_, fun hz => ?_⟩
          · rw [pbit_or, Bool.or_eq_true, bitI_nz (by omega), decide_eq_true_eq] at hv
            rcases hv with rfl | hv
            · exact hu9
            · exact hA'.lt v (hbits q hq v hv)
          · rw [hP, decide_eq_false (fun h => h hz), if_neg ff]
          · rw [hP, decide_eq_true hz, if_pos rfl, elm, mask_rest h32']
            exact ih (m + 1) (restL us q) hA'.filter (by omega) (by omega) (by omega)) (by omega) (by omega)
        refine Eq.trans key ?_
        rw [Nat.zero_add, ← hL, subs_sum hA' (G := fun p r => if P (bitI u ||| p) then waysC P r [] (m + 1) else 0), ← waysC_peel, waysC, ups, List.map_nil, List.sum_nil, Nat.zero_add]; rfl
    · have : left = 1 := by omega
      subst this
      rw [if_neg (show ¬ (1 : Int32) < nI 1 by decide), if_pos hin]
      have hw : waysC P us [] 1 = if P (maskL us) then 1 else 0 := by
        cases us with
        | nil => rw [waysC, maskL, hP0, if_neg (fun q => absurd q.1 (by decide)), if_neg ff]
        | cons u us =>
          rw [waysC, ups, List.map_nil, List.sum_nil, Nat.zero_add, List.nil_append, waysC_peel, subS_full (c := fun t => P (bitI u ||| t)), maskL, or_cm]
      rw [hw, hP]
      by_cases h : poss (maskL us).toNatClampNeg = 0
      · rw [if_pos h, decide_eq_false (fun q => q h), if_neg ff]; rfl
      · rw [if_neg h, decide_eq_true h, if_pos rfl]; rfl
theorem asc_range : ∀ {r u : Nat}, u + r ≤ 9 → Asc (List.range' u r)
  | 0, _, _ => trivial
  | r + 1, u, h => by
    rw [List.range'_succ]
    refine ⟨by omega, fun v hv => ?_, asc_range (by omega)⟩
    have := (List.mem_range'_1.mp hv).1
    omega
theorem mask_all {n : Nat} (hn : n ≤ 9) : maskL (List.range' 0 n) = allS n := by
  apply pbit_ext
  intro v hv
  rw [pbit_allS (by omega), Bool.eq_iff_iff, pbit_maskL (fun w hw => by have := (List.mem_range'_1.mp hw).2; omega), List.mem_range'_1, decide_eq_true_eq]
  omega
theorem pX0_countAll {g poss : Nat → Int32} {n k : Nat} (hPo : PossR n k g poss) (hn : n ≤ 9) (hk0 : 1 ≤ k) (hk : k ≤ 4) : fX0_countFrom 20 poss (allS n) (nI k) = some (nI (lawR n k g).length) := by
  have h0 : poss 0 = 0 := by
    have := hPo 0 (Nat.two_pow_pos n)
    rw [this, show nI 0 = (0 : Int32) from rfl, okS_congr0, if_neg ff]
  rw [← mask_all hn, pX0_countFrom (P := fun s => decide (¬ poss s.toNatClampNeg = 0)) (fun s => rfl) h0 20 k (List.range' 0 n) (asc_range (by omega)) hk0 (by omega) (by omega)]
  have h1 := kM_ways (poss := poss) (P := fun s => decide (¬ poss s.toNatClampNeg = 0)) hk0 (fun s => rfl) n 0 0 (fun _ => 0) 0 (Nat.zero_le k) (fun _ _ _ => rfl)
  rw [kM_law (S := fun _ => 0) (fun _ _ => rfl) hPo hn hk0 hk, List.length_map, List.range_zero, List.map_nil, Nat.sub_zero] at h1
  rw [h1]
theorem pX0_countBySets {g pop area com outer nb len poss : Nat → Int32} {n k : Nat} {cores hs hp size : Int32} {codes : Nat → Int32} (h : MapR g n pop area com outer nb len cores) (hn : n ≤ 9) (hk0 : 1 ≤ k) (hk : k ≤ 4) (hc : CatR n k g hs poss hp codes size) : ∃ hs' poss', fX0_countBySets com cores (nI k) nb pop (g 206) (nI n) hs poss = some (nI (lawR n k g).length, hs', poss') ∧ CatR n k g hs' poss' hp codes size := by
  obtain ⟨hs', poss', e1, e2, e3⟩ := pX0_sets (poss := poss) (hs := hs) (k := k) h hn (fun q => (hc.1 q).2)
  refine ⟨hs', poss', ?_, fun _ => ⟨hn, e3⟩, hc.2⟩
  rw [fX0_countBySets, if_pos (show nI n ≤ (9 : Int32) from nI_le hn (by decide)), e1, bind_s, pX9_allUnits, bind_s]
  rw [show fX0_countFrom 20 poss' (allS n) (nI k) = _ from pX0_countAll e3 hn hk0 hk]; rfl
