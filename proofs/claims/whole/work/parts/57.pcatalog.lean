/-! the class's sets, its list, a plan of it -/
theorem bit_nI {i v : Nat} (hv : v < 32) : pbit (nI i) v = i.testBit v := by
  show (BitVec.ofNat 32 i).getLsbD v = _
  rw [BitVec.getLsbD_ofNat, decide_eq_true hv, Bool.true_and]
theorem bit_nI_lt {i n v : Nat} (hi : i < 2 ^ n) (h : pbit (nI i) v = true) : v < n := by
  have hv := pbit_lt h
  rw [bit_nI hv] at h
  rcases Nat.lt_or_ge v n with q | q
  · exact q
  · rw [Nat.testBit_lt_two_pow (Nat.lt_of_lt_of_le hi (Nat.pow_le_pow_right (by decide) q))] at h
    cases h
theorem allS_nI {n : Nat} (hn : n ≤ 9) : allS n = nI (2 ^ n - 1) ∧ 2 ^ n ≤ 512 := by
  have : ∀ n : Fin 10, allS n.val = nI (2 ^ n.val - 1) ∧ 2 ^ n.val ≤ 512 := by decide +kernel
  exact this ⟨n, by omega⟩
theorem okS_congr0 {n k : Nat} {g : Nat → Int32} : okS n k g 0 = false := by
  cases h : okS n k g 0 with
  | false => rfl
  | true => exact absurd rfl (okS_iff.mp h).1
theorem vp_b0 : vp_nar .boolean (0 : Int32) = 0 := by decide
theorem vp_b1 : vp_nar .boolean (1 : Int32) = 1 := by decide
theorem pX0_findSets {g pop area com outer nb len poss : Nat → Int32} {n k : Nat} {cores : Int32} (h : MapR g n pop area com outer nb len cores) (hn : n ≤ 9) : ∃ poss', fX0_findSets com cores (nI k) nb pop (g 206) (nI n) 0 poss = some (1, poss') ∧ PossR n k g poss' := by
  obtain ⟨ha, h5⟩ := allS_nI hn
  have hp1 : 1 ≤ 2 ^ n := Nat.one_le_two_pow
  have emin : (if ((512 : Int32) - (1 : Int32)) < allS n then ((512 : Int32) - (1 : Int32)) else allS n) = nI (2 ^ n - 1) := by
    rw [ha, show (512 : Int32) - 1 = nI 511 by decide, if_neg (nI_nlt (by omega) (by omega))]
  rw [fX0_findSets, if_pos rfl, pX9_allUnits, bind_s, emin, nm_eq]
  have key := upS (fun m i s => fX0_findSets_L25 com cores (nI k) nb pop (g 206) (nI n) (nI (2 ^ n - 1)) m (fun z => some (1, z)) (nI i) s) (fun i => fun s => if s < i then (if okS n k g (nI s) then 1 else 0) else poss s) (2 ^ n) (some (1, fun s => if s < 2 ^ n then (if okS n k g (nI s) then 1 else 0) else poss s)) (fun m => ?_) (fun m i hi => ?_) 1000000 (by omega)
  · have e0 : (fun s => if s < 0 then (if okS n k g (nI s) then (1 : Int32) else 0) else poss s) = poss := funext fun s => if_neg (by omega)
    simp only [e0] at key
    exact ⟨_, key, fun s hs => if_pos hs⟩
  · show fX0_findSets_L25 com cores (nI k) nb pop (g 206) (nI n) (nI (2 ^ n - 1)) (m + 1) _ (nI (2 ^ n)) _ = _
    rw [fX0_findSets_L25, if_pos (nI_lt (by omega) (by omega))]
  · show fX0_findSets_L25 com cores (nI k) nb pop (g 206) (nI n) (nI (2 ^ n - 1)) (m + 1) _ (nI i) _ = fX0_findSets_L25 com cores (nI k) nb pop (g 206) (nI n) (nI (2 ^ n - 1)) m _ (nI (i + 1)) (fun s => if s < i + 1 then (if okS n k g (nI s) then 1 else 0) else poss s)
    have ein : inR (nI i) 512 := (inR_nI (by omega)).mpr (by omega)
    have hb : ∀ v, pbit (nI i) v = true → v < 12 := fun v hv => Nat.lt_of_lt_of_le (bit_nI_lt hi hv) (by omega)
    have eu : ∀ b : Bool, okS n k g (nI i) = b → upd (fun s => if s < i then (if okS n k g (nI s) then (1 : Int32) else 0) else poss s) i (if b then 1 else 0) = fun s => if s < i + 1 then (if okS n k g (nI s) then 1 else 0) else poss s := by
      intro b hb
      funext s
      by_cases e : s = i
      · subst e; rw [pk_us, if_pos (Nat.lt_succ_self s), hb]
      · rw [pk_un e]
        by_cases e2 : s < i
        · rw [if_pos e2, if_pos (show s < i + 1 by omega)]
        · rw [if_neg e2, if_neg (show ¬ s < i + 1 by omega)]
    generalize (fun s => if s < i then (if okS n k g (nI s) then (1 : Int32) else 0) else poss s) = P at eu ⊢
    rw [fX0_findSets_L25, if_neg (nI_nlt (by omega) (by omega)), nI_clamp (by omega), if_pos ein, if_pos ein, vp_b0, vp_b1, nI_1]
    have no : okS n k g (nI i) = false → upd P i 0 = _ := fun e => eu false e
    have ye : okS n k g (nI i) = true → upd P i 1 = _ := fun e => eu true e
    by_cases e0 : nI i = 0
    · rw [if_pos e0, no (by rw [e0]; exact okS_congr0)]
    · rw [if_neg e0, pX9_isBalanced (by omega), bind_s, offS_congr (fun u hu => h.pop hu), sumI_congr (fun u hu => h.pop hu)]
      by_cases e1 : 100 * offS n (nI k) (fun u => g (5 * u)) (nI i) ≤ g 206 * sumI n (fun u => g (5 * u))
      · rw [if_pos e1, if_neg n10, pX9_splitsCores (by omega), bind_s]
        have ec : anyB 4 (fun c => cutsB (nI i) (memS n com (nI c) &&& cores)) = anyB 4 (fun c => cutsB (nI i) (mkS n (coreB g c))) := by simp only [coresS_eq h]
        rw [ec]
        cases hc : anyB 4 (fun c => cutsB (nI i) (mkS n (coreB g c))) with
        | true =>
          rw [if_pos rfl, if_neg n10, no]
          cases ho : okS n k g (nI i) with
          | false => rfl
          | true =>
            obtain ⟨c, c1, c2⟩ := anyB_iff.mp hc
            rw [(okS_iff.mp ho).2.2.1 c c1] at c2; cases c2
        | false =>
          rw [if_neg ff, if_pos rfl, pX9_isContiguous (by omega) hb, bind_s, reachS_congr (by omega) hb (fun u hu => h.nb hu)]
          by_cases e2 : reachS n (nbS n g) (nI i) = nI i
          · rw [if_pos e2, if_neg n10, ye]
            exact okS_iff.mpr ⟨e0, e1, fun c hc' => anyB_false.mp hc c hc', e2⟩
          · rw [if_neg e2, if_pos rfl, no]
            cases ho : okS n k g (nI i) with
            | false => rfl
            | true => exact absurd (okS_iff.mp ho).2.2.2 e2
      · rw [if_neg e1, if_pos rfl, no]
        cases ho : okS n k g (nI i) with
        | false => rfl
        | true => exact absurd (okS_iff.mp ho).2.1 e1
/-- a district in a number -/
def decI (c : Int32) (w : Nat) : Int32 := (c >>> (((2 : Int32) * nI w) &&& 31)) &&& 3
theorem pbit_3 {v : Nat} : pbit 3 v = decide (v < 2) := by
  rcases Nat.lt_or_ge v 32 with hv | hv
  · have : ∀ v : Fin 32, pbit 3 v.val = decide (v.val < 2) := by decide +kernel
    exact this ⟨v, hv⟩
  · rw [pbit_ge hv]
    exact (decide_eq_false (by omega)).symm
theorem decI_bit {c : Int32} {w v : Nat} (hw : w < 9) : pbit (decI c w) v = (decide (v < 2) && pbit c (2 * w + v)) := by
  unfold decI
  rw [pbit_and, pbit_3]
  by_cases h : v < 2
  · rw [decide_eq_true h, Bool.and_true, Bool.true_and]
    have hk : ∀ u : Fin 9, (((((2 : Int32) * nI u.val) &&& 31) : Int32).toBitVec.smod 32).toNat = 2 * u.val := by decide +kernel
    show (c.toBitVec.sshiftRight (((((2 : Int32) * nI w) &&& 31) : Int32).toBitVec.smod 32).toNat).getLsbD v = c.toBitVec.getLsbD (2 * w + v)
    rw [hk ⟨w, hw⟩, BitVec.getLsbD_sshiftRight]
    have h1 : ¬ 32 ≤ v := by omega
    have h2 : 2 * w + v < 32 := by omega
    simp [h2, h1]
  · rw [decide_eq_false h, Bool.and_false, Bool.false_and]
theorem shl2_bit {d w v : Nat} (hd : d < 4) (hw : w < 9) (hv : v < 32) : pbit (nI d <<< (((2 : Int32) * nI w) &&& 31)) v = (decide (2 * w ≤ v ∧ v < 2 * w + 2) && pbit (nI d) (v - 2 * w)) := by
  have : ∀ (d : Fin 4) (w : Fin 9) (v : Fin 32), pbit (nI d.val <<< (((2 : Int32) * nI w.val) &&& 31)) v.val = (decide (2 * w.val ≤ v.val ∧ v.val < 2 * w.val + 2) && pbit (nI d.val) (v.val - 2 * w.val)) := by decide +kernel
  exact this ⟨d, hd⟩ ⟨w, hw⟩ ⟨v, hv⟩
theorem dec_ne {c : Int32} {u w d : Nat} (hd : d < 4) (hu : u < 9) (hw : w < 9) (h : w ≠ u) : decI (codeI c u d) w = decI c w := by
  apply pbit_ext
  intro v _
  rw [decI_bit hw, decI_bit hw]
  by_cases hv : v < 2
  · rw [decide_eq_true hv, Bool.true_and, Bool.true_and]
    unfold codeI
    rw [pbit_or, shl2_bit hd hu (by omega), decide_eq_false (by omega), Bool.false_and, Bool.or_false]
  · rw [decide_eq_false hv, Bool.false_and, Bool.false_and]
theorem dec_eq {c : Int32} {u d : Nat} (hd : d < 4) (hu : u < 9) (h : ∀ v, pbit c v = true → v < 2 * u) : decI (codeI c u d) u = nI d := by
  apply pbit_ext
  intro v hv32
  rw [decI_bit hu]
  by_cases hv : v < 2
  · rw [decide_eq_true hv, Bool.true_and]
    unfold codeI
    rw [pbit_or, shl2_bit hd hu (by omega), decide_eq_true (by omega), Bool.true_and, show 2 * u + v - 2 * u = v by omega]
    cases hb : pbit c (2 * u + v) with
    | false => rfl
    | true => have := h _ hb; omega
  · rw [decide_eq_false hv, Bool.false_and]
    cases hb : pbit (nI d) v with
    | false => rfl
    | true => exact absurd (bit_nI_lt (n := 2) (by omega) hb) hv
theorem codeI_lo {c : Int32} {u d : Nat} (hd : d < 4) (hu : u < 9) (h : ∀ v, pbit c v = true → v < 2 * u) : ∀ v, pbit (codeI c u d) v = true → v < 2 * (u + 1) := by
  intro v hv
  have h32 := pbit_lt hv
  unfold codeI at hv
  rw [pbit_or, Bool.or_eq_true, shl2_bit hd hu h32, Bool.and_eq_true, decide_eq_true_eq] at hv
  rcases hv with hv | hv
  · have := h v hv; omega
  · omega
theorem codeL_lo : ∀ {t : List Nat} {u w : Nat} {c : Int32}, u + t.length ≤ 9 → (∀ d ∈ t, d < 4) → w < u → decI (codeL u c t) w = decI c w
  | [], _, _, _, _, _, _ => rfl
  | d :: t, u, w, c, hl, hd, hw => by
    rw [List.length_cons] at hl
    rw [codeL, codeL_lo (by omega) (fun e he => hd e (List.mem_cons_of_mem _ he)) (by omega), dec_ne (hd d List.mem_cons_self) (by omega) (by omega) (by omega)]
theorem codeL_at : ∀ {t : List Nat} {u w : Nat} {c : Int32}, u + t.length ≤ 9 → (∀ d ∈ t, d < 4) → (∀ v, pbit c v = true → v < 2 * u) → u ≤ w → w < u + t.length → decI (codeL u c t) w = nI (t.getD (w - u) 0)
  | [], u, w, _, _, _, _, h1, h2 => by rw [List.length_nil] at h2; omega
  | d :: t, u, w, c, hl, hd, hc, h1, h2 => by
    rw [List.length_cons] at hl h2
    have h4 := hd d List.mem_cons_self
    have ht : ∀ e ∈ t, e < 4 := fun e he => hd e (List.mem_cons_of_mem _ he)
    rw [codeL]
    by_cases q : w = u
    · subst q
      rw [codeL_lo (by omega) ht (by omega), dec_eq h4 (by omega) hc, Nat.sub_self]; rfl
    · rw [codeL_at (by omega) ht (codeI_lo h4 (by omega) hc) (by omega) (by omega), show w - u = (w - (u + 1)) + 1 by omega, List.getD_cons_succ]
