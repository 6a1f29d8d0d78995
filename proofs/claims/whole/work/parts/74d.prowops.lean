/-! store, copyRow, bits -/
section RO
def RowR (ex : Int32) (rough : Nat → UInt32) (size : Int32) (whole : Nat → Int32) (parts : Nat → UInt32) (msz mso : Int32) (mwh : Nat → Int32) (r : Nat) : Prop :=
  (mso = 0 ∧ size = 0 ∧ (ex = 0 ∨ ex = 1)) ∨ ∃ k, 2 ≤ k ∧ k ≤ 4 ∧ size = nI k ∧ msz = nI k ∧ ((mso = 1 ∧ ex = 1 ∧ ∀ d, d < k → whole d = mwh (4 * r + d) ∧ ∃ w, w ≤ 1188 ∧ mwh (4 * r + d) = nI w) ∨ (mso = 2 ∧ ex = 0 ∧ ∀ d, d < k → rough d = parts (4 * r + d) ∧ FG (parts (4 * r + d))))
def RowsR (ex : Nat → Int32) (rough : Nat → Nat → UInt32) (size : Nat → Int32) (whole : Nat → Nat → Int32) (parts : Nat → UInt32) (msz mso mwh : Nat → Int32) : Prop := ∀ r, r < 3 → RowR (ex r) (rough r) (size r) (whole r) parts (msz r) (mso r) mwh r
variable {ex : Nat → Int32} {rough : Nat → Nat → UInt32} {size : Nat → Int32} {whole : Nat → Nat → Int32} {parts : Nat → UInt32} {msz mso mwh : Nat → Int32}
variable {g area com : Nat → Int32} {cores dist has : Int32} {len nb outer places sets pop : Nat → Int32} {tol units : Int32}
theorem pX10_isRow (x : Int32) : fX10_isRow x = some (if inR x 3 then 1 else 0) := by
  rw [fX10_isRow]
  rcases rng (x := x) (n := 3) (by decide) with ⟨a, b, c⟩ | ⟨a, b⟩ | ⟨a, b, c⟩
  · rw [if_neg b, if_neg ((lt_nle x 3).mp c), if_pos a]
  · rw [if_pos b, if_neg a]
  · rw [if_neg b, if_pos (Decidable.byContradiction fun q => c ((lt_nle x 3).mpr q)), if_neg a]
theorem pX11_isRow (x : Int32) : fX11_isRow x = some (if inR x 3 then 1 else 0) := by
  rw [fX11_isRow, show fX11_in x 0 2 = _ from pX11_inZ (n := 2) (by decide) x, bind_s, if_pos isB01]
theorem take_exact {r0 : Nat → UInt32} {w0 : Nat → Int32} {n k : Nat} (hn : n ≤ 12) (hk : k ≤ 4) : fX5_takeFrom area (nI k) len outer sets pop (nI n) r0 w0 1 = some (1, r0, nI k, fun d => if d < k then ssum n (sets d) pop else w0 d) := by
  rw [fX5_takeFrom, if_pos (Or.inr rfl)]
  have key := upS (fun m i z => fX5_takeFrom_L15 area len outer sets pop (nI n) 1 1 (nI k) m (fun z15_t_rough z15_t_whole => some ((1 : Int32), z15_t_rough, nI k, z15_t_whole)) (nI i) r0 z) (fun i => fun d => if d < i then ssum n (sets d) pop else w0 d) k (some ((1 : Int32), r0, nI k, fun d => if d < k then ssum n (sets d) pop else w0 d)) (fun m => ?_) (fun m i hi => ?_) 1000000 (by omega)
  · have e0 : (fun d => if d < 0 then ssum n (sets d) pop else w0 d) = w0 := funext fun s => if_neg (by omega)
    simp only [e0] at key
    exact key
  · show fX5_takeFrom_L15 area len outer sets pop (nI n) 1 1 (nI k) (m + 1) _ (nI k) _ _ = _
    rw [fX5_takeFrom_L15, if_pos (nI_leS k (by omega))]
  · show fX5_takeFrom_L15 area len outer sets pop (nI n) 1 1 (nI k) (m + 1) _ (nI i) _ _ = fX5_takeFrom_L15 area len outer sets pop (nI n) 1 1 (nI k) m _ (nI (i + 1)) r0 (fun d => if d < i + 1 then ssum n (sets d) pop else w0 d)
    have i4 : inR (nI i) 4 := (inR_nI (by omega)).mpr (by omega)
    rw [fX5_takeFrom_L15, if_neg (nI_ge hi (by omega)), if_pos i4, if_neg n10, nI_clamp (by omega), pX9_populationOf hn, bind_s, if_pos i4, nI_1]
    congr 1
    funext d
    by_cases e : d = i
    · subst e; rw [pk_us, if_pos (Nat.lt_succ_self d)]
    · rw [pk_un e]
      by_cases e2 : d < i
      · rw [if_pos e2, if_pos (show d < i + 1 by omega)]
      · rw [if_neg e2, if_neg (show ¬ d < i + 1 by omega)]
theorem take_rough {r0 : Nat → UInt32} {w0 plan : Nat → Int32} {n k : Nat} (hR : MapR g n pop area com outer nb len cores) (hW : MapW g n) (hP : PlanR n k places sets plan) (hk : k ≤ 4) : fX5_takeFrom area (nI k) len outer sets pop (nI n) r0 w0 0 = some (0, (fun d => if d < k then comC n g plan d else r0 d), nI k, w0) := by
  rw [fX5_takeFrom, if_pos (Or.inl rfl)]
  have key := upS (fun m i z => fX5_takeFrom_L15 area len outer sets pop (nI n) 0 0 (nI k) m (fun z15_t_rough z15_t_whole => some ((0 : Int32), z15_t_rough, nI k, z15_t_whole)) (nI i) z w0) (fun i => fun d => if d < i then comC n g plan d else r0 d) k (some ((0 : Int32), (fun d => if d < k then comC n g plan d else r0 d), nI k, w0)) (fun m => ?_) (fun m i hi => ?_) 1000000 (by omega)
  · have e0 : (fun d => if d < 0 then comC n g plan d else r0 d) = r0 := funext fun s => if_neg (by omega)
    simp only [e0] at key
    exact key
  · show fX5_takeFrom_L15 area len outer sets pop (nI n) 0 0 (nI k) (m + 1) _ (nI k) _ _ = _
    rw [fX5_takeFrom_L15, if_pos (nI_leS k (by omega))]
  · show fX5_takeFrom_L15 area len outer sets pop (nI n) 0 0 (nI k) (m + 1) _ (nI i) _ _ = fX5_takeFrom_L15 area len outer sets pop (nI n) 0 0 (nI k) m _ (nI (i + 1)) (fun d => if d < i + 1 then comC n g plan d else r0 d) w0
    have i4 : inR (nI i) 4 := (inR_nI (by omega)).mpr (by omega)
    rw [fX5_takeFrom_L15, if_neg (nI_ge hi (by omega)), if_pos i4, if_pos rfl, nI_clamp (by omega), pX6_rough hR hW hP (by omega), bind_s, if_pos i4, nI_1]
    congr 1
    funext d
    by_cases e : d = i
    · subst e; rw [vf_s, if_pos (Nat.lt_succ_self d)]
    · rw [vf_n e]
      by_cases e2 : d < i
      · rw [if_pos e2, if_pos (show d < i + 1 by omega)]
      · rw [if_neg e2, if_neg (show ¬ d < i + 1 by omega)]
def popS (n : Nat) (g plan : Nat → Int32) (d : Nat) : Int32 := ssum n (setS n plan d) (fun u => g (5 * u))
def prt (n : Nat) (g plan : Nat → Int32) (r i : Nat) (parts : Nat → UInt32) : Nat → UInt32 := fun x => if 4 * r ≤ x ∧ x < 4 * r + i then comC n g plan (x - 4 * r) else parts x
def whl (n : Nat) (g plan : Nat → Int32) (r i : Nat) (mwh : Nat → Int32) : Nat → Int32 := fun x => if 4 * r ≤ x ∧ x < 4 * r + i then popS n g plan (x - 4 * r) else mwh x
theorem store_L65 {plan sz so : Nat → Int32} {n k r : Nat} (hg : g 204 = nI n) (hn : n ≤ 12) (hW : MapW g n) (h5 : g 205 = nI k) (hk : k ≤ 4) (hr : r < 3) (kf : (Nat → UInt32) → (Nat → Int32) → Option (Int32 × (Nat → UInt32) × (Nat → Int32) × (Nat → Int32) × (Nat → Int32) × Int32 × (Nat → Int32))) : fX11_store_L65 g (nI r) plan sz so 1000000 kf 0 parts mwh = kf (prt n g plan r k parts) (whl n g plan r k mwh) := by
  have key := upS (fun m i (z : (Nat → UInt32) × (Nat → Int32)) => fX11_store_L65 g (nI r) plan sz so m kf (nI i) z.1 z.2) (fun i => (prt n g plan r i parts, whl n g plan r i mwh)) k (kf (prt n g plan r k parts) (whl n g plan r k mwh)) (fun m => ?_) (fun m i hi => ?_) 1000000 (by omega)
  · have e0 : prt n g plan r 0 parts = parts := funext fun s => if_neg (by omega)
    have e1 : whl n g plan r 0 mwh = mwh := funext fun s => if_neg (by omega)
    simp only [e0, e1] at key
    exact key
  · show fX11_store_L65 g (nI r) plan sz so (m + 1) kf (nI k) _ _ = _
    rw [fX11_store_L65, k205, h5, if_pos (nI_leS k (by omega))]
  · show fX11_store_L65 g (nI r) plan sz so (m + 1) kf (nI i) (prt n g plan r i parts) (whl n g plan r i mwh) = fX11_store_L65 g (nI r) plan sz so m kf (nI (i + 1)) (prt n g plan r (i + 1) parts) (whl n g plan r (i + 1) mwh)
    have ei : ((4 : Int32) * nI r) + nI i = nI (4 * r + i) := by rw [show (4 : Int32) = nI 4 from rfl, pk_mul, nI_add]
    have i12 : inR (nI (4 * r + i)) 12 := (inR_nI (by omega)).mpr (by omega)
    rw [fX11_store_L65, k205, h5, if_neg (nI_ge hi (by omega)), pX11_set hg hn, bind_s, show fX11_sum g _ (0 : Int32) = _ from pX11_sum (w := 0) hg hn (by decide), bind_s, ei, if_pos i12, pX11_compactness hg hn hW, bind_s, if_pos i12, nI_clamp (by omega), nI_1]
    congr 1
    · funext j
      by_cases e : j = 4 * r + i
      · subst e
        unfold prt
        rw [vf_s, if_pos (by omega)]
        congr 1; omega
      · rw [vf_n e]
        unfold prt
        by_cases e2 : 4 * r ≤ j ∧ j < 4 * r + i
        · rw [if_pos e2, if_pos (by omega)]
        · rw [if_neg e2, if_neg (by omega)]
    · funext j
      by_cases e : j = 4 * r + i
      · subst e
        unfold whl
        rw [pk_us, if_pos (by omega), show 4 * r + i - 4 * r = i by omega]
        rfl
      · rw [pk_un e]
        unfold whl
        by_cases e2 : 4 * r ≤ j ∧ j < 4 * r + i
        · rw [if_pos e2, if_pos (by omega)]
        · rw [if_neg e2, if_neg (by omega)]
theorem popS_ok {plan : Nat → Int32} {n : Nat} (h : MapW g n) (hn : n ≤ 12) (d : Nat) : ∃ w, w ≤ 1188 ∧ popS n g plan d = nI w := by
  obtain ⟨s, h1, h2⟩ := ssum_ex (f := fun u => g (5 * u)) (n := n) (B := 99) (set := setS n plan d) (fun u hu => by obtain ⟨x, _, h2, h3⟩ := (h.1 u hu).1; exact ⟨x, h2, h3⟩)
  exact ⟨s, by omega, h2⟩
theorem op_store (h : WR g area com cores dist has len nb outer places sets pop tol units) (hr : RowsR ex rough size whole parts msz mso mwh) (plan : Nat → Int32) (x y : Int32) (hy : y = 0 ∨ y = 1) :
    ∃ r ex' rough' size' whole' b parts' plan' msz' mso' th mwh', fX10_store area dist has len outer sets pop units ex rough size whole x y = some (r, ex', rough', size', whole') ∧ fX11_store g parts plan msz mso mwh x y = some (b, parts', plan', msz', mso', th, mwh') ∧ ansR ["java/lang/IndexOutOfBoundsException", "java/lang/IllegalStateException"] r b th ∧ RowsR ex' rough' size' whole' parts' msz' mso' mwh' := by
  obtain ⟨n, k, rfl, hR, hW, hX, rfl, e3, e4, e5, rfl, ⟨t, e7, e8⟩, rfl, e10, e11⟩ := h
  have hn := hR.n12
  have hg := hR.g204
  rw [fX10_store, fX11_store, pX10_isRow, bind_s, pX11_isRow, bind_s, k219, k205, e3]
  by_cases hx : inR x 3
  · obtain ⟨r, hr3, rfl⟩ := inR_of hx (by decide)
    rw [if_pos hx, if_neg n10, if_neg n10, fX10_checkPlan]
    by_cases hp : g 219 = 0
    · rw [if_pos hp, if_pos hp, bind_s, se_l]
      exact ⟨_, _, _, _, _, _, _, _, _, _, _, _, rfl, rfl, ⟨by decide +kernel, by decide +kernel⟩, hr⟩
    · obtain ⟨h1, hP⟩ := e11 (e10.resolve_left hp)
      have hP0 : PlanR n k places sets (tl g plan) := hP.congr (fun _ _ => rfl) (fun _ _ => rfl) (fun u hu => if_pos (by omega))
      have hcl : (nI r).toNatClampNeg = r := nI_clamp (by omega)
      rw [if_neg hp, if_neg hp, bind_s, se_r, pX11_tells, bind_s]
      repeat rw [if_pos hx]
      rw [hcl]
      rcases hy with rfl | rfl
      · rw [take_rough hR hW hP0 e5, bind_s, if_pos hx, if_pos rfl, store_L65 hg hn hW e3 e5 hr3]
        refine ⟨_, _, _, _, _, _, _, _, _, _, _, _, rfl, rfl, ⟨rfl, by rw [vu_s]⟩, fun q hq => ?_⟩
        by_cases e : q = r
        · subst e
          rw [vu_s, vu_s, vu_s, vu_s, pk_us, pk_us]
          refine Or.inr ⟨k, e4, e5, rfl, rfl, Or.inr ⟨rfl, rfl, fun d hd => ?_⟩⟩
          have e9 : prt n g (tl g plan) q k parts (4 * q + d) = comC n g (tl g plan) d := by
            unfold prt
            rw [if_pos (by omega)]
            congr 1; omega
          rw [e9]
          exact ⟨if_pos hd, comC_ok hW hn d⟩
        · rw [vu_n e, vu_n e, vu_n e, vu_n e, pk_un e, pk_un e]
          rcases hr q hq with q1 | ⟨k', b1, b2, b3, b4, b5⟩
          · exact Or.inl q1
          · refine Or.inr ⟨k', b1, b2, b3, b4, ?_⟩
            rcases b5 with ⟨c1, c2, c3⟩ | ⟨c1, c2, c3⟩
            · refine Or.inl ⟨c1, c2, fun d hd => ?_⟩
              unfold whl
              rw [if_neg (by omega)]
              exact c3 d hd
            · refine Or.inr ⟨c1, c2, fun d hd => ?_⟩
              unfold prt
              rw [if_neg (by omega)]
              exact c3 d hd
      · rw [take_exact hn e5, bind_s, if_pos hx, if_neg n10, store_L65 hg hn hW e3 e5 hr3]
        refine ⟨_, _, _, _, _, _, _, _, _, _, _, _, rfl, rfl, ⟨rfl, by rw [vu_s]⟩, fun q hq => ?_⟩
        by_cases e : q = r
        · subst e
          rw [vu_s, vu_s, vu_s, vu_s, pk_us, pk_us]
          refine Or.inr ⟨k, e4, e5, rfl, rfl, Or.inl ⟨rfl, rfl, fun d hd => ?_⟩⟩
          have e9 : whl n g (tl g plan) q k mwh (4 * q + d) = popS n g (tl g plan) d := by
            unfold whl
            rw [if_pos (by omega)]
            congr 1; omega
          rw [e9]
          refine ⟨(if_pos hd).trans ?_, popS_ok hW hn d⟩
          rw [hP0.2 d (by omega)]
          exact ssum_congr fun u hu => hR.pop hu
        · rw [vu_n e, vu_n e, vu_n e, vu_n e, pk_un e, pk_un e]
          rcases hr q hq with q1 | ⟨k', b1, b2, b3, b4, b5⟩
          · exact Or.inl q1
          · refine Or.inr ⟨k', b1, b2, b3, b4, ?_⟩
            rcases b5 with ⟨c1, c2, c3⟩ | ⟨c1, c2, c3⟩
            · refine Or.inl ⟨c1, c2, fun d hd => ?_⟩
              unfold whl
              rw [if_neg (by omega)]
              exact c3 d hd
            · refine Or.inr ⟨c1, c2, fun d hd => ?_⟩
              unfold prt
              rw [if_neg (by omega)]
              exact c3 d hd
  · rw [if_neg hx, if_pos rfl, if_pos rfl]
    exact ⟨_, _, _, _, _, _, _, _, _, _, _, _, rfl, rfl, ⟨by decide +kernel, by decide +kernel⟩, hr⟩
theorem op_bits (hr : RowsR ex rough size whole parts msz mso mwh) (x y : Int32) : ∃ r b th, fX10_bits ex rough size whole x y = some r ∧ fX11_bits parts msz mso mwh x y = some (b, th) ∧ ansR ["java/lang/IndexOutOfBoundsException", "java/util/NoSuchElementException"] r b th := by
  rw [fX10_bits, fX11_bits, pX10_isRow, bind_s, pX11_isRow, bind_s]
  by_cases hx : inR x 3
  · obtain ⟨r, hr3, rfl⟩ := inR_of hx (by decide)
    have hcl : (nI r).toNatClampNeg = r := nI_clamp (by omega)
    rw [if_pos hx, if_neg n10, if_neg n10, if_pos hx, if_pos hx, if_pos hx, if_pos hx, if_pos hx, hcl]
    rcases hr r hr3 with ⟨q1, q2, -⟩ | ⟨k, b1, b2, b3, b4, b5⟩
    · rw [q1, if_pos rfl, q2]
      by_cases hy : y < 0
      · rw [if_pos hy]
        exact ⟨_, _, _, rfl, rfl, by decide +kernel, by decide +kernel⟩
      · rw [if_neg hy, if_neg hy]
        exact ⟨_, _, _, rfl, rfl, by decide +kernel, by decide +kernel⟩
    · have hs0 : ¬ mso r = 0 := by
        rcases b5 with ⟨c1, -⟩ | ⟨c1, -⟩ <;> rw [c1] <;> decide
      obtain ⟨k, rfl⟩ : ∃ j, k = j + 1 := ⟨k - 1, by omega⟩
      rw [if_neg hs0, b3, b4, nI_pred, show fX11_in y 0 (nI k) = _ from pX11_inZ (n := k) (by omega) y, bind_s]
      rcases rng (x := y) (n := k + 1) (by omega) with ⟨a, b, c⟩ | ⟨a, b⟩ | ⟨a, b, c⟩
      · obtain ⟨d, hd, rfl⟩ := inR_of a (by omega)
        have hcd : (nI d).toNatClampNeg = d := nI_clamp (by omega)
        have ei : ((4 : Int32) * nI r) + nI d = nI (4 * r + d) := by rw [show (4 : Int32) = nI 4 from rfl, pk_mul, nI_add]
        have i12 : inR (nI (4 * r + d)) 12 := (inR_nI (by omega)).mpr (by omega)
        have i4 : inR (nI d) 4 := (inR_nI (by omega)).mpr (by omega)
        have hc2 : (nI (4 * r + d)).toNatClampNeg = 4 * r + d := nI_clamp (by omega)
        rw [if_neg b, if_pos c, if_pos a, if_neg n10, ei, if_pos i12, if_pos i12, fX5_element, if_pos i4, if_pos i4, hcd, hc2]
        rcases b5 with ⟨c1, c2, c3⟩ | ⟨c1, c2, c3⟩
        · obtain ⟨w1, w, w2, w3⟩ := c3 d hd
          have hf : FG (FP.i2f (nI w)) := fg_int (by omega)
          rw [c1, c2, if_pos rfl, if_neg n10, w1, w3, bind_s, hf.bits, bind_s, pX11_floatBits hf.nn, bind_s]
          exact ⟨_, _, _, rfl, rfl, rfl, rfl⟩
        · obtain ⟨w1, hf⟩ := c3 d hd
          rw [c1, c2, if_neg (show ¬ (2 : Int32) = 1 by decide), if_pos rfl, w1, bind_s, hf.bits, bind_s, pX11_floatBits hf.nn, bind_s]
          exact ⟨_, _, _, rfl, rfl, rfl, rfl⟩
      · rw [if_pos b, if_neg a, if_pos rfl]
        exact ⟨_, _, _, rfl, rfl, by decide +kernel, by decide +kernel⟩
      · rw [if_neg b, if_neg c, if_neg a, if_pos rfl]
        exact ⟨_, _, _, rfl, rfl, by decide +kernel, by decide +kernel⟩
  · rw [if_neg hx, if_pos rfl, if_pos rfl]
    exact ⟨_, _, _, rfl, rfl, by decide +kernel, by decide +kernel⟩
end RO
