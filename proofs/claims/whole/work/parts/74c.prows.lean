/-! compactness as a float; rows -/
section FR
theorem vu_s {α : Type} {f : Nat → α} {k : Nat} {v : α} : va_up f k v k = v := if_pos rfl
theorem vu_n {α : Type} {f : Nat → α} {k j : Nat} {v : α} (h : j ≠ k) : va_up f k v j = f j := if_neg h
theorem vf_s {α : Type} {f : Nat → α} {k : Nat} {v : α} : vf_upd f k v k = v := if_pos rfl
theorem vf_n {α : Type} {f : Nat → α} {k j : Nat} {v : α} (h : j ≠ k) : vf_upd f k v j = f j := if_neg h
/-- 0 or a normal number of middling size -/
def FG (x : UInt32) : Prop := x = FP.fconst0 ∨ ∃ E T, NF x E T ∧ 100 ≤ E ∧ E ≤ 160
theorem FG.nn {x : UInt32} (h : FG x) : NN x := by
  rcases h with rfl | ⟨E, T, h, -⟩
  · exact nn_0
  · exact h.nn
theorem FG.bits {x : UInt32} (h : FG x) : fX5_bitsOf x = some (UInt32.toInt32 x) := by
  rcases h with rfl | ⟨E, T, h, h1, h2⟩
  · exact pX5_bitsOf_0
  · exact pX5_bitsOf h h1 h2
theorem fg_int {k : Nat} (h : k ≤ 20000) : FG (FP.i2f (nI k)) := by
  by_cases h0 : k = 0
  · subst h0; exact Or.inl i2f_0
  · obtain ⟨L, T, h1, -, -, h2⟩ := nf_int (k := k) (by omega) (by omega)
    exact Or.inr ⟨_, _, h2, by omega, by omega⟩
theorem area_pos {f : Nat → Int32} {set : Int32} : ∀ {m : Nat}, (∀ u, u < m → ∃ x, 1 ≤ x ∧ x ≤ 99 ∧ f u = nI x) → ((∀ u, u < m → pbit set u = false) ∧ ssum m set f = 0) ∨ ∃ a, 1 ≤ a ∧ a ≤ m * 99 ∧ ssum m set f = nI a
  | 0, _ => Or.inl ⟨fun u hu => absurd hu (Nat.not_lt_zero u), rfl⟩
  | m + 1, h => by
    have e : ssum (m + 1) set f = ssum m set f + if pbit set m then f m else 0 := rfl
    obtain ⟨x, x1, x2, x3⟩ := h m (by omega)
    rcases area_pos (set := set) (m := m) (fun u hu => h u (by omega)) with ⟨h1, h2⟩ | ⟨a, h1, h2, h3⟩
    · cases hb : pbit set m with
      | false =>
        refine Or.inl ⟨fun u hu => ?_, by rw [e, hb, if_neg ff, h2, add_0]⟩
        by_cases q : u = m
        · rw [q]; exact hb
        · exact h1 u (by omega)
      | true => exact Or.inr ⟨x, x1, by omega, by rw [e, hb, if_pos rfl, h2, x3, show (0 : Int32) = nI 0 from rfl, nI_add, Nat.zero_add]⟩
    · cases hb : pbit set m with
      | false => exact Or.inr ⟨a, h1, by omega, by rw [e, hb, if_neg ff, h3, add_0]⟩
      | true => exact Or.inr ⟨a + x, by omega, by omega, by rw [e, hb, if_pos rfl, h3, x3, nI_add]⟩
theorem sumI_z {f : Nat → Int32} : ∀ {n : Nat}, (∀ u, u < n → f u = 0) → sumI n f = 0
  | 0, _ => rfl
  | n + 1, h => by rw [sumI, sumI_z (fun u hu => h u (by omega)), h n (by omega)]; rfl
def comC (n : Nat) (g plan : Nat → Int32) (d : Nat) : UInt32 := if cPer n g plan d = 0 then FP.fconst0 else FP.fdiv (FP.i2f ((16 : Int32) * cAr n g plan d)) (FP.i2f (cPer n g plan d * cPer n g plan d))
theorem comC_ok {g plan : Nat → Int32} {n : Nat} (h : MapW g n) (hn : n ≤ 12) (d : Nat) : FG (comC n g plan d) := by
  unfold comC
  by_cases h0 : cPer n g plan d = 0
  · rw [if_pos h0]; exact Or.inl rfl
  · rw [if_neg h0]
    obtain ⟨p, p1, p2⟩ := perS_ex h hn (setS n plan d)
    have p2 : cPer n g plan d = nI p := p2
    rcases area_pos (f := fun u => g (5 * u + 1)) (set := setS n plan d) (m := n) (fun u hu => (h.1 u hu).2.1) with ⟨h1, -⟩ | ⟨a, a1, a2, a3⟩
    · refine absurd ?_ h0
      unfold cPer perS
      exact sumI_z fun u hu => by rw [h1 u hu, if_neg ff]
    · have a3 : cAr n g plan d = nI a := a3
      have hp0 : p ≠ 0 := fun q => h0 (by rw [p2, q]; rfl)
      have hpp : p * p ≤ 1404 * 1404 := Nat.mul_le_mul p1 p1
      have hp1 : 1 ≤ p * p := Nat.mul_pos (by omega) (by omega)
      rw [p2, a3, pk_mul, show (16 : Int32) = nI 16 from rfl, pk_mul]
      obtain ⟨E, T, q⟩ := nf_quot (a := 16 * a) (b := p * p) (by omega) (by omega) hp1 (by omega)
      exact Or.inr ⟨E, T, q⟩
theorem pX6_rough {g pop area com outer nb len places sets plan : Nat → Int32} {n k d : Nat} {cores : Int32} (hR : MapR g n pop area com outer nb len cores) (hW : MapW g n) (hP : PlanR n k places sets plan) (hd : d < 4) : fX6_roughCompactness area len outer (nI n) (sets d) = some (comC n g plan d) := by
  have hn := hR.n12
  have e1 : perS n outer (fun u v => len (u * 12 + v)) (sets d) = cPer n g plan d := by
    rw [hP.2 d hd]
    exact perS_congr (fun u hu => hR.outer hu) fun u v hu hv => hR.len hu hv
  have e2 : ssum n (sets d) area = cAr n g plan d := by
    rw [hP.2 d hd]
    exact ssum_congr fun u hu => hR.area hu
  have hok := comC_ok (plan := plan) hW hn d
  unfold comC at hok ⊢
  rw [fX6_roughCompactness, pX9_perimeterOf hn, bind_s, e1]
  by_cases h0 : cPer n g plan d = 0
  · rw [if_pos h0, if_pos h0]
  · rw [if_neg h0] at hok
    rw [if_neg h0, if_neg h0, pX9_areaOf hn, bind_s, e2, if_pos hok.nn.nN]
theorem pX11_compactness {g plan : Nat → Int32} {n d : Nat} (hg : g 204 = nI n) (hn : n ≤ 12) (hW : MapW g n) : fX11_compactness g plan (nI d) = some (comC n g plan d) := by
  have hok := comC_ok (plan := plan) hW hn d
  unfold comC at hok ⊢
  rw [fX11_compactness, pX11_perimeter hg hn, bind_s]
  show (if cPer n g plan d = 0 then _ else _) = _
  by_cases h0 : cPer n g plan d = 0
  · rw [if_pos h0, if_pos h0]
  · rw [if_neg h0] at hok
    rw [if_neg h0, if_neg h0, pX11_set hg hn, bind_s, show fX11_sum g _ (1 : Int32) = _ from pX11_sum (w := 1) hg hn (by decide), bind_s]
    exact if_pos hok.nn.nN
/-! the mean -/
def meanS (n : Nat) (g plan : Nat → Int32) : Nat → UInt32
  | 0 => FP.fconst0
  | i + 1 => FP.fadd (meanS n g plan i) (comC n g plan i)
theorem meanS_nn {g plan : Nat → Int32} {n : Nat} (h : MapW g n) (hn : n ≤ 12) : ∀ i, NN (meanS n g plan i)
  | 0 => nn_0
  | i + 1 => nn_add (meanS_nn h hn i) (comC_ok h hn i).nn
section OM
variable {g area com : Nat → Int32} {cores dist has : Int32} {len nb outer places sets pop : Nat → Int32} {tol units : Int32}
theorem op_mean (h : WR g area com cores dist has len nb outer places sets pop tol units) (plan : Nat → Int32) : ∃ r b plan' th, fX10_meanCompactness area dist has len outer sets units = some r ∧ fX11_meanCompactness g plan = some (b, plan', th) ∧ ansR ["java/lang/IllegalStateException"] r b th := by
  obtain ⟨n, k, rfl, hR, hW, hX, rfl, e3, e4, e5, rfl, ⟨t, e7, e8⟩, rfl, e10, e11⟩ := h
  have hn := hR.n12
  have hg := hR.g204
  rw [fX10_meanCompactness, fX11_meanCompactness, fX10_checkPlan, k219]
  by_cases hp : g 219 = 0
  · rw [if_pos hp, if_pos hp, bind_s, se_l]
    exact ⟨_, _, _, _, rfl, rfl, by decide +kernel, by decide +kernel⟩
  · obtain ⟨h1, hP⟩ := e11 (e10.resolve_left hp)
    have hP0 : PlanR n k places sets (tl g plan) := hP.congr (fun _ _ => rfl) (fun _ _ => rfl) (fun u hu => if_pos (by omega))
    obtain ⟨L, T, -, -, -, hk⟩ := nf_int (k := k) (by omega) (by omega)
    have hdv : NN (FP.fdiv (meanS n g (tl g plan) k) (FP.i2f (nI k))) := nn_div (meanS_nn hW hn k) hk
    rw [if_neg hp, if_neg hp, bind_s, se_r, pX11_tells, bind_s]
    have key1 := upS (fun m i z => fX10_meanCompactness_L8 area (nI k) len outer sets (nI n) m (fun z8_1 => (if nN (FP.fdiv z8_1 (FP.i2f (nI k))) then some (Sum.inr (FP.fdiv z8_1 (FP.i2f (nI k)))) else none)) z (nI i)) (meanS n g (tl g plan)) k (some (Sum.inr (FP.fdiv (meanS n g (tl g plan) k) (FP.i2f (nI k))))) (fun m => ?_) (fun m i hi => ?_) 1000000 (by omega)
    · have key2 := upS (fun m i z => fX11_meanCompactness_L37 g (tl g plan) 0 m (fun z37_1 => (if nN (FP.fdiv z37_1 (FP.i2f (g (205 : Int32).toNatClampNeg))) then some ((FP.fdiv z37_1 (FP.i2f (g (205 : Int32).toNatClampNeg))), tl g plan, (0 : Int32)) else none)) z (nI i)) (meanS n g (tl g plan)) k (some (FP.fdiv (meanS n g (tl g plan) k) (FP.i2f (nI k)), tl g plan, (0 : Int32))) (fun m => ?_) (fun m i hi => ?_) 1000000 (by omega)
      · exact ⟨_, _, _, _, key1, key2, rfl, rfl⟩
      · show fX11_meanCompactness_L37 g (tl g plan) 0 (m + 1) _ _ (nI k) = _
        rw [fX11_meanCompactness_L37, k205, e3, if_pos (nI_leS k (by omega)), if_pos hdv.nN]
      · show fX11_meanCompactness_L37 g (tl g plan) 0 (m + 1) _ _ (nI i) = fX11_meanCompactness_L37 g (tl g plan) 0 m _ (FP.fadd (meanS n g (tl g plan) i) (comC n g (tl g plan) i)) (nI (i + 1))
        rw [fX11_meanCompactness_L37, k205, e3, if_neg (nI_ge hi (by omega)), pX11_compactness hg hn hW, bind_s, if_pos (nn_add (meanS_nn hW hn i) (comC_ok hW hn i).nn).nN, nI_1]
    · show fX10_meanCompactness_L8 area (nI k) len outer sets (nI n) (m + 1) _ _ (nI k) = _
      rw [fX10_meanCompactness_L8, if_pos (nI_leS k (by omega)), if_pos hdv.nN]
    · show fX10_meanCompactness_L8 area (nI k) len outer sets (nI n) (m + 1) _ _ (nI i) = fX10_meanCompactness_L8 area (nI k) len outer sets (nI n) m _ (FP.fadd (meanS n g (tl g plan) i) (comC n g (tl g plan) i)) (nI (i + 1))
      rw [fX10_meanCompactness_L8, if_neg (nI_ge hi (by omega)), if_pos ((inR_nI (by omega)).mpr (show i < 4 by omega)), nI_clamp (by omega), pX6_rough hR hW hP0 (by omega), bind_s, if_pos (nn_add (meanS_nn hW hn i) (comC_ok hW hn i).nn).nN, nI_1]
end OM
end FR
