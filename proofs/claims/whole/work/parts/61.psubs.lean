/-! the class's count by sets: parts of a set one after another -/
def maskL : List Nat → Int32
  | [] => 0
  | u :: us => maskL us ||| bitI u
def dbl (x : Int32) : List Int32 → List Int32
  | [] => []
  | p :: l => (p ||| x) :: p :: dbl x l
def subs : List Nat → List Int32
  | [] => [0]
  | u :: us => dbl (bitI u) (subs us)
def restL (us : List Nat) (p : Int32) : List Nat := us.filter (fun v => !pbit p v)
/-- ascending, below 9 -/
def Asc : List Nat → Prop
  | [] => True
  | u :: us => u < 9 ∧ (∀ v ∈ us, u < v) ∧ Asc us
theorem Asc.lt : ∀ {us : List Nat}, Asc us → ∀ v ∈ us, v < 9
  | [], _, v, h => by cases h
  | u :: us, h, v, hv => by
    rcases List.mem_cons.mp hv with rfl | hv
    · exact h.1
    · exact h.2.2.lt v hv
theorem Asc.filter {p : Nat → Bool} : ∀ {us : List Nat}, Asc us → Asc (us.filter p)
  | [], h => h
  | u :: us, h => by
    cases hp : p u with
    | true =>
      rw [List.filter_cons_of_pos hp]
      exact ⟨h.1, fun v hv => h.2.1 v (List.mem_filter.mp hv).1, h.2.2.filter⟩
    | false =>
      rw [List.filter_cons_of_neg (by rw [hp]; decide)]
      exact h.2.2.filter
theorem pbit_maskL : ∀ {us : List Nat}, (∀ v ∈ us, v < 32) → ∀ v, (pbit (maskL us) v = true ↔ v ∈ us)
  | [], _, v => by rw [maskL, pbit_0]; exact ⟨fun h => (ff h).elim, fun h => by cases h⟩
  | u :: us, h, v => by
    rw [maskL, pbit_or, Bool.or_eq_true, pbit_maskL (fun w hw => h w (List.mem_cons_of_mem _ hw)), pbit_shl (h u List.mem_cons_self), decide_eq_true_eq, List.mem_cons]
    exact ⟨fun q => q.elim Or.inr (fun q => Or.inl q.symm), fun q => q.elim (fun q => Or.inr q.symm) Or.inl⟩
theorem mem_dbl {x p : Int32} : ∀ {l : List Int32}, p ∈ dbl x l → ∃ q ∈ l, p = q ||| x ∨ p = q
  | [], h => by cases h
  | a :: l, h => by
    rw [dbl] at h
    rcases List.mem_cons.mp h with rfl | h
    · exact ⟨a, List.mem_cons_self, Or.inl rfl⟩
    · rcases List.mem_cons.mp h with rfl | h
      · exact ⟨p, List.mem_cons_self, Or.inr rfl⟩
      · obtain ⟨q, h1, h2⟩ := mem_dbl h
        exact ⟨q, List.mem_cons_of_mem _ h1, h2⟩
theorem dbl_len {x : Int32} : ∀ {l : List Int32}, (dbl x l).length = 2 * l.length
  | [] => rfl
  | a :: l => by rw [dbl, List.length_cons, List.length_cons, dbl_len, List.length_cons]; omega
theorem subs_len : ∀ {us : List Nat}, (subs us).length = 2 ^ us.length
  | [] => rfl
  | u :: us => by rw [subs, dbl_len, subs_len, List.length_cons, Nat.pow_succ]; omega
theorem subs_bits : ∀ {us : List Nat}, (∀ v ∈ us, v < 32) → ∀ {p : Int32}, p ∈ subs us → ∀ v, pbit p v = true → v ∈ us
  | [], _, p, h, v, hv => by
    rw [subs, List.mem_singleton] at h
    rw [h, pbit_0] at hv; cases hv
  | u :: us, hu, p, h, v, hv => by
    obtain ⟨q, h1, h2⟩ := mem_dbl h
    have ih := subs_bits (fun w hw => hu w (List.mem_cons_of_mem _ hw)) h1
    rcases h2 with rfl | rfl
    · rw [pbit_or, Bool.or_eq_true, pbit_shl (hu u List.mem_cons_self), decide_eq_true_eq] at hv
      rcases hv with hv | rfl
      · exact List.mem_cons_of_mem _ (ih v hv)
      · exact List.mem_cons_self
    · exact List.mem_cons_of_mem _ (ih v hv)
theorem subs_head : ∀ (us : List Nat), ∃ L, subs us = maskL us :: L
  | [] => ⟨[], rfl⟩
  | u :: us => by
    obtain ⟨L, h⟩ := subs_head us
    rw [subs, h]
    exact ⟨_, rfl⟩
/-- each is the next part of M below the one before -/
def ChS (M : Int32) : List Int32 → Prop
  | [] => False
  | [p] => p = 0
  | p :: q :: l => p ≠ 0 ∧ q = (p - 1) &&& M ∧ ChS M (q :: l)
theorem minus_A : ∀ (u : Fin 9) (p : Fin 512), (∀ v : Fin 9, pbit (nI p.val) v.val = true → u.val < v.val) → (nI p.val ||| bitI u.val) - 1 = nI p.val ||| (bitI u.val - 1) ∧ (nI p.val ≠ 0 → pbit (nI p.val - 1) u.val = true) := by decide +kernel
theorem minus_C : ∀ (b : Fin 9) (x : Fin 512), pbit (nI x.val) b.val = true → (∀ v : Fin 9, pbit (nI x.val) v.val = true → b.val ≤ v.val) → nI x.val &&& (-(nI x.val)) = bitI b.val := by decide +kernel
theorem minus_B : ∀ (u : Fin 9) (v : Fin 32), pbit (bitI u.val - 1) v.val = decide (v.val < u.val) := by decide +kernel
theorem in512 {p : Int32} (h : ∀ v, pbit p v = true → v < 9) : ∃ j, j < 512 ∧ p = nI j := inR_of (inR_bits (Nat.le_refl 9) h) (by decide)
theorem dbl_ch {u : Nat} {M : Int32} (hu : u < 9) (hM : ∀ v, pbit M v = true → u < v ∧ v < 9) : ∀ {l : List Int32}, (∀ p ∈ l, ∀ v, pbit p v = true → pbit M v = true) → ChS M l → ChS (M ||| bitI u) (dbl (bitI u) l) := by
  have h1 : ∀ p : Int32, (∀ v, pbit p v = true → pbit M v = true) → p ||| bitI u ≠ 0 ∧ p = ((p ||| bitI u) - 1) &&& (M ||| bitI u) := by
    intro p hp
    obtain ⟨j, hj, rfl⟩ := in512 (fun v hv => (hM v (hp v hv)).2)
    have hA := (minus_A ⟨u, hu⟩ ⟨j, hj⟩ (fun v hv => (hM v (hp v hv)).1)).1
    have hA : (nI j ||| bitI u) - 1 = nI j ||| (bitI u - 1) := hA
    refine ⟨fun e => ?_, ?_⟩
    · have := eq0_bit.mp e u
      rw [pbit_or, pbit_shl (by omega), decide_eq_true rfl, Bool.or_true] at this
      cases this
    · rw [hA]
      apply pbit_ext
      intro v hv
      rw [pbit_and, pbit_or, pbit_or, pbit_shl (by omega), show pbit (bitI u - 1) v = decide (v < u) from minus_B ⟨u, hu⟩ ⟨v, hv⟩]
      cases hb : pbit (nI j) v with
      | true => rw [hp v hb]; rfl
      | false =>
        rw [Bool.false_or]
        by_cases c : v < u
        · cases hm : pbit M v with
          | true => have := (hM v hm).1; omega
          | false => rw [decide_eq_false (show ¬ u = v by omega), Bool.or_self, Bool.and_false]
        · rw [decide_eq_false c, Bool.false_and]
  have h2 : ∀ p : Int32, (∀ v, pbit p v = true → pbit M v = true) → p ≠ 0 → ((p - 1) &&& M) ||| bitI u = (p - 1) &&& (M ||| bitI u) := by
    intro p hp h0
    obtain ⟨j, hj, rfl⟩ := in512 (fun v hv => (hM v (hp v hv)).2)
    have hB := (minus_A ⟨u, hu⟩ ⟨j, hj⟩ (fun v hv => (hM v (hp v hv)).1)).2 h0
    have hB : pbit (nI j - 1) u = true := hB
    apply pbit_ext
    intro v hv
    rw [pbit_or, pbit_and, pbit_and, pbit_or, pbit_shl (by omega)]
    by_cases c : u = v
    · subst c; rw [decide_eq_true rfl, Bool.or_true, Bool.or_true, hB]; rfl
    · rw [decide_eq_false c, Bool.or_false, Bool.or_false]
  intro l
  induction l with
  | nil => intro _ h; exact h.elim
  | cons p l ih =>
    intro hp hC
    have hp0 := hp p List.mem_cons_self
    have hpl : ∀ q ∈ l, ∀ v, pbit q v = true → pbit M v = true := fun q hq => hp q (List.mem_cons_of_mem _ hq)
    obtain ⟨a1, a2⟩ := h1 p hp0
    cases l with
    | nil => exact ⟨a1, a2, hC⟩
    | cons q l =>
      obtain ⟨c1, c2, c3⟩ := hC
      refine ⟨a1, a2, c1, ?_, ih hpl c3⟩
      rw [← h2 p hp0 c1, ← c2]
theorem subs_ch : ∀ {us : List Nat}, Asc us → ChS (maskL us) (subs us)
  | [], _ => rfl
  | u :: us, h => by
    have h32 : ∀ v ∈ us, v < 32 := fun v hv => by have := h.2.2.lt v hv; omega
    refine dbl_ch h.1 (fun v hv => ?_) (fun p hp v hv => ?_) (subs_ch h.2.2)
    · have := (pbit_maskL h32 v).mp hv
      exact ⟨h.2.1 v this, h.2.2.lt v this⟩
    · exact (pbit_maskL h32 v).mpr (subs_bits h32 hp v hv)
/-! sums over the parts -/
theorem dbl_sum {x : Int32} {f : Int32 → Nat} : ∀ {l : List Int32}, ((dbl x l).map f).sum = (l.map (fun p => f (p ||| x) + f p)).sum
  | [] => rfl
  | p :: l => by
    rw [dbl, List.map_cons, List.map_cons, List.sum_cons, List.sum_cons, dbl_sum, List.map_cons, List.sum_cons]
    omega
theorem restL_or {us : List Nat} {u : Nat} {p : Int32} (hu : u < 32) (h : u ∉ us) : restL us (p ||| bitI u) = restL us p := by
  unfold restL
  refine filter_cg fun v hv => ?_
  rw [pbit_or, pbit_shl hu, decide_eq_false (fun q => h (by rw [q]; exact hv)), Bool.or_false]
theorem subs_sum : ∀ {us : List Nat}, Asc us → ∀ {G : Int32 → List Nat → Nat}, ((subs us).map (fun p => G p (restL us p))).sum = subS us G
  | [], _, G => by
    rw [subs, List.map_singleton, List.sum_singleton]; rfl
  | u :: us, h, G => by
    have h32 : ∀ v ∈ us, v < 32 := fun v hv => by have := h.2.2.lt v hv; omega
    have hu32 : u < 32 := by have := h.1; omega
    have hnot : u ∉ us := fun q => Nat.lt_irrefl u (h.2.1 u q)
    rw [subs, dbl_sum, subS, ← subS_add, ← subs_sum h.2.2]
    congr 1
    refine List.map_congr_left fun p hp => ?_
    have hpu : pbit p u = false := by
      cases hb : pbit p u with
      | false => rfl
      | true => exact absurd (subs_bits h32 hp u hb) hnot
    have e1 : restL (u :: us) (p ||| bitI u) = restL us p := by
      rw [← restL_or hu32 hnot]
      unfold restL
      rw [List.filter_cons_of_neg (by rw [pbit_or, pbit_shl hu32, decide_eq_true rfl, Bool.or_true]; decide)]
    have e2 : restL (u :: us) p = u :: restL us p := by
      unfold restL
      rw [List.filter_cons_of_pos (by rw [hpu]; rfl)]
    rw [e1, e2, or_cm p]
theorem subS_full {P : Int32 → Bool} : ∀ {us : List Nat} {c : Int32 → Bool}, subS us (fun t r => if c t then waysC P r [] 0 else 0) = if c (maskL us) then 1 else 0
  | [], c => by
    rw [subS, waysC, if_pos (show (0 = 0 ∧ ([] : List Int32).all P = true) from ⟨rfl, rfl⟩)]; rfl
  | u :: us, c => by
    rw [subS, subS_full (us := us) (c := fun t => c (bitI u ||| t))]
    have e : (fun (t : Int32) (r : List Nat) => if c t then waysC P (u :: r) [] 0 else 0) = fun _ _ => 0 := funext fun t => funext fun r => by
      rw [waysC, ups]
      cases c t <;> rfl
    rw [e, subS_zero, maskL, or_cm, Nat.add_zero]
/-! the loop and the recursion -/
theorem pX0_L42 {rc : (Nat → Int32) → Int32 → Int32 → Option Int32} {poss : Nat → Int32} {left low M : Int32} {f : Int32 → Nat} (kf : Int32 → Option Int32) : ∀ (l : List Int32) (p : Int32) (m s rd : Nat), ChS M (p :: l) → (∀ q ∈ p :: l, inR (low ||| q) 512 ∧ (poss (low ||| q).toNatClampNeg = 0 → f q = 0) ∧ (¬ poss (low ||| q).toNatClampNeg = 0 → rc poss (M &&& (q ^^^ (-1 : Int32))) (left - 1) = some (nI (f q)))) → rd + l.length < 512 → l.length < m → fX0_countFrom_L42 rc poss left low M m kf (nI s) p (nI rd) = kf (nI (s + ((p :: l).map f).sum)) := by
  intro l
  induction l with
  | nil =>
    intro p m s rd hC hq hr hm
    obtain ⟨m, rfl⟩ : ∃ t, m = t + 1 := ⟨m - 1, by omega⟩
    obtain ⟨q1, q2, q3⟩ := hq p List.mem_cons_self
    have hC : p = 0 := hC
    rw [List.length_nil] at hr
    rw [fX0_countFrom_L42, if_neg (show ¬ (512 : Int32) ≤ nI rd from nI_ge (show rd < 512 by omega) (by decide)), if_pos q1, List.map_singleton, List.sum_singleton]
    by_cases h : poss (low ||| p).toNatClampNeg = 0
    · rw [if_pos h, if_pos hC, q2 h]; rfl
    · rw [if_neg h, q3 h, bind_s, if_pos hC, nI_add]
  | cons q l ih =>
    intro p m s rd hC hq hr hm
    obtain ⟨m, rfl⟩ : ∃ t, m = t + 1 := ⟨m - 1, by omega⟩
    obtain ⟨q1, q2, q3⟩ := hq p List.mem_cons_self
    obtain ⟨c1, c2, c3⟩ := hC
    rw [List.length_cons] at hr hm
    rw [fX0_countFrom_L42, if_neg (show ¬ (512 : Int32) ≤ nI rd from nI_ge (show rd < 512 by omega) (by decide)), if_pos q1, List.map_cons, List.sum_cons, ← c2, nI_1]
    by_cases h : poss (low ||| p).toNatClampNeg = 0
    · rw [if_pos h, if_neg c1, q2 h, Nat.zero_add]
      exact ih q m s (rd + 1) c3 (fun x hx => hq x (List.mem_cons_of_mem _ hx)) (by omega) (by omega)
    · rw [if_neg h, q3 h, bind_s, if_neg c1, nI_add, ← Nat.add_assoc]
      exact ih q m (s + f p) (rd + 1) c3 (fun x hx => hq x (List.mem_cons_of_mem _ hx)) (by omega) (by omega)
