/-! lists of cells in blocks -/
theorem cw_P {D : va_G} {cl : List vw_C} {ws ws' : va_W} {H : Heap} (h : va_P D cl ws H) (hs : ∀ x ∈ ws', x ∈ ws) : va_P D cl ws' H := fun k q hk => by
  obtain ⟨j, hj⟩ := List.getElem?_of_mem (hs q (List.mem_of_getElem? hk))
  exact h j q hj
def vD (A : Nat → Prop) (ws : va_W) : Prop := ws.Pairwise (fun p q => p.1 ≠ q.1) ∧ ∀ x ∈ ws, A x.1
theorem vD_iff {A : Nat → Prop} {ws : va_W} : va_D A ws ↔ vD A ws := by
  constructor
  · intro h
    refine ⟨List.pairwise_iff_getElem.mpr fun i j hi hj hij e => ?_, fun x hx => ?_⟩
    · have := h.1 i j _ _ (List.getElem?_eq_getElem hi) (List.getElem?_eq_getElem hj) e
      omega
    · obtain ⟨k, hk⟩ := List.getElem?_of_mem hx
      exact h.2 k x hk
  · intro h
    refine ⟨fun i j p q hi hj e => ?_, fun k x hk => h.2 x (List.mem_of_getElem? hk)⟩
    obtain ⟨hi1, hi2⟩ := List.getElem?_eq_some_iff.mp hi
    obtain ⟨hj1, hj2⟩ := List.getElem?_eq_some_iff.mp hj
    rcases Nat.lt_trichotomy i j with l | l | l
    · exact absurd (by rw [hi2, hj2]; exact e) (List.pairwise_iff_getElem.mp h.1 i j hi1 hj1 l)
    · exact l
    · exact absurd (by rw [hi2, hj2]; exact e.symm) (List.pairwise_iff_getElem.mp h.1 j i hj1 hi1 l)
theorem cw_perm {A : Nat → Prop} {D : va_G} {cl : List vw_C} {ws ws' : va_W} {H : Heap} (hP : va_P D cl ws H) (hD : va_D A ws) (p : List.Perm ws' ws) : va_P D cl ws' H ∧ va_D A ws' := by
  refine ⟨cw_P hP fun x hx => p.mem_iff.mp hx, vD_iff.mpr ⟨?_, fun x hx => (vD_iff.mp hD).2 x (p.mem_iff.mp hx)⟩⟩
  exact (List.Perm.pairwise_iff (fun h e => h e.symm) p).mpr (vD_iff.mp hD).1
theorem blk_right {A : Nat → Prop} {pre wc : va_W} (hD : va_D A (pre ++ wc)) : va_D A wc := by
  have h := vD_iff.mp hD
  exact vD_iff.mpr ⟨(List.pairwise_append.mp h.1).2.1, fun x hx => h.2 x (List.mem_append_right _ hx)⟩
theorem blk_free {A : Nat → Prop} {wc : va_W} {H0 H : Heap} (hD : va_D A wc) (hA : ∀ q, H0.size ≤ q → A q) (hz : H0.size ≤ H.size) : ∀ q, va_A wc H.size q → A q := fun q h => by
  rcases h with ⟨k, e, hk⟩ | h
  · exact hD.2 k _ hk
  · exact hA q (Nat.le_trans hz h)
theorem blk_join {A : Nat → Prop} {D : va_G} {cl : List vw_C} {pre wc w1 : va_W} {H H1 : Heap} (hP : va_P D cl (pre ++ wc) H) (hD : va_D A (pre ++ wc)) (hF : ∀ q, va_A wc H.size q → A q) (hk : ∀ q : Nat, q < H.size → ¬ va_A wc H.size q → H1[q]? = H[q]?) (hP1 : va_P D cl w1 H1) (hD1 : va_D (va_A wc H.size) w1) : va_P D cl (pre ++ w1) H1 ∧ va_D A (pre ++ w1) := by
  have h := vD_iff.mp hD
  obtain ⟨p1, p2, p3⟩ := List.pairwise_append.mp h.1
  have h1 := vD_iff.mp hD1
  have hlt : ∀ x ∈ pre, x.1 < H.size := fun x hx => by
    obtain ⟨k, hk⟩ := List.getElem?_of_mem (List.mem_append_left wc hx)
    exact (hP k x hk).lt
  have hno : ∀ x ∈ pre, ¬ va_A wc H.size x.1 := fun x hx q => by
    rcases q with ⟨k, e, hk⟩ | q
    · exact p3 x hx _ (List.mem_of_getElem? hk) rfl
    · exact absurd (hlt x hx) (Nat.not_lt.mpr q)
  refine ⟨va_P.app (va_P.kept (cw_P hP fun x hx => List.mem_append_left _ hx) fun k q hq => ?_) hP1, vD_iff.mpr ⟨List.pairwise_append.mpr ⟨p1, h1.1, fun x hx y hy e => ?_⟩, fun x hx => ?_⟩⟩
  · have hm := List.mem_of_getElem? hq
    exact hk q.1 (hlt q hm) (hno q hm)
  · exact hno x hx (by rw [e]; exact h1.2 y hy)
  · rcases List.mem_append.mp hx with q | q
    · exact h.2 x (List.mem_append_left _ q)
    · exact hF _ (h1.2 x q)
