/-! a family of worlds as one block at the end of a list of cells -/
def elW (k : Nat → ClassId) (o pop area comm outer nb len plan places sets : Nat) (units cores districts tolerance hasPlan : Value) (fpop farea fcomm fouter fnb flen fplaces fsets : Nat → Int32) : va_W := [(o, .inr (8, [units, .ref pop, .ref area, .ref comm, .ref outer, .ref nb, .ref len, cores, districts, tolerance, hasPlan, .ref plan])), (pop, .inl (k 0, 12, .inl fpop)), (area, .inl (k 0, 12, .inl farea)), (comm, .inl (k 0, 12, .inl fcomm)), (outer, .inl (k 0, 12, .inl fouter)), (nb, .inl (k 0, 12, .inl fnb)), (len, .inl (k 0, 144, .inl flen)), (plan, .inr (4, [.ref places, .ref sets])), (places, .inl (k 0, 12, .inl fplaces)), (sets, .inl (k 0, 4, .inl fsets))]
def famH (k : Nat → ClassId) (o pop area comm outer nb len plan places sets : Nat → Nat) (units cores districts tolerance hasPlan : Nat → Int32) (fpop farea fcomm fouter fnb flen fplaces fsets : Nat → Nat → Int32) : va_W := (List.range 8).flatMap (fun i => elW k (o i) (pop i) (area i) (comm i) (outer i) (nb i) (len i) (plan i) (places i) (sets i) (.int (units i)) (.int (cores i)) (.int (districts i)) (.int (tolerance i)) (.int (hasPlan i)) (fpop i) (farea i) (fcomm i) (fouter i) (fnb i) (flen i) (fplaces i) (fsets i))
theorem famH_ad {k : Nat → ClassId} {o pop area comm outer nb len plan places sets : Nat → Nat} {u c d t h u' c' d' t' h' : Nat → Int32} {f1 f2 f3 f4 f5 f6 f7 f8 g1 g2 g3 g4 g5 g6 g7 g8 : Nat → Nat → Int32} : (famH k o pop area comm outer nb len plan places sets u c d t h f1 f2 f3 f4 f5 f6 f7 f8).map (·.1) = (famH k o pop area comm outer nb len plan places sets u' c' d' t' h' g1 g2 g3 g4 g5 g6 g7 g8).map (·.1) := by
  unfold famH
  rw [List.map_flatMap, List.map_flatMap]
  rfl
theorem nd_ne {α : Type} {l : List α} : l.Nodup ↔ ∀ i j : Nat, i < j → j < l.length → l[i]? ≠ l[j]? := by
  rw [List.nodup_iff_pairwise_ne, List.pairwise_iff_getElem]
  constructor
  · intro h i j hij hj heq
    have hi : i < l.length := Nat.lt_trans hij hj
    rw [List.getElem?_eq_getElem hi, List.getElem?_eq_getElem hj] at heq
    exact h i j hi hj hij (Option.some.inj heq)
  · intro h i j hi hj hij heq
    refine h i j hij hj ?_
    rw [List.getElem?_eq_getElem hi, List.getElem?_eq_getElem hj, heq]
theorem vaP_iff {D : va_G} {cl : List vw_C} {ws : va_W} {H : Heap} : va_P D cl ws H ↔ ∀ q ∈ ws, va_at D cl q H :=
  ⟨fun h q hq => (List.getElem?_of_mem hq).elim fun i hi => h i q hi, fun h k q hk => h q (List.mem_of_getElem? hk)⟩
theorem vaD_iff {A : Nat → Prop} {ws : va_W} : va_D A ws ↔ (ws.map (·.1)).Nodup ∧ ∀ q ∈ ws, A q.1 := by
  constructor
  · intro h
    refine ⟨?_, fun q hq => (List.getElem?_of_mem hq).elim fun i hi => h.2 i q hi⟩
    rw [nd_ne]
    intro i j hij hj heq
    rw [List.length_map] at hj
    have hi : i < ws.length := Nat.lt_trans hij hj
    rw [List.getElem?_map, List.getElem?_map, List.getElem?_eq_getElem hi, List.getElem?_eq_getElem hj] at heq
    have := h.1 i j ws[i] ws[j] (List.getElem?_eq_getElem hi) (List.getElem?_eq_getElem hj) (Option.some.inj heq)
    omega
  · intro ⟨h1, h2⟩
    refine ⟨fun i j p q hi hj hpq => ?_, fun k q hk => h2 q (List.mem_of_getElem? hk)⟩
    rw [nd_ne] at h1
    have li := (List.getElem?_eq_some_iff.mp hi).1
    have lj := (List.getElem?_eq_some_iff.mp hj).1
    have e : (ws.map (·.1))[i]? = (ws.map (·.1))[j]? := by rw [List.getElem?_map, List.getElem?_map, hi, hj]; exact congrArg some hpq
    rcases Nat.lt_trichotomy i j with hij | hij | hij
    · exact absurd e (h1 i j hij (by rw [List.length_map]; exact lj))
    · exact hij
    · exact absurd e.symm (h1 j i hij (by rw [List.length_map]; exact li))
theorem vaA_iff {ws : va_W} {sz q : Nat} : va_A ws sz q ↔ q ∈ ws.map (·.1) ∨ sz ≤ q := by
  constructor
  · rintro (⟨k, e, h⟩ | h)
    · exact Or.inl (List.mem_map.mpr ⟨(q, e), List.mem_of_getElem? h, rfl⟩)
    · exact Or.inr h
  · rintro (h | h)
    · obtain ⟨x, hx, rfl⟩ := List.mem_map.mp h
      obtain ⟨i, hi⟩ := List.getElem?_of_mem hx
      exact Or.inl ⟨i, x.2, hi⟩
    · exact Or.inr h
theorem mem_fam {n j : Nat} {E : Nat → va_W} {q : Nat × va_E} (hj : j < n) (h : q ∈ E j) : q ∈ (List.range n).flatMap E := List.mem_flatMap.mpr ⟨j, List.mem_range.mpr hj, h⟩
/-- a method that was shown over one world of the family, over all of them -/
theorem met_famV {l : Launch} {y : MethodName} {wsl : List Cond} {rm : Room} {D : va_G} {k : Nat → ClassId} {av : List Value} {ws0 w10 X : va_W} {n j sz : Nat} {E E' : Nat → va_W} (hj : j < n) (hE : ∀ i, i ≠ j → E' i = E i) (hX : E' j = X) (h0 : w10.map (·.1) = ws0.map (·.1)) (h1 : ∀ i, (E' i).map (·.1) = (E i).map (·.1))
    (h : Met l y wsl rm (preM D k av (ws0 ++ E j) sz) (postV D k (ws0 ++ E j) (w10 ++ X) sz) 0 0 (va_A (ws0 ++ E j) sz)) : Met l y wsl rm (preM D k av (ws0 ++ (List.range n).flatMap E) sz) (postV D k (ws0 ++ (List.range n).flatMap E) (w10 ++ (List.range n).flatMap E') sz) 0 0 (va_A (ws0 ++ (List.range n).flatMap E) sz) := by
  subst hX
  have hsub : ∀ q, q ∈ ws0 ++ E j → q ∈ ws0 ++ (List.range n).flatMap E := by
    intro q hq
    rcases List.mem_append.mp hq with h | h
    · exact List.mem_append_left _ h
    · exact List.mem_append_right _ (mem_fam hj h)
  have hsl : (ws0 ++ E j).Sublist (ws0 ++ (List.range n).flatMap E) := by
    refine List.Sublist.append_left ?_ _
    rw [List.flatMap_def]
    have : E j ∈ (List.range n).map E := List.mem_map.mpr ⟨j, List.mem_range.mpr hj, rfl⟩
    exact List.sublist_flatten_of_mem this
  have hAsub : ∀ q, va_A (ws0 ++ E j) sz q → va_A (ws0 ++ (List.range n).flatMap E) sz q := by
    intro q hq
    rcases vaA_iff.mp hq with h | h
    · exact vaA_iff.mpr (Or.inl ((hsl.map _).subset h))
    · exact vaA_iff.mpr (Or.inr h)
  have had : (w10 ++ (List.range n).flatMap E').map (·.1) = (ws0 ++ (List.range n).flatMap E).map (·.1) := by
    rw [List.map_append, List.map_append, h0, List.map_flatMap, List.map_flatMap]
    congr 1
    exact congrArg (fun f => (List.range n).flatMap f) (funext h1)
  intro p e ha hc hk s m args below hf happ hP hKt
  obtain ⟨hav, hsz, hPb, hKb, hDb⟩ := hP
  rw [vaD_iff] at hDb
  obtain ⟨t, o, r1, r2, r3, hq, L, r4, r5⟩ := h p e ha hc hk s m args below hf happ ⟨hav, hsz, vaP_iff.mpr (fun q hq => vaP_iff.mp hPb q (hsub q hq)), hKb, vaD_iff.mpr ⟨(hsl.map _).nodup hDb.1, fun _ _ => trivial⟩⟩ hKt
  obtain ⟨⟨u, hu, hu2, hP1, hK1, hD1⟩, hF⟩ := hq
  refine ⟨t, o, r1, r2, r3, ⟨⟨u, hu, hu2, ?_, hK1, ?_⟩, hF.1, fun q g1 g2 => hF.2 q g1 (fun z => g2 (hAsub q z))⟩, L, r4, fun q hq => hAsub _ (r5 q hq)⟩
  · rw [vaP_iff]
    intro q hq
    rcases List.mem_append.mp hq with hq | hq
    · exact vaP_iff.mp hP1 q (List.mem_append_left _ hq)
    · obtain ⟨i, hi, hq⟩ := List.mem_flatMap.mp hq
      rw [List.mem_range] at hi
      by_cases hij : i = j
      · subst hij; exact vaP_iff.mp hP1 q (List.mem_append_right _ hq)
      · rw [hE i hij] at hq
        have hqb : q ∈ ws0 ++ (List.range n).flatMap E := List.mem_append_right _ (mem_fam hi hq)
        have h3 := vaP_iff.mp hPb q hqb
        have hlt := h3.lt
        refine h3.kept (hF.2 q.1 hlt (fun z => ?_))
        rcases vaA_iff.mp z with z | z
        · have hnd := hDb.1
          rw [List.map_append, List.nodup_append] at hnd
          rw [List.map_append, List.mem_append] at z
          rcases z with z | z
          · exact hnd.2.2 q.1 z q.1 (List.mem_map.mpr ⟨q, mem_fam hi hq, rfl⟩) rfl
          · have h5 := hnd.2.1
            rw [List.map_flatMap, List.nodup_iff_pairwise_ne, List.pairwise_flatMap] at h5
            have h6 := h5.2
            rw [List.pairwise_iff_getElem] at h6
            rcases Nat.lt_or_gt_of_ne hij with g | g
            · have := h6 i j (by simpa using hi) (by simpa using hj) g
              simp only [List.getElem_range] at this
              exact this q.1 (List.mem_map.mpr ⟨q, hq, rfl⟩) q.1 z rfl
            · have := h6 j i (by simpa using hj) (by simpa using hi) g
              simp only [List.getElem_range] at this
              exact this q.1 z q.1 (List.mem_map.mpr ⟨q, hq, rfl⟩) rfl
        · omega
  · rw [vaD_iff]
    refine ⟨by rw [had]; exact hDb.1, fun q hq => vaA_iff.mpr (Or.inl ?_)⟩
    rw [← had]
    exact List.mem_map.mpr ⟨q, hq, rfl⟩
theorem nd_iff : ∀ (l : List Nat), va_nd l = true ↔ l.Nodup
  | [] => ⟨fun _ => List.nodup_nil, fun _ => rfl⟩
  | a :: l => by
    rw [va_nd, Bool.and_eq_true, decide_eq_true_eq, List.nodup_cons, nd_iff l]
theorem putAll_app : ∀ (is : List Nat) (es ws Z : va_W), (∀ i ∈ is, i < ws.length) → putAll (ws ++ Z) is es = putAll ws is es ++ Z
  | [], _, _, _, _ => by unfold putAll; rfl
  | _ :: _, [], _, _, _ => by unfold putAll; rfl
  | i :: is, e :: es, ws, Z, h => by
    rw [putAll, putAll, List.set_append_left _ _ (h i List.mem_cons_self), putAll_app is es _ Z (fun j hj => by rw [List.length_set]; exact h j (List.mem_cons_of_mem _ hj))]
theorem cut_lt {ws wc w1 ws' : va_W} {isC : List Nat} (h : CutOK ws wc w1 ws' isC) : ∀ i ∈ isC, i < ws.length := by
  intro i hi
  obtain ⟨hn, hc, -⟩ := h
  obtain ⟨j, hj⟩ := List.getElem?_of_mem hi
  have h1 : (isC.map (fun i => ws[i]?))[j]? = some (ws[i]?) := by rw [List.getElem?_map, hj]; rfl
  rw [hc, List.getElem?_map] at h1
  cases hw : wc[j]? with
  | none => rw [hw] at h1; cases h1
  | some q => rw [hw] at h1; exact (List.getElem?_eq_some_iff.mp (Option.some.inj h1).symm).1
theorem cutE {ws wc w1 ws' Z : va_W} {isC : List Nat} (h : CutOK ws wc w1 ws' isC) : CutOK (ws ++ Z) wc w1 (ws' ++ Z) isC := by
  have hlt := cut_lt h
  obtain ⟨hn, hc, hr⟩ := h
  refine ⟨hn, ?_, ?_⟩
  · rw [← hc]
    exact List.map_congr_left fun i hi => List.getElem?_append_left (hlt i hi)
  · rcases hr with ⟨a, b⟩ | ⟨a, b⟩
    · exact Or.inl ⟨a, by rw [b]⟩
    · exact Or.inr ⟨a, by rw [putAll_app isC w1 ws Z hlt, b]⟩
theorem putAll_split : ∀ (is : List Nat) (es js : _) (fs ws : va_W), is.length = es.length → putAll ws (is ++ js) (es ++ fs) = putAll (putAll ws is es) js fs
  | [], [], js, fs, ws, _ => by rw [List.nil_append, List.nil_append]; congr 1
  | [], _ :: _, _, _, _, h => by cases h
  | _ :: _, [], _, _, _, h => by cases h
  | i :: is, e :: es, js, fs, ws, h => by
    rw [List.cons_append, List.cons_append, putAll, putAll_split is es js fs _ (by simpa using h), putAll]
theorem putAll_tail : ∀ (Z' Z ws : va_W), Z'.length = Z.length → putAll (ws ++ Z) ((List.range Z.length).map (fun i => ws.length + i)) Z' = ws ++ Z'
  | [], [], ws, _ => by show putAll (ws ++ []) [] [] = ws ++ []; unfold putAll; rfl
  | [], _ :: _, _, h => by cases h
  | _ :: _, [], _, h => by cases h
  | z' :: Z', z :: Z, ws, h => by
    rw [List.length_cons, List.range_succ_eq_map, List.map_cons, putAll]
    have e1 : (ws ++ z :: Z).set (ws.length + 0) z' = (ws ++ [z']) ++ Z := by
      rw [Nat.add_zero, List.set_append_right _ _ (Nat.le_refl _), Nat.sub_self, List.set_cons_zero, List.append_assoc]; rfl
    rw [e1, List.map_map]
    have e2 : ((fun i => ws.length + i) ∘ Nat.succ) = fun i => (ws ++ [z']).length + i := by
      funext i
      simp
      omega
    rw [e2, putAll_tail Z' Z (ws ++ [z']) (by simpa using h), List.append_assoc]
    rfl
theorem cutT {ws wc w1 ws' Z Z' : va_W} {isC : List Nat} (h : CutOK ws wc w1 ws' isC) (hz : Z'.map (·.1) = Z.map (·.1)) : CutOK (ws ++ Z) (wc ++ Z) (w1 ++ Z') (ws' ++ Z') (isC ++ (List.range Z.length).map (fun i => ws.length + i)) := by
  have hlt := cut_lt h
  obtain ⟨hn, hc, hr⟩ := h
  have hzl : Z'.length = Z.length := by have := congrArg List.length hz; simpa using this
  have hcl : isC.length = wc.length := by have := congrArg List.length hc; simpa using this
  have key : ∀ w1 ws' : va_W, w1.map (·.1) = wc.map (·.1) → putAll ws isC w1 = ws' → (w1 ++ Z').map (·.1) = (wc ++ Z).map (·.1) ∧ putAll (ws ++ Z) (isC ++ (List.range Z.length).map (fun i => ws.length + i)) (w1 ++ Z') = ws' ++ Z' := by
    intro w1 ws' a b
    refine ⟨by rw [List.map_append, List.map_append, a, hz], ?_⟩
    have hl1 : isC.length = w1.length := by have := congrArg List.length a; simp at this; omega
    rw [putAll_split isC w1 _ Z' _ hl1, putAll_app isC w1 ws Z hlt, b]
    have : ws'.length = ws.length := by rw [← b, putAll_len]
    rw [← this]
    exact putAll_tail Z' Z ws' hzl
  refine ⟨?_, ?_, ?_⟩
  · rw [nd_iff, List.nodup_append]
    refine ⟨(nd_iff _).mp hn, ?_, fun a ha b hb hab => ?_⟩
    · have := List.nodup_range (n := Z.length)
      rw [nd_ne] at this ⊢
      intro i j hij hj heq
      rw [List.length_map, List.length_range] at hj
      rw [List.getElem?_map, List.getElem?_map, List.getElem?_range (by omega), List.getElem?_range hj] at heq
      have h9 : ws.length + i = ws.length + j := Option.some.inj heq
      omega
    · subst hab
      have := hlt a ha
      obtain ⟨i, -, rfl⟩ := List.mem_map.mp hb
      omega
  · rw [List.map_append, List.map_append]
    congr 1
    · rw [← hc]
      exact List.map_congr_left fun i hi => List.getElem?_append_left (hlt i hi)
    · refine List.ext_getElem? fun i => ?_
      rw [List.map_map, List.getElem?_map, List.getElem?_map]
      by_cases hi : i < Z.length
      · rw [List.getElem?_range hi]
        show some ((ws ++ Z)[ws.length + i]?) = _
        rw [List.getElem?_append_right (by omega), Nat.add_sub_cancel_left, List.getElem?_eq_getElem hi]
        rfl
      · rw [List.getElem?_eq_none (by rw [List.length_range]; omega), List.getElem?_eq_none (by omega)]
        rfl
  · rcases hr with ⟨a, b⟩ | ⟨a, b⟩
    · subst a
      have e0 : putAll ws isC w1 = ws := by
        refine List.ext_getElem? fun i => ?_
        by_cases h2 : i ∈ isC
        · have hin := putAll_in isC w1 ws hn hlt hcl
          rw [← hc] at hin
          obtain ⟨j, hj⟩ := List.getElem?_of_mem h2
          have e1 : (isC.map (fun i => (putAll ws isC w1)[i]?))[j]? = some ((putAll ws isC w1)[i]?) := by rw [List.getElem?_map, hj]; rfl
          rw [hin, List.getElem?_map, hj] at e1
          exact (Option.some.inj e1).symm
        · exact putAll_out isC w1 ws i h2
      rw [b]
      exact Or.inr (key w1 ws rfl e0)
    · exact Or.inr (key w1 ws' a b)
