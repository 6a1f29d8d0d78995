theorem dk_in {i : Int32} {n : Nat} (h : inR i n) : vp_in i n := vp_in_iff.mpr h
theorem dk_bit {v : Int32} (h : isB v) : narrow .boolean (.int v) = .int v ∧ fits .boolean (.int v) = true := by
  rcases h with rfl | rfl <;> exact ⟨rfl, rfl⟩
theorem dk_nat {i : Int32} {n : Nat} (h : inR i n) : i.toNatClampNeg < n := by
  have h1 := h.1; have h2 := h.2
  show i.toInt.toNat < n
  omega
theorem sp8 {i : Int32} (h : inR i 8) : i.toNatClampNeg = 0 ∨ i.toNatClampNeg = 1 ∨ i.toNatClampNeg = 2 ∨ i.toNatClampNeg = 3 ∨ i.toNatClampNeg = 4 ∨ i.toNatClampNeg = 5 ∨ i.toNatClampNeg = 6 ∨ i.toNatClampNeg = 7 := by
  have := dk_nat h; omega
theorem sp3 {i : Int32} (h : inR i 3) : i.toNatClampNeg = 0 ∨ i.toNatClampNeg = 1 ∨ i.toNatClampNeg = 2 := by
  have := dk_nat h; omega
theorem sw_out {x : Int32} {lo hi : Int} (h : ∀ j : Int, lo ≤ j → j ≤ hi → x.toInt = j → False) : x.toInt < lo ∨ hi < x.toInt := by
  by_cases h1 : x.toInt < lo
  · exact Or.inl h1
  · by_cases h2 : hi < x.toInt
    · exact Or.inr h2
    · exact (h x.toInt (by omega) (by omega) rfl).elim
theorem sw_eq {x : Int32} {j : Int} (y : Int32) (h : x.toInt = j) (hy : y.toInt = j) : x = y := Int32.toInt_inj.mp (h.trans hy.symm)
/-! own rows: bundles of what a walk carries, and calls over them -/
/-- the class numbers of the arrays: int, char, boolean, float, World[], Row[], long, double -/
abbrev tysX (k : Nat → ClassId) : List (ClassId × FieldType) := [(k 0, .int), (k 1, .char), (k 2, .boolean), (k 3, .float), (k 4, .object RX9), (k 5, .object RX5), (k 6, .long), (k 7, .double)]
abbrev KOK (D : va_G) (k : Nat → ClassId) (s : State) : Prop := va_K D vwCl (tysX k) s
def HOK (D : va_G) (A : Nat → Prop) (H0 : Heap) (ws : va_W) (H : Heap) (locs : List Loc) : Prop := va_P D vwCl ws H ∧ va_D A ws ∧ va_S A H0 H locs
/-- how a method starts and ends: its cells before, its cells behind, its answer -/
def preM (D : va_G) (k : Nat → ClassId) (av : List Value) (ws : va_W) (sz : Nat) : Array Value → State → Prop := va_Pc av (fun U => U.heap.size = sz ∧ va_P D vwCl ws U.heap ∧ KOK D k U ∧ va_D (fun _ => True) ws)
abbrev bM (D : va_G) (k : Nat → ClassId) (ws w1 : va_W) (sz : Nat) : Unit → State → Prop := fun _ t => va_P D vwCl w1 t.heap ∧ KOK D k t ∧ va_D (va_A ws sz) w1
def postI (D : va_G) (k : Nat → ClassId) (r : Int32) (ws w1 : va_W) (sz : Nat) : Array Value → State → Outcome → State → Prop := va_Qi (fun x (_ : Unit) => x = r) (bM D k ws w1 sz) (va_A ws sz)
def postL (D : va_G) (k : Nat → ClassId) (r : Int64) (ws w1 : va_W) (sz : Nat) : Array Value → State → Outcome → State → Prop := va_Ql (fun x (_ : Unit) => x = r) (bM D k ws w1 sz) (va_A ws sz)
def postF (D : va_G) (k : Nat → ClassId) (r : UInt32) (ws w1 : va_W) (sz : Nat) : Array Value → State → Outcome → State → Prop := va_Qf (fun x (_ : Unit) => x = r) (bM D k ws w1 sz) (va_A ws sz)
def postV (D : va_G) (k : Nat → ClassId) (ws w1 : va_W) (sz : Nat) : Array Value → State → Outcome → State → Prop := va_Qv (fun (_ : Unit) => True) (bM D k ws w1 sz) (va_A ws sz)
theorem pre_blind {D : va_G} {k : Nat → ClassId} {av : List Value} {ws : va_W} {sz : Nat} : FrameBlind (preM D k av ws sz) := fun a U g mk q => by
  obtain ⟨q0, q1, qP, qK, qD⟩ := q
  exact ⟨q0, q1, qP, va_K.moved (u := U) (U := U.calling g mk a) (Vm.Alike.refl U.vm) qK, qD⟩
theorem pre_at {D : va_G} {k : Nat → ClassId} {av : List Value} {ws : va_W} {s U : State} {H : Heap} (hU : U.heap = H) (hW : s.WarmedH U.vm) (hP : va_P D vwCl ws H) (hK : KOK D k s) {A : Nat → Prop} (hD : va_D A ws) : preM D k av ws H.size av.toArray U :=
  ⟨rfl, by rw [hU], by rw [hU]; exact hP, va_K.moved hW.alike hK, hD.weaken (fun _ _ _ _ => trivial)⟩
/-- behind a call, the callee's cells put back at their places -/
theorem gj_join {A0 : Nat → Prop} {D : va_G} {cl : List vw_C} {ws wc w1 ws' : va_W} {H H1 : Heap} (hP : va_P D cl ws H) (hD : va_D A0 ws) (isC isR : List Nat) (hC : isC.map (fun i => ws[i]?) = wc.map some) (hC1 : isC.map (fun i => ws'[i]?) = w1.map some) (hO : isR.map (fun i => ws'[i]?) = isR.map (fun i => ws[i]?)) (hcov : (List.range ws'.length).all (fun i => isC.contains i || isR.contains i) = true) (had : ws'.map (·.1) = ws.map (·.1))
    (hk : ∀ q : Nat, q < H.size → ¬ va_A wc H.size q → H1[q]? = H[q]?) (hP1 : va_P D cl w1 H1) : va_P D cl ws' H1 ∧ va_D A0 ws' := by
  have getm : ∀ {α β : Type} (f : α → β) (l : List α) (i : Nat) (b : β), (l.map f)[i]? = some b → ∃ a, l[i]? = some a ∧ f a = b := by
    intro α β f l i b h
    rw [List.getElem?_map] at h
    cases hl : l[i]? with
    | none => rw [hl] at h; cases h
    | some a => rw [hl] at h; exact ⟨a, rfl, Option.some.inj h⟩
  have mapm : ∀ {α β : Type} (f : α → β) (l : List α) (i : Nat) (a : α), l[i]? = some a → (l.map f)[i]? = some (f a) := by
    intro α β f l i a h
    rw [List.getElem?_map, h]; rfl
  constructor
  · intro i q hq
    have hlt : i < ws'.length := (List.getElem?_eq_some_iff.mp hq).1
    by_cases hc : i ∈ isC
    · obtain ⟨j, hj⟩ := List.getElem?_of_mem hc
      have h1 := mapm (fun i => ws'[i]?) isC j i hj
      rw [hC1] at h1
      obtain ⟨x, hx, he⟩ := getm some w1 j _ h1
      have : x = q := Option.some.inj (he.trans hq)
      subst this
      exact hP1 j x hx
    · have hcv := List.all_eq_true.mp hcov i (List.mem_range.mpr hlt)
      simp only [Bool.or_eq_true, List.contains_iff_mem] at hcv
      have hr : i ∈ isR := hcv.resolve_left hc
      obtain ⟨j, hj⟩ := List.getElem?_of_mem hr
      have h1 := mapm (fun i => ws'[i]?) isR j i hj
      have h2 := mapm (fun i => ws[i]?) isR j i hj
      rw [hO, h2] at h1
      have h3 : ws[i]? = ws'[i]? := Option.some.inj h1
      have h4 : ws[i]? = some q := h3.trans hq
      have hl := (hP i q h4).lt
      refine (hP i q h4).kept (hk q.1 hl (fun h => ?_))
      rcases h with ⟨k2, e, h⟩ | h
      · have h5 := mapm some wc k2 _ h
        rw [← hC] at h5
        obtain ⟨i2, h6, h7⟩ := getm (fun i => ws[i]?) isC k2 _ h5
        have := hD.1 i i2 q (q.1, e) h4 h7 rfl
        subst this
        exact hc (List.mem_of_getElem? h6)
      · omega
  · have key : ∀ (i : Nat) (q : Nat × va_E), ws'[i]? = some q → ∃ q0, ws[i]? = some q0 ∧ q0.1 = q.1 := by
      intro i q h
      have h1 := mapm (·.1) ws' i q h
      rw [had] at h1
      exact getm (·.1) ws i _ h1
    refine ⟨fun i j p q hi hj h => ?_, fun i q h => ?_⟩
    · obtain ⟨p0, h1, h2⟩ := key i p hi
      obtain ⟨q0, h3, h4⟩ := key j q hj
      exact hD.1 i j p0 q0 h1 h3 (h2.trans (h.trans h4.symm))
    · obtain ⟨q0, h1, h2⟩ := key i q h
      rw [← h2]
      exact hD.2 i q0 h1
theorem gs_P {D : va_G} {cl : List vw_C} {ws wc : va_W} {H : Heap} (h : va_P D cl ws H) (isC : List Nat) (hC : isC.map (fun i => ws[i]?) = wc.map some) : va_P D cl wc H := by
  intro k q hq
  have h1 : (isC.map (fun i => ws[i]?))[k]? = some (some q) := by rw [hC, List.getElem?_map, hq]; rfl
  rw [List.getElem?_map] at h1
  cases hi : isC[k]? with
  | none => rw [hi] at h1; cases h1
  | some i => rw [hi] at h1; exact h i q (Option.some.inj h1)
theorem gInV {Ts : List Cond} (hTs : ∀ w, w ∈ Ts ↔ w ∈ uT) {own : String} {idx : Nat} {C : String} {y : MethodName} {c' : Cond} (h1 : .methodLink own idx y ∈ uT) (h2 : .instanceMethod y ∈ uT) (h3 : .selects C y y ∈ uT) (h4 : .initialized C ∈ uT) (h5 : c' ∈ uT) : GoodIn uT (wsV own idx C y (c' :: Ts)) := by
  have hg : ∀ w ∈ uT, (w.onTables && w.keeps) = true ∨ ∃ ty, w = .arrayClass ty := fun w h => good_of_word (List.mem_filter.mp h).2
  intro w hw
  simp only [wsV, List.cons_append, List.nil_append, List.mem_cons] at hw
  rcases hw with rfl | rfl | rfl | rfl | rfl | h
  · exact ⟨h1, hg _ h1⟩
  · exact ⟨h2, hg _ h2⟩
  · exact ⟨h3, hg _ h3⟩
  · exact ⟨h4, hg _ h4⟩
  · exact ⟨h5, hg _ h5⟩
  · exact ⟨(hTs _).mp h, hg _ ((hTs _).mp h)⟩
theorem gInS {Ts : List Cond} (hTs : ∀ w, w ∈ Ts ↔ w ∈ uT) {own : String} {idx : Nat} {y : MethodName} {c' : Cond} (h1 : .methodLink own idx y ∈ uT) (h2 : .static y ∈ uT) (h4 : .initialized y.cls ∈ uT) (h5 : c' ∈ uT) : GoodIn uT (va_wsS own idx y (c' :: Ts)) := by
  have hg : ∀ w ∈ uT, (w.onTables && w.keeps) = true ∨ ∃ ty, w = .arrayClass ty := fun w h => good_of_word (List.mem_filter.mp h).2
  intro w hw
  simp only [va_wsS, List.cons_append, List.nil_append, List.mem_cons] at hw
  rcases hw with rfl | rfl | rfl | rfl | h
  · exact ⟨h1, hg _ h1⟩
  · exact ⟨h2, hg _ h2⟩
  · exact ⟨h4, hg _ h4⟩
  · exact ⟨h5, hg _ h5⟩
  · exact ⟨(hTs _).mp h, hg _ ((hTs _).mp h)⟩
/-- a callee's cells put back at their places -/
def putAll : va_W → List Nat → va_W → va_W
  | ws, i :: is, e :: es => putAll (ws.set i e) is es
  | ws, _, _ => ws
theorem putAll_len : ∀ (is : List Nat) (es ws : va_W), (putAll ws is es).length = ws.length
  | [], _, _ => by unfold putAll; rfl
  | _ :: _, [], _ => by unfold putAll; rfl
  | i :: is, e :: es, ws => by rw [putAll, putAll_len is es, List.length_set]
theorem putAll_out : ∀ (is : List Nat) (es ws : va_W) (j : Nat), j ∉ is → (putAll ws is es)[j]? = ws[j]?
  | [], _, _, _, _ => by unfold putAll; rfl
  | _ :: _, [], _, _, _ => by unfold putAll; rfl
  | i :: is, e :: es, ws, j, h => by
    rw [List.mem_cons, not_or] at h
    rw [putAll, putAll_out is es _ j h.2, List.getElem?_set_ne (fun q => h.1 q.symm)]
theorem putAll_in : ∀ (is : List Nat) (es ws : va_W), va_nd is = true → (∀ i ∈ is, i < ws.length) → is.length = es.length → is.map (fun i => (putAll ws is es)[i]?) = es.map some
  | [], [], _, _, _, _ => rfl
  | [], _ :: _, _, _, _, h => by cases h
  | _ :: _, [], _, _, _, h => by cases h
  | i :: is, e :: es, ws, hn, hl, h => by
    simp only [va_nd, Bool.and_eq_true, decide_eq_true_eq] at hn
    rw [putAll, List.map_cons, List.map_cons, putAll_out is es _ i hn.1, List.getElem?_set_self (hl i List.mem_cons_self)]
    rw [putAll_in is es (ws.set i e) hn.2 (fun j hj => by rw [List.length_set]; exact hl j (List.mem_cons_of_mem _ hj)) (by simpa using h)]
theorem pick_map {ws : va_W} : ∀ (is : List Nat) (wc : va_W), is.filterMap (fun i => ws[i]?) = wc → is.length = wc.length → is.map (fun i => ws[i]?) = wc.map some
  | [], wc, h, _ => by subst h; rfl
  | i :: is, wc, h, hl => by
    cases hi : ws[i]? with
    | none =>
      rw [List.filterMap_cons_none hi] at h
      have := List.length_filterMap_le (fun i => ws[i]?) is
      rw [h] at this
      simp at hl
      omega
    | some q =>
      rw [List.filterMap_cons_some hi] at h
      subst h
      rw [List.map_cons, List.map_cons, hi, pick_map is _ rfl (by simpa using hl)]
/-- which of a caller's cells the callee gets (isC), and what stands behind -/
def CutOK (ws wc w1 ws' : va_W) (isC : List Nat) : Prop := va_nd isC = true ∧ isC.map (fun i => ws[i]?) = wc.map some ∧ ((w1 = wc ∧ ws' = ws) ∨ (w1.map (·.1) = wc.map (·.1) ∧ putAll ws isC w1 = ws'))
theorem cut0 {ws wc : va_W} {isC : List Nat} (h1 : va_nd isC = true) (h2 : isC.filterMap (fun i => ws[i]?) = wc) (h3 : isC.length = wc.length) : CutOK ws wc wc ws isC := ⟨h1, pick_map isC wc h2 h3, Or.inl ⟨rfl, rfl⟩⟩
theorem cut1 {ws wc w1 ws' : va_W} {isC : List Nat} (h1 : va_nd isC = true) (h2 : isC.filterMap (fun i => ws[i]?) = wc) (h3 : isC.length = wc.length) (h4 : w1.map (·.1) = wc.map (·.1)) (h5 : putAll ws isC w1 = ws') : CutOK ws wc w1 ws' isC := ⟨h1, pick_map isC wc h2 h3, Or.inr ⟨h4, h5⟩⟩
/-- .. told by a mask, in one pass: what a place gets of the callee's cells, or none -/
def putL : va_W → List (Option Nat) → va_W → va_W
  | e :: ws, none :: ms, w1 => e :: putL ws ms w1
  | e :: ws, some j :: ms, w1 => (w1[j]?.getD e) :: putL ws ms w1
  | ws, _, _ => ws
def idxO (isC : List Nat) (i : Nat) : Option Nat := match isC with
  | [] => none
  | a :: l => if a = i then some 0 else (idxO l i).map (· + 1)
theorem idxO_some {i : Nat} : ∀ {isC : List Nat} {j : Nat}, idxO isC i = some j → isC[j]? = some i
  | [], j, h => by cases h
  | a :: l, j, h => by
    rw [idxO] at h
    by_cases e : a = i
    · rw [if_pos e] at h
      cases h; rw [e]; rfl
    · rw [if_neg e] at h
      cases hl : idxO l i with
      | none => rw [hl] at h; cases h
      | some q =>
        rw [hl] at h
        have hq := idxO_some hl
        cases h
        exact hq
theorem idxO_none {i : Nat} : ∀ {isC : List Nat}, idxO isC i = none → i ∉ isC
  | [], _ => List.not_mem_nil
  | a :: l, h => by
    rw [idxO] at h
    by_cases e : a = i
    · rw [if_pos e] at h; cases h
    · rw [if_neg e] at h
      cases hl : idxO l i with
      | none => exact fun hm => (List.mem_cons.mp hm).elim (fun q => e q.symm) (idxO_none hl)
      | some q => rw [hl] at h; cases h
theorem putL_get : ∀ (ws : va_W) (mask : List (Option Nat)) (w1 : va_W) (i : Nat), mask.length = ws.length → (putL ws mask w1)[i]? = match mask[i]? with
    | some (some j) => (ws[i]?).map (fun e => w1[j]?.getD e)
    | _ => ws[i]?
  | [], [], _, i, _ => by simp [putL]
  | [], _ :: _, _, _, h => by cases h
  | _ :: _, [], _, _, h => by cases h
  | e :: ws, none :: ms, w1, 0, _ => rfl
  | e :: ws, some j :: ms, w1, 0, _ => rfl
  | e :: ws, none :: ms, w1, i + 1, h => by
    rw [putL, List.getElem?_cons_succ, List.getElem?_cons_succ, List.getElem?_cons_succ]
    exact putL_get ws ms w1 i (by simpa using h)
  | e :: ws, some j :: ms, w1, i + 1, h => by
    rw [putL, List.getElem?_cons_succ, List.getElem?_cons_succ, List.getElem?_cons_succ]
    exact putL_get ws ms w1 i (by simpa using h)
theorem cutM {ws wc w1 ws' : va_W} {isC : List Nat} (mask : List (Option Nat)) (n : Nat) (h1 : va_nd isC = true) (h2 : isC.filterMap (fun i => ws[i]?) = wc) (h3 : isC.length = wc.length) (h4 : w1.map (·.1) = wc.map (·.1)) (h5 : putL ws mask w1 = ws') (h6 : mask = (List.range n).map (idxO isC)) (h7 : ws.length = n) : CutOK ws wc w1 ws' isC := by
  have hc := pick_map isC wc h2 h3
  have hl1 : isC.length = w1.length := by have := congrArg List.length h4; simp only [List.length_map] at this; omega
  refine ⟨h1, hc, Or.inr ⟨h4, ?_⟩⟩
  have hlt : ∀ i ∈ isC, i < ws.length := by
    intro i hi
    obtain ⟨j, hj⟩ := List.getElem?_of_mem hi
    have e1 : (isC.map (fun i => ws[i]?))[j]? = some (ws[i]?) := by rw [List.getElem?_map, hj]; rfl
    rw [hc, List.getElem?_map] at e1
    cases hw : wc[j]? with
    | none => rw [hw] at e1; cases e1
    | some q => rw [hw] at e1; exact (List.getElem?_eq_some_iff.mp (Option.some.inj e1).symm).1
  have hin := putAll_in isC w1 ws h1 hlt hl1
  have hml : mask.length = ws.length := by rw [h6, h7, List.length_map, List.length_range]
  rw [← h5]
  refine List.ext_getElem? fun i => ?_
  rw [putL_get ws mask w1 i hml]
  rcases Nat.lt_or_ge i ws.length with hl | hl
  · have hm : mask[i]? = some (idxO isC i) := by rw [h6, List.getElem?_map, List.getElem?_range (by omega)]; rfl
    rw [hm]
    cases hj : idxO isC i with
    | none => exact putAll_out isC w1 ws i (idxO_none hj)
    | some j =>
      have hj := idxO_some hj
      have e1 : (isC.map (fun i => (putAll ws isC w1)[i]?))[j]? = some ((putAll ws isC w1)[i]?) := by rw [List.getElem?_map, hj]; rfl
      rw [hin, List.getElem?_map] at e1
      have hjl : j < w1.length := by have := (List.getElem?_eq_some_iff.mp hj).1; omega
      rw [List.getElem?_eq_getElem hjl] at e1
      have e2 := Option.some.inj e1
      show _ = (ws[i]?).map (fun e => w1[j]?.getD e)
      rw [← e2, List.getElem?_eq_getElem hl, List.getElem?_eq_getElem hjl]
      rfl
  · have hm : mask[i]? = none := List.getElem?_eq_none (by omega)
    rw [hm]
    exact putAll_out isC w1 ws i (fun hi => absurd (hlt i hi) (by omega))
theorem cut_join {A0 : Nat → Prop} {D : va_G} {cl : List vw_C} {ws wc w1 ws' : va_W} {isC : List Nat} {H H1 : Heap} (hP : va_P D cl ws H) (hD : va_D A0 ws) (hC : CutOK ws wc w1 ws' isC) (hk : ∀ q : Nat, q < H.size → ¬ va_A wc H.size q → H1[q]? = H[q]?) (hP1 : va_P D cl w1 H1) : va_P D cl ws' H1 ∧ va_D A0 ws' := by
  obtain ⟨hn, hc, h⟩ := hC
  have hlt : ∀ i ∈ isC, i < ws.length := by
    intro i hi
    obtain ⟨j, hj⟩ := List.getElem?_of_mem hi
    have h1 : (isC.map (fun i => ws[i]?))[j]? = some (ws[i]?) := by rw [List.getElem?_map, hj]; rfl
    rw [hc, List.getElem?_map] at h1
    cases hw : wc[j]? with
    | none => rw [hw] at h1; cases h1
    | some q => rw [hw] at h1; exact (List.getElem?_eq_some_iff.mp (Option.some.inj h1).symm).1
  have hlen : isC.length = wc.length := by have := congrArg List.length hc; simpa using this
  have key : ∀ w1 : va_W, w1.map (·.1) = wc.map (·.1) → va_P D cl w1 H1 → va_P D cl (putAll ws isC w1) H1 ∧ va_D A0 (putAll ws isC w1) := by
    intro w1 ha hP1
    have hl1 : isC.length = w1.length := by have := congrArg List.length ha; simp at this; omega
    have hin := putAll_in isC w1 ws hn hlt hl1
    refine gj_join (wc := wc) (w1 := w1) hP hD isC ((List.range ws.length).filter (fun i => !isC.contains i)) hc hin ?_ ?_ ?_ hk hP1
    · refine List.map_congr_left fun i hi => ?_
      have h2 := (List.mem_filter.mp hi).2
      rw [Bool.not_eq_true', ← Bool.not_eq_true, List.contains_iff_mem] at h2
      exact putAll_out isC w1 ws i h2
    · rw [putAll_len, List.all_eq_true]
      intro i hi
      by_cases h2 : i ∈ isC
      · rw [Bool.or_eq_true, List.contains_iff_mem]; exact Or.inl h2
      · rw [Bool.or_eq_true, List.contains_iff_mem (as := List.filter _ _)]
        exact Or.inr (List.mem_filter.mpr ⟨hi, by rw [Bool.not_eq_true', ← Bool.not_eq_true, List.contains_iff_mem]; exact h2⟩)
    · refine List.ext_getElem? fun i => ?_
      rw [List.getElem?_map, List.getElem?_map]
      by_cases h2 : i ∈ isC
      · obtain ⟨j, hj⟩ := List.getElem?_of_mem h2
        have e1 : (isC.map (fun i => (putAll ws isC w1)[i]?))[j]? = some ((putAll ws isC w1)[i]?) := by rw [List.getElem?_map, hj]; rfl
        have e2 : (isC.map (fun i => ws[i]?))[j]? = some (ws[i]?) := by rw [List.getElem?_map, hj]; rfl
        rw [hin, List.getElem?_map] at e1
        rw [hc, List.getElem?_map] at e2
        have e3 : (w1.map (·.1))[j]? = (wc.map (·.1))[j]? := by rw [ha]
        rw [List.getElem?_map, List.getElem?_map] at e3
        cases hw : w1[j]? with
        | none => rw [hw] at e1; cases e1
        | some q =>
          rw [hw] at e1 e3
          cases hw2 : wc[j]? with
          | none => rw [hw2] at e2; cases e2
          | some q2 =>
            rw [hw2] at e2 e3
            rw [← Option.some.inj e1, ← Option.some.inj e2]
            exact e3
      · rw [putAll_out isC w1 ws i h2]
  rcases h with ⟨h4, h5⟩ | ⟨h4, h5⟩
  · rw [h5]
    have := key w1 (by rw [h4]) hP1
    have e : putAll ws isC w1 = ws := by
      refine List.ext_getElem? fun i => ?_
      by_cases h2 : i ∈ isC
      · have hin := putAll_in isC w1 ws hn hlt (by rw [h4]; exact hlen)
        rw [h4, ← hc, ← h4] at hin
        obtain ⟨j, hj⟩ := List.getElem?_of_mem h2
        have e1 : (isC.map (fun i => (putAll ws isC w1)[i]?))[j]? = some ((putAll ws isC w1)[i]?) := by rw [List.getElem?_map, hj]; rfl
        rw [hin, List.getElem?_map, hj] at e1
        exact (Option.some.inj e1).symm
      · exact putAll_out isC w1 ws i h2
    rw [e] at this
    exact this
  · rw [← h5]; exact key w1 h4 hP1
section GC
variable {p : Program} {l : Launch} {e : Env} {R : Room} {s : State} {m : MethodId} {args : Array Value} {below : List Frame} {meth : Method} {c : Code} {H : Heap} {locs : List Loc} {cells slots : Nat} {Q : State → Prop}
variable {cc : ByteArray} {pc nL : Nat} {ls : Array Slot} {rest st0 : List Value} {D : va_G} {A : Nat → Prop} {a : Nat} {k : Nat → ClassId} {ws : va_W}
variable {own : String}
theorem gk_get (hx : p.tables.exec = Jvm.exec) (hb : c.code = cc) {C : String} {T : u_T} {N ci index : Nat} (hts : ∀ w ∈ uT, w.before args s = true) (hin : ∀ w ∈ u_ws C T N, w ∈ uT) (hown : s.vm.findClass own = some m.cls) (hK : KOK D k s) (hH : HOK D A s.heap ws H locs) (q0 : Nat) {fs : List Value} (he : ws[q0]? = some (a, .inr (ci, fs))) (hc : vwCl[ci]? = some (C, T, N)) (j : Nat) (hj : j < N) (hlink : (Cond.fieldLink own index (T j).1 (T j).2.1 (T j).2.2.1) ∈ uT) {v : Value} (hv : fs[j]? = some v) (hdg : decode cc pc = .ok (.getfield index, 3))
    (kk : W p l e R s m args below meth c H locs cells slots Q (F0 m (pc + 3) ls (v :: rest))) : W p l e R s m args below meth c H locs cells slots Q (F0 m pc ls (.ref a :: rest)) :=
  va_get hx hb hts hin hown hK hH.1 q0 he hc j hj (hts _ hlink) (fun _ h => h) hv hdg kk
theorem gk_put (hx : p.tables.exec = Jvm.exec) (hb : c.code = cc) {C : String} {T : u_T} {N ci index : Nat} (hts : ∀ w ∈ uT, w.before args s = true) (hin : ∀ w ∈ u_ws C T N, w ∈ uT) {ty0 : Nat → FieldType} (hty : ∀ k, k < N → parseFieldDescriptor (T k).2.2.1 = some (ty0 k)) (hnm : ∀ a, a < N → ∀ b, b < N → a ≠ b → (T a).2.1 ≠ (T b).2.1) (hown : s.vm.findClass own = some m.cls) (hK : KOK D k s) (hH : HOK D A s.heap ws H locs) (q0 : Nat) {fs : List Value} (he : ws[q0]? = some (a, .inr (ci, fs))) (hc : vwCl[ci]? = some (C, T, N)) (j : Nat) (hj : j < N) (hlink : (Cond.fieldLink own index (T j).1 (T j).2.1 (T j).2.2.1) ∈ uT) (hfin : (T j).2.2.2 = false) {v : Value} (hn : narrow (ty0 j) v = v) (hfit : fits (ty0 j) v = true) (hl : j < fs.length) (hdg : decode cc pc = .ok (.putfield index, 3)) (ws' : va_W) (hw : ws.set q0 (a, .inr (ci, fs.set j v)) = ws')
    (kk : ∀ (H : Heap) (locs : List Loc), HOK D A s.heap ws' H locs → W p l e R s m args below meth c H locs cells slots Q (F0 m (pc + 3) ls rest)) : W p l e R s m args below meth c H locs cells slots Q (F0 m pc ls (v :: .ref a :: rest)) := by
  subst hw
  exact va_put hx hb hts hin ty0 hty hnm hown hK hH.1 hH.2.1 hH.2.2 q0 he hc j hj (hts _ hlink) (fun _ h => h) hfin (hty j hj) hn hfit hl hdg (fun H1 locs1 h1 h2 h3 => kk H1 locs1 ⟨h1, h2, h3⟩)
theorem gk_iald (hx : p.tables.exec = Jvm.exec) (hb : c.code = cc) (hK : KOK D k s) (hH : HOK D A s.heap ws H locs) (q0 : Nat) {n : Nat} {f : Nat → Int32} (ha : ws[q0]? = some (a, .inl (k 0, n, .inl f))) {i : Int32} (hin : vp_in i n) (hdg : decode cc pc = .ok (.iaload, 1))
    (kk : W p l e R s m args below meth c H locs cells slots Q (F0 m (pc + 1) ls (.int (f i.toNatClampNeg) :: rest))) : W p l e R s m args below meth c H locs cells slots Q (F0 m pc ls (.int i :: .ref a :: rest)) :=
  va_iald hx hb hK hH.1 q0 0 ha rfl hin hdg kk
theorem gk_cald (hx : p.tables.exec = Jvm.exec) (hb : c.code = cc) (hK : KOK D k s) (hH : HOK D A s.heap ws H locs) (q0 : Nat) {n : Nat} {f : Nat → Int32} (ha : ws[q0]? = some (a, .inl (k 1, n, .inl f))) {i : Int32} (hin : vp_in i n) (hdg : decode cc pc = .ok (.caload, 1))
    (kk : W p l e R s m args below meth c H locs cells slots Q (F0 m (pc + 1) ls (.int (f i.toNatClampNeg) :: rest))) : W p l e R s m args below meth c H locs cells slots Q (F0 m pc ls (.int i :: .ref a :: rest)) :=
  va_cald hx hb hK hH.1 q0 1 ha rfl hin hdg kk
theorem gk_bald (hx : p.tables.exec = Jvm.exec) (hb : c.code = cc) (hK : KOK D k s) (hH : HOK D A s.heap ws H locs) (q0 : Nat) {n : Nat} {f : Nat → Int32} (ha : ws[q0]? = some (a, .inl (k 2, n, .inl f))) {i : Int32} (hin : vp_in i n) (hdg : decode cc pc = .ok (.baload, 1))
    (kk : W p l e R s m args below meth c H locs cells slots Q (F0 m (pc + 1) ls (.int (f i.toNatClampNeg) :: rest))) : W p l e R s m args below meth c H locs cells slots Q (F0 m pc ls (.int i :: .ref a :: rest)) :=
  va_zald hx hb hK hH.1 q0 2 ha rfl hin hdg kk
theorem gk_fald (hx : p.tables.exec = Jvm.exec) (hb : c.code = cc) (hK : KOK D k s) (hH : HOK D A s.heap ws H locs) (q0 : Nat) {n : Nat} {f : Nat → UInt32} (ha : ws[q0]? = some (a, .inl (k 3, n, .inr (.inr (.inl f))))) {i : Int32} (hin : vp_in i n) (hdg : decode cc pc = .ok (.faload, 1))
    (kk : W p l e R s m args below meth c H locs cells slots Q (F0 m (pc + 1) ls (.float (f i.toNatClampNeg) :: rest))) : W p l e R s m args below meth c H locs cells slots Q (F0 m pc ls (.int i :: .ref a :: rest)) :=
  va_fald hx hb hK hH.1 q0 3 ha rfl hin hdg kk
theorem gk_iast (hx : p.tables.exec = Jvm.exec) (hb : c.code = cc) (hK : KOK D k s) (hH : HOK D A s.heap ws H locs) (q0 : Nat) {n : Nat} {f : Nat → Int32} (ha : ws[q0]? = some (a, .inl (k 0, n, .inl f))) {i x : Int32} (hin : vp_in i n) (hdg : decode cc pc = .ok (.iastore, 1)) (ws' : va_W) (hw : ws.set q0 (a, .inl (k 0, n, .inl (upd f i.toNatClampNeg x))) = ws')
    (kk : ∀ (H : Heap) (locs : List Loc), HOK D A s.heap ws' H locs → W p l e R s m args below meth c H locs cells slots Q (F0 m (pc + 1) ls rest)) : W p l e R s m args below meth c H locs cells slots Q (F0 m pc ls (.int x :: .int i :: .ref a :: rest)) := by
  subst hw
  exact va_iast hx hb hK hH.1 hH.2.1 hH.2.2 q0 0 ha rfl hin hdg (fun H1 locs1 h1 h2 h3 => kk H1 locs1 ⟨h1, h2, h3⟩)
theorem gk_cast (hx : p.tables.exec = Jvm.exec) (hb : c.code = cc) (hK : KOK D k s) (hH : HOK D A s.heap ws H locs) (q0 : Nat) {n : Nat} {f : Nat → Int32} (ha : ws[q0]? = some (a, .inl (k 1, n, .inl f))) {i x : Int32} (hin : vp_in i n) (hdg : decode cc pc = .ok (.castore, 1)) (ws' : va_W) (hw : ws.set q0 (a, .inl (k 1, n, .inl (upd f i.toNatClampNeg (vp_nar .char x)))) = ws')
    (kk : ∀ (H : Heap) (locs : List Loc), HOK D A s.heap ws' H locs → W p l e R s m args below meth c H locs cells slots Q (F0 m (pc + 1) ls rest)) : W p l e R s m args below meth c H locs cells slots Q (F0 m pc ls (.int x :: .int i :: .ref a :: rest)) := by
  subst hw
  exact va_cast hx hb hK hH.1 hH.2.1 hH.2.2 q0 1 ha rfl hin hdg (fun H1 locs1 h1 h2 h3 => kk H1 locs1 ⟨h1, h2, h3⟩)
theorem gk_bast (hx : p.tables.exec = Jvm.exec) (hb : c.code = cc) (hK : KOK D k s) (hH : HOK D A s.heap ws H locs) (q0 : Nat) {n : Nat} {f : Nat → Int32} (ha : ws[q0]? = some (a, .inl (k 2, n, .inl f))) {i x : Int32} (hin : vp_in i n) (hdg : decode cc pc = .ok (.bastore, 1)) (ws' : va_W) (hw : ws.set q0 (a, .inl (k 2, n, .inl (upd f i.toNatClampNeg (vp_nar .boolean x)))) = ws')
    (kk : ∀ (H : Heap) (locs : List Loc), HOK D A s.heap ws' H locs → W p l e R s m args below meth c H locs cells slots Q (F0 m (pc + 1) ls rest)) : W p l e R s m args below meth c H locs cells slots Q (F0 m pc ls (.int x :: .int i :: .ref a :: rest)) := by
  subst hw
  exact va_zast hx hb hK hH.1 hH.2.1 hH.2.2 q0 2 ha rfl hin hdg (fun H1 locs1 h1 h2 h3 => kk H1 locs1 ⟨h1, h2, h3⟩)
theorem gk_fast (hx : p.tables.exec = Jvm.exec) (hb : c.code = cc) (hK : KOK D k s) (hH : HOK D A s.heap ws H locs) (q0 : Nat) {n : Nat} {f : Nat → UInt32} (ha : ws[q0]? = some (a, .inl (k 3, n, .inr (.inr (.inl f))))) {i : Int32} {x : UInt32} (hin : vp_in i n) (hdg : decode cc pc = .ok (.fastore, 1)) (ws' : va_W) (hw : ws.set q0 (a, .inl (k 3, n, .inr (.inr (.inl (vf_upd f i.toNatClampNeg x))))) = ws')
    (kk : ∀ (H : Heap) (locs : List Loc), HOK D A s.heap ws' H locs → W p l e R s m args below meth c H locs cells slots Q (F0 m (pc + 1) ls rest)) : W p l e R s m args below meth c H locs cells slots Q (F0 m pc ls (.float x :: .int i :: .ref a :: rest)) := by
  subst hw
  exact va_fast hx hb hK hH.1 hH.2.1 hH.2.2 q0 3 ha rfl hin hdg (fun H1 locs1 h1 h2 h3 => kk H1 locs1 ⟨h1, h2, h3⟩)
/-- the array's length -/
theorem gk_alen (hx : p.tables.exec = Jvm.exec) (hb : c.code = cc) (hK : KOK D k s) (hH : HOK D A s.heap ws H locs) (q0 t0 : Nat) {cA : ClassId} {x : vp_A} (ha : ws[q0]? = some (a, .inl (cA, x))) {ty : FieldType} (ht : (tysX k)[t0]? = some (cA, ty)) {v : Int32} (hv : Int32.ofNat x.1 = v) (hdg : decode cc pc = .ok (.arraylength, 1))
    (kk : W p l e R s m args below meth c H locs cells slots Q (F0 m (pc + 1) ls (.int v :: rest))) : W p l e R s m args below meth c H locs cells slots Q (F0 m pc ls (.ref a :: rest)) :=
  va_alen hx hb hK hH.1 q0 t0 ha ht hv hdg kk
/-- a call is cut out of the caller's cells and put back -/
theorem gc_put {wc w1 ws' : va_W} {isC : List Nat} {H1 : Heap} {locs1 : List Loc} {t : State} {sz : Nat} (hH : HOK D A s.heap ws H locs) (hC : CutOK ws wc w1 ws' isC) (hz : sz = H.size) (ht : t.heap = H1) (hB : bM D k wc w1 sz () t) (hk : ∀ q : Nat, q < H.size → ¬ va_A wc H.size q → H1[q]? = H[q]?) (hS : va_S A s.heap H1 locs1) : HOK D A s.heap ws' H1 locs1 := by
  obtain ⟨hP1, -, -⟩ := hB
  rw [ht] at hP1
  obtain ⟨a1, a2⟩ := cut_join hH.1 hH.2.1 hC hk hP1
  exact ⟨a1, a2, hS⟩
theorem gc_Vi {index : Nat} {y : MethodName} {bytes : ByteArray} {maxL n ci : Nat} {ret : Option FieldType} {rm : Room} {b : Addr} {As : List Value} {wc w1 ws' : va_W} {isC : List Nat} {r : Int32} {cq : vw_C} {fs : List Value}
    {Ts : List Cond} (hTs : ∀ w, w ∈ Ts ↔ w ∈ uT) (S : CallFix p m c cc nL s args uT own) (hM : Met l y (.code y bytes maxL ret :: Ts) rm (preM D k (.ref b :: As) wc H.size) (postI D k r wc w1 H.size) 0 0 (va_A wc H.size)) (h1 : .methodLink own index y ∈ uT) (h2 : .instanceMethod y ∈ uT) (h3 : .selects cq.1 y y ∈ uT) (h4 : .initialized cq.1 ∈ uT) (h5 : .code y bytes maxL ret ∈ uT) (hd : y.cls = cq.1 ∧ y.cls ≠ "java/lang/invoke/MethodHandle" ∧ y.cls ≠ "java/lang/invoke/VarHandle" ∧ (parseMethodDescriptor y.desc).map (fun d => d.parameters.length) = some n) (hR : rm.frames + 1 ≤ R.frames ∧ 8 + (maxL + 11) + rm.locals ≤ R.locals) (hrc : rm.cells = 0 ∧ rm.slots = 0)
    (hK : KOK D k s) (hH : HOK D A s.heap ws H locs) (hA : ∀ q, s.heap.size ≤ q → A q) (hC : CutOK ws wc w1 ws' isC) (hci : vwCl[ci]? = some cq) (hrv : wc[0]? = some (b, .inr (ci, fs))) (hst : st0 = As.reverse ++ .ref b :: rest) (hn : As.length = n) (hls : ls.size = nL) (hrm : (rest.map fun v => v.category).sum ≤ 8) (hdg : decode cc pc = .ok (.invokevirtual index, 3)) (hf : cells ≤ R.cells ∧ slots ≤ R.slots)
    (kk : ∀ (H : Heap) (locs : List Loc), HOK D A s.heap ws' H locs → W p l e R s m args below meth c H locs cells slots Q (F0 m (pc + 3) ls (.int r :: rest))) : W p l e R s m args below meth c H locs cells slots Q (F0 m pc ls st0) := by
  have hPc := gs_P hH.1 isC hC.2.1
  have hDc := hH.2.1.sub isC hC.1 hC.2.1
  have hFc := va_free (wc := wc) hH.2.1 hH.2.2 hA isC hC.2.1
  refine va_calli (va_runV (As := As) (rest := rest) S hM (cwV n S.2.2.2.2 (gInV hTs h1 h2 h3 h4 h5) rfl hrc.1 hrc.2 hd hR) ⟨pre_blind, va_recv hK hPc hci hrv, fun U hU hW => pre_at hU hW hPc hK hDc⟩ rfl hn hls hst (lv_room hrm) hdg hf) hH.2.2 (fun q _ h => hFc q h) hFc (fun r1 u t H1 locs1 ht hvm hw hB hz1 hk1 hS => ?_)
  cases hw
  exact kk H1 locs1 (gc_put hH hC rfl ht hB hk1 hS)
theorem gc_Si {index : Nat} {y : MethodName} {bytes : ByteArray} {maxL n : Nat} {ret : Option FieldType} {rm : Room} {As : List Value} {wc w1 ws' : va_W} {isC : List Nat} {r : Int32}
    {Ts : List Cond} (hTs : ∀ w, w ∈ Ts ↔ w ∈ uT) (S : CallFix p m c cc nL s args uT own) (hM : Met l y (.code y bytes maxL ret :: Ts) rm (preM D k As wc H.size) (postI D k r wc w1 H.size) 0 0 (va_A wc H.size)) (h1 : .methodLink own index y ∈ uT) (h2 : .static y ∈ uT) (h4 : .initialized y.cls ∈ uT) (h5 : .code y bytes maxL ret ∈ uT) (hd : y.cls ≠ "java/lang/invoke/MethodHandle" ∧ y.cls ≠ "java/lang/invoke/VarHandle" ∧ (parseMethodDescriptor y.desc).map (fun d => d.parameters.length) = some n) (hR : rm.frames + 1 ≤ R.frames ∧ 8 + (maxL + 11) + rm.locals ≤ R.locals) (hrc : rm.cells = 0 ∧ rm.slots = 0)
    (hK : KOK D k s) (hH : HOK D A s.heap ws H locs) (hA : ∀ q, s.heap.size ≤ q → A q) (hC : CutOK ws wc w1 ws' isC) (hst : st0 = As.reverse ++ rest) (hn : As.length = n) (hls : ls.size = nL) (hrm : (rest.map fun v => v.category).sum ≤ 8) (hdg : decode cc pc = .ok (.invokestatic index, 3)) (hf : cells ≤ R.cells ∧ slots ≤ R.slots)
    (kk : ∀ (H : Heap) (locs : List Loc), HOK D A s.heap ws' H locs → W p l e R s m args below meth c H locs cells slots Q (F0 m (pc + 3) ls (.int r :: rest))) : W p l e R s m args below meth c H locs cells slots Q (F0 m pc ls st0) := by
  have hPc := gs_P hH.1 isC hC.2.1
  have hDc := hH.2.1.sub isC hC.1 hC.2.1
  have hFc := va_free (wc := wc) hH.2.1 hH.2.2 hA isC hC.2.1
  refine va_calli (va_runS (As := As) (rest := rest) S hM (va_cwS n S.2.2.2.2 (gInS hTs h1 h2 h4 h5) rfl hrc.1 hrc.2 hd hR) ⟨pre_blind, fun U hU hW => pre_at hU hW hPc hK hDc⟩ rfl hn hls hst (lv_room hrm) hdg hf) hH.2.2 (fun q _ h => hFc q h) hFc (fun r1 u t H1 locs1 ht hvm hw hB hz1 hk1 hS => ?_)
  cases hw
  exact kk H1 locs1 (gc_put hH hC rfl ht hB hk1 hS)
theorem gc_Vl {index : Nat} {y : MethodName} {bytes : ByteArray} {maxL n ci : Nat} {ret : Option FieldType} {rm : Room} {b : Addr} {As : List Value} {wc w1 ws' : va_W} {isC : List Nat} {r : Int64} {cq : vw_C} {fs : List Value}
    {Ts : List Cond} (hTs : ∀ w, w ∈ Ts ↔ w ∈ uT) (S : CallFix p m c cc nL s args uT own) (hM : Met l y (.code y bytes maxL ret :: Ts) rm (preM D k (.ref b :: As) wc H.size) (postL D k r wc w1 H.size) 0 0 (va_A wc H.size)) (h1 : .methodLink own index y ∈ uT) (h2 : .instanceMethod y ∈ uT) (h3 : .selects cq.1 y y ∈ uT) (h4 : .initialized cq.1 ∈ uT) (h5 : .code y bytes maxL ret ∈ uT) (hd : y.cls = cq.1 ∧ y.cls ≠ "java/lang/invoke/MethodHandle" ∧ y.cls ≠ "java/lang/invoke/VarHandle" ∧ (parseMethodDescriptor y.desc).map (fun d => d.parameters.length) = some n) (hR : rm.frames + 1 ≤ R.frames ∧ 8 + (maxL + 11) + rm.locals ≤ R.locals) (hrc : rm.cells = 0 ∧ rm.slots = 0)
    (hK : KOK D k s) (hH : HOK D A s.heap ws H locs) (hA : ∀ q, s.heap.size ≤ q → A q) (hC : CutOK ws wc w1 ws' isC) (hci : vwCl[ci]? = some cq) (hrv : wc[0]? = some (b, .inr (ci, fs))) (hst : st0 = As.reverse ++ .ref b :: rest) (hn : As.length = n) (hls : ls.size = nL) (hrm : (rest.map fun v => v.category).sum ≤ 8) (hdg : decode cc pc = .ok (.invokevirtual index, 3)) (hf : cells ≤ R.cells ∧ slots ≤ R.slots)
    (kk : ∀ (H : Heap) (locs : List Loc), HOK D A s.heap ws' H locs → W p l e R s m args below meth c H locs cells slots Q (F0 m (pc + 3) ls (.long r :: rest))) : W p l e R s m args below meth c H locs cells slots Q (F0 m pc ls st0) := by
  have hPc := gs_P hH.1 isC hC.2.1
  have hDc := hH.2.1.sub isC hC.1 hC.2.1
  have hFc := va_free (wc := wc) hH.2.1 hH.2.2 hA isC hC.2.1
  refine va_calll (va_runV (As := As) (rest := rest) S hM (cwV n S.2.2.2.2 (gInV hTs h1 h2 h3 h4 h5) rfl hrc.1 hrc.2 hd hR) ⟨pre_blind, va_recv hK hPc hci hrv, fun U hU hW => pre_at hU hW hPc hK hDc⟩ rfl hn hls hst (lv_room hrm) hdg hf) hH.2.2 (fun q _ h => hFc q h) hFc (fun r1 u t H1 locs1 ht hvm hw hB hz1 hk1 hS => ?_)
  cases hw
  exact kk H1 locs1 (gc_put hH hC rfl ht hB hk1 hS)
theorem gc_Sl {index : Nat} {y : MethodName} {bytes : ByteArray} {maxL n : Nat} {ret : Option FieldType} {rm : Room} {As : List Value} {wc w1 ws' : va_W} {isC : List Nat} {r : Int64}
    {Ts : List Cond} (hTs : ∀ w, w ∈ Ts ↔ w ∈ uT) (S : CallFix p m c cc nL s args uT own) (hM : Met l y (.code y bytes maxL ret :: Ts) rm (preM D k As wc H.size) (postL D k r wc w1 H.size) 0 0 (va_A wc H.size)) (h1 : .methodLink own index y ∈ uT) (h2 : .static y ∈ uT) (h4 : .initialized y.cls ∈ uT) (h5 : .code y bytes maxL ret ∈ uT) (hd : y.cls ≠ "java/lang/invoke/MethodHandle" ∧ y.cls ≠ "java/lang/invoke/VarHandle" ∧ (parseMethodDescriptor y.desc).map (fun d => d.parameters.length) = some n) (hR : rm.frames + 1 ≤ R.frames ∧ 8 + (maxL + 11) + rm.locals ≤ R.locals) (hrc : rm.cells = 0 ∧ rm.slots = 0)
    (hK : KOK D k s) (hH : HOK D A s.heap ws H locs) (hA : ∀ q, s.heap.size ≤ q → A q) (hC : CutOK ws wc w1 ws' isC) (hst : st0 = As.reverse ++ rest) (hn : As.length = n) (hls : ls.size = nL) (hrm : (rest.map fun v => v.category).sum ≤ 8) (hdg : decode cc pc = .ok (.invokestatic index, 3)) (hf : cells ≤ R.cells ∧ slots ≤ R.slots)
    (kk : ∀ (H : Heap) (locs : List Loc), HOK D A s.heap ws' H locs → W p l e R s m args below meth c H locs cells slots Q (F0 m (pc + 3) ls (.long r :: rest))) : W p l e R s m args below meth c H locs cells slots Q (F0 m pc ls st0) := by
  have hPc := gs_P hH.1 isC hC.2.1
  have hDc := hH.2.1.sub isC hC.1 hC.2.1
  have hFc := va_free (wc := wc) hH.2.1 hH.2.2 hA isC hC.2.1
  refine va_calll (va_runS (As := As) (rest := rest) S hM (va_cwS n S.2.2.2.2 (gInS hTs h1 h2 h4 h5) rfl hrc.1 hrc.2 hd hR) ⟨pre_blind, fun U hU hW => pre_at hU hW hPc hK hDc⟩ rfl hn hls hst (lv_room hrm) hdg hf) hH.2.2 (fun q _ h => hFc q h) hFc (fun r1 u t H1 locs1 ht hvm hw hB hz1 hk1 hS => ?_)
  cases hw
  exact kk H1 locs1 (gc_put hH hC rfl ht hB hk1 hS)
theorem gc_Vf {index : Nat} {y : MethodName} {bytes : ByteArray} {maxL n ci : Nat} {ret : Option FieldType} {rm : Room} {b : Addr} {As : List Value} {wc w1 ws' : va_W} {isC : List Nat} {r : UInt32} {cq : vw_C} {fs : List Value}
    {Ts : List Cond} (hTs : ∀ w, w ∈ Ts ↔ w ∈ uT) (S : CallFix p m c cc nL s args uT own) (hM : Met l y (.code y bytes maxL ret :: Ts) rm (preM D k (.ref b :: As) wc H.size) (postF D k r wc w1 H.size) 0 0 (va_A wc H.size)) (h1 : .methodLink own index y ∈ uT) (h2 : .instanceMethod y ∈ uT) (h3 : .selects cq.1 y y ∈ uT) (h4 : .initialized cq.1 ∈ uT) (h5 : .code y bytes maxL ret ∈ uT) (hd : y.cls = cq.1 ∧ y.cls ≠ "java/lang/invoke/MethodHandle" ∧ y.cls ≠ "java/lang/invoke/VarHandle" ∧ (parseMethodDescriptor y.desc).map (fun d => d.parameters.length) = some n) (hR : rm.frames + 1 ≤ R.frames ∧ 8 + (maxL + 11) + rm.locals ≤ R.locals) (hrc : rm.cells = 0 ∧ rm.slots = 0)
    (hK : KOK D k s) (hH : HOK D A s.heap ws H locs) (hA : ∀ q, s.heap.size ≤ q → A q) (hC : CutOK ws wc w1 ws' isC) (hci : vwCl[ci]? = some cq) (hrv : wc[0]? = some (b, .inr (ci, fs))) (hst : st0 = As.reverse ++ .ref b :: rest) (hn : As.length = n) (hls : ls.size = nL) (hrm : (rest.map fun v => v.category).sum ≤ 8) (hdg : decode cc pc = .ok (.invokevirtual index, 3)) (hf : cells ≤ R.cells ∧ slots ≤ R.slots)
    (kk : ∀ (H : Heap) (locs : List Loc), HOK D A s.heap ws' H locs → W p l e R s m args below meth c H locs cells slots Q (F0 m (pc + 3) ls (.float r :: rest))) : W p l e R s m args below meth c H locs cells slots Q (F0 m pc ls st0) := by
  have hPc := gs_P hH.1 isC hC.2.1
  have hDc := hH.2.1.sub isC hC.1 hC.2.1
  have hFc := va_free (wc := wc) hH.2.1 hH.2.2 hA isC hC.2.1
  refine va_callf (va_runV (As := As) (rest := rest) S hM (cwV n S.2.2.2.2 (gInV hTs h1 h2 h3 h4 h5) rfl hrc.1 hrc.2 hd hR) ⟨pre_blind, va_recv hK hPc hci hrv, fun U hU hW => pre_at hU hW hPc hK hDc⟩ rfl hn hls hst (lv_room hrm) hdg hf) hH.2.2 (fun q _ h => hFc q h) hFc (fun r1 u t H1 locs1 ht hvm hw hB hz1 hk1 hS => ?_)
  cases hw
  exact kk H1 locs1 (gc_put hH hC rfl ht hB hk1 hS)
theorem gc_Sf {index : Nat} {y : MethodName} {bytes : ByteArray} {maxL n : Nat} {ret : Option FieldType} {rm : Room} {As : List Value} {wc w1 ws' : va_W} {isC : List Nat} {r : UInt32}
    {Ts : List Cond} (hTs : ∀ w, w ∈ Ts ↔ w ∈ uT) (S : CallFix p m c cc nL s args uT own) (hM : Met l y (.code y bytes maxL ret :: Ts) rm (preM D k As wc H.size) (postF D k r wc w1 H.size) 0 0 (va_A wc H.size)) (h1 : .methodLink own index y ∈ uT) (h2 : .static y ∈ uT) (h4 : .initialized y.cls ∈ uT) (h5 : .code y bytes maxL ret ∈ uT) (hd : y.cls ≠ "java/lang/invoke/MethodHandle" ∧ y.cls ≠ "java/lang/invoke/VarHandle" ∧ (parseMethodDescriptor y.desc).map (fun d => d.parameters.length) = some n) (hR : rm.frames + 1 ≤ R.frames ∧ 8 + (maxL + 11) + rm.locals ≤ R.locals) (hrc : rm.cells = 0 ∧ rm.slots = 0)
    (hK : KOK D k s) (hH : HOK D A s.heap ws H locs) (hA : ∀ q, s.heap.size ≤ q → A q) (hC : CutOK ws wc w1 ws' isC) (hst : st0 = As.reverse ++ rest) (hn : As.length = n) (hls : ls.size = nL) (hrm : (rest.map fun v => v.category).sum ≤ 8) (hdg : decode cc pc = .ok (.invokestatic index, 3)) (hf : cells ≤ R.cells ∧ slots ≤ R.slots)
    (kk : ∀ (H : Heap) (locs : List Loc), HOK D A s.heap ws' H locs → W p l e R s m args below meth c H locs cells slots Q (F0 m (pc + 3) ls (.float r :: rest))) : W p l e R s m args below meth c H locs cells slots Q (F0 m pc ls st0) := by
  have hPc := gs_P hH.1 isC hC.2.1
  have hDc := hH.2.1.sub isC hC.1 hC.2.1
  have hFc := va_free (wc := wc) hH.2.1 hH.2.2 hA isC hC.2.1
  refine va_callf (va_runS (As := As) (rest := rest) S hM (va_cwS n S.2.2.2.2 (gInS hTs h1 h2 h4 h5) rfl hrc.1 hrc.2 hd hR) ⟨pre_blind, fun U hU hW => pre_at hU hW hPc hK hDc⟩ rfl hn hls hst (lv_room hrm) hdg hf) hH.2.2 (fun q _ h => hFc q h) hFc (fun r1 u t H1 locs1 ht hvm hw hB hz1 hk1 hS => ?_)
  cases hw
  exact kk H1 locs1 (gc_put hH hC rfl ht hB hk1 hS)
theorem gc_Vv {index : Nat} {y : MethodName} {bytes : ByteArray} {maxL n ci : Nat} {ret : Option FieldType} {rm : Room} {b : Addr} {As : List Value} {wc w1 ws' : va_W} {isC : List Nat} {cq : vw_C} {fs : List Value}
    {Ts : List Cond} (hTs : ∀ w, w ∈ Ts ↔ w ∈ uT) (S : CallFix p m c cc nL s args uT own) (hM : Met l y (.code y bytes maxL ret :: Ts) rm (preM D k (.ref b :: As) wc H.size) (postV D k wc w1 H.size) 0 0 (va_A wc H.size)) (h1 : .methodLink own index y ∈ uT) (h2 : .instanceMethod y ∈ uT) (h3 : .selects cq.1 y y ∈ uT) (h4 : .initialized cq.1 ∈ uT) (h5 : .code y bytes maxL ret ∈ uT) (hd : y.cls = cq.1 ∧ y.cls ≠ "java/lang/invoke/MethodHandle" ∧ y.cls ≠ "java/lang/invoke/VarHandle" ∧ (parseMethodDescriptor y.desc).map (fun d => d.parameters.length) = some n) (hR : rm.frames + 1 ≤ R.frames ∧ 8 + (maxL + 11) + rm.locals ≤ R.locals) (hrc : rm.cells = 0 ∧ rm.slots = 0)
    (hK : KOK D k s) (hH : HOK D A s.heap ws H locs) (hA : ∀ q, s.heap.size ≤ q → A q) (hC : CutOK ws wc w1 ws' isC) (hci : vwCl[ci]? = some cq) (hrv : wc[0]? = some (b, .inr (ci, fs))) (hst : st0 = As.reverse ++ .ref b :: rest) (hn : As.length = n) (hls : ls.size = nL) (hrm : (rest.map fun v => v.category).sum ≤ 8) (hdg : decode cc pc = .ok (.invokevirtual index, 3)) (hf : cells ≤ R.cells ∧ slots ≤ R.slots)
    (kk : ∀ (H : Heap) (locs : List Loc), HOK D A s.heap ws' H locs → W p l e R s m args below meth c H locs cells slots Q (F0 m (pc + 3) ls (rest))) : W p l e R s m args below meth c H locs cells slots Q (F0 m pc ls st0) := by
  have hPc := gs_P hH.1 isC hC.2.1
  have hDc := hH.2.1.sub isC hC.1 hC.2.1
  have hFc := va_free (wc := wc) hH.2.1 hH.2.2 hA isC hC.2.1
  refine va_callv (va_runV (As := As) (rest := rest) S hM (cwV n S.2.2.2.2 (gInV hTs h1 h2 h3 h4 h5) rfl hrc.1 hrc.2 hd hR) ⟨pre_blind, va_recv hK hPc hci hrv, fun U hU hW => pre_at hU hW hPc hK hDc⟩ rfl hn hls hst (lv_room hrm) hdg hf) hH.2.2 (fun q _ h => hFc q h) hFc (fun u t H1 locs1 ht hvm hw hB hz1 hk1 hS => ?_)
  exact kk H1 locs1 (gc_put hH hC rfl ht hB hk1 hS)
theorem gc_Sv {index : Nat} {y : MethodName} {bytes : ByteArray} {maxL n : Nat} {ret : Option FieldType} {rm : Room} {As : List Value} {wc w1 ws' : va_W} {isC : List Nat}
    {Ts : List Cond} (hTs : ∀ w, w ∈ Ts ↔ w ∈ uT) (S : CallFix p m c cc nL s args uT own) (hM : Met l y (.code y bytes maxL ret :: Ts) rm (preM D k As wc H.size) (postV D k wc w1 H.size) 0 0 (va_A wc H.size)) (h1 : .methodLink own index y ∈ uT) (h2 : .static y ∈ uT) (h4 : .initialized y.cls ∈ uT) (h5 : .code y bytes maxL ret ∈ uT) (hd : y.cls ≠ "java/lang/invoke/MethodHandle" ∧ y.cls ≠ "java/lang/invoke/VarHandle" ∧ (parseMethodDescriptor y.desc).map (fun d => d.parameters.length) = some n) (hR : rm.frames + 1 ≤ R.frames ∧ 8 + (maxL + 11) + rm.locals ≤ R.locals) (hrc : rm.cells = 0 ∧ rm.slots = 0)
    (hK : KOK D k s) (hH : HOK D A s.heap ws H locs) (hA : ∀ q, s.heap.size ≤ q → A q) (hC : CutOK ws wc w1 ws' isC) (hst : st0 = As.reverse ++ rest) (hn : As.length = n) (hls : ls.size = nL) (hrm : (rest.map fun v => v.category).sum ≤ 8) (hdg : decode cc pc = .ok (.invokestatic index, 3)) (hf : cells ≤ R.cells ∧ slots ≤ R.slots)
    (kk : ∀ (H : Heap) (locs : List Loc), HOK D A s.heap ws' H locs → W p l e R s m args below meth c H locs cells slots Q (F0 m (pc + 3) ls (rest))) : W p l e R s m args below meth c H locs cells slots Q (F0 m pc ls st0) := by
  have hPc := gs_P hH.1 isC hC.2.1
  have hDc := hH.2.1.sub isC hC.1 hC.2.1
  have hFc := va_free (wc := wc) hH.2.1 hH.2.2 hA isC hC.2.1
  refine va_callv (va_runS (As := As) (rest := rest) S hM (va_cwS n S.2.2.2.2 (gInS hTs h1 h2 h4 h5) rfl hrc.1 hrc.2 hd hR) ⟨pre_blind, fun U hU hW => pre_at hU hW hPc hK hDc⟩ rfl hn hls hst (lv_room hrm) hdg hf) hH.2.2 (fun q _ h => hFc q h) hFc (fun u t H1 locs1 ht hvm hw hB hz1 hk1 hS => ?_)
  exact kk H1 locs1 (gc_put hH hC rfl ht hB hk1 hS)
theorem gk_copyi (hx : p.tables.exec = Jvm.exec) (hb : c.code = cc) (hml : c.maxLocals = ls.size) {index : Nat} (hown : s.vm.findClass own = some m.cls) (hlink : (Cond.methodLink own index arraycopyName).before args s = true) (hnat : (Cond.native arraycopyName).before args s = true) (hstat : (Cond.static arraycopyName).before args s = true) (hini : (Cond.initialized "java/lang/System").before args s = true) (hK : KOK D k s) (hH : HOK D A s.heap ws H locs) (q0 q1 : Nat) {a0 n0 n1 : Nat} {f g : Nat → Int32} (ha0 : ws[q0]? = some (a0, .inl (k 0, n0, .inl f))) (ha1 : ws[q1]? = some (a, .inl (k 0, n1, .inl g))) {n : Int32} (hn : 0 ≤ n.toInt ∧ n.toInt ≤ (min n0 n1 : Nat)) (h1 : ¬ (0 : Int32) < 0) (h2 : (0 : Int32).toNatClampNeg = 0) (hframes : 1 ≤ R.frames) (hlocals : (rest.map fun v => v.category).sum + (nativeFrameWords "java/lang/System" "arraycopy" 5 + 11) ≤ R.locals) (hdg : decode cc pc = .ok (.invokestatic index, 3)) {ws' : va_W} (hw : ws.set q1 (a, .inl (k 0, n1, .inl (va_cpy f g 0 0 n.toNatClampNeg))) = ws')
    (kk : ∀ (H : Heap) (locs : List Loc), HOK D A s.heap ws' H locs → W p l e R s m args below meth c H locs cells slots Q (F0 m (pc + 3) ls rest)) : W p l e R s m args below meth c H locs cells slots Q (F0 m pc ls (.int n :: .int 0 :: .ref a :: .int 0 :: .ref a0 :: rest)) := by
  subst hw
  have h3 : ¬ n < 0 := by
    rw [Int32.lt_iff_toInt_lt]
    exact Int.not_lt.mpr hn.1
  have h4 : n.toNatClampNeg ≤ min n0 n1 := by
    have := hn.2
    show n.toInt.toNat ≤ _
    omega
  exact va_copyi hx hb hml hown hlink hnat hstat hini hK hH.1 hH.2.1 hH.2.2 q0 q1 0 0 ha0 ha1 rfl rfl rfl h1 h1 h3 (by rw [h2]; omega) (by rw [h2]; omega) (fun _ _ => rfl) hframes hlocals hdg (fun H1 locs1 e1 e2 e3 => by rw [h2] at e1 e2; exact kk H1 locs1 ⟨e1, e2, e3⟩)
theorem gk_copyf (hx : p.tables.exec = Jvm.exec) (hb : c.code = cc) (hml : c.maxLocals = ls.size) {index : Nat} (hown : s.vm.findClass own = some m.cls) (hlink : (Cond.methodLink own index arraycopyName).before args s = true) (hnat : (Cond.native arraycopyName).before args s = true) (hstat : (Cond.static arraycopyName).before args s = true) (hini : (Cond.initialized "java/lang/System").before args s = true) (hK : KOK D k s) (hH : HOK D A s.heap ws H locs) (q0 q1 : Nat) {a0 n0 n1 : Nat} {f g : Nat → UInt32} (ha0 : ws[q0]? = some (a0, .inl (k 3, n0, .inr (.inr (.inl f))))) (ha1 : ws[q1]? = some (a, .inl (k 3, n1, .inr (.inr (.inl g))))) {n : Int32} (hn : 0 ≤ n.toInt ∧ n.toInt ≤ (min n0 n1 : Nat)) (h1 : ¬ (0 : Int32) < 0) (h2 : (0 : Int32).toNatClampNeg = 0) (hframes : 1 ≤ R.frames) (hlocals : (rest.map fun v => v.category).sum + (nativeFrameWords "java/lang/System" "arraycopy" 5 + 11) ≤ R.locals) (hdg : decode cc pc = .ok (.invokestatic index, 3)) {ws' : va_W} (hw : ws.set q1 (a, .inl (k 3, n1, .inr (.inr (.inl (va_cpy f g 0 0 n.toNatClampNeg))))) = ws')
    (kk : ∀ (H : Heap) (locs : List Loc), HOK D A s.heap ws' H locs → W p l e R s m args below meth c H locs cells slots Q (F0 m (pc + 3) ls rest)) : W p l e R s m args below meth c H locs cells slots Q (F0 m pc ls (.int n :: .int 0 :: .ref a :: .int 0 :: .ref a0 :: rest)) := by
  subst hw
  have h3 : ¬ n < 0 := by
    rw [Int32.lt_iff_toInt_lt]
    exact Int.not_lt.mpr hn.1
  have h4 : n.toNatClampNeg ≤ min n0 n1 := by
    have := hn.2
    show n.toInt.toNat ≤ _
    omega
  exact va_copyf hx hb hml hown hlink hnat hstat hini hK hH.1 hH.2.1 hH.2.2 q0 q1 3 3 ha0 ha1 rfl rfl rfl h1 h1 h3 (by rw [h2]; omega) (by rw [h2]; omega) (fun _ _ => rfl) hframes hlocals hdg (fun H1 locs1 e1 e2 e3 => by rw [h2] at e1 e2; exact kk H1 locs1 ⟨e1, e2, e3⟩)
theorem gk_aald (hx : p.tables.exec = Jvm.exec) (hb : c.code = cc) (hK : KOK D k s) (hH : HOK D A s.heap ws H locs) (q0 t0 : Nat) {cA : ClassId} {C : String} {n : Nat} {f : Nat → Option Nat} (ha : ws[q0]? = some (a, .inl (cA, n, .inr (.inr (.inr (.inr f)))))) (ht : (tysX k)[t0]? = some (cA, .object C)) {i : Int32} (hin : vp_in i n) (hdg : decode cc pc = .ok (.aaload, 1))
    (kk : W p l e R s m args below meth c H locs cells slots Q (F0 m (pc + 1) ls (va_rf (f i.toNatClampNeg) :: rest))) : W p l e R s m args below meth c H locs cells slots Q (F0 m pc ls (.int i :: .ref a :: rest)) :=
  va_aldq hx hb hK hH.1 q0 t0 ha ht hin hdg kk
/-- the ends of a method -/
theorem ge_i {ws0 w1 : va_W} {r v : Int32} (hx : p.tables.exec = Jvm.exec) (hb : c.code = cc) (hr : meth.sig.returnType = some .int) (hlocks : meth.locks = false) (hQ : MQ below (postI D k r ws0 w1 s.heap.size) args s cells slots A = Q) (hK : KOK D k s) (hH : HOK D A s.heap w1 H locs) (hA : va_A ws0 s.heap.size = A) (hv : v = r) (hdg : decode cc pc = .ok (.ireturn, 1)) : W p l e R s m args below meth c H locs cells slots Q (F0 m pc ls [.int v]) := by
  subst hQ; subst hA; subst hv
  exact W.iret hx hb hr (fun t ht hW => ⟨⟨v, (), rfl, rfl, by rw [ht]; exact hH.1, va_K.moved hW.alike hK, hH.2.1⟩, hH.2.2.F ht⟩) hH.2.2.2.2 hdg
theorem ge_z {ws0 w1 : va_W} {r v : Int32} {ty : FieldType} (hx : p.tables.exec = Jvm.exec) (hb : c.code = cc) (hr : meth.sig.returnType = some ty) (hn : narrow ty (.int v) = .int v) (hlocks : meth.locks = false) (hQ : MQ below (postI D k r ws0 w1 s.heap.size) args s cells slots A = Q) (hK : KOK D k s) (hH : HOK D A s.heap w1 H locs) (hA : va_A ws0 s.heap.size = A) (hv : v = r) (hdg : decode cc pc = .ok (.ireturn, 1)) : W p l e R s m args below meth c H locs cells slots Q (F0 m pc ls [.int v]) := by
  subst hQ; subst hA; subst hv
  exact W.zret hx hb hr hn (fun t ht hW => ⟨⟨v, (), rfl, rfl, by rw [ht]; exact hH.1, va_K.moved hW.alike hK, hH.2.1⟩, hH.2.2.F ht⟩) hH.2.2.2.2 hdg
theorem ge_l {ws0 w1 : va_W} {r v : Int64} (hx : p.tables.exec = Jvm.exec) (hb : c.code = cc) (hr : meth.sig.returnType = some .long) (hlocks : meth.locks = false) (hQ : MQ below (postL D k r ws0 w1 s.heap.size) args s cells slots A = Q) (hK : KOK D k s) (hH : HOK D A s.heap w1 H locs) (hA : va_A ws0 s.heap.size = A) (hv : v = r) (hdg : decode cc pc = .ok (.lreturn, 1)) : W p l e R s m args below meth c H locs cells slots Q (F0 m pc ls [.long v]) := by
  subst hQ; subst hA; subst hv
  exact W.lret hx hb hr (fun t ht hW => ⟨⟨v, (), rfl, rfl, by rw [ht]; exact hH.1, va_K.moved hW.alike hK, hH.2.1⟩, hH.2.2.F ht⟩) hH.2.2.2.2 hdg
theorem ge_f {ws0 w1 : va_W} {r v : UInt32} (hx : p.tables.exec = Jvm.exec) (hb : c.code = cc) (hr : meth.sig.returnType = some .float) (hlocks : meth.locks = false) (hQ : MQ below (postF D k r ws0 w1 s.heap.size) args s cells slots A = Q) (hK : KOK D k s) (hH : HOK D A s.heap w1 H locs) (hA : va_A ws0 s.heap.size = A) (hv : v = r) (hdg : decode cc pc = .ok (.freturn, 1)) : W p l e R s m args below meth c H locs cells slots Q (F0 m pc ls [.float v]) := by
  subst hQ; subst hA; subst hv
  exact W.fret hx hb hr (fun t ht hW => ⟨⟨v, (), rfl, rfl, by rw [ht]; exact hH.1, va_K.moved hW.alike hK, hH.2.1⟩, hH.2.2.F ht⟩) hH.2.2.2.2 hdg
theorem ge_v {ws0 w1 : va_W} (hx : p.tables.exec = Jvm.exec) (hb : c.code = cc) (hr : meth.sig.returnType = none) (hlocks : meth.locks = false) (hQ : MQ below (postV D k ws0 w1 s.heap.size) args s cells slots A = Q) (hK : KOK D k s) (hH : HOK D A s.heap w1 H locs) (hA : va_A ws0 s.heap.size = A) (hdg : decode cc pc = .ok (.return_, 1)) : W p l e R s m args below meth c H locs cells slots Q (F0 m pc ls []) := by
  subst hQ; subst hA
  exact W.vret hx hb hr (fun t ht hW => ⟨⟨(), rfl, trivial, by rw [ht]; exact hH.1, va_K.moved hW.alike hK, hH.2.1⟩, hH.2.2.F ht⟩) hH.2.2.2.2 hdg
end GC
