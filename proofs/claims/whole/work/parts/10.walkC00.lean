theorem hd_X0_forget : yX0_forget.cls = RX0 ∧ yX0_forget.cls ≠ "java/lang/invoke/MethodHandle" ∧ yX0_forget.cls ≠ "java/lang/invoke/VarHandle" ∧ (parseMethodDescriptor yX0_forget.desc).map (fun d => d.parameters.length) = some 0 := by decide +kernel
set_option maxHeartbeats 4000000 in
set_option maxRecDepth 100000 in
theorem mX0_forget (l : Launch) (Ts : List Cond) (hTs : ∀ w, w ∈ Ts ↔ w ∈ uT) (D : va_G) (k : Nat → ClassId) (sz : Nat) (a_t : Nat) (a_t_codes : Nat) (a_t_isPossible : Nat) (a_t_sets : Nat) (a_t_plan : Nat) (a_t_best : Nat) (a_t_tried : Nat) (v_t_hasPlans : Value) (v_t_hasSets : Value) (v_t_size : Value) (r : Int32 × Int32) (h : fX0_forget = some r) : Met l yX0_forget (Cond.code yX0_forget cX0_forget 1 none :: Ts) ({ frames := 0, cells := 0, slots := 0, locals := 0 } : Room) (preM D k [.ref a_t] [(a_t, .inr (0, [.ref a_t_codes, .ref a_t_isPossible, .ref a_t_sets, .ref a_t_plan, .ref a_t_best, .ref a_t_tried, v_t_size, v_t_hasSets, v_t_hasPlans]))] sz) (postV D k [(a_t, .inr (0, [.ref a_t_codes, .ref a_t_isPossible, .ref a_t_sets, .ref a_t_plan, .ref a_t_best, .ref a_t_tried, v_t_size, v_t_hasSets, v_t_hasPlans]))] [(a_t, .inr (0, [.ref a_t_codes, .ref a_t_isPossible, .ref a_t_sets, .ref a_t_plan, .ref a_t_best, .ref a_t_tried, v_t_size, .int r.2, .int r.1]))] sz) 0 0 (va_A [(a_t, .inr (0, [.ref a_t_codes, .ref a_t_isPossible, .ref a_t_sets, .ref a_t_plan, .ref a_t_best, .ref a_t_tried, v_t_size, v_t_hasSets, v_t_hasPlans]))] sz) := by
  refine Met.ofW (cc := cX0_forget) (maxL := 1) (ret := none) (by decide) rfl ?_
  intro p e s m args below meth c s₁ B hml hv
  obtain ⟨rfl, hsz, hP, hK, hD0⟩ := hv
  have hx := B.exec
  have hb := B.bytes
  have hr := B.returns
  have hts0 := atoms_spec (ws := (Cond.code yX0_forget cX0_forget 1 none :: Ts)) B.pre
  have hts : ∀ w ∈ uT, w.before _ s = true := fun w h => hts0 w (List.mem_cons_of_mem _ ((hTs w).mpr h))
  clear hts0
  have hown : s.vm.findClass RX0 = some m.cls := findClass_of_methodNamed B.named
  have hlocks := B.notSynchronized
  subst hsz
  have hD := hD0.self (sz := s.heap.size)
  generalize hAe : va_A [(a_t, .inr (0, [.ref a_t_codes, .ref a_t_isPossible, .ref a_t_sets, .ref a_t_plan, .ref a_t_best, .ref a_t_tried, v_t_size, v_t_hasSets, v_t_hasPlans]))] s.heap.size = A at hD ⊢
  have hA : ∀ q : Nat, s.heap.size ≤ q → A q := fun q h => by rw [← hAe]; exact Or.inr h
  have hH : HOK D A s.heap [(a_t, .inr (0, [.ref a_t_codes, .ref a_t_isPossible, .ref a_t_sets, .ref a_t_plan, .ref a_t_best, .ref a_t_tried, v_t_size, v_t_hasSets, v_t_hasPlans]))] s.heap [] := ⟨hP, hD, va_S.rf⟩
  have hl := lv_entry ([.ref a_t]) (n := 1) (Nat.le_of_ble_eq_true rfl)
  rw [lg_entry_eq]
  generalize (lg_sl ([.ref a_t]) ++ List.replicate (1 - (lg_sl ([.ref a_t])).length) Slot.unset).toArray = ls at hl ⊢
  have hl : lv_has ls 1 [(0, .ref a_t)] := hl
  generalize hQ : MQ below (postV D k [(a_t, .inr (0, [.ref a_t_codes, .ref a_t_isPossible, .ref a_t_sets, .ref a_t_plan, .ref a_t_best, .ref a_t_tried, v_t_size, v_t_hasSets, v_t_hasPlans]))] [(a_t, .inr (0, [.ref a_t_codes, .ref a_t_isPossible, .ref a_t_sets, .ref a_t_plan, .ref a_t_best, .ref a_t_tried, v_t_size, .int r.2, .int r.1]))] s.heap.size) (List.toArray [.ref a_t]) s 0 0 A = Q
  clear hP hD hD0
  suffices K : ∀ (H : Heap) (locs : List Loc), HOK D A s.heap [(a_t, .inr (0, [.ref a_t_codes, .ref a_t_isPossible, .ref a_t_sets, .ref a_t_plan, .ref a_t_best, .ref a_t_tried, v_t_size, v_t_hasSets, v_t_hasPlans]))] H locs → W p l e ({ frames := 0, cells := 0, slots := 0, locals := 0 } : Room) s m (List.toArray [.ref a_t]) below meth c H locs 0 0 Q (F0 m 0 ls []) from K s.heap [] hH
  intro H locs hH
  rw [fX0_forget] at h
  refine lv_aload_n hx hb dX0_forget_0 rfl (lv_at hl 0 rfl) ?_
  refine lv_iconst (v := 0) hx hb dX0_forget_1 (by decide) ?_
  refine gk_put (ci := 0) (C := RX0) (T := TX0) (N := 9) hx hb hts u_ws_X0 tyX0_ok nmX0 hown hK hH 0 rfl rfl 7 (by decide) u_fl_X0_43 rfl rfl rfl (Nat.le_of_ble_eq_true rfl) dX0_forget_2 [(a_t, .inr (0, [.ref a_t_codes, .ref a_t_isPossible, .ref a_t_sets, .ref a_t_plan, .ref a_t_best, .ref a_t_tried, v_t_size, .int (0 : Int32), v_t_hasPlans]))] rfl (fun H locs hH => ?_)
  refine lv_aload_n hx hb dX0_forget_5 rfl (lv_at hl 0 rfl) ?_
  refine lv_iconst (v := 0) hx hb dX0_forget_6 (by decide) ?_
  refine gk_put (ci := 0) (C := RX0) (T := TX0) (N := 9) hx hb hts u_ws_X0 tyX0_ok nmX0 hown hK hH 0 rfl rfl 8 (by decide) u_fl_X0_47 rfl rfl rfl (Nat.le_of_ble_eq_true rfl) dX0_forget_7 [(a_t, .inr (0, [.ref a_t_codes, .ref a_t_isPossible, .ref a_t_sets, .ref a_t_plan, .ref a_t_best, .ref a_t_tried, v_t_size, .int (0 : Int32), .int (0 : Int32)]))] rfl (fun H locs hH => ?_)
  have h := Option.some.inj h
  subst h
  exact ge_v hx hb hr hlocks hQ hK hH hAe dX0_forget_10
theorem hd_X9_allUnits : yX9_allUnits.cls = RX9 ∧ yX9_allUnits.cls ≠ "java/lang/invoke/MethodHandle" ∧ yX9_allUnits.cls ≠ "java/lang/invoke/VarHandle" ∧ (parseMethodDescriptor yX9_allUnits.desc).map (fun d => d.parameters.length) = some 0 := by decide +kernel
set_option maxHeartbeats 4000000 in
set_option maxRecDepth 100000 in
theorem mX9_allUnits (l : Launch) (Ts : List Cond) (hTs : ∀ w, w ∈ Ts ↔ w ∈ uT) (D : va_G) (k : Nat → ClassId) (sz : Nat) (a_t : Nat) (a_t_population : Nat) (a_t_area : Nat) (a_t_community : Nat) (a_t_outer : Nat) (a_t_neighbors : Nat) (a_t_lengths : Nat) (a_t_plan : Nat) (t_units : Int32) (v_t_cores : Value) (v_t_districts : Value) (v_t_hasPlan : Value) (v_t_tolerance : Value) (r : Int32) (h : fX9_allUnits t_units = some r) : Met l yX9_allUnits (Cond.code yX9_allUnits cX9_allUnits 1 (some .int) :: Ts) ({ frames := 0, cells := 0, slots := 0, locals := 0 } : Room) (preM D k [.ref a_t] [(a_t, .inr (8, [.int t_units, .ref a_t_population, .ref a_t_area, .ref a_t_community, .ref a_t_outer, .ref a_t_neighbors, .ref a_t_lengths, v_t_cores, v_t_districts, v_t_tolerance, v_t_hasPlan, .ref a_t_plan]))] sz) (postI D k r [(a_t, .inr (8, [.int t_units, .ref a_t_population, .ref a_t_area, .ref a_t_community, .ref a_t_outer, .ref a_t_neighbors, .ref a_t_lengths, v_t_cores, v_t_districts, v_t_tolerance, v_t_hasPlan, .ref a_t_plan]))] [(a_t, .inr (8, [.int t_units, .ref a_t_population, .ref a_t_area, .ref a_t_community, .ref a_t_outer, .ref a_t_neighbors, .ref a_t_lengths, v_t_cores, v_t_districts, v_t_tolerance, v_t_hasPlan, .ref a_t_plan]))] sz) 0 0 (va_A [(a_t, .inr (8, [.int t_units, .ref a_t_population, .ref a_t_area, .ref a_t_community, .ref a_t_outer, .ref a_t_neighbors, .ref a_t_lengths, v_t_cores, v_t_districts, v_t_tolerance, v_t_hasPlan, .ref a_t_plan]))] sz) := by
  refine Met.ofW (cc := cX9_allUnits) (maxL := 1) (ret := (some .int)) (by decide) rfl ?_
  intro p e s m args below meth c s₁ B hml hv
  obtain ⟨rfl, hsz, hP, hK, hD0⟩ := hv
  have hx := B.exec
  have hb := B.bytes
  have hr := B.returns
  have hts0 := atoms_spec (ws := (Cond.code yX9_allUnits cX9_allUnits 1 (some .int) :: Ts)) B.pre
  have hts : ∀ w ∈ uT, w.before _ s = true := fun w h => hts0 w (List.mem_cons_of_mem _ ((hTs w).mpr h))
  clear hts0
  have hown : s.vm.findClass RX9 = some m.cls := findClass_of_methodNamed B.named
  have hlocks := B.notSynchronized
  subst hsz
  have hD := hD0.self (sz := s.heap.size)
  generalize hAe : va_A [(a_t, .inr (8, [.int t_units, .ref a_t_population, .ref a_t_area, .ref a_t_community, .ref a_t_outer, .ref a_t_neighbors, .ref a_t_lengths, v_t_cores, v_t_districts, v_t_tolerance, v_t_hasPlan, .ref a_t_plan]))] s.heap.size = A at hD ⊢
  have hA : ∀ q : Nat, s.heap.size ≤ q → A q := fun q h => by rw [← hAe]; exact Or.inr h
  have hH : HOK D A s.heap [(a_t, .inr (8, [.int t_units, .ref a_t_population, .ref a_t_area, .ref a_t_community, .ref a_t_outer, .ref a_t_neighbors, .ref a_t_lengths, v_t_cores, v_t_districts, v_t_tolerance, v_t_hasPlan, .ref a_t_plan]))] s.heap [] := ⟨hP, hD, va_S.rf⟩
  have hl := lv_entry ([.ref a_t]) (n := 1) (Nat.le_of_ble_eq_true rfl)
  rw [lg_entry_eq]
  generalize (lg_sl ([.ref a_t]) ++ List.replicate (1 - (lg_sl ([.ref a_t])).length) Slot.unset).toArray = ls at hl ⊢
  have hl : lv_has ls 1 [(0, .ref a_t)] := hl
  generalize hQ : MQ below (postI D k r [(a_t, .inr (8, [.int t_units, .ref a_t_population, .ref a_t_area, .ref a_t_community, .ref a_t_outer, .ref a_t_neighbors, .ref a_t_lengths, v_t_cores, v_t_districts, v_t_tolerance, v_t_hasPlan, .ref a_t_plan]))] [(a_t, .inr (8, [.int t_units, .ref a_t_population, .ref a_t_area, .ref a_t_community, .ref a_t_outer, .ref a_t_neighbors, .ref a_t_lengths, v_t_cores, v_t_districts, v_t_tolerance, v_t_hasPlan, .ref a_t_plan]))] s.heap.size) (List.toArray [.ref a_t]) s 0 0 A = Q
  clear hP hD hD0
  suffices K : ∀ (H : Heap) (locs : List Loc), HOK D A s.heap [(a_t, .inr (8, [.int t_units, .ref a_t_population, .ref a_t_area, .ref a_t_community, .ref a_t_outer, .ref a_t_neighbors, .ref a_t_lengths, v_t_cores, v_t_districts, v_t_tolerance, v_t_hasPlan, .ref a_t_plan]))] H locs → W p l e ({ frames := 0, cells := 0, slots := 0, locals := 0 } : Room) s m (List.toArray [.ref a_t]) below meth c H locs 0 0 Q (F0 m 0 ls []) from K s.heap [] hH
  intro H locs hH
  rw [fX9_allUnits] at h
  refine lv_iconst (v := 1) hx hb dX9_allUnits_0 (by decide) ?_
  refine lv_aload_n hx hb dX9_allUnits_1 rfl (lv_at hl 0 rfl) ?_
  refine gk_get (ci := 8) (C := RX9) (T := TX9) (N := 12) hx hb hts u_ws_X9 hown hK hH 0 rfl rfl 0 (by decide) u_fl_X9_9 rfl dX9_allUnits_2 ?_
  refine lv_ishl hx hb dX9_allUnits_5 ?_
  refine lv_iconst (v := 1) hx hb dX9_allUnits_6 (by decide) ?_
  refine lv_isub hx hb dX9_allUnits_7 ?_
  have h := Option.some.inj h
  subst h
  exact ge_i hx hb hr hlocks hQ hK hH hAe rfl dX9_allUnits_8
theorem hd_X9_populationOf : yX9_populationOf.cls = RX9 ∧ yX9_populationOf.cls ≠ "java/lang/invoke/MethodHandle" ∧ yX9_populationOf.cls ≠ "java/lang/invoke/VarHandle" ∧ (parseMethodDescriptor yX9_populationOf.desc).map (fun d => d.parameters.length) = some 1 := by decide +kernel
set_option maxHeartbeats 4000000 in
set_option maxRecDepth 100000 in
theorem mX9_populationOf (l : Launch) (Ts : List Cond) (hTs : ∀ w, w ∈ Ts ↔ w ∈ uT) (D : va_G) (k : Nat → ClassId) (sz : Nat) (a_t : Nat) (a_t_population : Nat) (a_t_area : Nat) (a_t_community : Nat) (a_t_outer : Nat) (a_t_neighbors : Nat) (a_t_lengths : Nat) (a_t_plan : Nat) (t_population : Nat → Int32) (t_units : Int32) (v_t_cores : Value) (v_t_districts : Value) (v_t_hasPlan : Value) (v_t_tolerance : Value) (x1 : Int32) (r : Int32) (h : fX9_populationOf t_population t_units x1 = some r) : Met l yX9_populationOf (Cond.code yX9_populationOf cX9_populationOf 4 (some .int) :: Ts) ({ frames := 0, cells := 0, slots := 0, locals := 0 } : Room) (preM D k [.ref a_t, .int x1] [(a_t, .inr (8, [.int t_units, .ref a_t_population, .ref a_t_area, .ref a_t_community, .ref a_t_outer, .ref a_t_neighbors, .ref a_t_lengths, v_t_cores, v_t_districts, v_t_tolerance, v_t_hasPlan, .ref a_t_plan])), (a_t_population, .inl (k 0, 12, .inl t_population))] sz) (postI D k r [(a_t, .inr (8, [.int t_units, .ref a_t_population, .ref a_t_area, .ref a_t_community, .ref a_t_outer, .ref a_t_neighbors, .ref a_t_lengths, v_t_cores, v_t_districts, v_t_tolerance, v_t_hasPlan, .ref a_t_plan])), (a_t_population, .inl (k 0, 12, .inl t_population))] [(a_t, .inr (8, [.int t_units, .ref a_t_population, .ref a_t_area, .ref a_t_community, .ref a_t_outer, .ref a_t_neighbors, .ref a_t_lengths, v_t_cores, v_t_districts, v_t_tolerance, v_t_hasPlan, .ref a_t_plan])), (a_t_population, .inl (k 0, 12, .inl t_population))] sz) 0 0 (va_A [(a_t, .inr (8, [.int t_units, .ref a_t_population, .ref a_t_area, .ref a_t_community, .ref a_t_outer, .ref a_t_neighbors, .ref a_t_lengths, v_t_cores, v_t_districts, v_t_tolerance, v_t_hasPlan, .ref a_t_plan])), (a_t_population, .inl (k 0, 12, .inl t_population))] sz) := by
  refine Met.ofW (cc := cX9_populationOf) (maxL := 4) (ret := (some .int)) (by decide) rfl ?_
  intro p e s m args below meth c s₁ B hml hv
  obtain ⟨rfl, hsz, hP, hK, hD0⟩ := hv
  have hx := B.exec
  have hb := B.bytes
  have hr := B.returns
  have hts0 := atoms_spec (ws := (Cond.code yX9_populationOf cX9_populationOf 4 (some .int) :: Ts)) B.pre
  have hts : ∀ w ∈ uT, w.before _ s = true := fun w h => hts0 w (List.mem_cons_of_mem _ ((hTs w).mpr h))
  clear hts0
  have hown : s.vm.findClass RX9 = some m.cls := findClass_of_methodNamed B.named
  have hlocks := B.notSynchronized
  subst hsz
  have hD := hD0.self (sz := s.heap.size)
  generalize hAe : va_A [(a_t, .inr (8, [.int t_units, .ref a_t_population, .ref a_t_area, .ref a_t_community, .ref a_t_outer, .ref a_t_neighbors, .ref a_t_lengths, v_t_cores, v_t_districts, v_t_tolerance, v_t_hasPlan, .ref a_t_plan])), (a_t_population, .inl (k 0, 12, .inl t_population))] s.heap.size = A at hD ⊢
  have hA : ∀ q : Nat, s.heap.size ≤ q → A q := fun q h => by rw [← hAe]; exact Or.inr h
  have hH : HOK D A s.heap [(a_t, .inr (8, [.int t_units, .ref a_t_population, .ref a_t_area, .ref a_t_community, .ref a_t_outer, .ref a_t_neighbors, .ref a_t_lengths, v_t_cores, v_t_districts, v_t_tolerance, v_t_hasPlan, .ref a_t_plan])), (a_t_population, .inl (k 0, 12, .inl t_population))] s.heap [] := ⟨hP, hD, va_S.rf⟩
  have hl := lv_entry ([.ref a_t, .int x1]) (n := 4) (Nat.le_of_ble_eq_true rfl)
  rw [lg_entry_eq]
  generalize (lg_sl ([.ref a_t, .int x1]) ++ List.replicate (4 - (lg_sl ([.ref a_t, .int x1])).length) Slot.unset).toArray = ls at hl ⊢
  have hl : lv_has ls 4 [(0, .ref a_t), (1, .int x1)] := hl
  generalize hQ : MQ below (postI D k r [(a_t, .inr (8, [.int t_units, .ref a_t_population, .ref a_t_area, .ref a_t_community, .ref a_t_outer, .ref a_t_neighbors, .ref a_t_lengths, v_t_cores, v_t_districts, v_t_tolerance, v_t_hasPlan, .ref a_t_plan])), (a_t_population, .inl (k 0, 12, .inl t_population))] [(a_t, .inr (8, [.int t_units, .ref a_t_population, .ref a_t_area, .ref a_t_community, .ref a_t_outer, .ref a_t_neighbors, .ref a_t_lengths, v_t_cores, v_t_districts, v_t_tolerance, v_t_hasPlan, .ref a_t_plan])), (a_t_population, .inl (k 0, 12, .inl t_population))] s.heap.size) (List.toArray [.ref a_t, .int x1]) s 0 0 A = Q
  clear hP hD hD0
  suffices K : ∀ (H : Heap) (locs : List Loc), HOK D A s.heap [(a_t, .inr (8, [.int t_units, .ref a_t_population, .ref a_t_area, .ref a_t_community, .ref a_t_outer, .ref a_t_neighbors, .ref a_t_lengths, v_t_cores, v_t_districts, v_t_tolerance, v_t_hasPlan, .ref a_t_plan])), (a_t_population, .inl (k 0, 12, .inl t_population))] H locs → W p l e ({ frames := 0, cells := 0, slots := 0, locals := 0 } : Room) s m (List.toArray [.ref a_t, .int x1]) below meth c H locs 0 0 Q (F0 m 0 ls []) from K s.heap [] hH
  intro H locs hH
  have L4 : ∀ (n : Nat), ∀ (kf : Int32 → Option (Int32)) (y4_2 : Int32) (y4_3 : Int32), fX9_populationOf_L4 t_population t_units x1 n kf y4_2 y4_3 = some r → (∀ (z4_2 : Int32) (H : Heap) (locs : List Loc) (ls : Array Slot), kf z4_2 = some r → HOK D A s.heap [(a_t, .inr (8, [.int t_units, .ref a_t_population, .ref a_t_area, .ref a_t_community, .ref a_t_outer, .ref a_t_neighbors, .ref a_t_lengths, v_t_cores, v_t_districts, v_t_tolerance, v_t_hasPlan, .ref a_t_plan])), (a_t_population, .inl (k 0, 12, .inl t_population))] H locs → lv_has ls 4 [(2, .int z4_2)] → W p l e ({ frames := 0, cells := 0, slots := 0, locals := 0 } : Room) s m (List.toArray [.ref a_t, .int x1]) below meth c H locs 0 0 Q (F0 m 35 ls [])) → ∀ (H : Heap) (locs : List Loc) (ls : Array Slot), HOK D A s.heap [(a_t, .inr (8, [.int t_units, .ref a_t_population, .ref a_t_area, .ref a_t_community, .ref a_t_outer, .ref a_t_neighbors, .ref a_t_lengths, v_t_cores, v_t_districts, v_t_tolerance, v_t_hasPlan, .ref a_t_plan])), (a_t_population, .inl (k 0, 12, .inl t_population))] H locs → lv_has ls 4 [(0, .ref a_t), (1, .int x1), (2, .int y4_2), (3, .int y4_3)] → W p l e ({ frames := 0, cells := 0, slots := 0, locals := 0 } : Room) s m (List.toArray [.ref a_t, .int x1]) below meth c H locs 0 0 Q (F0 m 4 ls []) := by
    intro n
    induction n with
    | zero =>
      intro kf y4_2 y4_3 h
      exact absurd h (by rw [fX9_populationOf_L4]; exact fun q => by cases q)
    | succ n ih =>
      intro kf y4_2 y4_3 h kk H locs ls hH hl
      rw [fX9_populationOf_L4] at h
      refine lv_iload_n hx hb dX9_populationOf_4 rfl (lv_at hl 3 rfl) ?_
      refine lv_aload_n hx hb dX9_populationOf_5 rfl (lv_at hl 0 rfl) ?_
      refine gk_get (ci := 8) (C := RX9) (T := TX9) (N := 12) hx hb hts u_ws_X9 hown hK hH 0 rfl rfl 0 (by decide) u_fl_X9_9 rfl dX9_populationOf_6 ?_
      refine lv_icmp_ge (tgt := 35) hx hb dX9_populationOf_9 (by decide) (fun c1 => ?_) (fun c1 => ?_)
      · replace h := dc_pos c1 h
        exact kk y4_2 H locs ls h hH (lv_sub hl [2] rfl)
      · replace h := dc_neg c1 h
        refine lv_iload_n hx hb dX9_populationOf_12 rfl (lv_at hl 1 rfl) ?_
        refine lv_iload_n hx hb dX9_populationOf_13 rfl (lv_at hl 3 rfl) ?_
        refine lv_ishr hx hb dX9_populationOf_14 ?_
        refine lv_iconst (v := 1) hx hb dX9_populationOf_15 (by decide) ?_
        refine lv_iand hx hb dX9_populationOf_16 ?_
        refine lv_if_eq (tgt := 29) hx hb dX9_populationOf_17 (by decide) (fun c2 => ?_) (fun c2 => ?_)
        · replace h := dc_pos c2 h
          refine lv_iinc (v := (y4_3 + (1 : Int32))) (lv' := [(3, .int (y4_3 + (1 : Int32))), (0, .ref a_t), (1, .int x1), (2, .int y4_2)]) hx hb dX9_populationOf_29 hl (k := 3) rfl rfl (by decide) rfl (fun ls hl => ?_)
          refine lv_goto (tgt := 4) hx hb dX9_populationOf_32 (by decide) ?_
          exact ih kf y4_2 (y4_3 + (1 : Int32)) h kk H locs ls hH (lv_sub hl [1, 2, 3, 0] rfl)
        · replace h := dc_neg c2 h
          refine lv_iload_n hx hb dX9_populationOf_20 rfl (lv_at hl 2 rfl) ?_
          refine lv_aload_n hx hb dX9_populationOf_21 rfl (lv_at hl 0 rfl) ?_
          refine gk_get (ci := 8) (C := RX9) (T := TX9) (N := 12) hx hb hts u_ws_X9 hown hK hH 0 rfl rfl 1 (by decide) u_fl_X9_15 rfl dX9_populationOf_22 ?_
          refine lv_iload_n hx hb dX9_populationOf_25 rfl (lv_at hl 3 rfl) ?_
          obtain ⟨g3, h⟩ := dc_need h
          refine gk_iald hx hb hK hH 1 rfl (dk_in g3) dX9_populationOf_26 ?_
          refine lv_iadd hx hb dX9_populationOf_27 ?_
          refine lv_istore_n (lv' := [(2, .int (y4_2 + (t_population y4_3.toNatClampNeg))), (0, .ref a_t), (1, .int x1), (3, .int y4_3)]) hx hb dX9_populationOf_28 rfl hl (by decide) rfl (fun ls hl => ?_)
          refine lv_iinc (v := (y4_3 + (1 : Int32))) (lv' := [(3, .int (y4_3 + (1 : Int32))), (2, .int (y4_2 + (t_population y4_3.toNatClampNeg))), (0, .ref a_t), (1, .int x1)]) hx hb dX9_populationOf_29 hl (k := 3) rfl rfl (by decide) rfl (fun ls hl => ?_)
          refine lv_goto (tgt := 4) hx hb dX9_populationOf_32 (by decide) ?_
          exact ih kf (y4_2 + (t_population y4_3.toNatClampNeg)) (y4_3 + (1 : Int32)) h kk H locs ls hH (lv_sub hl [2, 3, 1, 0] rfl)
  rw [fX9_populationOf] at h
  refine lv_iconst (v := 0) hx hb dX9_populationOf_0 (by decide) ?_
  refine lv_istore_n (lv' := [(2, .int (0 : Int32)), (0, .ref a_t), (1, .int x1)]) hx hb dX9_populationOf_1 rfl hl (by decide) rfl (fun ls hl => ?_)
  refine lv_iconst (v := 0) hx hb dX9_populationOf_2 (by decide) ?_
  refine lv_istore_n (lv' := [(3, .int (0 : Int32)), (2, .int (0 : Int32)), (0, .ref a_t), (1, .int x1)]) hx hb dX9_populationOf_3 rfl hl (by decide) rfl (fun ls hl => ?_)
  refine L4 _ _ (0 : Int32) (0 : Int32) h (fun z4_2 H locs ls h hH hl => ?_) H locs ls hH (lv_sub hl [2, 3, 1, 0] rfl)
  refine lv_iload_n hx hb dX9_populationOf_35 rfl (lv_at hl 0 rfl) ?_
  have h := Option.some.inj h
  subst h
  exact ge_i hx hb hr hlocks hQ hK hH hAe rfl dX9_populationOf_36
theorem hd_X9_imbalanceOf : yX9_imbalanceOf.cls = RX9 ∧ yX9_imbalanceOf.cls ≠ "java/lang/invoke/MethodHandle" ∧ yX9_imbalanceOf.cls ≠ "java/lang/invoke/VarHandle" ∧ (parseMethodDescriptor yX9_imbalanceOf.desc).map (fun d => d.parameters.length) = some 1 := by decide +kernel
set_option maxHeartbeats 4000000 in
set_option maxRecDepth 100000 in
theorem mX9_imbalanceOf (l : Launch) (Ts : List Cond) (hTs : ∀ w, w ∈ Ts ↔ w ∈ uT) (D : va_G) (k : Nat → ClassId) (sz : Nat) (a_t : Nat) (a_t_population : Nat) (a_t_area : Nat) (a_t_community : Nat) (a_t_outer : Nat) (a_t_neighbors : Nat) (a_t_lengths : Nat) (a_t_plan : Nat) (t_districts : Int32) (t_population : Nat → Int32) (t_units : Int32) (v_t_cores : Value) (v_t_hasPlan : Value) (v_t_tolerance : Value) (x1 : Int32) (r : Int32) (h : fX9_imbalanceOf t_districts t_population t_units x1 = some r) : Met l yX9_imbalanceOf (Cond.code yX9_imbalanceOf cX9_imbalanceOf 2 (some .int) :: Ts) ({ frames := 1, cells := 0, slots := 0, locals := 64 } : Room) (preM D k [.ref a_t, .int x1] [(a_t, .inr (8, [.int t_units, .ref a_t_population, .ref a_t_area, .ref a_t_community, .ref a_t_outer, .ref a_t_neighbors, .ref a_t_lengths, v_t_cores, .int t_districts, v_t_tolerance, v_t_hasPlan, .ref a_t_plan])), (a_t_population, .inl (k 0, 12, .inl t_population))] sz) (postI D k r [(a_t, .inr (8, [.int t_units, .ref a_t_population, .ref a_t_area, .ref a_t_community, .ref a_t_outer, .ref a_t_neighbors, .ref a_t_lengths, v_t_cores, .int t_districts, v_t_tolerance, v_t_hasPlan, .ref a_t_plan])), (a_t_population, .inl (k 0, 12, .inl t_population))] [(a_t, .inr (8, [.int t_units, .ref a_t_population, .ref a_t_area, .ref a_t_community, .ref a_t_outer, .ref a_t_neighbors, .ref a_t_lengths, v_t_cores, .int t_districts, v_t_tolerance, v_t_hasPlan, .ref a_t_plan])), (a_t_population, .inl (k 0, 12, .inl t_population))] sz) 0 0 (va_A [(a_t, .inr (8, [.int t_units, .ref a_t_population, .ref a_t_area, .ref a_t_community, .ref a_t_outer, .ref a_t_neighbors, .ref a_t_lengths, v_t_cores, .int t_districts, v_t_tolerance, v_t_hasPlan, .ref a_t_plan])), (a_t_population, .inl (k 0, 12, .inl t_population))] sz) := by
  refine Met.ofW (cc := cX9_imbalanceOf) (maxL := 2) (ret := (some .int)) (by decide) rfl ?_
  intro p e s m args below meth c s₁ B hml hv
  obtain ⟨rfl, hsz, hP, hK, hD0⟩ := hv
  have hx := B.exec
  have hb := B.bytes
  have hr := B.returns
  have hts0 := atoms_spec (ws := (Cond.code yX9_imbalanceOf cX9_imbalanceOf 2 (some .int) :: Ts)) B.pre
  have hts : ∀ w ∈ uT, w.before _ s = true := fun w h => hts0 w (List.mem_cons_of_mem _ ((hTs w).mpr h))
  clear hts0
  have hown : s.vm.findClass RX9 = some m.cls := findClass_of_methodNamed B.named
  have hlocks := B.notSynchronized
  subst hsz
  have hD := hD0.self (sz := s.heap.size)
  generalize hAe : va_A [(a_t, .inr (8, [.int t_units, .ref a_t_population, .ref a_t_area, .ref a_t_community, .ref a_t_outer, .ref a_t_neighbors, .ref a_t_lengths, v_t_cores, .int t_districts, v_t_tolerance, v_t_hasPlan, .ref a_t_plan])), (a_t_population, .inl (k 0, 12, .inl t_population))] s.heap.size = A at hD ⊢
  have hA : ∀ q : Nat, s.heap.size ≤ q → A q := fun q h => by rw [← hAe]; exact Or.inr h
  have hH : HOK D A s.heap [(a_t, .inr (8, [.int t_units, .ref a_t_population, .ref a_t_area, .ref a_t_community, .ref a_t_outer, .ref a_t_neighbors, .ref a_t_lengths, v_t_cores, .int t_districts, v_t_tolerance, v_t_hasPlan, .ref a_t_plan])), (a_t_population, .inl (k 0, 12, .inl t_population))] s.heap [] := ⟨hP, hD, va_S.rf⟩
  have hl := lv_entry ([.ref a_t, .int x1]) (n := 2) (Nat.le_of_ble_eq_true rfl)
  rw [lg_entry_eq]
  generalize (lg_sl ([.ref a_t, .int x1]) ++ List.replicate (2 - (lg_sl ([.ref a_t, .int x1])).length) Slot.unset).toArray = ls at hl ⊢
  have hl : lv_has ls 2 [(0, .ref a_t), (1, .int x1)] := hl
  generalize hQ : MQ below (postI D k r [(a_t, .inr (8, [.int t_units, .ref a_t_population, .ref a_t_area, .ref a_t_community, .ref a_t_outer, .ref a_t_neighbors, .ref a_t_lengths, v_t_cores, .int t_districts, v_t_tolerance, v_t_hasPlan, .ref a_t_plan])), (a_t_population, .inl (k 0, 12, .inl t_population))] [(a_t, .inr (8, [.int t_units, .ref a_t_population, .ref a_t_area, .ref a_t_community, .ref a_t_outer, .ref a_t_neighbors, .ref a_t_lengths, v_t_cores, .int t_districts, v_t_tolerance, v_t_hasPlan, .ref a_t_plan])), (a_t_population, .inl (k 0, 12, .inl t_population))] s.heap.size) (List.toArray [.ref a_t, .int x1]) s 0 0 A = Q
  clear hP hD hD0
  suffices K : ∀ (H : Heap) (locs : List Loc), HOK D A s.heap [(a_t, .inr (8, [.int t_units, .ref a_t_population, .ref a_t_area, .ref a_t_community, .ref a_t_outer, .ref a_t_neighbors, .ref a_t_lengths, v_t_cores, .int t_districts, v_t_tolerance, v_t_hasPlan, .ref a_t_plan])), (a_t_population, .inl (k 0, 12, .inl t_population))] H locs → W p l e ({ frames := 1, cells := 0, slots := 0, locals := 64 } : Room) s m (List.toArray [.ref a_t, .int x1]) below meth c H locs 0 0 Q (F0 m 0 ls []) from K s.heap [] hH
  intro H locs hH
  rw [fX9_imbalanceOf] at h
  refine lv_aload_n hx hb dX9_imbalanceOf_0 rfl (lv_at hl 0 rfl) ?_
  refine lv_iload_n hx hb dX9_imbalanceOf_1 rfl (lv_at hl 1 rfl) ?_
  obtain ⟨q1, hqq1, h⟩ := dc_bind h
  refine gc_Vi (ws' := [(a_t, .inr (8, [.int t_units, .ref a_t_population, .ref a_t_area, .ref a_t_community, .ref a_t_outer, .ref a_t_neighbors, .ref a_t_lengths, v_t_cores, .int t_districts, v_t_tolerance, v_t_hasPlan, .ref a_t_plan])), (a_t_population, .inl (k 0, 12, .inl t_population))]) (As := [.int x1]) (rest := []) (n := 1) (ci := 8) (cq := (RX9, TX9, 12)) hTs ⟨hx, hb, hml, hown, hts⟩ (mX9_populationOf l Ts hTs D k H.size a_t a_t_population a_t_area a_t_community a_t_outer a_t_neighbors a_t_lengths a_t_plan t_population t_units v_t_cores (.int t_districts) v_t_hasPlan v_t_tolerance x1 q1 hqq1) u_ml_X9_102 u_im_X9_populationOf u_se_X9_populationOf u_in_X9 u_co_X9_populationOf hd_X9_populationOf ⟨Nat.le_of_ble_eq_true rfl, Nat.le_of_ble_eq_true rfl⟩ ⟨rfl, rfl⟩ hK hH hA (cut0 (isC := [0, 1]) rfl rfl rfl) rfl rfl rfl rfl hl.1 (Nat.le_of_ble_eq_true rfl) dX9_imbalanceOf_2 ⟨Nat.le_of_ble_eq_true rfl, Nat.le_of_ble_eq_true rfl⟩ (fun H locs hH => ?_)
  refine lv_aload_n hx hb dX9_imbalanceOf_5 rfl (lv_at hl 0 rfl) ?_
  refine gk_get (ci := 8) (C := RX9) (T := TX9) (N := 12) hx hb hts u_ws_X9 hown hK hH 0 rfl rfl 8 (by decide) u_fl_X9_37 rfl dX9_imbalanceOf_6 ?_
  refine lv_imul hx hb dX9_imbalanceOf_9 ?_
  refine lv_aload_n hx hb dX9_imbalanceOf_10 rfl (lv_at hl 0 rfl) ?_
  refine lv_aload_n hx hb dX9_imbalanceOf_11 rfl (lv_at hl 0 rfl) ?_
  obtain ⟨q2, hqq2, h⟩ := dc_bind h
  refine gc_Vi (ws' := [(a_t, .inr (8, [.int t_units, .ref a_t_population, .ref a_t_area, .ref a_t_community, .ref a_t_outer, .ref a_t_neighbors, .ref a_t_lengths, v_t_cores, .int t_districts, v_t_tolerance, v_t_hasPlan, .ref a_t_plan])), (a_t_population, .inl (k 0, 12, .inl t_population))]) (As := []) (rest := [.ref a_t, .int (q1 * t_districts)]) (n := 0) (ci := 8) (cq := (RX9, TX9, 12)) hTs ⟨hx, hb, hml, hown, hts⟩ (mX9_allUnits l Ts hTs D k H.size a_t a_t_population a_t_area a_t_community a_t_outer a_t_neighbors a_t_lengths a_t_plan t_units v_t_cores (.int t_districts) v_t_hasPlan v_t_tolerance q2 hqq2) u_ml_X9_95 u_im_X9_allUnits u_se_X9_allUnits u_in_X9 u_co_X9_allUnits hd_X9_allUnits ⟨Nat.le_of_ble_eq_true rfl, Nat.le_of_ble_eq_true rfl⟩ ⟨rfl, rfl⟩ hK hH hA (cut0 (isC := [0]) rfl rfl rfl) rfl rfl rfl rfl hl.1 (Nat.le_of_ble_eq_true rfl) dX9_imbalanceOf_12 ⟨Nat.le_of_ble_eq_true rfl, Nat.le_of_ble_eq_true rfl⟩ (fun H locs hH => ?_)
  obtain ⟨q3, hqq3, h⟩ := dc_bind h
  refine gc_Vi (ws' := [(a_t, .inr (8, [.int t_units, .ref a_t_population, .ref a_t_area, .ref a_t_community, .ref a_t_outer, .ref a_t_neighbors, .ref a_t_lengths, v_t_cores, .int t_districts, v_t_tolerance, v_t_hasPlan, .ref a_t_plan])), (a_t_population, .inl (k 0, 12, .inl t_population))]) (As := [.int q2]) (rest := [.int (q1 * t_districts)]) (n := 1) (ci := 8) (cq := (RX9, TX9, 12)) hTs ⟨hx, hb, hml, hown, hts⟩ (mX9_populationOf l Ts hTs D k H.size a_t a_t_population a_t_area a_t_community a_t_outer a_t_neighbors a_t_lengths a_t_plan t_population t_units v_t_cores (.int t_districts) v_t_hasPlan v_t_tolerance q2 q3 hqq3) u_ml_X9_102 u_im_X9_populationOf u_se_X9_populationOf u_in_X9 u_co_X9_populationOf hd_X9_populationOf ⟨Nat.le_of_ble_eq_true rfl, Nat.le_of_ble_eq_true rfl⟩ ⟨rfl, rfl⟩ hK hH hA (cut0 (isC := [0, 1]) rfl rfl rfl) rfl rfl rfl rfl hl.1 (Nat.le_of_ble_eq_true rfl) dX9_imbalanceOf_15 ⟨Nat.le_of_ble_eq_true rfl, Nat.le_of_ble_eq_true rfl⟩ (fun H locs hH => ?_)
  refine lv_isub hx hb dX9_imbalanceOf_18 ?_
  refine va_mabs hx hb (hml.trans hl.1.symm) hown (hts _ u_ml_X9_105) (hts _ u_st_J9_abs_0f7a4) (hts _ u_in_J9) (hts _ u_co_Math_abs) (Nat.le_of_ble_eq_true rfl) (Nat.le_of_ble_eq_true rfl) (Nat.le_of_ble_eq_true rfl) (Nat.le_of_ble_eq_true rfl) dX9_imbalanceOf_19 ?_
  have h := Option.some.inj h
  subst h
  exact ge_i hx hb hr hlocks hQ hK hH hAe rfl dX9_imbalanceOf_22
theorem hd_X9_isBalanced : yX9_isBalanced.cls = RX9 ∧ yX9_isBalanced.cls ≠ "java/lang/invoke/MethodHandle" ∧ yX9_isBalanced.cls ≠ "java/lang/invoke/VarHandle" ∧ (parseMethodDescriptor yX9_isBalanced.desc).map (fun d => d.parameters.length) = some 1 := by decide +kernel
set_option maxHeartbeats 4000000 in
set_option maxRecDepth 100000 in
theorem mX9_isBalanced (l : Launch) (Ts : List Cond) (hTs : ∀ w, w ∈ Ts ↔ w ∈ uT) (D : va_G) (k : Nat → ClassId) (sz : Nat) (a_t : Nat) (a_t_population : Nat) (a_t_area : Nat) (a_t_community : Nat) (a_t_outer : Nat) (a_t_neighbors : Nat) (a_t_lengths : Nat) (a_t_plan : Nat) (t_districts : Int32) (t_population : Nat → Int32) (t_tolerance : Int32) (t_units : Int32) (v_t_cores : Value) (v_t_hasPlan : Value) (x1 : Int32) (r : Int32) (h : fX9_isBalanced t_districts t_population t_tolerance t_units x1 = some r) : Met l yX9_isBalanced (Cond.code yX9_isBalanced cX9_isBalanced 2 (some .boolean) :: Ts) ({ frames := 2, cells := 0, slots := 0, locals := 85 } : Room) (preM D k [.ref a_t, .int x1] [(a_t, .inr (8, [.int t_units, .ref a_t_population, .ref a_t_area, .ref a_t_community, .ref a_t_outer, .ref a_t_neighbors, .ref a_t_lengths, v_t_cores, .int t_districts, .int t_tolerance, v_t_hasPlan, .ref a_t_plan])), (a_t_population, .inl (k 0, 12, .inl t_population))] sz) (postI D k r [(a_t, .inr (8, [.int t_units, .ref a_t_population, .ref a_t_area, .ref a_t_community, .ref a_t_outer, .ref a_t_neighbors, .ref a_t_lengths, v_t_cores, .int t_districts, .int t_tolerance, v_t_hasPlan, .ref a_t_plan])), (a_t_population, .inl (k 0, 12, .inl t_population))] [(a_t, .inr (8, [.int t_units, .ref a_t_population, .ref a_t_area, .ref a_t_community, .ref a_t_outer, .ref a_t_neighbors, .ref a_t_lengths, v_t_cores, .int t_districts, .int t_tolerance, v_t_hasPlan, .ref a_t_plan])), (a_t_population, .inl (k 0, 12, .inl t_population))] sz) 0 0 (va_A [(a_t, .inr (8, [.int t_units, .ref a_t_population, .ref a_t_area, .ref a_t_community, .ref a_t_outer, .ref a_t_neighbors, .ref a_t_lengths, v_t_cores, .int t_districts, .int t_tolerance, v_t_hasPlan, .ref a_t_plan])), (a_t_population, .inl (k 0, 12, .inl t_population))] sz) := by
  refine Met.ofW (cc := cX9_isBalanced) (maxL := 2) (ret := (some .boolean)) (by decide) rfl ?_
  intro p e s m args below meth c s₁ B hml hv
  obtain ⟨rfl, hsz, hP, hK, hD0⟩ := hv
  have hx := B.exec
  have hb := B.bytes
  have hr := B.returns
  have hts0 := atoms_spec (ws := (Cond.code yX9_isBalanced cX9_isBalanced 2 (some .boolean) :: Ts)) B.pre
  have hts : ∀ w ∈ uT, w.before _ s = true := fun w h => hts0 w (List.mem_cons_of_mem _ ((hTs w).mpr h))
  clear hts0
  have hown : s.vm.findClass RX9 = some m.cls := findClass_of_methodNamed B.named
  have hlocks := B.notSynchronized
  subst hsz
  have hD := hD0.self (sz := s.heap.size)
  generalize hAe : va_A [(a_t, .inr (8, [.int t_units, .ref a_t_population, .ref a_t_area, .ref a_t_community, .ref a_t_outer, .ref a_t_neighbors, .ref a_t_lengths, v_t_cores, .int t_districts, .int t_tolerance, v_t_hasPlan, .ref a_t_plan])), (a_t_population, .inl (k 0, 12, .inl t_population))] s.heap.size = A at hD ⊢
  have hA : ∀ q : Nat, s.heap.size ≤ q → A q := fun q h => by rw [← hAe]; exact Or.inr h
  have hH : HOK D A s.heap [(a_t, .inr (8, [.int t_units, .ref a_t_population, .ref a_t_area, .ref a_t_community, .ref a_t_outer, .ref a_t_neighbors, .ref a_t_lengths, v_t_cores, .int t_districts, .int t_tolerance, v_t_hasPlan, .ref a_t_plan])), (a_t_population, .inl (k 0, 12, .inl t_population))] s.heap [] := ⟨hP, hD, va_S.rf⟩
  have hl := lv_entry ([.ref a_t, .int x1]) (n := 2) (Nat.le_of_ble_eq_true rfl)
  rw [lg_entry_eq]
  generalize (lg_sl ([.ref a_t, .int x1]) ++ List.replicate (2 - (lg_sl ([.ref a_t, .int x1])).length) Slot.unset).toArray = ls at hl ⊢
  have hl : lv_has ls 2 [(0, .ref a_t), (1, .int x1)] := hl
  generalize hQ : MQ below (postI D k r [(a_t, .inr (8, [.int t_units, .ref a_t_population, .ref a_t_area, .ref a_t_community, .ref a_t_outer, .ref a_t_neighbors, .ref a_t_lengths, v_t_cores, .int t_districts, .int t_tolerance, v_t_hasPlan, .ref a_t_plan])), (a_t_population, .inl (k 0, 12, .inl t_population))] [(a_t, .inr (8, [.int t_units, .ref a_t_population, .ref a_t_area, .ref a_t_community, .ref a_t_outer, .ref a_t_neighbors, .ref a_t_lengths, v_t_cores, .int t_districts, .int t_tolerance, v_t_hasPlan, .ref a_t_plan])), (a_t_population, .inl (k 0, 12, .inl t_population))] s.heap.size) (List.toArray [.ref a_t, .int x1]) s 0 0 A = Q
  clear hP hD hD0
  suffices K : ∀ (H : Heap) (locs : List Loc), HOK D A s.heap [(a_t, .inr (8, [.int t_units, .ref a_t_population, .ref a_t_area, .ref a_t_community, .ref a_t_outer, .ref a_t_neighbors, .ref a_t_lengths, v_t_cores, .int t_districts, .int t_tolerance, v_t_hasPlan, .ref a_t_plan])), (a_t_population, .inl (k 0, 12, .inl t_population))] H locs → W p l e ({ frames := 2, cells := 0, slots := 0, locals := 85 } : Room) s m (List.toArray [.ref a_t, .int x1]) below meth c H locs 0 0 Q (F0 m 0 ls []) from K s.heap [] hH
  intro H locs hH
  rw [fX9_isBalanced] at h
  refine lv_bipush (v := 100) hx hb dX9_isBalanced_0 (by decide) ?_
  refine lv_aload_n hx hb dX9_isBalanced_2 rfl (lv_at hl 0 rfl) ?_
  refine lv_iload_n hx hb dX9_isBalanced_3 rfl (lv_at hl 1 rfl) ?_
  obtain ⟨q1, hqq1, h⟩ := dc_bind h
  refine gc_Vi (ws' := [(a_t, .inr (8, [.int t_units, .ref a_t_population, .ref a_t_area, .ref a_t_community, .ref a_t_outer, .ref a_t_neighbors, .ref a_t_lengths, v_t_cores, .int t_districts, .int t_tolerance, v_t_hasPlan, .ref a_t_plan])), (a_t_population, .inl (k 0, 12, .inl t_population))]) (As := [.int x1]) (rest := [.int (100 : Int32)]) (n := 1) (ci := 8) (cq := (RX9, TX9, 12)) hTs ⟨hx, hb, hml, hown, hts⟩ (mX9_imbalanceOf l Ts hTs D k H.size a_t a_t_population a_t_area a_t_community a_t_outer a_t_neighbors a_t_lengths a_t_plan t_districts t_population t_units v_t_cores v_t_hasPlan (.int t_tolerance) x1 q1 hqq1) u_ml_X9_110 u_im_X9_imbalanceOf u_se_X9_imbalanceOf u_in_X9 u_co_X9_imbalanceOf hd_X9_imbalanceOf ⟨Nat.le_of_ble_eq_true rfl, Nat.le_of_ble_eq_true rfl⟩ ⟨rfl, rfl⟩ hK hH hA (cut0 (isC := [0, 1]) rfl rfl rfl) rfl rfl rfl rfl hl.1 (Nat.le_of_ble_eq_true rfl) dX9_isBalanced_4 ⟨Nat.le_of_ble_eq_true rfl, Nat.le_of_ble_eq_true rfl⟩ (fun H locs hH => ?_)
  refine lv_imul hx hb dX9_isBalanced_7 ?_
  refine lv_aload_n hx hb dX9_isBalanced_8 rfl (lv_at hl 0 rfl) ?_
  refine gk_get (ci := 8) (C := RX9) (T := TX9) (N := 12) hx hb hts u_ws_X9 hown hK hH 0 rfl rfl 9 (by decide) u_fl_X9_40 rfl dX9_isBalanced_9 ?_
  refine lv_aload_n hx hb dX9_isBalanced_12 rfl (lv_at hl 0 rfl) ?_
  refine lv_aload_n hx hb dX9_isBalanced_13 rfl (lv_at hl 0 rfl) ?_
  obtain ⟨q2, hqq2, h⟩ := dc_bind h
  refine gc_Vi (ws' := [(a_t, .inr (8, [.int t_units, .ref a_t_population, .ref a_t_area, .ref a_t_community, .ref a_t_outer, .ref a_t_neighbors, .ref a_t_lengths, v_t_cores, .int t_districts, .int t_tolerance, v_t_hasPlan, .ref a_t_plan])), (a_t_population, .inl (k 0, 12, .inl t_population))]) (As := []) (rest := [.ref a_t, .int t_tolerance, .int ((100 : Int32) * q1)]) (n := 0) (ci := 8) (cq := (RX9, TX9, 12)) hTs ⟨hx, hb, hml, hown, hts⟩ (mX9_allUnits l Ts hTs D k H.size a_t a_t_population a_t_area a_t_community a_t_outer a_t_neighbors a_t_lengths a_t_plan t_units v_t_cores (.int t_districts) v_t_hasPlan (.int t_tolerance) q2 hqq2) u_ml_X9_95 u_im_X9_allUnits u_se_X9_allUnits u_in_X9 u_co_X9_allUnits hd_X9_allUnits ⟨Nat.le_of_ble_eq_true rfl, Nat.le_of_ble_eq_true rfl⟩ ⟨rfl, rfl⟩ hK hH hA (cut0 (isC := [0]) rfl rfl rfl) rfl rfl rfl rfl hl.1 (Nat.le_of_ble_eq_true rfl) dX9_isBalanced_14 ⟨Nat.le_of_ble_eq_true rfl, Nat.le_of_ble_eq_true rfl⟩ (fun H locs hH => ?_)
  obtain ⟨q3, hqq3, h⟩ := dc_bind h
  refine gc_Vi (ws' := [(a_t, .inr (8, [.int t_units, .ref a_t_population, .ref a_t_area, .ref a_t_community, .ref a_t_outer, .ref a_t_neighbors, .ref a_t_lengths, v_t_cores, .int t_districts, .int t_tolerance, v_t_hasPlan, .ref a_t_plan])), (a_t_population, .inl (k 0, 12, .inl t_population))]) (As := [.int q2]) (rest := [.int t_tolerance, .int ((100 : Int32) * q1)]) (n := 1) (ci := 8) (cq := (RX9, TX9, 12)) hTs ⟨hx, hb, hml, hown, hts⟩ (mX9_populationOf l Ts hTs D k H.size a_t a_t_population a_t_area a_t_community a_t_outer a_t_neighbors a_t_lengths a_t_plan t_population t_units v_t_cores (.int t_districts) v_t_hasPlan (.int t_tolerance) q2 q3 hqq3) u_ml_X9_102 u_im_X9_populationOf u_se_X9_populationOf u_in_X9 u_co_X9_populationOf hd_X9_populationOf ⟨Nat.le_of_ble_eq_true rfl, Nat.le_of_ble_eq_true rfl⟩ ⟨rfl, rfl⟩ hK hH hA (cut0 (isC := [0, 1]) rfl rfl rfl) rfl rfl rfl rfl hl.1 (Nat.le_of_ble_eq_true rfl) dX9_isBalanced_17 ⟨Nat.le_of_ble_eq_true rfl, Nat.le_of_ble_eq_true rfl⟩ (fun H locs hH => ?_)
  refine lv_imul hx hb dX9_isBalanced_20 ?_
  refine lv_icmp_gt (tgt := 28) hx hb dX9_isBalanced_21 (by decide) (fun c4 => ?_) (fun c4 => ?_)
  · replace h := dc_pos c4 h
    refine lv_iconst (v := 0) hx hb dX9_isBalanced_28 (by decide) ?_
    have h := Option.some.inj h
    subst h
    exact ge_z hx hb hr rfl hlocks hQ hK hH hAe rfl dX9_isBalanced_29
  · replace h := dc_neg c4 h
    refine lv_iconst (v := 1) hx hb dX9_isBalanced_24 (by decide) ?_
    refine lv_goto (tgt := 29) hx hb dX9_isBalanced_25 (by decide) ?_
    have h := Option.some.inj h
    subst h
    exact ge_z hx hb hr rfl hlocks hQ hK hH hAe rfl dX9_isBalanced_29
theorem hd_X9_membersOf : yX9_membersOf.cls = RX9 ∧ yX9_membersOf.cls ≠ "java/lang/invoke/MethodHandle" ∧ yX9_membersOf.cls ≠ "java/lang/invoke/VarHandle" ∧ (parseMethodDescriptor yX9_membersOf.desc).map (fun d => d.parameters.length) = some 1 := by decide +kernel
set_option maxHeartbeats 4000000 in
set_option maxRecDepth 100000 in
theorem mX9_membersOf (l : Launch) (Ts : List Cond) (hTs : ∀ w, w ∈ Ts ↔ w ∈ uT) (D : va_G) (k : Nat → ClassId) (sz : Nat) (a_t : Nat) (a_t_population : Nat) (a_t_area : Nat) (a_t_community : Nat) (a_t_outer : Nat) (a_t_neighbors : Nat) (a_t_lengths : Nat) (a_t_plan : Nat) (t_community : Nat → Int32) (t_units : Int32) (v_t_cores : Value) (v_t_districts : Value) (v_t_hasPlan : Value) (v_t_tolerance : Value) (x1 : Int32) (r : Int32) (h : fX9_membersOf t_community t_units x1 = some r) : Met l yX9_membersOf (Cond.code yX9_membersOf cX9_membersOf 4 (some .int) :: Ts) ({ frames := 0, cells := 0, slots := 0, locals := 0 } : Room) (preM D k [.ref a_t, .int x1] [(a_t, .inr (8, [.int t_units, .ref a_t_population, .ref a_t_area, .ref a_t_community, .ref a_t_outer, .ref a_t_neighbors, .ref a_t_lengths, v_t_cores, v_t_districts, v_t_tolerance, v_t_hasPlan, .ref a_t_plan])), (a_t_community, .inl (k 0, 12, .inl t_community))] sz) (postI D k r [(a_t, .inr (8, [.int t_units, .ref a_t_population, .ref a_t_area, .ref a_t_community, .ref a_t_outer, .ref a_t_neighbors, .ref a_t_lengths, v_t_cores, v_t_districts, v_t_tolerance, v_t_hasPlan, .ref a_t_plan])), (a_t_community, .inl (k 0, 12, .inl t_community))] [(a_t, .inr (8, [.int t_units, .ref a_t_population, .ref a_t_area, .ref a_t_community, .ref a_t_outer, .ref a_t_neighbors, .ref a_t_lengths, v_t_cores, v_t_districts, v_t_tolerance, v_t_hasPlan, .ref a_t_plan])), (a_t_community, .inl (k 0, 12, .inl t_community))] sz) 0 0 (va_A [(a_t, .inr (8, [.int t_units, .ref a_t_population, .ref a_t_area, .ref a_t_community, .ref a_t_outer, .ref a_t_neighbors, .ref a_t_lengths, v_t_cores, v_t_districts, v_t_tolerance, v_t_hasPlan, .ref a_t_plan])), (a_t_community, .inl (k 0, 12, .inl t_community))] sz) := by
  refine Met.ofW (cc := cX9_membersOf) (maxL := 4) (ret := (some .int)) (by decide) rfl ?_
  intro p e s m args below meth c s₁ B hml hv
  obtain ⟨rfl, hsz, hP, hK, hD0⟩ := hv
  have hx := B.exec
  have hb := B.bytes
  have hr := B.returns
  have hts0 := atoms_spec (ws := (Cond.code yX9_membersOf cX9_membersOf 4 (some .int) :: Ts)) B.pre
  have hts : ∀ w ∈ uT, w.before _ s = true := fun w h => hts0 w (List.mem_cons_of_mem _ ((hTs w).mpr h))
  clear hts0
  have hown : s.vm.findClass RX9 = some m.cls := findClass_of_methodNamed B.named
  have hlocks := B.notSynchronized
  subst hsz
  have hD := hD0.self (sz := s.heap.size)
  generalize hAe : va_A [(a_t, .inr (8, [.int t_units, .ref a_t_population, .ref a_t_area, .ref a_t_community, .ref a_t_outer, .ref a_t_neighbors, .ref a_t_lengths, v_t_cores, v_t_districts, v_t_tolerance, v_t_hasPlan, .ref a_t_plan])), (a_t_community, .inl (k 0, 12, .inl t_community))] s.heap.size = A at hD ⊢
  have hA : ∀ q : Nat, s.heap.size ≤ q → A q := fun q h => by rw [← hAe]; exact Or.inr h
  have hH : HOK D A s.heap [(a_t, .inr (8, [.int t_units, .ref a_t_population, .ref a_t_area, .ref a_t_community, .ref a_t_outer, .ref a_t_neighbors, .ref a_t_lengths, v_t_cores, v_t_districts, v_t_tolerance, v_t_hasPlan, .ref a_t_plan])), (a_t_community, .inl (k 0, 12, .inl t_community))] s.heap [] := ⟨hP, hD, va_S.rf⟩
  have hl := lv_entry ([.ref a_t, .int x1]) (n := 4) (Nat.le_of_ble_eq_true rfl)
  rw [lg_entry_eq]
  generalize (lg_sl ([.ref a_t, .int x1]) ++ List.replicate (4 - (lg_sl ([.ref a_t, .int x1])).length) Slot.unset).toArray = ls at hl ⊢
  have hl : lv_has ls 4 [(0, .ref a_t), (1, .int x1)] := hl
  generalize hQ : MQ below (postI D k r [(a_t, .inr (8, [.int t_units, .ref a_t_population, .ref a_t_area, .ref a_t_community, .ref a_t_outer, .ref a_t_neighbors, .ref a_t_lengths, v_t_cores, v_t_districts, v_t_tolerance, v_t_hasPlan, .ref a_t_plan])), (a_t_community, .inl (k 0, 12, .inl t_community))] [(a_t, .inr (8, [.int t_units, .ref a_t_population, .ref a_t_area, .ref a_t_community, .ref a_t_outer, .ref a_t_neighbors, .ref a_t_lengths, v_t_cores, v_t_districts, v_t_tolerance, v_t_hasPlan, .ref a_t_plan])), (a_t_community, .inl (k 0, 12, .inl t_community))] s.heap.size) (List.toArray [.ref a_t, .int x1]) s 0 0 A = Q
  clear hP hD hD0
  suffices K : ∀ (H : Heap) (locs : List Loc), HOK D A s.heap [(a_t, .inr (8, [.int t_units, .ref a_t_population, .ref a_t_area, .ref a_t_community, .ref a_t_outer, .ref a_t_neighbors, .ref a_t_lengths, v_t_cores, v_t_districts, v_t_tolerance, v_t_hasPlan, .ref a_t_plan])), (a_t_community, .inl (k 0, 12, .inl t_community))] H locs → W p l e ({ frames := 0, cells := 0, slots := 0, locals := 0 } : Room) s m (List.toArray [.ref a_t, .int x1]) below meth c H locs 0 0 Q (F0 m 0 ls []) from K s.heap [] hH
  intro H locs hH
  have L4 : ∀ (n : Nat), ∀ (kf : Int32 → Option (Int32)) (y4_2 : Int32) (y4_3 : Int32), fX9_membersOf_L4 t_community t_units x1 n kf y4_2 y4_3 = some r → (∀ (z4_2 : Int32) (H : Heap) (locs : List Loc) (ls : Array Slot), kf z4_2 = some r → HOK D A s.heap [(a_t, .inr (8, [.int t_units, .ref a_t_population, .ref a_t_area, .ref a_t_community, .ref a_t_outer, .ref a_t_neighbors, .ref a_t_lengths, v_t_cores, v_t_districts, v_t_tolerance, v_t_hasPlan, .ref a_t_plan])), (a_t_community, .inl (k 0, 12, .inl t_community))] H locs → lv_has ls 4 [(2, .int z4_2)] → W p l e ({ frames := 0, cells := 0, slots := 0, locals := 0 } : Room) s m (List.toArray [.ref a_t, .int x1]) below meth c H locs 0 0 Q (F0 m 34 ls [])) → ∀ (H : Heap) (locs : List Loc) (ls : Array Slot), HOK D A s.heap [(a_t, .inr (8, [.int t_units, .ref a_t_population, .ref a_t_area, .ref a_t_community, .ref a_t_outer, .ref a_t_neighbors, .ref a_t_lengths, v_t_cores, v_t_districts, v_t_tolerance, v_t_hasPlan, .ref a_t_plan])), (a_t_community, .inl (k 0, 12, .inl t_community))] H locs → lv_has ls 4 [(0, .ref a_t), (1, .int x1), (2, .int y4_2), (3, .int y4_3)] → W p l e ({ frames := 0, cells := 0, slots := 0, locals := 0 } : Room) s m (List.toArray [.ref a_t, .int x1]) below meth c H locs 0 0 Q (F0 m 4 ls []) := by
    intro n
    induction n with
    | zero =>
      intro kf y4_2 y4_3 h
      exact absurd h (by rw [fX9_membersOf_L4]; exact fun q => by cases q)
    | succ n ih =>
      intro kf y4_2 y4_3 h kk H locs ls hH hl
      rw [fX9_membersOf_L4] at h
      refine lv_iload_n hx hb dX9_membersOf_4 rfl (lv_at hl 3 rfl) ?_
      refine lv_aload_n hx hb dX9_membersOf_5 rfl (lv_at hl 0 rfl) ?_
      refine gk_get (ci := 8) (C := RX9) (T := TX9) (N := 12) hx hb hts u_ws_X9 hown hK hH 0 rfl rfl 0 (by decide) u_fl_X9_9 rfl dX9_membersOf_6 ?_
      refine lv_icmp_ge (tgt := 34) hx hb dX9_membersOf_9 (by decide) (fun c1 => ?_) (fun c1 => ?_)
      · replace h := dc_pos c1 h
        exact kk y4_2 H locs ls h hH (lv_sub hl [2] rfl)
      · replace h := dc_neg c1 h
        refine lv_aload_n hx hb dX9_membersOf_12 rfl (lv_at hl 0 rfl) ?_
        refine gk_get (ci := 8) (C := RX9) (T := TX9) (N := 12) hx hb hts u_ws_X9 hown hK hH 0 rfl rfl 3 (by decide) u_fl_X9_22 rfl dX9_membersOf_13 ?_
        refine lv_iload_n hx hb dX9_membersOf_16 rfl (lv_at hl 3 rfl) ?_
        obtain ⟨g2, h⟩ := dc_need h
        refine gk_iald hx hb hK hH 1 rfl (dk_in g2) dX9_membersOf_17 ?_
        refine lv_iload_n hx hb dX9_membersOf_18 rfl (lv_at hl 1 rfl) ?_
        refine lv_icmp_ne (tgt := 28) hx hb dX9_membersOf_19 (by decide) (fun c3 => ?_) (fun c3 => ?_)
        · replace h := dc_neg c3 h
          refine lv_iinc (v := (y4_3 + (1 : Int32))) (lv' := [(3, .int (y4_3 + (1 : Int32))), (0, .ref a_t), (1, .int x1), (2, .int y4_2)]) hx hb dX9_membersOf_28 hl (k := 3) rfl rfl (by decide) rfl (fun ls hl => ?_)
          refine lv_goto (tgt := 4) hx hb dX9_membersOf_31 (by decide) ?_
          exact ih kf y4_2 (y4_3 + (1 : Int32)) h kk H locs ls hH (lv_sub hl [1, 2, 3, 0] rfl)
        · replace h := dc_pos c3 h
          refine lv_iload_n hx hb dX9_membersOf_22 rfl (lv_at hl 2 rfl) ?_
          refine lv_iconst (v := 1) hx hb dX9_membersOf_23 (by decide) ?_
          refine lv_iload_n hx hb dX9_membersOf_24 rfl (lv_at hl 3 rfl) ?_
          refine lv_ishl hx hb dX9_membersOf_25 ?_
          refine lv_ior hx hb dX9_membersOf_26 ?_
          refine lv_istore_n (lv' := [(2, .int (y4_2 ||| ((1 : Int32) <<< (y4_3 &&& 31)))), (0, .ref a_t), (1, .int x1), (3, .int y4_3)]) hx hb dX9_membersOf_27 rfl hl (by decide) rfl (fun ls hl => ?_)
          refine lv_iinc (v := (y4_3 + (1 : Int32))) (lv' := [(3, .int (y4_3 + (1 : Int32))), (2, .int (y4_2 ||| ((1 : Int32) <<< (y4_3 &&& 31)))), (0, .ref a_t), (1, .int x1)]) hx hb dX9_membersOf_28 hl (k := 3) rfl rfl (by decide) rfl (fun ls hl => ?_)
          refine lv_goto (tgt := 4) hx hb dX9_membersOf_31 (by decide) ?_
          exact ih kf (y4_2 ||| ((1 : Int32) <<< (y4_3 &&& 31))) (y4_3 + (1 : Int32)) h kk H locs ls hH (lv_sub hl [2, 3, 1, 0] rfl)
  rw [fX9_membersOf] at h
  refine lv_iconst (v := 0) hx hb dX9_membersOf_0 (by decide) ?_
  refine lv_istore_n (lv' := [(2, .int (0 : Int32)), (0, .ref a_t), (1, .int x1)]) hx hb dX9_membersOf_1 rfl hl (by decide) rfl (fun ls hl => ?_)
  refine lv_iconst (v := 0) hx hb dX9_membersOf_2 (by decide) ?_
  refine lv_istore_n (lv' := [(3, .int (0 : Int32)), (2, .int (0 : Int32)), (0, .ref a_t), (1, .int x1)]) hx hb dX9_membersOf_3 rfl hl (by decide) rfl (fun ls hl => ?_)
  refine L4 _ _ (0 : Int32) (0 : Int32) h (fun z4_2 H locs ls h hH hl => ?_) H locs ls hH (lv_sub hl [2, 3, 1, 0] rfl)
  refine lv_iload_n hx hb dX9_membersOf_34 rfl (lv_at hl 0 rfl) ?_
  have h := Option.some.inj h
  subst h
  exact ge_i hx hb hr hlocks hQ hK hH hAe rfl dX9_membersOf_35
theorem hd_X9_coresOf : yX9_coresOf.cls = RX9 ∧ yX9_coresOf.cls ≠ "java/lang/invoke/MethodHandle" ∧ yX9_coresOf.cls ≠ "java/lang/invoke/VarHandle" ∧ (parseMethodDescriptor yX9_coresOf.desc).map (fun d => d.parameters.length) = some 1 := by decide +kernel
set_option maxHeartbeats 4000000 in
set_option maxRecDepth 100000 in
theorem mX9_coresOf (l : Launch) (Ts : List Cond) (hTs : ∀ w, w ∈ Ts ↔ w ∈ uT) (D : va_G) (k : Nat → ClassId) (sz : Nat) (a_t : Nat) (a_t_population : Nat) (a_t_area : Nat) (a_t_community : Nat) (a_t_outer : Nat) (a_t_neighbors : Nat) (a_t_lengths : Nat) (a_t_plan : Nat) (t_community : Nat → Int32) (t_cores : Int32) (t_units : Int32) (v_t_districts : Value) (v_t_hasPlan : Value) (v_t_tolerance : Value) (x1 : Int32) (r : Int32) (h : fX9_coresOf t_community t_cores t_units x1 = some r) : Met l yX9_coresOf (Cond.code yX9_coresOf cX9_coresOf 2 (some .int) :: Ts) ({ frames := 1, cells := 0, slots := 0, locals := 23 } : Room) (preM D k [.ref a_t, .int x1] [(a_t, .inr (8, [.int t_units, .ref a_t_population, .ref a_t_area, .ref a_t_community, .ref a_t_outer, .ref a_t_neighbors, .ref a_t_lengths, .int t_cores, v_t_districts, v_t_tolerance, v_t_hasPlan, .ref a_t_plan])), (a_t_community, .inl (k 0, 12, .inl t_community))] sz) (postI D k r [(a_t, .inr (8, [.int t_units, .ref a_t_population, .ref a_t_area, .ref a_t_community, .ref a_t_outer, .ref a_t_neighbors, .ref a_t_lengths, .int t_cores, v_t_districts, v_t_tolerance, v_t_hasPlan, .ref a_t_plan])), (a_t_community, .inl (k 0, 12, .inl t_community))] [(a_t, .inr (8, [.int t_units, .ref a_t_population, .ref a_t_area, .ref a_t_community, .ref a_t_outer, .ref a_t_neighbors, .ref a_t_lengths, .int t_cores, v_t_districts, v_t_tolerance, v_t_hasPlan, .ref a_t_plan])), (a_t_community, .inl (k 0, 12, .inl t_community))] sz) 0 0 (va_A [(a_t, .inr (8, [.int t_units, .ref a_t_population, .ref a_t_area, .ref a_t_community, .ref a_t_outer, .ref a_t_neighbors, .ref a_t_lengths, .int t_cores, v_t_districts, v_t_tolerance, v_t_hasPlan, .ref a_t_plan])), (a_t_community, .inl (k 0, 12, .inl t_community))] sz) := by
  refine Met.ofW (cc := cX9_coresOf) (maxL := 2) (ret := (some .int)) (by decide) rfl ?_
  intro p e s m args below meth c s₁ B hml hv
  obtain ⟨rfl, hsz, hP, hK, hD0⟩ := hv
  have hx := B.exec
  have hb := B.bytes
  have hr := B.returns
  have hts0 := atoms_spec (ws := (Cond.code yX9_coresOf cX9_coresOf 2 (some .int) :: Ts)) B.pre
  have hts : ∀ w ∈ uT, w.before _ s = true := fun w h => hts0 w (List.mem_cons_of_mem _ ((hTs w).mpr h))
  clear hts0
  have hown : s.vm.findClass RX9 = some m.cls := findClass_of_methodNamed B.named
  have hlocks := B.notSynchronized
  subst hsz
  have hD := hD0.self (sz := s.heap.size)
  generalize hAe : va_A [(a_t, .inr (8, [.int t_units, .ref a_t_population, .ref a_t_area, .ref a_t_community, .ref a_t_outer, .ref a_t_neighbors, .ref a_t_lengths, .int t_cores, v_t_districts, v_t_tolerance, v_t_hasPlan, .ref a_t_plan])), (a_t_community, .inl (k 0, 12, .inl t_community))] s.heap.size = A at hD ⊢
  have hA : ∀ q : Nat, s.heap.size ≤ q → A q := fun q h => by rw [← hAe]; exact Or.inr h
  have hH : HOK D A s.heap [(a_t, .inr (8, [.int t_units, .ref a_t_population, .ref a_t_area, .ref a_t_community, .ref a_t_outer, .ref a_t_neighbors, .ref a_t_lengths, .int t_cores, v_t_districts, v_t_tolerance, v_t_hasPlan, .ref a_t_plan])), (a_t_community, .inl (k 0, 12, .inl t_community))] s.heap [] := ⟨hP, hD, va_S.rf⟩
  have hl := lv_entry ([.ref a_t, .int x1]) (n := 2) (Nat.le_of_ble_eq_true rfl)
  rw [lg_entry_eq]
  generalize (lg_sl ([.ref a_t, .int x1]) ++ List.replicate (2 - (lg_sl ([.ref a_t, .int x1])).length) Slot.unset).toArray = ls at hl ⊢
  have hl : lv_has ls 2 [(0, .ref a_t), (1, .int x1)] := hl
  generalize hQ : MQ below (postI D k r [(a_t, .inr (8, [.int t_units, .ref a_t_population, .ref a_t_area, .ref a_t_community, .ref a_t_outer, .ref a_t_neighbors, .ref a_t_lengths, .int t_cores, v_t_districts, v_t_tolerance, v_t_hasPlan, .ref a_t_plan])), (a_t_community, .inl (k 0, 12, .inl t_community))] [(a_t, .inr (8, [.int t_units, .ref a_t_population, .ref a_t_area, .ref a_t_community, .ref a_t_outer, .ref a_t_neighbors, .ref a_t_lengths, .int t_cores, v_t_districts, v_t_tolerance, v_t_hasPlan, .ref a_t_plan])), (a_t_community, .inl (k 0, 12, .inl t_community))] s.heap.size) (List.toArray [.ref a_t, .int x1]) s 0 0 A = Q
  clear hP hD hD0
  suffices K : ∀ (H : Heap) (locs : List Loc), HOK D A s.heap [(a_t, .inr (8, [.int t_units, .ref a_t_population, .ref a_t_area, .ref a_t_community, .ref a_t_outer, .ref a_t_neighbors, .ref a_t_lengths, .int t_cores, v_t_districts, v_t_tolerance, v_t_hasPlan, .ref a_t_plan])), (a_t_community, .inl (k 0, 12, .inl t_community))] H locs → W p l e ({ frames := 1, cells := 0, slots := 0, locals := 23 } : Room) s m (List.toArray [.ref a_t, .int x1]) below meth c H locs 0 0 Q (F0 m 0 ls []) from K s.heap [] hH
  intro H locs hH
  rw [fX9_coresOf] at h
  refine lv_aload_n hx hb dX9_coresOf_0 rfl (lv_at hl 0 rfl) ?_
  refine lv_iload_n hx hb dX9_coresOf_1 rfl (lv_at hl 1 rfl) ?_
  obtain ⟨q1, hqq1, h⟩ := dc_bind h
  refine gc_Vi (ws' := [(a_t, .inr (8, [.int t_units, .ref a_t_population, .ref a_t_area, .ref a_t_community, .ref a_t_outer, .ref a_t_neighbors, .ref a_t_lengths, .int t_cores, v_t_districts, v_t_tolerance, v_t_hasPlan, .ref a_t_plan])), (a_t_community, .inl (k 0, 12, .inl t_community))]) (As := [.int x1]) (rest := []) (n := 1) (ci := 8) (cq := (RX9, TX9, 12)) hTs ⟨hx, hb, hml, hown, hts⟩ (mX9_membersOf l Ts hTs D k H.size a_t a_t_population a_t_area a_t_community a_t_outer a_t_neighbors a_t_lengths a_t_plan t_community t_units (.int t_cores) v_t_districts v_t_hasPlan v_t_tolerance x1 q1 hqq1) u_ml_X9_92 u_im_X9_membersOf u_se_X9_membersOf u_in_X9 u_co_X9_membersOf hd_X9_membersOf ⟨Nat.le_of_ble_eq_true rfl, Nat.le_of_ble_eq_true rfl⟩ ⟨rfl, rfl⟩ hK hH hA (cut0 (isC := [0, 1]) rfl rfl rfl) rfl rfl rfl rfl hl.1 (Nat.le_of_ble_eq_true rfl) dX9_coresOf_2 ⟨Nat.le_of_ble_eq_true rfl, Nat.le_of_ble_eq_true rfl⟩ (fun H locs hH => ?_)
  refine lv_aload_n hx hb dX9_coresOf_5 rfl (lv_at hl 0 rfl) ?_
  refine gk_get (ci := 8) (C := RX9) (T := TX9) (N := 12) hx hb hts u_ws_X9 hown hK hH 0 rfl rfl 7 (by decide) u_fl_X9_34 rfl dX9_coresOf_6 ?_
  refine lv_iand hx hb dX9_coresOf_9 ?_
  have h := Option.some.inj h
  subst h
  exact ge_i hx hb hr hlocks hQ hK hH hAe rfl dX9_coresOf_10
theorem hd_X9_splitsCores : yX9_splitsCores.cls = RX9 ∧ yX9_splitsCores.cls ≠ "java/lang/invoke/MethodHandle" ∧ yX9_splitsCores.cls ≠ "java/lang/invoke/VarHandle" ∧ (parseMethodDescriptor yX9_splitsCores.desc).map (fun d => d.parameters.length) = some 1 := by decide +kernel
set_option maxHeartbeats 4000000 in
set_option maxRecDepth 100000 in
theorem mX9_splitsCores (l : Launch) (Ts : List Cond) (hTs : ∀ w, w ∈ Ts ↔ w ∈ uT) (D : va_G) (k : Nat → ClassId) (sz : Nat) (a_t : Nat) (a_t_population : Nat) (a_t_area : Nat) (a_t_community : Nat) (a_t_outer : Nat) (a_t_neighbors : Nat) (a_t_lengths : Nat) (a_t_plan : Nat) (t_community : Nat → Int32) (t_cores : Int32) (t_units : Int32) (v_t_districts : Value) (v_t_hasPlan : Value) (v_t_tolerance : Value) (x1 : Int32) (r : Int32) (h : fX9_splitsCores t_community t_cores t_units x1 = some r) : Met l yX9_splitsCores (Cond.code yX9_splitsCores cX9_splitsCores 5 (some .boolean) :: Ts) ({ frames := 2, cells := 0, slots := 0, locals := 44 } : Room) (preM D k [.ref a_t, .int x1] [(a_t, .inr (8, [.int t_units, .ref a_t_population, .ref a_t_area, .ref a_t_community, .ref a_t_outer, .ref a_t_neighbors, .ref a_t_lengths, .int t_cores, v_t_districts, v_t_tolerance, v_t_hasPlan, .ref a_t_plan])), (a_t_community, .inl (k 0, 12, .inl t_community))] sz) (postI D k r [(a_t, .inr (8, [.int t_units, .ref a_t_population, .ref a_t_area, .ref a_t_community, .ref a_t_outer, .ref a_t_neighbors, .ref a_t_lengths, .int t_cores, v_t_districts, v_t_tolerance, v_t_hasPlan, .ref a_t_plan])), (a_t_community, .inl (k 0, 12, .inl t_community))] [(a_t, .inr (8, [.int t_units, .ref a_t_population, .ref a_t_area, .ref a_t_community, .ref a_t_outer, .ref a_t_neighbors, .ref a_t_lengths, .int t_cores, v_t_districts, v_t_tolerance, v_t_hasPlan, .ref a_t_plan])), (a_t_community, .inl (k 0, 12, .inl t_community))] sz) 0 0 (va_A [(a_t, .inr (8, [.int t_units, .ref a_t_population, .ref a_t_area, .ref a_t_community, .ref a_t_outer, .ref a_t_neighbors, .ref a_t_lengths, .int t_cores, v_t_districts, v_t_tolerance, v_t_hasPlan, .ref a_t_plan])), (a_t_community, .inl (k 0, 12, .inl t_community))] sz) := by
  refine Met.ofW (cc := cX9_splitsCores) (maxL := 5) (ret := (some .boolean)) (by decide) rfl ?_
  intro p e s m args below meth c s₁ B hml hv
  obtain ⟨rfl, hsz, hP, hK, hD0⟩ := hv
  have hx := B.exec
  have hb := B.bytes
  have hr := B.returns
  have hts0 := atoms_spec (ws := (Cond.code yX9_splitsCores cX9_splitsCores 5 (some .boolean) :: Ts)) B.pre
  have hts : ∀ w ∈ uT, w.before _ s = true := fun w h => hts0 w (List.mem_cons_of_mem _ ((hTs w).mpr h))
  clear hts0
  have hown : s.vm.findClass RX9 = some m.cls := findClass_of_methodNamed B.named
  have hlocks := B.notSynchronized
  subst hsz
  have hD := hD0.self (sz := s.heap.size)
  generalize hAe : va_A [(a_t, .inr (8, [.int t_units, .ref a_t_population, .ref a_t_area, .ref a_t_community, .ref a_t_outer, .ref a_t_neighbors, .ref a_t_lengths, .int t_cores, v_t_districts, v_t_tolerance, v_t_hasPlan, .ref a_t_plan])), (a_t_community, .inl (k 0, 12, .inl t_community))] s.heap.size = A at hD ⊢
  have hA : ∀ q : Nat, s.heap.size ≤ q → A q := fun q h => by rw [← hAe]; exact Or.inr h
  have hH : HOK D A s.heap [(a_t, .inr (8, [.int t_units, .ref a_t_population, .ref a_t_area, .ref a_t_community, .ref a_t_outer, .ref a_t_neighbors, .ref a_t_lengths, .int t_cores, v_t_districts, v_t_tolerance, v_t_hasPlan, .ref a_t_plan])), (a_t_community, .inl (k 0, 12, .inl t_community))] s.heap [] := ⟨hP, hD, va_S.rf⟩
  have hl := lv_entry ([.ref a_t, .int x1]) (n := 5) (Nat.le_of_ble_eq_true rfl)
  rw [lg_entry_eq]
  generalize (lg_sl ([.ref a_t, .int x1]) ++ List.replicate (5 - (lg_sl ([.ref a_t, .int x1])).length) Slot.unset).toArray = ls at hl ⊢
  have hl : lv_has ls 5 [(0, .ref a_t), (1, .int x1)] := hl
  generalize hQ : MQ below (postI D k r [(a_t, .inr (8, [.int t_units, .ref a_t_population, .ref a_t_area, .ref a_t_community, .ref a_t_outer, .ref a_t_neighbors, .ref a_t_lengths, .int t_cores, v_t_districts, v_t_tolerance, v_t_hasPlan, .ref a_t_plan])), (a_t_community, .inl (k 0, 12, .inl t_community))] [(a_t, .inr (8, [.int t_units, .ref a_t_population, .ref a_t_area, .ref a_t_community, .ref a_t_outer, .ref a_t_neighbors, .ref a_t_lengths, .int t_cores, v_t_districts, v_t_tolerance, v_t_hasPlan, .ref a_t_plan])), (a_t_community, .inl (k 0, 12, .inl t_community))] s.heap.size) (List.toArray [.ref a_t, .int x1]) s 0 0 A = Q
  clear hP hD hD0
  suffices K : ∀ (H : Heap) (locs : List Loc), HOK D A s.heap [(a_t, .inr (8, [.int t_units, .ref a_t_population, .ref a_t_area, .ref a_t_community, .ref a_t_outer, .ref a_t_neighbors, .ref a_t_lengths, .int t_cores, v_t_districts, v_t_tolerance, v_t_hasPlan, .ref a_t_plan])), (a_t_community, .inl (k 0, 12, .inl t_community))] H locs → W p l e ({ frames := 2, cells := 0, slots := 0, locals := 44 } : Room) s m (List.toArray [.ref a_t, .int x1]) below meth c H locs 0 0 Q (F0 m 0 ls []) from K s.heap [] hH
  intro H locs hH
  have L2 : ∀ (n : Nat), ∀ (kf : Option (Int32)) (y2_2 : Int32), fX9_splitsCores_L2 t_community t_cores t_units x1 n kf y2_2 = some r → (∀ (H : Heap) (locs : List Loc) (ls : Array Slot), kf = some r → HOK D A s.heap [(a_t, .inr (8, [.int t_units, .ref a_t_population, .ref a_t_area, .ref a_t_community, .ref a_t_outer, .ref a_t_neighbors, .ref a_t_lengths, .int t_cores, v_t_districts, v_t_tolerance, v_t_hasPlan, .ref a_t_plan])), (a_t_community, .inl (k 0, 12, .inl t_community))] H locs → lv_has ls 5 [] → W p l e ({ frames := 2, cells := 0, slots := 0, locals := 44 } : Room) s m (List.toArray [.ref a_t, .int x1]) below meth c H locs 0 0 Q (F0 m 37 ls [])) → ∀ (H : Heap) (locs : List Loc) (ls : Array Slot), HOK D A s.heap [(a_t, .inr (8, [.int t_units, .ref a_t_population, .ref a_t_area, .ref a_t_community, .ref a_t_outer, .ref a_t_neighbors, .ref a_t_lengths, .int t_cores, v_t_districts, v_t_tolerance, v_t_hasPlan, .ref a_t_plan])), (a_t_community, .inl (k 0, 12, .inl t_community))] H locs → lv_has ls 5 [(0, .ref a_t), (1, .int x1), (2, .int y2_2)] → W p l e ({ frames := 2, cells := 0, slots := 0, locals := 44 } : Room) s m (List.toArray [.ref a_t, .int x1]) below meth c H locs 0 0 Q (F0 m 2 ls []) := by
    intro n
    induction n with
    | zero =>
      intro kf y2_2 h
      exact absurd h (by rw [fX9_splitsCores_L2]; exact fun q => by cases q)
    | succ n ih =>
      intro kf y2_2 h kk H locs ls hH hl
      rw [fX9_splitsCores_L2] at h
      refine lv_iload_n hx hb dX9_splitsCores_2 rfl (lv_at hl 2 rfl) ?_
      refine lv_iconst (v := 4) hx hb dX9_splitsCores_3 (by decide) ?_
      refine lv_icmp_ge (tgt := 37) hx hb dX9_splitsCores_4 (by decide) (fun c1 => ?_) (fun c1 => ?_)
      · replace h := dc_pos c1 h
        exact kk  H locs ls h hH (lv_sub hl [] rfl)
      · replace h := dc_neg c1 h
        refine lv_aload_n hx hb dX9_splitsCores_7 rfl (lv_at hl 0 rfl) ?_
        refine lv_iload_n hx hb dX9_splitsCores_8 rfl (lv_at hl 2 rfl) ?_
        obtain ⟨q2, hqq2, h⟩ := dc_bind h
        refine gc_Vi (ws' := [(a_t, .inr (8, [.int t_units, .ref a_t_population, .ref a_t_area, .ref a_t_community, .ref a_t_outer, .ref a_t_neighbors, .ref a_t_lengths, .int t_cores, v_t_districts, v_t_tolerance, v_t_hasPlan, .ref a_t_plan])), (a_t_community, .inl (k 0, 12, .inl t_community))]) (As := [.int y2_2]) (rest := []) (n := 1) (ci := 8) (cq := (RX9, TX9, 12)) hTs ⟨hx, hb, hml, hown, hts⟩ (mX9_coresOf l Ts hTs D k H.size a_t a_t_population a_t_area a_t_community a_t_outer a_t_neighbors a_t_lengths a_t_plan t_community t_cores t_units v_t_districts v_t_hasPlan v_t_tolerance y2_2 q2 hqq2) u_ml_X9_113 u_im_X9_coresOf u_se_X9_coresOf u_in_X9 u_co_X9_coresOf hd_X9_coresOf ⟨Nat.le_of_ble_eq_true rfl, Nat.le_of_ble_eq_true rfl⟩ ⟨rfl, rfl⟩ hK hH hA (cut0 (isC := [0, 1]) rfl rfl rfl) rfl rfl rfl rfl hl.1 (Nat.le_of_ble_eq_true rfl) dX9_splitsCores_9 ⟨Nat.le_of_ble_eq_true rfl, Nat.le_of_ble_eq_true rfl⟩ (fun H locs hH => ?_)
        refine lv_istore_n (lv' := [(3, .int q2), (0, .ref a_t), (1, .int x1), (2, .int y2_2)]) hx hb dX9_splitsCores_12 rfl hl (by decide) rfl (fun ls hl => ?_)
        refine lv_iload_n hx hb dX9_splitsCores_13 rfl (lv_at hl 0 rfl) ?_
        refine lv_iload_n hx hb dX9_splitsCores_14 rfl (lv_at hl 2 rfl) ?_
        refine lv_iand hx hb dX9_splitsCores_15 ?_
        refine lv_istore (lv' := [(4, .int (q2 &&& x1)), (3, .int q2), (0, .ref a_t), (1, .int x1), (2, .int y2_2)]) hx hb dX9_splitsCores_16 hl (by decide) rfl (fun ls hl => ?_)
        refine lv_iload hx hb dX9_splitsCores_18 (lv_at hl 0 rfl) ?_
        refine lv_if_eq (tgt := 31) hx hb dX9_splitsCores_20 (by decide) (fun c3 => ?_) (fun c3 => ?_)
        · replace h := dc_pos c3 h
          refine lv_iinc (v := (y2_2 + (1 : Int32))) (lv' := [(2, .int (y2_2 + (1 : Int32))), (4, .int (q2 &&& x1)), (3, .int q2), (0, .ref a_t), (1, .int x1)]) hx hb dX9_splitsCores_31 hl (k := 4) rfl rfl (by decide) rfl (fun ls hl => ?_)
          refine lv_goto (tgt := 2) hx hb dX9_splitsCores_34 (by decide) ?_
          exact ih kf (y2_2 + (1 : Int32)) h kk H locs ls hH (lv_sub hl [3, 4, 0] rfl)
        · replace h := dc_neg c3 h
          refine lv_iload hx hb dX9_splitsCores_23 (lv_at hl 0 rfl) ?_
          refine lv_iload_n hx hb dX9_splitsCores_25 rfl (lv_at hl 1 rfl) ?_
          refine lv_icmp_eq (tgt := 31) hx hb dX9_splitsCores_26 (by decide) (fun c4 => ?_) (fun c4 => ?_)
          · replace h := dc_pos c4 h
            refine lv_iinc (v := (y2_2 + (1 : Int32))) (lv' := [(2, .int (y2_2 + (1 : Int32))), (4, .int (q2 &&& x1)), (3, .int q2), (0, .ref a_t), (1, .int x1)]) hx hb dX9_splitsCores_31 hl (k := 4) rfl rfl (by decide) rfl (fun ls hl => ?_)
            refine lv_goto (tgt := 2) hx hb dX9_splitsCores_34 (by decide) ?_
            exact ih kf (y2_2 + (1 : Int32)) h kk H locs ls hH (lv_sub hl [3, 4, 0] rfl)
          · replace h := dc_neg c4 h
            refine lv_iconst (v := 1) hx hb dX9_splitsCores_29 (by decide) ?_
            have h := Option.some.inj h
            subst h
            exact ge_z hx hb hr rfl hlocks hQ hK hH hAe rfl dX9_splitsCores_30
  rw [fX9_splitsCores] at h
  refine lv_iconst (v := 0) hx hb dX9_splitsCores_0 (by decide) ?_
  refine lv_istore_n (lv' := [(2, .int (0 : Int32)), (0, .ref a_t), (1, .int x1)]) hx hb dX9_splitsCores_1 rfl hl (by decide) rfl (fun ls hl => ?_)
  refine L2 _ _ (0 : Int32) h (fun  H locs ls h hH hl => ?_) H locs ls hH (lv_sub hl [1, 2, 0] rfl)
  refine lv_iconst (v := 0) hx hb dX9_splitsCores_37 (by decide) ?_
  have h := Option.some.inj h
  subst h
  exact ge_z hx hb hr rfl hlocks hQ hK hH hAe rfl dX9_splitsCores_38
theorem hd_X9_reach : yX9_reach.cls = RX9 ∧ yX9_reach.cls ≠ "java/lang/invoke/MethodHandle" ∧ yX9_reach.cls ≠ "java/lang/invoke/VarHandle" ∧ (parseMethodDescriptor yX9_reach.desc).map (fun d => d.parameters.length) = some 1 := by decide +kernel
set_option maxHeartbeats 4000000 in
set_option maxRecDepth 100000 in
theorem mX9_reach (l : Launch) (Ts : List Cond) (hTs : ∀ w, w ∈ Ts ↔ w ∈ uT) (D : va_G) (k : Nat → ClassId) (sz : Nat) (a_t : Nat) (a_t_population : Nat) (a_t_area : Nat) (a_t_community : Nat) (a_t_outer : Nat) (a_t_neighbors : Nat) (a_t_lengths : Nat) (a_t_plan : Nat) (t_neighbors : Nat → Int32) (t_units : Int32) (v_t_cores : Value) (v_t_districts : Value) (v_t_hasPlan : Value) (v_t_tolerance : Value) (x1 : Int32) (r : Int32) (h : fX9_reach t_neighbors t_units x1 = some r) : Met l yX9_reach (Cond.code yX9_reach cX9_reach 6 (some .int) :: Ts) ({ frames := 0, cells := 0, slots := 0, locals := 0 } : Room) (preM D k [.ref a_t, .int x1] [(a_t, .inr (8, [.int t_units, .ref a_t_population, .ref a_t_area, .ref a_t_community, .ref a_t_outer, .ref a_t_neighbors, .ref a_t_lengths, v_t_cores, v_t_districts, v_t_tolerance, v_t_hasPlan, .ref a_t_plan])), (a_t_neighbors, .inl (k 0, 12, .inl t_neighbors))] sz) (postI D k r [(a_t, .inr (8, [.int t_units, .ref a_t_population, .ref a_t_area, .ref a_t_community, .ref a_t_outer, .ref a_t_neighbors, .ref a_t_lengths, v_t_cores, v_t_districts, v_t_tolerance, v_t_hasPlan, .ref a_t_plan])), (a_t_neighbors, .inl (k 0, 12, .inl t_neighbors))] [(a_t, .inr (8, [.int t_units, .ref a_t_population, .ref a_t_area, .ref a_t_community, .ref a_t_outer, .ref a_t_neighbors, .ref a_t_lengths, v_t_cores, v_t_districts, v_t_tolerance, v_t_hasPlan, .ref a_t_plan])), (a_t_neighbors, .inl (k 0, 12, .inl t_neighbors))] sz) 0 0 (va_A [(a_t, .inr (8, [.int t_units, .ref a_t_population, .ref a_t_area, .ref a_t_community, .ref a_t_outer, .ref a_t_neighbors, .ref a_t_lengths, v_t_cores, v_t_districts, v_t_tolerance, v_t_hasPlan, .ref a_t_plan])), (a_t_neighbors, .inl (k 0, 12, .inl t_neighbors))] sz) := by
  refine Met.ofW (cc := cX9_reach) (maxL := 6) (ret := (some .int)) (by decide) rfl ?_
  intro p e s m args below meth c s₁ B hml hv
  obtain ⟨rfl, hsz, hP, hK, hD0⟩ := hv
  have hx := B.exec
  have hb := B.bytes
  have hr := B.returns
  have hts0 := atoms_spec (ws := (Cond.code yX9_reach cX9_reach 6 (some .int) :: Ts)) B.pre
  have hts : ∀ w ∈ uT, w.before _ s = true := fun w h => hts0 w (List.mem_cons_of_mem _ ((hTs w).mpr h))
  clear hts0
  have hown : s.vm.findClass RX9 = some m.cls := findClass_of_methodNamed B.named
  have hlocks := B.notSynchronized
  subst hsz
  have hD := hD0.self (sz := s.heap.size)
  generalize hAe : va_A [(a_t, .inr (8, [.int t_units, .ref a_t_population, .ref a_t_area, .ref a_t_community, .ref a_t_outer, .ref a_t_neighbors, .ref a_t_lengths, v_t_cores, v_t_districts, v_t_tolerance, v_t_hasPlan, .ref a_t_plan])), (a_t_neighbors, .inl (k 0, 12, .inl t_neighbors))] s.heap.size = A at hD ⊢
  have hA : ∀ q : Nat, s.heap.size ≤ q → A q := fun q h => by rw [← hAe]; exact Or.inr h
  have hH : HOK D A s.heap [(a_t, .inr (8, [.int t_units, .ref a_t_population, .ref a_t_area, .ref a_t_community, .ref a_t_outer, .ref a_t_neighbors, .ref a_t_lengths, v_t_cores, v_t_districts, v_t_tolerance, v_t_hasPlan, .ref a_t_plan])), (a_t_neighbors, .inl (k 0, 12, .inl t_neighbors))] s.heap [] := ⟨hP, hD, va_S.rf⟩
  have hl := lv_entry ([.ref a_t, .int x1]) (n := 6) (Nat.le_of_ble_eq_true rfl)
  rw [lg_entry_eq]
  generalize (lg_sl ([.ref a_t, .int x1]) ++ List.replicate (6 - (lg_sl ([.ref a_t, .int x1])).length) Slot.unset).toArray = ls at hl ⊢
  have hl : lv_has ls 6 [(0, .ref a_t), (1, .int x1)] := hl
  generalize hQ : MQ below (postI D k r [(a_t, .inr (8, [.int t_units, .ref a_t_population, .ref a_t_area, .ref a_t_community, .ref a_t_outer, .ref a_t_neighbors, .ref a_t_lengths, v_t_cores, v_t_districts, v_t_tolerance, v_t_hasPlan, .ref a_t_plan])), (a_t_neighbors, .inl (k 0, 12, .inl t_neighbors))] [(a_t, .inr (8, [.int t_units, .ref a_t_population, .ref a_t_area, .ref a_t_community, .ref a_t_outer, .ref a_t_neighbors, .ref a_t_lengths, v_t_cores, v_t_districts, v_t_tolerance, v_t_hasPlan, .ref a_t_plan])), (a_t_neighbors, .inl (k 0, 12, .inl t_neighbors))] s.heap.size) (List.toArray [.ref a_t, .int x1]) s 0 0 A = Q
  clear hP hD hD0
  suffices K : ∀ (H : Heap) (locs : List Loc), HOK D A s.heap [(a_t, .inr (8, [.int t_units, .ref a_t_population, .ref a_t_area, .ref a_t_community, .ref a_t_outer, .ref a_t_neighbors, .ref a_t_lengths, v_t_cores, v_t_districts, v_t_tolerance, v_t_hasPlan, .ref a_t_plan])), (a_t_neighbors, .inl (k 0, 12, .inl t_neighbors))] H locs → W p l e ({ frames := 0, cells := 0, slots := 0, locals := 0 } : Room) s m (List.toArray [.ref a_t, .int x1]) below meth c H locs 0 0 Q (F0 m 0 ls []) from K s.heap [] hH
  intro H locs hH
  have L19 : ∀ (y19_3 : Int32) (y19_4 : Int32) (n : Nat), ∀ (kf : Int32 → Option (Int32)) (y19_2 : Int32) (y19_5 : Int32), fX9_reach_L19 t_neighbors t_units x1 y19_3 y19_4 n kf y19_2 y19_5 = some r → (∀ (z19_2 : Int32) (H : Heap) (locs : List Loc) (ls : Array Slot), kf z19_2 = some r → HOK D A s.heap [(a_t, .inr (8, [.int t_units, .ref a_t_population, .ref a_t_area, .ref a_t_community, .ref a_t_outer, .ref a_t_neighbors, .ref a_t_lengths, v_t_cores, v_t_districts, v_t_tolerance, v_t_hasPlan, .ref a_t_plan])), (a_t_neighbors, .inl (k 0, 12, .inl t_neighbors))] H locs → lv_has ls 6 [(0, .ref a_t), (1, .int x1), (2, .int z19_2), (3, .int y19_3), (4, .int y19_4)] → W p l e ({ frames := 0, cells := 0, slots := 0, locals := 0 } : Room) s m (List.toArray [.ref a_t, .int x1]) below meth c H locs 0 0 Q (F0 m 55 ls [])) → ∀ (H : Heap) (locs : List Loc) (ls : Array Slot), HOK D A s.heap [(a_t, .inr (8, [.int t_units, .ref a_t_population, .ref a_t_area, .ref a_t_community, .ref a_t_outer, .ref a_t_neighbors, .ref a_t_lengths, v_t_cores, v_t_districts, v_t_tolerance, v_t_hasPlan, .ref a_t_plan])), (a_t_neighbors, .inl (k 0, 12, .inl t_neighbors))] H locs → lv_has ls 6 [(0, .ref a_t), (1, .int x1), (2, .int y19_2), (3, .int y19_3), (4, .int y19_4), (5, .int y19_5)] → W p l e ({ frames := 0, cells := 0, slots := 0, locals := 0 } : Room) s m (List.toArray [.ref a_t, .int x1]) below meth c H locs 0 0 Q (F0 m 19 ls []) := by
    intro y19_3 y19_4 n
    induction n with
    | zero =>
      intro kf y19_2 y19_5 h
      exact absurd h (by rw [fX9_reach_L19]; exact fun q => by cases q)
    | succ n ih =>
      intro kf y19_2 y19_5 h kk H locs ls hH hl
      rw [fX9_reach_L19] at h
      refine lv_iload hx hb dX9_reach_19 (lv_at hl 5 rfl) ?_
      refine lv_aload_n hx hb dX9_reach_21 rfl (lv_at hl 0 rfl) ?_
      refine gk_get (ci := 8) (C := RX9) (T := TX9) (N := 12) hx hb hts u_ws_X9 hown hK hH 0 rfl rfl 0 (by decide) u_fl_X9_9 rfl dX9_reach_22 ?_
      refine lv_icmp_ge (tgt := 55) hx hb dX9_reach_25 (by decide) (fun c2 => ?_) (fun c2 => ?_)
      · replace h := dc_pos c2 h
        exact kk y19_2 H locs ls h hH (lv_sub hl [0, 1, 2, 3, 4] rfl)
      · replace h := dc_neg c2 h
        refine lv_iload_n hx hb dX9_reach_28 rfl (lv_at hl 2 rfl) ?_
        refine lv_iload hx hb dX9_reach_29 (lv_at hl 5 rfl) ?_
        refine lv_ishr hx hb dX9_reach_31 ?_
        refine lv_iconst (v := 1) hx hb dX9_reach_32 (by decide) ?_
        refine lv_iand hx hb dX9_reach_33 ?_
        refine lv_if_eq (tgt := 49) hx hb dX9_reach_34 (by decide) (fun c3 => ?_) (fun c3 => ?_)
        · replace h := dc_pos c3 h
          refine lv_iinc (v := (y19_5 + (1 : Int32))) (lv' := [(5, .int (y19_5 + (1 : Int32))), (0, .ref a_t), (1, .int x1), (2, .int y19_2), (3, .int y19_3), (4, .int y19_4)]) hx hb dX9_reach_49 hl (k := 5) rfl rfl (by decide) rfl (fun ls hl => ?_)
          refine lv_goto (tgt := 19) hx hb dX9_reach_52 (by decide) ?_
          exact ih kf y19_2 (y19_5 + (1 : Int32)) h kk H locs ls hH (lv_sub hl [1, 2, 3, 4, 5, 0] rfl)
        · replace h := dc_neg c3 h
          refine lv_iload_n hx hb dX9_reach_37 rfl (lv_at hl 2 rfl) ?_
          refine lv_aload_n hx hb dX9_reach_38 rfl (lv_at hl 0 rfl) ?_
          refine gk_get (ci := 8) (C := RX9) (T := TX9) (N := 12) hx hb hts u_ws_X9 hown hK hH 0 rfl rfl 5 (by decide) u_fl_X9_28 rfl dX9_reach_39 ?_
          refine lv_iload hx hb dX9_reach_42 (lv_at hl 5 rfl) ?_
          obtain ⟨g4, h⟩ := dc_need h
          refine gk_iald hx hb hK hH 1 rfl (dk_in g4) dX9_reach_44 ?_
          refine lv_iload_n hx hb dX9_reach_45 rfl (lv_at hl 1 rfl) ?_
          refine lv_iand hx hb dX9_reach_46 ?_
          refine lv_ior hx hb dX9_reach_47 ?_
          refine lv_istore_n (lv' := [(2, .int (y19_2 ||| ((t_neighbors y19_5.toNatClampNeg) &&& x1))), (0, .ref a_t), (1, .int x1), (3, .int y19_3), (4, .int y19_4), (5, .int y19_5)]) hx hb dX9_reach_48 rfl hl (by decide) rfl (fun ls hl => ?_)
          refine lv_iinc (v := (y19_5 + (1 : Int32))) (lv' := [(5, .int (y19_5 + (1 : Int32))), (2, .int (y19_2 ||| ((t_neighbors y19_5.toNatClampNeg) &&& x1))), (0, .ref a_t), (1, .int x1), (3, .int y19_3), (4, .int y19_4)]) hx hb dX9_reach_49 hl (k := 5) rfl rfl (by decide) rfl (fun ls hl => ?_)
          refine lv_goto (tgt := 19) hx hb dX9_reach_52 (by decide) ?_
          exact ih kf (y19_2 ||| ((t_neighbors y19_5.toNatClampNeg) &&& x1)) (y19_5 + (1 : Int32)) h kk H locs ls hH (lv_sub hl [2, 3, 1, 4, 5, 0] rfl)
  have L7 : ∀ (n : Nat), ∀ (kf : Int32 → Option (Int32)) (y7_2 : Int32) (y7_3 : Int32), fX9_reach_L7 t_neighbors t_units x1 n kf y7_2 y7_3 = some r → (∀ (z7_2 : Int32) (H : Heap) (locs : List Loc) (ls : Array Slot), kf z7_2 = some r → HOK D A s.heap [(a_t, .inr (8, [.int t_units, .ref a_t_population, .ref a_t_area, .ref a_t_community, .ref a_t_outer, .ref a_t_neighbors, .ref a_t_lengths, v_t_cores, v_t_districts, v_t_tolerance, v_t_hasPlan, .ref a_t_plan])), (a_t_neighbors, .inl (k 0, 12, .inl t_neighbors))] H locs → lv_has ls 6 [(2, .int z7_2)] → W p l e ({ frames := 0, cells := 0, slots := 0, locals := 0 } : Room) s m (List.toArray [.ref a_t, .int x1]) below meth c H locs 0 0 Q (F0 m 70 ls [])) → ∀ (H : Heap) (locs : List Loc) (ls : Array Slot), HOK D A s.heap [(a_t, .inr (8, [.int t_units, .ref a_t_population, .ref a_t_area, .ref a_t_community, .ref a_t_outer, .ref a_t_neighbors, .ref a_t_lengths, v_t_cores, v_t_districts, v_t_tolerance, v_t_hasPlan, .ref a_t_plan])), (a_t_neighbors, .inl (k 0, 12, .inl t_neighbors))] H locs → lv_has ls 6 [(0, .ref a_t), (1, .int x1), (2, .int y7_2), (3, .int y7_3)] → W p l e ({ frames := 0, cells := 0, slots := 0, locals := 0 } : Room) s m (List.toArray [.ref a_t, .int x1]) below meth c H locs 0 0 Q (F0 m 7 ls []) := by
    intro n
    induction n with
    | zero =>
      intro kf y7_2 y7_3 h
      exact absurd h (by rw [fX9_reach_L7]; exact fun q => by cases q)
    | succ n ih =>
      intro kf y7_2 y7_3 h kk H locs ls hH hl
      rw [fX9_reach_L7] at h
      refine lv_iload_n hx hb dX9_reach_7 rfl (lv_at hl 3 rfl) ?_
      refine lv_bipush (v := 12) hx hb dX9_reach_8 (by decide) ?_
      refine lv_icmp_ge (tgt := 70) hx hb dX9_reach_10 (by decide) (fun c1 => ?_) (fun c1 => ?_)
      · replace h := dc_pos c1 h
        exact kk y7_2 H locs ls h hH (lv_sub hl [2] rfl)
      · replace h := dc_neg c1 h
        refine lv_iload_n hx hb dX9_reach_13 rfl (lv_at hl 2 rfl) ?_
        refine lv_istore (lv' := [(4, .int y7_2), (0, .ref a_t), (1, .int x1), (2, .int y7_2), (3, .int y7_3)]) hx hb dX9_reach_14 hl (by decide) rfl (fun ls hl => ?_)
        refine lv_iconst (v := 0) hx hb dX9_reach_16 (by decide) ?_
        refine lv_istore (lv' := [(5, .int (0 : Int32)), (4, .int y7_2), (0, .ref a_t), (1, .int x1), (2, .int y7_2), (3, .int y7_3)]) hx hb dX9_reach_17 hl (by decide) rfl (fun ls hl => ?_)
        refine L19 y7_3 y7_2 _ _ y7_2 (0 : Int32) h (fun z19_2 H locs ls h hH hl => ?_) H locs ls hH (lv_sub hl [2, 3, 4, 5, 1, 0] rfl)
        refine lv_iload_n hx hb dX9_reach_55 rfl (lv_at hl 2 rfl) ?_
        refine lv_iload hx hb dX9_reach_56 (lv_at hl 4 rfl) ?_
        refine lv_icmp_ne (tgt := 64) hx hb dX9_reach_58 (by decide) (fun c5 => ?_) (fun c5 => ?_)
        · replace h := dc_neg c5 h
          refine lv_iinc (v := (y7_3 + (1 : Int32))) (lv' := [(3, .int (y7_3 + (1 : Int32))), (0, .ref a_t), (1, .int x1), (2, .int z19_2), (4, .int y7_2)]) hx hb dX9_reach_64 hl (k := 3) rfl rfl (by decide) rfl (fun ls hl => ?_)
          refine lv_goto (tgt := 7) hx hb dX9_reach_67 (by decide) ?_
          exact ih kf z19_2 (y7_3 + (1 : Int32)) h kk H locs ls hH (lv_sub hl [1, 2, 3, 0] rfl)
        · replace h := dc_pos c5 h
          refine lv_goto (tgt := 70) hx hb dX9_reach_61 (by decide) ?_
          exact kk z19_2 H locs ls h hH (lv_sub hl [2] rfl)
  rw [fX9_reach] at h
  refine lv_iload_n hx hb dX9_reach_0 rfl (lv_at hl 1 rfl) ?_
  refine lv_iload_n hx hb dX9_reach_1 rfl (lv_at hl 1 rfl) ?_
  refine lv_ineg hx hb dX9_reach_2 ?_
  refine lv_iand hx hb dX9_reach_3 ?_
  refine lv_istore_n (lv' := [(2, .int (x1 &&& (-x1))), (0, .ref a_t), (1, .int x1)]) hx hb dX9_reach_4 rfl hl (by decide) rfl (fun ls hl => ?_)
  refine lv_iconst (v := 0) hx hb dX9_reach_5 (by decide) ?_
  refine lv_istore_n (lv' := [(3, .int (0 : Int32)), (2, .int (x1 &&& (-x1))), (0, .ref a_t), (1, .int x1)]) hx hb dX9_reach_6 rfl hl (by decide) rfl (fun ls hl => ?_)
  refine L7 _ _ (x1 &&& (-x1)) (0 : Int32) h (fun z7_2 H locs ls h hH hl => ?_) H locs ls hH (lv_sub hl [2, 3, 1, 0] rfl)
  refine lv_iload_n hx hb dX9_reach_70 rfl (lv_at hl 0 rfl) ?_
  have h := Option.some.inj h
  subst h
  exact ge_i hx hb hr hlocks hQ hK hH hAe rfl dX9_reach_71
theorem hd_X9_isContiguous : yX9_isContiguous.cls = RX9 ∧ yX9_isContiguous.cls ≠ "java/lang/invoke/MethodHandle" ∧ yX9_isContiguous.cls ≠ "java/lang/invoke/VarHandle" ∧ (parseMethodDescriptor yX9_isContiguous.desc).map (fun d => d.parameters.length) = some 1 := by decide +kernel
set_option maxHeartbeats 4000000 in
set_option maxRecDepth 100000 in
theorem mX9_isContiguous (l : Launch) (Ts : List Cond) (hTs : ∀ w, w ∈ Ts ↔ w ∈ uT) (D : va_G) (k : Nat → ClassId) (sz : Nat) (a_t : Nat) (a_t_population : Nat) (a_t_area : Nat) (a_t_community : Nat) (a_t_outer : Nat) (a_t_neighbors : Nat) (a_t_lengths : Nat) (a_t_plan : Nat) (t_neighbors : Nat → Int32) (t_units : Int32) (v_t_cores : Value) (v_t_districts : Value) (v_t_hasPlan : Value) (v_t_tolerance : Value) (x1 : Int32) (r : Int32) (h : fX9_isContiguous t_neighbors t_units x1 = some r) : Met l yX9_isContiguous (Cond.code yX9_isContiguous cX9_isContiguous 2 (some .boolean) :: Ts) ({ frames := 1, cells := 0, slots := 0, locals := 25 } : Room) (preM D k [.ref a_t, .int x1] [(a_t, .inr (8, [.int t_units, .ref a_t_population, .ref a_t_area, .ref a_t_community, .ref a_t_outer, .ref a_t_neighbors, .ref a_t_lengths, v_t_cores, v_t_districts, v_t_tolerance, v_t_hasPlan, .ref a_t_plan])), (a_t_neighbors, .inl (k 0, 12, .inl t_neighbors))] sz) (postI D k r [(a_t, .inr (8, [.int t_units, .ref a_t_population, .ref a_t_area, .ref a_t_community, .ref a_t_outer, .ref a_t_neighbors, .ref a_t_lengths, v_t_cores, v_t_districts, v_t_tolerance, v_t_hasPlan, .ref a_t_plan])), (a_t_neighbors, .inl (k 0, 12, .inl t_neighbors))] [(a_t, .inr (8, [.int t_units, .ref a_t_population, .ref a_t_area, .ref a_t_community, .ref a_t_outer, .ref a_t_neighbors, .ref a_t_lengths, v_t_cores, v_t_districts, v_t_tolerance, v_t_hasPlan, .ref a_t_plan])), (a_t_neighbors, .inl (k 0, 12, .inl t_neighbors))] sz) 0 0 (va_A [(a_t, .inr (8, [.int t_units, .ref a_t_population, .ref a_t_area, .ref a_t_community, .ref a_t_outer, .ref a_t_neighbors, .ref a_t_lengths, v_t_cores, v_t_districts, v_t_tolerance, v_t_hasPlan, .ref a_t_plan])), (a_t_neighbors, .inl (k 0, 12, .inl t_neighbors))] sz) := by
  refine Met.ofW (cc := cX9_isContiguous) (maxL := 2) (ret := (some .boolean)) (by decide) rfl ?_
  intro p e s m args below meth c s₁ B hml hv
  obtain ⟨rfl, hsz, hP, hK, hD0⟩ := hv
  have hx := B.exec
  have hb := B.bytes
  have hr := B.returns
  have hts0 := atoms_spec (ws := (Cond.code yX9_isContiguous cX9_isContiguous 2 (some .boolean) :: Ts)) B.pre
  have hts : ∀ w ∈ uT, w.before _ s = true := fun w h => hts0 w (List.mem_cons_of_mem _ ((hTs w).mpr h))
  clear hts0
  have hown : s.vm.findClass RX9 = some m.cls := findClass_of_methodNamed B.named
  have hlocks := B.notSynchronized
  subst hsz
  have hD := hD0.self (sz := s.heap.size)
  generalize hAe : va_A [(a_t, .inr (8, [.int t_units, .ref a_t_population, .ref a_t_area, .ref a_t_community, .ref a_t_outer, .ref a_t_neighbors, .ref a_t_lengths, v_t_cores, v_t_districts, v_t_tolerance, v_t_hasPlan, .ref a_t_plan])), (a_t_neighbors, .inl (k 0, 12, .inl t_neighbors))] s.heap.size = A at hD ⊢
  have hA : ∀ q : Nat, s.heap.size ≤ q → A q := fun q h => by rw [← hAe]; exact Or.inr h
  have hH : HOK D A s.heap [(a_t, .inr (8, [.int t_units, .ref a_t_population, .ref a_t_area, .ref a_t_community, .ref a_t_outer, .ref a_t_neighbors, .ref a_t_lengths, v_t_cores, v_t_districts, v_t_tolerance, v_t_hasPlan, .ref a_t_plan])), (a_t_neighbors, .inl (k 0, 12, .inl t_neighbors))] s.heap [] := ⟨hP, hD, va_S.rf⟩
  have hl := lv_entry ([.ref a_t, .int x1]) (n := 2) (Nat.le_of_ble_eq_true rfl)
  rw [lg_entry_eq]
  generalize (lg_sl ([.ref a_t, .int x1]) ++ List.replicate (2 - (lg_sl ([.ref a_t, .int x1])).length) Slot.unset).toArray = ls at hl ⊢
  have hl : lv_has ls 2 [(0, .ref a_t), (1, .int x1)] := hl
  generalize hQ : MQ below (postI D k r [(a_t, .inr (8, [.int t_units, .ref a_t_population, .ref a_t_area, .ref a_t_community, .ref a_t_outer, .ref a_t_neighbors, .ref a_t_lengths, v_t_cores, v_t_districts, v_t_tolerance, v_t_hasPlan, .ref a_t_plan])), (a_t_neighbors, .inl (k 0, 12, .inl t_neighbors))] [(a_t, .inr (8, [.int t_units, .ref a_t_population, .ref a_t_area, .ref a_t_community, .ref a_t_outer, .ref a_t_neighbors, .ref a_t_lengths, v_t_cores, v_t_districts, v_t_tolerance, v_t_hasPlan, .ref a_t_plan])), (a_t_neighbors, .inl (k 0, 12, .inl t_neighbors))] s.heap.size) (List.toArray [.ref a_t, .int x1]) s 0 0 A = Q
  clear hP hD hD0
  suffices K : ∀ (H : Heap) (locs : List Loc), HOK D A s.heap [(a_t, .inr (8, [.int t_units, .ref a_t_population, .ref a_t_area, .ref a_t_community, .ref a_t_outer, .ref a_t_neighbors, .ref a_t_lengths, v_t_cores, v_t_districts, v_t_tolerance, v_t_hasPlan, .ref a_t_plan])), (a_t_neighbors, .inl (k 0, 12, .inl t_neighbors))] H locs → W p l e ({ frames := 1, cells := 0, slots := 0, locals := 25 } : Room) s m (List.toArray [.ref a_t, .int x1]) below meth c H locs 0 0 Q (F0 m 0 ls []) from K s.heap [] hH
  intro H locs hH
  rw [fX9_isContiguous] at h
  refine lv_aload_n hx hb dX9_isContiguous_0 rfl (lv_at hl 0 rfl) ?_
  refine lv_iload_n hx hb dX9_isContiguous_1 rfl (lv_at hl 1 rfl) ?_
  obtain ⟨q1, hqq1, h⟩ := dc_bind h
  refine gc_Vi (ws' := [(a_t, .inr (8, [.int t_units, .ref a_t_population, .ref a_t_area, .ref a_t_community, .ref a_t_outer, .ref a_t_neighbors, .ref a_t_lengths, v_t_cores, v_t_districts, v_t_tolerance, v_t_hasPlan, .ref a_t_plan])), (a_t_neighbors, .inl (k 0, 12, .inl t_neighbors))]) (As := [.int x1]) (rest := []) (n := 1) (ci := 8) (cq := (RX9, TX9, 12)) hTs ⟨hx, hb, hml, hown, hts⟩ (mX9_reach l Ts hTs D k H.size a_t a_t_population a_t_area a_t_community a_t_outer a_t_neighbors a_t_lengths a_t_plan t_neighbors t_units v_t_cores v_t_districts v_t_hasPlan v_t_tolerance x1 q1 hqq1) u_ml_X9_99 u_im_X9_reach u_se_X9_reach u_in_X9 u_co_X9_reach hd_X9_reach ⟨Nat.le_of_ble_eq_true rfl, Nat.le_of_ble_eq_true rfl⟩ ⟨rfl, rfl⟩ hK hH hA (cut0 (isC := [0, 1]) rfl rfl rfl) rfl rfl rfl rfl hl.1 (Nat.le_of_ble_eq_true rfl) dX9_isContiguous_2 ⟨Nat.le_of_ble_eq_true rfl, Nat.le_of_ble_eq_true rfl⟩ (fun H locs hH => ?_)
  refine lv_iload_n hx hb dX9_isContiguous_5 rfl (lv_at hl 1 rfl) ?_
  refine lv_icmp_ne (tgt := 13) hx hb dX9_isContiguous_6 (by decide) (fun c2 => ?_) (fun c2 => ?_)
  · replace h := dc_neg c2 h
    refine lv_iconst (v := 0) hx hb dX9_isContiguous_13 (by decide) ?_
    have h := Option.some.inj h
    subst h
    exact ge_z hx hb hr rfl hlocks hQ hK hH hAe rfl dX9_isContiguous_14
  · replace h := dc_pos c2 h
    refine lv_iconst (v := 1) hx hb dX9_isContiguous_9 (by decide) ?_
    refine lv_goto (tgt := 14) hx hb dX9_isContiguous_10 (by decide) ?_
    have h := Option.some.inj h
    subst h
    exact ge_z hx hb hr rfl hlocks hQ hK hH hAe rfl dX9_isContiguous_14
theorem hd_X0_findSets : yX0_findSets.cls = RX0 ∧ yX0_findSets.cls ≠ "java/lang/invoke/MethodHandle" ∧ yX0_findSets.cls ≠ "java/lang/invoke/VarHandle" ∧ (parseMethodDescriptor yX0_findSets.desc).map (fun d => d.parameters.length) = some 1 := by decide +kernel
set_option maxHeartbeats 4000000 in
set_option maxRecDepth 100000 in
theorem mX0_findSets (l : Launch) (Ts : List Cond) (hTs : ∀ w, w ∈ Ts ↔ w ∈ uT) (D : va_G) (k : Nat → ClassId) (sz : Nat) (a_p1 : Nat) (a_t : Nat) (a_t_codes : Nat) (a_t_isPossible : Nat) (a_t_sets : Nat) (a_t_plan : Nat) (a_t_best : Nat) (a_t_tried : Nat) (a_p1_population : Nat) (a_p1_area : Nat) (a_p1_community : Nat) (a_p1_outer : Nat) (a_p1_neighbors : Nat) (a_p1_lengths : Nat) (a_p1_plan : Nat) (p1_community : Nat → Int32) (p1_cores : Int32) (p1_districts : Int32) (p1_neighbors : Nat → Int32) (p1_population : Nat → Int32) (p1_tolerance : Int32) (p1_units : Int32) (t_hasSets : Int32) (t_isPossible : Nat → Int32) (v_p1_hasPlan : Value) (v_t_hasPlans : Value) (v_t_size : Value) (r : Int32 × (Nat → Int32)) (h : fX0_findSets p1_community p1_cores p1_districts p1_neighbors p1_population p1_tolerance p1_units t_hasSets t_isPossible = some r) : Met l yX0_findSets (Cond.code yX0_findSets cX0_findSets 4 none :: Ts) ({ frames := 3, cells := 0, slots := 0, locals := 106 } : Room) (preM D k [.ref a_t, .ref a_p1] [(a_t, .inr (0, [.ref a_t_codes, .ref a_t_isPossible, .ref a_t_sets, .ref a_t_plan, .ref a_t_best, .ref a_t_tried, v_t_size, .int t_hasSets, v_t_hasPlans])), (a_p1, .inr (8, [.int p1_units, .ref a_p1_population, .ref a_p1_area, .ref a_p1_community, .ref a_p1_outer, .ref a_p1_neighbors, .ref a_p1_lengths, .int p1_cores, .int p1_districts, .int p1_tolerance, v_p1_hasPlan, .ref a_p1_plan])), (a_t_isPossible, .inl (k 2, 512, .inl t_isPossible)), (a_p1_population, .inl (k 0, 12, .inl p1_population)), (a_p1_community, .inl (k 0, 12, .inl p1_community)), (a_p1_neighbors, .inl (k 0, 12, .inl p1_neighbors))] sz) (postV D k [(a_t, .inr (0, [.ref a_t_codes, .ref a_t_isPossible, .ref a_t_sets, .ref a_t_plan, .ref a_t_best, .ref a_t_tried, v_t_size, .int t_hasSets, v_t_hasPlans])), (a_p1, .inr (8, [.int p1_units, .ref a_p1_population, .ref a_p1_area, .ref a_p1_community, .ref a_p1_outer, .ref a_p1_neighbors, .ref a_p1_lengths, .int p1_cores, .int p1_districts, .int p1_tolerance, v_p1_hasPlan, .ref a_p1_plan])), (a_t_isPossible, .inl (k 2, 512, .inl t_isPossible)), (a_p1_population, .inl (k 0, 12, .inl p1_population)), (a_p1_community, .inl (k 0, 12, .inl p1_community)), (a_p1_neighbors, .inl (k 0, 12, .inl p1_neighbors))] [(a_t, .inr (0, [.ref a_t_codes, .ref a_t_isPossible, .ref a_t_sets, .ref a_t_plan, .ref a_t_best, .ref a_t_tried, v_t_size, .int r.1, v_t_hasPlans])), (a_p1, .inr (8, [.int p1_units, .ref a_p1_population, .ref a_p1_area, .ref a_p1_community, .ref a_p1_outer, .ref a_p1_neighbors, .ref a_p1_lengths, .int p1_cores, .int p1_districts, .int p1_tolerance, v_p1_hasPlan, .ref a_p1_plan])), (a_t_isPossible, .inl (k 2, 512, .inl r.2)), (a_p1_population, .inl (k 0, 12, .inl p1_population)), (a_p1_community, .inl (k 0, 12, .inl p1_community)), (a_p1_neighbors, .inl (k 0, 12, .inl p1_neighbors))] sz) 0 0 (va_A [(a_t, .inr (0, [.ref a_t_codes, .ref a_t_isPossible, .ref a_t_sets, .ref a_t_plan, .ref a_t_best, .ref a_t_tried, v_t_size, .int t_hasSets, v_t_hasPlans])), (a_p1, .inr (8, [.int p1_units, .ref a_p1_population, .ref a_p1_area, .ref a_p1_community, .ref a_p1_outer, .ref a_p1_neighbors, .ref a_p1_lengths, .int p1_cores, .int p1_districts, .int p1_tolerance, v_p1_hasPlan, .ref a_p1_plan])), (a_t_isPossible, .inl (k 2, 512, .inl t_isPossible)), (a_p1_population, .inl (k 0, 12, .inl p1_population)), (a_p1_community, .inl (k 0, 12, .inl p1_community)), (a_p1_neighbors, .inl (k 0, 12, .inl p1_neighbors))] sz) := by
  refine Met.ofW (cc := cX0_findSets) (maxL := 4) (ret := none) (by decide) rfl ?_
  intro p e s m args below meth c s₁ B hml hv
  obtain ⟨rfl, hsz, hP, hK, hD0⟩ := hv
  have hx := B.exec
  have hb := B.bytes
  have hr := B.returns
  have hts0 := atoms_spec (ws := (Cond.code yX0_findSets cX0_findSets 4 none :: Ts)) B.pre
  have hts : ∀ w ∈ uT, w.before _ s = true := fun w h => hts0 w (List.mem_cons_of_mem _ ((hTs w).mpr h))
  clear hts0
  have hown : s.vm.findClass RX0 = some m.cls := findClass_of_methodNamed B.named
  have hlocks := B.notSynchronized
  subst hsz
  have hD := hD0.self (sz := s.heap.size)
  generalize hAe : va_A [(a_t, .inr (0, [.ref a_t_codes, .ref a_t_isPossible, .ref a_t_sets, .ref a_t_plan, .ref a_t_best, .ref a_t_tried, v_t_size, .int t_hasSets, v_t_hasPlans])), (a_p1, .inr (8, [.int p1_units, .ref a_p1_population, .ref a_p1_area, .ref a_p1_community, .ref a_p1_outer, .ref a_p1_neighbors, .ref a_p1_lengths, .int p1_cores, .int p1_districts, .int p1_tolerance, v_p1_hasPlan, .ref a_p1_plan])), (a_t_isPossible, .inl (k 2, 512, .inl t_isPossible)), (a_p1_population, .inl (k 0, 12, .inl p1_population)), (a_p1_community, .inl (k 0, 12, .inl p1_community)), (a_p1_neighbors, .inl (k 0, 12, .inl p1_neighbors))] s.heap.size = A at hD ⊢
  have hA : ∀ q : Nat, s.heap.size ≤ q → A q := fun q h => by rw [← hAe]; exact Or.inr h
  have hH : HOK D A s.heap [(a_t, .inr (0, [.ref a_t_codes, .ref a_t_isPossible, .ref a_t_sets, .ref a_t_plan, .ref a_t_best, .ref a_t_tried, v_t_size, .int t_hasSets, v_t_hasPlans])), (a_p1, .inr (8, [.int p1_units, .ref a_p1_population, .ref a_p1_area, .ref a_p1_community, .ref a_p1_outer, .ref a_p1_neighbors, .ref a_p1_lengths, .int p1_cores, .int p1_districts, .int p1_tolerance, v_p1_hasPlan, .ref a_p1_plan])), (a_t_isPossible, .inl (k 2, 512, .inl t_isPossible)), (a_p1_population, .inl (k 0, 12, .inl p1_population)), (a_p1_community, .inl (k 0, 12, .inl p1_community)), (a_p1_neighbors, .inl (k 0, 12, .inl p1_neighbors))] s.heap [] := ⟨hP, hD, va_S.rf⟩
  have hl := lv_entry ([.ref a_t, .ref a_p1]) (n := 4) (Nat.le_of_ble_eq_true rfl)
  rw [lg_entry_eq]
  generalize (lg_sl ([.ref a_t, .ref a_p1]) ++ List.replicate (4 - (lg_sl ([.ref a_t, .ref a_p1])).length) Slot.unset).toArray = ls at hl ⊢
  have hl : lv_has ls 4 [(0, .ref a_t), (1, .ref a_p1)] := hl
  generalize hQ : MQ below (postV D k [(a_t, .inr (0, [.ref a_t_codes, .ref a_t_isPossible, .ref a_t_sets, .ref a_t_plan, .ref a_t_best, .ref a_t_tried, v_t_size, .int t_hasSets, v_t_hasPlans])), (a_p1, .inr (8, [.int p1_units, .ref a_p1_population, .ref a_p1_area, .ref a_p1_community, .ref a_p1_outer, .ref a_p1_neighbors, .ref a_p1_lengths, .int p1_cores, .int p1_districts, .int p1_tolerance, v_p1_hasPlan, .ref a_p1_plan])), (a_t_isPossible, .inl (k 2, 512, .inl t_isPossible)), (a_p1_population, .inl (k 0, 12, .inl p1_population)), (a_p1_community, .inl (k 0, 12, .inl p1_community)), (a_p1_neighbors, .inl (k 0, 12, .inl p1_neighbors))] [(a_t, .inr (0, [.ref a_t_codes, .ref a_t_isPossible, .ref a_t_sets, .ref a_t_plan, .ref a_t_best, .ref a_t_tried, v_t_size, .int r.1, v_t_hasPlans])), (a_p1, .inr (8, [.int p1_units, .ref a_p1_population, .ref a_p1_area, .ref a_p1_community, .ref a_p1_outer, .ref a_p1_neighbors, .ref a_p1_lengths, .int p1_cores, .int p1_districts, .int p1_tolerance, v_p1_hasPlan, .ref a_p1_plan])), (a_t_isPossible, .inl (k 2, 512, .inl r.2)), (a_p1_population, .inl (k 0, 12, .inl p1_population)), (a_p1_community, .inl (k 0, 12, .inl p1_community)), (a_p1_neighbors, .inl (k 0, 12, .inl p1_neighbors))] s.heap.size) (List.toArray [.ref a_t, .ref a_p1]) s 0 0 A = Q
  clear hP hD hD0
  suffices K : ∀ (H : Heap) (locs : List Loc), HOK D A s.heap [(a_t, .inr (0, [.ref a_t_codes, .ref a_t_isPossible, .ref a_t_sets, .ref a_t_plan, .ref a_t_best, .ref a_t_tried, v_t_size, .int t_hasSets, v_t_hasPlans])), (a_p1, .inr (8, [.int p1_units, .ref a_p1_population, .ref a_p1_area, .ref a_p1_community, .ref a_p1_outer, .ref a_p1_neighbors, .ref a_p1_lengths, .int p1_cores, .int p1_districts, .int p1_tolerance, v_p1_hasPlan, .ref a_p1_plan])), (a_t_isPossible, .inl (k 2, 512, .inl t_isPossible)), (a_p1_population, .inl (k 0, 12, .inl p1_population)), (a_p1_community, .inl (k 0, 12, .inl p1_community)), (a_p1_neighbors, .inl (k 0, 12, .inl p1_neighbors))] H locs → W p l e ({ frames := 3, cells := 0, slots := 0, locals := 106 } : Room) s m (List.toArray [.ref a_t, .ref a_p1]) below meth c H locs 0 0 Q (F0 m 0 ls []) from K s.heap [] hH
  intro H locs hH
  have L25 : ∀ (y25_2 : Int32) (n : Nat), ∀ (kf : (Nat → Int32) → Option (Int32 × (Nat → Int32))) (y25_3 : Int32) (y25_t_isPossible : Nat → Int32), fX0_findSets_L25 p1_community p1_cores p1_districts p1_neighbors p1_population p1_tolerance p1_units y25_2 n kf y25_3 y25_t_isPossible = some r → (∀ (z25_t_isPossible : Nat → Int32) (H : Heap) (locs : List Loc) (ls : Array Slot), kf z25_t_isPossible = some r → HOK D A s.heap [(a_t, .inr (0, [.ref a_t_codes, .ref a_t_isPossible, .ref a_t_sets, .ref a_t_plan, .ref a_t_best, .ref a_t_tried, v_t_size, .int t_hasSets, v_t_hasPlans])), (a_p1, .inr (8, [.int p1_units, .ref a_p1_population, .ref a_p1_area, .ref a_p1_community, .ref a_p1_outer, .ref a_p1_neighbors, .ref a_p1_lengths, .int p1_cores, .int p1_districts, .int p1_tolerance, v_p1_hasPlan, .ref a_p1_plan])), (a_t_isPossible, .inl (k 2, 512, .inl z25_t_isPossible)), (a_p1_population, .inl (k 0, 12, .inl p1_population)), (a_p1_community, .inl (k 0, 12, .inl p1_community)), (a_p1_neighbors, .inl (k 0, 12, .inl p1_neighbors))] H locs → lv_has ls 4 [(0, .ref a_t)] → W p l e ({ frames := 3, cells := 0, slots := 0, locals := 106 } : Room) s m (List.toArray [.ref a_t, .ref a_p1]) below meth c H locs 0 0 Q (F0 m 75 ls [])) → ∀ (H : Heap) (locs : List Loc) (ls : Array Slot), HOK D A s.heap [(a_t, .inr (0, [.ref a_t_codes, .ref a_t_isPossible, .ref a_t_sets, .ref a_t_plan, .ref a_t_best, .ref a_t_tried, v_t_size, .int t_hasSets, v_t_hasPlans])), (a_p1, .inr (8, [.int p1_units, .ref a_p1_population, .ref a_p1_area, .ref a_p1_community, .ref a_p1_outer, .ref a_p1_neighbors, .ref a_p1_lengths, .int p1_cores, .int p1_districts, .int p1_tolerance, v_p1_hasPlan, .ref a_p1_plan])), (a_t_isPossible, .inl (k 2, 512, .inl y25_t_isPossible)), (a_p1_population, .inl (k 0, 12, .inl p1_population)), (a_p1_community, .inl (k 0, 12, .inl p1_community)), (a_p1_neighbors, .inl (k 0, 12, .inl p1_neighbors))] H locs → lv_has ls 4 [(0, .ref a_t), (1, .ref a_p1), (2, .int y25_2), (3, .int y25_3)] → W p l e ({ frames := 3, cells := 0, slots := 0, locals := 106 } : Room) s m (List.toArray [.ref a_t, .ref a_p1]) below meth c H locs 0 0 Q (F0 m 25 ls []) := by
    intro y25_2 n
    induction n with
    | zero =>
      intro kf y25_3 y25_t_isPossible h
      exact absurd h (by rw [fX0_findSets_L25]; exact fun q => by cases q)
    | succ n ih =>
      intro kf y25_3 y25_t_isPossible h kk H locs ls hH hl
      rw [fX0_findSets_L25] at h
      refine lv_iload_n hx hb dX0_findSets_25 rfl (lv_at hl 3 rfl) ?_
      refine lv_iload_n hx hb dX0_findSets_26 rfl (lv_at hl 2 rfl) ?_
      refine lv_icmp_gt (tgt := 75) hx hb dX0_findSets_27 (by decide) (fun c4 => ?_) (fun c4 => ?_)
      · replace h := dc_pos c4 h
        exact kk y25_t_isPossible H locs ls h hH (lv_sub hl [0] rfl)
      · replace h := dc_neg c4 h
        refine lv_aload_n hx hb dX0_findSets_30 rfl (lv_at hl 0 rfl) ?_
        refine gk_get (ci := 0) (C := RX0) (T := TX0) (N := 9) hx hb hts u_ws_X0 hown hK hH 0 rfl rfl 1 (by decide) u_fl_X0_15 rfl dX0_findSets_31 ?_
        refine lv_iload_n hx hb dX0_findSets_34 rfl (lv_at hl 3 rfl) ?_
        refine lv_iload_n hx hb dX0_findSets_35 rfl (lv_at hl 3 rfl) ?_
        refine lv_if_eq (tgt := 67) hx hb dX0_findSets_36 (by decide) (fun c5 => ?_) (fun c5 => ?_)
        · replace h := dc_pos c5 h
          refine lv_iconst (v := 0) hx hb dX0_findSets_67 (by decide) ?_
          obtain ⟨g6, h⟩ := dc_need h
          refine gk_bast hx hb hK hH 2 rfl (dk_in g6) dX0_findSets_68 [(a_t, .inr (0, [.ref a_t_codes, .ref a_t_isPossible, .ref a_t_sets, .ref a_t_plan, .ref a_t_best, .ref a_t_tried, v_t_size, .int t_hasSets, v_t_hasPlans])), (a_p1, .inr (8, [.int p1_units, .ref a_p1_population, .ref a_p1_area, .ref a_p1_community, .ref a_p1_outer, .ref a_p1_neighbors, .ref a_p1_lengths, .int p1_cores, .int p1_districts, .int p1_tolerance, v_p1_hasPlan, .ref a_p1_plan])), (a_t_isPossible, .inl (k 2, 512, .inl (upd y25_t_isPossible y25_3.toNatClampNeg (vp_nar .boolean (0 : Int32))))), (a_p1_population, .inl (k 0, 12, .inl p1_population)), (a_p1_community, .inl (k 0, 12, .inl p1_community)), (a_p1_neighbors, .inl (k 0, 12, .inl p1_neighbors))] rfl (fun H locs hH => ?_)
          refine lv_iinc (v := (y25_3 + (1 : Int32))) (lv' := [(3, .int (y25_3 + (1 : Int32))), (0, .ref a_t), (1, .ref a_p1), (2, .int y25_2)]) hx hb dX0_findSets_69 hl (k := 3) rfl rfl (by decide) rfl (fun ls hl => ?_)
          refine lv_goto (tgt := 25) hx hb dX0_findSets_72 (by decide) ?_
          exact ih kf (y25_3 + (1 : Int32)) (upd y25_t_isPossible y25_3.toNatClampNeg (vp_nar .boolean (0 : Int32))) h kk H locs ls hH (lv_sub hl [1, 2, 3, 0] rfl)
        · replace h := dc_neg c5 h
          refine lv_aload_n hx hb dX0_findSets_39 rfl (lv_at hl 1 rfl) ?_
          refine lv_iload_n hx hb dX0_findSets_40 rfl (lv_at hl 3 rfl) ?_
          obtain ⟨q7, hqq7, h⟩ := dc_bind h
          refine gc_Vi (ws' := [(a_t, .inr (0, [.ref a_t_codes, .ref a_t_isPossible, .ref a_t_sets, .ref a_t_plan, .ref a_t_best, .ref a_t_tried, v_t_size, .int t_hasSets, v_t_hasPlans])), (a_p1, .inr (8, [.int p1_units, .ref a_p1_population, .ref a_p1_area, .ref a_p1_community, .ref a_p1_outer, .ref a_p1_neighbors, .ref a_p1_lengths, .int p1_cores, .int p1_districts, .int p1_tolerance, v_p1_hasPlan, .ref a_p1_plan])), (a_t_isPossible, .inl (k 2, 512, .inl y25_t_isPossible)), (a_p1_population, .inl (k 0, 12, .inl p1_population)), (a_p1_community, .inl (k 0, 12, .inl p1_community)), (a_p1_neighbors, .inl (k 0, 12, .inl p1_neighbors))]) (As := [.int y25_3]) (rest := [.int y25_3, .ref a_t_isPossible]) (n := 1) (ci := 8) (cq := (RX9, TX9, 12)) hTs ⟨hx, hb, hml, hown, hts⟩ (mX9_isBalanced l Ts hTs D k H.size a_p1 a_p1_population a_p1_area a_p1_community a_p1_outer a_p1_neighbors a_p1_lengths a_p1_plan p1_districts p1_population p1_tolerance p1_units (.int p1_cores) v_p1_hasPlan y25_3 q7 hqq7) u_ml_X0_111 u_im_X9_isBalanced u_se_X9_isBalanced u_in_X9 u_co_X9_isBalanced hd_X9_isBalanced ⟨Nat.le_of_ble_eq_true rfl, Nat.le_of_ble_eq_true rfl⟩ ⟨rfl, rfl⟩ hK hH hA (cut0 (isC := [1, 3]) rfl rfl rfl) rfl rfl rfl rfl hl.1 (Nat.le_of_ble_eq_true rfl) dX0_findSets_41 ⟨Nat.le_of_ble_eq_true rfl, Nat.le_of_ble_eq_true rfl⟩ (fun H locs hH => ?_)
          refine lv_if_eq (tgt := 67) hx hb dX0_findSets_44 (by decide) (fun c8 => ?_) (fun c8 => ?_)
          · replace h := dc_pos c8 h
            refine lv_iconst (v := 0) hx hb dX0_findSets_67 (by decide) ?_
            obtain ⟨g9, h⟩ := dc_need h
            refine gk_bast hx hb hK hH 2 rfl (dk_in g9) dX0_findSets_68 [(a_t, .inr (0, [.ref a_t_codes, .ref a_t_isPossible, .ref a_t_sets, .ref a_t_plan, .ref a_t_best, .ref a_t_tried, v_t_size, .int t_hasSets, v_t_hasPlans])), (a_p1, .inr (8, [.int p1_units, .ref a_p1_population, .ref a_p1_area, .ref a_p1_community, .ref a_p1_outer, .ref a_p1_neighbors, .ref a_p1_lengths, .int p1_cores, .int p1_districts, .int p1_tolerance, v_p1_hasPlan, .ref a_p1_plan])), (a_t_isPossible, .inl (k 2, 512, .inl (upd y25_t_isPossible y25_3.toNatClampNeg (vp_nar .boolean (0 : Int32))))), (a_p1_population, .inl (k 0, 12, .inl p1_population)), (a_p1_community, .inl (k 0, 12, .inl p1_community)), (a_p1_neighbors, .inl (k 0, 12, .inl p1_neighbors))] rfl (fun H locs hH => ?_)
            refine lv_iinc (v := (y25_3 + (1 : Int32))) (lv' := [(3, .int (y25_3 + (1 : Int32))), (0, .ref a_t), (1, .ref a_p1), (2, .int y25_2)]) hx hb dX0_findSets_69 hl (k := 3) rfl rfl (by decide) rfl (fun ls hl => ?_)
            refine lv_goto (tgt := 25) hx hb dX0_findSets_72 (by decide) ?_
            exact ih kf (y25_3 + (1 : Int32)) (upd y25_t_isPossible y25_3.toNatClampNeg (vp_nar .boolean (0 : Int32))) h kk H locs ls hH (lv_sub hl [1, 2, 3, 0] rfl)
          · replace h := dc_neg c8 h
            refine lv_aload_n hx hb dX0_findSets_47 rfl (lv_at hl 1 rfl) ?_
            refine lv_iload_n hx hb dX0_findSets_48 rfl (lv_at hl 3 rfl) ?_
            obtain ⟨q10, hqq10, h⟩ := dc_bind h
            refine gc_Vi (ws' := [(a_t, .inr (0, [.ref a_t_codes, .ref a_t_isPossible, .ref a_t_sets, .ref a_t_plan, .ref a_t_best, .ref a_t_tried, v_t_size, .int t_hasSets, v_t_hasPlans])), (a_p1, .inr (8, [.int p1_units, .ref a_p1_population, .ref a_p1_area, .ref a_p1_community, .ref a_p1_outer, .ref a_p1_neighbors, .ref a_p1_lengths, .int p1_cores, .int p1_districts, .int p1_tolerance, v_p1_hasPlan, .ref a_p1_plan])), (a_t_isPossible, .inl (k 2, 512, .inl y25_t_isPossible)), (a_p1_population, .inl (k 0, 12, .inl p1_population)), (a_p1_community, .inl (k 0, 12, .inl p1_community)), (a_p1_neighbors, .inl (k 0, 12, .inl p1_neighbors))]) (As := [.int y25_3]) (rest := [.int y25_3, .ref a_t_isPossible]) (n := 1) (ci := 8) (cq := (RX9, TX9, 12)) hTs ⟨hx, hb, hml, hown, hts⟩ (mX9_splitsCores l Ts hTs D k H.size a_p1 a_p1_population a_p1_area a_p1_community a_p1_outer a_p1_neighbors a_p1_lengths a_p1_plan p1_community p1_cores p1_units (.int p1_districts) v_p1_hasPlan (.int p1_tolerance) y25_3 q10 hqq10) u_ml_X0_115 u_im_X9_splitsCores u_se_X9_splitsCores u_in_X9 u_co_X9_splitsCores hd_X9_splitsCores ⟨Nat.le_of_ble_eq_true rfl, Nat.le_of_ble_eq_true rfl⟩ ⟨rfl, rfl⟩ hK hH hA (cut0 (isC := [1, 4]) rfl rfl rfl) rfl rfl rfl rfl hl.1 (Nat.le_of_ble_eq_true rfl) dX0_findSets_49 ⟨Nat.le_of_ble_eq_true rfl, Nat.le_of_ble_eq_true rfl⟩ (fun H locs hH => ?_)
            refine lv_if_ne (tgt := 67) hx hb dX0_findSets_52 (by decide) (fun c11 => ?_) (fun c11 => ?_)
            · replace h := dc_neg c11 h
              refine lv_iconst (v := 0) hx hb dX0_findSets_67 (by decide) ?_
              obtain ⟨g16, h⟩ := dc_need h
              refine gk_bast hx hb hK hH 2 rfl (dk_in g16) dX0_findSets_68 [(a_t, .inr (0, [.ref a_t_codes, .ref a_t_isPossible, .ref a_t_sets, .ref a_t_plan, .ref a_t_best, .ref a_t_tried, v_t_size, .int t_hasSets, v_t_hasPlans])), (a_p1, .inr (8, [.int p1_units, .ref a_p1_population, .ref a_p1_area, .ref a_p1_community, .ref a_p1_outer, .ref a_p1_neighbors, .ref a_p1_lengths, .int p1_cores, .int p1_districts, .int p1_tolerance, v_p1_hasPlan, .ref a_p1_plan])), (a_t_isPossible, .inl (k 2, 512, .inl (upd y25_t_isPossible y25_3.toNatClampNeg (vp_nar .boolean (0 : Int32))))), (a_p1_population, .inl (k 0, 12, .inl p1_population)), (a_p1_community, .inl (k 0, 12, .inl p1_community)), (a_p1_neighbors, .inl (k 0, 12, .inl p1_neighbors))] rfl (fun H locs hH => ?_)
              refine lv_iinc (v := (y25_3 + (1 : Int32))) (lv' := [(3, .int (y25_3 + (1 : Int32))), (0, .ref a_t), (1, .ref a_p1), (2, .int y25_2)]) hx hb dX0_findSets_69 hl (k := 3) rfl rfl (by decide) rfl (fun ls hl => ?_)
              refine lv_goto (tgt := 25) hx hb dX0_findSets_72 (by decide) ?_
              exact ih kf (y25_3 + (1 : Int32)) (upd y25_t_isPossible y25_3.toNatClampNeg (vp_nar .boolean (0 : Int32))) h kk H locs ls hH (lv_sub hl [1, 2, 3, 0] rfl)
            · replace h := dc_pos c11 h
              refine lv_aload_n hx hb dX0_findSets_55 rfl (lv_at hl 1 rfl) ?_
              refine lv_iload_n hx hb dX0_findSets_56 rfl (lv_at hl 3 rfl) ?_
              obtain ⟨q12, hqq12, h⟩ := dc_bind h
              refine gc_Vi (ws' := [(a_t, .inr (0, [.ref a_t_codes, .ref a_t_isPossible, .ref a_t_sets, .ref a_t_plan, .ref a_t_best, .ref a_t_tried, v_t_size, .int t_hasSets, v_t_hasPlans])), (a_p1, .inr (8, [.int p1_units, .ref a_p1_population, .ref a_p1_area, .ref a_p1_community, .ref a_p1_outer, .ref a_p1_neighbors, .ref a_p1_lengths, .int p1_cores, .int p1_districts, .int p1_tolerance, v_p1_hasPlan, .ref a_p1_plan])), (a_t_isPossible, .inl (k 2, 512, .inl y25_t_isPossible)), (a_p1_population, .inl (k 0, 12, .inl p1_population)), (a_p1_community, .inl (k 0, 12, .inl p1_community)), (a_p1_neighbors, .inl (k 0, 12, .inl p1_neighbors))]) (As := [.int y25_3]) (rest := [.int y25_3, .ref a_t_isPossible]) (n := 1) (ci := 8) (cq := (RX9, TX9, 12)) hTs ⟨hx, hb, hml, hown, hts⟩ (mX9_isContiguous l Ts hTs D k H.size a_p1 a_p1_population a_p1_area a_p1_community a_p1_outer a_p1_neighbors a_p1_lengths a_p1_plan p1_neighbors p1_units (.int p1_cores) (.int p1_districts) v_p1_hasPlan (.int p1_tolerance) y25_3 q12 hqq12) u_ml_X0_118 u_im_X9_isContiguous u_se_X9_isContiguous u_in_X9 u_co_X9_isContiguous hd_X9_isContiguous ⟨Nat.le_of_ble_eq_true rfl, Nat.le_of_ble_eq_true rfl⟩ ⟨rfl, rfl⟩ hK hH hA (cut0 (isC := [1, 5]) rfl rfl rfl) rfl rfl rfl rfl hl.1 (Nat.le_of_ble_eq_true rfl) dX0_findSets_57 ⟨Nat.le_of_ble_eq_true rfl, Nat.le_of_ble_eq_true rfl⟩ (fun H locs hH => ?_)
              refine lv_if_eq (tgt := 67) hx hb dX0_findSets_60 (by decide) (fun c13 => ?_) (fun c13 => ?_)
              · replace h := dc_pos c13 h
                refine lv_iconst (v := 0) hx hb dX0_findSets_67 (by decide) ?_
                obtain ⟨g14, h⟩ := dc_need h
                refine gk_bast hx hb hK hH 2 rfl (dk_in g14) dX0_findSets_68 [(a_t, .inr (0, [.ref a_t_codes, .ref a_t_isPossible, .ref a_t_sets, .ref a_t_plan, .ref a_t_best, .ref a_t_tried, v_t_size, .int t_hasSets, v_t_hasPlans])), (a_p1, .inr (8, [.int p1_units, .ref a_p1_population, .ref a_p1_area, .ref a_p1_community, .ref a_p1_outer, .ref a_p1_neighbors, .ref a_p1_lengths, .int p1_cores, .int p1_districts, .int p1_tolerance, v_p1_hasPlan, .ref a_p1_plan])), (a_t_isPossible, .inl (k 2, 512, .inl (upd y25_t_isPossible y25_3.toNatClampNeg (vp_nar .boolean (0 : Int32))))), (a_p1_population, .inl (k 0, 12, .inl p1_population)), (a_p1_community, .inl (k 0, 12, .inl p1_community)), (a_p1_neighbors, .inl (k 0, 12, .inl p1_neighbors))] rfl (fun H locs hH => ?_)
                refine lv_iinc (v := (y25_3 + (1 : Int32))) (lv' := [(3, .int (y25_3 + (1 : Int32))), (0, .ref a_t), (1, .ref a_p1), (2, .int y25_2)]) hx hb dX0_findSets_69 hl (k := 3) rfl rfl (by decide) rfl (fun ls hl => ?_)
                refine lv_goto (tgt := 25) hx hb dX0_findSets_72 (by decide) ?_
                exact ih kf (y25_3 + (1 : Int32)) (upd y25_t_isPossible y25_3.toNatClampNeg (vp_nar .boolean (0 : Int32))) h kk H locs ls hH (lv_sub hl [1, 2, 3, 0] rfl)
              · replace h := dc_neg c13 h
                refine lv_iconst (v := 1) hx hb dX0_findSets_63 (by decide) ?_
                refine lv_goto (tgt := 68) hx hb dX0_findSets_64 (by decide) ?_
                obtain ⟨g15, h⟩ := dc_need h
                refine gk_bast hx hb hK hH 2 rfl (dk_in g15) dX0_findSets_68 [(a_t, .inr (0, [.ref a_t_codes, .ref a_t_isPossible, .ref a_t_sets, .ref a_t_plan, .ref a_t_best, .ref a_t_tried, v_t_size, .int t_hasSets, v_t_hasPlans])), (a_p1, .inr (8, [.int p1_units, .ref a_p1_population, .ref a_p1_area, .ref a_p1_community, .ref a_p1_outer, .ref a_p1_neighbors, .ref a_p1_lengths, .int p1_cores, .int p1_districts, .int p1_tolerance, v_p1_hasPlan, .ref a_p1_plan])), (a_t_isPossible, .inl (k 2, 512, .inl (upd y25_t_isPossible y25_3.toNatClampNeg (vp_nar .boolean (1 : Int32))))), (a_p1_population, .inl (k 0, 12, .inl p1_population)), (a_p1_community, .inl (k 0, 12, .inl p1_community)), (a_p1_neighbors, .inl (k 0, 12, .inl p1_neighbors))] rfl (fun H locs hH => ?_)
                refine lv_iinc (v := (y25_3 + (1 : Int32))) (lv' := [(3, .int (y25_3 + (1 : Int32))), (0, .ref a_t), (1, .ref a_p1), (2, .int y25_2)]) hx hb dX0_findSets_69 hl (k := 3) rfl rfl (by decide) rfl (fun ls hl => ?_)
                refine lv_goto (tgt := 25) hx hb dX0_findSets_72 (by decide) ?_
                exact ih kf (y25_3 + (1 : Int32)) (upd y25_t_isPossible y25_3.toNatClampNeg (vp_nar .boolean (1 : Int32))) h kk H locs ls hH (lv_sub hl [1, 2, 3, 0] rfl)
  rw [fX0_findSets] at h
  refine lv_aload_n hx hb dX0_findSets_0 rfl (lv_at hl 0 rfl) ?_
  refine gk_get (ci := 0) (C := RX0) (T := TX0) (N := 9) hx hb hts u_ws_X0 hown hK hH 0 rfl rfl 7 (by decide) u_fl_X0_43 rfl dX0_findSets_1 ?_
  refine lv_if_eq (tgt := 8) hx hb dX0_findSets_4 (by decide) (fun c1 => ?_) (fun c1 => ?_)
  · replace h := dc_pos c1 h
    refine lv_aload_n hx hb dX0_findSets_8 rfl (lv_at hl 1 rfl) ?_
    obtain ⟨q2, hqq2, h⟩ := dc_bind h
    refine gc_Vi (ws' := [(a_t, .inr (0, [.ref a_t_codes, .ref a_t_isPossible, .ref a_t_sets, .ref a_t_plan, .ref a_t_best, .ref a_t_tried, v_t_size, .int t_hasSets, v_t_hasPlans])), (a_p1, .inr (8, [.int p1_units, .ref a_p1_population, .ref a_p1_area, .ref a_p1_community, .ref a_p1_outer, .ref a_p1_neighbors, .ref a_p1_lengths, .int p1_cores, .int p1_districts, .int p1_tolerance, v_p1_hasPlan, .ref a_p1_plan])), (a_t_isPossible, .inl (k 2, 512, .inl t_isPossible)), (a_p1_population, .inl (k 0, 12, .inl p1_population)), (a_p1_community, .inl (k 0, 12, .inl p1_community)), (a_p1_neighbors, .inl (k 0, 12, .inl p1_neighbors))]) (As := []) (rest := []) (n := 0) (ci := 8) (cq := (RX9, TX9, 12)) hTs ⟨hx, hb, hml, hown, hts⟩ (mX9_allUnits l Ts hTs D k H.size a_p1 a_p1_population a_p1_area a_p1_community a_p1_outer a_p1_neighbors a_p1_lengths a_p1_plan p1_units (.int p1_cores) (.int p1_districts) v_p1_hasPlan (.int p1_tolerance) q2 hqq2) u_ml_X0_69 u_im_X9_allUnits u_se_X9_allUnits u_in_X9 u_co_X9_allUnits hd_X9_allUnits ⟨Nat.le_of_ble_eq_true rfl, Nat.le_of_ble_eq_true rfl⟩ ⟨rfl, rfl⟩ hK hH hA (cut0 (isC := [1]) rfl rfl rfl) rfl rfl rfl rfl hl.1 (Nat.le_of_ble_eq_true rfl) dX0_findSets_9 ⟨Nat.le_of_ble_eq_true rfl, Nat.le_of_ble_eq_true rfl⟩ (fun H locs hH => ?_)
    refine lv_aload_n hx hb dX0_findSets_12 rfl (lv_at hl 0 rfl) ?_
    refine gk_get (ci := 0) (C := RX0) (T := TX0) (N := 9) hx hb hts u_ws_X0 hown hK hH 0 rfl rfl 1 (by decide) u_fl_X0_15 rfl dX0_findSets_13 ?_
    refine gk_alen hx hb hK hH 2 2 (v := (512 : Int32)) rfl rfl rfl dX0_findSets_16 ?_
    refine lv_iconst (v := 1) hx hb dX0_findSets_17 (by decide) ?_
    refine lv_isub hx hb dX0_findSets_18 ?_
    refine va_mmin hx hb (hml.trans hl.1.symm) hown (hts _ u_ml_X0_105) (hts _ u_st_J9_min_7cf53) (hts _ u_in_J9) (hts _ u_co_Math_min) (Nat.le_of_ble_eq_true rfl) (Nat.le_of_ble_eq_true rfl) (Nat.le_of_ble_eq_true rfl) (Nat.le_of_ble_eq_true rfl) dX0_findSets_19 ?_
    refine lv_topi (fun n3 en3 => ?_)
    replace h := dc_at en3 h
    refine lv_istore_n (lv' := [(2, .int n3), (0, .ref a_t), (1, .ref a_p1)]) hx hb dX0_findSets_22 rfl hl (by decide) rfl (fun ls hl => ?_)
    refine lv_iconst (v := 0) hx hb dX0_findSets_23 (by decide) ?_
    refine lv_istore_n (lv' := [(3, .int (0 : Int32)), (2, .int n3), (0, .ref a_t), (1, .ref a_p1)]) hx hb dX0_findSets_24 rfl hl (by decide) rfl (fun ls hl => ?_)
    refine L25 n3 _ _ (0 : Int32) t_isPossible h (fun z25_t_isPossible H locs ls h hH hl => ?_) H locs ls hH (lv_sub hl [2, 3, 1, 0] rfl)
    refine lv_aload_n hx hb dX0_findSets_75 rfl (lv_at hl 0 rfl) ?_
    refine lv_iconst (v := 1) hx hb dX0_findSets_76 (by decide) ?_
    refine gk_put (ci := 0) (C := RX0) (T := TX0) (N := 9) hx hb hts u_ws_X0 tyX0_ok nmX0 hown hK hH 0 rfl rfl 7 (by decide) u_fl_X0_43 rfl rfl rfl (Nat.le_of_ble_eq_true rfl) dX0_findSets_77 [(a_t, .inr (0, [.ref a_t_codes, .ref a_t_isPossible, .ref a_t_sets, .ref a_t_plan, .ref a_t_best, .ref a_t_tried, v_t_size, .int (1 : Int32), v_t_hasPlans])), (a_p1, .inr (8, [.int p1_units, .ref a_p1_population, .ref a_p1_area, .ref a_p1_community, .ref a_p1_outer, .ref a_p1_neighbors, .ref a_p1_lengths, .int p1_cores, .int p1_districts, .int p1_tolerance, v_p1_hasPlan, .ref a_p1_plan])), (a_t_isPossible, .inl (k 2, 512, .inl z25_t_isPossible)), (a_p1_population, .inl (k 0, 12, .inl p1_population)), (a_p1_community, .inl (k 0, 12, .inl p1_community)), (a_p1_neighbors, .inl (k 0, 12, .inl p1_neighbors))] rfl (fun H locs hH => ?_)
    have h := Option.some.inj h
    subst h
    exact ge_v hx hb hr hlocks hQ hK hH hAe dX0_findSets_80
  · replace h := dc_neg c1 h
    have h := Option.some.inj h
    subst h
    exact ge_v hx hb hr hlocks hQ hK hH hAe dX0_findSets_7
theorem hd_J7_fill_53178 : yJ7_fill_53178.cls ≠ "java/lang/invoke/MethodHandle" ∧ yJ7_fill_53178.cls ≠ "java/lang/invoke/VarHandle" ∧ (parseMethodDescriptor yJ7_fill_53178.desc).map (fun d => d.parameters.length) = some 2 := by decide +kernel
set_option maxHeartbeats 4000000 in
set_option maxRecDepth 100000 in
theorem mJ7_fill_53178 (l : Launch) (Ts : List Cond) (hTs : ∀ w, w ∈ Ts ↔ w ∈ uT) (D : va_G) (k : Nat → ClassId) (sz : Nat) (len0 : Nat) (a_p0 : Nat) (p0 : Nat → Int32) (x1 : Int32) (r : (Nat → Int32)) (h : fJ7_fill_53178 len0 p0 x1 = some r) : Met l yJ7_fill_53178 (Cond.code yJ7_fill_53178 cJ7_fill_53178 4 none :: Ts) ({ frames := 0, cells := 0, slots := 0, locals := 0 } : Room) (preM D k [.ref a_p0, .int x1] [(a_p0, .inl (k 0, len0, .inl p0))] sz) (postV D k [(a_p0, .inl (k 0, len0, .inl p0))] [(a_p0, .inl (k 0, len0, .inl r))] sz) 0 0 (va_A [(a_p0, .inl (k 0, len0, .inl p0))] sz) := by
  refine Met.ofW (cc := cJ7_fill_53178) (maxL := 4) (ret := none) (by decide) rfl ?_
  intro p e s m args below meth c s₁ B hml hv
  obtain ⟨rfl, hsz, hP, hK, hD0⟩ := hv
  have hx := B.exec
  have hb := B.bytes
  have hr := B.returns
  have hts0 := atoms_spec (ws := (Cond.code yJ7_fill_53178 cJ7_fill_53178 4 none :: Ts)) B.pre
  have hts : ∀ w ∈ uT, w.before _ s = true := fun w h => hts0 w (List.mem_cons_of_mem _ ((hTs w).mpr h))
  clear hts0
  have hown : s.vm.findClass RJ7 = some m.cls := findClass_of_methodNamed B.named
  have hlocks := B.notSynchronized
  subst hsz
  have hD := hD0.self (sz := s.heap.size)
  generalize hAe : va_A [(a_p0, .inl (k 0, len0, .inl p0))] s.heap.size = A at hD ⊢
  have hA : ∀ q : Nat, s.heap.size ≤ q → A q := fun q h => by rw [← hAe]; exact Or.inr h
  have hH : HOK D A s.heap [(a_p0, .inl (k 0, len0, .inl p0))] s.heap [] := ⟨hP, hD, va_S.rf⟩
  have hl := lv_entry ([.ref a_p0, .int x1]) (n := 4) (Nat.le_of_ble_eq_true rfl)
  rw [lg_entry_eq]
  generalize (lg_sl ([.ref a_p0, .int x1]) ++ List.replicate (4 - (lg_sl ([.ref a_p0, .int x1])).length) Slot.unset).toArray = ls at hl ⊢
  have hl : lv_has ls 4 [(0, .ref a_p0), (1, .int x1)] := hl
  generalize hQ : MQ below (postV D k [(a_p0, .inl (k 0, len0, .inl p0))] [(a_p0, .inl (k 0, len0, .inl r))] s.heap.size) (List.toArray [.ref a_p0, .int x1]) s 0 0 A = Q
  clear hP hD hD0
  suffices K : ∀ (H : Heap) (locs : List Loc), HOK D A s.heap [(a_p0, .inl (k 0, len0, .inl p0))] H locs → W p l e ({ frames := 0, cells := 0, slots := 0, locals := 0 } : Room) s m (List.toArray [.ref a_p0, .int x1]) below meth c H locs 0 0 Q (F0 m 0 ls []) from K s.heap [] hH
  intro H locs hH
  have L5 : ∀ (y5_3 : Int32) (n : Nat), ∀ (kf : (Nat → Int32) → Option ((Nat → Int32))) (y5_2 : Int32) (y5_p0 : Nat → Int32), fJ7_fill_53178_L5 len0 x1 y5_3 n kf y5_2 y5_p0 = some r → (∀ (z5_p0 : Nat → Int32) (H : Heap) (locs : List Loc) (ls : Array Slot), kf z5_p0 = some r → HOK D A s.heap [(a_p0, .inl (k 0, len0, .inl z5_p0))] H locs → lv_has ls 4 [] → W p l e ({ frames := 0, cells := 0, slots := 0, locals := 0 } : Room) s m (List.toArray [.ref a_p0, .int x1]) below meth c H locs 0 0 Q (F0 m 20 ls [])) → ∀ (H : Heap) (locs : List Loc) (ls : Array Slot), HOK D A s.heap [(a_p0, .inl (k 0, len0, .inl y5_p0))] H locs → lv_has ls 4 [(0, .ref a_p0), (1, .int x1), (2, .int y5_2), (3, .int y5_3)] → W p l e ({ frames := 0, cells := 0, slots := 0, locals := 0 } : Room) s m (List.toArray [.ref a_p0, .int x1]) below meth c H locs 0 0 Q (F0 m 5 ls []) := by
    intro y5_3 n
    induction n with
    | zero =>
      intro kf y5_2 y5_p0 h
      exact absurd h (by rw [fJ7_fill_53178_L5]; exact fun q => by cases q)
    | succ n ih =>
      intro kf y5_2 y5_p0 h kk H locs ls hH hl
      rw [fJ7_fill_53178_L5] at h
      refine lv_iload_n hx hb dJ7_fill_53178_5 rfl (lv_at hl 2 rfl) ?_
      refine lv_iload_n hx hb dJ7_fill_53178_6 rfl (lv_at hl 3 rfl) ?_
      refine lv_icmp_ge (tgt := 20) hx hb dJ7_fill_53178_7 (by decide) (fun c1 => ?_) (fun c1 => ?_)
      · replace h := dc_pos c1 h
        exact kk y5_p0 H locs ls h hH (lv_sub hl [] rfl)
      · replace h := dc_neg c1 h
        refine lv_aload_n hx hb dJ7_fill_53178_10 rfl (lv_at hl 0 rfl) ?_
        refine lv_iload_n hx hb dJ7_fill_53178_11 rfl (lv_at hl 2 rfl) ?_
        refine lv_iload_n hx hb dJ7_fill_53178_12 rfl (lv_at hl 1 rfl) ?_
        obtain ⟨g2, h⟩ := dc_need h
        refine gk_iast hx hb hK hH 0 rfl (dk_in g2) dJ7_fill_53178_13 [(a_p0, .inl (k 0, len0, .inl (upd y5_p0 y5_2.toNatClampNeg x1)))] rfl (fun H locs hH => ?_)
        refine lv_iinc (v := (y5_2 + (1 : Int32))) (lv' := [(2, .int (y5_2 + (1 : Int32))), (0, .ref a_p0), (1, .int x1), (3, .int y5_3)]) hx hb dJ7_fill_53178_14 hl (k := 2) rfl rfl (by decide) rfl (fun ls hl => ?_)
        refine lv_goto (tgt := 5) hx hb dJ7_fill_53178_17 (by decide) ?_
        exact ih kf (y5_2 + (1 : Int32)) (upd y5_p0 y5_2.toNatClampNeg x1) h kk H locs ls hH (lv_sub hl [1, 2, 0, 3] rfl)
  rw [fJ7_fill_53178] at h
  refine lv_iconst (v := 0) hx hb dJ7_fill_53178_0 (by decide) ?_
  refine lv_istore_n (lv' := [(2, .int (0 : Int32)), (0, .ref a_p0), (1, .int x1)]) hx hb dJ7_fill_53178_1 rfl hl (by decide) rfl (fun ls hl => ?_)
  refine lv_aload_n hx hb dJ7_fill_53178_2 rfl (lv_at hl 1 rfl) ?_
  refine gk_alen hx hb hK hH 0 0 (v := (Int32.ofNat len0)) rfl rfl rfl dJ7_fill_53178_3 ?_
  refine lv_istore_n (lv' := [(3, .int (Int32.ofNat len0)), (2, .int (0 : Int32)), (0, .ref a_p0), (1, .int x1)]) hx hb dJ7_fill_53178_4 rfl hl (by decide) rfl (fun ls hl => ?_)
  refine L5 (Int32.ofNat len0) _ _ (0 : Int32) p0 h (fun z5_p0 H locs ls h hH hl => ?_) H locs ls hH (lv_sub hl [2, 3, 1, 0] rfl)
  have h := Option.some.inj h
  subst h
  exact ge_v hx hb hr hlocks hQ hK hH hAe dJ7_fill_53178_20
theorem hd_X0_keepIfLawful : yX0_keepIfLawful.cls = RX0 ∧ yX0_keepIfLawful.cls ≠ "java/lang/invoke/MethodHandle" ∧ yX0_keepIfLawful.cls ≠ "java/lang/invoke/VarHandle" ∧ (parseMethodDescriptor yX0_keepIfLawful.desc).map (fun d => d.parameters.length) = some 3 := by decide +kernel
set_option maxHeartbeats 4000000 in
set_option maxRecDepth 100000 in
theorem mX0_keepIfLawful (l : Launch) (Ts : List Cond) (hTs : ∀ w, w ∈ Ts ↔ w ∈ uT) (D : va_G) (k : Nat → ClassId) (sz : Nat) (a_t : Nat) (a_t_codes : Nat) (a_t_isPossible : Nat) (a_t_sets : Nat) (a_t_plan : Nat) (a_t_best : Nat) (a_t_tried : Nat) (t_codes : Nat → Int32) (t_isPossible : Nat → Int32) (t_sets : Nat → Int32) (t_size : Int32) (v_t_hasPlans : Value) (v_t_hasSets : Value) (x1 : Int32) (x2 : Int32) (x3 : Int32) (r : (Nat → Int32) × Int32) (h : fX0_keepIfLawful t_codes t_isPossible t_sets t_size x1 x2 x3 = some r) : Met l yX0_keepIfLawful (Cond.code yX0_keepIfLawful cX0_keepIfLawful 5 none :: Ts) ({ frames := 0, cells := 0, slots := 0, locals := 0 } : Room) (preM D k [.ref a_t, .int x1, .int x2, .int x3] [(a_t, .inr (0, [.ref a_t_codes, .ref a_t_isPossible, .ref a_t_sets, .ref a_t_plan, .ref a_t_best, .ref a_t_tried, .int t_size, v_t_hasSets, v_t_hasPlans])), (a_t_sets, .inl (k 0, 4, .inl t_sets)), (a_t_isPossible, .inl (k 2, 512, .inl t_isPossible)), (a_t_codes, .inl (k 0, 7770, .inl t_codes))] sz) (postV D k [(a_t, .inr (0, [.ref a_t_codes, .ref a_t_isPossible, .ref a_t_sets, .ref a_t_plan, .ref a_t_best, .ref a_t_tried, .int t_size, v_t_hasSets, v_t_hasPlans])), (a_t_sets, .inl (k 0, 4, .inl t_sets)), (a_t_isPossible, .inl (k 2, 512, .inl t_isPossible)), (a_t_codes, .inl (k 0, 7770, .inl t_codes))] [(a_t, .inr (0, [.ref a_t_codes, .ref a_t_isPossible, .ref a_t_sets, .ref a_t_plan, .ref a_t_best, .ref a_t_tried, .int r.2, v_t_hasSets, v_t_hasPlans])), (a_t_sets, .inl (k 0, 4, .inl t_sets)), (a_t_isPossible, .inl (k 2, 512, .inl t_isPossible)), (a_t_codes, .inl (k 0, 7770, .inl r.1))] sz) 0 0 (va_A [(a_t, .inr (0, [.ref a_t_codes, .ref a_t_isPossible, .ref a_t_sets, .ref a_t_plan, .ref a_t_best, .ref a_t_tried, .int t_size, v_t_hasSets, v_t_hasPlans])), (a_t_sets, .inl (k 0, 4, .inl t_sets)), (a_t_isPossible, .inl (k 2, 512, .inl t_isPossible)), (a_t_codes, .inl (k 0, 7770, .inl t_codes))] sz) := by
  refine Met.ofW (cc := cX0_keepIfLawful) (maxL := 5) (ret := none) (by decide) rfl ?_
  intro p e s m args below meth c s₁ B hml hv
  obtain ⟨rfl, hsz, hP, hK, hD0⟩ := hv
  have hx := B.exec
  have hb := B.bytes
  have hr := B.returns
  have hts0 := atoms_spec (ws := (Cond.code yX0_keepIfLawful cX0_keepIfLawful 5 none :: Ts)) B.pre
  have hts : ∀ w ∈ uT, w.before _ s = true := fun w h => hts0 w (List.mem_cons_of_mem _ ((hTs w).mpr h))
  clear hts0
  have hown : s.vm.findClass RX0 = some m.cls := findClass_of_methodNamed B.named
  have hlocks := B.notSynchronized
  subst hsz
  have hD := hD0.self (sz := s.heap.size)
  generalize hAe : va_A [(a_t, .inr (0, [.ref a_t_codes, .ref a_t_isPossible, .ref a_t_sets, .ref a_t_plan, .ref a_t_best, .ref a_t_tried, .int t_size, v_t_hasSets, v_t_hasPlans])), (a_t_sets, .inl (k 0, 4, .inl t_sets)), (a_t_isPossible, .inl (k 2, 512, .inl t_isPossible)), (a_t_codes, .inl (k 0, 7770, .inl t_codes))] s.heap.size = A at hD ⊢
  have hA : ∀ q : Nat, s.heap.size ≤ q → A q := fun q h => by rw [← hAe]; exact Or.inr h
  have hH : HOK D A s.heap [(a_t, .inr (0, [.ref a_t_codes, .ref a_t_isPossible, .ref a_t_sets, .ref a_t_plan, .ref a_t_best, .ref a_t_tried, .int t_size, v_t_hasSets, v_t_hasPlans])), (a_t_sets, .inl (k 0, 4, .inl t_sets)), (a_t_isPossible, .inl (k 2, 512, .inl t_isPossible)), (a_t_codes, .inl (k 0, 7770, .inl t_codes))] s.heap [] := ⟨hP, hD, va_S.rf⟩
  have hl := lv_entry ([.ref a_t, .int x1, .int x2, .int x3]) (n := 5) (Nat.le_of_ble_eq_true rfl)
  rw [lg_entry_eq]
  generalize (lg_sl ([.ref a_t, .int x1, .int x2, .int x3]) ++ List.replicate (5 - (lg_sl ([.ref a_t, .int x1, .int x2, .int x3])).length) Slot.unset).toArray = ls at hl ⊢
  have hl : lv_has ls 5 [(0, .ref a_t), (1, .int x1), (2, .int x2), (3, .int x3)] := hl
  generalize hQ : MQ below (postV D k [(a_t, .inr (0, [.ref a_t_codes, .ref a_t_isPossible, .ref a_t_sets, .ref a_t_plan, .ref a_t_best, .ref a_t_tried, .int t_size, v_t_hasSets, v_t_hasPlans])), (a_t_sets, .inl (k 0, 4, .inl t_sets)), (a_t_isPossible, .inl (k 2, 512, .inl t_isPossible)), (a_t_codes, .inl (k 0, 7770, .inl t_codes))] [(a_t, .inr (0, [.ref a_t_codes, .ref a_t_isPossible, .ref a_t_sets, .ref a_t_plan, .ref a_t_best, .ref a_t_tried, .int r.2, v_t_hasSets, v_t_hasPlans])), (a_t_sets, .inl (k 0, 4, .inl t_sets)), (a_t_isPossible, .inl (k 2, 512, .inl t_isPossible)), (a_t_codes, .inl (k 0, 7770, .inl r.1))] s.heap.size) (List.toArray [.ref a_t, .int x1, .int x2, .int x3]) s 0 0 A = Q
  clear hP hD hD0
  suffices K : ∀ (H : Heap) (locs : List Loc), HOK D A s.heap [(a_t, .inr (0, [.ref a_t_codes, .ref a_t_isPossible, .ref a_t_sets, .ref a_t_plan, .ref a_t_best, .ref a_t_tried, .int t_size, v_t_hasSets, v_t_hasPlans])), (a_t_sets, .inl (k 0, 4, .inl t_sets)), (a_t_isPossible, .inl (k 2, 512, .inl t_isPossible)), (a_t_codes, .inl (k 0, 7770, .inl t_codes))] H locs → W p l e ({ frames := 0, cells := 0, slots := 0, locals := 0 } : Room) s m (List.toArray [.ref a_t, .int x1, .int x2, .int x3]) below meth c H locs 0 0 Q (F0 m 0 ls []) from K s.heap [] hH
  intro H locs hH
  have L19 : ∀ (n : Nat), ∀ (kf : Option ((Nat → Int32) × Int32)) (y19_4 : Int32), fX0_keepIfLawful_L19 t_codes t_isPossible t_sets t_size x1 n kf y19_4 = some r → (∀ (H : Heap) (locs : List Loc) (ls : Array Slot), kf = some r → HOK D A s.heap [(a_t, .inr (0, [.ref a_t_codes, .ref a_t_isPossible, .ref a_t_sets, .ref a_t_plan, .ref a_t_best, .ref a_t_tried, .int t_size, v_t_hasSets, v_t_hasPlans])), (a_t_sets, .inl (k 0, 4, .inl t_sets)), (a_t_isPossible, .inl (k 2, 512, .inl t_isPossible)), (a_t_codes, .inl (k 0, 7770, .inl t_codes))] H locs → lv_has ls 5 [(0, .ref a_t), (3, .int x3)] → W p l e ({ frames := 0, cells := 0, slots := 0, locals := 0 } : Room) s m (List.toArray [.ref a_t, .int x1, .int x2, .int x3]) below meth c H locs 0 0 Q (F0 m 47 ls [])) → ∀ (H : Heap) (locs : List Loc) (ls : Array Slot), HOK D A s.heap [(a_t, .inr (0, [.ref a_t_codes, .ref a_t_isPossible, .ref a_t_sets, .ref a_t_plan, .ref a_t_best, .ref a_t_tried, .int t_size, v_t_hasSets, v_t_hasPlans])), (a_t_sets, .inl (k 0, 4, .inl t_sets)), (a_t_isPossible, .inl (k 2, 512, .inl t_isPossible)), (a_t_codes, .inl (k 0, 7770, .inl t_codes))] H locs → lv_has ls 5 [(0, .ref a_t), (1, .int x1), (3, .int x3), (4, .int y19_4)] → W p l e ({ frames := 0, cells := 0, slots := 0, locals := 0 } : Room) s m (List.toArray [.ref a_t, .int x1, .int x2, .int x3]) below meth c H locs 0 0 Q (F0 m 19 ls []) := by
    intro n
    induction n with
    | zero =>
      intro kf y19_4 h
      exact absurd h (by rw [fX0_keepIfLawful_L19]; exact fun q => by cases q)
    | succ n ih =>
      intro kf y19_4 h kk H locs ls hH hl
      rw [fX0_keepIfLawful_L19] at h
      refine lv_iload hx hb dX0_keepIfLawful_19 (lv_at hl 3 rfl) ?_
      refine lv_iload_n hx hb dX0_keepIfLawful_21 rfl (lv_at hl 1 rfl) ?_
      refine lv_icmp_ge (tgt := 47) hx hb dX0_keepIfLawful_22 (by decide) (fun c3 => ?_) (fun c3 => ?_)
      · replace h := dc_pos c3 h
        exact kk  H locs ls h hH (lv_sub hl [0, 2] rfl)
      · replace h := dc_neg c3 h
        refine lv_aload_n hx hb dX0_keepIfLawful_25 rfl (lv_at hl 0 rfl) ?_
        refine gk_get (ci := 0) (C := RX0) (T := TX0) (N := 9) hx hb hts u_ws_X0 hown hK hH 0 rfl rfl 1 (by decide) u_fl_X0_15 rfl dX0_keepIfLawful_26 ?_
        refine lv_aload_n hx hb dX0_keepIfLawful_29 rfl (lv_at hl 0 rfl) ?_
        refine gk_get (ci := 0) (C := RX0) (T := TX0) (N := 9) hx hb hts u_ws_X0 hown hK hH 0 rfl rfl 2 (by decide) u_fl_X0_19 rfl dX0_keepIfLawful_30 ?_
        refine lv_iload hx hb dX0_keepIfLawful_33 (lv_at hl 3 rfl) ?_
        obtain ⟨g4, h⟩ := dc_need h
        refine gk_iald hx hb hK hH 1 rfl (dk_in g4) dX0_keepIfLawful_35 ?_
        obtain ⟨g5, h⟩ := dc_need h
        refine gk_bald hx hb hK hH 2 rfl (dk_in g5) dX0_keepIfLawful_36 ?_
        refine lv_if_ne (tgt := 41) hx hb dX0_keepIfLawful_37 (by decide) (fun c6 => ?_) (fun c6 => ?_)
        · replace h := dc_neg c6 h
          refine lv_iinc (v := (y19_4 + (1 : Int32))) (lv' := [(4, .int (y19_4 + (1 : Int32))), (0, .ref a_t), (1, .int x1), (3, .int x3)]) hx hb dX0_keepIfLawful_41 hl (k := 3) rfl rfl (by decide) rfl (fun ls hl => ?_)
          refine lv_goto (tgt := 19) hx hb dX0_keepIfLawful_44 (by decide) ?_
          exact ih kf (y19_4 + (1 : Int32)) h kk H locs ls hH (lv_sub hl [1, 2, 3, 0] rfl)
        · replace h := dc_pos c6 h
          have h := Option.some.inj h
          subst h
          exact ge_v hx hb hr hlocks hQ hK hH hAe dX0_keepIfLawful_40
  rw [fX0_keepIfLawful] at h
  refine lv_iload_n hx hb dX0_keepIfLawful_0 rfl (lv_at hl 2 rfl) ?_
  refine lv_iload_n hx hb dX0_keepIfLawful_1 rfl (lv_at hl 1 rfl) ?_
  refine lv_icmp_lt (tgt := 15) hx hb dX0_keepIfLawful_2 (by decide) (fun c1 => ?_) (fun c1 => ?_)
  · replace h := dc_pos c1 h
    have h := Option.some.inj h
    subst h
    exact ge_v hx hb hr hlocks hQ hK hH hAe dX0_keepIfLawful_15
  · replace h := dc_neg c1 h
    refine lv_aload_n hx hb dX0_keepIfLawful_5 rfl (lv_at hl 0 rfl) ?_
    refine gk_get (ci := 0) (C := RX0) (T := TX0) (N := 9) hx hb hts u_ws_X0 hown hK hH 0 rfl rfl 6 (by decide) u_fl_X0_39 rfl dX0_keepIfLawful_6 ?_
    refine lv_sipush (v := 7770) hx hb dX0_keepIfLawful_9 (by decide) ?_
    refine lv_icmp_lt (tgt := 16) hx hb dX0_keepIfLawful_12 (by decide) (fun c2 => ?_) (fun c2 => ?_)
    · replace h := dc_pos c2 h
      refine lv_iconst (v := 0) hx hb dX0_keepIfLawful_16 (by decide) ?_
      refine lv_istore (lv' := [(4, .int (0 : Int32)), (0, .ref a_t), (1, .int x1), (2, .int x2), (3, .int x3)]) hx hb dX0_keepIfLawful_17 hl (by decide) rfl (fun ls hl => ?_)
      refine L19 _ _ (0 : Int32) h (fun  H locs ls h hH hl => ?_) H locs ls hH (lv_sub hl [1, 2, 4, 0] rfl)
      refine lv_aload_n hx hb dX0_keepIfLawful_47 rfl (lv_at hl 0 rfl) ?_
      refine gk_get (ci := 0) (C := RX0) (T := TX0) (N := 9) hx hb hts u_ws_X0 hown hK hH 0 rfl rfl 0 (by decide) u_fl_X0_9 rfl dX0_keepIfLawful_48 ?_
      refine lv_aload_n hx hb dX0_keepIfLawful_51 rfl (lv_at hl 0 rfl) ?_
      refine gk_get (ci := 0) (C := RX0) (T := TX0) (N := 9) hx hb hts u_ws_X0 hown hK hH 0 rfl rfl 6 (by decide) u_fl_X0_39 rfl dX0_keepIfLawful_52 ?_
      refine lv_iload_n hx hb dX0_keepIfLawful_55 rfl (lv_at hl 1 rfl) ?_
      obtain ⟨g7, h⟩ := dc_need h
      refine gk_iast hx hb hK hH 3 rfl (dk_in g7) dX0_keepIfLawful_56 [(a_t, .inr (0, [.ref a_t_codes, .ref a_t_isPossible, .ref a_t_sets, .ref a_t_plan, .ref a_t_best, .ref a_t_tried, .int t_size, v_t_hasSets, v_t_hasPlans])), (a_t_sets, .inl (k 0, 4, .inl t_sets)), (a_t_isPossible, .inl (k 2, 512, .inl t_isPossible)), (a_t_codes, .inl (k 0, 7770, .inl (upd t_codes t_size.toNatClampNeg x3)))] rfl (fun H locs hH => ?_)
      refine lv_aload_n hx hb dX0_keepIfLawful_57 rfl (lv_at hl 0 rfl) ?_
      refine lv_dup hx hb dX0_keepIfLawful_58 rfl ?_
      refine gk_get (ci := 0) (C := RX0) (T := TX0) (N := 9) hx hb hts u_ws_X0 hown hK hH 0 rfl rfl 6 (by decide) u_fl_X0_39 rfl dX0_keepIfLawful_59 ?_
      refine lv_iconst (v := 1) hx hb dX0_keepIfLawful_62 (by decide) ?_
      refine lv_iadd hx hb dX0_keepIfLawful_63 ?_
      refine gk_put (ci := 0) (C := RX0) (T := TX0) (N := 9) hx hb hts u_ws_X0 tyX0_ok nmX0 hown hK hH 0 rfl rfl 6 (by decide) u_fl_X0_39 rfl rfl rfl (Nat.le_of_ble_eq_true rfl) dX0_keepIfLawful_64 [(a_t, .inr (0, [.ref a_t_codes, .ref a_t_isPossible, .ref a_t_sets, .ref a_t_plan, .ref a_t_best, .ref a_t_tried, .int (t_size + (1 : Int32)), v_t_hasSets, v_t_hasPlans])), (a_t_sets, .inl (k 0, 4, .inl t_sets)), (a_t_isPossible, .inl (k 2, 512, .inl t_isPossible)), (a_t_codes, .inl (k 0, 7770, .inl (upd t_codes t_size.toNatClampNeg x3)))] rfl (fun H locs hH => ?_)
      have h := Option.some.inj h
      subst h
      exact ge_v hx hb hr hlocks hQ hK hH hAe dX0_keepIfLawful_67
    · replace h := dc_neg c2 h
      have h := Option.some.inj h
      subst h
      exact ge_v hx hb hr hlocks hQ hK hH hAe dX0_keepIfLawful_15
theorem hd_X0_listFrom : yX0_listFrom.cls ≠ "java/lang/invoke/MethodHandle" ∧ yX0_listFrom.cls ≠ "java/lang/invoke/VarHandle" ∧ (parseMethodDescriptor yX0_listFrom.desc).map (fun d => d.parameters.length) = some 5 := by decide +kernel
set_option maxHeartbeats 4000000 in
set_option maxRecDepth 100000 in
theorem mX0_listFrom (l : Launch) (Ts : List Cond) (hTs : ∀ w, w ∈ Ts ↔ w ∈ uT)  : ∀ (dd : Nat) (D : va_G) (k : Nat → ClassId) (sz : Nat) (a_p0 : Nat) (a_p1 : Nat) (a_p1_population : Nat) (a_p1_area : Nat) (a_p1_community : Nat) (a_p1_outer : Nat) (a_p1_neighbors : Nat) (a_p1_lengths : Nat) (a_p1_plan : Nat) (a_p0_codes : Nat) (a_p0_isPossible : Nat) (a_p0_sets : Nat) (a_p0_plan : Nat) (a_p0_best : Nat) (a_p0_tried : Nat) (p0_codes : Nat → Int32) (p0_isPossible : Nat → Int32) (p0_sets : Nat → Int32) (p0_size : Int32) (p1_districts : Int32) (p1_units : Int32) (v_p0_hasPlans : Value) (v_p0_hasSets : Value) (v_p1_cores : Value) (v_p1_hasPlan : Value) (v_p1_tolerance : Value) (x2 : Int32) (x3 : Int32) (x4 : Int32) (r : (Nat → Int32) × (Nat → Int32) × Int32) (h : fX0_listFrom dd p0_codes p0_isPossible p0_sets p0_size p1_districts p1_units x2 x3 x4 = some r), Met l yX0_listFrom (Cond.code yX0_listFrom cX0_listFrom 7 none :: Ts) ({ frames := 1 + 2 * dd, cells := 0, slots := 0, locals := 64 + 64 * dd } : Room) (preM D k [.ref a_p0, .ref a_p1, .int x2, .int x3, .int x4] [(a_p1, .inr (8, [.int p1_units, .ref a_p1_population, .ref a_p1_area, .ref a_p1_community, .ref a_p1_outer, .ref a_p1_neighbors, .ref a_p1_lengths, v_p1_cores, .int p1_districts, v_p1_tolerance, v_p1_hasPlan, .ref a_p1_plan])), (a_p0, .inr (0, [.ref a_p0_codes, .ref a_p0_isPossible, .ref a_p0_sets, .ref a_p0_plan, .ref a_p0_best, .ref a_p0_tried, .int p0_size, v_p0_hasSets, v_p0_hasPlans])), (a_p0_sets, .inl (k 0, 4, .inl p0_sets)), (a_p0_isPossible, .inl (k 2, 512, .inl p0_isPossible)), (a_p0_codes, .inl (k 0, 7770, .inl p0_codes))] sz) (postV D k [(a_p1, .inr (8, [.int p1_units, .ref a_p1_population, .ref a_p1_area, .ref a_p1_community, .ref a_p1_outer, .ref a_p1_neighbors, .ref a_p1_lengths, v_p1_cores, .int p1_districts, v_p1_tolerance, v_p1_hasPlan, .ref a_p1_plan])), (a_p0, .inr (0, [.ref a_p0_codes, .ref a_p0_isPossible, .ref a_p0_sets, .ref a_p0_plan, .ref a_p0_best, .ref a_p0_tried, .int p0_size, v_p0_hasSets, v_p0_hasPlans])), (a_p0_sets, .inl (k 0, 4, .inl p0_sets)), (a_p0_isPossible, .inl (k 2, 512, .inl p0_isPossible)), (a_p0_codes, .inl (k 0, 7770, .inl p0_codes))] [(a_p1, .inr (8, [.int p1_units, .ref a_p1_population, .ref a_p1_area, .ref a_p1_community, .ref a_p1_outer, .ref a_p1_neighbors, .ref a_p1_lengths, v_p1_cores, .int p1_districts, v_p1_tolerance, v_p1_hasPlan, .ref a_p1_plan])), (a_p0, .inr (0, [.ref a_p0_codes, .ref a_p0_isPossible, .ref a_p0_sets, .ref a_p0_plan, .ref a_p0_best, .ref a_p0_tried, .int r.2.2, v_p0_hasSets, v_p0_hasPlans])), (a_p0_sets, .inl (k 0, 4, .inl r.2.1)), (a_p0_isPossible, .inl (k 2, 512, .inl p0_isPossible)), (a_p0_codes, .inl (k 0, 7770, .inl r.1))] sz) 0 0 (va_A [(a_p1, .inr (8, [.int p1_units, .ref a_p1_population, .ref a_p1_area, .ref a_p1_community, .ref a_p1_outer, .ref a_p1_neighbors, .ref a_p1_lengths, v_p1_cores, .int p1_districts, v_p1_tolerance, v_p1_hasPlan, .ref a_p1_plan])), (a_p0, .inr (0, [.ref a_p0_codes, .ref a_p0_isPossible, .ref a_p0_sets, .ref a_p0_plan, .ref a_p0_best, .ref a_p0_tried, .int p0_size, v_p0_hasSets, v_p0_hasPlans])), (a_p0_sets, .inl (k 0, 4, .inl p0_sets)), (a_p0_isPossible, .inl (k 2, 512, .inl p0_isPossible)), (a_p0_codes, .inl (k 0, 7770, .inl p0_codes))] sz)  := by
  intro dd
  induction dd with
  | zero => intro D k sz a_p0 a_p1 a_p1_population a_p1_area a_p1_community a_p1_outer a_p1_neighbors a_p1_lengths a_p1_plan a_p0_codes a_p0_isPossible a_p0_sets a_p0_plan a_p0_best a_p0_tried p0_codes p0_isPossible p0_sets p0_size p1_districts p1_units v_p0_hasPlans v_p0_hasSets v_p1_cores v_p1_hasPlan v_p1_tolerance x2 x3 x4 r h; exact absurd h (by rw [fX0_listFrom]; exact fun q => by cases q)
  | succ dd IH =>
    intro D k sz a_p0 a_p1 a_p1_population a_p1_area a_p1_community a_p1_outer a_p1_neighbors a_p1_lengths a_p1_plan a_p0_codes a_p0_isPossible a_p0_sets a_p0_plan a_p0_best a_p0_tried p0_codes p0_isPossible p0_sets p0_size p1_districts p1_units v_p0_hasPlans v_p0_hasSets v_p1_cores v_p1_hasPlan v_p1_tolerance x2 x3 x4 r h
    refine Met.ofW (cc := cX0_listFrom) (maxL := 7) (ret := none) (by decide) rfl ?_
    intro p e s m args below meth c s₁ B hml hv
    obtain ⟨rfl, hsz, hP, hK, hD0⟩ := hv
    have hx := B.exec
    have hb := B.bytes
    have hr := B.returns
    have hts0 := atoms_spec (ws := (Cond.code yX0_listFrom cX0_listFrom 7 none :: Ts)) B.pre
    have hts : ∀ w ∈ uT, w.before _ s = true := fun w h => hts0 w (List.mem_cons_of_mem _ ((hTs w).mpr h))
    clear hts0
    have hown : s.vm.findClass RX0 = some m.cls := findClass_of_methodNamed B.named
    have hlocks := B.notSynchronized
    subst hsz
    have hD := hD0.self (sz := s.heap.size)
    generalize hAe : va_A [(a_p1, .inr (8, [.int p1_units, .ref a_p1_population, .ref a_p1_area, .ref a_p1_community, .ref a_p1_outer, .ref a_p1_neighbors, .ref a_p1_lengths, v_p1_cores, .int p1_districts, v_p1_tolerance, v_p1_hasPlan, .ref a_p1_plan])), (a_p0, .inr (0, [.ref a_p0_codes, .ref a_p0_isPossible, .ref a_p0_sets, .ref a_p0_plan, .ref a_p0_best, .ref a_p0_tried, .int p0_size, v_p0_hasSets, v_p0_hasPlans])), (a_p0_sets, .inl (k 0, 4, .inl p0_sets)), (a_p0_isPossible, .inl (k 2, 512, .inl p0_isPossible)), (a_p0_codes, .inl (k 0, 7770, .inl p0_codes))] s.heap.size = A at hD ⊢
    have hA : ∀ q : Nat, s.heap.size ≤ q → A q := fun q h => by rw [← hAe]; exact Or.inr h
    have hH : HOK D A s.heap [(a_p1, .inr (8, [.int p1_units, .ref a_p1_population, .ref a_p1_area, .ref a_p1_community, .ref a_p1_outer, .ref a_p1_neighbors, .ref a_p1_lengths, v_p1_cores, .int p1_districts, v_p1_tolerance, v_p1_hasPlan, .ref a_p1_plan])), (a_p0, .inr (0, [.ref a_p0_codes, .ref a_p0_isPossible, .ref a_p0_sets, .ref a_p0_plan, .ref a_p0_best, .ref a_p0_tried, .int p0_size, v_p0_hasSets, v_p0_hasPlans])), (a_p0_sets, .inl (k 0, 4, .inl p0_sets)), (a_p0_isPossible, .inl (k 2, 512, .inl p0_isPossible)), (a_p0_codes, .inl (k 0, 7770, .inl p0_codes))] s.heap [] := ⟨hP, hD, va_S.rf⟩
    have hl := lv_entry ([.ref a_p0, .ref a_p1, .int x2, .int x3, .int x4]) (n := 7) (by first | exact Nat.le_of_ble_eq_true rfl | (dsimp only [headSpec, List.map, List.sum_cons]; omega))
    rw [lg_entry_eq]
    generalize (lg_sl ([.ref a_p0, .ref a_p1, .int x2, .int x3, .int x4]) ++ List.replicate (7 - (lg_sl ([.ref a_p0, .ref a_p1, .int x2, .int x3, .int x4])).length) Slot.unset).toArray = ls at hl ⊢
    have hl : lv_has ls 7 [(0, .ref a_p0), (1, .ref a_p1), (2, .int x2), (3, .int x3), (4, .int x4)] := hl
    generalize hQ : MQ below (postV D k [(a_p1, .inr (8, [.int p1_units, .ref a_p1_population, .ref a_p1_area, .ref a_p1_community, .ref a_p1_outer, .ref a_p1_neighbors, .ref a_p1_lengths, v_p1_cores, .int p1_districts, v_p1_tolerance, v_p1_hasPlan, .ref a_p1_plan])), (a_p0, .inr (0, [.ref a_p0_codes, .ref a_p0_isPossible, .ref a_p0_sets, .ref a_p0_plan, .ref a_p0_best, .ref a_p0_tried, .int p0_size, v_p0_hasSets, v_p0_hasPlans])), (a_p0_sets, .inl (k 0, 4, .inl p0_sets)), (a_p0_isPossible, .inl (k 2, 512, .inl p0_isPossible)), (a_p0_codes, .inl (k 0, 7770, .inl p0_codes))] [(a_p1, .inr (8, [.int p1_units, .ref a_p1_population, .ref a_p1_area, .ref a_p1_community, .ref a_p1_outer, .ref a_p1_neighbors, .ref a_p1_lengths, v_p1_cores, .int p1_districts, v_p1_tolerance, v_p1_hasPlan, .ref a_p1_plan])), (a_p0, .inr (0, [.ref a_p0_codes, .ref a_p0_isPossible, .ref a_p0_sets, .ref a_p0_plan, .ref a_p0_best, .ref a_p0_tried, .int r.2.2, v_p0_hasSets, v_p0_hasPlans])), (a_p0_sets, .inl (k 0, 4, .inl r.2.1)), (a_p0_isPossible, .inl (k 2, 512, .inl p0_isPossible)), (a_p0_codes, .inl (k 0, 7770, .inl r.1))] s.heap.size) (List.toArray [.ref a_p0, .ref a_p1, .int x2, .int x3, .int x4]) s 0 0 A = Q
    clear hP hD hD0
    suffices K : ∀ (H : Heap) (locs : List Loc), HOK D A s.heap [(a_p1, .inr (8, [.int p1_units, .ref a_p1_population, .ref a_p1_area, .ref a_p1_community, .ref a_p1_outer, .ref a_p1_neighbors, .ref a_p1_lengths, v_p1_cores, .int p1_districts, v_p1_tolerance, v_p1_hasPlan, .ref a_p1_plan])), (a_p0, .inr (0, [.ref a_p0_codes, .ref a_p0_isPossible, .ref a_p0_sets, .ref a_p0_plan, .ref a_p0_best, .ref a_p0_tried, .int p0_size, v_p0_hasSets, v_p0_hasPlans])), (a_p0_sets, .inl (k 0, 4, .inl p0_sets)), (a_p0_isPossible, .inl (k 2, 512, .inl p0_isPossible)), (a_p0_codes, .inl (k 0, 7770, .inl p0_codes))] H locs → W p l e ({ frames := 1 + 2 * (dd + 1), cells := 0, slots := 0, locals := 64 + 64 * (dd + 1) } : Room) s m (List.toArray [.ref a_p0, .ref a_p1, .int x2, .int x3, .int x4]) below meth c H locs 0 0 Q (F0 m 0 ls []) from K s.heap [] hH
    intro H locs hH
    have L41 : ∀ (y41_5 : Int32) (n : Nat), ∀ (kf : (Nat → Int32) → (Nat → Int32) → Int32 → Option ((Nat → Int32) × (Nat → Int32) × Int32)) (y41_6 : Int32) (y41_p0_codes : Nat → Int32) (y41_p0_sets : Nat → Int32) (y41_p0_size : Int32), fX0_listFrom_L41 (fX0_listFrom dd) p0_isPossible p1_districts p1_units x2 x3 x4 y41_5 n kf y41_6 y41_p0_codes y41_p0_sets y41_p0_size = some r → (∀ (z41_p0_codes : Nat → Int32) (z41_p0_sets : Nat → Int32) (z41_p0_size : Int32) (H : Heap) (locs : List Loc) (ls : Array Slot), kf z41_p0_codes z41_p0_sets z41_p0_size = some r → HOK D A s.heap [(a_p1, .inr (8, [.int p1_units, .ref a_p1_population, .ref a_p1_area, .ref a_p1_community, .ref a_p1_outer, .ref a_p1_neighbors, .ref a_p1_lengths, v_p1_cores, .int p1_districts, v_p1_tolerance, v_p1_hasPlan, .ref a_p1_plan])), (a_p0, .inr (0, [.ref a_p0_codes, .ref a_p0_isPossible, .ref a_p0_sets, .ref a_p0_plan, .ref a_p0_best, .ref a_p0_tried, .int z41_p0_size, v_p0_hasSets, v_p0_hasPlans])), (a_p0_sets, .inl (k 0, 4, .inl z41_p0_sets)), (a_p0_isPossible, .inl (k 2, 512, .inl p0_isPossible)), (a_p0_codes, .inl (k 0, 7770, .inl z41_p0_codes))] H locs → lv_has ls 7 [] → W p l e ({ frames := 1 + 2 * (dd + 1), cells := 0, slots := 0, locals := 64 + 64 * (dd + 1) } : Room) s m (List.toArray [.ref a_p0, .ref a_p1, .int x2, .int x3, .int x4]) below meth c H locs 0 0 Q (F0 m 107 ls [])) → ∀ (H : Heap) (locs : List Loc) (ls : Array Slot), HOK D A s.heap [(a_p1, .inr (8, [.int p1_units, .ref a_p1_population, .ref a_p1_area, .ref a_p1_community, .ref a_p1_outer, .ref a_p1_neighbors, .ref a_p1_lengths, v_p1_cores, .int p1_districts, v_p1_tolerance, v_p1_hasPlan, .ref a_p1_plan])), (a_p0, .inr (0, [.ref a_p0_codes, .ref a_p0_isPossible, .ref a_p0_sets, .ref a_p0_plan, .ref a_p0_best, .ref a_p0_tried, .int y41_p0_size, v_p0_hasSets, v_p0_hasPlans])), (a_p0_sets, .inl (k 0, 4, .inl y41_p0_sets)), (a_p0_isPossible, .inl (k 2, 512, .inl p0_isPossible)), (a_p0_codes, .inl (k 0, 7770, .inl y41_p0_codes))] H locs → lv_has ls 7 [(0, .ref a_p0), (1, .ref a_p1), (2, .int x2), (3, .int x3), (4, .int x4), (5, .int y41_5), (6, .int y41_6)] → W p l e ({ frames := 1 + 2 * (dd + 1), cells := 0, slots := 0, locals := 64 + 64 * (dd + 1) } : Room) s m (List.toArray [.ref a_p0, .ref a_p1, .int x2, .int x3, .int x4]) below meth c H locs 0 0 Q (F0 m 41 ls []) := by
      intro y41_5 n
      induction n with
      | zero =>
        intro kf y41_6 y41_p0_codes y41_p0_sets y41_p0_size h
        exact absurd h (by rw [fX0_listFrom_L41]; exact fun q => by cases q)
      | succ n ih =>
        intro kf y41_6 y41_p0_codes y41_p0_sets y41_p0_size h kk H locs ls hH hl
        rw [fX0_listFrom_L41] at h
        refine lv_iload hx hb dX0_listFrom_41 (lv_at hl 6 rfl) ?_
        refine lv_iload hx hb dX0_listFrom_43 (lv_at hl 5 rfl) ?_
        refine lv_icmp_gt (tgt := 107) hx hb dX0_listFrom_45 (by decide) (fun c5 => ?_) (fun c5 => ?_)
        · replace h := dc_pos c5 h
          exact kk y41_p0_codes y41_p0_sets y41_p0_size H locs ls h hH (lv_sub hl [] rfl)
        · replace h := dc_neg c5 h
          refine lv_aload_n hx hb dX0_listFrom_48 rfl (lv_at hl 0 rfl) ?_
          refine gk_get (ci := 0) (C := RX0) (T := TX0) (N := 9) hx hb hts u_ws_X0 hown hK hH 1 rfl rfl 2 (by decide) u_fl_X0_19 rfl dX0_listFrom_49 ?_
          refine lv_iload hx hb dX0_listFrom_52 (lv_at hl 6 rfl) ?_
          refine lv_dup2_11 hx hb dX0_listFrom_54 rfl rfl ?_
          obtain ⟨g6, h⟩ := dc_need h
          refine gk_iald hx hb hK hH 2 rfl (dk_in g6) dX0_listFrom_55 ?_
          refine lv_iconst (v := 1) hx hb dX0_listFrom_56 (by decide) ?_
          refine lv_iload_n hx hb dX0_listFrom_57 rfl (lv_at hl 2 rfl) ?_
          refine lv_ishl hx hb dX0_listFrom_58 ?_
          refine lv_ior hx hb dX0_listFrom_59 ?_
          obtain ⟨g7, h⟩ := dc_need h
          refine gk_iast hx hb hK hH 2 rfl (dk_in g7) dX0_listFrom_60 [(a_p1, .inr (8, [.int p1_units, .ref a_p1_population, .ref a_p1_area, .ref a_p1_community, .ref a_p1_outer, .ref a_p1_neighbors, .ref a_p1_lengths, v_p1_cores, .int p1_districts, v_p1_tolerance, v_p1_hasPlan, .ref a_p1_plan])), (a_p0, .inr (0, [.ref a_p0_codes, .ref a_p0_isPossible, .ref a_p0_sets, .ref a_p0_plan, .ref a_p0_best, .ref a_p0_tried, .int y41_p0_size, v_p0_hasSets, v_p0_hasPlans])), (a_p0_sets, .inl (k 0, 4, .inl (upd y41_p0_sets y41_6.toNatClampNeg ((y41_p0_sets y41_6.toNatClampNeg) ||| ((1 : Int32) <<< (x2 &&& 31)))))), (a_p0_isPossible, .inl (k 2, 512, .inl p0_isPossible)), (a_p0_codes, .inl (k 0, 7770, .inl y41_p0_codes))] rfl (fun H locs hH => ?_)
          refine lv_aload_n hx hb dX0_listFrom_61 rfl (lv_at hl 0 rfl) ?_
          refine lv_aload_n hx hb dX0_listFrom_62 rfl (lv_at hl 1 rfl) ?_
          refine lv_iload_n hx hb dX0_listFrom_63 rfl (lv_at hl 2 rfl) ?_
          refine lv_iconst (v := 1) hx hb dX0_listFrom_64 (by decide) ?_
          refine lv_iadd hx hb dX0_listFrom_65 ?_
          refine lv_iload_n hx hb dX0_listFrom_66 rfl (lv_at hl 3 rfl) ?_
          refine lv_iload hx hb dX0_listFrom_67 (lv_at hl 6 rfl) ?_
          refine lv_iconst (v := 1) hx hb dX0_listFrom_69 (by decide) ?_
          refine lv_iadd hx hb dX0_listFrom_70 ?_
          refine va_mmax hx hb (hml.trans hl.1.symm) hown (hts _ u_ml_X0_125) (hts _ u_st_J9_max_7cf53) (hts _ u_in_J9) (hts _ u_co_Math_max) (by first | exact Nat.le_of_ble_eq_true rfl | (dsimp only [headSpec, List.map, List.sum_cons]; omega)) (by first | exact Nat.le_of_ble_eq_true rfl | (dsimp only [headSpec, List.map, List.sum_cons]; omega)) (by first | exact Nat.le_of_ble_eq_true rfl | (dsimp only [headSpec, List.map, List.sum_cons]; omega)) (by first | exact Nat.le_of_ble_eq_true rfl | (dsimp only [headSpec, List.map, List.sum_cons]; omega)) dX0_listFrom_71 ?_
          refine lv_iload hx hb dX0_listFrom_74 (lv_at hl 4 rfl) ?_
          refine lv_iload hx hb dX0_listFrom_76 (lv_at hl 6 rfl) ?_
          refine lv_iconst (v := 2) hx hb dX0_listFrom_78 (by decide) ?_
          refine lv_iload_n hx hb dX0_listFrom_79 rfl (lv_at hl 2 rfl) ?_
          refine lv_imul hx hb dX0_listFrom_80 ?_
          refine lv_ishl hx hb dX0_listFrom_81 ?_
          refine lv_ior hx hb dX0_listFrom_82 ?_
          obtain ⟨q8, hqq8, h⟩ := dc_bind h
          refine gc_Sv (ws' := [(a_p1, .inr (8, [.int p1_units, .ref a_p1_population, .ref a_p1_area, .ref a_p1_community, .ref a_p1_outer, .ref a_p1_neighbors, .ref a_p1_lengths, v_p1_cores, .int p1_districts, v_p1_tolerance, v_p1_hasPlan, .ref a_p1_plan])), (a_p0, .inr (0, [.ref a_p0_codes, .ref a_p0_isPossible, .ref a_p0_sets, .ref a_p0_plan, .ref a_p0_best, .ref a_p0_tried, .int q8.2.2, v_p0_hasSets, v_p0_hasPlans])), (a_p0_sets, .inl (k 0, 4, .inl q8.2.1)), (a_p0_isPossible, .inl (k 2, 512, .inl p0_isPossible)), (a_p0_codes, .inl (k 0, 7770, .inl q8.1))]) (As := [.ref a_p0, .ref a_p1, .int (x2 + (1 : Int32)), .int (if x3 < (y41_6 + (1 : Int32)) then (y41_6 + (1 : Int32)) else x3), .int (x4 ||| (y41_6 <<< (((2 : Int32) * x2) &&& 31)))]) (rest := []) (n := 5) hTs ⟨hx, hb, hml, hown, hts⟩ (IH D k H.size a_p0 a_p1 a_p1_population a_p1_area a_p1_community a_p1_outer a_p1_neighbors a_p1_lengths a_p1_plan a_p0_codes a_p0_isPossible a_p0_sets a_p0_plan a_p0_best a_p0_tried y41_p0_codes p0_isPossible (upd y41_p0_sets y41_6.toNatClampNeg ((y41_p0_sets y41_6.toNatClampNeg) ||| ((1 : Int32) <<< (x2 &&& 31)))) y41_p0_size p1_districts p1_units v_p0_hasPlans v_p0_hasSets v_p1_cores v_p1_hasPlan v_p1_tolerance (x2 + (1 : Int32)) (if x3 < (y41_6 + (1 : Int32)) then (y41_6 + (1 : Int32)) else x3) (x4 ||| (y41_6 <<< (((2 : Int32) * x2) &&& 31))) q8 hqq8) u_ml_X0_65 u_st_X0_listFrom u_in_X0 u_co_X0_listFrom hd_X0_listFrom ⟨by first | exact Nat.le_of_ble_eq_true rfl | (dsimp only [headSpec, List.map, List.sum_cons]; omega), by first | exact Nat.le_of_ble_eq_true rfl | (dsimp only [headSpec, List.map, List.sum_cons]; omega)⟩ ⟨rfl, rfl⟩ hK hH hA (cut1 (isC := [0, 1, 2, 3, 4]) rfl rfl rfl rfl rfl) rfl rfl hl.1 (by first | exact Nat.le_of_ble_eq_true rfl | (dsimp only [headSpec, List.map, List.sum_cons]; omega)) dX0_listFrom_83 ⟨by first | exact Nat.le_of_ble_eq_true rfl | (dsimp only [headSpec, List.map, List.sum_cons]; omega), by first | exact Nat.le_of_ble_eq_true rfl | (dsimp only [headSpec, List.map, List.sum_cons]; omega)⟩ (fun H locs hH => ?_)
          refine lv_aload_n hx hb dX0_listFrom_86 rfl (lv_at hl 0 rfl) ?_
          refine gk_get (ci := 0) (C := RX0) (T := TX0) (N := 9) hx hb hts u_ws_X0 hown hK hH 1 rfl rfl 2 (by decide) u_fl_X0_19 rfl dX0_listFrom_87 ?_
          refine lv_iload hx hb dX0_listFrom_90 (lv_at hl 6 rfl) ?_
          refine lv_dup2_11 hx hb dX0_listFrom_92 rfl rfl ?_
          obtain ⟨g9, h⟩ := dc_need h
          refine gk_iald hx hb hK hH 2 rfl (dk_in g9) dX0_listFrom_93 ?_
          refine lv_iconst (v := 1) hx hb dX0_listFrom_94 (by decide) ?_
          refine lv_iload_n hx hb dX0_listFrom_95 rfl (lv_at hl 2 rfl) ?_
          refine lv_ishl hx hb dX0_listFrom_96 ?_
          refine lv_iconst (v := -1) hx hb dX0_listFrom_97 (by decide) ?_
          refine lv_ixor hx hb dX0_listFrom_98 ?_
          refine lv_iand hx hb dX0_listFrom_99 ?_
          obtain ⟨g10, h⟩ := dc_need h
          refine gk_iast hx hb hK hH 2 rfl (dk_in g10) dX0_listFrom_100 [(a_p1, .inr (8, [.int p1_units, .ref a_p1_population, .ref a_p1_area, .ref a_p1_community, .ref a_p1_outer, .ref a_p1_neighbors, .ref a_p1_lengths, v_p1_cores, .int p1_districts, v_p1_tolerance, v_p1_hasPlan, .ref a_p1_plan])), (a_p0, .inr (0, [.ref a_p0_codes, .ref a_p0_isPossible, .ref a_p0_sets, .ref a_p0_plan, .ref a_p0_best, .ref a_p0_tried, .int q8.2.2, v_p0_hasSets, v_p0_hasPlans])), (a_p0_sets, .inl (k 0, 4, .inl (upd q8.2.1 y41_6.toNatClampNeg ((q8.2.1 y41_6.toNatClampNeg) &&& (((1 : Int32) <<< (x2 &&& 31)) ^^^ (-1 : Int32)))))), (a_p0_isPossible, .inl (k 2, 512, .inl p0_isPossible)), (a_p0_codes, .inl (k 0, 7770, .inl q8.1))] rfl (fun H locs hH => ?_)
          refine lv_iinc (v := (y41_6 + (1 : Int32))) (lv' := [(6, .int (y41_6 + (1 : Int32))), (0, .ref a_p0), (1, .ref a_p1), (2, .int x2), (3, .int x3), (4, .int x4), (5, .int y41_5)]) hx hb dX0_listFrom_101 hl (k := 6) rfl rfl (by decide) rfl (fun ls hl => ?_)
          refine lv_goto (tgt := 41) hx hb dX0_listFrom_104 (by decide) ?_
          exact ih kf (y41_6 + (1 : Int32)) q8.1 (upd q8.2.1 y41_6.toNatClampNeg ((q8.2.1 y41_6.toNatClampNeg) &&& (((1 : Int32) <<< (x2 &&& 31)) ^^^ (-1 : Int32)))) q8.2.2 h kk H locs ls hH (lv_sub hl [1, 2, 3, 4, 5, 6, 0] rfl)
    rw [fX0_listFrom] at h
    refine lv_iload_n hx hb dX0_listFrom_0 rfl (lv_at hl 2 rfl) ?_
    refine lv_aload_n hx hb dX0_listFrom_1 rfl (lv_at hl 1 rfl) ?_
    refine gk_get (ci := 8) (C := RX9) (T := TX9) (N := 12) hx hb hts u_ws_X9 hown hK hH 0 rfl rfl 0 (by decide) u_fl_X0_50 rfl dX0_listFrom_2 ?_
    refine lv_icmp_ge (tgt := 14) hx hb dX0_listFrom_5 (by decide) (fun c1 => ?_) (fun c1 => ?_)
    · replace h := dc_pos c1 h
      refine lv_aload_n hx hb dX0_listFrom_14 rfl (lv_at hl 0 rfl) ?_
      refine lv_aload_n hx hb dX0_listFrom_15 rfl (lv_at hl 1 rfl) ?_
      refine gk_get (ci := 8) (C := RX9) (T := TX9) (N := 12) hx hb hts u_ws_X9 hown hK hH 0 rfl rfl 8 (by decide) u_fl_X0_73 rfl dX0_listFrom_16 ?_
      refine lv_iload_n hx hb dX0_listFrom_19 rfl (lv_at hl 3 rfl) ?_
      refine lv_iload hx hb dX0_listFrom_20 (lv_at hl 4 rfl) ?_
      obtain ⟨q2, hqq2, h⟩ := dc_bind h
      refine gc_Vv (ws' := [(a_p1, .inr (8, [.int p1_units, .ref a_p1_population, .ref a_p1_area, .ref a_p1_community, .ref a_p1_outer, .ref a_p1_neighbors, .ref a_p1_lengths, v_p1_cores, .int p1_districts, v_p1_tolerance, v_p1_hasPlan, .ref a_p1_plan])), (a_p0, .inr (0, [.ref a_p0_codes, .ref a_p0_isPossible, .ref a_p0_sets, .ref a_p0_plan, .ref a_p0_best, .ref a_p0_tried, .int q2.2, v_p0_hasSets, v_p0_hasPlans])), (a_p0_sets, .inl (k 0, 4, .inl p0_sets)), (a_p0_isPossible, .inl (k 2, 512, .inl p0_isPossible)), (a_p0_codes, .inl (k 0, 7770, .inl q2.1))]) (As := [.int p1_districts, .int x3, .int x4]) (rest := []) (n := 3) (ci := 0) (cq := (RX0, TX0, 9)) hTs ⟨hx, hb, hml, hown, hts⟩ (mX0_keepIfLawful l Ts hTs D k H.size a_p0 a_p0_codes a_p0_isPossible a_p0_sets a_p0_plan a_p0_best a_p0_tried p0_codes p0_isPossible p0_sets p0_size v_p0_hasPlans v_p0_hasSets p1_districts x3 x4 q2 hqq2) u_ml_X0_121 u_im_X0_keepIfLawful u_se_X0_keepIfLawful u_in_X0 u_co_X0_keepIfLawful hd_X0_keepIfLawful ⟨by first | exact Nat.le_of_ble_eq_true rfl | (dsimp only [headSpec, List.map, List.sum_cons]; omega), by first | exact Nat.le_of_ble_eq_true rfl | (dsimp only [headSpec, List.map, List.sum_cons]; omega)⟩ ⟨rfl, rfl⟩ hK hH hA (cut1 (isC := [1, 2, 3, 4]) rfl rfl rfl rfl rfl) rfl rfl rfl rfl hl.1 (by first | exact Nat.le_of_ble_eq_true rfl | (dsimp only [headSpec, List.map, List.sum_cons]; omega)) dX0_listFrom_22 ⟨by first | exact Nat.le_of_ble_eq_true rfl | (dsimp only [headSpec, List.map, List.sum_cons]; omega), by first | exact Nat.le_of_ble_eq_true rfl | (dsimp only [headSpec, List.map, List.sum_cons]; omega)⟩ (fun H locs hH => ?_)
      have h := Option.some.inj h
      subst h
      exact ge_v hx hb hr hlocks hQ hK hH hAe dX0_listFrom_25
    · replace h := dc_neg c1 h
      refine lv_iload_n hx hb dX0_listFrom_8 rfl (lv_at hl 2 rfl) ?_
      refine lv_bipush (v := 9) hx hb dX0_listFrom_9 (by decide) ?_
      refine lv_icmp_lt (tgt := 26) hx hb dX0_listFrom_11 (by decide) (fun c3 => ?_) (fun c3 => ?_)
      · replace h := dc_pos c3 h
        refine lv_iload_n hx hb dX0_listFrom_26 rfl (lv_at hl 3 rfl) ?_
        refine lv_aload_n hx hb dX0_listFrom_27 rfl (lv_at hl 1 rfl) ?_
        refine gk_get (ci := 8) (C := RX9) (T := TX9) (N := 12) hx hb hts u_ws_X9 hown hK hH 0 rfl rfl 8 (by decide) u_fl_X0_73 rfl dX0_listFrom_28 ?_
        refine lv_iconst (v := 1) hx hb dX0_listFrom_31 (by decide) ?_
        refine lv_isub hx hb dX0_listFrom_32 ?_
        refine va_mmin hx hb (hml.trans hl.1.symm) hown (hts _ u_ml_X0_105) (hts _ u_st_J9_min_7cf53) (hts _ u_in_J9) (hts _ u_co_Math_min) (by first | exact Nat.le_of_ble_eq_true rfl | (dsimp only [headSpec, List.map, List.sum_cons]; omega)) (by first | exact Nat.le_of_ble_eq_true rfl | (dsimp only [headSpec, List.map, List.sum_cons]; omega)) (by first | exact Nat.le_of_ble_eq_true rfl | (dsimp only [headSpec, List.map, List.sum_cons]; omega)) (by first | exact Nat.le_of_ble_eq_true rfl | (dsimp only [headSpec, List.map, List.sum_cons]; omega)) dX0_listFrom_33 ?_
        refine lv_topi (fun n4 en4 => ?_)
        replace h := dc_at en4 h
        refine lv_istore (lv' := [(5, .int n4), (0, .ref a_p0), (1, .ref a_p1), (2, .int x2), (3, .int x3), (4, .int x4)]) hx hb dX0_listFrom_36 hl (by decide) rfl (fun ls hl => ?_)
        refine lv_iconst (v := 0) hx hb dX0_listFrom_38 (by decide) ?_
        refine lv_istore (lv' := [(6, .int (0 : Int32)), (5, .int n4), (0, .ref a_p0), (1, .ref a_p1), (2, .int x2), (3, .int x3), (4, .int x4)]) hx hb dX0_listFrom_39 hl (by decide) rfl (fun ls hl => ?_)
        refine L41 n4 _ _ (0 : Int32) p0_codes p0_sets p0_size h (fun z41_p0_codes z41_p0_sets z41_p0_size H locs ls h hH hl => ?_) H locs ls hH (lv_sub hl [2, 3, 4, 5, 6, 1, 0] rfl)
        have h := Option.some.inj h
        subst h
        exact ge_v hx hb hr hlocks hQ hK hH hAe dX0_listFrom_107
      · replace h := dc_neg c3 h
        refine lv_aload_n hx hb dX0_listFrom_14 rfl (lv_at hl 0 rfl) ?_
        refine lv_aload_n hx hb dX0_listFrom_15 rfl (lv_at hl 1 rfl) ?_
        refine gk_get (ci := 8) (C := RX9) (T := TX9) (N := 12) hx hb hts u_ws_X9 hown hK hH 0 rfl rfl 8 (by decide) u_fl_X0_73 rfl dX0_listFrom_16 ?_
        refine lv_iload_n hx hb dX0_listFrom_19 rfl (lv_at hl 3 rfl) ?_
        refine lv_iload hx hb dX0_listFrom_20 (lv_at hl 4 rfl) ?_
        obtain ⟨q11, hqq11, h⟩ := dc_bind h
        refine gc_Vv (ws' := [(a_p1, .inr (8, [.int p1_units, .ref a_p1_population, .ref a_p1_area, .ref a_p1_community, .ref a_p1_outer, .ref a_p1_neighbors, .ref a_p1_lengths, v_p1_cores, .int p1_districts, v_p1_tolerance, v_p1_hasPlan, .ref a_p1_plan])), (a_p0, .inr (0, [.ref a_p0_codes, .ref a_p0_isPossible, .ref a_p0_sets, .ref a_p0_plan, .ref a_p0_best, .ref a_p0_tried, .int q11.2, v_p0_hasSets, v_p0_hasPlans])), (a_p0_sets, .inl (k 0, 4, .inl p0_sets)), (a_p0_isPossible, .inl (k 2, 512, .inl p0_isPossible)), (a_p0_codes, .inl (k 0, 7770, .inl q11.1))]) (As := [.int p1_districts, .int x3, .int x4]) (rest := []) (n := 3) (ci := 0) (cq := (RX0, TX0, 9)) hTs ⟨hx, hb, hml, hown, hts⟩ (mX0_keepIfLawful l Ts hTs D k H.size a_p0 a_p0_codes a_p0_isPossible a_p0_sets a_p0_plan a_p0_best a_p0_tried p0_codes p0_isPossible p0_sets p0_size v_p0_hasPlans v_p0_hasSets p1_districts x3 x4 q11 hqq11) u_ml_X0_121 u_im_X0_keepIfLawful u_se_X0_keepIfLawful u_in_X0 u_co_X0_keepIfLawful hd_X0_keepIfLawful ⟨by first | exact Nat.le_of_ble_eq_true rfl | (dsimp only [headSpec, List.map, List.sum_cons]; omega), by first | exact Nat.le_of_ble_eq_true rfl | (dsimp only [headSpec, List.map, List.sum_cons]; omega)⟩ ⟨rfl, rfl⟩ hK hH hA (cut1 (isC := [1, 2, 3, 4]) rfl rfl rfl rfl rfl) rfl rfl rfl rfl hl.1 (by first | exact Nat.le_of_ble_eq_true rfl | (dsimp only [headSpec, List.map, List.sum_cons]; omega)) dX0_listFrom_22 ⟨by first | exact Nat.le_of_ble_eq_true rfl | (dsimp only [headSpec, List.map, List.sum_cons]; omega), by first | exact Nat.le_of_ble_eq_true rfl | (dsimp only [headSpec, List.map, List.sum_cons]; omega)⟩ (fun H locs hH => ?_)
        have h := Option.some.inj h
        subst h
        exact ge_v hx hb hr hlocks hQ hK hH hAe dX0_listFrom_25
theorem hd_X0_countPlans : yX0_countPlans.cls = RX0 ∧ yX0_countPlans.cls ≠ "java/lang/invoke/MethodHandle" ∧ yX0_countPlans.cls ≠ "java/lang/invoke/VarHandle" ∧ (parseMethodDescriptor yX0_countPlans.desc).map (fun d => d.parameters.length) = some 1 := by decide +kernel
set_option maxHeartbeats 4000000 in
set_option maxRecDepth 100000 in
theorem mX0_countPlans (l : Launch) (Ts : List Cond) (hTs : ∀ w, w ∈ Ts ↔ w ∈ uT) (D : va_G) (k : Nat → ClassId) (sz : Nat) (a_p1 : Nat) (a_t : Nat) (a_t_codes : Nat) (a_t_isPossible : Nat) (a_t_sets : Nat) (a_t_plan : Nat) (a_t_best : Nat) (a_t_tried : Nat) (a_p1_population : Nat) (a_p1_area : Nat) (a_p1_community : Nat) (a_p1_outer : Nat) (a_p1_neighbors : Nat) (a_p1_lengths : Nat) (a_p1_plan : Nat) (p1_community : Nat → Int32) (p1_cores : Int32) (p1_districts : Int32) (p1_neighbors : Nat → Int32) (p1_population : Nat → Int32) (p1_tolerance : Int32) (p1_units : Int32) (t_codes : Nat → Int32) (t_hasPlans : Int32) (t_hasSets : Int32) (t_isPossible : Nat → Int32) (t_sets : Nat → Int32) (t_size : Int32) (v_p1_hasPlan : Value) (r : Int32 × (Nat → Int32) × Int32 × Int32 × (Nat → Int32) × (Nat → Int32) × Int32) (h : fX0_countPlans p1_community p1_cores p1_districts p1_neighbors p1_population p1_tolerance p1_units t_codes t_hasPlans t_hasSets t_isPossible t_sets t_size = some r) : Met l yX0_countPlans (Cond.code yX0_countPlans cX0_countPlans 2 (some .int) :: Ts) ({ frames := 42, cells := 0, slots := 0, locals := 1370 } : Room) (preM D k [.ref a_t, .ref a_p1] [(a_t, .inr (0, [.ref a_t_codes, .ref a_t_isPossible, .ref a_t_sets, .ref a_t_plan, .ref a_t_best, .ref a_t_tried, .int t_size, .int t_hasSets, .int t_hasPlans])), (a_p1, .inr (8, [.int p1_units, .ref a_p1_population, .ref a_p1_area, .ref a_p1_community, .ref a_p1_outer, .ref a_p1_neighbors, .ref a_p1_lengths, .int p1_cores, .int p1_districts, .int p1_tolerance, v_p1_hasPlan, .ref a_p1_plan])), (a_t_isPossible, .inl (k 2, 512, .inl t_isPossible)), (a_p1_population, .inl (k 0, 12, .inl p1_population)), (a_p1_community, .inl (k 0, 12, .inl p1_community)), (a_p1_neighbors, .inl (k 0, 12, .inl p1_neighbors)), (a_t_sets, .inl (k 0, 4, .inl t_sets)), (a_t_codes, .inl (k 0, 7770, .inl t_codes))] sz) (postI D k r.1 [(a_t, .inr (0, [.ref a_t_codes, .ref a_t_isPossible, .ref a_t_sets, .ref a_t_plan, .ref a_t_best, .ref a_t_tried, .int t_size, .int t_hasSets, .int t_hasPlans])), (a_p1, .inr (8, [.int p1_units, .ref a_p1_population, .ref a_p1_area, .ref a_p1_community, .ref a_p1_outer, .ref a_p1_neighbors, .ref a_p1_lengths, .int p1_cores, .int p1_districts, .int p1_tolerance, v_p1_hasPlan, .ref a_p1_plan])), (a_t_isPossible, .inl (k 2, 512, .inl t_isPossible)), (a_p1_population, .inl (k 0, 12, .inl p1_population)), (a_p1_community, .inl (k 0, 12, .inl p1_community)), (a_p1_neighbors, .inl (k 0, 12, .inl p1_neighbors)), (a_t_sets, .inl (k 0, 4, .inl t_sets)), (a_t_codes, .inl (k 0, 7770, .inl t_codes))] [(a_t, .inr (0, [.ref a_t_codes, .ref a_t_isPossible, .ref a_t_sets, .ref a_t_plan, .ref a_t_best, .ref a_t_tried, .int r.2.2.2.2.2.2, .int r.2.2.2.1, .int r.2.2.1])), (a_p1, .inr (8, [.int p1_units, .ref a_p1_population, .ref a_p1_area, .ref a_p1_community, .ref a_p1_outer, .ref a_p1_neighbors, .ref a_p1_lengths, .int p1_cores, .int p1_districts, .int p1_tolerance, v_p1_hasPlan, .ref a_p1_plan])), (a_t_isPossible, .inl (k 2, 512, .inl r.2.2.2.2.1)), (a_p1_population, .inl (k 0, 12, .inl p1_population)), (a_p1_community, .inl (k 0, 12, .inl p1_community)), (a_p1_neighbors, .inl (k 0, 12, .inl p1_neighbors)), (a_t_sets, .inl (k 0, 4, .inl r.2.2.2.2.2.1)), (a_t_codes, .inl (k 0, 7770, .inl r.2.1))] sz) 0 0 (va_A [(a_t, .inr (0, [.ref a_t_codes, .ref a_t_isPossible, .ref a_t_sets, .ref a_t_plan, .ref a_t_best, .ref a_t_tried, .int t_size, .int t_hasSets, .int t_hasPlans])), (a_p1, .inr (8, [.int p1_units, .ref a_p1_population, .ref a_p1_area, .ref a_p1_community, .ref a_p1_outer, .ref a_p1_neighbors, .ref a_p1_lengths, .int p1_cores, .int p1_districts, .int p1_tolerance, v_p1_hasPlan, .ref a_p1_plan])), (a_t_isPossible, .inl (k 2, 512, .inl t_isPossible)), (a_p1_population, .inl (k 0, 12, .inl p1_population)), (a_p1_community, .inl (k 0, 12, .inl p1_community)), (a_p1_neighbors, .inl (k 0, 12, .inl p1_neighbors)), (a_t_sets, .inl (k 0, 4, .inl t_sets)), (a_t_codes, .inl (k 0, 7770, .inl t_codes))] sz) := by
  refine Met.ofW (cc := cX0_countPlans) (maxL := 2) (ret := (some .int)) (by decide) rfl ?_
  intro p e s m args below meth c s₁ B hml hv
  obtain ⟨rfl, hsz, hP, hK, hD0⟩ := hv
  have hx := B.exec
  have hb := B.bytes
  have hr := B.returns
  have hts0 := atoms_spec (ws := (Cond.code yX0_countPlans cX0_countPlans 2 (some .int) :: Ts)) B.pre
  have hts : ∀ w ∈ uT, w.before _ s = true := fun w h => hts0 w (List.mem_cons_of_mem _ ((hTs w).mpr h))
  clear hts0
  have hown : s.vm.findClass RX0 = some m.cls := findClass_of_methodNamed B.named
  have hlocks := B.notSynchronized
  subst hsz
  have hD := hD0.self (sz := s.heap.size)
  generalize hAe : va_A [(a_t, .inr (0, [.ref a_t_codes, .ref a_t_isPossible, .ref a_t_sets, .ref a_t_plan, .ref a_t_best, .ref a_t_tried, .int t_size, .int t_hasSets, .int t_hasPlans])), (a_p1, .inr (8, [.int p1_units, .ref a_p1_population, .ref a_p1_area, .ref a_p1_community, .ref a_p1_outer, .ref a_p1_neighbors, .ref a_p1_lengths, .int p1_cores, .int p1_districts, .int p1_tolerance, v_p1_hasPlan, .ref a_p1_plan])), (a_t_isPossible, .inl (k 2, 512, .inl t_isPossible)), (a_p1_population, .inl (k 0, 12, .inl p1_population)), (a_p1_community, .inl (k 0, 12, .inl p1_community)), (a_p1_neighbors, .inl (k 0, 12, .inl p1_neighbors)), (a_t_sets, .inl (k 0, 4, .inl t_sets)), (a_t_codes, .inl (k 0, 7770, .inl t_codes))] s.heap.size = A at hD ⊢
  have hA : ∀ q : Nat, s.heap.size ≤ q → A q := fun q h => by rw [← hAe]; exact Or.inr h
  have hH : HOK D A s.heap [(a_t, .inr (0, [.ref a_t_codes, .ref a_t_isPossible, .ref a_t_sets, .ref a_t_plan, .ref a_t_best, .ref a_t_tried, .int t_size, .int t_hasSets, .int t_hasPlans])), (a_p1, .inr (8, [.int p1_units, .ref a_p1_population, .ref a_p1_area, .ref a_p1_community, .ref a_p1_outer, .ref a_p1_neighbors, .ref a_p1_lengths, .int p1_cores, .int p1_districts, .int p1_tolerance, v_p1_hasPlan, .ref a_p1_plan])), (a_t_isPossible, .inl (k 2, 512, .inl t_isPossible)), (a_p1_population, .inl (k 0, 12, .inl p1_population)), (a_p1_community, .inl (k 0, 12, .inl p1_community)), (a_p1_neighbors, .inl (k 0, 12, .inl p1_neighbors)), (a_t_sets, .inl (k 0, 4, .inl t_sets)), (a_t_codes, .inl (k 0, 7770, .inl t_codes))] s.heap [] := ⟨hP, hD, va_S.rf⟩
  have hl := lv_entry ([.ref a_t, .ref a_p1]) (n := 2) (Nat.le_of_ble_eq_true rfl)
  rw [lg_entry_eq]
  generalize (lg_sl ([.ref a_t, .ref a_p1]) ++ List.replicate (2 - (lg_sl ([.ref a_t, .ref a_p1])).length) Slot.unset).toArray = ls at hl ⊢
  have hl : lv_has ls 2 [(0, .ref a_t), (1, .ref a_p1)] := hl
  generalize hQ : MQ below (postI D k r.1 [(a_t, .inr (0, [.ref a_t_codes, .ref a_t_isPossible, .ref a_t_sets, .ref a_t_plan, .ref a_t_best, .ref a_t_tried, .int t_size, .int t_hasSets, .int t_hasPlans])), (a_p1, .inr (8, [.int p1_units, .ref a_p1_population, .ref a_p1_area, .ref a_p1_community, .ref a_p1_outer, .ref a_p1_neighbors, .ref a_p1_lengths, .int p1_cores, .int p1_districts, .int p1_tolerance, v_p1_hasPlan, .ref a_p1_plan])), (a_t_isPossible, .inl (k 2, 512, .inl t_isPossible)), (a_p1_population, .inl (k 0, 12, .inl p1_population)), (a_p1_community, .inl (k 0, 12, .inl p1_community)), (a_p1_neighbors, .inl (k 0, 12, .inl p1_neighbors)), (a_t_sets, .inl (k 0, 4, .inl t_sets)), (a_t_codes, .inl (k 0, 7770, .inl t_codes))] [(a_t, .inr (0, [.ref a_t_codes, .ref a_t_isPossible, .ref a_t_sets, .ref a_t_plan, .ref a_t_best, .ref a_t_tried, .int r.2.2.2.2.2.2, .int r.2.2.2.1, .int r.2.2.1])), (a_p1, .inr (8, [.int p1_units, .ref a_p1_population, .ref a_p1_area, .ref a_p1_community, .ref a_p1_outer, .ref a_p1_neighbors, .ref a_p1_lengths, .int p1_cores, .int p1_districts, .int p1_tolerance, v_p1_hasPlan, .ref a_p1_plan])), (a_t_isPossible, .inl (k 2, 512, .inl r.2.2.2.2.1)), (a_p1_population, .inl (k 0, 12, .inl p1_population)), (a_p1_community, .inl (k 0, 12, .inl p1_community)), (a_p1_neighbors, .inl (k 0, 12, .inl p1_neighbors)), (a_t_sets, .inl (k 0, 4, .inl r.2.2.2.2.2.1)), (a_t_codes, .inl (k 0, 7770, .inl r.2.1))] s.heap.size) (List.toArray [.ref a_t, .ref a_p1]) s 0 0 A = Q
  clear hP hD hD0
  suffices K : ∀ (H : Heap) (locs : List Loc), HOK D A s.heap [(a_t, .inr (0, [.ref a_t_codes, .ref a_t_isPossible, .ref a_t_sets, .ref a_t_plan, .ref a_t_best, .ref a_t_tried, .int t_size, .int t_hasSets, .int t_hasPlans])), (a_p1, .inr (8, [.int p1_units, .ref a_p1_population, .ref a_p1_area, .ref a_p1_community, .ref a_p1_outer, .ref a_p1_neighbors, .ref a_p1_lengths, .int p1_cores, .int p1_districts, .int p1_tolerance, v_p1_hasPlan, .ref a_p1_plan])), (a_t_isPossible, .inl (k 2, 512, .inl t_isPossible)), (a_p1_population, .inl (k 0, 12, .inl p1_population)), (a_p1_community, .inl (k 0, 12, .inl p1_community)), (a_p1_neighbors, .inl (k 0, 12, .inl p1_neighbors)), (a_t_sets, .inl (k 0, 4, .inl t_sets)), (a_t_codes, .inl (k 0, 7770, .inl t_codes))] H locs → W p l e ({ frames := 42, cells := 0, slots := 0, locals := 1370 } : Room) s m (List.toArray [.ref a_t, .ref a_p1]) below meth c H locs 0 0 Q (F0 m 0 ls []) from K s.heap [] hH
  intro H locs hH
  rw [fX0_countPlans] at h
  refine lv_aload_n hx hb dX0_countPlans_0 rfl (lv_at hl 0 rfl) ?_
  refine gk_get (ci := 0) (C := RX0) (T := TX0) (N := 9) hx hb hts u_ws_X0 hown hK hH 0 rfl rfl 8 (by decide) u_fl_X0_47 rfl dX0_countPlans_1 ?_
  refine lv_if_ne (tgt := 47) hx hb dX0_countPlans_4 (by decide) (fun c1 => ?_) (fun c1 => ?_)
  · replace h := dc_neg c1 h
    refine lv_aload_n hx hb dX0_countPlans_47 rfl (lv_at hl 0 rfl) ?_
    refine gk_get (ci := 0) (C := RX0) (T := TX0) (N := 9) hx hb hts u_ws_X0 hown hK hH 0 rfl rfl 6 (by decide) u_fl_X0_39 rfl dX0_countPlans_48 ?_
    have h := Option.some.inj h
    subst h
    exact ge_i hx hb hr hlocks hQ hK hH hAe rfl dX0_countPlans_51
  · replace h := dc_pos c1 h
    refine lv_aload_n hx hb dX0_countPlans_7 rfl (lv_at hl 1 rfl) ?_
    refine gk_get (ci := 8) (C := RX9) (T := TX9) (N := 12) hx hb hts u_ws_X9 hown hK hH 1 rfl rfl 0 (by decide) u_fl_X0_50 rfl dX0_countPlans_8 ?_
    refine lv_bipush (v := 9) hx hb dX0_countPlans_11 (by decide) ?_
    refine lv_icmp_gt (tgt := 47) hx hb dX0_countPlans_13 (by decide) (fun c2 => ?_) (fun c2 => ?_)
    · replace h := dc_pos c2 h
      refine lv_aload_n hx hb dX0_countPlans_47 rfl (lv_at hl 0 rfl) ?_
      refine gk_get (ci := 0) (C := RX0) (T := TX0) (N := 9) hx hb hts u_ws_X0 hown hK hH 0 rfl rfl 6 (by decide) u_fl_X0_39 rfl dX0_countPlans_48 ?_
      have h := Option.some.inj h
      subst h
      exact ge_i hx hb hr hlocks hQ hK hH hAe rfl dX0_countPlans_51
    · replace h := dc_neg c2 h
      refine lv_aload_n hx hb dX0_countPlans_16 rfl (lv_at hl 0 rfl) ?_
      refine lv_aload_n hx hb dX0_countPlans_17 rfl (lv_at hl 1 rfl) ?_
      obtain ⟨q3, hqq3, h⟩ := dc_bind h
      refine gc_Vv (ws' := [(a_t, .inr (0, [.ref a_t_codes, .ref a_t_isPossible, .ref a_t_sets, .ref a_t_plan, .ref a_t_best, .ref a_t_tried, .int t_size, .int q3.1, .int t_hasPlans])), (a_p1, .inr (8, [.int p1_units, .ref a_p1_population, .ref a_p1_area, .ref a_p1_community, .ref a_p1_outer, .ref a_p1_neighbors, .ref a_p1_lengths, .int p1_cores, .int p1_districts, .int p1_tolerance, v_p1_hasPlan, .ref a_p1_plan])), (a_t_isPossible, .inl (k 2, 512, .inl q3.2)), (a_p1_population, .inl (k 0, 12, .inl p1_population)), (a_p1_community, .inl (k 0, 12, .inl p1_community)), (a_p1_neighbors, .inl (k 0, 12, .inl p1_neighbors)), (a_t_sets, .inl (k 0, 4, .inl t_sets)), (a_t_codes, .inl (k 0, 7770, .inl t_codes))]) (As := [.ref a_p1]) (rest := []) (n := 1) (ci := 0) (cq := (RX0, TX0, 9)) hTs ⟨hx, hb, hml, hown, hts⟩ (mX0_findSets l Ts hTs D k H.size a_p1 a_t a_t_codes a_t_isPossible a_t_sets a_t_plan a_t_best a_t_tried a_p1_population a_p1_area a_p1_community a_p1_outer a_p1_neighbors a_p1_lengths a_p1_plan p1_community p1_cores p1_districts p1_neighbors p1_population p1_tolerance p1_units t_hasSets t_isPossible v_p1_hasPlan (.int t_hasPlans) (.int t_size) q3 hqq3) u_ml_X0_55 u_im_X0_findSets u_se_X0_findSets u_in_X0 u_co_X0_findSets hd_X0_findSets ⟨Nat.le_of_ble_eq_true rfl, Nat.le_of_ble_eq_true rfl⟩ ⟨rfl, rfl⟩ hK hH hA (cut1 (isC := [0, 1, 2, 3, 4, 5]) rfl rfl rfl rfl rfl) rfl rfl rfl rfl hl.1 (Nat.le_of_ble_eq_true rfl) dX0_countPlans_18 ⟨Nat.le_of_ble_eq_true rfl, Nat.le_of_ble_eq_true rfl⟩ (fun H locs hH => ?_)
      refine lv_aload_n hx hb dX0_countPlans_21 rfl (lv_at hl 0 rfl) ?_
      refine lv_iconst (v := 0) hx hb dX0_countPlans_22 (by decide) ?_
      refine gk_put (ci := 0) (C := RX0) (T := TX0) (N := 9) hx hb hts u_ws_X0 tyX0_ok nmX0 hown hK hH 0 rfl rfl 6 (by decide) u_fl_X0_39 rfl rfl rfl (Nat.le_of_ble_eq_true rfl) dX0_countPlans_23 [(a_t, .inr (0, [.ref a_t_codes, .ref a_t_isPossible, .ref a_t_sets, .ref a_t_plan, .ref a_t_best, .ref a_t_tried, .int (0 : Int32), .int q3.1, .int t_hasPlans])), (a_p1, .inr (8, [.int p1_units, .ref a_p1_population, .ref a_p1_area, .ref a_p1_community, .ref a_p1_outer, .ref a_p1_neighbors, .ref a_p1_lengths, .int p1_cores, .int p1_districts, .int p1_tolerance, v_p1_hasPlan, .ref a_p1_plan])), (a_t_isPossible, .inl (k 2, 512, .inl q3.2)), (a_p1_population, .inl (k 0, 12, .inl p1_population)), (a_p1_community, .inl (k 0, 12, .inl p1_community)), (a_p1_neighbors, .inl (k 0, 12, .inl p1_neighbors)), (a_t_sets, .inl (k 0, 4, .inl t_sets)), (a_t_codes, .inl (k 0, 7770, .inl t_codes))] rfl (fun H locs hH => ?_)
      refine lv_aload_n hx hb dX0_countPlans_26 rfl (lv_at hl 0 rfl) ?_
      refine gk_get (ci := 0) (C := RX0) (T := TX0) (N := 9) hx hb hts u_ws_X0 hown hK hH 0 rfl rfl 2 (by decide) u_fl_X0_19 rfl dX0_countPlans_27 ?_
      refine lv_iconst (v := 0) hx hb dX0_countPlans_30 (by decide) ?_
      obtain ⟨q4, hqq4, h⟩ := dc_bind h
      refine gc_Sv (ws' := [(a_t, .inr (0, [.ref a_t_codes, .ref a_t_isPossible, .ref a_t_sets, .ref a_t_plan, .ref a_t_best, .ref a_t_tried, .int (0 : Int32), .int q3.1, .int t_hasPlans])), (a_p1, .inr (8, [.int p1_units, .ref a_p1_population, .ref a_p1_area, .ref a_p1_community, .ref a_p1_outer, .ref a_p1_neighbors, .ref a_p1_lengths, .int p1_cores, .int p1_districts, .int p1_tolerance, v_p1_hasPlan, .ref a_p1_plan])), (a_t_isPossible, .inl (k 2, 512, .inl q3.2)), (a_p1_population, .inl (k 0, 12, .inl p1_population)), (a_p1_community, .inl (k 0, 12, .inl p1_community)), (a_p1_neighbors, .inl (k 0, 12, .inl p1_neighbors)), (a_t_sets, .inl (k 0, 4, .inl q4)), (a_t_codes, .inl (k 0, 7770, .inl t_codes))]) (As := [.ref a_t_sets, .int (0 : Int32)]) (rest := []) (n := 2) hTs ⟨hx, hb, hml, hown, hts⟩ (mJ7_fill_53178 l Ts hTs D k H.size 4 a_t_sets t_sets (0 : Int32) q4 hqq4) u_ml_X0_59 u_st_J7_fill_53178 u_in_J7 u_co_J7_fill_53178 hd_J7_fill_53178 ⟨Nat.le_of_ble_eq_true rfl, Nat.le_of_ble_eq_true rfl⟩ ⟨rfl, rfl⟩ hK hH hA (cut1 (isC := [6]) rfl rfl rfl rfl rfl) rfl rfl hl.1 (Nat.le_of_ble_eq_true rfl) dX0_countPlans_31 ⟨Nat.le_of_ble_eq_true rfl, Nat.le_of_ble_eq_true rfl⟩ (fun H locs hH => ?_)
      refine lv_aload_n hx hb dX0_countPlans_34 rfl (lv_at hl 0 rfl) ?_
      refine lv_aload_n hx hb dX0_countPlans_35 rfl (lv_at hl 1 rfl) ?_
      refine lv_iconst (v := 0) hx hb dX0_countPlans_36 (by decide) ?_
      refine lv_iconst (v := 0) hx hb dX0_countPlans_37 (by decide) ?_
      refine lv_iconst (v := 0) hx hb dX0_countPlans_38 (by decide) ?_
      obtain ⟨q5, hqq5, h⟩ := dc_bind h
      refine gc_Sv (ws' := [(a_t, .inr (0, [.ref a_t_codes, .ref a_t_isPossible, .ref a_t_sets, .ref a_t_plan, .ref a_t_best, .ref a_t_tried, .int q5.2.2, .int q3.1, .int t_hasPlans])), (a_p1, .inr (8, [.int p1_units, .ref a_p1_population, .ref a_p1_area, .ref a_p1_community, .ref a_p1_outer, .ref a_p1_neighbors, .ref a_p1_lengths, .int p1_cores, .int p1_districts, .int p1_tolerance, v_p1_hasPlan, .ref a_p1_plan])), (a_t_isPossible, .inl (k 2, 512, .inl q3.2)), (a_p1_population, .inl (k 0, 12, .inl p1_population)), (a_p1_community, .inl (k 0, 12, .inl p1_community)), (a_p1_neighbors, .inl (k 0, 12, .inl p1_neighbors)), (a_t_sets, .inl (k 0, 4, .inl q5.2.1)), (a_t_codes, .inl (k 0, 7770, .inl q5.1))]) (As := [.ref a_t, .ref a_p1, .int (0 : Int32), .int (0 : Int32), .int (0 : Int32)]) (rest := []) (n := 5) hTs ⟨hx, hb, hml, hown, hts⟩ (mX0_listFrom l Ts hTs 20 D k H.size a_t a_p1 a_p1_population a_p1_area a_p1_community a_p1_outer a_p1_neighbors a_p1_lengths a_p1_plan a_t_codes a_t_isPossible a_t_sets a_t_plan a_t_best a_t_tried t_codes q3.2 q4 (0 : Int32) p1_districts p1_units (.int t_hasPlans) (.int q3.1) (.int p1_cores) v_p1_hasPlan (.int p1_tolerance) (0 : Int32) (0 : Int32) (0 : Int32) q5 hqq5) u_ml_X0_65 u_st_X0_listFrom u_in_X0 u_co_X0_listFrom hd_X0_listFrom ⟨Nat.le_of_ble_eq_true rfl, Nat.le_of_ble_eq_true rfl⟩ ⟨rfl, rfl⟩ hK hH hA (cut1 (isC := [1, 0, 6, 2, 7]) rfl rfl rfl rfl rfl) rfl rfl hl.1 (Nat.le_of_ble_eq_true rfl) dX0_countPlans_39 ⟨Nat.le_of_ble_eq_true rfl, Nat.le_of_ble_eq_true rfl⟩ (fun H locs hH => ?_)
      refine lv_aload_n hx hb dX0_countPlans_42 rfl (lv_at hl 0 rfl) ?_
      refine lv_iconst (v := 1) hx hb dX0_countPlans_43 (by decide) ?_
      refine gk_put (ci := 0) (C := RX0) (T := TX0) (N := 9) hx hb hts u_ws_X0 tyX0_ok nmX0 hown hK hH 0 rfl rfl 8 (by decide) u_fl_X0_47 rfl rfl rfl (Nat.le_of_ble_eq_true rfl) dX0_countPlans_44 [(a_t, .inr (0, [.ref a_t_codes, .ref a_t_isPossible, .ref a_t_sets, .ref a_t_plan, .ref a_t_best, .ref a_t_tried, .int q5.2.2, .int q3.1, .int (1 : Int32)])), (a_p1, .inr (8, [.int p1_units, .ref a_p1_population, .ref a_p1_area, .ref a_p1_community, .ref a_p1_outer, .ref a_p1_neighbors, .ref a_p1_lengths, .int p1_cores, .int p1_districts, .int p1_tolerance, v_p1_hasPlan, .ref a_p1_plan])), (a_t_isPossible, .inl (k 2, 512, .inl q3.2)), (a_p1_population, .inl (k 0, 12, .inl p1_population)), (a_p1_community, .inl (k 0, 12, .inl p1_community)), (a_p1_neighbors, .inl (k 0, 12, .inl p1_neighbors)), (a_t_sets, .inl (k 0, 4, .inl q5.2.1)), (a_t_codes, .inl (k 0, 7770, .inl q5.1))] rfl (fun H locs hH => ?_)
      refine lv_aload_n hx hb dX0_countPlans_47 rfl (lv_at hl 0 rfl) ?_
      refine gk_get (ci := 0) (C := RX0) (T := TX0) (N := 9) hx hb hts u_ws_X0 hown hK hH 0 rfl rfl 6 (by decide) u_fl_X0_39 rfl dX0_countPlans_48 ?_
      have h := Option.some.inj h
      subst h
      exact ge_i hx hb hr hlocks hQ hK hH hAe rfl dX0_countPlans_51
theorem hd_X0_countFrom : yX0_countFrom.cls ≠ "java/lang/invoke/MethodHandle" ∧ yX0_countFrom.cls ≠ "java/lang/invoke/VarHandle" ∧ (parseMethodDescriptor yX0_countFrom.desc).map (fun d => d.parameters.length) = some 3 := by decide +kernel
set_option maxHeartbeats 4000000 in
set_option maxRecDepth 100000 in
theorem mX0_countFrom (l : Launch) (Ts : List Cond) (hTs : ∀ w, w ∈ Ts ↔ w ∈ uT)  : ∀ (dd : Nat) (D : va_G) (k : Nat → ClassId) (sz : Nat) (a_p0 : Nat) (a_p0_codes : Nat) (a_p0_isPossible : Nat) (a_p0_sets : Nat) (a_p0_plan : Nat) (a_p0_best : Nat) (a_p0_tried : Nat) (p0_isPossible : Nat → Int32) (v_p0_hasPlans : Value) (v_p0_hasSets : Value) (v_p0_size : Value) (x1 : Int32) (x2 : Int32) (r : Int32) (h : fX0_countFrom dd p0_isPossible x1 x2 = some r), Met l yX0_countFrom (Cond.code yX0_countFrom cX0_countFrom 8 (some .int) :: Ts) ({ frames := 0 + 2 * dd, cells := 0, slots := 0, locals := 0 + 64 * dd } : Room) (preM D k [.ref a_p0, .int x1, .int x2] [(a_p0, .inr (0, [.ref a_p0_codes, .ref a_p0_isPossible, .ref a_p0_sets, .ref a_p0_plan, .ref a_p0_best, .ref a_p0_tried, v_p0_size, v_p0_hasSets, v_p0_hasPlans])), (a_p0_isPossible, .inl (k 2, 512, .inl p0_isPossible))] sz) (postI D k r [(a_p0, .inr (0, [.ref a_p0_codes, .ref a_p0_isPossible, .ref a_p0_sets, .ref a_p0_plan, .ref a_p0_best, .ref a_p0_tried, v_p0_size, v_p0_hasSets, v_p0_hasPlans])), (a_p0_isPossible, .inl (k 2, 512, .inl p0_isPossible))] [(a_p0, .inr (0, [.ref a_p0_codes, .ref a_p0_isPossible, .ref a_p0_sets, .ref a_p0_plan, .ref a_p0_best, .ref a_p0_tried, v_p0_size, v_p0_hasSets, v_p0_hasPlans])), (a_p0_isPossible, .inl (k 2, 512, .inl p0_isPossible))] sz) 0 0 (va_A [(a_p0, .inr (0, [.ref a_p0_codes, .ref a_p0_isPossible, .ref a_p0_sets, .ref a_p0_plan, .ref a_p0_best, .ref a_p0_tried, v_p0_size, v_p0_hasSets, v_p0_hasPlans])), (a_p0_isPossible, .inl (k 2, 512, .inl p0_isPossible))] sz)  := by
  intro dd
  induction dd with
  | zero => intro D k sz a_p0 a_p0_codes a_p0_isPossible a_p0_sets a_p0_plan a_p0_best a_p0_tried p0_isPossible v_p0_hasPlans v_p0_hasSets v_p0_size x1 x2 r h; exact absurd h (by rw [fX0_countFrom]; exact fun q => by cases q)
  | succ dd IH =>
    intro D k sz a_p0 a_p0_codes a_p0_isPossible a_p0_sets a_p0_plan a_p0_best a_p0_tried p0_isPossible v_p0_hasPlans v_p0_hasSets v_p0_size x1 x2 r h
    refine Met.ofW (cc := cX0_countFrom) (maxL := 8) (ret := (some .int)) (by decide) rfl ?_
    intro p e s m args below meth c s₁ B hml hv
    obtain ⟨rfl, hsz, hP, hK, hD0⟩ := hv
    have hx := B.exec
    have hb := B.bytes
    have hr := B.returns
    have hts0 := atoms_spec (ws := (Cond.code yX0_countFrom cX0_countFrom 8 (some .int) :: Ts)) B.pre
    have hts : ∀ w ∈ uT, w.before _ s = true := fun w h => hts0 w (List.mem_cons_of_mem _ ((hTs w).mpr h))
    clear hts0
    have hown : s.vm.findClass RX0 = some m.cls := findClass_of_methodNamed B.named
    have hlocks := B.notSynchronized
    subst hsz
    have hD := hD0.self (sz := s.heap.size)
    generalize hAe : va_A [(a_p0, .inr (0, [.ref a_p0_codes, .ref a_p0_isPossible, .ref a_p0_sets, .ref a_p0_plan, .ref a_p0_best, .ref a_p0_tried, v_p0_size, v_p0_hasSets, v_p0_hasPlans])), (a_p0_isPossible, .inl (k 2, 512, .inl p0_isPossible))] s.heap.size = A at hD ⊢
    have hA : ∀ q : Nat, s.heap.size ≤ q → A q := fun q h => by rw [← hAe]; exact Or.inr h
    have hH : HOK D A s.heap [(a_p0, .inr (0, [.ref a_p0_codes, .ref a_p0_isPossible, .ref a_p0_sets, .ref a_p0_plan, .ref a_p0_best, .ref a_p0_tried, v_p0_size, v_p0_hasSets, v_p0_hasPlans])), (a_p0_isPossible, .inl (k 2, 512, .inl p0_isPossible))] s.heap [] := ⟨hP, hD, va_S.rf⟩
    have hl := lv_entry ([.ref a_p0, .int x1, .int x2]) (n := 8) (by first | exact Nat.le_of_ble_eq_true rfl | (dsimp only [headSpec, List.map, List.sum_cons]; omega))
    rw [lg_entry_eq]
    generalize (lg_sl ([.ref a_p0, .int x1, .int x2]) ++ List.replicate (8 - (lg_sl ([.ref a_p0, .int x1, .int x2])).length) Slot.unset).toArray = ls at hl ⊢
    have hl : lv_has ls 8 [(0, .ref a_p0), (1, .int x1), (2, .int x2)] := hl
    generalize hQ : MQ below (postI D k r [(a_p0, .inr (0, [.ref a_p0_codes, .ref a_p0_isPossible, .ref a_p0_sets, .ref a_p0_plan, .ref a_p0_best, .ref a_p0_tried, v_p0_size, v_p0_hasSets, v_p0_hasPlans])), (a_p0_isPossible, .inl (k 2, 512, .inl p0_isPossible))] [(a_p0, .inr (0, [.ref a_p0_codes, .ref a_p0_isPossible, .ref a_p0_sets, .ref a_p0_plan, .ref a_p0_best, .ref a_p0_tried, v_p0_size, v_p0_hasSets, v_p0_hasPlans])), (a_p0_isPossible, .inl (k 2, 512, .inl p0_isPossible))] s.heap.size) (List.toArray [.ref a_p0, .int x1, .int x2]) s 0 0 A = Q
    clear hP hD hD0
    suffices K : ∀ (H : Heap) (locs : List Loc), HOK D A s.heap [(a_p0, .inr (0, [.ref a_p0_codes, .ref a_p0_isPossible, .ref a_p0_sets, .ref a_p0_plan, .ref a_p0_best, .ref a_p0_tried, v_p0_size, v_p0_hasSets, v_p0_hasPlans])), (a_p0_isPossible, .inl (k 2, 512, .inl p0_isPossible))] H locs → W p l e ({ frames := 0 + 2 * (dd + 1), cells := 0, slots := 0, locals := 0 + 64 * (dd + 1) } : Room) s m (List.toArray [.ref a_p0, .int x1, .int x2]) below meth c H locs 0 0 Q (F0 m 0 ls []) from K s.heap [] hH
    intro H locs hH
    have L42 : ∀ (y42_3 : Int32) (y42_4 : Int32) (n : Nat), ∀ (kf : Int32 → Option (Int32)) (y42_5 : Int32) (y42_6 : Int32) (y42_7 : Int32), fX0_countFrom_L42 (fX0_countFrom dd) p0_isPossible x2 y42_3 y42_4 n kf y42_5 y42_6 y42_7 = some r → (∀ (z42_5 : Int32) (H : Heap) (locs : List Loc) (ls : Array Slot), kf z42_5 = some r → HOK D A s.heap [(a_p0, .inr (0, [.ref a_p0_codes, .ref a_p0_isPossible, .ref a_p0_sets, .ref a_p0_plan, .ref a_p0_best, .ref a_p0_tried, v_p0_size, v_p0_hasSets, v_p0_hasPlans])), (a_p0_isPossible, .inl (k 2, 512, .inl p0_isPossible))] H locs → lv_has ls 8 [(5, .int z42_5)] → W p l e ({ frames := 0 + 2 * (dd + 1), cells := 0, slots := 0, locals := 0 + 64 * (dd + 1) } : Room) s m (List.toArray [.ref a_p0, .int x1, .int x2]) below meth c H locs 0 0 Q (F0 m 104 ls [])) → ∀ (H : Heap) (locs : List Loc) (ls : Array Slot), HOK D A s.heap [(a_p0, .inr (0, [.ref a_p0_codes, .ref a_p0_isPossible, .ref a_p0_sets, .ref a_p0_plan, .ref a_p0_best, .ref a_p0_tried, v_p0_size, v_p0_hasSets, v_p0_hasPlans])), (a_p0_isPossible, .inl (k 2, 512, .inl p0_isPossible))] H locs → lv_has ls 8 [(0, .ref a_p0), (2, .int x2), (3, .int y42_3), (4, .int y42_4), (5, .int y42_5), (6, .int y42_6), (7, .int y42_7)] → W p l e ({ frames := 0 + 2 * (dd + 1), cells := 0, slots := 0, locals := 0 + 64 * (dd + 1) } : Room) s m (List.toArray [.ref a_p0, .int x1, .int x2]) below meth c H locs 0 0 Q (F0 m 42 ls []) := by
      intro y42_3 y42_4 n
      induction n with
      | zero =>
        intro kf y42_5 y42_6 y42_7 h
        exact absurd h (by rw [fX0_countFrom_L42]; exact fun q => by cases q)
      | succ n ih =>
        intro kf y42_5 y42_6 y42_7 h kk H locs ls hH hl
        rw [fX0_countFrom_L42] at h
        refine lv_iload hx hb dX0_countFrom_42 (lv_at hl 6 rfl) ?_
        refine lv_sipush (v := 512) hx hb dX0_countFrom_44 (by decide) ?_
        refine lv_icmp_ge (tgt := 104) hx hb dX0_countFrom_47 (by decide) (fun c2 => ?_) (fun c2 => ?_)
        · replace h := dc_pos c2 h
          exact kk y42_5 H locs ls h hH (lv_sub hl [4] rfl)
        · replace h := dc_neg c2 h
          refine lv_aload_n hx hb dX0_countFrom_50 rfl (lv_at hl 0 rfl) ?_
          refine gk_get (ci := 0) (C := RX0) (T := TX0) (N := 9) hx hb hts u_ws_X0 hown hK hH 0 rfl rfl 1 (by decide) u_fl_X0_15 rfl dX0_countFrom_51 ?_
          refine lv_iload_n hx hb dX0_countFrom_54 rfl (lv_at hl 2 rfl) ?_
          refine lv_iload hx hb dX0_countFrom_55 (lv_at hl 5 rfl) ?_
          refine lv_ior hx hb dX0_countFrom_57 ?_
          obtain ⟨g3, h⟩ := dc_need h
          refine gk_bald hx hb hK hH 1 rfl (dk_in g3) dX0_countFrom_58 ?_
          refine lv_if_eq (tgt := 81) hx hb dX0_countFrom_59 (by decide) (fun c4 => ?_) (fun c4 => ?_)
          · replace h := dc_pos c4 h
            refine lv_iload hx hb dX0_countFrom_81 (lv_at hl 5 rfl) ?_
            refine lv_if_ne (tgt := 89) hx hb dX0_countFrom_83 (by decide) (fun c5 => ?_) (fun c5 => ?_)
            · replace h := dc_neg c5 h
              refine lv_iload hx hb dX0_countFrom_89 (lv_at hl 5 rfl) ?_
              refine lv_iconst (v := 1) hx hb dX0_countFrom_91 (by decide) ?_
              refine lv_isub hx hb dX0_countFrom_92 ?_
              refine lv_iload hx hb dX0_countFrom_93 (lv_at hl 3 rfl) ?_
              refine lv_iand hx hb dX0_countFrom_95 ?_
              refine lv_istore (lv' := [(6, .int ((y42_6 - (1 : Int32)) &&& y42_4)), (0, .ref a_p0), (2, .int x2), (3, .int y42_3), (4, .int y42_4), (5, .int y42_5), (7, .int y42_7)]) hx hb dX0_countFrom_96 hl (by decide) rfl (fun ls hl => ?_)
              refine lv_iinc (v := (y42_7 + (1 : Int32))) (lv' := [(7, .int (y42_7 + (1 : Int32))), (6, .int ((y42_6 - (1 : Int32)) &&& y42_4)), (0, .ref a_p0), (2, .int x2), (3, .int y42_3), (4, .int y42_4), (5, .int y42_5)]) hx hb dX0_countFrom_98 hl (k := 6) rfl rfl (by decide) rfl (fun ls hl => ?_)
              refine lv_goto (tgt := 42) hx hb dX0_countFrom_101 (by decide) ?_
              exact ih kf y42_5 ((y42_6 - (1 : Int32)) &&& y42_4) (y42_7 + (1 : Int32)) h kk H locs ls hH (lv_sub hl [2, 3, 4, 5, 6, 1, 0] rfl)
            · replace h := dc_pos c5 h
              refine lv_goto (tgt := 104) hx hb dX0_countFrom_86 (by decide) ?_
              exact kk y42_5 H locs ls h hH (lv_sub hl [4] rfl)
          · replace h := dc_neg c4 h
            refine lv_iload hx hb dX0_countFrom_62 (lv_at hl 4 rfl) ?_
            refine lv_aload_n hx hb dX0_countFrom_64 rfl (lv_at hl 0 rfl) ?_
            refine lv_iload hx hb dX0_countFrom_65 (lv_at hl 3 rfl) ?_
            refine lv_iload hx hb dX0_countFrom_67 (lv_at hl 5 rfl) ?_
            refine lv_iconst (v := -1) hx hb dX0_countFrom_69 (by decide) ?_
            refine lv_ixor hx hb dX0_countFrom_70 ?_
            refine lv_iand hx hb dX0_countFrom_71 ?_
            refine lv_iload_n hx hb dX0_countFrom_72 rfl (lv_at hl 1 rfl) ?_
            refine lv_iconst (v := 1) hx hb dX0_countFrom_73 (by decide) ?_
            refine lv_isub hx hb dX0_countFrom_74 ?_
            obtain ⟨q6, hqq6, h⟩ := dc_bind h
            refine gc_Si (ws' := [(a_p0, .inr (0, [.ref a_p0_codes, .ref a_p0_isPossible, .ref a_p0_sets, .ref a_p0_plan, .ref a_p0_best, .ref a_p0_tried, v_p0_size, v_p0_hasSets, v_p0_hasPlans])), (a_p0_isPossible, .inl (k 2, 512, .inl p0_isPossible))]) (As := [.ref a_p0, .int (y42_4 &&& (y42_6 ^^^ (-1 : Int32))), .int (x2 - (1 : Int32))]) (rest := [.int y42_5]) (n := 3) hTs ⟨hx, hb, hml, hown, hts⟩ (IH D k H.size a_p0 a_p0_codes a_p0_isPossible a_p0_sets a_p0_plan a_p0_best a_p0_tried p0_isPossible v_p0_hasPlans v_p0_hasSets v_p0_size (y42_4 &&& (y42_6 ^^^ (-1 : Int32))) (x2 - (1 : Int32)) q6 hqq6) u_ml_X0_76 u_st_X0_countFrom u_in_X0 u_co_X0_countFrom hd_X0_countFrom ⟨by first | exact Nat.le_of_ble_eq_true rfl | (dsimp only [headSpec, List.map, List.sum_cons]; omega), by first | exact Nat.le_of_ble_eq_true rfl | (dsimp only [headSpec, List.map, List.sum_cons]; omega)⟩ ⟨rfl, rfl⟩ hK hH hA (cut0 (isC := [0, 1]) rfl rfl rfl) rfl rfl hl.1 (by first | exact Nat.le_of_ble_eq_true rfl | (dsimp only [headSpec, List.map, List.sum_cons]; omega)) dX0_countFrom_75 ⟨by first | exact Nat.le_of_ble_eq_true rfl | (dsimp only [headSpec, List.map, List.sum_cons]; omega), by first | exact Nat.le_of_ble_eq_true rfl | (dsimp only [headSpec, List.map, List.sum_cons]; omega)⟩ (fun H locs hH => ?_)
            refine lv_iadd hx hb dX0_countFrom_78 ?_
            refine lv_istore (lv' := [(5, .int (y42_5 + q6)), (0, .ref a_p0), (2, .int x2), (3, .int y42_3), (4, .int y42_4), (6, .int y42_6), (7, .int y42_7)]) hx hb dX0_countFrom_79 hl (by decide) rfl (fun ls hl => ?_)
            refine lv_iload hx hb dX0_countFrom_81 (lv_at hl 5 rfl) ?_
            refine lv_if_ne (tgt := 89) hx hb dX0_countFrom_83 (by decide) (fun c7 => ?_) (fun c7 => ?_)
            · replace h := dc_neg c7 h
              refine lv_iload hx hb dX0_countFrom_89 (lv_at hl 5 rfl) ?_
              refine lv_iconst (v := 1) hx hb dX0_countFrom_91 (by decide) ?_
              refine lv_isub hx hb dX0_countFrom_92 ?_
              refine lv_iload hx hb dX0_countFrom_93 (lv_at hl 4 rfl) ?_
              refine lv_iand hx hb dX0_countFrom_95 ?_
              refine lv_istore (lv' := [(6, .int ((y42_6 - (1 : Int32)) &&& y42_4)), (5, .int (y42_5 + q6)), (0, .ref a_p0), (2, .int x2), (3, .int y42_3), (4, .int y42_4), (7, .int y42_7)]) hx hb dX0_countFrom_96 hl (by decide) rfl (fun ls hl => ?_)
              refine lv_iinc (v := (y42_7 + (1 : Int32))) (lv' := [(7, .int (y42_7 + (1 : Int32))), (6, .int ((y42_6 - (1 : Int32)) &&& y42_4)), (5, .int (y42_5 + q6)), (0, .ref a_p0), (2, .int x2), (3, .int y42_3), (4, .int y42_4)]) hx hb dX0_countFrom_98 hl (k := 6) rfl rfl (by decide) rfl (fun ls hl => ?_)
              refine lv_goto (tgt := 42) hx hb dX0_countFrom_101 (by decide) ?_
              exact ih kf (y42_5 + q6) ((y42_6 - (1 : Int32)) &&& y42_4) (y42_7 + (1 : Int32)) h kk H locs ls hH (lv_sub hl [3, 4, 5, 6, 2, 1, 0] rfl)
            · replace h := dc_pos c7 h
              refine lv_goto (tgt := 104) hx hb dX0_countFrom_86 (by decide) ?_
              exact kk (y42_5 + q6) H locs ls h hH (lv_sub hl [0] rfl)
    rw [fX0_countFrom] at h
    refine lv_iload_n hx hb dX0_countFrom_0 rfl (lv_at hl 2 rfl) ?_
    refine lv_iconst (v := 1) hx hb dX0_countFrom_1 (by decide) ?_
    refine lv_icmp_gt (tgt := 20) hx hb dX0_countFrom_2 (by decide) (fun c1 => ?_) (fun c1 => ?_)
    · replace h := dc_pos c1 h
      refine lv_iload_n hx hb dX0_countFrom_20 rfl (lv_at hl 1 rfl) ?_
      refine lv_iload_n hx hb dX0_countFrom_21 rfl (lv_at hl 1 rfl) ?_
      refine lv_ineg hx hb dX0_countFrom_22 ?_
      refine lv_iand hx hb dX0_countFrom_23 ?_
      refine lv_istore_n (lv' := [(3, .int (x1 &&& (-x1))), (0, .ref a_p0), (1, .int x1), (2, .int x2)]) hx hb dX0_countFrom_24 rfl hl (by decide) rfl (fun ls hl => ?_)
      refine lv_iload_n hx hb dX0_countFrom_25 rfl (lv_at hl 2 rfl) ?_
      refine lv_iload_n hx hb dX0_countFrom_26 rfl (lv_at hl 0 rfl) ?_
      refine lv_iconst (v := -1) hx hb dX0_countFrom_27 (by decide) ?_
      refine lv_ixor hx hb dX0_countFrom_28 ?_
      refine lv_iand hx hb dX0_countFrom_29 ?_
      refine lv_istore (lv' := [(4, .int (x1 &&& ((x1 &&& (-x1)) ^^^ (-1 : Int32)))), (3, .int (x1 &&& (-x1))), (0, .ref a_p0), (1, .int x1), (2, .int x2)]) hx hb dX0_countFrom_30 hl (by decide) rfl (fun ls hl => ?_)
      refine lv_iconst (v := 0) hx hb dX0_countFrom_32 (by decide) ?_
      refine lv_istore (lv' := [(5, .int (0 : Int32)), (4, .int (x1 &&& ((x1 &&& (-x1)) ^^^ (-1 : Int32)))), (3, .int (x1 &&& (-x1))), (0, .ref a_p0), (1, .int x1), (2, .int x2)]) hx hb dX0_countFrom_33 hl (by decide) rfl (fun ls hl => ?_)
      refine lv_iload hx hb dX0_countFrom_35 (lv_at hl 1 rfl) ?_
      refine lv_istore (lv' := [(6, .int (x1 &&& ((x1 &&& (-x1)) ^^^ (-1 : Int32)))), (5, .int (0 : Int32)), (4, .int (x1 &&& ((x1 &&& (-x1)) ^^^ (-1 : Int32)))), (3, .int (x1 &&& (-x1))), (0, .ref a_p0), (1, .int x1), (2, .int x2)]) hx hb dX0_countFrom_37 hl (by decide) rfl (fun ls hl => ?_)
      refine lv_iconst (v := 0) hx hb dX0_countFrom_39 (by decide) ?_
      refine lv_istore (lv' := [(7, .int (0 : Int32)), (6, .int (x1 &&& ((x1 &&& (-x1)) ^^^ (-1 : Int32)))), (5, .int (0 : Int32)), (4, .int (x1 &&& ((x1 &&& (-x1)) ^^^ (-1 : Int32)))), (3, .int (x1 &&& (-x1))), (0, .ref a_p0), (1, .int x1), (2, .int x2)]) hx hb dX0_countFrom_40 hl (by decide) rfl (fun ls hl => ?_)
      refine L42 (x1 &&& (-x1)) (x1 &&& ((x1 &&& (-x1)) ^^^ (-1 : Int32))) _ _ (0 : Int32) (x1 &&& ((x1 &&& (-x1)) ^^^ (-1 : Int32))) (0 : Int32) h (fun z42_5 H locs ls h hH hl => ?_) H locs ls hH (lv_sub hl [5, 7, 4, 3, 2, 1, 0] rfl)
      refine lv_iload hx hb dX0_countFrom_104 (lv_at hl 0 rfl) ?_
      have h := Option.some.inj h
      subst h
      exact ge_i hx hb hr hlocks hQ hK hH hAe rfl dX0_countFrom_106
    · replace h := dc_neg c1 h
      refine lv_aload_n hx hb dX0_countFrom_5 rfl (lv_at hl 0 rfl) ?_
      refine gk_get (ci := 0) (C := RX0) (T := TX0) (N := 9) hx hb hts u_ws_X0 hown hK hH 0 rfl rfl 1 (by decide) u_fl_X0_15 rfl dX0_countFrom_6 ?_
      refine lv_iload_n hx hb dX0_countFrom_9 rfl (lv_at hl 1 rfl) ?_
      obtain ⟨g8, h⟩ := dc_need h
      refine gk_bald hx hb hK hH 1 rfl (dk_in g8) dX0_countFrom_10 ?_
      refine lv_if_eq (tgt := 18) hx hb dX0_countFrom_11 (by decide) (fun c9 => ?_) (fun c9 => ?_)
      · replace h := dc_pos c9 h
        refine lv_iconst (v := 0) hx hb dX0_countFrom_18 (by decide) ?_
        have h := Option.some.inj h
        subst h
        exact ge_i hx hb hr hlocks hQ hK hH hAe rfl dX0_countFrom_19
      · replace h := dc_neg c9 h
        refine lv_iconst (v := 1) hx hb dX0_countFrom_14 (by decide) ?_
        refine lv_goto (tgt := 19) hx hb dX0_countFrom_15 (by decide) ?_
        have h := Option.some.inj h
        subst h
        exact ge_i hx hb hr hlocks hQ hK hH hAe rfl dX0_countFrom_19
theorem hd_X0_countBySets : yX0_countBySets.cls = RX0 ∧ yX0_countBySets.cls ≠ "java/lang/invoke/MethodHandle" ∧ yX0_countBySets.cls ≠ "java/lang/invoke/VarHandle" ∧ (parseMethodDescriptor yX0_countBySets.desc).map (fun d => d.parameters.length) = some 1 := by decide +kernel
set_option maxHeartbeats 4000000 in
set_option maxRecDepth 100000 in
theorem mX0_countBySets (l : Launch) (Ts : List Cond) (hTs : ∀ w, w ∈ Ts ↔ w ∈ uT) (D : va_G) (k : Nat → ClassId) (sz : Nat) (a_p1 : Nat) (a_t : Nat) (a_t_codes : Nat) (a_t_isPossible : Nat) (a_t_sets : Nat) (a_t_plan : Nat) (a_t_best : Nat) (a_t_tried : Nat) (a_p1_population : Nat) (a_p1_area : Nat) (a_p1_community : Nat) (a_p1_outer : Nat) (a_p1_neighbors : Nat) (a_p1_lengths : Nat) (a_p1_plan : Nat) (p1_community : Nat → Int32) (p1_cores : Int32) (p1_districts : Int32) (p1_neighbors : Nat → Int32) (p1_population : Nat → Int32) (p1_tolerance : Int32) (p1_units : Int32) (t_hasSets : Int32) (t_isPossible : Nat → Int32) (v_p1_hasPlan : Value) (v_t_hasPlans : Value) (v_t_size : Value) (r : Int32 × Int32 × (Nat → Int32)) (h : fX0_countBySets p1_community p1_cores p1_districts p1_neighbors p1_population p1_tolerance p1_units t_hasSets t_isPossible = some r) : Met l yX0_countBySets (Cond.code yX0_countBySets cX0_countBySets 2 (some .int) :: Ts) ({ frames := 41, cells := 0, slots := 0, locals := 1307 } : Room) (preM D k [.ref a_t, .ref a_p1] [(a_t, .inr (0, [.ref a_t_codes, .ref a_t_isPossible, .ref a_t_sets, .ref a_t_plan, .ref a_t_best, .ref a_t_tried, v_t_size, .int t_hasSets, v_t_hasPlans])), (a_p1, .inr (8, [.int p1_units, .ref a_p1_population, .ref a_p1_area, .ref a_p1_community, .ref a_p1_outer, .ref a_p1_neighbors, .ref a_p1_lengths, .int p1_cores, .int p1_districts, .int p1_tolerance, v_p1_hasPlan, .ref a_p1_plan])), (a_t_isPossible, .inl (k 2, 512, .inl t_isPossible)), (a_p1_population, .inl (k 0, 12, .inl p1_population)), (a_p1_community, .inl (k 0, 12, .inl p1_community)), (a_p1_neighbors, .inl (k 0, 12, .inl p1_neighbors))] sz) (postI D k r.1 [(a_t, .inr (0, [.ref a_t_codes, .ref a_t_isPossible, .ref a_t_sets, .ref a_t_plan, .ref a_t_best, .ref a_t_tried, v_t_size, .int t_hasSets, v_t_hasPlans])), (a_p1, .inr (8, [.int p1_units, .ref a_p1_population, .ref a_p1_area, .ref a_p1_community, .ref a_p1_outer, .ref a_p1_neighbors, .ref a_p1_lengths, .int p1_cores, .int p1_districts, .int p1_tolerance, v_p1_hasPlan, .ref a_p1_plan])), (a_t_isPossible, .inl (k 2, 512, .inl t_isPossible)), (a_p1_population, .inl (k 0, 12, .inl p1_population)), (a_p1_community, .inl (k 0, 12, .inl p1_community)), (a_p1_neighbors, .inl (k 0, 12, .inl p1_neighbors))] [(a_t, .inr (0, [.ref a_t_codes, .ref a_t_isPossible, .ref a_t_sets, .ref a_t_plan, .ref a_t_best, .ref a_t_tried, v_t_size, .int r.2.1, v_t_hasPlans])), (a_p1, .inr (8, [.int p1_units, .ref a_p1_population, .ref a_p1_area, .ref a_p1_community, .ref a_p1_outer, .ref a_p1_neighbors, .ref a_p1_lengths, .int p1_cores, .int p1_districts, .int p1_tolerance, v_p1_hasPlan, .ref a_p1_plan])), (a_t_isPossible, .inl (k 2, 512, .inl r.2.2)), (a_p1_population, .inl (k 0, 12, .inl p1_population)), (a_p1_community, .inl (k 0, 12, .inl p1_community)), (a_p1_neighbors, .inl (k 0, 12, .inl p1_neighbors))] sz) 0 0 (va_A [(a_t, .inr (0, [.ref a_t_codes, .ref a_t_isPossible, .ref a_t_sets, .ref a_t_plan, .ref a_t_best, .ref a_t_tried, v_t_size, .int t_hasSets, v_t_hasPlans])), (a_p1, .inr (8, [.int p1_units, .ref a_p1_population, .ref a_p1_area, .ref a_p1_community, .ref a_p1_outer, .ref a_p1_neighbors, .ref a_p1_lengths, .int p1_cores, .int p1_districts, .int p1_tolerance, v_p1_hasPlan, .ref a_p1_plan])), (a_t_isPossible, .inl (k 2, 512, .inl t_isPossible)), (a_p1_population, .inl (k 0, 12, .inl p1_population)), (a_p1_community, .inl (k 0, 12, .inl p1_community)), (a_p1_neighbors, .inl (k 0, 12, .inl p1_neighbors))] sz) := by
  refine Met.ofW (cc := cX0_countBySets) (maxL := 2) (ret := (some .int)) (by decide) rfl ?_
  intro p e s m args below meth c s₁ B hml hv
  obtain ⟨rfl, hsz, hP, hK, hD0⟩ := hv
  have hx := B.exec
  have hb := B.bytes
  have hr := B.returns
  have hts0 := atoms_spec (ws := (Cond.code yX0_countBySets cX0_countBySets 2 (some .int) :: Ts)) B.pre
  have hts : ∀ w ∈ uT, w.before _ s = true := fun w h => hts0 w (List.mem_cons_of_mem _ ((hTs w).mpr h))
  clear hts0
  have hown : s.vm.findClass RX0 = some m.cls := findClass_of_methodNamed B.named
  have hlocks := B.notSynchronized
  subst hsz
  have hD := hD0.self (sz := s.heap.size)
  generalize hAe : va_A [(a_t, .inr (0, [.ref a_t_codes, .ref a_t_isPossible, .ref a_t_sets, .ref a_t_plan, .ref a_t_best, .ref a_t_tried, v_t_size, .int t_hasSets, v_t_hasPlans])), (a_p1, .inr (8, [.int p1_units, .ref a_p1_population, .ref a_p1_area, .ref a_p1_community, .ref a_p1_outer, .ref a_p1_neighbors, .ref a_p1_lengths, .int p1_cores, .int p1_districts, .int p1_tolerance, v_p1_hasPlan, .ref a_p1_plan])), (a_t_isPossible, .inl (k 2, 512, .inl t_isPossible)), (a_p1_population, .inl (k 0, 12, .inl p1_population)), (a_p1_community, .inl (k 0, 12, .inl p1_community)), (a_p1_neighbors, .inl (k 0, 12, .inl p1_neighbors))] s.heap.size = A at hD ⊢
  have hA : ∀ q : Nat, s.heap.size ≤ q → A q := fun q h => by rw [← hAe]; exact Or.inr h
  have hH : HOK D A s.heap [(a_t, .inr (0, [.ref a_t_codes, .ref a_t_isPossible, .ref a_t_sets, .ref a_t_plan, .ref a_t_best, .ref a_t_tried, v_t_size, .int t_hasSets, v_t_hasPlans])), (a_p1, .inr (8, [.int p1_units, .ref a_p1_population, .ref a_p1_area, .ref a_p1_community, .ref a_p1_outer, .ref a_p1_neighbors, .ref a_p1_lengths, .int p1_cores, .int p1_districts, .int p1_tolerance, v_p1_hasPlan, .ref a_p1_plan])), (a_t_isPossible, .inl (k 2, 512, .inl t_isPossible)), (a_p1_population, .inl (k 0, 12, .inl p1_population)), (a_p1_community, .inl (k 0, 12, .inl p1_community)), (a_p1_neighbors, .inl (k 0, 12, .inl p1_neighbors))] s.heap [] := ⟨hP, hD, va_S.rf⟩
  have hl := lv_entry ([.ref a_t, .ref a_p1]) (n := 2) (Nat.le_of_ble_eq_true rfl)
  rw [lg_entry_eq]
  generalize (lg_sl ([.ref a_t, .ref a_p1]) ++ List.replicate (2 - (lg_sl ([.ref a_t, .ref a_p1])).length) Slot.unset).toArray = ls at hl ⊢
  have hl : lv_has ls 2 [(0, .ref a_t), (1, .ref a_p1)] := hl
  generalize hQ : MQ below (postI D k r.1 [(a_t, .inr (0, [.ref a_t_codes, .ref a_t_isPossible, .ref a_t_sets, .ref a_t_plan, .ref a_t_best, .ref a_t_tried, v_t_size, .int t_hasSets, v_t_hasPlans])), (a_p1, .inr (8, [.int p1_units, .ref a_p1_population, .ref a_p1_area, .ref a_p1_community, .ref a_p1_outer, .ref a_p1_neighbors, .ref a_p1_lengths, .int p1_cores, .int p1_districts, .int p1_tolerance, v_p1_hasPlan, .ref a_p1_plan])), (a_t_isPossible, .inl (k 2, 512, .inl t_isPossible)), (a_p1_population, .inl (k 0, 12, .inl p1_population)), (a_p1_community, .inl (k 0, 12, .inl p1_community)), (a_p1_neighbors, .inl (k 0, 12, .inl p1_neighbors))] [(a_t, .inr (0, [.ref a_t_codes, .ref a_t_isPossible, .ref a_t_sets, .ref a_t_plan, .ref a_t_best, .ref a_t_tried, v_t_size, .int r.2.1, v_t_hasPlans])), (a_p1, .inr (8, [.int p1_units, .ref a_p1_population, .ref a_p1_area, .ref a_p1_community, .ref a_p1_outer, .ref a_p1_neighbors, .ref a_p1_lengths, .int p1_cores, .int p1_districts, .int p1_tolerance, v_p1_hasPlan, .ref a_p1_plan])), (a_t_isPossible, .inl (k 2, 512, .inl r.2.2)), (a_p1_population, .inl (k 0, 12, .inl p1_population)), (a_p1_community, .inl (k 0, 12, .inl p1_community)), (a_p1_neighbors, .inl (k 0, 12, .inl p1_neighbors))] s.heap.size) (List.toArray [.ref a_t, .ref a_p1]) s 0 0 A = Q
  clear hP hD hD0
  suffices K : ∀ (H : Heap) (locs : List Loc), HOK D A s.heap [(a_t, .inr (0, [.ref a_t_codes, .ref a_t_isPossible, .ref a_t_sets, .ref a_t_plan, .ref a_t_best, .ref a_t_tried, v_t_size, .int t_hasSets, v_t_hasPlans])), (a_p1, .inr (8, [.int p1_units, .ref a_p1_population, .ref a_p1_area, .ref a_p1_community, .ref a_p1_outer, .ref a_p1_neighbors, .ref a_p1_lengths, .int p1_cores, .int p1_districts, .int p1_tolerance, v_p1_hasPlan, .ref a_p1_plan])), (a_t_isPossible, .inl (k 2, 512, .inl t_isPossible)), (a_p1_population, .inl (k 0, 12, .inl p1_population)), (a_p1_community, .inl (k 0, 12, .inl p1_community)), (a_p1_neighbors, .inl (k 0, 12, .inl p1_neighbors))] H locs → W p l e ({ frames := 41, cells := 0, slots := 0, locals := 1307 } : Room) s m (List.toArray [.ref a_t, .ref a_p1]) below meth c H locs 0 0 Q (F0 m 0 ls []) from K s.heap [] hH
  intro H locs hH
  rw [fX0_countBySets] at h
  refine lv_aload_n hx hb dX0_countBySets_0 rfl (lv_at hl 1 rfl) ?_
  refine gk_get (ci := 8) (C := RX9) (T := TX9) (N := 12) hx hb hts u_ws_X9 hown hK hH 1 rfl rfl 0 (by decide) u_fl_X0_50 rfl dX0_countBySets_1 ?_
  refine lv_bipush (v := 9) hx hb dX0_countBySets_4 (by decide) ?_
  refine lv_icmp_le (tgt := 11) hx hb dX0_countBySets_6 (by decide) (fun c1 => ?_) (fun c1 => ?_)
  · replace h := dc_pos c1 h
    refine lv_aload_n hx hb dX0_countBySets_11 rfl (lv_at hl 0 rfl) ?_
    refine lv_aload_n hx hb dX0_countBySets_12 rfl (lv_at hl 1 rfl) ?_
    obtain ⟨q2, hqq2, h⟩ := dc_bind h
    refine gc_Vv (ws' := [(a_t, .inr (0, [.ref a_t_codes, .ref a_t_isPossible, .ref a_t_sets, .ref a_t_plan, .ref a_t_best, .ref a_t_tried, v_t_size, .int q2.1, v_t_hasPlans])), (a_p1, .inr (8, [.int p1_units, .ref a_p1_population, .ref a_p1_area, .ref a_p1_community, .ref a_p1_outer, .ref a_p1_neighbors, .ref a_p1_lengths, .int p1_cores, .int p1_districts, .int p1_tolerance, v_p1_hasPlan, .ref a_p1_plan])), (a_t_isPossible, .inl (k 2, 512, .inl q2.2)), (a_p1_population, .inl (k 0, 12, .inl p1_population)), (a_p1_community, .inl (k 0, 12, .inl p1_community)), (a_p1_neighbors, .inl (k 0, 12, .inl p1_neighbors))]) (As := [.ref a_p1]) (rest := []) (n := 1) (ci := 0) (cq := (RX0, TX0, 9)) hTs ⟨hx, hb, hml, hown, hts⟩ (mX0_findSets l Ts hTs D k H.size a_p1 a_t a_t_codes a_t_isPossible a_t_sets a_t_plan a_t_best a_t_tried a_p1_population a_p1_area a_p1_community a_p1_outer a_p1_neighbors a_p1_lengths a_p1_plan p1_community p1_cores p1_districts p1_neighbors p1_population p1_tolerance p1_units t_hasSets t_isPossible v_p1_hasPlan v_t_hasPlans v_t_size q2 hqq2) u_ml_X0_55 u_im_X0_findSets u_se_X0_findSets u_in_X0 u_co_X0_findSets hd_X0_findSets ⟨Nat.le_of_ble_eq_true rfl, Nat.le_of_ble_eq_true rfl⟩ ⟨rfl, rfl⟩ hK hH hA (cut1 (isC := [0, 1, 2, 3, 4, 5]) rfl rfl rfl rfl rfl) rfl rfl rfl rfl hl.1 (Nat.le_of_ble_eq_true rfl) dX0_countBySets_13 ⟨Nat.le_of_ble_eq_true rfl, Nat.le_of_ble_eq_true rfl⟩ (fun H locs hH => ?_)
    refine lv_aload_n hx hb dX0_countBySets_16 rfl (lv_at hl 0 rfl) ?_
    refine lv_aload_n hx hb dX0_countBySets_17 rfl (lv_at hl 1 rfl) ?_
    obtain ⟨q3, hqq3, h⟩ := dc_bind h
    refine gc_Vi (ws' := [(a_t, .inr (0, [.ref a_t_codes, .ref a_t_isPossible, .ref a_t_sets, .ref a_t_plan, .ref a_t_best, .ref a_t_tried, v_t_size, .int q2.1, v_t_hasPlans])), (a_p1, .inr (8, [.int p1_units, .ref a_p1_population, .ref a_p1_area, .ref a_p1_community, .ref a_p1_outer, .ref a_p1_neighbors, .ref a_p1_lengths, .int p1_cores, .int p1_districts, .int p1_tolerance, v_p1_hasPlan, .ref a_p1_plan])), (a_t_isPossible, .inl (k 2, 512, .inl q2.2)), (a_p1_population, .inl (k 0, 12, .inl p1_population)), (a_p1_community, .inl (k 0, 12, .inl p1_community)), (a_p1_neighbors, .inl (k 0, 12, .inl p1_neighbors))]) (As := []) (rest := [.ref a_t]) (n := 0) (ci := 8) (cq := (RX9, TX9, 12)) hTs ⟨hx, hb, hml, hown, hts⟩ (mX9_allUnits l Ts hTs D k H.size a_p1 a_p1_population a_p1_area a_p1_community a_p1_outer a_p1_neighbors a_p1_lengths a_p1_plan p1_units (.int p1_cores) (.int p1_districts) v_p1_hasPlan (.int p1_tolerance) q3 hqq3) u_ml_X0_69 u_im_X9_allUnits u_se_X9_allUnits u_in_X9 u_co_X9_allUnits hd_X9_allUnits ⟨Nat.le_of_ble_eq_true rfl, Nat.le_of_ble_eq_true rfl⟩ ⟨rfl, rfl⟩ hK hH hA (cut0 (isC := [1]) rfl rfl rfl) rfl rfl rfl rfl hl.1 (Nat.le_of_ble_eq_true rfl) dX0_countBySets_18 ⟨Nat.le_of_ble_eq_true rfl, Nat.le_of_ble_eq_true rfl⟩ (fun H locs hH => ?_)
    refine lv_aload_n hx hb dX0_countBySets_21 rfl (lv_at hl 1 rfl) ?_
    refine gk_get (ci := 8) (C := RX9) (T := TX9) (N := 12) hx hb hts u_ws_X9 hown hK hH 1 rfl rfl 8 (by decide) u_fl_X0_73 rfl dX0_countBySets_22 ?_
    obtain ⟨q4, hqq4, h⟩ := dc_bind h
    refine gc_Si (ws' := [(a_t, .inr (0, [.ref a_t_codes, .ref a_t_isPossible, .ref a_t_sets, .ref a_t_plan, .ref a_t_best, .ref a_t_tried, v_t_size, .int q2.1, v_t_hasPlans])), (a_p1, .inr (8, [.int p1_units, .ref a_p1_population, .ref a_p1_area, .ref a_p1_community, .ref a_p1_outer, .ref a_p1_neighbors, .ref a_p1_lengths, .int p1_cores, .int p1_districts, .int p1_tolerance, v_p1_hasPlan, .ref a_p1_plan])), (a_t_isPossible, .inl (k 2, 512, .inl q2.2)), (a_p1_population, .inl (k 0, 12, .inl p1_population)), (a_p1_community, .inl (k 0, 12, .inl p1_community)), (a_p1_neighbors, .inl (k 0, 12, .inl p1_neighbors))]) (As := [.ref a_t, .int q3, .int p1_districts]) (rest := []) (n := 3) hTs ⟨hx, hb, hml, hown, hts⟩ (mX0_countFrom l Ts hTs 20 D k H.size a_t a_t_codes a_t_isPossible a_t_sets a_t_plan a_t_best a_t_tried q2.2 v_t_hasPlans (.int q2.1) v_t_size q3 p1_districts q4 hqq4) u_ml_X0_76 u_st_X0_countFrom u_in_X0 u_co_X0_countFrom hd_X0_countFrom ⟨Nat.le_of_ble_eq_true rfl, Nat.le_of_ble_eq_true rfl⟩ ⟨rfl, rfl⟩ hK hH hA (cut0 (isC := [0, 2]) rfl rfl rfl) rfl rfl hl.1 (Nat.le_of_ble_eq_true rfl) dX0_countBySets_25 ⟨Nat.le_of_ble_eq_true rfl, Nat.le_of_ble_eq_true rfl⟩ (fun H locs hH => ?_)
    have h := Option.some.inj h
    subst h
    exact ge_i hx hb hr hlocks hQ hK hH hAe rfl dX0_countBySets_28
  · replace h := dc_neg c1 h
    refine lv_iconst (v := 0) hx hb dX0_countBySets_9 (by decide) ?_
    have h := Option.some.inj h
    subst h
    exact ge_i hx hb hr hlocks hQ hK hH hAe rfl dX0_countBySets_10
theorem hd_X4_clear : yX4_clear.cls = RX4 ∧ yX4_clear.cls ≠ "java/lang/invoke/MethodHandle" ∧ yX4_clear.cls ≠ "java/lang/invoke/VarHandle" ∧ (parseMethodDescriptor yX4_clear.desc).map (fun d => d.parameters.length) = some 0 := by decide +kernel
set_option maxHeartbeats 4000000 in
set_option maxRecDepth 100000 in
theorem mX4_clear (l : Launch) (Ts : List Cond) (hTs : ∀ w, w ∈ Ts ↔ w ∈ uT) (D : va_G) (k : Nat → ClassId) (sz : Nat) (a_t : Nat) (a_t_places : Nat) (a_t_sets : Nat) (t_places : Nat → Int32) (t_sets : Nat → Int32) (r : (Nat → Int32) × (Nat → Int32)) (h : fX4_clear t_places t_sets = some r) : Met l yX4_clear (Cond.code yX4_clear cX4_clear 1 none :: Ts) ({ frames := 1, cells := 0, slots := 0, locals := 23 } : Room) (preM D k [.ref a_t] [(a_t, .inr (4, [.ref a_t_places, .ref a_t_sets])), (a_t_places, .inl (k 0, 12, .inl t_places)), (a_t_sets, .inl (k 0, 4, .inl t_sets))] sz) (postV D k [(a_t, .inr (4, [.ref a_t_places, .ref a_t_sets])), (a_t_places, .inl (k 0, 12, .inl t_places)), (a_t_sets, .inl (k 0, 4, .inl t_sets))] [(a_t, .inr (4, [.ref a_t_places, .ref a_t_sets])), (a_t_places, .inl (k 0, 12, .inl r.1)), (a_t_sets, .inl (k 0, 4, .inl r.2))] sz) 0 0 (va_A [(a_t, .inr (4, [.ref a_t_places, .ref a_t_sets])), (a_t_places, .inl (k 0, 12, .inl t_places)), (a_t_sets, .inl (k 0, 4, .inl t_sets))] sz) := by
  refine Met.ofW (cc := cX4_clear) (maxL := 1) (ret := none) (by decide) rfl ?_
  intro p e s m args below meth c s₁ B hml hv
  obtain ⟨rfl, hsz, hP, hK, hD0⟩ := hv
  have hx := B.exec
  have hb := B.bytes
  have hr := B.returns
  have hts0 := atoms_spec (ws := (Cond.code yX4_clear cX4_clear 1 none :: Ts)) B.pre
  have hts : ∀ w ∈ uT, w.before _ s = true := fun w h => hts0 w (List.mem_cons_of_mem _ ((hTs w).mpr h))
  clear hts0
  have hown : s.vm.findClass RX4 = some m.cls := findClass_of_methodNamed B.named
  have hlocks := B.notSynchronized
  subst hsz
  have hD := hD0.self (sz := s.heap.size)
  generalize hAe : va_A [(a_t, .inr (4, [.ref a_t_places, .ref a_t_sets])), (a_t_places, .inl (k 0, 12, .inl t_places)), (a_t_sets, .inl (k 0, 4, .inl t_sets))] s.heap.size = A at hD ⊢
  have hA : ∀ q : Nat, s.heap.size ≤ q → A q := fun q h => by rw [← hAe]; exact Or.inr h
  have hH : HOK D A s.heap [(a_t, .inr (4, [.ref a_t_places, .ref a_t_sets])), (a_t_places, .inl (k 0, 12, .inl t_places)), (a_t_sets, .inl (k 0, 4, .inl t_sets))] s.heap [] := ⟨hP, hD, va_S.rf⟩
  have hl := lv_entry ([.ref a_t]) (n := 1) (Nat.le_of_ble_eq_true rfl)
  rw [lg_entry_eq]
  generalize (lg_sl ([.ref a_t]) ++ List.replicate (1 - (lg_sl ([.ref a_t])).length) Slot.unset).toArray = ls at hl ⊢
  have hl : lv_has ls 1 [(0, .ref a_t)] := hl
  generalize hQ : MQ below (postV D k [(a_t, .inr (4, [.ref a_t_places, .ref a_t_sets])), (a_t_places, .inl (k 0, 12, .inl t_places)), (a_t_sets, .inl (k 0, 4, .inl t_sets))] [(a_t, .inr (4, [.ref a_t_places, .ref a_t_sets])), (a_t_places, .inl (k 0, 12, .inl r.1)), (a_t_sets, .inl (k 0, 4, .inl r.2))] s.heap.size) (List.toArray [.ref a_t]) s 0 0 A = Q
  clear hP hD hD0
  suffices K : ∀ (H : Heap) (locs : List Loc), HOK D A s.heap [(a_t, .inr (4, [.ref a_t_places, .ref a_t_sets])), (a_t_places, .inl (k 0, 12, .inl t_places)), (a_t_sets, .inl (k 0, 4, .inl t_sets))] H locs → W p l e ({ frames := 1, cells := 0, slots := 0, locals := 23 } : Room) s m (List.toArray [.ref a_t]) below meth c H locs 0 0 Q (F0 m 0 ls []) from K s.heap [] hH
  intro H locs hH
  rw [fX4_clear] at h
  refine lv_aload_n hx hb dX4_clear_0 rfl (lv_at hl 0 rfl) ?_
  refine gk_get (ci := 4) (C := RX4) (T := TX4) (N := 2) hx hb hts u_ws_X4 hown hK hH 0 rfl rfl 0 (by decide) u_fl_X4_9 rfl dX4_clear_1 ?_
  refine lv_iconst (v := 0) hx hb dX4_clear_4 (by decide) ?_
  obtain ⟨q1, hqq1, h⟩ := dc_bind h
  refine gc_Sv (ws' := [(a_t, .inr (4, [.ref a_t_places, .ref a_t_sets])), (a_t_places, .inl (k 0, 12, .inl q1)), (a_t_sets, .inl (k 0, 4, .inl t_sets))]) (As := [.ref a_t_places, .int (0 : Int32)]) (rest := []) (n := 2) hTs ⟨hx, hb, hml, hown, hts⟩ (mJ7_fill_53178 l Ts hTs D k H.size 12 a_t_places t_places (0 : Int32) q1 hqq1) u_ml_X4_18 u_st_J7_fill_53178 u_in_J7 u_co_J7_fill_53178 hd_J7_fill_53178 ⟨Nat.le_of_ble_eq_true rfl, Nat.le_of_ble_eq_true rfl⟩ ⟨rfl, rfl⟩ hK hH hA (cut1 (isC := [1]) rfl rfl rfl rfl rfl) rfl rfl hl.1 (Nat.le_of_ble_eq_true rfl) dX4_clear_5 ⟨Nat.le_of_ble_eq_true rfl, Nat.le_of_ble_eq_true rfl⟩ (fun H locs hH => ?_)
  refine lv_aload_n hx hb dX4_clear_8 rfl (lv_at hl 0 rfl) ?_
  refine gk_get (ci := 4) (C := RX4) (T := TX4) (N := 2) hx hb hts u_ws_X4 hown hK hH 0 rfl rfl 1 (by decide) u_fl_X4_15 rfl dX4_clear_9 ?_
  refine lv_iconst (v := 0) hx hb dX4_clear_12 (by decide) ?_
  obtain ⟨q2, hqq2, h⟩ := dc_bind h
  refine gc_Sv (ws' := [(a_t, .inr (4, [.ref a_t_places, .ref a_t_sets])), (a_t_places, .inl (k 0, 12, .inl q1)), (a_t_sets, .inl (k 0, 4, .inl q2))]) (As := [.ref a_t_sets, .int (0 : Int32)]) (rest := []) (n := 2) hTs ⟨hx, hb, hml, hown, hts⟩ (mJ7_fill_53178 l Ts hTs D k H.size 4 a_t_sets t_sets (0 : Int32) q2 hqq2) u_ml_X4_18 u_st_J7_fill_53178 u_in_J7 u_co_J7_fill_53178 hd_J7_fill_53178 ⟨Nat.le_of_ble_eq_true rfl, Nat.le_of_ble_eq_true rfl⟩ ⟨rfl, rfl⟩ hK hH hA (cut1 (isC := [2]) rfl rfl rfl rfl rfl) rfl rfl hl.1 (Nat.le_of_ble_eq_true rfl) dX4_clear_13 ⟨Nat.le_of_ble_eq_true rfl, Nat.le_of_ble_eq_true rfl⟩ (fun H locs hH => ?_)
  have h := Option.some.inj h
  subst h
  exact ge_v hx hb hr hlocks hQ hK hH hAe dX4_clear_16
theorem hd_X4_give : yX4_give.cls = RX4 ∧ yX4_give.cls ≠ "java/lang/invoke/MethodHandle" ∧ yX4_give.cls ≠ "java/lang/invoke/VarHandle" ∧ (parseMethodDescriptor yX4_give.desc).map (fun d => d.parameters.length) = some 2 := by decide +kernel
set_option maxHeartbeats 4000000 in
set_option maxRecDepth 100000 in
theorem mX4_give (l : Launch) (Ts : List Cond) (hTs : ∀ w, w ∈ Ts ↔ w ∈ uT) (D : va_G) (k : Nat → ClassId) (sz : Nat) (a_t : Nat) (a_t_places : Nat) (a_t_sets : Nat) (t_places : Nat → Int32) (t_sets : Nat → Int32) (x1 : Int32) (x2 : Int32) (r : (Nat → Int32) × (Nat → Int32)) (h : fX4_give t_places t_sets x1 x2 = some r) : Met l yX4_give (Cond.code yX4_give cX4_give 3 none :: Ts) ({ frames := 0, cells := 0, slots := 0, locals := 0 } : Room) (preM D k [.ref a_t, .int x1, .int x2] [(a_t, .inr (4, [.ref a_t_places, .ref a_t_sets])), (a_t_places, .inl (k 0, 12, .inl t_places)), (a_t_sets, .inl (k 0, 4, .inl t_sets))] sz) (postV D k [(a_t, .inr (4, [.ref a_t_places, .ref a_t_sets])), (a_t_places, .inl (k 0, 12, .inl t_places)), (a_t_sets, .inl (k 0, 4, .inl t_sets))] [(a_t, .inr (4, [.ref a_t_places, .ref a_t_sets])), (a_t_places, .inl (k 0, 12, .inl r.1)), (a_t_sets, .inl (k 0, 4, .inl r.2))] sz) 0 0 (va_A [(a_t, .inr (4, [.ref a_t_places, .ref a_t_sets])), (a_t_places, .inl (k 0, 12, .inl t_places)), (a_t_sets, .inl (k 0, 4, .inl t_sets))] sz) := by
  refine Met.ofW (cc := cX4_give) (maxL := 3) (ret := none) (by decide) rfl ?_
  intro p e s m args below meth c s₁ B hml hv
  obtain ⟨rfl, hsz, hP, hK, hD0⟩ := hv
  have hx := B.exec
  have hb := B.bytes
  have hr := B.returns
  have hts0 := atoms_spec (ws := (Cond.code yX4_give cX4_give 3 none :: Ts)) B.pre
  have hts : ∀ w ∈ uT, w.before _ s = true := fun w h => hts0 w (List.mem_cons_of_mem _ ((hTs w).mpr h))
  clear hts0
  have hown : s.vm.findClass RX4 = some m.cls := findClass_of_methodNamed B.named
  have hlocks := B.notSynchronized
  subst hsz
  have hD := hD0.self (sz := s.heap.size)
  generalize hAe : va_A [(a_t, .inr (4, [.ref a_t_places, .ref a_t_sets])), (a_t_places, .inl (k 0, 12, .inl t_places)), (a_t_sets, .inl (k 0, 4, .inl t_sets))] s.heap.size = A at hD ⊢
  have hA : ∀ q : Nat, s.heap.size ≤ q → A q := fun q h => by rw [← hAe]; exact Or.inr h
  have hH : HOK D A s.heap [(a_t, .inr (4, [.ref a_t_places, .ref a_t_sets])), (a_t_places, .inl (k 0, 12, .inl t_places)), (a_t_sets, .inl (k 0, 4, .inl t_sets))] s.heap [] := ⟨hP, hD, va_S.rf⟩
  have hl := lv_entry ([.ref a_t, .int x1, .int x2]) (n := 3) (Nat.le_of_ble_eq_true rfl)
  rw [lg_entry_eq]
  generalize (lg_sl ([.ref a_t, .int x1, .int x2]) ++ List.replicate (3 - (lg_sl ([.ref a_t, .int x1, .int x2])).length) Slot.unset).toArray = ls at hl ⊢
  have hl : lv_has ls 3 [(0, .ref a_t), (1, .int x1), (2, .int x2)] := hl
  generalize hQ : MQ below (postV D k [(a_t, .inr (4, [.ref a_t_places, .ref a_t_sets])), (a_t_places, .inl (k 0, 12, .inl t_places)), (a_t_sets, .inl (k 0, 4, .inl t_sets))] [(a_t, .inr (4, [.ref a_t_places, .ref a_t_sets])), (a_t_places, .inl (k 0, 12, .inl r.1)), (a_t_sets, .inl (k 0, 4, .inl r.2))] s.heap.size) (List.toArray [.ref a_t, .int x1, .int x2]) s 0 0 A = Q
  clear hP hD hD0
  suffices K : ∀ (H : Heap) (locs : List Loc), HOK D A s.heap [(a_t, .inr (4, [.ref a_t_places, .ref a_t_sets])), (a_t_places, .inl (k 0, 12, .inl t_places)), (a_t_sets, .inl (k 0, 4, .inl t_sets))] H locs → W p l e ({ frames := 0, cells := 0, slots := 0, locals := 0 } : Room) s m (List.toArray [.ref a_t, .int x1, .int x2]) below meth c H locs 0 0 Q (F0 m 0 ls []) from K s.heap [] hH
  intro H locs hH
  rw [fX4_give] at h
  refine lv_aload_n hx hb dX4_give_0 rfl (lv_at hl 0 rfl) ?_
  refine gk_get (ci := 4) (C := RX4) (T := TX4) (N := 2) hx hb hts u_ws_X4 hown hK hH 0 rfl rfl 1 (by decide) u_fl_X4_15 rfl dX4_give_1 ?_
  refine lv_aload_n hx hb dX4_give_4 rfl (lv_at hl 0 rfl) ?_
  refine gk_get (ci := 4) (C := RX4) (T := TX4) (N := 2) hx hb hts u_ws_X4 hown hK hH 0 rfl rfl 0 (by decide) u_fl_X4_9 rfl dX4_give_5 ?_
  refine lv_iload_n hx hb dX4_give_8 rfl (lv_at hl 1 rfl) ?_
  obtain ⟨g1, h⟩ := dc_need h
  refine gk_iald hx hb hK hH 1 rfl (dk_in g1) dX4_give_9 ?_
  refine lv_dup2_11 hx hb dX4_give_10 rfl rfl ?_
  obtain ⟨g2, h⟩ := dc_need h
  refine gk_iald hx hb hK hH 2 rfl (dk_in g2) dX4_give_11 ?_
  refine lv_iconst (v := 1) hx hb dX4_give_12 (by decide) ?_
  refine lv_iload_n hx hb dX4_give_13 rfl (lv_at hl 1 rfl) ?_
  refine lv_ishl hx hb dX4_give_14 ?_
  refine lv_iconst (v := -1) hx hb dX4_give_15 (by decide) ?_
  refine lv_ixor hx hb dX4_give_16 ?_
  refine lv_iand hx hb dX4_give_17 ?_
  obtain ⟨g3, h⟩ := dc_need h
  refine gk_iast hx hb hK hH 2 rfl (dk_in g3) dX4_give_18 [(a_t, .inr (4, [.ref a_t_places, .ref a_t_sets])), (a_t_places, .inl (k 0, 12, .inl t_places)), (a_t_sets, .inl (k 0, 4, .inl (upd t_sets (t_places x1.toNatClampNeg).toNatClampNeg ((t_sets (t_places x1.toNatClampNeg).toNatClampNeg) &&& (((1 : Int32) <<< (x1 &&& 31)) ^^^ (-1 : Int32))))))] rfl (fun H locs hH => ?_)
  refine lv_aload_n hx hb dX4_give_19 rfl (lv_at hl 0 rfl) ?_
  refine gk_get (ci := 4) (C := RX4) (T := TX4) (N := 2) hx hb hts u_ws_X4 hown hK hH 0 rfl rfl 0 (by decide) u_fl_X4_9 rfl dX4_give_20 ?_
  refine lv_iload_n hx hb dX4_give_23 rfl (lv_at hl 1 rfl) ?_
  refine lv_iload_n hx hb dX4_give_24 rfl (lv_at hl 2 rfl) ?_
  obtain ⟨g4, h⟩ := dc_need h
  refine gk_iast hx hb hK hH 1 rfl (dk_in g4) dX4_give_25 [(a_t, .inr (4, [.ref a_t_places, .ref a_t_sets])), (a_t_places, .inl (k 0, 12, .inl (upd t_places x1.toNatClampNeg x2))), (a_t_sets, .inl (k 0, 4, .inl (upd t_sets (t_places x1.toNatClampNeg).toNatClampNeg ((t_sets (t_places x1.toNatClampNeg).toNatClampNeg) &&& (((1 : Int32) <<< (x1 &&& 31)) ^^^ (-1 : Int32))))))] rfl (fun H locs hH => ?_)
  refine lv_aload_n hx hb dX4_give_26 rfl (lv_at hl 0 rfl) ?_
  refine gk_get (ci := 4) (C := RX4) (T := TX4) (N := 2) hx hb hts u_ws_X4 hown hK hH 0 rfl rfl 1 (by decide) u_fl_X4_15 rfl dX4_give_27 ?_
  refine lv_iload_n hx hb dX4_give_30 rfl (lv_at hl 2 rfl) ?_
  refine lv_dup2_11 hx hb dX4_give_31 rfl rfl ?_
  obtain ⟨g5, h⟩ := dc_need h
  refine gk_iald hx hb hK hH 2 rfl (dk_in g5) dX4_give_32 ?_
  refine lv_iconst (v := 1) hx hb dX4_give_33 (by decide) ?_
  refine lv_iload_n hx hb dX4_give_34 rfl (lv_at hl 1 rfl) ?_
  refine lv_ishl hx hb dX4_give_35 ?_
  refine lv_ior hx hb dX4_give_36 ?_
  obtain ⟨g6, h⟩ := dc_need h
  refine gk_iast hx hb hK hH 2 rfl (dk_in g6) dX4_give_37 [(a_t, .inr (4, [.ref a_t_places, .ref a_t_sets])), (a_t_places, .inl (k 0, 12, .inl (upd t_places x1.toNatClampNeg x2))), (a_t_sets, .inl (k 0, 4, .inl (upd (upd t_sets (t_places x1.toNatClampNeg).toNatClampNeg ((t_sets (t_places x1.toNatClampNeg).toNatClampNeg) &&& (((1 : Int32) <<< (x1 &&& 31)) ^^^ (-1 : Int32)))) x2.toNatClampNeg (((upd t_sets (t_places x1.toNatClampNeg).toNatClampNeg ((t_sets (t_places x1.toNatClampNeg).toNatClampNeg) &&& (((1 : Int32) <<< (x1 &&& 31)) ^^^ (-1 : Int32)))) x2.toNatClampNeg) ||| ((1 : Int32) <<< (x1 &&& 31))))))] rfl (fun H locs hH => ?_)
  have h := Option.some.inj h
  subst h
  exact ge_v hx hb hr hlocks hQ hK hH hAe dX4_give_38
theorem hd_X0_copyPlan : yX0_copyPlan.cls = RX0 ∧ yX0_copyPlan.cls ≠ "java/lang/invoke/MethodHandle" ∧ yX0_copyPlan.cls ≠ "java/lang/invoke/VarHandle" ∧ (parseMethodDescriptor yX0_copyPlan.desc).map (fun d => d.parameters.length) = some 3 := by decide +kernel
set_option maxHeartbeats 4000000 in
set_option maxRecDepth 100000 in
theorem mX0_copyPlan (l : Launch) (Ts : List Cond) (hTs : ∀ w, w ∈ Ts ↔ w ∈ uT) (D : va_G) (k : Nat → ClassId) (sz : Nat) (a_p2 : Nat) (a_p3 : Nat) (a_t : Nat) (a_t_codes : Nat) (a_t_isPossible : Nat) (a_t_sets : Nat) (a_t_plan : Nat) (a_t_best : Nat) (a_t_tried : Nat) (a_p3_places : Nat) (a_p3_sets : Nat) (a_p2_population : Nat) (a_p2_area : Nat) (a_p2_community : Nat) (a_p2_outer : Nat) (a_p2_neighbors : Nat) (a_p2_lengths : Nat) (a_p2_plan : Nat) (p2_units : Int32) (p3_places : Nat → Int32) (p3_sets : Nat → Int32) (t_codes : Nat → Int32) (t_size : Int32) (v_p2_cores : Value) (v_p2_districts : Value) (v_p2_hasPlan : Value) (v_p2_tolerance : Value) (v_t_hasPlans : Value) (v_t_hasSets : Value) (x1 : Int32) (r : (Nat → Int32) × (Nat → Int32)) (h : fX0_copyPlan p2_units p3_places p3_sets t_codes t_size x1 = some r) : Met l yX0_copyPlan (Cond.code yX0_copyPlan cX0_copyPlan 5 none :: Ts) ({ frames := 2, cells := 0, slots := 0, locals := 43 } : Room) (preM D k [.ref a_t, .int x1, .ref a_p2, .ref a_p3] [(a_t, .inr (0, [.ref a_t_codes, .ref a_t_isPossible, .ref a_t_sets, .ref a_t_plan, .ref a_t_best, .ref a_t_tried, .int t_size, v_t_hasSets, v_t_hasPlans])), (a_p3, .inr (4, [.ref a_p3_places, .ref a_p3_sets])), (a_p3_places, .inl (k 0, 12, .inl p3_places)), (a_p3_sets, .inl (k 0, 4, .inl p3_sets)), (a_p2, .inr (8, [.int p2_units, .ref a_p2_population, .ref a_p2_area, .ref a_p2_community, .ref a_p2_outer, .ref a_p2_neighbors, .ref a_p2_lengths, v_p2_cores, v_p2_districts, v_p2_tolerance, v_p2_hasPlan, .ref a_p2_plan])), (a_t_codes, .inl (k 0, 7770, .inl t_codes))] sz) (postV D k [(a_t, .inr (0, [.ref a_t_codes, .ref a_t_isPossible, .ref a_t_sets, .ref a_t_plan, .ref a_t_best, .ref a_t_tried, .int t_size, v_t_hasSets, v_t_hasPlans])), (a_p3, .inr (4, [.ref a_p3_places, .ref a_p3_sets])), (a_p3_places, .inl (k 0, 12, .inl p3_places)), (a_p3_sets, .inl (k 0, 4, .inl p3_sets)), (a_p2, .inr (8, [.int p2_units, .ref a_p2_population, .ref a_p2_area, .ref a_p2_community, .ref a_p2_outer, .ref a_p2_neighbors, .ref a_p2_lengths, v_p2_cores, v_p2_districts, v_p2_tolerance, v_p2_hasPlan, .ref a_p2_plan])), (a_t_codes, .inl (k 0, 7770, .inl t_codes))] [(a_t, .inr (0, [.ref a_t_codes, .ref a_t_isPossible, .ref a_t_sets, .ref a_t_plan, .ref a_t_best, .ref a_t_tried, .int t_size, v_t_hasSets, v_t_hasPlans])), (a_p3, .inr (4, [.ref a_p3_places, .ref a_p3_sets])), (a_p3_places, .inl (k 0, 12, .inl r.1)), (a_p3_sets, .inl (k 0, 4, .inl r.2)), (a_p2, .inr (8, [.int p2_units, .ref a_p2_population, .ref a_p2_area, .ref a_p2_community, .ref a_p2_outer, .ref a_p2_neighbors, .ref a_p2_lengths, v_p2_cores, v_p2_districts, v_p2_tolerance, v_p2_hasPlan, .ref a_p2_plan])), (a_t_codes, .inl (k 0, 7770, .inl t_codes))] sz) 0 0 (va_A [(a_t, .inr (0, [.ref a_t_codes, .ref a_t_isPossible, .ref a_t_sets, .ref a_t_plan, .ref a_t_best, .ref a_t_tried, .int t_size, v_t_hasSets, v_t_hasPlans])), (a_p3, .inr (4, [.ref a_p3_places, .ref a_p3_sets])), (a_p3_places, .inl (k 0, 12, .inl p3_places)), (a_p3_sets, .inl (k 0, 4, .inl p3_sets)), (a_p2, .inr (8, [.int p2_units, .ref a_p2_population, .ref a_p2_area, .ref a_p2_community, .ref a_p2_outer, .ref a_p2_neighbors, .ref a_p2_lengths, v_p2_cores, v_p2_districts, v_p2_tolerance, v_p2_hasPlan, .ref a_p2_plan])), (a_t_codes, .inl (k 0, 7770, .inl t_codes))] sz) := by
  refine Met.ofW (cc := cX0_copyPlan) (maxL := 5) (ret := none) (by decide) rfl ?_
  intro p e s m args below meth c s₁ B hml hv
  obtain ⟨rfl, hsz, hP, hK, hD0⟩ := hv
  have hx := B.exec
  have hb := B.bytes
  have hr := B.returns
  have hts0 := atoms_spec (ws := (Cond.code yX0_copyPlan cX0_copyPlan 5 none :: Ts)) B.pre
  have hts : ∀ w ∈ uT, w.before _ s = true := fun w h => hts0 w (List.mem_cons_of_mem _ ((hTs w).mpr h))
  clear hts0
  have hown : s.vm.findClass RX0 = some m.cls := findClass_of_methodNamed B.named
  have hlocks := B.notSynchronized
  subst hsz
  have hD := hD0.self (sz := s.heap.size)
  generalize hAe : va_A [(a_t, .inr (0, [.ref a_t_codes, .ref a_t_isPossible, .ref a_t_sets, .ref a_t_plan, .ref a_t_best, .ref a_t_tried, .int t_size, v_t_hasSets, v_t_hasPlans])), (a_p3, .inr (4, [.ref a_p3_places, .ref a_p3_sets])), (a_p3_places, .inl (k 0, 12, .inl p3_places)), (a_p3_sets, .inl (k 0, 4, .inl p3_sets)), (a_p2, .inr (8, [.int p2_units, .ref a_p2_population, .ref a_p2_area, .ref a_p2_community, .ref a_p2_outer, .ref a_p2_neighbors, .ref a_p2_lengths, v_p2_cores, v_p2_districts, v_p2_tolerance, v_p2_hasPlan, .ref a_p2_plan])), (a_t_codes, .inl (k 0, 7770, .inl t_codes))] s.heap.size = A at hD ⊢
  have hA : ∀ q : Nat, s.heap.size ≤ q → A q := fun q h => by rw [← hAe]; exact Or.inr h
  have hH : HOK D A s.heap [(a_t, .inr (0, [.ref a_t_codes, .ref a_t_isPossible, .ref a_t_sets, .ref a_t_plan, .ref a_t_best, .ref a_t_tried, .int t_size, v_t_hasSets, v_t_hasPlans])), (a_p3, .inr (4, [.ref a_p3_places, .ref a_p3_sets])), (a_p3_places, .inl (k 0, 12, .inl p3_places)), (a_p3_sets, .inl (k 0, 4, .inl p3_sets)), (a_p2, .inr (8, [.int p2_units, .ref a_p2_population, .ref a_p2_area, .ref a_p2_community, .ref a_p2_outer, .ref a_p2_neighbors, .ref a_p2_lengths, v_p2_cores, v_p2_districts, v_p2_tolerance, v_p2_hasPlan, .ref a_p2_plan])), (a_t_codes, .inl (k 0, 7770, .inl t_codes))] s.heap [] := ⟨hP, hD, va_S.rf⟩
  have hl := lv_entry ([.ref a_t, .int x1, .ref a_p2, .ref a_p3]) (n := 5) (Nat.le_of_ble_eq_true rfl)
  rw [lg_entry_eq]
  generalize (lg_sl ([.ref a_t, .int x1, .ref a_p2, .ref a_p3]) ++ List.replicate (5 - (lg_sl ([.ref a_t, .int x1, .ref a_p2, .ref a_p3])).length) Slot.unset).toArray = ls at hl ⊢
  have hl : lv_has ls 5 [(0, .ref a_t), (1, .int x1), (2, .ref a_p2), (3, .ref a_p3)] := hl
  generalize hQ : MQ below (postV D k [(a_t, .inr (0, [.ref a_t_codes, .ref a_t_isPossible, .ref a_t_sets, .ref a_t_plan, .ref a_t_best, .ref a_t_tried, .int t_size, v_t_hasSets, v_t_hasPlans])), (a_p3, .inr (4, [.ref a_p3_places, .ref a_p3_sets])), (a_p3_places, .inl (k 0, 12, .inl p3_places)), (a_p3_sets, .inl (k 0, 4, .inl p3_sets)), (a_p2, .inr (8, [.int p2_units, .ref a_p2_population, .ref a_p2_area, .ref a_p2_community, .ref a_p2_outer, .ref a_p2_neighbors, .ref a_p2_lengths, v_p2_cores, v_p2_districts, v_p2_tolerance, v_p2_hasPlan, .ref a_p2_plan])), (a_t_codes, .inl (k 0, 7770, .inl t_codes))] [(a_t, .inr (0, [.ref a_t_codes, .ref a_t_isPossible, .ref a_t_sets, .ref a_t_plan, .ref a_t_best, .ref a_t_tried, .int t_size, v_t_hasSets, v_t_hasPlans])), (a_p3, .inr (4, [.ref a_p3_places, .ref a_p3_sets])), (a_p3_places, .inl (k 0, 12, .inl r.1)), (a_p3_sets, .inl (k 0, 4, .inl r.2)), (a_p2, .inr (8, [.int p2_units, .ref a_p2_population, .ref a_p2_area, .ref a_p2_community, .ref a_p2_outer, .ref a_p2_neighbors, .ref a_p2_lengths, v_p2_cores, v_p2_districts, v_p2_tolerance, v_p2_hasPlan, .ref a_p2_plan])), (a_t_codes, .inl (k 0, 7770, .inl t_codes))] s.heap.size) (List.toArray [.ref a_t, .int x1, .ref a_p2, .ref a_p3]) s 0 0 A = Q
  clear hP hD hD0
  suffices K : ∀ (H : Heap) (locs : List Loc), HOK D A s.heap [(a_t, .inr (0, [.ref a_t_codes, .ref a_t_isPossible, .ref a_t_sets, .ref a_t_plan, .ref a_t_best, .ref a_t_tried, .int t_size, v_t_hasSets, v_t_hasPlans])), (a_p3, .inr (4, [.ref a_p3_places, .ref a_p3_sets])), (a_p3_places, .inl (k 0, 12, .inl p3_places)), (a_p3_sets, .inl (k 0, 4, .inl p3_sets)), (a_p2, .inr (8, [.int p2_units, .ref a_p2_population, .ref a_p2_area, .ref a_p2_community, .ref a_p2_outer, .ref a_p2_neighbors, .ref a_p2_lengths, v_p2_cores, v_p2_districts, v_p2_tolerance, v_p2_hasPlan, .ref a_p2_plan])), (a_t_codes, .inl (k 0, 7770, .inl t_codes))] H locs → W p l e ({ frames := 2, cells := 0, slots := 0, locals := 43 } : Room) s m (List.toArray [.ref a_t, .int x1, .ref a_p2, .ref a_p3]) below meth c H locs 0 0 Q (F0 m 0 ls []) from K s.heap [] hH
  intro H locs hH
  have L20 : ∀ (n : Nat), ∀ (kf : (Nat → Int32) → (Nat → Int32) → Option ((Nat → Int32) × (Nat → Int32))) (y20_4 : Int32) (y20_p3_places : Nat → Int32) (y20_p3_sets : Nat → Int32), fX0_copyPlan_L20 p2_units t_codes x1 n kf y20_4 y20_p3_places y20_p3_sets = some r → (∀ (z20_p3_places : Nat → Int32) (z20_p3_sets : Nat → Int32) (H : Heap) (locs : List Loc) (ls : Array Slot), kf z20_p3_places z20_p3_sets = some r → HOK D A s.heap [(a_t, .inr (0, [.ref a_t_codes, .ref a_t_isPossible, .ref a_t_sets, .ref a_t_plan, .ref a_t_best, .ref a_t_tried, .int t_size, v_t_hasSets, v_t_hasPlans])), (a_p3, .inr (4, [.ref a_p3_places, .ref a_p3_sets])), (a_p3_places, .inl (k 0, 12, .inl z20_p3_places)), (a_p3_sets, .inl (k 0, 4, .inl z20_p3_sets)), (a_p2, .inr (8, [.int p2_units, .ref a_p2_population, .ref a_p2_area, .ref a_p2_community, .ref a_p2_outer, .ref a_p2_neighbors, .ref a_p2_lengths, v_p2_cores, v_p2_districts, v_p2_tolerance, v_p2_hasPlan, .ref a_p2_plan])), (a_t_codes, .inl (k 0, 7770, .inl t_codes))] H locs → lv_has ls 5 [] → W p l e ({ frames := 2, cells := 0, slots := 0, locals := 43 } : Room) s m (List.toArray [.ref a_t, .int x1, .ref a_p2, .ref a_p3]) below meth c H locs 0 0 Q (F0 m 54 ls [])) → ∀ (H : Heap) (locs : List Loc) (ls : Array Slot), HOK D A s.heap [(a_t, .inr (0, [.ref a_t_codes, .ref a_t_isPossible, .ref a_t_sets, .ref a_t_plan, .ref a_t_best, .ref a_t_tried, .int t_size, v_t_hasSets, v_t_hasPlans])), (a_p3, .inr (4, [.ref a_p3_places, .ref a_p3_sets])), (a_p3_places, .inl (k 0, 12, .inl y20_p3_places)), (a_p3_sets, .inl (k 0, 4, .inl y20_p3_sets)), (a_p2, .inr (8, [.int p2_units, .ref a_p2_population, .ref a_p2_area, .ref a_p2_community, .ref a_p2_outer, .ref a_p2_neighbors, .ref a_p2_lengths, v_p2_cores, v_p2_districts, v_p2_tolerance, v_p2_hasPlan, .ref a_p2_plan])), (a_t_codes, .inl (k 0, 7770, .inl t_codes))] H locs → lv_has ls 5 [(0, .ref a_t), (1, .int x1), (2, .ref a_p2), (3, .ref a_p3), (4, .int y20_4)] → W p l e ({ frames := 2, cells := 0, slots := 0, locals := 43 } : Room) s m (List.toArray [.ref a_t, .int x1, .ref a_p2, .ref a_p3]) below meth c H locs 0 0 Q (F0 m 20 ls []) := by
    intro n
    induction n with
    | zero =>
      intro kf y20_4 y20_p3_places y20_p3_sets h
      exact absurd h (by rw [fX0_copyPlan_L20]; exact fun q => by cases q)
    | succ n ih =>
      intro kf y20_4 y20_p3_places y20_p3_sets h kk H locs ls hH hl
      rw [fX0_copyPlan_L20] at h
      refine lv_iload hx hb dX0_copyPlan_20 (lv_at hl 4 rfl) ?_
      refine lv_aload_n hx hb dX0_copyPlan_22 rfl (lv_at hl 2 rfl) ?_
      refine gk_get (ci := 8) (C := RX9) (T := TX9) (N := 12) hx hb hts u_ws_X9 hown hK hH 4 rfl rfl 0 (by decide) u_fl_X0_50 rfl dX0_copyPlan_23 ?_
      refine lv_icmp_ge (tgt := 54) hx hb dX0_copyPlan_26 (by decide) (fun c4 => ?_) (fun c4 => ?_)
      · replace h := dc_pos c4 h
        exact kk y20_p3_places y20_p3_sets H locs ls h hH (lv_sub hl [] rfl)
      · replace h := dc_neg c4 h
        refine lv_aload_n hx hb dX0_copyPlan_29 rfl (lv_at hl 3 rfl) ?_
        refine lv_iload hx hb dX0_copyPlan_30 (lv_at hl 4 rfl) ?_
        refine lv_aload_n hx hb dX0_copyPlan_32 rfl (lv_at hl 0 rfl) ?_
        refine gk_get (ci := 0) (C := RX0) (T := TX0) (N := 9) hx hb hts u_ws_X0 hown hK hH 0 rfl rfl 0 (by decide) u_fl_X0_9 rfl dX0_copyPlan_33 ?_
        refine lv_iload_n hx hb dX0_copyPlan_36 rfl (lv_at hl 1 rfl) ?_
        obtain ⟨g5, h⟩ := dc_need h
        refine gk_iald hx hb hK hH 5 rfl (dk_in g5) dX0_copyPlan_37 ?_
        refine lv_iconst (v := 2) hx hb dX0_copyPlan_38 (by decide) ?_
        refine lv_iload hx hb dX0_copyPlan_39 (lv_at hl 4 rfl) ?_
        refine lv_imul hx hb dX0_copyPlan_41 ?_
        refine lv_ishr hx hb dX0_copyPlan_42 ?_
        refine lv_iconst (v := 3) hx hb dX0_copyPlan_43 (by decide) ?_
        refine lv_iand hx hb dX0_copyPlan_44 ?_
        obtain ⟨q6, hqq6, h⟩ := dc_bind h
        refine gc_Vv (ws' := [(a_t, .inr (0, [.ref a_t_codes, .ref a_t_isPossible, .ref a_t_sets, .ref a_t_plan, .ref a_t_best, .ref a_t_tried, .int t_size, v_t_hasSets, v_t_hasPlans])), (a_p3, .inr (4, [.ref a_p3_places, .ref a_p3_sets])), (a_p3_places, .inl (k 0, 12, .inl q6.1)), (a_p3_sets, .inl (k 0, 4, .inl q6.2)), (a_p2, .inr (8, [.int p2_units, .ref a_p2_population, .ref a_p2_area, .ref a_p2_community, .ref a_p2_outer, .ref a_p2_neighbors, .ref a_p2_lengths, v_p2_cores, v_p2_districts, v_p2_tolerance, v_p2_hasPlan, .ref a_p2_plan])), (a_t_codes, .inl (k 0, 7770, .inl t_codes))]) (As := [.int y20_4, .int (((t_codes x1.toNatClampNeg) >>> (((2 : Int32) * y20_4) &&& 31)) &&& (3 : Int32))]) (rest := []) (n := 2) (ci := 4) (cq := (RX4, TX4, 2)) hTs ⟨hx, hb, hml, hown, hts⟩ (mX4_give l Ts hTs D k H.size a_p3 a_p3_places a_p3_sets y20_p3_places y20_p3_sets y20_4 (((t_codes x1.toNatClampNeg) >>> (((2 : Int32) * y20_4) &&& 31)) &&& (3 : Int32)) q6 hqq6) u_ml_X0_83 u_im_X4_give u_se_X4_give u_in_X4 u_co_X4_give hd_X4_give ⟨Nat.le_of_ble_eq_true rfl, Nat.le_of_ble_eq_true rfl⟩ ⟨rfl, rfl⟩ hK hH hA (cut1 (isC := [1, 2, 3]) rfl rfl rfl rfl rfl) rfl rfl rfl rfl hl.1 (Nat.le_of_ble_eq_true rfl) dX0_copyPlan_45 ⟨Nat.le_of_ble_eq_true rfl, Nat.le_of_ble_eq_true rfl⟩ (fun H locs hH => ?_)
        refine lv_iinc (v := (y20_4 + (1 : Int32))) (lv' := [(4, .int (y20_4 + (1 : Int32))), (0, .ref a_t), (1, .int x1), (2, .ref a_p2), (3, .ref a_p3)]) hx hb dX0_copyPlan_48 hl (k := 4) rfl rfl (by decide) rfl (fun ls hl => ?_)
        refine lv_goto (tgt := 20) hx hb dX0_copyPlan_51 (by decide) ?_
        exact ih kf (y20_4 + (1 : Int32)) q6.1 q6.2 h kk H locs ls hH (lv_sub hl [1, 2, 3, 4, 0] rfl)
  rw [fX0_copyPlan] at h
  refine lv_aload_n hx hb dX0_copyPlan_0 rfl (lv_at hl 3 rfl) ?_
  obtain ⟨q1, hqq1, h⟩ := dc_bind h
  refine gc_Vv (ws' := [(a_t, .inr (0, [.ref a_t_codes, .ref a_t_isPossible, .ref a_t_sets, .ref a_t_plan, .ref a_t_best, .ref a_t_tried, .int t_size, v_t_hasSets, v_t_hasPlans])), (a_p3, .inr (4, [.ref a_p3_places, .ref a_p3_sets])), (a_p3_places, .inl (k 0, 12, .inl q1.1)), (a_p3_sets, .inl (k 0, 4, .inl q1.2)), (a_p2, .inr (8, [.int p2_units, .ref a_p2_population, .ref a_p2_area, .ref a_p2_community, .ref a_p2_outer, .ref a_p2_neighbors, .ref a_p2_lengths, v_p2_cores, v_p2_districts, v_p2_tolerance, v_p2_hasPlan, .ref a_p2_plan])), (a_t_codes, .inl (k 0, 7770, .inl t_codes))]) (As := []) (rest := []) (n := 0) (ci := 4) (cq := (RX4, TX4, 2)) hTs ⟨hx, hb, hml, hown, hts⟩ (mX4_clear l Ts hTs D k H.size a_p3 a_p3_places a_p3_sets p3_places p3_sets q1 hqq1) u_ml_X0_80 u_im_X4_clear u_se_X4_clear u_in_X4 u_co_X4_clear hd_X4_clear ⟨Nat.le_of_ble_eq_true rfl, Nat.le_of_ble_eq_true rfl⟩ ⟨rfl, rfl⟩ hK hH hA (cut1 (isC := [1, 2, 3]) rfl rfl rfl rfl rfl) rfl rfl rfl rfl hl.1 (Nat.le_of_ble_eq_true rfl) dX0_copyPlan_1 ⟨Nat.le_of_ble_eq_true rfl, Nat.le_of_ble_eq_true rfl⟩ (fun H locs hH => ?_)
  refine lv_iload_n hx hb dX0_copyPlan_4 rfl (lv_at hl 1 rfl) ?_
  refine lv_if_lt (tgt := 16) hx hb dX0_copyPlan_5 (by decide) (fun c2 => ?_) (fun c2 => ?_)
  · replace h := dc_pos c2 h
    have h := Option.some.inj h
    subst h
    exact ge_v hx hb hr hlocks hQ hK hH hAe dX0_copyPlan_16
  · replace h := dc_neg c2 h
    refine lv_iload_n hx hb dX0_copyPlan_8 rfl (lv_at hl 1 rfl) ?_
    refine lv_aload_n hx hb dX0_copyPlan_9 rfl (lv_at hl 0 rfl) ?_
    refine gk_get (ci := 0) (C := RX0) (T := TX0) (N := 9) hx hb hts u_ws_X0 hown hK hH 0 rfl rfl 6 (by decide) u_fl_X0_39 rfl dX0_copyPlan_10 ?_
    refine lv_icmp_lt (tgt := 17) hx hb dX0_copyPlan_13 (by decide) (fun c3 => ?_) (fun c3 => ?_)
    · replace h := dc_pos c3 h
      refine lv_iconst (v := 0) hx hb dX0_copyPlan_17 (by decide) ?_
      refine lv_istore (lv' := [(4, .int (0 : Int32)), (0, .ref a_t), (1, .int x1), (2, .ref a_p2), (3, .ref a_p3)]) hx hb dX0_copyPlan_18 hl (by decide) rfl (fun ls hl => ?_)
      refine L20 _ _ (0 : Int32) q1.1 q1.2 h (fun z20_p3_places z20_p3_sets H locs ls h hH hl => ?_) H locs ls hH (lv_sub hl [1, 2, 3, 4, 0] rfl)
      have h := Option.some.inj h
      subst h
      exact ge_v hx hb hr hlocks hQ hK hH hAe dX0_copyPlan_54
    · replace h := dc_neg c3 h
      have h := Option.some.inj h
      subst h
      exact ge_v hx hb hr hlocks hQ hK hH hAe dX0_copyPlan_16
theorem hd_X9_lengthToOutside : yX9_lengthToOutside.cls = RX9 ∧ yX9_lengthToOutside.cls ≠ "java/lang/invoke/MethodHandle" ∧ yX9_lengthToOutside.cls ≠ "java/lang/invoke/VarHandle" ∧ (parseMethodDescriptor yX9_lengthToOutside.desc).map (fun d => d.parameters.length) = some 2 := by decide +kernel
set_option maxHeartbeats 4000000 in
set_option maxRecDepth 100000 in
theorem mX9_lengthToOutside (l : Launch) (Ts : List Cond) (hTs : ∀ w, w ∈ Ts ↔ w ∈ uT) (D : va_G) (k : Nat → ClassId) (sz : Nat) (a_t : Nat) (a_t_population : Nat) (a_t_area : Nat) (a_t_community : Nat) (a_t_outer : Nat) (a_t_neighbors : Nat) (a_t_lengths : Nat) (a_t_plan : Nat) (t_lengths : Nat → Int32) (t_units : Int32) (v_t_cores : Value) (v_t_districts : Value) (v_t_hasPlan : Value) (v_t_tolerance : Value) (x1 : Int32) (x2 : Int32) (r : Int32) (h : fX9_lengthToOutside t_lengths t_units x1 x2 = some r) : Met l yX9_lengthToOutside (Cond.code yX9_lengthToOutside cX9_lengthToOutside 5 (some .int) :: Ts) ({ frames := 0, cells := 0, slots := 0, locals := 0 } : Room) (preM D k [.ref a_t, .int x1, .int x2] [(a_t, .inr (8, [.int t_units, .ref a_t_population, .ref a_t_area, .ref a_t_community, .ref a_t_outer, .ref a_t_neighbors, .ref a_t_lengths, v_t_cores, v_t_districts, v_t_tolerance, v_t_hasPlan, .ref a_t_plan])), (a_t_lengths, .inl (k 0, 144, .inl t_lengths))] sz) (postI D k r [(a_t, .inr (8, [.int t_units, .ref a_t_population, .ref a_t_area, .ref a_t_community, .ref a_t_outer, .ref a_t_neighbors, .ref a_t_lengths, v_t_cores, v_t_districts, v_t_tolerance, v_t_hasPlan, .ref a_t_plan])), (a_t_lengths, .inl (k 0, 144, .inl t_lengths))] [(a_t, .inr (8, [.int t_units, .ref a_t_population, .ref a_t_area, .ref a_t_community, .ref a_t_outer, .ref a_t_neighbors, .ref a_t_lengths, v_t_cores, v_t_districts, v_t_tolerance, v_t_hasPlan, .ref a_t_plan])), (a_t_lengths, .inl (k 0, 144, .inl t_lengths))] sz) 0 0 (va_A [(a_t, .inr (8, [.int t_units, .ref a_t_population, .ref a_t_area, .ref a_t_community, .ref a_t_outer, .ref a_t_neighbors, .ref a_t_lengths, v_t_cores, v_t_districts, v_t_tolerance, v_t_hasPlan, .ref a_t_plan])), (a_t_lengths, .inl (k 0, 144, .inl t_lengths))] sz) := by
  refine Met.ofW (cc := cX9_lengthToOutside) (maxL := 5) (ret := (some .int)) (by decide) rfl ?_
  intro p e s m args below meth c s₁ B hml hv
  obtain ⟨rfl, hsz, hP, hK, hD0⟩ := hv
  have hx := B.exec
  have hb := B.bytes
  have hr := B.returns
  have hts0 := atoms_spec (ws := (Cond.code yX9_lengthToOutside cX9_lengthToOutside 5 (some .int) :: Ts)) B.pre
  have hts : ∀ w ∈ uT, w.before _ s = true := fun w h => hts0 w (List.mem_cons_of_mem _ ((hTs w).mpr h))
  clear hts0
  have hown : s.vm.findClass RX9 = some m.cls := findClass_of_methodNamed B.named
  have hlocks := B.notSynchronized
  subst hsz
  have hD := hD0.self (sz := s.heap.size)
  generalize hAe : va_A [(a_t, .inr (8, [.int t_units, .ref a_t_population, .ref a_t_area, .ref a_t_community, .ref a_t_outer, .ref a_t_neighbors, .ref a_t_lengths, v_t_cores, v_t_districts, v_t_tolerance, v_t_hasPlan, .ref a_t_plan])), (a_t_lengths, .inl (k 0, 144, .inl t_lengths))] s.heap.size = A at hD ⊢
  have hA : ∀ q : Nat, s.heap.size ≤ q → A q := fun q h => by rw [← hAe]; exact Or.inr h
  have hH : HOK D A s.heap [(a_t, .inr (8, [.int t_units, .ref a_t_population, .ref a_t_area, .ref a_t_community, .ref a_t_outer, .ref a_t_neighbors, .ref a_t_lengths, v_t_cores, v_t_districts, v_t_tolerance, v_t_hasPlan, .ref a_t_plan])), (a_t_lengths, .inl (k 0, 144, .inl t_lengths))] s.heap [] := ⟨hP, hD, va_S.rf⟩
  have hl := lv_entry ([.ref a_t, .int x1, .int x2]) (n := 5) (Nat.le_of_ble_eq_true rfl)
  rw [lg_entry_eq]
  generalize (lg_sl ([.ref a_t, .int x1, .int x2]) ++ List.replicate (5 - (lg_sl ([.ref a_t, .int x1, .int x2])).length) Slot.unset).toArray = ls at hl ⊢
  have hl : lv_has ls 5 [(0, .ref a_t), (1, .int x1), (2, .int x2)] := hl
  generalize hQ : MQ below (postI D k r [(a_t, .inr (8, [.int t_units, .ref a_t_population, .ref a_t_area, .ref a_t_community, .ref a_t_outer, .ref a_t_neighbors, .ref a_t_lengths, v_t_cores, v_t_districts, v_t_tolerance, v_t_hasPlan, .ref a_t_plan])), (a_t_lengths, .inl (k 0, 144, .inl t_lengths))] [(a_t, .inr (8, [.int t_units, .ref a_t_population, .ref a_t_area, .ref a_t_community, .ref a_t_outer, .ref a_t_neighbors, .ref a_t_lengths, v_t_cores, v_t_districts, v_t_tolerance, v_t_hasPlan, .ref a_t_plan])), (a_t_lengths, .inl (k 0, 144, .inl t_lengths))] s.heap.size) (List.toArray [.ref a_t, .int x1, .int x2]) s 0 0 A = Q
  clear hP hD hD0
  suffices K : ∀ (H : Heap) (locs : List Loc), HOK D A s.heap [(a_t, .inr (8, [.int t_units, .ref a_t_population, .ref a_t_area, .ref a_t_community, .ref a_t_outer, .ref a_t_neighbors, .ref a_t_lengths, v_t_cores, v_t_districts, v_t_tolerance, v_t_hasPlan, .ref a_t_plan])), (a_t_lengths, .inl (k 0, 144, .inl t_lengths))] H locs → W p l e ({ frames := 0, cells := 0, slots := 0, locals := 0 } : Room) s m (List.toArray [.ref a_t, .int x1, .int x2]) below meth c H locs 0 0 Q (F0 m 0 ls []) from K s.heap [] hH
  intro H locs hH
  have L5 : ∀ (n : Nat), ∀ (kf : Int32 → Option (Int32)) (y5_3 : Int32) (y5_4 : Int32), fX9_lengthToOutside_L5 t_lengths t_units x1 x2 n kf y5_3 y5_4 = some r → (∀ (z5_3 : Int32) (H : Heap) (locs : List Loc) (ls : Array Slot), kf z5_3 = some r → HOK D A s.heap [(a_t, .inr (8, [.int t_units, .ref a_t_population, .ref a_t_area, .ref a_t_community, .ref a_t_outer, .ref a_t_neighbors, .ref a_t_lengths, v_t_cores, v_t_districts, v_t_tolerance, v_t_hasPlan, .ref a_t_plan])), (a_t_lengths, .inl (k 0, 144, .inl t_lengths))] H locs → lv_has ls 5 [(3, .int z5_3)] → W p l e ({ frames := 0, cells := 0, slots := 0, locals := 0 } : Room) s m (List.toArray [.ref a_t, .int x1, .int x2]) below meth c H locs 0 0 Q (F0 m 44 ls [])) → ∀ (H : Heap) (locs : List Loc) (ls : Array Slot), HOK D A s.heap [(a_t, .inr (8, [.int t_units, .ref a_t_population, .ref a_t_area, .ref a_t_community, .ref a_t_outer, .ref a_t_neighbors, .ref a_t_lengths, v_t_cores, v_t_districts, v_t_tolerance, v_t_hasPlan, .ref a_t_plan])), (a_t_lengths, .inl (k 0, 144, .inl t_lengths))] H locs → lv_has ls 5 [(0, .ref a_t), (1, .int x1), (2, .int x2), (3, .int y5_3), (4, .int y5_4)] → W p l e ({ frames := 0, cells := 0, slots := 0, locals := 0 } : Room) s m (List.toArray [.ref a_t, .int x1, .int x2]) below meth c H locs 0 0 Q (F0 m 5 ls []) := by
    intro n
    induction n with
    | zero =>
      intro kf y5_3 y5_4 h
      exact absurd h (by rw [fX9_lengthToOutside_L5]; exact fun q => by cases q)
    | succ n ih =>
      intro kf y5_3 y5_4 h kk H locs ls hH hl
      rw [fX9_lengthToOutside_L5] at h
      refine lv_iload hx hb dX9_lengthToOutside_5 (lv_at hl 4 rfl) ?_
      refine lv_aload_n hx hb dX9_lengthToOutside_7 rfl (lv_at hl 0 rfl) ?_
      refine gk_get (ci := 8) (C := RX9) (T := TX9) (N := 12) hx hb hts u_ws_X9 hown hK hH 0 rfl rfl 0 (by decide) u_fl_X9_9 rfl dX9_lengthToOutside_8 ?_
      refine lv_icmp_ge (tgt := 44) hx hb dX9_lengthToOutside_11 (by decide) (fun c1 => ?_) (fun c1 => ?_)
      · replace h := dc_pos c1 h
        exact kk y5_3 H locs ls h hH (lv_sub hl [3] rfl)
      · replace h := dc_neg c1 h
        refine lv_iload_n hx hb dX9_lengthToOutside_14 rfl (lv_at hl 2 rfl) ?_
        refine lv_iload hx hb dX9_lengthToOutside_15 (lv_at hl 4 rfl) ?_
        refine lv_ishr hx hb dX9_lengthToOutside_17 ?_
        refine lv_iconst (v := 1) hx hb dX9_lengthToOutside_18 (by decide) ?_
        refine lv_iand hx hb dX9_lengthToOutside_19 ?_
        refine lv_if_ne (tgt := 38) hx hb dX9_lengthToOutside_20 (by decide) (fun c2 => ?_) (fun c2 => ?_)
        · replace h := dc_neg c2 h
          refine lv_iinc (v := (y5_4 + (1 : Int32))) (lv' := [(4, .int (y5_4 + (1 : Int32))), (0, .ref a_t), (1, .int x1), (2, .int x2), (3, .int y5_3)]) hx hb dX9_lengthToOutside_38 hl (k := 4) rfl rfl (by decide) rfl (fun ls hl => ?_)
          refine lv_goto (tgt := 5) hx hb dX9_lengthToOutside_41 (by decide) ?_
          exact ih kf y5_3 (y5_4 + (1 : Int32)) h kk H locs ls hH (lv_sub hl [1, 2, 3, 4, 0] rfl)
        · replace h := dc_pos c2 h
          refine lv_iload_n hx hb dX9_lengthToOutside_23 rfl (lv_at hl 3 rfl) ?_
          refine lv_aload_n hx hb dX9_lengthToOutside_24 rfl (lv_at hl 0 rfl) ?_
          refine gk_get (ci := 8) (C := RX9) (T := TX9) (N := 12) hx hb hts u_ws_X9 hown hK hH 0 rfl rfl 6 (by decide) u_fl_X9_31 rfl dX9_lengthToOutside_25 ?_
          refine lv_iload_n hx hb dX9_lengthToOutside_28 rfl (lv_at hl 1 rfl) ?_
          refine lv_bipush (v := 12) hx hb dX9_lengthToOutside_29 (by decide) ?_
          refine lv_imul hx hb dX9_lengthToOutside_31 ?_
          refine lv_iload hx hb dX9_lengthToOutside_32 (lv_at hl 4 rfl) ?_
          refine lv_iadd hx hb dX9_lengthToOutside_34 ?_
          obtain ⟨g3, h⟩ := dc_need h
          refine gk_iald hx hb hK hH 1 rfl (dk_in g3) dX9_lengthToOutside_35 ?_
          refine lv_iadd hx hb dX9_lengthToOutside_36 ?_
          refine lv_topi (fun n4 en4 => ?_)
          replace h := dc_at en4 h
          refine lv_istore_n (lv' := [(3, .int n4), (0, .ref a_t), (1, .int x1), (2, .int x2), (4, .int y5_4)]) hx hb dX9_lengthToOutside_37 rfl hl (by decide) rfl (fun ls hl => ?_)
          refine lv_iinc (v := (y5_4 + (1 : Int32))) (lv' := [(4, .int (y5_4 + (1 : Int32))), (3, .int n4), (0, .ref a_t), (1, .int x1), (2, .int x2)]) hx hb dX9_lengthToOutside_38 hl (k := 4) rfl rfl (by decide) rfl (fun ls hl => ?_)
          refine lv_goto (tgt := 5) hx hb dX9_lengthToOutside_41 (by decide) ?_
          exact ih kf n4 (y5_4 + (1 : Int32)) h kk H locs ls hH (lv_sub hl [2, 3, 4, 1, 0] rfl)
  rw [fX9_lengthToOutside] at h
  refine lv_iconst (v := 0) hx hb dX9_lengthToOutside_0 (by decide) ?_
  refine lv_istore_n (lv' := [(3, .int (0 : Int32)), (0, .ref a_t), (1, .int x1), (2, .int x2)]) hx hb dX9_lengthToOutside_1 rfl hl (by decide) rfl (fun ls hl => ?_)
  refine lv_iconst (v := 0) hx hb dX9_lengthToOutside_2 (by decide) ?_
  refine lv_istore (lv' := [(4, .int (0 : Int32)), (3, .int (0 : Int32)), (0, .ref a_t), (1, .int x1), (2, .int x2)]) hx hb dX9_lengthToOutside_3 hl (by decide) rfl (fun ls hl => ?_)
  refine L5 _ _ (0 : Int32) (0 : Int32) h (fun z5_3 H locs ls h hH hl => ?_) H locs ls hH (lv_sub hl [2, 3, 4, 1, 0] rfl)
  refine lv_iload_n hx hb dX9_lengthToOutside_44 rfl (lv_at hl 0 rfl) ?_
  have h := Option.some.inj h
  subst h
  exact ge_i hx hb hr hlocks hQ hK hH hAe rfl dX9_lengthToOutside_45
theorem hd_X9_perimeterOf : yX9_perimeterOf.cls = RX9 ∧ yX9_perimeterOf.cls ≠ "java/lang/invoke/MethodHandle" ∧ yX9_perimeterOf.cls ≠ "java/lang/invoke/VarHandle" ∧ (parseMethodDescriptor yX9_perimeterOf.desc).map (fun d => d.parameters.length) = some 1 := by decide +kernel
set_option maxHeartbeats 4000000 in
set_option maxRecDepth 100000 in
theorem mX9_perimeterOf (l : Launch) (Ts : List Cond) (hTs : ∀ w, w ∈ Ts ↔ w ∈ uT) (D : va_G) (k : Nat → ClassId) (sz : Nat) (a_t : Nat) (a_t_population : Nat) (a_t_area : Nat) (a_t_community : Nat) (a_t_outer : Nat) (a_t_neighbors : Nat) (a_t_lengths : Nat) (a_t_plan : Nat) (t_lengths : Nat → Int32) (t_outer : Nat → Int32) (t_units : Int32) (v_t_cores : Value) (v_t_districts : Value) (v_t_hasPlan : Value) (v_t_tolerance : Value) (x1 : Int32) (r : Int32) (h : fX9_perimeterOf t_lengths t_outer t_units x1 = some r) : Met l yX9_perimeterOf (Cond.code yX9_perimeterOf cX9_perimeterOf 4 (some .int) :: Ts) ({ frames := 1, cells := 0, slots := 0, locals := 24 } : Room) (preM D k [.ref a_t, .int x1] [(a_t, .inr (8, [.int t_units, .ref a_t_population, .ref a_t_area, .ref a_t_community, .ref a_t_outer, .ref a_t_neighbors, .ref a_t_lengths, v_t_cores, v_t_districts, v_t_tolerance, v_t_hasPlan, .ref a_t_plan])), (a_t_outer, .inl (k 0, 12, .inl t_outer)), (a_t_lengths, .inl (k 0, 144, .inl t_lengths))] sz) (postI D k r [(a_t, .inr (8, [.int t_units, .ref a_t_population, .ref a_t_area, .ref a_t_community, .ref a_t_outer, .ref a_t_neighbors, .ref a_t_lengths, v_t_cores, v_t_districts, v_t_tolerance, v_t_hasPlan, .ref a_t_plan])), (a_t_outer, .inl (k 0, 12, .inl t_outer)), (a_t_lengths, .inl (k 0, 144, .inl t_lengths))] [(a_t, .inr (8, [.int t_units, .ref a_t_population, .ref a_t_area, .ref a_t_community, .ref a_t_outer, .ref a_t_neighbors, .ref a_t_lengths, v_t_cores, v_t_districts, v_t_tolerance, v_t_hasPlan, .ref a_t_plan])), (a_t_outer, .inl (k 0, 12, .inl t_outer)), (a_t_lengths, .inl (k 0, 144, .inl t_lengths))] sz) 0 0 (va_A [(a_t, .inr (8, [.int t_units, .ref a_t_population, .ref a_t_area, .ref a_t_community, .ref a_t_outer, .ref a_t_neighbors, .ref a_t_lengths, v_t_cores, v_t_districts, v_t_tolerance, v_t_hasPlan, .ref a_t_plan])), (a_t_outer, .inl (k 0, 12, .inl t_outer)), (a_t_lengths, .inl (k 0, 144, .inl t_lengths))] sz) := by
  refine Met.ofW (cc := cX9_perimeterOf) (maxL := 4) (ret := (some .int)) (by decide) rfl ?_
  intro p e s m args below meth c s₁ B hml hv
  obtain ⟨rfl, hsz, hP, hK, hD0⟩ := hv
  have hx := B.exec
  have hb := B.bytes
  have hr := B.returns
  have hts0 := atoms_spec (ws := (Cond.code yX9_perimeterOf cX9_perimeterOf 4 (some .int) :: Ts)) B.pre
  have hts : ∀ w ∈ uT, w.before _ s = true := fun w h => hts0 w (List.mem_cons_of_mem _ ((hTs w).mpr h))
  clear hts0
  have hown : s.vm.findClass RX9 = some m.cls := findClass_of_methodNamed B.named
  have hlocks := B.notSynchronized
  subst hsz
  have hD := hD0.self (sz := s.heap.size)
  generalize hAe : va_A [(a_t, .inr (8, [.int t_units, .ref a_t_population, .ref a_t_area, .ref a_t_community, .ref a_t_outer, .ref a_t_neighbors, .ref a_t_lengths, v_t_cores, v_t_districts, v_t_tolerance, v_t_hasPlan, .ref a_t_plan])), (a_t_outer, .inl (k 0, 12, .inl t_outer)), (a_t_lengths, .inl (k 0, 144, .inl t_lengths))] s.heap.size = A at hD ⊢
  have hA : ∀ q : Nat, s.heap.size ≤ q → A q := fun q h => by rw [← hAe]; exact Or.inr h
  have hH : HOK D A s.heap [(a_t, .inr (8, [.int t_units, .ref a_t_population, .ref a_t_area, .ref a_t_community, .ref a_t_outer, .ref a_t_neighbors, .ref a_t_lengths, v_t_cores, v_t_districts, v_t_tolerance, v_t_hasPlan, .ref a_t_plan])), (a_t_outer, .inl (k 0, 12, .inl t_outer)), (a_t_lengths, .inl (k 0, 144, .inl t_lengths))] s.heap [] := ⟨hP, hD, va_S.rf⟩
  have hl := lv_entry ([.ref a_t, .int x1]) (n := 4) (Nat.le_of_ble_eq_true rfl)
  rw [lg_entry_eq]
  generalize (lg_sl ([.ref a_t, .int x1]) ++ List.replicate (4 - (lg_sl ([.ref a_t, .int x1])).length) Slot.unset).toArray = ls at hl ⊢
  have hl : lv_has ls 4 [(0, .ref a_t), (1, .int x1)] := hl
  generalize hQ : MQ below (postI D k r [(a_t, .inr (8, [.int t_units, .ref a_t_population, .ref a_t_area, .ref a_t_community, .ref a_t_outer, .ref a_t_neighbors, .ref a_t_lengths, v_t_cores, v_t_districts, v_t_tolerance, v_t_hasPlan, .ref a_t_plan])), (a_t_outer, .inl (k 0, 12, .inl t_outer)), (a_t_lengths, .inl (k 0, 144, .inl t_lengths))] [(a_t, .inr (8, [.int t_units, .ref a_t_population, .ref a_t_area, .ref a_t_community, .ref a_t_outer, .ref a_t_neighbors, .ref a_t_lengths, v_t_cores, v_t_districts, v_t_tolerance, v_t_hasPlan, .ref a_t_plan])), (a_t_outer, .inl (k 0, 12, .inl t_outer)), (a_t_lengths, .inl (k 0, 144, .inl t_lengths))] s.heap.size) (List.toArray [.ref a_t, .int x1]) s 0 0 A = Q
  clear hP hD hD0
  suffices K : ∀ (H : Heap) (locs : List Loc), HOK D A s.heap [(a_t, .inr (8, [.int t_units, .ref a_t_population, .ref a_t_area, .ref a_t_community, .ref a_t_outer, .ref a_t_neighbors, .ref a_t_lengths, v_t_cores, v_t_districts, v_t_tolerance, v_t_hasPlan, .ref a_t_plan])), (a_t_outer, .inl (k 0, 12, .inl t_outer)), (a_t_lengths, .inl (k 0, 144, .inl t_lengths))] H locs → W p l e ({ frames := 1, cells := 0, slots := 0, locals := 24 } : Room) s m (List.toArray [.ref a_t, .int x1]) below meth c H locs 0 0 Q (F0 m 0 ls []) from K s.heap [] hH
  intro H locs hH
  have L4 : ∀ (n : Nat), ∀ (kf : Int32 → Option (Int32)) (y4_2 : Int32) (y4_3 : Int32), fX9_perimeterOf_L4 t_lengths t_outer t_units x1 n kf y4_2 y4_3 = some r → (∀ (z4_2 : Int32) (H : Heap) (locs : List Loc) (ls : Array Slot), kf z4_2 = some r → HOK D A s.heap [(a_t, .inr (8, [.int t_units, .ref a_t_population, .ref a_t_area, .ref a_t_community, .ref a_t_outer, .ref a_t_neighbors, .ref a_t_lengths, v_t_cores, v_t_districts, v_t_tolerance, v_t_hasPlan, .ref a_t_plan])), (a_t_outer, .inl (k 0, 12, .inl t_outer)), (a_t_lengths, .inl (k 0, 144, .inl t_lengths))] H locs → lv_has ls 4 [(2, .int z4_2)] → W p l e ({ frames := 1, cells := 0, slots := 0, locals := 24 } : Room) s m (List.toArray [.ref a_t, .int x1]) below meth c H locs 0 0 Q (F0 m 42 ls [])) → ∀ (H : Heap) (locs : List Loc) (ls : Array Slot), HOK D A s.heap [(a_t, .inr (8, [.int t_units, .ref a_t_population, .ref a_t_area, .ref a_t_community, .ref a_t_outer, .ref a_t_neighbors, .ref a_t_lengths, v_t_cores, v_t_districts, v_t_tolerance, v_t_hasPlan, .ref a_t_plan])), (a_t_outer, .inl (k 0, 12, .inl t_outer)), (a_t_lengths, .inl (k 0, 144, .inl t_lengths))] H locs → lv_has ls 4 [(0, .ref a_t), (1, .int x1), (2, .int y4_2), (3, .int y4_3)] → W p l e ({ frames := 1, cells := 0, slots := 0, locals := 24 } : Room) s m (List.toArray [.ref a_t, .int x1]) below meth c H locs 0 0 Q (F0 m 4 ls []) := by
    intro n
    induction n with
    | zero =>
      intro kf y4_2 y4_3 h
      exact absurd h (by rw [fX9_perimeterOf_L4]; exact fun q => by cases q)
    | succ n ih =>
      intro kf y4_2 y4_3 h kk H locs ls hH hl
      rw [fX9_perimeterOf_L4] at h
      refine lv_iload_n hx hb dX9_perimeterOf_4 rfl (lv_at hl 3 rfl) ?_
      refine lv_aload_n hx hb dX9_perimeterOf_5 rfl (lv_at hl 0 rfl) ?_
      refine gk_get (ci := 8) (C := RX9) (T := TX9) (N := 12) hx hb hts u_ws_X9 hown hK hH 0 rfl rfl 0 (by decide) u_fl_X9_9 rfl dX9_perimeterOf_6 ?_
      refine lv_icmp_ge (tgt := 42) hx hb dX9_perimeterOf_9 (by decide) (fun c1 => ?_) (fun c1 => ?_)
      · replace h := dc_pos c1 h
        exact kk y4_2 H locs ls h hH (lv_sub hl [2] rfl)
      · replace h := dc_neg c1 h
        refine lv_iload_n hx hb dX9_perimeterOf_12 rfl (lv_at hl 1 rfl) ?_
        refine lv_iload_n hx hb dX9_perimeterOf_13 rfl (lv_at hl 3 rfl) ?_
        refine lv_ishr hx hb dX9_perimeterOf_14 ?_
        refine lv_iconst (v := 1) hx hb dX9_perimeterOf_15 (by decide) ?_
        refine lv_iand hx hb dX9_perimeterOf_16 ?_
        refine lv_if_eq (tgt := 36) hx hb dX9_perimeterOf_17 (by decide) (fun c2 => ?_) (fun c2 => ?_)
        · replace h := dc_pos c2 h
          refine lv_iinc (v := (y4_3 + (1 : Int32))) (lv' := [(3, .int (y4_3 + (1 : Int32))), (0, .ref a_t), (1, .int x1), (2, .int y4_2)]) hx hb dX9_perimeterOf_36 hl (k := 3) rfl rfl (by decide) rfl (fun ls hl => ?_)
          refine lv_goto (tgt := 4) hx hb dX9_perimeterOf_39 (by decide) ?_
          exact ih kf y4_2 (y4_3 + (1 : Int32)) h kk H locs ls hH (lv_sub hl [1, 2, 3, 0] rfl)
        · replace h := dc_neg c2 h
          refine lv_iload_n hx hb dX9_perimeterOf_20 rfl (lv_at hl 2 rfl) ?_
          refine lv_aload_n hx hb dX9_perimeterOf_21 rfl (lv_at hl 0 rfl) ?_
          refine gk_get (ci := 8) (C := RX9) (T := TX9) (N := 12) hx hb hts u_ws_X9 hown hK hH 0 rfl rfl 4 (by decide) u_fl_X9_25 rfl dX9_perimeterOf_22 ?_
          refine lv_iload_n hx hb dX9_perimeterOf_25 rfl (lv_at hl 3 rfl) ?_
          obtain ⟨g3, h⟩ := dc_need h
          refine gk_iald hx hb hK hH 1 rfl (dk_in g3) dX9_perimeterOf_26 ?_
          refine lv_aload_n hx hb dX9_perimeterOf_27 rfl (lv_at hl 0 rfl) ?_
          refine lv_iload_n hx hb dX9_perimeterOf_28 rfl (lv_at hl 3 rfl) ?_
          refine lv_iload_n hx hb dX9_perimeterOf_29 rfl (lv_at hl 1 rfl) ?_
          obtain ⟨q4, hqq4, h⟩ := dc_bind h
          refine gc_Vi (ws' := [(a_t, .inr (8, [.int t_units, .ref a_t_population, .ref a_t_area, .ref a_t_community, .ref a_t_outer, .ref a_t_neighbors, .ref a_t_lengths, v_t_cores, v_t_districts, v_t_tolerance, v_t_hasPlan, .ref a_t_plan])), (a_t_outer, .inl (k 0, 12, .inl t_outer)), (a_t_lengths, .inl (k 0, 144, .inl t_lengths))]) (As := [.int y4_3, .int x1]) (rest := [.int (t_outer y4_3.toNatClampNeg), .int y4_2]) (n := 2) (ci := 8) (cq := (RX9, TX9, 12)) hTs ⟨hx, hb, hml, hown, hts⟩ (mX9_lengthToOutside l Ts hTs D k H.size a_t a_t_population a_t_area a_t_community a_t_outer a_t_neighbors a_t_lengths a_t_plan t_lengths t_units v_t_cores v_t_districts v_t_hasPlan v_t_tolerance y4_3 x1 q4 hqq4) u_ml_X9_89 u_im_X9_lengthToOutside u_se_X9_lengthToOutside u_in_X9 u_co_X9_lengthToOutside hd_X9_lengthToOutside ⟨Nat.le_of_ble_eq_true rfl, Nat.le_of_ble_eq_true rfl⟩ ⟨rfl, rfl⟩ hK hH hA (cut0 (isC := [0, 2]) rfl rfl rfl) rfl rfl rfl rfl hl.1 (Nat.le_of_ble_eq_true rfl) dX9_perimeterOf_30 ⟨Nat.le_of_ble_eq_true rfl, Nat.le_of_ble_eq_true rfl⟩ (fun H locs hH => ?_)
          refine lv_iadd hx hb dX9_perimeterOf_33 ?_
          refine lv_iadd hx hb dX9_perimeterOf_34 ?_
          refine lv_istore_n (lv' := [(2, .int (y4_2 + ((t_outer y4_3.toNatClampNeg) + q4))), (0, .ref a_t), (1, .int x1), (3, .int y4_3)]) hx hb dX9_perimeterOf_35 rfl hl (by decide) rfl (fun ls hl => ?_)
          refine lv_iinc (v := (y4_3 + (1 : Int32))) (lv' := [(3, .int (y4_3 + (1 : Int32))), (2, .int (y4_2 + ((t_outer y4_3.toNatClampNeg) + q4))), (0, .ref a_t), (1, .int x1)]) hx hb dX9_perimeterOf_36 hl (k := 3) rfl rfl (by decide) rfl (fun ls hl => ?_)
          refine lv_goto (tgt := 4) hx hb dX9_perimeterOf_39 (by decide) ?_
          exact ih kf (y4_2 + ((t_outer y4_3.toNatClampNeg) + q4)) (y4_3 + (1 : Int32)) h kk H locs ls hH (lv_sub hl [2, 3, 1, 0] rfl)
  rw [fX9_perimeterOf] at h
  refine lv_iconst (v := 0) hx hb dX9_perimeterOf_0 (by decide) ?_
  refine lv_istore_n (lv' := [(2, .int (0 : Int32)), (0, .ref a_t), (1, .int x1)]) hx hb dX9_perimeterOf_1 rfl hl (by decide) rfl (fun ls hl => ?_)
  refine lv_iconst (v := 0) hx hb dX9_perimeterOf_2 (by decide) ?_
  refine lv_istore_n (lv' := [(3, .int (0 : Int32)), (2, .int (0 : Int32)), (0, .ref a_t), (1, .int x1)]) hx hb dX9_perimeterOf_3 rfl hl (by decide) rfl (fun ls hl => ?_)
  refine L4 _ _ (0 : Int32) (0 : Int32) h (fun z4_2 H locs ls h hH hl => ?_) H locs ls hH (lv_sub hl [2, 3, 1, 0] rfl)
  refine lv_iload_n hx hb dX9_perimeterOf_42 rfl (lv_at hl 0 rfl) ?_
  have h := Option.some.inj h
  subst h
  exact ge_i hx hb hr hlocks hQ hK hH hAe rfl dX9_perimeterOf_43
theorem hd_X9_areaOf : yX9_areaOf.cls = RX9 ∧ yX9_areaOf.cls ≠ "java/lang/invoke/MethodHandle" ∧ yX9_areaOf.cls ≠ "java/lang/invoke/VarHandle" ∧ (parseMethodDescriptor yX9_areaOf.desc).map (fun d => d.parameters.length) = some 1 := by decide +kernel
set_option maxHeartbeats 4000000 in
set_option maxRecDepth 100000 in
theorem mX9_areaOf (l : Launch) (Ts : List Cond) (hTs : ∀ w, w ∈ Ts ↔ w ∈ uT) (D : va_G) (k : Nat → ClassId) (sz : Nat) (a_t : Nat) (a_t_population : Nat) (a_t_area : Nat) (a_t_community : Nat) (a_t_outer : Nat) (a_t_neighbors : Nat) (a_t_lengths : Nat) (a_t_plan : Nat) (t_area : Nat → Int32) (t_units : Int32) (v_t_cores : Value) (v_t_districts : Value) (v_t_hasPlan : Value) (v_t_tolerance : Value) (x1 : Int32) (r : Int32) (h : fX9_areaOf t_area t_units x1 = some r) : Met l yX9_areaOf (Cond.code yX9_areaOf cX9_areaOf 4 (some .int) :: Ts) ({ frames := 0, cells := 0, slots := 0, locals := 0 } : Room) (preM D k [.ref a_t, .int x1] [(a_t, .inr (8, [.int t_units, .ref a_t_population, .ref a_t_area, .ref a_t_community, .ref a_t_outer, .ref a_t_neighbors, .ref a_t_lengths, v_t_cores, v_t_districts, v_t_tolerance, v_t_hasPlan, .ref a_t_plan])), (a_t_area, .inl (k 0, 12, .inl t_area))] sz) (postI D k r [(a_t, .inr (8, [.int t_units, .ref a_t_population, .ref a_t_area, .ref a_t_community, .ref a_t_outer, .ref a_t_neighbors, .ref a_t_lengths, v_t_cores, v_t_districts, v_t_tolerance, v_t_hasPlan, .ref a_t_plan])), (a_t_area, .inl (k 0, 12, .inl t_area))] [(a_t, .inr (8, [.int t_units, .ref a_t_population, .ref a_t_area, .ref a_t_community, .ref a_t_outer, .ref a_t_neighbors, .ref a_t_lengths, v_t_cores, v_t_districts, v_t_tolerance, v_t_hasPlan, .ref a_t_plan])), (a_t_area, .inl (k 0, 12, .inl t_area))] sz) 0 0 (va_A [(a_t, .inr (8, [.int t_units, .ref a_t_population, .ref a_t_area, .ref a_t_community, .ref a_t_outer, .ref a_t_neighbors, .ref a_t_lengths, v_t_cores, v_t_districts, v_t_tolerance, v_t_hasPlan, .ref a_t_plan])), (a_t_area, .inl (k 0, 12, .inl t_area))] sz) := by
  refine Met.ofW (cc := cX9_areaOf) (maxL := 4) (ret := (some .int)) (by decide) rfl ?_
  intro p e s m args below meth c s₁ B hml hv
  obtain ⟨rfl, hsz, hP, hK, hD0⟩ := hv
  have hx := B.exec
  have hb := B.bytes
  have hr := B.returns
  have hts0 := atoms_spec (ws := (Cond.code yX9_areaOf cX9_areaOf 4 (some .int) :: Ts)) B.pre
  have hts : ∀ w ∈ uT, w.before _ s = true := fun w h => hts0 w (List.mem_cons_of_mem _ ((hTs w).mpr h))
  clear hts0
  have hown : s.vm.findClass RX9 = some m.cls := findClass_of_methodNamed B.named
  have hlocks := B.notSynchronized
  subst hsz
  have hD := hD0.self (sz := s.heap.size)
  generalize hAe : va_A [(a_t, .inr (8, [.int t_units, .ref a_t_population, .ref a_t_area, .ref a_t_community, .ref a_t_outer, .ref a_t_neighbors, .ref a_t_lengths, v_t_cores, v_t_districts, v_t_tolerance, v_t_hasPlan, .ref a_t_plan])), (a_t_area, .inl (k 0, 12, .inl t_area))] s.heap.size = A at hD ⊢
  have hA : ∀ q : Nat, s.heap.size ≤ q → A q := fun q h => by rw [← hAe]; exact Or.inr h
  have hH : HOK D A s.heap [(a_t, .inr (8, [.int t_units, .ref a_t_population, .ref a_t_area, .ref a_t_community, .ref a_t_outer, .ref a_t_neighbors, .ref a_t_lengths, v_t_cores, v_t_districts, v_t_tolerance, v_t_hasPlan, .ref a_t_plan])), (a_t_area, .inl (k 0, 12, .inl t_area))] s.heap [] := ⟨hP, hD, va_S.rf⟩
  have hl := lv_entry ([.ref a_t, .int x1]) (n := 4) (Nat.le_of_ble_eq_true rfl)
  rw [lg_entry_eq]
  generalize (lg_sl ([.ref a_t, .int x1]) ++ List.replicate (4 - (lg_sl ([.ref a_t, .int x1])).length) Slot.unset).toArray = ls at hl ⊢
  have hl : lv_has ls 4 [(0, .ref a_t), (1, .int x1)] := hl
  generalize hQ : MQ below (postI D k r [(a_t, .inr (8, [.int t_units, .ref a_t_population, .ref a_t_area, .ref a_t_community, .ref a_t_outer, .ref a_t_neighbors, .ref a_t_lengths, v_t_cores, v_t_districts, v_t_tolerance, v_t_hasPlan, .ref a_t_plan])), (a_t_area, .inl (k 0, 12, .inl t_area))] [(a_t, .inr (8, [.int t_units, .ref a_t_population, .ref a_t_area, .ref a_t_community, .ref a_t_outer, .ref a_t_neighbors, .ref a_t_lengths, v_t_cores, v_t_districts, v_t_tolerance, v_t_hasPlan, .ref a_t_plan])), (a_t_area, .inl (k 0, 12, .inl t_area))] s.heap.size) (List.toArray [.ref a_t, .int x1]) s 0 0 A = Q
  clear hP hD hD0
  suffices K : ∀ (H : Heap) (locs : List Loc), HOK D A s.heap [(a_t, .inr (8, [.int t_units, .ref a_t_population, .ref a_t_area, .ref a_t_community, .ref a_t_outer, .ref a_t_neighbors, .ref a_t_lengths, v_t_cores, v_t_districts, v_t_tolerance, v_t_hasPlan, .ref a_t_plan])), (a_t_area, .inl (k 0, 12, .inl t_area))] H locs → W p l e ({ frames := 0, cells := 0, slots := 0, locals := 0 } : Room) s m (List.toArray [.ref a_t, .int x1]) below meth c H locs 0 0 Q (F0 m 0 ls []) from K s.heap [] hH
  intro H locs hH
  have L4 : ∀ (n : Nat), ∀ (kf : Int32 → Option (Int32)) (y4_2 : Int32) (y4_3 : Int32), fX9_areaOf_L4 t_area t_units x1 n kf y4_2 y4_3 = some r → (∀ (z4_2 : Int32) (H : Heap) (locs : List Loc) (ls : Array Slot), kf z4_2 = some r → HOK D A s.heap [(a_t, .inr (8, [.int t_units, .ref a_t_population, .ref a_t_area, .ref a_t_community, .ref a_t_outer, .ref a_t_neighbors, .ref a_t_lengths, v_t_cores, v_t_districts, v_t_tolerance, v_t_hasPlan, .ref a_t_plan])), (a_t_area, .inl (k 0, 12, .inl t_area))] H locs → lv_has ls 4 [(2, .int z4_2)] → W p l e ({ frames := 0, cells := 0, slots := 0, locals := 0 } : Room) s m (List.toArray [.ref a_t, .int x1]) below meth c H locs 0 0 Q (F0 m 35 ls [])) → ∀ (H : Heap) (locs : List Loc) (ls : Array Slot), HOK D A s.heap [(a_t, .inr (8, [.int t_units, .ref a_t_population, .ref a_t_area, .ref a_t_community, .ref a_t_outer, .ref a_t_neighbors, .ref a_t_lengths, v_t_cores, v_t_districts, v_t_tolerance, v_t_hasPlan, .ref a_t_plan])), (a_t_area, .inl (k 0, 12, .inl t_area))] H locs → lv_has ls 4 [(0, .ref a_t), (1, .int x1), (2, .int y4_2), (3, .int y4_3)] → W p l e ({ frames := 0, cells := 0, slots := 0, locals := 0 } : Room) s m (List.toArray [.ref a_t, .int x1]) below meth c H locs 0 0 Q (F0 m 4 ls []) := by
    intro n
    induction n with
    | zero =>
      intro kf y4_2 y4_3 h
      exact absurd h (by rw [fX9_areaOf_L4]; exact fun q => by cases q)
    | succ n ih =>
      intro kf y4_2 y4_3 h kk H locs ls hH hl
      rw [fX9_areaOf_L4] at h
      refine lv_iload_n hx hb dX9_areaOf_4 rfl (lv_at hl 3 rfl) ?_
      refine lv_aload_n hx hb dX9_areaOf_5 rfl (lv_at hl 0 rfl) ?_
      refine gk_get (ci := 8) (C := RX9) (T := TX9) (N := 12) hx hb hts u_ws_X9 hown hK hH 0 rfl rfl 0 (by decide) u_fl_X9_9 rfl dX9_areaOf_6 ?_
      refine lv_icmp_ge (tgt := 35) hx hb dX9_areaOf_9 (by decide) (fun c1 => ?_) (fun c1 => ?_)
      · replace h := dc_pos c1 h
        exact kk y4_2 H locs ls h hH (lv_sub hl [2] rfl)
      · replace h := dc_neg c1 h
        refine lv_iload_n hx hb dX9_areaOf_12 rfl (lv_at hl 1 rfl) ?_
        refine lv_iload_n hx hb dX9_areaOf_13 rfl (lv_at hl 3 rfl) ?_
        refine lv_ishr hx hb dX9_areaOf_14 ?_
        refine lv_iconst (v := 1) hx hb dX9_areaOf_15 (by decide) ?_
        refine lv_iand hx hb dX9_areaOf_16 ?_
        refine lv_if_eq (tgt := 29) hx hb dX9_areaOf_17 (by decide) (fun c2 => ?_) (fun c2 => ?_)
        · replace h := dc_pos c2 h
          refine lv_iinc (v := (y4_3 + (1 : Int32))) (lv' := [(3, .int (y4_3 + (1 : Int32))), (0, .ref a_t), (1, .int x1), (2, .int y4_2)]) hx hb dX9_areaOf_29 hl (k := 3) rfl rfl (by decide) rfl (fun ls hl => ?_)
          refine lv_goto (tgt := 4) hx hb dX9_areaOf_32 (by decide) ?_
          exact ih kf y4_2 (y4_3 + (1 : Int32)) h kk H locs ls hH (lv_sub hl [1, 2, 3, 0] rfl)
        · replace h := dc_neg c2 h
          refine lv_iload_n hx hb dX9_areaOf_20 rfl (lv_at hl 2 rfl) ?_
          refine lv_aload_n hx hb dX9_areaOf_21 rfl (lv_at hl 0 rfl) ?_
          refine gk_get (ci := 8) (C := RX9) (T := TX9) (N := 12) hx hb hts u_ws_X9 hown hK hH 0 rfl rfl 2 (by decide) u_fl_X9_19 rfl dX9_areaOf_22 ?_
          refine lv_iload_n hx hb dX9_areaOf_25 rfl (lv_at hl 3 rfl) ?_
          obtain ⟨g3, h⟩ := dc_need h
          refine gk_iald hx hb hK hH 1 rfl (dk_in g3) dX9_areaOf_26 ?_
          refine lv_iadd hx hb dX9_areaOf_27 ?_
          refine lv_istore_n (lv' := [(2, .int (y4_2 + (t_area y4_3.toNatClampNeg))), (0, .ref a_t), (1, .int x1), (3, .int y4_3)]) hx hb dX9_areaOf_28 rfl hl (by decide) rfl (fun ls hl => ?_)
          refine lv_iinc (v := (y4_3 + (1 : Int32))) (lv' := [(3, .int (y4_3 + (1 : Int32))), (2, .int (y4_2 + (t_area y4_3.toNatClampNeg))), (0, .ref a_t), (1, .int x1)]) hx hb dX9_areaOf_29 hl (k := 3) rfl rfl (by decide) rfl (fun ls hl => ?_)
          refine lv_goto (tgt := 4) hx hb dX9_areaOf_32 (by decide) ?_
          exact ih kf (y4_2 + (t_area y4_3.toNatClampNeg)) (y4_3 + (1 : Int32)) h kk H locs ls hH (lv_sub hl [2, 3, 1, 0] rfl)
  rw [fX9_areaOf] at h
  refine lv_iconst (v := 0) hx hb dX9_areaOf_0 (by decide) ?_
  refine lv_istore_n (lv' := [(2, .int (0 : Int32)), (0, .ref a_t), (1, .int x1)]) hx hb dX9_areaOf_1 rfl hl (by decide) rfl (fun ls hl => ?_)
  refine lv_iconst (v := 0) hx hb dX9_areaOf_2 (by decide) ?_
  refine lv_istore_n (lv' := [(3, .int (0 : Int32)), (2, .int (0 : Int32)), (0, .ref a_t), (1, .int x1)]) hx hb dX9_areaOf_3 rfl hl (by decide) rfl (fun ls hl => ?_)
  refine L4 _ _ (0 : Int32) (0 : Int32) h (fun z4_2 H locs ls h hH hl => ?_) H locs ls hH (lv_sub hl [2, 3, 1, 0] rfl)
  refine lv_iload_n hx hb dX9_areaOf_35 rfl (lv_at hl 0 rfl) ?_
  have h := Option.some.inj h
  subst h
  exact ge_i hx hb hr hlocks hQ hK hH hAe rfl dX9_areaOf_36
theorem hd_X1_commonDivisor : yX1_commonDivisor.cls ≠ "java/lang/invoke/MethodHandle" ∧ yX1_commonDivisor.cls ≠ "java/lang/invoke/VarHandle" ∧ (parseMethodDescriptor yX1_commonDivisor.desc).map (fun d => d.parameters.length) = some 2 := by decide +kernel
set_option maxHeartbeats 4000000 in
set_option maxRecDepth 100000 in
theorem mX1_commonDivisor (l : Launch) (Ts : List Cond) (hTs : ∀ w, w ∈ Ts ↔ w ∈ uT) (D : va_G) (k : Nat → ClassId) (sz : Nat) (x0 : Int64) (x2 : Int64) (r : Int64) (h : fX1_commonDivisor x0 x2 = some r) : Met l yX1_commonDivisor (Cond.code yX1_commonDivisor cX1_commonDivisor 11 (some .long) :: Ts) ({ frames := 0, cells := 0, slots := 0, locals := 0 } : Room) (preM D k [.long x0, .long x2] [] sz) (postL D k r [] [] sz) 0 0 (va_A [] sz) := by
  refine Met.ofW (cc := cX1_commonDivisor) (maxL := 11) (ret := (some .long)) (by decide) rfl ?_
  intro p e s m args below meth c s₁ B hml hv
  obtain ⟨rfl, hsz, hP, hK, hD0⟩ := hv
  have hx := B.exec
  have hb := B.bytes
  have hr := B.returns
  have hts0 := atoms_spec (ws := (Cond.code yX1_commonDivisor cX1_commonDivisor 11 (some .long) :: Ts)) B.pre
  have hts : ∀ w ∈ uT, w.before _ s = true := fun w h => hts0 w (List.mem_cons_of_mem _ ((hTs w).mpr h))
  clear hts0
  have hown : s.vm.findClass RX1 = some m.cls := findClass_of_methodNamed B.named
  have hlocks := B.notSynchronized
  subst hsz
  have hD := hD0.self (sz := s.heap.size)
  generalize hAe : va_A [] s.heap.size = A at hD ⊢
  have hA : ∀ q : Nat, s.heap.size ≤ q → A q := fun q h => by rw [← hAe]; exact Or.inr h
  have hH : HOK D A s.heap [] s.heap [] := ⟨hP, hD, va_S.rf⟩
  have hl := lv_entry ([.long x0, .long x2]) (n := 11) (Nat.le_of_ble_eq_true rfl)
  rw [lg_entry_eq]
  generalize (lg_sl ([.long x0, .long x2]) ++ List.replicate (11 - (lg_sl ([.long x0, .long x2])).length) Slot.unset).toArray = ls at hl ⊢
  have hl : lv_has ls 11 [(0, .long x0), (2, .long x2)] := hl
  generalize hQ : MQ below (postL D k r [] [] s.heap.size) (List.toArray [.long x0, .long x2]) s 0 0 A = Q
  clear hP hD hD0
  suffices K : ∀ (H : Heap) (locs : List Loc), HOK D A s.heap [] H locs → W p l e ({ frames := 0, cells := 0, slots := 0, locals := 0 } : Room) s m (List.toArray [.long x0, .long x2]) below meth c H locs 0 0 Q (F0 m 0 ls []) from K s.heap [] hH
  intro H locs hH
  have L9 : ∀ (n : Nat), ∀ (kf : Int64 → Option (Int64)) (y9_4 : Int64) (y9_6 : Int64) (y9_8 : Int32), fX1_commonDivisor_L9 n kf y9_4 y9_6 y9_8 = some r → (∀ (z9_4 : Int64) (H : Heap) (locs : List Loc) (ls : Array Slot), kf z9_4 = some r → HOK D A s.heap [] H locs → lv_has ls 11 [(4, .long z9_4)] → W p l e ({ frames := 0, cells := 0, slots := 0, locals := 0 } : Room) s m (List.toArray [.long x0, .long x2]) below meth c H locs 0 0 Q (F0 m 44 ls [])) → ∀ (H : Heap) (locs : List Loc) (ls : Array Slot), HOK D A s.heap [] H locs → lv_has ls 11 [(4, .long y9_4), (6, .long y9_6), (8, .int y9_8)] → W p l e ({ frames := 0, cells := 0, slots := 0, locals := 0 } : Room) s m (List.toArray [.long x0, .long x2]) below meth c H locs 0 0 Q (F0 m 9 ls []) := by
    intro n
    induction n with
    | zero =>
      intro kf y9_4 y9_6 y9_8 h
      exact absurd h (by rw [fX1_commonDivisor_L9]; exact fun q => by cases q)
    | succ n ih =>
      intro kf y9_4 y9_6 y9_8 h kk H locs ls hH hl
      rw [fX1_commonDivisor_L9] at h
      refine lv_iload hx hb dX1_commonDivisor_9 (lv_at hl 2 rfl) ?_
      refine lv_bipush (v := 100) hx hb dX1_commonDivisor_11 (by decide) ?_
      refine lv_icmp_ge (tgt := 44) hx hb dX1_commonDivisor_13 (by decide) (fun c1 => ?_) (fun c1 => ?_)
      · replace h := dc_pos c1 h
        exact kk y9_4 H locs ls h hH (lv_sub hl [0] rfl)
      · replace h := dc_neg c1 h
        refine lv_lload hx hb dX1_commonDivisor_16 (lv_at hl 1 rfl) ?_
        refine lv_lconst (v := 0) hx hb dX1_commonDivisor_18 (by decide) ?_
        refine W.lcmp hx hb dX1_commonDivisor_19 ?_
        refine lv_if_eq (tgt := 44) hx hb dX1_commonDivisor_20 (by decide) (fun c2 => ?_) (fun c2 => ?_)
        · replace h := dc_pos c2 h
          exact kk y9_4 H locs ls h hH (lv_sub hl [0] rfl)
        · replace h := dc_neg c2 h
          refine lv_lload hx hb dX1_commonDivisor_23 (lv_at hl 0 rfl) ?_
          refine lv_lload hx hb dX1_commonDivisor_25 (lv_at hl 1 rfl) ?_
          obtain ⟨g3, h⟩ := dc_neL h
          refine lv_lrem hx hb dX1_commonDivisor_27 g3 ?_
          refine lv_lstore (lv' := [(9, .long (y9_4 - y9_4 / y9_6 * y9_6)), (4, .long y9_4), (6, .long y9_6), (8, .int y9_8)]) hx hb dX1_commonDivisor_28 hl (by decide) rfl (fun ls hl => ?_)
          refine lv_lload hx hb dX1_commonDivisor_30 (lv_at hl 2 rfl) ?_
          refine lv_lstore (lv' := [(4, .long y9_6), (9, .long (y9_4 - y9_4 / y9_6 * y9_6)), (6, .long y9_6), (8, .int y9_8)]) hx hb dX1_commonDivisor_32 hl (by decide) rfl (fun ls hl => ?_)
          refine lv_lload hx hb dX1_commonDivisor_34 (lv_at hl 1 rfl) ?_
          refine lv_lstore (lv' := [(6, .long (y9_4 - y9_4 / y9_6 * y9_6)), (4, .long y9_6), (9, .long (y9_4 - y9_4 / y9_6 * y9_6)), (8, .int y9_8)]) hx hb dX1_commonDivisor_36 hl (by decide) rfl (fun ls hl => ?_)
          refine lv_iinc (v := (y9_8 + (1 : Int32))) (lv' := [(8, .int (y9_8 + (1 : Int32))), (6, .long (y9_4 - y9_4 / y9_6 * y9_6)), (4, .long y9_6), (9, .long (y9_4 - y9_4 / y9_6 * y9_6))]) hx hb dX1_commonDivisor_38 hl (k := 3) rfl rfl (by decide) rfl (fun ls hl => ?_)
          refine lv_goto (tgt := 9) hx hb dX1_commonDivisor_41 (by decide) ?_
          exact ih kf y9_6 (y9_4 - y9_4 / y9_6 * y9_6) (y9_8 + (1 : Int32)) h kk H locs ls hH (lv_sub hl [2, 1, 0] rfl)
  rw [fX1_commonDivisor] at h
  refine lv_lload_n hx hb dX1_commonDivisor_0 rfl (lv_at hl 0 rfl) ?_
  refine lv_lstore (lv' := [(4, .long x0), (0, .long x0), (2, .long x2)]) hx hb dX1_commonDivisor_1 hl (by decide) rfl (fun ls hl => ?_)
  refine lv_lload_n hx hb dX1_commonDivisor_3 rfl (lv_at hl 2 rfl) ?_
  refine lv_lstore (lv' := [(6, .long x2), (4, .long x0), (0, .long x0), (2, .long x2)]) hx hb dX1_commonDivisor_4 hl (by decide) rfl (fun ls hl => ?_)
  refine lv_iconst (v := 0) hx hb dX1_commonDivisor_6 (by decide) ?_
  refine lv_istore (lv' := [(8, .int (0 : Int32)), (6, .long x2), (4, .long x0), (0, .long x0), (2, .long x2)]) hx hb dX1_commonDivisor_7 hl (by decide) rfl (fun ls hl => ?_)
  refine L9 _ _ x0 x2 (0 : Int32) h (fun z9_4 H locs ls h hH hl => ?_) H locs ls hH (lv_sub hl [2, 1, 0] rfl)
  refine lv_lload hx hb dX1_commonDivisor_44 (lv_at hl 0 rfl) ?_
  have h := Option.some.inj h
  subst h
  exact ge_l hx hb hr hlocks hQ hK hH hAe rfl dX1_commonDivisor_46
theorem hd_X1_become : yX1_become.cls = RX1 ∧ yX1_become.cls ≠ "java/lang/invoke/MethodHandle" ∧ yX1_become.cls ≠ "java/lang/invoke/VarHandle" ∧ (parseMethodDescriptor yX1_become.desc).map (fun d => d.parameters.length) = some 2 := by decide +kernel
set_option maxHeartbeats 4000000 in
set_option maxRecDepth 100000 in
theorem mX1_become (l : Launch) (Ts : List Cond) (hTs : ∀ w, w ∈ Ts ↔ w ∈ uT) (D : va_G) (k : Nat → ClassId) (sz : Nat) (a_t : Nat) (v_t_bottom : Value) (v_t_top : Value) (x1 : Int64) (x3 : Int64) (r : Int64 × Int64) (h : fX1_become x1 x3 = some r) : Met l yX1_become (Cond.code yX1_become cX1_become 7 none :: Ts) ({ frames := 1, cells := 0, slots := 0, locals := 30 } : Room) (preM D k [.ref a_t, .long x1, .long x3] [(a_t, .inr (1, [v_t_top, v_t_bottom]))] sz) (postV D k [(a_t, .inr (1, [v_t_top, v_t_bottom]))] [(a_t, .inr (1, [.long r.2, .long r.1]))] sz) 0 0 (va_A [(a_t, .inr (1, [v_t_top, v_t_bottom]))] sz) := by
  refine Met.ofW (cc := cX1_become) (maxL := 7) (ret := none) (by decide) rfl ?_
  intro p e s m args below meth c s₁ B hml hv
  obtain ⟨rfl, hsz, hP, hK, hD0⟩ := hv
  have hx := B.exec
  have hb := B.bytes
  have hr := B.returns
  have hts0 := atoms_spec (ws := (Cond.code yX1_become cX1_become 7 none :: Ts)) B.pre
  have hts : ∀ w ∈ uT, w.before _ s = true := fun w h => hts0 w (List.mem_cons_of_mem _ ((hTs w).mpr h))
  clear hts0
  have hown : s.vm.findClass RX1 = some m.cls := findClass_of_methodNamed B.named
  have hlocks := B.notSynchronized
  subst hsz
  have hD := hD0.self (sz := s.heap.size)
  generalize hAe : va_A [(a_t, .inr (1, [v_t_top, v_t_bottom]))] s.heap.size = A at hD ⊢
  have hA : ∀ q : Nat, s.heap.size ≤ q → A q := fun q h => by rw [← hAe]; exact Or.inr h
  have hH : HOK D A s.heap [(a_t, .inr (1, [v_t_top, v_t_bottom]))] s.heap [] := ⟨hP, hD, va_S.rf⟩
  have hl := lv_entry ([.ref a_t, .long x1, .long x3]) (n := 7) (Nat.le_of_ble_eq_true rfl)
  rw [lg_entry_eq]
  generalize (lg_sl ([.ref a_t, .long x1, .long x3]) ++ List.replicate (7 - (lg_sl ([.ref a_t, .long x1, .long x3])).length) Slot.unset).toArray = ls at hl ⊢
  have hl : lv_has ls 7 [(0, .ref a_t), (1, .long x1), (3, .long x3)] := hl
  generalize hQ : MQ below (postV D k [(a_t, .inr (1, [v_t_top, v_t_bottom]))] [(a_t, .inr (1, [.long r.2, .long r.1]))] s.heap.size) (List.toArray [.ref a_t, .long x1, .long x3]) s 0 0 A = Q
  clear hP hD hD0
  suffices K : ∀ (H : Heap) (locs : List Loc), HOK D A s.heap [(a_t, .inr (1, [v_t_top, v_t_bottom]))] H locs → W p l e ({ frames := 1, cells := 0, slots := 0, locals := 30 } : Room) s m (List.toArray [.ref a_t, .long x1, .long x3]) below meth c H locs 0 0 Q (F0 m 0 ls []) from K s.heap [] hH
  intro H locs hH
  rw [fX1_become] at h
  refine lv_lload_n hx hb dX1_become_0 rfl (lv_at hl 1 rfl) ?_
  refine lv_lload_n hx hb dX1_become_1 rfl (lv_at hl 2 rfl) ?_
  obtain ⟨q1, hqq1, h⟩ := dc_bind h
  refine gc_Sl (ws' := [(a_t, .inr (1, [v_t_top, v_t_bottom]))]) (As := [.long x1, .long x3]) (rest := []) (n := 2) hTs ⟨hx, hb, hml, hown, hts⟩ (mX1_commonDivisor l Ts hTs D k H.size x1 x3 q1 hqq1) u_ml_X1_16 u_st_X1_commonDivisor u_in_X1 u_co_X1_commonDivisor hd_X1_commonDivisor ⟨Nat.le_of_ble_eq_true rfl, Nat.le_of_ble_eq_true rfl⟩ ⟨rfl, rfl⟩ hK hH hA (cut0 (isC := []) rfl rfl rfl) rfl rfl hl.1 (Nat.le_of_ble_eq_true rfl) dX1_become_2 ⟨Nat.le_of_ble_eq_true rfl, Nat.le_of_ble_eq_true rfl⟩ (fun H locs hH => ?_)
  refine lv_lstore (lv' := [(5, .long q1), (0, .ref a_t), (1, .long x1), (3, .long x3)]) hx hb dX1_become_5 hl (by decide) rfl (fun ls hl => ?_)
  refine lv_lload_n hx hb dX1_become_7 rfl (lv_at hl 2 rfl) ?_
  refine lv_lconst (v := 0) hx hb dX1_become_8 (by decide) ?_
  refine W.lcmp hx hb dX1_become_9 ?_
  refine lv_if_eq (tgt := 26) hx hb dX1_become_10 (by decide) (fun c2 => ?_) (fun c2 => ?_)
  · replace h := dc_pos c2 h
    refine lv_aload_n hx hb dX1_become_26 rfl (lv_at hl 1 rfl) ?_
    refine lv_lconst (v := 0) hx hb dX1_become_27 (by decide) ?_
    refine gk_put (ci := 1) (C := RX1) (T := TX1) (N := 2) hx hb hts u_ws_X1 tyX1_ok nmX1 hown hK hH 0 rfl rfl 0 (by decide) u_fl_X1_7 rfl rfl rfl (Nat.le_of_ble_eq_true rfl) dX1_become_28 [(a_t, .inr (1, [.long (0 : Int64), v_t_bottom]))] rfl (fun H locs hH => ?_)
    refine lv_aload_n hx hb dX1_become_31 rfl (lv_at hl 1 rfl) ?_
    refine lv_lconst (v := 1) hx hb dX1_become_32 (by decide) ?_
    refine gk_put (ci := 1) (C := RX1) (T := TX1) (N := 2) hx hb hts u_ws_X1 tyX1_ok nmX1 hown hK hH 0 rfl rfl 1 (by decide) u_fl_X1_13 rfl rfl rfl (Nat.le_of_ble_eq_true rfl) dX1_become_33 [(a_t, .inr (1, [.long (0 : Int64), .long (1 : Int64)]))] rfl (fun H locs hH => ?_)
    have h := Option.some.inj h
    subst h
    exact ge_v hx hb hr hlocks hQ hK hH hAe dX1_become_36
  · replace h := dc_neg c2 h
    refine lv_lload_n hx hb dX1_become_13 rfl (lv_at hl 3 rfl) ?_
    refine lv_lconst (v := 0) hx hb dX1_become_14 (by decide) ?_
    refine W.lcmp hx hb dX1_become_15 ?_
    refine lv_if_eq (tgt := 26) hx hb dX1_become_16 (by decide) (fun c3 => ?_) (fun c3 => ?_)
    · replace h := dc_pos c3 h
      refine lv_aload_n hx hb dX1_become_26 rfl (lv_at hl 1 rfl) ?_
      refine lv_lconst (v := 0) hx hb dX1_become_27 (by decide) ?_
      refine gk_put (ci := 1) (C := RX1) (T := TX1) (N := 2) hx hb hts u_ws_X1 tyX1_ok nmX1 hown hK hH 0 rfl rfl 0 (by decide) u_fl_X1_7 rfl rfl rfl (Nat.le_of_ble_eq_true rfl) dX1_become_28 [(a_t, .inr (1, [.long (0 : Int64), v_t_bottom]))] rfl (fun H locs hH => ?_)
      refine lv_aload_n hx hb dX1_become_31 rfl (lv_at hl 1 rfl) ?_
      refine lv_lconst (v := 1) hx hb dX1_become_32 (by decide) ?_
      refine gk_put (ci := 1) (C := RX1) (T := TX1) (N := 2) hx hb hts u_ws_X1 tyX1_ok nmX1 hown hK hH 0 rfl rfl 1 (by decide) u_fl_X1_13 rfl rfl rfl (Nat.le_of_ble_eq_true rfl) dX1_become_33 [(a_t, .inr (1, [.long (0 : Int64), .long (1 : Int64)]))] rfl (fun H locs hH => ?_)
      have h := Option.some.inj h
      subst h
      exact ge_v hx hb hr hlocks hQ hK hH hAe dX1_become_36
    · replace h := dc_neg c3 h
      refine lv_lload hx hb dX1_become_19 (lv_at hl 0 rfl) ?_
      refine lv_lconst (v := 0) hx hb dX1_become_21 (by decide) ?_
      refine W.lcmp hx hb dX1_become_22 ?_
      refine lv_if_ne (tgt := 37) hx hb dX1_become_23 (by decide) (fun c4 => ?_) (fun c4 => ?_)
      · replace h := dc_neg c4 h
        refine lv_aload_n hx hb dX1_become_37 rfl (lv_at hl 1 rfl) ?_
        refine lv_lload_n hx hb dX1_become_38 rfl (lv_at hl 2 rfl) ?_
        refine lv_lload hx hb dX1_become_39 (lv_at hl 0 rfl) ?_
        obtain ⟨g5, h⟩ := dc_neL h
        refine lv_ldiv hx hb dX1_become_41 g5 ?_
        refine gk_put (ci := 1) (C := RX1) (T := TX1) (N := 2) hx hb hts u_ws_X1 tyX1_ok nmX1 hown hK hH 0 rfl rfl 0 (by decide) u_fl_X1_7 rfl rfl rfl (Nat.le_of_ble_eq_true rfl) dX1_become_42 [(a_t, .inr (1, [.long (x1 / q1), v_t_bottom]))] rfl (fun H locs hH => ?_)
        refine lv_aload_n hx hb dX1_become_45 rfl (lv_at hl 1 rfl) ?_
        refine lv_lload_n hx hb dX1_become_46 rfl (lv_at hl 3 rfl) ?_
        refine lv_lload hx hb dX1_become_47 (lv_at hl 0 rfl) ?_
        obtain ⟨g6, h⟩ := dc_neL h
        refine lv_ldiv hx hb dX1_become_49 g6 ?_
        refine gk_put (ci := 1) (C := RX1) (T := TX1) (N := 2) hx hb hts u_ws_X1 tyX1_ok nmX1 hown hK hH 0 rfl rfl 1 (by decide) u_fl_X1_13 rfl rfl rfl (Nat.le_of_ble_eq_true rfl) dX1_become_50 [(a_t, .inr (1, [.long (x1 / q1), .long (x3 / q1)]))] rfl (fun H locs hH => ?_)
        have h := Option.some.inj h
        subst h
        exact ge_v hx hb hr hlocks hQ hK hH hAe dX1_become_53
      · replace h := dc_pos c4 h
        refine lv_aload_n hx hb dX1_become_26 rfl (lv_at hl 1 rfl) ?_
        refine lv_lconst (v := 0) hx hb dX1_become_27 (by decide) ?_
        refine gk_put (ci := 1) (C := RX1) (T := TX1) (N := 2) hx hb hts u_ws_X1 tyX1_ok nmX1 hown hK hH 0 rfl rfl 0 (by decide) u_fl_X1_7 rfl rfl rfl (Nat.le_of_ble_eq_true rfl) dX1_become_28 [(a_t, .inr (1, [.long (0 : Int64), v_t_bottom]))] rfl (fun H locs hH => ?_)
        refine lv_aload_n hx hb dX1_become_31 rfl (lv_at hl 1 rfl) ?_
        refine lv_lconst (v := 1) hx hb dX1_become_32 (by decide) ?_
        refine gk_put (ci := 1) (C := RX1) (T := TX1) (N := 2) hx hb hts u_ws_X1 tyX1_ok nmX1 hown hK hH 0 rfl rfl 1 (by decide) u_fl_X1_13 rfl rfl rfl (Nat.le_of_ble_eq_true rfl) dX1_become_33 [(a_t, .inr (1, [.long (0 : Int64), .long (1 : Int64)]))] rfl (fun H locs hH => ?_)
        have h := Option.some.inj h
        subst h
        exact ge_v hx hb hr hlocks hQ hK hH hAe dX1_become_36
theorem hd_X6_weighCompactness : yX6_weighCompactness.cls ≠ "java/lang/invoke/MethodHandle" ∧ yX6_weighCompactness.cls ≠ "java/lang/invoke/VarHandle" ∧ (parseMethodDescriptor yX6_weighCompactness.desc).map (fun d => d.parameters.length) = some 3 := by decide +kernel
set_option maxHeartbeats 4000000 in
set_option maxRecDepth 100000 in
theorem mX6_weighCompactness (l : Launch) (Ts : List Cond) (hTs : ∀ w, w ∈ Ts ↔ w ∈ uT) (D : va_G) (k : Nat → ClassId) (sz : Nat) (a_p0 : Nat) (a_p1 : Nat) (a_p2 : Nat) (a_p0_population : Nat) (a_p0_area : Nat) (a_p0_community : Nat) (a_p0_outer : Nat) (a_p0_neighbors : Nat) (a_p0_lengths : Nat) (a_p0_plan : Nat) (a_p1_places : Nat) (a_p1_sets : Nat) (p0_area : Nat → Int32) (p0_districts : Int32) (p0_lengths : Nat → Int32) (p0_outer : Nat → Int32) (p0_units : Int32) (p1_sets : Nat → Int32) (v_p0_cores : Value) (v_p0_hasPlan : Value) (v_p0_tolerance : Value) (v_p2_bottom : Value) (v_p2_top : Value) (r : Int64 × Int64) (h : fX6_weighCompactness p0_area p0_districts p0_lengths p0_outer p0_units p1_sets = some r) : Met l yX6_weighCompactness (Cond.code yX6_weighCompactness cX6_weighCompactness 14 none :: Ts) ({ frames := 2, cells := 0, slots := 0, locals := 56 } : Room) (preM D k [.ref a_p0, .ref a_p1, .ref a_p2] [(a_p0, .inr (8, [.int p0_units, .ref a_p0_population, .ref a_p0_area, .ref a_p0_community, .ref a_p0_outer, .ref a_p0_neighbors, .ref a_p0_lengths, v_p0_cores, .int p0_districts, v_p0_tolerance, v_p0_hasPlan, .ref a_p0_plan])), (a_p1, .inr (4, [.ref a_p1_places, .ref a_p1_sets])), (a_p1_sets, .inl (k 0, 4, .inl p1_sets)), (a_p0_outer, .inl (k 0, 12, .inl p0_outer)), (a_p0_lengths, .inl (k 0, 144, .inl p0_lengths)), (a_p0_area, .inl (k 0, 12, .inl p0_area)), (a_p2, .inr (1, [v_p2_top, v_p2_bottom]))] sz) (postV D k [(a_p0, .inr (8, [.int p0_units, .ref a_p0_population, .ref a_p0_area, .ref a_p0_community, .ref a_p0_outer, .ref a_p0_neighbors, .ref a_p0_lengths, v_p0_cores, .int p0_districts, v_p0_tolerance, v_p0_hasPlan, .ref a_p0_plan])), (a_p1, .inr (4, [.ref a_p1_places, .ref a_p1_sets])), (a_p1_sets, .inl (k 0, 4, .inl p1_sets)), (a_p0_outer, .inl (k 0, 12, .inl p0_outer)), (a_p0_lengths, .inl (k 0, 144, .inl p0_lengths)), (a_p0_area, .inl (k 0, 12, .inl p0_area)), (a_p2, .inr (1, [v_p2_top, v_p2_bottom]))] [(a_p0, .inr (8, [.int p0_units, .ref a_p0_population, .ref a_p0_area, .ref a_p0_community, .ref a_p0_outer, .ref a_p0_neighbors, .ref a_p0_lengths, v_p0_cores, .int p0_districts, v_p0_tolerance, v_p0_hasPlan, .ref a_p0_plan])), (a_p1, .inr (4, [.ref a_p1_places, .ref a_p1_sets])), (a_p1_sets, .inl (k 0, 4, .inl p1_sets)), (a_p0_outer, .inl (k 0, 12, .inl p0_outer)), (a_p0_lengths, .inl (k 0, 144, .inl p0_lengths)), (a_p0_area, .inl (k 0, 12, .inl p0_area)), (a_p2, .inr (1, [.long r.2, .long r.1]))] sz) 0 0 (va_A [(a_p0, .inr (8, [.int p0_units, .ref a_p0_population, .ref a_p0_area, .ref a_p0_community, .ref a_p0_outer, .ref a_p0_neighbors, .ref a_p0_lengths, v_p0_cores, .int p0_districts, v_p0_tolerance, v_p0_hasPlan, .ref a_p0_plan])), (a_p1, .inr (4, [.ref a_p1_places, .ref a_p1_sets])), (a_p1_sets, .inl (k 0, 4, .inl p1_sets)), (a_p0_outer, .inl (k 0, 12, .inl p0_outer)), (a_p0_lengths, .inl (k 0, 144, .inl p0_lengths)), (a_p0_area, .inl (k 0, 12, .inl p0_area)), (a_p2, .inr (1, [v_p2_top, v_p2_bottom]))] sz) := by
  refine Met.ofW (cc := cX6_weighCompactness) (maxL := 14) (ret := none) (by decide) rfl ?_
  intro p e s m args below meth c s₁ B hml hv
  obtain ⟨rfl, hsz, hP, hK, hD0⟩ := hv
  have hx := B.exec
  have hb := B.bytes
  have hr := B.returns
  have hts0 := atoms_spec (ws := (Cond.code yX6_weighCompactness cX6_weighCompactness 14 none :: Ts)) B.pre
  have hts : ∀ w ∈ uT, w.before _ s = true := fun w h => hts0 w (List.mem_cons_of_mem _ ((hTs w).mpr h))
  clear hts0
  have hown : s.vm.findClass RX6 = some m.cls := findClass_of_methodNamed B.named
  have hlocks := B.notSynchronized
  subst hsz
  have hD := hD0.self (sz := s.heap.size)
  generalize hAe : va_A [(a_p0, .inr (8, [.int p0_units, .ref a_p0_population, .ref a_p0_area, .ref a_p0_community, .ref a_p0_outer, .ref a_p0_neighbors, .ref a_p0_lengths, v_p0_cores, .int p0_districts, v_p0_tolerance, v_p0_hasPlan, .ref a_p0_plan])), (a_p1, .inr (4, [.ref a_p1_places, .ref a_p1_sets])), (a_p1_sets, .inl (k 0, 4, .inl p1_sets)), (a_p0_outer, .inl (k 0, 12, .inl p0_outer)), (a_p0_lengths, .inl (k 0, 144, .inl p0_lengths)), (a_p0_area, .inl (k 0, 12, .inl p0_area)), (a_p2, .inr (1, [v_p2_top, v_p2_bottom]))] s.heap.size = A at hD ⊢
  have hA : ∀ q : Nat, s.heap.size ≤ q → A q := fun q h => by rw [← hAe]; exact Or.inr h
  have hH : HOK D A s.heap [(a_p0, .inr (8, [.int p0_units, .ref a_p0_population, .ref a_p0_area, .ref a_p0_community, .ref a_p0_outer, .ref a_p0_neighbors, .ref a_p0_lengths, v_p0_cores, .int p0_districts, v_p0_tolerance, v_p0_hasPlan, .ref a_p0_plan])), (a_p1, .inr (4, [.ref a_p1_places, .ref a_p1_sets])), (a_p1_sets, .inl (k 0, 4, .inl p1_sets)), (a_p0_outer, .inl (k 0, 12, .inl p0_outer)), (a_p0_lengths, .inl (k 0, 144, .inl p0_lengths)), (a_p0_area, .inl (k 0, 12, .inl p0_area)), (a_p2, .inr (1, [v_p2_top, v_p2_bottom]))] s.heap [] := ⟨hP, hD, va_S.rf⟩
  have hl := lv_entry ([.ref a_p0, .ref a_p1, .ref a_p2]) (n := 14) (Nat.le_of_ble_eq_true rfl)
  rw [lg_entry_eq]
  generalize (lg_sl ([.ref a_p0, .ref a_p1, .ref a_p2]) ++ List.replicate (14 - (lg_sl ([.ref a_p0, .ref a_p1, .ref a_p2])).length) Slot.unset).toArray = ls at hl ⊢
  have hl : lv_has ls 14 [(0, .ref a_p0), (1, .ref a_p1), (2, .ref a_p2)] := hl
  generalize hQ : MQ below (postV D k [(a_p0, .inr (8, [.int p0_units, .ref a_p0_population, .ref a_p0_area, .ref a_p0_community, .ref a_p0_outer, .ref a_p0_neighbors, .ref a_p0_lengths, v_p0_cores, .int p0_districts, v_p0_tolerance, v_p0_hasPlan, .ref a_p0_plan])), (a_p1, .inr (4, [.ref a_p1_places, .ref a_p1_sets])), (a_p1_sets, .inl (k 0, 4, .inl p1_sets)), (a_p0_outer, .inl (k 0, 12, .inl p0_outer)), (a_p0_lengths, .inl (k 0, 144, .inl p0_lengths)), (a_p0_area, .inl (k 0, 12, .inl p0_area)), (a_p2, .inr (1, [v_p2_top, v_p2_bottom]))] [(a_p0, .inr (8, [.int p0_units, .ref a_p0_population, .ref a_p0_area, .ref a_p0_community, .ref a_p0_outer, .ref a_p0_neighbors, .ref a_p0_lengths, v_p0_cores, .int p0_districts, v_p0_tolerance, v_p0_hasPlan, .ref a_p0_plan])), (a_p1, .inr (4, [.ref a_p1_places, .ref a_p1_sets])), (a_p1_sets, .inl (k 0, 4, .inl p1_sets)), (a_p0_outer, .inl (k 0, 12, .inl p0_outer)), (a_p0_lengths, .inl (k 0, 144, .inl p0_lengths)), (a_p0_area, .inl (k 0, 12, .inl p0_area)), (a_p2, .inr (1, [.long r.2, .long r.1]))] s.heap.size) (List.toArray [.ref a_p0, .ref a_p1, .ref a_p2]) s 0 0 A = Q
  clear hP hD hD0
  suffices K : ∀ (H : Heap) (locs : List Loc), HOK D A s.heap [(a_p0, .inr (8, [.int p0_units, .ref a_p0_population, .ref a_p0_area, .ref a_p0_community, .ref a_p0_outer, .ref a_p0_neighbors, .ref a_p0_lengths, v_p0_cores, .int p0_districts, v_p0_tolerance, v_p0_hasPlan, .ref a_p0_plan])), (a_p1, .inr (4, [.ref a_p1_places, .ref a_p1_sets])), (a_p1_sets, .inl (k 0, 4, .inl p1_sets)), (a_p0_outer, .inl (k 0, 12, .inl p0_outer)), (a_p0_lengths, .inl (k 0, 144, .inl p0_lengths)), (a_p0_area, .inl (k 0, 12, .inl p0_area)), (a_p2, .inr (1, [v_p2_top, v_p2_bottom]))] H locs → W p l e ({ frames := 2, cells := 0, slots := 0, locals := 56 } : Room) s m (List.toArray [.ref a_p0, .ref a_p1, .ref a_p2]) below meth c H locs 0 0 Q (F0 m 0 ls []) from K s.heap [] hH
  intro H locs hH
  have L8 : ∀ (n : Nat), ∀ (kf : Int64 → Int64 → Option (Int64 × Int64)) (y8_3 : Int64) (y8_5 : Int64) (y8_7 : Int32), fX6_weighCompactness_L8 p0_area p0_districts p0_lengths p0_outer p0_units p1_sets n kf y8_3 y8_5 y8_7 = some r → (∀ (z8_3 : Int64) (z8_5 : Int64) (H : Heap) (locs : List Loc) (ls : Array Slot), kf z8_3 z8_5 = some r → HOK D A s.heap [(a_p0, .inr (8, [.int p0_units, .ref a_p0_population, .ref a_p0_area, .ref a_p0_community, .ref a_p0_outer, .ref a_p0_neighbors, .ref a_p0_lengths, v_p0_cores, .int p0_districts, v_p0_tolerance, v_p0_hasPlan, .ref a_p0_plan])), (a_p1, .inr (4, [.ref a_p1_places, .ref a_p1_sets])), (a_p1_sets, .inl (k 0, 4, .inl p1_sets)), (a_p0_outer, .inl (k 0, 12, .inl p0_outer)), (a_p0_lengths, .inl (k 0, 144, .inl p0_lengths)), (a_p0_area, .inl (k 0, 12, .inl p0_area)), (a_p2, .inr (1, [v_p2_top, v_p2_bottom]))] H locs → lv_has ls 14 [(2, .ref a_p2), (3, .long z8_3), (5, .long z8_5)] → W p l e ({ frames := 2, cells := 0, slots := 0, locals := 56 } : Room) s m (List.toArray [.ref a_p0, .ref a_p1, .ref a_p2]) below meth c H locs 0 0 Q (F0 m 109 ls [])) → ∀ (H : Heap) (locs : List Loc) (ls : Array Slot), HOK D A s.heap [(a_p0, .inr (8, [.int p0_units, .ref a_p0_population, .ref a_p0_area, .ref a_p0_community, .ref a_p0_outer, .ref a_p0_neighbors, .ref a_p0_lengths, v_p0_cores, .int p0_districts, v_p0_tolerance, v_p0_hasPlan, .ref a_p0_plan])), (a_p1, .inr (4, [.ref a_p1_places, .ref a_p1_sets])), (a_p1_sets, .inl (k 0, 4, .inl p1_sets)), (a_p0_outer, .inl (k 0, 12, .inl p0_outer)), (a_p0_lengths, .inl (k 0, 144, .inl p0_lengths)), (a_p0_area, .inl (k 0, 12, .inl p0_area)), (a_p2, .inr (1, [v_p2_top, v_p2_bottom]))] H locs → lv_has ls 14 [(0, .ref a_p0), (1, .ref a_p1), (2, .ref a_p2), (3, .long y8_3), (5, .long y8_5), (7, .int y8_7)] → W p l e ({ frames := 2, cells := 0, slots := 0, locals := 56 } : Room) s m (List.toArray [.ref a_p0, .ref a_p1, .ref a_p2]) below meth c H locs 0 0 Q (F0 m 8 ls []) := by
    intro n
    induction n with
    | zero =>
      intro kf y8_3 y8_5 y8_7 h
      exact absurd h (by rw [fX6_weighCompactness_L8]; exact fun q => by cases q)
    | succ n ih =>
      intro kf y8_3 y8_5 y8_7 h kk H locs ls hH hl
      rw [fX6_weighCompactness_L8] at h
      refine lv_iload hx hb dX6_weighCompactness_8 (lv_at hl 5 rfl) ?_
      refine lv_aload_n hx hb dX6_weighCompactness_10 rfl (lv_at hl 0 rfl) ?_
      refine gk_get (ci := 8) (C := RX9) (T := TX9) (N := 12) hx hb hts u_ws_X9 hown hK hH 0 rfl rfl 8 (by decide) u_fl_X6_51 rfl dX6_weighCompactness_11 ?_
      refine lv_icmp_ge (tgt := 109) hx hb dX6_weighCompactness_14 (by decide) (fun c1 => ?_) (fun c1 => ?_)
      · replace h := dc_pos c1 h
        exact kk y8_3 y8_5 H locs ls h hH (lv_sub hl [2, 3, 4] rfl)
      · replace h := dc_neg c1 h
        refine lv_aload_n hx hb dX6_weighCompactness_17 rfl (lv_at hl 0 rfl) ?_
        refine lv_aload_n hx hb dX6_weighCompactness_18 rfl (lv_at hl 1 rfl) ?_
        refine gk_get (ci := 4) (C := RX4) (T := TX4) (N := 2) hx hb hts u_ws_X4 hown hK hH 1 rfl rfl 1 (by decide) u_fl_X6_55 rfl dX6_weighCompactness_19 ?_
        refine lv_iload hx hb dX6_weighCompactness_22 (lv_at hl 5 rfl) ?_
        obtain ⟨g2, h⟩ := dc_need h
        refine gk_iald hx hb hK hH 2 rfl (dk_in g2) dX6_weighCompactness_24 ?_
        obtain ⟨q3, hqq3, h⟩ := dc_bind h
        refine gc_Vi (ws' := [(a_p0, .inr (8, [.int p0_units, .ref a_p0_population, .ref a_p0_area, .ref a_p0_community, .ref a_p0_outer, .ref a_p0_neighbors, .ref a_p0_lengths, v_p0_cores, .int p0_districts, v_p0_tolerance, v_p0_hasPlan, .ref a_p0_plan])), (a_p1, .inr (4, [.ref a_p1_places, .ref a_p1_sets])), (a_p1_sets, .inl (k 0, 4, .inl p1_sets)), (a_p0_outer, .inl (k 0, 12, .inl p0_outer)), (a_p0_lengths, .inl (k 0, 144, .inl p0_lengths)), (a_p0_area, .inl (k 0, 12, .inl p0_area)), (a_p2, .inr (1, [v_p2_top, v_p2_bottom]))]) (As := [.int (p1_sets y8_7.toNatClampNeg)]) (rest := []) (n := 1) (ci := 8) (cq := (RX9, TX9, 12)) hTs ⟨hx, hb, hml, hown, hts⟩ (mX9_perimeterOf l Ts hTs D k H.size a_p0 a_p0_population a_p0_area a_p0_community a_p0_outer a_p0_neighbors a_p0_lengths a_p0_plan p0_lengths p0_outer p0_units v_p0_cores (.int p0_districts) v_p0_hasPlan v_p0_tolerance (p1_sets y8_7.toNatClampNeg) q3 hqq3) u_ml_X6_45 u_im_X9_perimeterOf u_se_X9_perimeterOf u_in_X9 u_co_X9_perimeterOf hd_X9_perimeterOf ⟨Nat.le_of_ble_eq_true rfl, Nat.le_of_ble_eq_true rfl⟩ ⟨rfl, rfl⟩ hK hH hA (cut0 (isC := [0, 3, 4]) rfl rfl rfl) rfl rfl rfl rfl hl.1 (Nat.le_of_ble_eq_true rfl) dX6_weighCompactness_25 ⟨Nat.le_of_ble_eq_true rfl, Nat.le_of_ble_eq_true rfl⟩ (fun H locs hH => ?_)
        refine lv_i2l (v := (Int32.toInt64 q3)) hx hb dX6_weighCompactness_28 rfl ?_
        refine lv_lstore (lv' := [(8, .long (Int32.toInt64 q3)), (0, .ref a_p0), (1, .ref a_p1), (2, .ref a_p2), (3, .long y8_3), (5, .long y8_5), (7, .int y8_7)]) hx hb dX6_weighCompactness_29 hl (by decide) rfl (fun ls hl => ?_)
        refine lv_lload hx hb dX6_weighCompactness_31 (lv_at hl 0 rfl) ?_
        refine lv_lconst (v := 0) hx hb dX6_weighCompactness_33 (by decide) ?_
        refine W.lcmp hx hb dX6_weighCompactness_34 ?_
        refine lv_if_ne (tgt := 42) hx hb dX6_weighCompactness_35 (by decide) (fun c4 => ?_) (fun c4 => ?_)
        · replace h := dc_neg c4 h
          refine lv_ldc2 hx hb hown (hts _ u_k_X6_61) dX6_weighCompactness_42 ?_
          refine lv_aload_n hx hb dX6_weighCompactness_45 rfl (lv_at hl 1 rfl) ?_
          refine lv_aload_n hx hb dX6_weighCompactness_46 rfl (lv_at hl 2 rfl) ?_
          refine gk_get (ci := 4) (C := RX4) (T := TX4) (N := 2) hx hb hts u_ws_X4 hown hK hH 1 rfl rfl 1 (by decide) u_fl_X6_55 rfl dX6_weighCompactness_47 ?_
          refine lv_iload hx hb dX6_weighCompactness_50 (lv_at hl 6 rfl) ?_
          obtain ⟨g7, h⟩ := dc_need h
          refine gk_iald hx hb hK hH 2 rfl (dk_in g7) dX6_weighCompactness_52 ?_
          obtain ⟨q8, hqq8, h⟩ := dc_bind h
          refine gc_Vi (ws' := [(a_p0, .inr (8, [.int p0_units, .ref a_p0_population, .ref a_p0_area, .ref a_p0_community, .ref a_p0_outer, .ref a_p0_neighbors, .ref a_p0_lengths, v_p0_cores, .int p0_districts, v_p0_tolerance, v_p0_hasPlan, .ref a_p0_plan])), (a_p1, .inr (4, [.ref a_p1_places, .ref a_p1_sets])), (a_p1_sets, .inl (k 0, 4, .inl p1_sets)), (a_p0_outer, .inl (k 0, 12, .inl p0_outer)), (a_p0_lengths, .inl (k 0, 144, .inl p0_lengths)), (a_p0_area, .inl (k 0, 12, .inl p0_area)), (a_p2, .inr (1, [v_p2_top, v_p2_bottom]))]) (As := [.int (p1_sets y8_7.toNatClampNeg)]) (rest := [.long (16 : Int64)]) (n := 1) (ci := 8) (cq := (RX9, TX9, 12)) hTs ⟨hx, hb, hml, hown, hts⟩ (mX9_areaOf l Ts hTs D k H.size a_p0 a_p0_population a_p0_area a_p0_community a_p0_outer a_p0_neighbors a_p0_lengths a_p0_plan p0_area p0_units v_p0_cores (.int p0_districts) v_p0_hasPlan v_p0_tolerance (p1_sets y8_7.toNatClampNeg) q8 hqq8) u_ml_X6_48 u_im_X9_areaOf u_se_X9_areaOf u_in_X9 u_co_X9_areaOf hd_X9_areaOf ⟨Nat.le_of_ble_eq_true rfl, Nat.le_of_ble_eq_true rfl⟩ ⟨rfl, rfl⟩ hK hH hA (cut0 (isC := [0, 5]) rfl rfl rfl) rfl rfl rfl rfl hl.1 (Nat.le_of_ble_eq_true rfl) dX6_weighCompactness_53 ⟨Nat.le_of_ble_eq_true rfl, Nat.le_of_ble_eq_true rfl⟩ (fun H locs hH => ?_)
          refine lv_i2l (v := (Int32.toInt64 q8)) hx hb dX6_weighCompactness_56 rfl ?_
          refine lv_lmul hx hb dX6_weighCompactness_57 ?_
          refine lv_lstore (lv' := [(10, .long ((16 : Int64) * (Int32.toInt64 q8))), (8, .long (Int32.toInt64 q3)), (0, .ref a_p0), (1, .ref a_p1), (2, .ref a_p2), (3, .long y8_3), (5, .long y8_5), (7, .int y8_7)]) hx hb dX6_weighCompactness_58 hl (by decide) rfl (fun ls hl => ?_)
          refine lv_lload hx hb dX6_weighCompactness_60 (lv_at hl 1 rfl) ?_
          refine lv_lconst (v := 0) hx hb dX6_weighCompactness_62 (by decide) ?_
          refine W.lcmp hx hb dX6_weighCompactness_63 ?_
          refine lv_if_ne (tgt := 71) hx hb dX6_weighCompactness_64 (by decide) (fun _ => ?_) (fun c => absurd c c4)
          refine lv_lload hx hb dX6_weighCompactness_71 (lv_at hl 1 rfl) ?_
          refine lv_lload hx hb dX6_weighCompactness_73 (lv_at hl 1 rfl) ?_
          refine lv_lmul hx hb dX6_weighCompactness_75 ?_
          refine lv_lstore (lv' := [(12, .long ((Int32.toInt64 q3) * (Int32.toInt64 q3))), (10, .long ((16 : Int64) * (Int32.toInt64 q8))), (8, .long (Int32.toInt64 q3)), (0, .ref a_p0), (1, .ref a_p1), (2, .ref a_p2), (3, .long y8_3), (5, .long y8_5), (7, .int y8_7)]) hx hb dX6_weighCompactness_76 hl (by decide) rfl (fun ls hl => ?_)
          refine lv_iload hx hb dX6_weighCompactness_78 (lv_at hl 8 rfl) ?_
          refine lv_if_eq (tgt := 96) hx hb dX6_weighCompactness_80 (by decide) (fun c9 => ?_) (fun c9 => ?_)
          · replace h := dc_pos c9 h
            refine lv_lload hx hb dX6_weighCompactness_96 (lv_at hl 1 rfl) ?_
            refine lv_lstore_n (lv' := [(3, .long ((16 : Int64) * (Int32.toInt64 q8))), (12, .long ((Int32.toInt64 q3) * (Int32.toInt64 q3))), (10, .long ((16 : Int64) * (Int32.toInt64 q8))), (8, .long (Int32.toInt64 q3)), (0, .ref a_p0), (1, .ref a_p1), (2, .ref a_p2), (5, .long y8_5), (7, .int y8_7)]) hx hb dX6_weighCompactness_98 rfl hl (by decide) rfl (fun ls hl => ?_)
            refine lv_lload hx hb dX6_weighCompactness_99 (lv_at hl 1 rfl) ?_
            refine lv_lstore (lv' := [(5, .long ((Int32.toInt64 q3) * (Int32.toInt64 q3))), (3, .long ((16 : Int64) * (Int32.toInt64 q8))), (12, .long ((Int32.toInt64 q3) * (Int32.toInt64 q3))), (10, .long ((16 : Int64) * (Int32.toInt64 q8))), (8, .long (Int32.toInt64 q3)), (0, .ref a_p0), (1, .ref a_p1), (2, .ref a_p2), (7, .int y8_7)]) hx hb dX6_weighCompactness_101 hl (by decide) rfl (fun ls hl => ?_)
            refine lv_iinc (v := (y8_7 + (1 : Int32))) (lv' := [(7, .int (y8_7 + (1 : Int32))), (5, .long ((Int32.toInt64 q3) * (Int32.toInt64 q3))), (3, .long ((16 : Int64) * (Int32.toInt64 q8))), (12, .long ((Int32.toInt64 q3) * (Int32.toInt64 q3))), (10, .long ((16 : Int64) * (Int32.toInt64 q8))), (8, .long (Int32.toInt64 q3)), (0, .ref a_p0), (1, .ref a_p1), (2, .ref a_p2)]) hx hb dX6_weighCompactness_103 hl (k := 8) rfl rfl (by decide) rfl (fun ls hl => ?_)
            refine lv_goto (tgt := 8) hx hb dX6_weighCompactness_106 (by decide) ?_
            exact ih kf ((16 : Int64) * (Int32.toInt64 q8)) ((Int32.toInt64 q3) * (Int32.toInt64 q3)) (y8_7 + (1 : Int32)) h kk H locs ls hH (lv_sub hl [6, 7, 8, 2, 1, 0] rfl)
          · replace h := dc_neg c9 h
            refine lv_lload hx hb dX6_weighCompactness_83 (lv_at hl 1 rfl) ?_
            refine lv_lload hx hb dX6_weighCompactness_85 (lv_at hl 7 rfl) ?_
            refine lv_lmul hx hb dX6_weighCompactness_87 ?_
            refine lv_lload_n hx hb dX6_weighCompactness_88 rfl (lv_at hl 6 rfl) ?_
            refine lv_lload hx hb dX6_weighCompactness_89 (lv_at hl 0 rfl) ?_
            refine lv_lmul hx hb dX6_weighCompactness_91 ?_
            refine W.lcmp hx hb dX6_weighCompactness_92 ?_
            refine lv_if_ge (tgt := 103) hx hb dX6_weighCompactness_93 (by decide) (fun c10 => ?_) (fun c10 => ?_)
            · replace h := dc_pos c10 h
              refine lv_iinc (v := (y8_7 + (1 : Int32))) (lv' := [(7, .int (y8_7 + (1 : Int32))), (12, .long ((Int32.toInt64 q3) * (Int32.toInt64 q3))), (10, .long ((16 : Int64) * (Int32.toInt64 q8))), (8, .long (Int32.toInt64 q3)), (0, .ref a_p0), (1, .ref a_p1), (2, .ref a_p2), (3, .long y8_3), (5, .long y8_5)]) hx hb dX6_weighCompactness_103 hl (k := 8) rfl rfl (by decide) rfl (fun ls hl => ?_)
              refine lv_goto (tgt := 8) hx hb dX6_weighCompactness_106 (by decide) ?_
              exact ih kf y8_3 y8_5 (y8_7 + (1 : Int32)) h kk H locs ls hH (lv_sub hl [4, 5, 6, 7, 8, 0] rfl)
            · replace h := dc_neg c10 h
              refine lv_lload hx hb dX6_weighCompactness_96 (lv_at hl 1 rfl) ?_
              refine lv_lstore_n (lv' := [(3, .long ((16 : Int64) * (Int32.toInt64 q8))), (12, .long ((Int32.toInt64 q3) * (Int32.toInt64 q3))), (10, .long ((16 : Int64) * (Int32.toInt64 q8))), (8, .long (Int32.toInt64 q3)), (0, .ref a_p0), (1, .ref a_p1), (2, .ref a_p2), (5, .long y8_5), (7, .int y8_7)]) hx hb dX6_weighCompactness_98 rfl hl (by decide) rfl (fun ls hl => ?_)
              refine lv_lload hx hb dX6_weighCompactness_99 (lv_at hl 1 rfl) ?_
              refine lv_lstore (lv' := [(5, .long ((Int32.toInt64 q3) * (Int32.toInt64 q3))), (3, .long ((16 : Int64) * (Int32.toInt64 q8))), (12, .long ((Int32.toInt64 q3) * (Int32.toInt64 q3))), (10, .long ((16 : Int64) * (Int32.toInt64 q8))), (8, .long (Int32.toInt64 q3)), (0, .ref a_p0), (1, .ref a_p1), (2, .ref a_p2), (7, .int y8_7)]) hx hb dX6_weighCompactness_101 hl (by decide) rfl (fun ls hl => ?_)
              refine lv_iinc (v := (y8_7 + (1 : Int32))) (lv' := [(7, .int (y8_7 + (1 : Int32))), (5, .long ((Int32.toInt64 q3) * (Int32.toInt64 q3))), (3, .long ((16 : Int64) * (Int32.toInt64 q8))), (12, .long ((Int32.toInt64 q3) * (Int32.toInt64 q3))), (10, .long ((16 : Int64) * (Int32.toInt64 q8))), (8, .long (Int32.toInt64 q3)), (0, .ref a_p0), (1, .ref a_p1), (2, .ref a_p2)]) hx hb dX6_weighCompactness_103 hl (k := 8) rfl rfl (by decide) rfl (fun ls hl => ?_)
              refine lv_goto (tgt := 8) hx hb dX6_weighCompactness_106 (by decide) ?_
              exact ih kf ((16 : Int64) * (Int32.toInt64 q8)) ((Int32.toInt64 q3) * (Int32.toInt64 q3)) (y8_7 + (1 : Int32)) h kk H locs ls hH (lv_sub hl [6, 7, 8, 2, 1, 0] rfl)
        · replace h := dc_pos c4 h
          refine lv_lconst (v := 0) hx hb dX6_weighCompactness_38 (by decide) ?_
          refine lv_goto (tgt := 58) hx hb dX6_weighCompactness_39 (by decide) ?_
          refine lv_lstore (lv' := [(10, .long (0 : Int64)), (8, .long (Int32.toInt64 q3)), (0, .ref a_p0), (1, .ref a_p1), (2, .ref a_p2), (3, .long y8_3), (5, .long y8_5), (7, .int y8_7)]) hx hb dX6_weighCompactness_58 hl (by decide) rfl (fun ls hl => ?_)
          refine lv_lload hx hb dX6_weighCompactness_60 (lv_at hl 1 rfl) ?_
          refine lv_lconst (v := 0) hx hb dX6_weighCompactness_62 (by decide) ?_
          refine W.lcmp hx hb dX6_weighCompactness_63 ?_
          refine lv_if_ne (tgt := 71) hx hb dX6_weighCompactness_64 (by decide) (fun c => absurd c4 c) (fun _ => ?_)
          refine lv_lconst (v := 1) hx hb dX6_weighCompactness_67 (by decide) ?_
          refine lv_goto (tgt := 76) hx hb dX6_weighCompactness_68 (by decide) ?_
          refine lv_lstore (lv' := [(12, .long (1 : Int64)), (10, .long (0 : Int64)), (8, .long (Int32.toInt64 q3)), (0, .ref a_p0), (1, .ref a_p1), (2, .ref a_p2), (3, .long y8_3), (5, .long y8_5), (7, .int y8_7)]) hx hb dX6_weighCompactness_76 hl (by decide) rfl (fun ls hl => ?_)
          refine lv_iload hx hb dX6_weighCompactness_78 (lv_at hl 8 rfl) ?_
          refine lv_if_eq (tgt := 96) hx hb dX6_weighCompactness_80 (by decide) (fun c5 => ?_) (fun c5 => ?_)
          · replace h := dc_pos c5 h
            refine lv_lload hx hb dX6_weighCompactness_96 (lv_at hl 1 rfl) ?_
            refine lv_lstore_n (lv' := [(3, .long (0 : Int64)), (12, .long (1 : Int64)), (10, .long (0 : Int64)), (8, .long (Int32.toInt64 q3)), (0, .ref a_p0), (1, .ref a_p1), (2, .ref a_p2), (5, .long y8_5), (7, .int y8_7)]) hx hb dX6_weighCompactness_98 rfl hl (by decide) rfl (fun ls hl => ?_)
            refine lv_lload hx hb dX6_weighCompactness_99 (lv_at hl 1 rfl) ?_
            refine lv_lstore (lv' := [(5, .long (1 : Int64)), (3, .long (0 : Int64)), (12, .long (1 : Int64)), (10, .long (0 : Int64)), (8, .long (Int32.toInt64 q3)), (0, .ref a_p0), (1, .ref a_p1), (2, .ref a_p2), (7, .int y8_7)]) hx hb dX6_weighCompactness_101 hl (by decide) rfl (fun ls hl => ?_)
            refine lv_iinc (v := (y8_7 + (1 : Int32))) (lv' := [(7, .int (y8_7 + (1 : Int32))), (5, .long (1 : Int64)), (3, .long (0 : Int64)), (12, .long (1 : Int64)), (10, .long (0 : Int64)), (8, .long (Int32.toInt64 q3)), (0, .ref a_p0), (1, .ref a_p1), (2, .ref a_p2)]) hx hb dX6_weighCompactness_103 hl (k := 8) rfl rfl (by decide) rfl (fun ls hl => ?_)
            refine lv_goto (tgt := 8) hx hb dX6_weighCompactness_106 (by decide) ?_
            exact ih kf (0 : Int64) (1 : Int64) (y8_7 + (1 : Int32)) h kk H locs ls hH (lv_sub hl [6, 7, 8, 2, 1, 0] rfl)
          · replace h := dc_neg c5 h
            refine lv_lload hx hb dX6_weighCompactness_83 (lv_at hl 1 rfl) ?_
            refine lv_lload hx hb dX6_weighCompactness_85 (lv_at hl 7 rfl) ?_
            refine lv_lmul hx hb dX6_weighCompactness_87 ?_
            refine lv_lload_n hx hb dX6_weighCompactness_88 rfl (lv_at hl 6 rfl) ?_
            refine lv_lload hx hb dX6_weighCompactness_89 (lv_at hl 0 rfl) ?_
            refine lv_lmul hx hb dX6_weighCompactness_91 ?_
            refine W.lcmp hx hb dX6_weighCompactness_92 ?_
            refine lv_if_ge (tgt := 103) hx hb dX6_weighCompactness_93 (by decide) (fun c6 => ?_) (fun c6 => ?_)
            · replace h := dc_pos c6 h
              refine lv_iinc (v := (y8_7 + (1 : Int32))) (lv' := [(7, .int (y8_7 + (1 : Int32))), (12, .long (1 : Int64)), (10, .long (0 : Int64)), (8, .long (Int32.toInt64 q3)), (0, .ref a_p0), (1, .ref a_p1), (2, .ref a_p2), (3, .long y8_3), (5, .long y8_5)]) hx hb dX6_weighCompactness_103 hl (k := 8) rfl rfl (by decide) rfl (fun ls hl => ?_)
              refine lv_goto (tgt := 8) hx hb dX6_weighCompactness_106 (by decide) ?_
              exact ih kf y8_3 y8_5 (y8_7 + (1 : Int32)) h kk H locs ls hH (lv_sub hl [4, 5, 6, 7, 8, 0] rfl)
            · replace h := dc_neg c6 h
              refine lv_lload hx hb dX6_weighCompactness_96 (lv_at hl 1 rfl) ?_
              refine lv_lstore_n (lv' := [(3, .long (0 : Int64)), (12, .long (1 : Int64)), (10, .long (0 : Int64)), (8, .long (Int32.toInt64 q3)), (0, .ref a_p0), (1, .ref a_p1), (2, .ref a_p2), (5, .long y8_5), (7, .int y8_7)]) hx hb dX6_weighCompactness_98 rfl hl (by decide) rfl (fun ls hl => ?_)
              refine lv_lload hx hb dX6_weighCompactness_99 (lv_at hl 1 rfl) ?_
              refine lv_lstore (lv' := [(5, .long (1 : Int64)), (3, .long (0 : Int64)), (12, .long (1 : Int64)), (10, .long (0 : Int64)), (8, .long (Int32.toInt64 q3)), (0, .ref a_p0), (1, .ref a_p1), (2, .ref a_p2), (7, .int y8_7)]) hx hb dX6_weighCompactness_101 hl (by decide) rfl (fun ls hl => ?_)
              refine lv_iinc (v := (y8_7 + (1 : Int32))) (lv' := [(7, .int (y8_7 + (1 : Int32))), (5, .long (1 : Int64)), (3, .long (0 : Int64)), (12, .long (1 : Int64)), (10, .long (0 : Int64)), (8, .long (Int32.toInt64 q3)), (0, .ref a_p0), (1, .ref a_p1), (2, .ref a_p2)]) hx hb dX6_weighCompactness_103 hl (k := 8) rfl rfl (by decide) rfl (fun ls hl => ?_)
              refine lv_goto (tgt := 8) hx hb dX6_weighCompactness_106 (by decide) ?_
              exact ih kf (0 : Int64) (1 : Int64) (y8_7 + (1 : Int32)) h kk H locs ls hH (lv_sub hl [6, 7, 8, 2, 1, 0] rfl)
  rw [fX6_weighCompactness] at h
  refine lv_lconst (v := 0) hx hb dX6_weighCompactness_0 (by decide) ?_
  refine lv_lstore_n (lv' := [(3, .long (0 : Int64)), (0, .ref a_p0), (1, .ref a_p1), (2, .ref a_p2)]) hx hb dX6_weighCompactness_1 rfl hl (by decide) rfl (fun ls hl => ?_)
  refine lv_lconst (v := 1) hx hb dX6_weighCompactness_2 (by decide) ?_
  refine lv_lstore (lv' := [(5, .long (1 : Int64)), (3, .long (0 : Int64)), (0, .ref a_p0), (1, .ref a_p1), (2, .ref a_p2)]) hx hb dX6_weighCompactness_3 hl (by decide) rfl (fun ls hl => ?_)
  refine lv_iconst (v := 0) hx hb dX6_weighCompactness_5 (by decide) ?_
  refine lv_istore (lv' := [(7, .int (0 : Int32)), (5, .long (1 : Int64)), (3, .long (0 : Int64)), (0, .ref a_p0), (1, .ref a_p1), (2, .ref a_p2)]) hx hb dX6_weighCompactness_6 hl (by decide) rfl (fun ls hl => ?_)
  refine L8 _ _ (0 : Int64) (1 : Int64) (0 : Int32) h (fun z8_3 z8_5 H locs ls h hH hl => ?_) H locs ls hH (lv_sub hl [3, 4, 5, 2, 1, 0] rfl)
  refine lv_aload_n hx hb dX6_weighCompactness_109 rfl (lv_at hl 0 rfl) ?_
  refine lv_lload_n hx hb dX6_weighCompactness_110 rfl (lv_at hl 1 rfl) ?_
  refine lv_lload hx hb dX6_weighCompactness_111 (lv_at hl 2 rfl) ?_
  obtain ⟨q11, hqq11, h⟩ := dc_bind h
  refine gc_Vv (ws' := [(a_p0, .inr (8, [.int p0_units, .ref a_p0_population, .ref a_p0_area, .ref a_p0_community, .ref a_p0_outer, .ref a_p0_neighbors, .ref a_p0_lengths, v_p0_cores, .int p0_districts, v_p0_tolerance, v_p0_hasPlan, .ref a_p0_plan])), (a_p1, .inr (4, [.ref a_p1_places, .ref a_p1_sets])), (a_p1_sets, .inl (k 0, 4, .inl p1_sets)), (a_p0_outer, .inl (k 0, 12, .inl p0_outer)), (a_p0_lengths, .inl (k 0, 144, .inl p0_lengths)), (a_p0_area, .inl (k 0, 12, .inl p0_area)), (a_p2, .inr (1, [.long q11.2, .long q11.1]))]) (As := [.long z8_3, .long z8_5]) (rest := []) (n := 2) (ci := 1) (cq := (RX1, TX1, 2)) hTs ⟨hx, hb, hml, hown, hts⟩ (mX1_become l Ts hTs D k H.size a_p2 v_p2_bottom v_p2_top z8_3 z8_5 q11 hqq11) u_ml_X6_19 u_im_X1_become u_se_X1_become u_in_X1 u_co_X1_become hd_X1_become ⟨Nat.le_of_ble_eq_true rfl, Nat.le_of_ble_eq_true rfl⟩ ⟨rfl, rfl⟩ hK hH hA (cut1 (isC := [6]) rfl rfl rfl rfl rfl) rfl rfl rfl rfl hl.1 (Nat.le_of_ble_eq_true rfl) dX6_weighCompactness_113 ⟨Nat.le_of_ble_eq_true rfl, Nat.le_of_ble_eq_true rfl⟩ (fun H locs hH => ?_)
  have h := Option.some.inj h
  subst h
  exact ge_v hx hb hr hlocks hQ hK hH hAe dX6_weighCompactness_116
theorem hd_X9_lengthBetween : yX9_lengthBetween.cls = RX9 ∧ yX9_lengthBetween.cls ≠ "java/lang/invoke/MethodHandle" ∧ yX9_lengthBetween.cls ≠ "java/lang/invoke/VarHandle" ∧ (parseMethodDescriptor yX9_lengthBetween.desc).map (fun d => d.parameters.length) = some 2 := by decide +kernel
set_option maxHeartbeats 4000000 in
set_option maxRecDepth 100000 in
theorem mX9_lengthBetween (l : Launch) (Ts : List Cond) (hTs : ∀ w, w ∈ Ts ↔ w ∈ uT) (D : va_G) (k : Nat → ClassId) (sz : Nat) (a_t : Nat) (a_t_population : Nat) (a_t_area : Nat) (a_t_community : Nat) (a_t_outer : Nat) (a_t_neighbors : Nat) (a_t_lengths : Nat) (a_t_plan : Nat) (t_lengths : Nat → Int32) (v_t_cores : Value) (v_t_districts : Value) (v_t_hasPlan : Value) (v_t_tolerance : Value) (v_t_units : Value) (x1 : Int32) (x2 : Int32) (r : Int32) (h : fX9_lengthBetween t_lengths x1 x2 = some r) : Met l yX9_lengthBetween (Cond.code yX9_lengthBetween cX9_lengthBetween 3 (some .int) :: Ts) ({ frames := 0, cells := 0, slots := 0, locals := 0 } : Room) (preM D k [.ref a_t, .int x1, .int x2] [(a_t, .inr (8, [v_t_units, .ref a_t_population, .ref a_t_area, .ref a_t_community, .ref a_t_outer, .ref a_t_neighbors, .ref a_t_lengths, v_t_cores, v_t_districts, v_t_tolerance, v_t_hasPlan, .ref a_t_plan])), (a_t_lengths, .inl (k 0, 144, .inl t_lengths))] sz) (postI D k r [(a_t, .inr (8, [v_t_units, .ref a_t_population, .ref a_t_area, .ref a_t_community, .ref a_t_outer, .ref a_t_neighbors, .ref a_t_lengths, v_t_cores, v_t_districts, v_t_tolerance, v_t_hasPlan, .ref a_t_plan])), (a_t_lengths, .inl (k 0, 144, .inl t_lengths))] [(a_t, .inr (8, [v_t_units, .ref a_t_population, .ref a_t_area, .ref a_t_community, .ref a_t_outer, .ref a_t_neighbors, .ref a_t_lengths, v_t_cores, v_t_districts, v_t_tolerance, v_t_hasPlan, .ref a_t_plan])), (a_t_lengths, .inl (k 0, 144, .inl t_lengths))] sz) 0 0 (va_A [(a_t, .inr (8, [v_t_units, .ref a_t_population, .ref a_t_area, .ref a_t_community, .ref a_t_outer, .ref a_t_neighbors, .ref a_t_lengths, v_t_cores, v_t_districts, v_t_tolerance, v_t_hasPlan, .ref a_t_plan])), (a_t_lengths, .inl (k 0, 144, .inl t_lengths))] sz) := by
  refine Met.ofW (cc := cX9_lengthBetween) (maxL := 3) (ret := (some .int)) (by decide) rfl ?_
  intro p e s m args below meth c s₁ B hml hv
  obtain ⟨rfl, hsz, hP, hK, hD0⟩ := hv
  have hx := B.exec
  have hb := B.bytes
  have hr := B.returns
  have hts0 := atoms_spec (ws := (Cond.code yX9_lengthBetween cX9_lengthBetween 3 (some .int) :: Ts)) B.pre
  have hts : ∀ w ∈ uT, w.before _ s = true := fun w h => hts0 w (List.mem_cons_of_mem _ ((hTs w).mpr h))
  clear hts0
  have hown : s.vm.findClass RX9 = some m.cls := findClass_of_methodNamed B.named
  have hlocks := B.notSynchronized
  subst hsz
  have hD := hD0.self (sz := s.heap.size)
  generalize hAe : va_A [(a_t, .inr (8, [v_t_units, .ref a_t_population, .ref a_t_area, .ref a_t_community, .ref a_t_outer, .ref a_t_neighbors, .ref a_t_lengths, v_t_cores, v_t_districts, v_t_tolerance, v_t_hasPlan, .ref a_t_plan])), (a_t_lengths, .inl (k 0, 144, .inl t_lengths))] s.heap.size = A at hD ⊢
  have hA : ∀ q : Nat, s.heap.size ≤ q → A q := fun q h => by rw [← hAe]; exact Or.inr h
  have hH : HOK D A s.heap [(a_t, .inr (8, [v_t_units, .ref a_t_population, .ref a_t_area, .ref a_t_community, .ref a_t_outer, .ref a_t_neighbors, .ref a_t_lengths, v_t_cores, v_t_districts, v_t_tolerance, v_t_hasPlan, .ref a_t_plan])), (a_t_lengths, .inl (k 0, 144, .inl t_lengths))] s.heap [] := ⟨hP, hD, va_S.rf⟩
  have hl := lv_entry ([.ref a_t, .int x1, .int x2]) (n := 3) (Nat.le_of_ble_eq_true rfl)
  rw [lg_entry_eq]
  generalize (lg_sl ([.ref a_t, .int x1, .int x2]) ++ List.replicate (3 - (lg_sl ([.ref a_t, .int x1, .int x2])).length) Slot.unset).toArray = ls at hl ⊢
  have hl : lv_has ls 3 [(0, .ref a_t), (1, .int x1), (2, .int x2)] := hl
  generalize hQ : MQ below (postI D k r [(a_t, .inr (8, [v_t_units, .ref a_t_population, .ref a_t_area, .ref a_t_community, .ref a_t_outer, .ref a_t_neighbors, .ref a_t_lengths, v_t_cores, v_t_districts, v_t_tolerance, v_t_hasPlan, .ref a_t_plan])), (a_t_lengths, .inl (k 0, 144, .inl t_lengths))] [(a_t, .inr (8, [v_t_units, .ref a_t_population, .ref a_t_area, .ref a_t_community, .ref a_t_outer, .ref a_t_neighbors, .ref a_t_lengths, v_t_cores, v_t_districts, v_t_tolerance, v_t_hasPlan, .ref a_t_plan])), (a_t_lengths, .inl (k 0, 144, .inl t_lengths))] s.heap.size) (List.toArray [.ref a_t, .int x1, .int x2]) s 0 0 A = Q
  clear hP hD hD0
  suffices K : ∀ (H : Heap) (locs : List Loc), HOK D A s.heap [(a_t, .inr (8, [v_t_units, .ref a_t_population, .ref a_t_area, .ref a_t_community, .ref a_t_outer, .ref a_t_neighbors, .ref a_t_lengths, v_t_cores, v_t_districts, v_t_tolerance, v_t_hasPlan, .ref a_t_plan])), (a_t_lengths, .inl (k 0, 144, .inl t_lengths))] H locs → W p l e ({ frames := 0, cells := 0, slots := 0, locals := 0 } : Room) s m (List.toArray [.ref a_t, .int x1, .int x2]) below meth c H locs 0 0 Q (F0 m 0 ls []) from K s.heap [] hH
  intro H locs hH
  rw [fX9_lengthBetween] at h
  refine lv_aload_n hx hb dX9_lengthBetween_0 rfl (lv_at hl 0 rfl) ?_
  refine gk_get (ci := 8) (C := RX9) (T := TX9) (N := 12) hx hb hts u_ws_X9 hown hK hH 0 rfl rfl 6 (by decide) u_fl_X9_31 rfl dX9_lengthBetween_1 ?_
  refine lv_iload_n hx hb dX9_lengthBetween_4 rfl (lv_at hl 1 rfl) ?_
  refine lv_bipush (v := 12) hx hb dX9_lengthBetween_5 (by decide) ?_
  refine lv_imul hx hb dX9_lengthBetween_7 ?_
  refine lv_iload_n hx hb dX9_lengthBetween_8 rfl (lv_at hl 2 rfl) ?_
  refine lv_iadd hx hb dX9_lengthBetween_9 ?_
  obtain ⟨g1, h⟩ := dc_need h
  refine gk_iald hx hb hK hH 1 rfl (dk_in g1) dX9_lengthBetween_10 ?_
  have h := Option.some.inj h
  subst h
  exact ge_i hx hb hr hlocks hQ hK hH hAe rfl dX9_lengthBetween_11
theorem hd_X6_cutLength : yX6_cutLength.cls ≠ "java/lang/invoke/MethodHandle" ∧ yX6_cutLength.cls ≠ "java/lang/invoke/VarHandle" ∧ (parseMethodDescriptor yX6_cutLength.desc).map (fun d => d.parameters.length) = some 2 := by decide +kernel
set_option maxHeartbeats 4000000 in
set_option maxRecDepth 100000 in
theorem mX6_cutLength (l : Launch) (Ts : List Cond) (hTs : ∀ w, w ∈ Ts ↔ w ∈ uT) (D : va_G) (k : Nat → ClassId) (sz : Nat) (a_p0 : Nat) (a_p1 : Nat) (a_p0_population : Nat) (a_p0_area : Nat) (a_p0_community : Nat) (a_p0_outer : Nat) (a_p0_neighbors : Nat) (a_p0_lengths : Nat) (a_p0_plan : Nat) (a_p1_places : Nat) (a_p1_sets : Nat) (p0_lengths : Nat → Int32) (p0_units : Int32) (p1_places : Nat → Int32) (v_p0_cores : Value) (v_p0_districts : Value) (v_p0_hasPlan : Value) (v_p0_tolerance : Value) (r : Int32) (h : fX6_cutLength p0_lengths p0_units p1_places = some r) : Met l yX6_cutLength (Cond.code yX6_cutLength cX6_cutLength 5 (some .int) :: Ts) ({ frames := 1, cells := 0, slots := 0, locals := 22 } : Room) (preM D k [.ref a_p0, .ref a_p1] [(a_p0, .inr (8, [.int p0_units, .ref a_p0_population, .ref a_p0_area, .ref a_p0_community, .ref a_p0_outer, .ref a_p0_neighbors, .ref a_p0_lengths, v_p0_cores, v_p0_districts, v_p0_tolerance, v_p0_hasPlan, .ref a_p0_plan])), (a_p1, .inr (4, [.ref a_p1_places, .ref a_p1_sets])), (a_p1_places, .inl (k 0, 12, .inl p1_places)), (a_p0_lengths, .inl (k 0, 144, .inl p0_lengths))] sz) (postI D k r [(a_p0, .inr (8, [.int p0_units, .ref a_p0_population, .ref a_p0_area, .ref a_p0_community, .ref a_p0_outer, .ref a_p0_neighbors, .ref a_p0_lengths, v_p0_cores, v_p0_districts, v_p0_tolerance, v_p0_hasPlan, .ref a_p0_plan])), (a_p1, .inr (4, [.ref a_p1_places, .ref a_p1_sets])), (a_p1_places, .inl (k 0, 12, .inl p1_places)), (a_p0_lengths, .inl (k 0, 144, .inl p0_lengths))] [(a_p0, .inr (8, [.int p0_units, .ref a_p0_population, .ref a_p0_area, .ref a_p0_community, .ref a_p0_outer, .ref a_p0_neighbors, .ref a_p0_lengths, v_p0_cores, v_p0_districts, v_p0_tolerance, v_p0_hasPlan, .ref a_p0_plan])), (a_p1, .inr (4, [.ref a_p1_places, .ref a_p1_sets])), (a_p1_places, .inl (k 0, 12, .inl p1_places)), (a_p0_lengths, .inl (k 0, 144, .inl p0_lengths))] sz) 0 0 (va_A [(a_p0, .inr (8, [.int p0_units, .ref a_p0_population, .ref a_p0_area, .ref a_p0_community, .ref a_p0_outer, .ref a_p0_neighbors, .ref a_p0_lengths, v_p0_cores, v_p0_districts, v_p0_tolerance, v_p0_hasPlan, .ref a_p0_plan])), (a_p1, .inr (4, [.ref a_p1_places, .ref a_p1_sets])), (a_p1_places, .inl (k 0, 12, .inl p1_places)), (a_p0_lengths, .inl (k 0, 144, .inl p0_lengths))] sz) := by
  refine Met.ofW (cc := cX6_cutLength) (maxL := 5) (ret := (some .int)) (by decide) rfl ?_
  intro p e s m args below meth c s₁ B hml hv
  obtain ⟨rfl, hsz, hP, hK, hD0⟩ := hv
  have hx := B.exec
  have hb := B.bytes
  have hr := B.returns
  have hts0 := atoms_spec (ws := (Cond.code yX6_cutLength cX6_cutLength 5 (some .int) :: Ts)) B.pre
  have hts : ∀ w ∈ uT, w.before _ s = true := fun w h => hts0 w (List.mem_cons_of_mem _ ((hTs w).mpr h))
  clear hts0
  have hown : s.vm.findClass RX6 = some m.cls := findClass_of_methodNamed B.named
  have hlocks := B.notSynchronized
  subst hsz
  have hD := hD0.self (sz := s.heap.size)
  generalize hAe : va_A [(a_p0, .inr (8, [.int p0_units, .ref a_p0_population, .ref a_p0_area, .ref a_p0_community, .ref a_p0_outer, .ref a_p0_neighbors, .ref a_p0_lengths, v_p0_cores, v_p0_districts, v_p0_tolerance, v_p0_hasPlan, .ref a_p0_plan])), (a_p1, .inr (4, [.ref a_p1_places, .ref a_p1_sets])), (a_p1_places, .inl (k 0, 12, .inl p1_places)), (a_p0_lengths, .inl (k 0, 144, .inl p0_lengths))] s.heap.size = A at hD ⊢
  have hA : ∀ q : Nat, s.heap.size ≤ q → A q := fun q h => by rw [← hAe]; exact Or.inr h
  have hH : HOK D A s.heap [(a_p0, .inr (8, [.int p0_units, .ref a_p0_population, .ref a_p0_area, .ref a_p0_community, .ref a_p0_outer, .ref a_p0_neighbors, .ref a_p0_lengths, v_p0_cores, v_p0_districts, v_p0_tolerance, v_p0_hasPlan, .ref a_p0_plan])), (a_p1, .inr (4, [.ref a_p1_places, .ref a_p1_sets])), (a_p1_places, .inl (k 0, 12, .inl p1_places)), (a_p0_lengths, .inl (k 0, 144, .inl p0_lengths))] s.heap [] := ⟨hP, hD, va_S.rf⟩
  have hl := lv_entry ([.ref a_p0, .ref a_p1]) (n := 5) (Nat.le_of_ble_eq_true rfl)
  rw [lg_entry_eq]
  generalize (lg_sl ([.ref a_p0, .ref a_p1]) ++ List.replicate (5 - (lg_sl ([.ref a_p0, .ref a_p1])).length) Slot.unset).toArray = ls at hl ⊢
  have hl : lv_has ls 5 [(0, .ref a_p0), (1, .ref a_p1)] := hl
  generalize hQ : MQ below (postI D k r [(a_p0, .inr (8, [.int p0_units, .ref a_p0_population, .ref a_p0_area, .ref a_p0_community, .ref a_p0_outer, .ref a_p0_neighbors, .ref a_p0_lengths, v_p0_cores, v_p0_districts, v_p0_tolerance, v_p0_hasPlan, .ref a_p0_plan])), (a_p1, .inr (4, [.ref a_p1_places, .ref a_p1_sets])), (a_p1_places, .inl (k 0, 12, .inl p1_places)), (a_p0_lengths, .inl (k 0, 144, .inl p0_lengths))] [(a_p0, .inr (8, [.int p0_units, .ref a_p0_population, .ref a_p0_area, .ref a_p0_community, .ref a_p0_outer, .ref a_p0_neighbors, .ref a_p0_lengths, v_p0_cores, v_p0_districts, v_p0_tolerance, v_p0_hasPlan, .ref a_p0_plan])), (a_p1, .inr (4, [.ref a_p1_places, .ref a_p1_sets])), (a_p1_places, .inl (k 0, 12, .inl p1_places)), (a_p0_lengths, .inl (k 0, 144, .inl p0_lengths))] s.heap.size) (List.toArray [.ref a_p0, .ref a_p1]) s 0 0 A = Q
  clear hP hD hD0
  suffices K : ∀ (H : Heap) (locs : List Loc), HOK D A s.heap [(a_p0, .inr (8, [.int p0_units, .ref a_p0_population, .ref a_p0_area, .ref a_p0_community, .ref a_p0_outer, .ref a_p0_neighbors, .ref a_p0_lengths, v_p0_cores, v_p0_districts, v_p0_tolerance, v_p0_hasPlan, .ref a_p0_plan])), (a_p1, .inr (4, [.ref a_p1_places, .ref a_p1_sets])), (a_p1_places, .inl (k 0, 12, .inl p1_places)), (a_p0_lengths, .inl (k 0, 144, .inl p0_lengths))] H locs → W p l e ({ frames := 1, cells := 0, slots := 0, locals := 22 } : Room) s m (List.toArray [.ref a_p0, .ref a_p1]) below meth c H locs 0 0 Q (F0 m 0 ls []) from K s.heap [] hH
  intro H locs hH
  have L17 : ∀ (y17_3 : Int32) (n : Nat), ∀ (kf : Int32 → Option (Int32)) (y17_2 : Int32) (y17_4 : Int32), fX6_cutLength_L17 p0_lengths p0_units p1_places y17_3 n kf y17_2 y17_4 = some r → (∀ (z17_2 : Int32) (H : Heap) (locs : List Loc) (ls : Array Slot), kf z17_2 = some r → HOK D A s.heap [(a_p0, .inr (8, [.int p0_units, .ref a_p0_population, .ref a_p0_area, .ref a_p0_community, .ref a_p0_outer, .ref a_p0_neighbors, .ref a_p0_lengths, v_p0_cores, v_p0_districts, v_p0_tolerance, v_p0_hasPlan, .ref a_p0_plan])), (a_p1, .inr (4, [.ref a_p1_places, .ref a_p1_sets])), (a_p1_places, .inl (k 0, 12, .inl p1_places)), (a_p0_lengths, .inl (k 0, 144, .inl p0_lengths))] H locs → lv_has ls 5 [(0, .ref a_p0), (1, .ref a_p1), (2, .int z17_2), (3, .int y17_3)] → W p l e ({ frames := 1, cells := 0, slots := 0, locals := 22 } : Room) s m (List.toArray [.ref a_p0, .ref a_p1]) below meth c H locs 0 0 Q (F0 m 58 ls [])) → ∀ (H : Heap) (locs : List Loc) (ls : Array Slot), HOK D A s.heap [(a_p0, .inr (8, [.int p0_units, .ref a_p0_population, .ref a_p0_area, .ref a_p0_community, .ref a_p0_outer, .ref a_p0_neighbors, .ref a_p0_lengths, v_p0_cores, v_p0_districts, v_p0_tolerance, v_p0_hasPlan, .ref a_p0_plan])), (a_p1, .inr (4, [.ref a_p1_places, .ref a_p1_sets])), (a_p1_places, .inl (k 0, 12, .inl p1_places)), (a_p0_lengths, .inl (k 0, 144, .inl p0_lengths))] H locs → lv_has ls 5 [(0, .ref a_p0), (1, .ref a_p1), (2, .int y17_2), (3, .int y17_3), (4, .int y17_4)] → W p l e ({ frames := 1, cells := 0, slots := 0, locals := 22 } : Room) s m (List.toArray [.ref a_p0, .ref a_p1]) below meth c H locs 0 0 Q (F0 m 17 ls []) := by
    intro y17_3 n
    induction n with
    | zero =>
      intro kf y17_2 y17_4 h
      exact absurd h (by rw [fX6_cutLength_L17]; exact fun q => by cases q)
    | succ n ih =>
      intro kf y17_2 y17_4 h kk H locs ls hH hl
      rw [fX6_cutLength_L17] at h
      refine lv_iload hx hb dX6_cutLength_17 (lv_at hl 4 rfl) ?_
      refine lv_aload_n hx hb dX6_cutLength_19 rfl (lv_at hl 0 rfl) ?_
      refine gk_get (ci := 8) (C := RX9) (T := TX9) (N := 12) hx hb hts u_ws_X9 hown hK hH 0 rfl rfl 0 (by decide) u_fl_X6_63 rfl dX6_cutLength_20 ?_
      refine lv_icmp_ge (tgt := 58) hx hb dX6_cutLength_23 (by decide) (fun c2 => ?_) (fun c2 => ?_)
      · replace h := dc_pos c2 h
        exact kk y17_2 H locs ls h hH (lv_sub hl [0, 1, 2, 3] rfl)
      · replace h := dc_neg c2 h
        refine lv_aload_n hx hb dX6_cutLength_26 rfl (lv_at hl 1 rfl) ?_
        refine gk_get (ci := 4) (C := RX4) (T := TX4) (N := 2) hx hb hts u_ws_X4 hown hK hH 1 rfl rfl 0 (by decide) u_fl_X6_66 rfl dX6_cutLength_27 ?_
        refine lv_iload_n hx hb dX6_cutLength_30 rfl (lv_at hl 3 rfl) ?_
        obtain ⟨g3, h⟩ := dc_need h
        refine gk_iald hx hb hK hH 2 rfl (dk_in g3) dX6_cutLength_31 ?_
        refine lv_aload_n hx hb dX6_cutLength_32 rfl (lv_at hl 1 rfl) ?_
        refine gk_get (ci := 4) (C := RX4) (T := TX4) (N := 2) hx hb hts u_ws_X4 hown hK hH 1 rfl rfl 0 (by decide) u_fl_X6_66 rfl dX6_cutLength_33 ?_
        refine lv_iload hx hb dX6_cutLength_36 (lv_at hl 4 rfl) ?_
        obtain ⟨g4, h⟩ := dc_need h
        refine gk_iald hx hb hK hH 2 rfl (dk_in g4) dX6_cutLength_38 ?_
        refine lv_icmp_eq (tgt := 52) hx hb dX6_cutLength_39 (by decide) (fun c5 => ?_) (fun c5 => ?_)
        · replace h := dc_pos c5 h
          refine lv_iinc (v := (y17_4 + (1 : Int32))) (lv' := [(4, .int (y17_4 + (1 : Int32))), (0, .ref a_p0), (1, .ref a_p1), (2, .int y17_2), (3, .int y17_3)]) hx hb dX6_cutLength_52 hl (k := 4) rfl rfl (by decide) rfl (fun ls hl => ?_)
          refine lv_goto (tgt := 17) hx hb dX6_cutLength_55 (by decide) ?_
          exact ih kf y17_2 (y17_4 + (1 : Int32)) h kk H locs ls hH (lv_sub hl [1, 2, 3, 4, 0] rfl)
        · replace h := dc_neg c5 h
          refine lv_iload_n hx hb dX6_cutLength_42 rfl (lv_at hl 2 rfl) ?_
          refine lv_aload_n hx hb dX6_cutLength_43 rfl (lv_at hl 0 rfl) ?_
          refine lv_iload_n hx hb dX6_cutLength_44 rfl (lv_at hl 3 rfl) ?_
          refine lv_iload hx hb dX6_cutLength_45 (lv_at hl 4 rfl) ?_
          obtain ⟨q6, hqq6, h⟩ := dc_bind h
          refine gc_Vi (ws' := [(a_p0, .inr (8, [.int p0_units, .ref a_p0_population, .ref a_p0_area, .ref a_p0_community, .ref a_p0_outer, .ref a_p0_neighbors, .ref a_p0_lengths, v_p0_cores, v_p0_districts, v_p0_tolerance, v_p0_hasPlan, .ref a_p0_plan])), (a_p1, .inr (4, [.ref a_p1_places, .ref a_p1_sets])), (a_p1_places, .inl (k 0, 12, .inl p1_places)), (a_p0_lengths, .inl (k 0, 144, .inl p0_lengths))]) (As := [.int y17_3, .int y17_4]) (rest := [.int y17_2]) (n := 2) (ci := 8) (cq := (RX9, TX9, 12)) hTs ⟨hx, hb, hml, hown, hts⟩ (mX9_lengthBetween l Ts hTs D k H.size a_p0 a_p0_population a_p0_area a_p0_community a_p0_outer a_p0_neighbors a_p0_lengths a_p0_plan p0_lengths v_p0_cores v_p0_districts v_p0_hasPlan v_p0_tolerance (.int p0_units) y17_3 y17_4 q6 hqq6) u_ml_X6_69 u_im_X9_lengthBetween u_se_X9_lengthBetween u_in_X9 u_co_X9_lengthBetween hd_X9_lengthBetween ⟨Nat.le_of_ble_eq_true rfl, Nat.le_of_ble_eq_true rfl⟩ ⟨rfl, rfl⟩ hK hH hA (cut0 (isC := [0, 3]) rfl rfl rfl) rfl rfl rfl rfl hl.1 (Nat.le_of_ble_eq_true rfl) dX6_cutLength_47 ⟨Nat.le_of_ble_eq_true rfl, Nat.le_of_ble_eq_true rfl⟩ (fun H locs hH => ?_)
          refine lv_iadd hx hb dX6_cutLength_50 ?_
          refine lv_istore_n (lv' := [(2, .int (y17_2 + q6)), (0, .ref a_p0), (1, .ref a_p1), (3, .int y17_3), (4, .int y17_4)]) hx hb dX6_cutLength_51 rfl hl (by decide) rfl (fun ls hl => ?_)
          refine lv_iinc (v := (y17_4 + (1 : Int32))) (lv' := [(4, .int (y17_4 + (1 : Int32))), (2, .int (y17_2 + q6)), (0, .ref a_p0), (1, .ref a_p1), (3, .int y17_3)]) hx hb dX6_cutLength_52 hl (k := 4) rfl rfl (by decide) rfl (fun ls hl => ?_)
          refine lv_goto (tgt := 17) hx hb dX6_cutLength_55 (by decide) ?_
          exact ih kf (y17_2 + q6) (y17_4 + (1 : Int32)) h kk H locs ls hH (lv_sub hl [2, 3, 1, 4, 0] rfl)
  have L4 : ∀ (n : Nat), ∀ (kf : Int32 → Option (Int32)) (y4_2 : Int32) (y4_3 : Int32), fX6_cutLength_L4 p0_lengths p0_units p1_places n kf y4_2 y4_3 = some r → (∀ (z4_2 : Int32) (H : Heap) (locs : List Loc) (ls : Array Slot), kf z4_2 = some r → HOK D A s.heap [(a_p0, .inr (8, [.int p0_units, .ref a_p0_population, .ref a_p0_area, .ref a_p0_community, .ref a_p0_outer, .ref a_p0_neighbors, .ref a_p0_lengths, v_p0_cores, v_p0_districts, v_p0_tolerance, v_p0_hasPlan, .ref a_p0_plan])), (a_p1, .inr (4, [.ref a_p1_places, .ref a_p1_sets])), (a_p1_places, .inl (k 0, 12, .inl p1_places)), (a_p0_lengths, .inl (k 0, 144, .inl p0_lengths))] H locs → lv_has ls 5 [(2, .int z4_2)] → W p l e ({ frames := 1, cells := 0, slots := 0, locals := 22 } : Room) s m (List.toArray [.ref a_p0, .ref a_p1]) below meth c H locs 0 0 Q (F0 m 64 ls [])) → ∀ (H : Heap) (locs : List Loc) (ls : Array Slot), HOK D A s.heap [(a_p0, .inr (8, [.int p0_units, .ref a_p0_population, .ref a_p0_area, .ref a_p0_community, .ref a_p0_outer, .ref a_p0_neighbors, .ref a_p0_lengths, v_p0_cores, v_p0_districts, v_p0_tolerance, v_p0_hasPlan, .ref a_p0_plan])), (a_p1, .inr (4, [.ref a_p1_places, .ref a_p1_sets])), (a_p1_places, .inl (k 0, 12, .inl p1_places)), (a_p0_lengths, .inl (k 0, 144, .inl p0_lengths))] H locs → lv_has ls 5 [(0, .ref a_p0), (1, .ref a_p1), (2, .int y4_2), (3, .int y4_3)] → W p l e ({ frames := 1, cells := 0, slots := 0, locals := 22 } : Room) s m (List.toArray [.ref a_p0, .ref a_p1]) below meth c H locs 0 0 Q (F0 m 4 ls []) := by
    intro n
    induction n with
    | zero =>
      intro kf y4_2 y4_3 h
      exact absurd h (by rw [fX6_cutLength_L4]; exact fun q => by cases q)
    | succ n ih =>
      intro kf y4_2 y4_3 h kk H locs ls hH hl
      rw [fX6_cutLength_L4] at h
      refine lv_iload_n hx hb dX6_cutLength_4 rfl (lv_at hl 3 rfl) ?_
      refine lv_aload_n hx hb dX6_cutLength_5 rfl (lv_at hl 0 rfl) ?_
      refine gk_get (ci := 8) (C := RX9) (T := TX9) (N := 12) hx hb hts u_ws_X9 hown hK hH 0 rfl rfl 0 (by decide) u_fl_X6_63 rfl dX6_cutLength_6 ?_
      refine lv_icmp_ge (tgt := 64) hx hb dX6_cutLength_9 (by decide) (fun c1 => ?_) (fun c1 => ?_)
      · replace h := dc_pos c1 h
        exact kk y4_2 H locs ls h hH (lv_sub hl [2] rfl)
      · replace h := dc_neg c1 h
        refine lv_iload_n hx hb dX6_cutLength_12 rfl (lv_at hl 3 rfl) ?_
        refine lv_iconst (v := 1) hx hb dX6_cutLength_13 (by decide) ?_
        refine lv_iadd hx hb dX6_cutLength_14 ?_
        refine lv_istore (lv' := [(4, .int (y4_3 + (1 : Int32))), (0, .ref a_p0), (1, .ref a_p1), (2, .int y4_2), (3, .int y4_3)]) hx hb dX6_cutLength_15 hl (by decide) rfl (fun ls hl => ?_)
        refine L17 y4_3 _ _ y4_2 (y4_3 + (1 : Int32)) h (fun z17_2 H locs ls h hH hl => ?_) H locs ls hH (lv_sub hl [1, 2, 3, 4, 0] rfl)
        refine lv_iinc (v := (y4_3 + (1 : Int32))) (lv' := [(3, .int (y4_3 + (1 : Int32))), (0, .ref a_p0), (1, .ref a_p1), (2, .int z17_2)]) hx hb dX6_cutLength_58 hl (k := 3) rfl rfl (by decide) rfl (fun ls hl => ?_)
        refine lv_goto (tgt := 4) hx hb dX6_cutLength_61 (by decide) ?_
        exact ih kf z17_2 (y4_3 + (1 : Int32)) h kk H locs ls hH (lv_sub hl [1, 2, 3, 0] rfl)
  rw [fX6_cutLength] at h
  refine lv_iconst (v := 0) hx hb dX6_cutLength_0 (by decide) ?_
  refine lv_istore_n (lv' := [(2, .int (0 : Int32)), (0, .ref a_p0), (1, .ref a_p1)]) hx hb dX6_cutLength_1 rfl hl (by decide) rfl (fun ls hl => ?_)
  refine lv_iconst (v := 0) hx hb dX6_cutLength_2 (by decide) ?_
  refine lv_istore_n (lv' := [(3, .int (0 : Int32)), (2, .int (0 : Int32)), (0, .ref a_p0), (1, .ref a_p1)]) hx hb dX6_cutLength_3 rfl hl (by decide) rfl (fun ls hl => ?_)
  refine L4 _ _ (0 : Int32) (0 : Int32) h (fun z4_2 H locs ls h hH hl => ?_) H locs ls hH (lv_sub hl [2, 3, 1, 0] rfl)
  refine lv_iload_n hx hb dX6_cutLength_64 rfl (lv_at hl 0 rfl) ?_
  have h := Option.some.inj h
  subst h
  exact ge_i hx hb hr hlocks hQ hK hH hAe rfl dX6_cutLength_65
theorem hd_X4_splits : yX4_splits.cls = RX4 ∧ yX4_splits.cls ≠ "java/lang/invoke/MethodHandle" ∧ yX4_splits.cls ≠ "java/lang/invoke/VarHandle" ∧ (parseMethodDescriptor yX4_splits.desc).map (fun d => d.parameters.length) = some 1 := by decide +kernel
set_option maxHeartbeats 4000000 in
set_option maxRecDepth 100000 in
theorem mX4_splits (l : Launch) (Ts : List Cond) (hTs : ∀ w, w ∈ Ts ↔ w ∈ uT) (D : va_G) (k : Nat → ClassId) (sz : Nat) (a_t : Nat) (a_t_places : Nat) (a_t_sets : Nat) (t_sets : Nat → Int32) (x1 : Int32) (r : Int32) (h : fX4_splits t_sets x1 = some r) : Met l yX4_splits (Cond.code yX4_splits cX4_splits 4 (some .boolean) :: Ts) ({ frames := 0, cells := 0, slots := 0, locals := 0 } : Room) (preM D k [.ref a_t, .int x1] [(a_t, .inr (4, [.ref a_t_places, .ref a_t_sets])), (a_t_sets, .inl (k 0, 4, .inl t_sets))] sz) (postI D k r [(a_t, .inr (4, [.ref a_t_places, .ref a_t_sets])), (a_t_sets, .inl (k 0, 4, .inl t_sets))] [(a_t, .inr (4, [.ref a_t_places, .ref a_t_sets])), (a_t_sets, .inl (k 0, 4, .inl t_sets))] sz) 0 0 (va_A [(a_t, .inr (4, [.ref a_t_places, .ref a_t_sets])), (a_t_sets, .inl (k 0, 4, .inl t_sets))] sz) := by
  refine Met.ofW (cc := cX4_splits) (maxL := 4) (ret := (some .boolean)) (by decide) rfl ?_
  intro p e s m args below meth c s₁ B hml hv
  obtain ⟨rfl, hsz, hP, hK, hD0⟩ := hv
  have hx := B.exec
  have hb := B.bytes
  have hr := B.returns
  have hts0 := atoms_spec (ws := (Cond.code yX4_splits cX4_splits 4 (some .boolean) :: Ts)) B.pre
  have hts : ∀ w ∈ uT, w.before _ s = true := fun w h => hts0 w (List.mem_cons_of_mem _ ((hTs w).mpr h))
  clear hts0
  have hown : s.vm.findClass RX4 = some m.cls := findClass_of_methodNamed B.named
  have hlocks := B.notSynchronized
  subst hsz
  have hD := hD0.self (sz := s.heap.size)
  generalize hAe : va_A [(a_t, .inr (4, [.ref a_t_places, .ref a_t_sets])), (a_t_sets, .inl (k 0, 4, .inl t_sets))] s.heap.size = A at hD ⊢
  have hA : ∀ q : Nat, s.heap.size ≤ q → A q := fun q h => by rw [← hAe]; exact Or.inr h
  have hH : HOK D A s.heap [(a_t, .inr (4, [.ref a_t_places, .ref a_t_sets])), (a_t_sets, .inl (k 0, 4, .inl t_sets))] s.heap [] := ⟨hP, hD, va_S.rf⟩
  have hl := lv_entry ([.ref a_t, .int x1]) (n := 4) (Nat.le_of_ble_eq_true rfl)
  rw [lg_entry_eq]
  generalize (lg_sl ([.ref a_t, .int x1]) ++ List.replicate (4 - (lg_sl ([.ref a_t, .int x1])).length) Slot.unset).toArray = ls at hl ⊢
  have hl : lv_has ls 4 [(0, .ref a_t), (1, .int x1)] := hl
  generalize hQ : MQ below (postI D k r [(a_t, .inr (4, [.ref a_t_places, .ref a_t_sets])), (a_t_sets, .inl (k 0, 4, .inl t_sets))] [(a_t, .inr (4, [.ref a_t_places, .ref a_t_sets])), (a_t_sets, .inl (k 0, 4, .inl t_sets))] s.heap.size) (List.toArray [.ref a_t, .int x1]) s 0 0 A = Q
  clear hP hD hD0
  suffices K : ∀ (H : Heap) (locs : List Loc), HOK D A s.heap [(a_t, .inr (4, [.ref a_t_places, .ref a_t_sets])), (a_t_sets, .inl (k 0, 4, .inl t_sets))] H locs → W p l e ({ frames := 0, cells := 0, slots := 0, locals := 0 } : Room) s m (List.toArray [.ref a_t, .int x1]) below meth c H locs 0 0 Q (F0 m 0 ls []) from K s.heap [] hH
  intro H locs hH
  have L2 : ∀ (n : Nat), ∀ (kf : Option (Int32)) (y2_2 : Int32), fX4_splits_L2 t_sets x1 n kf y2_2 = some r → (∀ (H : Heap) (locs : List Loc) (ls : Array Slot), kf = some r → HOK D A s.heap [(a_t, .inr (4, [.ref a_t_places, .ref a_t_sets])), (a_t_sets, .inl (k 0, 4, .inl t_sets))] H locs → lv_has ls 4 [] → W p l e ({ frames := 0, cells := 0, slots := 0, locals := 0 } : Room) s m (List.toArray [.ref a_t, .int x1]) below meth c H locs 0 0 Q (F0 m 33 ls [])) → ∀ (H : Heap) (locs : List Loc) (ls : Array Slot), HOK D A s.heap [(a_t, .inr (4, [.ref a_t_places, .ref a_t_sets])), (a_t_sets, .inl (k 0, 4, .inl t_sets))] H locs → lv_has ls 4 [(0, .ref a_t), (1, .int x1), (2, .int y2_2)] → W p l e ({ frames := 0, cells := 0, slots := 0, locals := 0 } : Room) s m (List.toArray [.ref a_t, .int x1]) below meth c H locs 0 0 Q (F0 m 2 ls []) := by
    intro n
    induction n with
    | zero =>
      intro kf y2_2 h
      exact absurd h (by rw [fX4_splits_L2]; exact fun q => by cases q)
    | succ n ih =>
      intro kf y2_2 h kk H locs ls hH hl
      rw [fX4_splits_L2] at h
      refine lv_iload_n hx hb dX4_splits_2 rfl (lv_at hl 2 rfl) ?_
      refine lv_iconst (v := 4) hx hb dX4_splits_3 (by decide) ?_
      refine lv_icmp_ge (tgt := 33) hx hb dX4_splits_4 (by decide) (fun c1 => ?_) (fun c1 => ?_)
      · replace h := dc_pos c1 h
        exact kk  H locs ls h hH (lv_sub hl [] rfl)
      · replace h := dc_neg c1 h
        refine lv_aload_n hx hb dX4_splits_7 rfl (lv_at hl 0 rfl) ?_
        refine gk_get (ci := 4) (C := RX4) (T := TX4) (N := 2) hx hb hts u_ws_X4 hown hK hH 0 rfl rfl 1 (by decide) u_fl_X4_15 rfl dX4_splits_8 ?_
        refine lv_iload_n hx hb dX4_splits_11 rfl (lv_at hl 2 rfl) ?_
        obtain ⟨g2, h⟩ := dc_need h
        refine gk_iald hx hb hK hH 1 rfl (dk_in g2) dX4_splits_12 ?_
        refine lv_iload_n hx hb dX4_splits_13 rfl (lv_at hl 1 rfl) ?_
        refine lv_iand hx hb dX4_splits_14 ?_
        refine lv_istore_n (lv' := [(3, .int ((t_sets y2_2.toNatClampNeg) &&& x1)), (0, .ref a_t), (1, .int x1), (2, .int y2_2)]) hx hb dX4_splits_15 rfl hl (by decide) rfl (fun ls hl => ?_)
        refine lv_iload_n hx hb dX4_splits_16 rfl (lv_at hl 0 rfl) ?_
        refine lv_if_eq (tgt := 27) hx hb dX4_splits_17 (by decide) (fun c3 => ?_) (fun c3 => ?_)
        · replace h := dc_pos c3 h
          refine lv_iinc (v := (y2_2 + (1 : Int32))) (lv' := [(2, .int (y2_2 + (1 : Int32))), (3, .int ((t_sets y2_2.toNatClampNeg) &&& x1)), (0, .ref a_t), (1, .int x1)]) hx hb dX4_splits_27 hl (k := 3) rfl rfl (by decide) rfl (fun ls hl => ?_)
          refine lv_goto (tgt := 2) hx hb dX4_splits_30 (by decide) ?_
          exact ih kf (y2_2 + (1 : Int32)) h kk H locs ls hH (lv_sub hl [2, 3, 0] rfl)
        · replace h := dc_neg c3 h
          refine lv_iload_n hx hb dX4_splits_20 rfl (lv_at hl 0 rfl) ?_
          refine lv_iload_n hx hb dX4_splits_21 rfl (lv_at hl 2 rfl) ?_
          refine lv_icmp_eq (tgt := 27) hx hb dX4_splits_22 (by decide) (fun c4 => ?_) (fun c4 => ?_)
          · replace h := dc_pos c4 h
            refine lv_iinc (v := (y2_2 + (1 : Int32))) (lv' := [(2, .int (y2_2 + (1 : Int32))), (3, .int ((t_sets y2_2.toNatClampNeg) &&& x1)), (0, .ref a_t), (1, .int x1)]) hx hb dX4_splits_27 hl (k := 3) rfl rfl (by decide) rfl (fun ls hl => ?_)
            refine lv_goto (tgt := 2) hx hb dX4_splits_30 (by decide) ?_
            exact ih kf (y2_2 + (1 : Int32)) h kk H locs ls hH (lv_sub hl [2, 3, 0] rfl)
          · replace h := dc_neg c4 h
            refine lv_iconst (v := 1) hx hb dX4_splits_25 (by decide) ?_
            have h := Option.some.inj h
            subst h
            exact ge_z hx hb hr rfl hlocks hQ hK hH hAe rfl dX4_splits_26
  rw [fX4_splits] at h
  refine lv_iconst (v := 0) hx hb dX4_splits_0 (by decide) ?_
  refine lv_istore_n (lv' := [(2, .int (0 : Int32)), (0, .ref a_t), (1, .int x1)]) hx hb dX4_splits_1 rfl hl (by decide) rfl (fun ls hl => ?_)
  refine L2 _ _ (0 : Int32) h (fun  H locs ls h hH hl => ?_) H locs ls hH (lv_sub hl [1, 2, 0] rfl)
  refine lv_iconst (v := 0) hx hb dX4_splits_33 (by decide) ?_
  have h := Option.some.inj h
  subst h
  exact ge_z hx hb hr rfl hlocks hQ hK hH hAe rfl dX4_splits_34
theorem hd_X6_countSplitCommunities : yX6_countSplitCommunities.cls ≠ "java/lang/invoke/MethodHandle" ∧ yX6_countSplitCommunities.cls ≠ "java/lang/invoke/VarHandle" ∧ (parseMethodDescriptor yX6_countSplitCommunities.desc).map (fun d => d.parameters.length) = some 2 := by decide +kernel
set_option maxHeartbeats 4000000 in
set_option maxRecDepth 100000 in
theorem mX6_countSplitCommunities (l : Launch) (Ts : List Cond) (hTs : ∀ w, w ∈ Ts ↔ w ∈ uT) (D : va_G) (k : Nat → ClassId) (sz : Nat) (a_p0 : Nat) (a_p1 : Nat) (a_p0_population : Nat) (a_p0_area : Nat) (a_p0_community : Nat) (a_p0_outer : Nat) (a_p0_neighbors : Nat) (a_p0_lengths : Nat) (a_p0_plan : Nat) (a_p1_places : Nat) (a_p1_sets : Nat) (p0_community : Nat → Int32) (p0_units : Int32) (p1_sets : Nat → Int32) (v_p0_cores : Value) (v_p0_districts : Value) (v_p0_hasPlan : Value) (v_p0_tolerance : Value) (r : Int32) (h : fX6_countSplitCommunities p0_community p0_units p1_sets = some r) : Met l yX6_countSplitCommunities (Cond.code yX6_countSplitCommunities cX6_countSplitCommunities 4 (some .int) :: Ts) ({ frames := 1, cells := 0, slots := 0, locals := 23 } : Room) (preM D k [.ref a_p0, .ref a_p1] [(a_p0, .inr (8, [.int p0_units, .ref a_p0_population, .ref a_p0_area, .ref a_p0_community, .ref a_p0_outer, .ref a_p0_neighbors, .ref a_p0_lengths, v_p0_cores, v_p0_districts, v_p0_tolerance, v_p0_hasPlan, .ref a_p0_plan])), (a_p0_community, .inl (k 0, 12, .inl p0_community)), (a_p1, .inr (4, [.ref a_p1_places, .ref a_p1_sets])), (a_p1_sets, .inl (k 0, 4, .inl p1_sets))] sz) (postI D k r [(a_p0, .inr (8, [.int p0_units, .ref a_p0_population, .ref a_p0_area, .ref a_p0_community, .ref a_p0_outer, .ref a_p0_neighbors, .ref a_p0_lengths, v_p0_cores, v_p0_districts, v_p0_tolerance, v_p0_hasPlan, .ref a_p0_plan])), (a_p0_community, .inl (k 0, 12, .inl p0_community)), (a_p1, .inr (4, [.ref a_p1_places, .ref a_p1_sets])), (a_p1_sets, .inl (k 0, 4, .inl p1_sets))] [(a_p0, .inr (8, [.int p0_units, .ref a_p0_population, .ref a_p0_area, .ref a_p0_community, .ref a_p0_outer, .ref a_p0_neighbors, .ref a_p0_lengths, v_p0_cores, v_p0_districts, v_p0_tolerance, v_p0_hasPlan, .ref a_p0_plan])), (a_p0_community, .inl (k 0, 12, .inl p0_community)), (a_p1, .inr (4, [.ref a_p1_places, .ref a_p1_sets])), (a_p1_sets, .inl (k 0, 4, .inl p1_sets))] sz) 0 0 (va_A [(a_p0, .inr (8, [.int p0_units, .ref a_p0_population, .ref a_p0_area, .ref a_p0_community, .ref a_p0_outer, .ref a_p0_neighbors, .ref a_p0_lengths, v_p0_cores, v_p0_districts, v_p0_tolerance, v_p0_hasPlan, .ref a_p0_plan])), (a_p0_community, .inl (k 0, 12, .inl p0_community)), (a_p1, .inr (4, [.ref a_p1_places, .ref a_p1_sets])), (a_p1_sets, .inl (k 0, 4, .inl p1_sets))] sz) := by
  refine Met.ofW (cc := cX6_countSplitCommunities) (maxL := 4) (ret := (some .int)) (by decide) rfl ?_
  intro p e s m args below meth c s₁ B hml hv
  obtain ⟨rfl, hsz, hP, hK, hD0⟩ := hv
  have hx := B.exec
  have hb := B.bytes
  have hr := B.returns
  have hts0 := atoms_spec (ws := (Cond.code yX6_countSplitCommunities cX6_countSplitCommunities 4 (some .int) :: Ts)) B.pre
  have hts : ∀ w ∈ uT, w.before _ s = true := fun w h => hts0 w (List.mem_cons_of_mem _ ((hTs w).mpr h))
  clear hts0
  have hown : s.vm.findClass RX6 = some m.cls := findClass_of_methodNamed B.named
  have hlocks := B.notSynchronized
  subst hsz
  have hD := hD0.self (sz := s.heap.size)
  generalize hAe : va_A [(a_p0, .inr (8, [.int p0_units, .ref a_p0_population, .ref a_p0_area, .ref a_p0_community, .ref a_p0_outer, .ref a_p0_neighbors, .ref a_p0_lengths, v_p0_cores, v_p0_districts, v_p0_tolerance, v_p0_hasPlan, .ref a_p0_plan])), (a_p0_community, .inl (k 0, 12, .inl p0_community)), (a_p1, .inr (4, [.ref a_p1_places, .ref a_p1_sets])), (a_p1_sets, .inl (k 0, 4, .inl p1_sets))] s.heap.size = A at hD ⊢
  have hA : ∀ q : Nat, s.heap.size ≤ q → A q := fun q h => by rw [← hAe]; exact Or.inr h
  have hH : HOK D A s.heap [(a_p0, .inr (8, [.int p0_units, .ref a_p0_population, .ref a_p0_area, .ref a_p0_community, .ref a_p0_outer, .ref a_p0_neighbors, .ref a_p0_lengths, v_p0_cores, v_p0_districts, v_p0_tolerance, v_p0_hasPlan, .ref a_p0_plan])), (a_p0_community, .inl (k 0, 12, .inl p0_community)), (a_p1, .inr (4, [.ref a_p1_places, .ref a_p1_sets])), (a_p1_sets, .inl (k 0, 4, .inl p1_sets))] s.heap [] := ⟨hP, hD, va_S.rf⟩
  have hl := lv_entry ([.ref a_p0, .ref a_p1]) (n := 4) (Nat.le_of_ble_eq_true rfl)
  rw [lg_entry_eq]
  generalize (lg_sl ([.ref a_p0, .ref a_p1]) ++ List.replicate (4 - (lg_sl ([.ref a_p0, .ref a_p1])).length) Slot.unset).toArray = ls at hl ⊢
  have hl : lv_has ls 4 [(0, .ref a_p0), (1, .ref a_p1)] := hl
  generalize hQ : MQ below (postI D k r [(a_p0, .inr (8, [.int p0_units, .ref a_p0_population, .ref a_p0_area, .ref a_p0_community, .ref a_p0_outer, .ref a_p0_neighbors, .ref a_p0_lengths, v_p0_cores, v_p0_districts, v_p0_tolerance, v_p0_hasPlan, .ref a_p0_plan])), (a_p0_community, .inl (k 0, 12, .inl p0_community)), (a_p1, .inr (4, [.ref a_p1_places, .ref a_p1_sets])), (a_p1_sets, .inl (k 0, 4, .inl p1_sets))] [(a_p0, .inr (8, [.int p0_units, .ref a_p0_population, .ref a_p0_area, .ref a_p0_community, .ref a_p0_outer, .ref a_p0_neighbors, .ref a_p0_lengths, v_p0_cores, v_p0_districts, v_p0_tolerance, v_p0_hasPlan, .ref a_p0_plan])), (a_p0_community, .inl (k 0, 12, .inl p0_community)), (a_p1, .inr (4, [.ref a_p1_places, .ref a_p1_sets])), (a_p1_sets, .inl (k 0, 4, .inl p1_sets))] s.heap.size) (List.toArray [.ref a_p0, .ref a_p1]) s 0 0 A = Q
  clear hP hD hD0
  suffices K : ∀ (H : Heap) (locs : List Loc), HOK D A s.heap [(a_p0, .inr (8, [.int p0_units, .ref a_p0_population, .ref a_p0_area, .ref a_p0_community, .ref a_p0_outer, .ref a_p0_neighbors, .ref a_p0_lengths, v_p0_cores, v_p0_districts, v_p0_tolerance, v_p0_hasPlan, .ref a_p0_plan])), (a_p0_community, .inl (k 0, 12, .inl p0_community)), (a_p1, .inr (4, [.ref a_p1_places, .ref a_p1_sets])), (a_p1_sets, .inl (k 0, 4, .inl p1_sets))] H locs → W p l e ({ frames := 1, cells := 0, slots := 0, locals := 23 } : Room) s m (List.toArray [.ref a_p0, .ref a_p1]) below meth c H locs 0 0 Q (F0 m 0 ls []) from K s.heap [] hH
  intro H locs hH
  have L4 : ∀ (n : Nat), ∀ (kf : Int32 → Option (Int32)) (y4_2 : Int32) (y4_3 : Int32), fX6_countSplitCommunities_L4 p0_community p0_units p1_sets n kf y4_2 y4_3 = some r → (∀ (z4_2 : Int32) (H : Heap) (locs : List Loc) (ls : Array Slot), kf z4_2 = some r → HOK D A s.heap [(a_p0, .inr (8, [.int p0_units, .ref a_p0_population, .ref a_p0_area, .ref a_p0_community, .ref a_p0_outer, .ref a_p0_neighbors, .ref a_p0_lengths, v_p0_cores, v_p0_districts, v_p0_tolerance, v_p0_hasPlan, .ref a_p0_plan])), (a_p0_community, .inl (k 0, 12, .inl p0_community)), (a_p1, .inr (4, [.ref a_p1_places, .ref a_p1_sets])), (a_p1_sets, .inl (k 0, 4, .inl p1_sets))] H locs → lv_has ls 4 [(2, .int z4_2)] → W p l e ({ frames := 1, cells := 0, slots := 0, locals := 23 } : Room) s m (List.toArray [.ref a_p0, .ref a_p1]) below meth c H locs 0 0 Q (F0 m 30 ls [])) → ∀ (H : Heap) (locs : List Loc) (ls : Array Slot), HOK D A s.heap [(a_p0, .inr (8, [.int p0_units, .ref a_p0_population, .ref a_p0_area, .ref a_p0_community, .ref a_p0_outer, .ref a_p0_neighbors, .ref a_p0_lengths, v_p0_cores, v_p0_districts, v_p0_tolerance, v_p0_hasPlan, .ref a_p0_plan])), (a_p0_community, .inl (k 0, 12, .inl p0_community)), (a_p1, .inr (4, [.ref a_p1_places, .ref a_p1_sets])), (a_p1_sets, .inl (k 0, 4, .inl p1_sets))] H locs → lv_has ls 4 [(0, .ref a_p0), (1, .ref a_p1), (2, .int y4_2), (3, .int y4_3)] → W p l e ({ frames := 1, cells := 0, slots := 0, locals := 23 } : Room) s m (List.toArray [.ref a_p0, .ref a_p1]) below meth c H locs 0 0 Q (F0 m 4 ls []) := by
    intro n
    induction n with
    | zero =>
      intro kf y4_2 y4_3 h
      exact absurd h (by rw [fX6_countSplitCommunities_L4]; exact fun q => by cases q)
    | succ n ih =>
      intro kf y4_2 y4_3 h kk H locs ls hH hl
      rw [fX6_countSplitCommunities_L4] at h
      refine lv_iload_n hx hb dX6_countSplitCommunities_4 rfl (lv_at hl 3 rfl) ?_
      refine lv_iconst (v := 4) hx hb dX6_countSplitCommunities_5 (by decide) ?_
      refine lv_icmp_ge (tgt := 30) hx hb dX6_countSplitCommunities_6 (by decide) (fun c1 => ?_) (fun c1 => ?_)
      · replace h := dc_pos c1 h
        exact kk y4_2 H locs ls h hH (lv_sub hl [2] rfl)
      · replace h := dc_neg c1 h
        refine lv_aload_n hx hb dX6_countSplitCommunities_9 rfl (lv_at hl 1 rfl) ?_
        refine lv_aload_n hx hb dX6_countSplitCommunities_10 rfl (lv_at hl 0 rfl) ?_
        refine lv_iload_n hx hb dX6_countSplitCommunities_11 rfl (lv_at hl 3 rfl) ?_
        obtain ⟨q2, hqq2, h⟩ := dc_bind h
        refine gc_Vi (ws' := [(a_p0, .inr (8, [.int p0_units, .ref a_p0_population, .ref a_p0_area, .ref a_p0_community, .ref a_p0_outer, .ref a_p0_neighbors, .ref a_p0_lengths, v_p0_cores, v_p0_districts, v_p0_tolerance, v_p0_hasPlan, .ref a_p0_plan])), (a_p0_community, .inl (k 0, 12, .inl p0_community)), (a_p1, .inr (4, [.ref a_p1_places, .ref a_p1_sets])), (a_p1_sets, .inl (k 0, 4, .inl p1_sets))]) (As := [.int y4_3]) (rest := [.ref a_p1]) (n := 1) (ci := 8) (cq := (RX9, TX9, 12)) hTs ⟨hx, hb, hml, hown, hts⟩ (mX9_membersOf l Ts hTs D k H.size a_p0 a_p0_population a_p0_area a_p0_community a_p0_outer a_p0_neighbors a_p0_lengths a_p0_plan p0_community p0_units v_p0_cores v_p0_districts v_p0_hasPlan v_p0_tolerance y4_3 q2 hqq2) u_ml_X6_73 u_im_X9_membersOf u_se_X9_membersOf u_in_X9 u_co_X9_membersOf hd_X9_membersOf ⟨Nat.le_of_ble_eq_true rfl, Nat.le_of_ble_eq_true rfl⟩ ⟨rfl, rfl⟩ hK hH hA (cut0 (isC := [0, 1]) rfl rfl rfl) rfl rfl rfl rfl hl.1 (Nat.le_of_ble_eq_true rfl) dX6_countSplitCommunities_12 ⟨Nat.le_of_ble_eq_true rfl, Nat.le_of_ble_eq_true rfl⟩ (fun H locs hH => ?_)
        obtain ⟨q3, hqq3, h⟩ := dc_bind h
        refine gc_Vi (ws' := [(a_p0, .inr (8, [.int p0_units, .ref a_p0_population, .ref a_p0_area, .ref a_p0_community, .ref a_p0_outer, .ref a_p0_neighbors, .ref a_p0_lengths, v_p0_cores, v_p0_districts, v_p0_tolerance, v_p0_hasPlan, .ref a_p0_plan])), (a_p0_community, .inl (k 0, 12, .inl p0_community)), (a_p1, .inr (4, [.ref a_p1_places, .ref a_p1_sets])), (a_p1_sets, .inl (k 0, 4, .inl p1_sets))]) (As := [.int q2]) (rest := []) (n := 1) (ci := 4) (cq := (RX4, TX4, 2)) hTs ⟨hx, hb, hml, hown, hts⟩ (mX4_splits l Ts hTs D k H.size a_p1 a_p1_places a_p1_sets p1_sets q2 q3 hqq3) u_ml_X6_76 u_im_X4_splits u_se_X4_splits u_in_X4 u_co_X4_splits hd_X4_splits ⟨Nat.le_of_ble_eq_true rfl, Nat.le_of_ble_eq_true rfl⟩ ⟨rfl, rfl⟩ hK hH hA (cut0 (isC := [2, 3]) rfl rfl rfl) rfl rfl rfl rfl hl.1 (Nat.le_of_ble_eq_true rfl) dX6_countSplitCommunities_15 ⟨Nat.le_of_ble_eq_true rfl, Nat.le_of_ble_eq_true rfl⟩ (fun H locs hH => ?_)
        refine lv_if_eq (tgt := 24) hx hb dX6_countSplitCommunities_18 (by decide) (fun c4 => ?_) (fun c4 => ?_)
        · replace h := dc_pos c4 h
          refine lv_iinc (v := (y4_3 + (1 : Int32))) (lv' := [(3, .int (y4_3 + (1 : Int32))), (0, .ref a_p0), (1, .ref a_p1), (2, .int y4_2)]) hx hb dX6_countSplitCommunities_24 hl (k := 3) rfl rfl (by decide) rfl (fun ls hl => ?_)
          refine lv_goto (tgt := 4) hx hb dX6_countSplitCommunities_27 (by decide) ?_
          exact ih kf y4_2 (y4_3 + (1 : Int32)) h kk H locs ls hH (lv_sub hl [1, 2, 3, 0] rfl)
        · replace h := dc_neg c4 h
          refine lv_iinc (v := (y4_2 + (1 : Int32))) (lv' := [(2, .int (y4_2 + (1 : Int32))), (0, .ref a_p0), (1, .ref a_p1), (3, .int y4_3)]) hx hb dX6_countSplitCommunities_21 hl (k := 2) rfl rfl (by decide) rfl (fun ls hl => ?_)
          refine lv_iinc (v := (y4_3 + (1 : Int32))) (lv' := [(3, .int (y4_3 + (1 : Int32))), (2, .int (y4_2 + (1 : Int32))), (0, .ref a_p0), (1, .ref a_p1)]) hx hb dX6_countSplitCommunities_24 hl (k := 3) rfl rfl (by decide) rfl (fun ls hl => ?_)
          refine lv_goto (tgt := 4) hx hb dX6_countSplitCommunities_27 (by decide) ?_
          exact ih kf (y4_2 + (1 : Int32)) (y4_3 + (1 : Int32)) h kk H locs ls hH (lv_sub hl [2, 3, 1, 0] rfl)
  rw [fX6_countSplitCommunities] at h
  refine lv_iconst (v := 0) hx hb dX6_countSplitCommunities_0 (by decide) ?_
  refine lv_istore_n (lv' := [(2, .int (0 : Int32)), (0, .ref a_p0), (1, .ref a_p1)]) hx hb dX6_countSplitCommunities_1 rfl hl (by decide) rfl (fun ls hl => ?_)
  refine lv_iconst (v := 0) hx hb dX6_countSplitCommunities_2 (by decide) ?_
  refine lv_istore_n (lv' := [(3, .int (0 : Int32)), (2, .int (0 : Int32)), (0, .ref a_p0), (1, .ref a_p1)]) hx hb dX6_countSplitCommunities_3 rfl hl (by decide) rfl (fun ls hl => ?_)
  refine L4 _ _ (0 : Int32) (0 : Int32) h (fun z4_2 H locs ls h hH hl => ?_) H locs ls hH (lv_sub hl [2, 3, 1, 0] rfl)
  refine lv_iload_n hx hb dX6_countSplitCommunities_30 rfl (lv_at hl 0 rfl) ?_
  have h := Option.some.inj h
  subst h
  exact ge_i hx hb hr hlocks hQ hK hH hAe rfl dX6_countSplitCommunities_31
theorem hd_X6_greatestImbalance : yX6_greatestImbalance.cls ≠ "java/lang/invoke/MethodHandle" ∧ yX6_greatestImbalance.cls ≠ "java/lang/invoke/VarHandle" ∧ (parseMethodDescriptor yX6_greatestImbalance.desc).map (fun d => d.parameters.length) = some 2 := by decide +kernel
set_option maxHeartbeats 4000000 in
set_option maxRecDepth 100000 in
theorem mX6_greatestImbalance (l : Launch) (Ts : List Cond) (hTs : ∀ w, w ∈ Ts ↔ w ∈ uT) (D : va_G) (k : Nat → ClassId) (sz : Nat) (a_p0 : Nat) (a_p1 : Nat) (a_p0_population : Nat) (a_p0_area : Nat) (a_p0_community : Nat) (a_p0_outer : Nat) (a_p0_neighbors : Nat) (a_p0_lengths : Nat) (a_p0_plan : Nat) (a_p1_places : Nat) (a_p1_sets : Nat) (p0_districts : Int32) (p0_population : Nat → Int32) (p0_units : Int32) (p1_sets : Nat → Int32) (v_p0_cores : Value) (v_p0_hasPlan : Value) (v_p0_tolerance : Value) (r : Int32) (h : fX6_greatestImbalance p0_districts p0_population p0_units p1_sets = some r) : Met l yX6_greatestImbalance (Cond.code yX6_greatestImbalance cX6_greatestImbalance 4 (some .int) :: Ts) ({ frames := 2, cells := 0, slots := 0, locals := 85 } : Room) (preM D k [.ref a_p0, .ref a_p1] [(a_p0, .inr (8, [.int p0_units, .ref a_p0_population, .ref a_p0_area, .ref a_p0_community, .ref a_p0_outer, .ref a_p0_neighbors, .ref a_p0_lengths, v_p0_cores, .int p0_districts, v_p0_tolerance, v_p0_hasPlan, .ref a_p0_plan])), (a_p1, .inr (4, [.ref a_p1_places, .ref a_p1_sets])), (a_p1_sets, .inl (k 0, 4, .inl p1_sets)), (a_p0_population, .inl (k 0, 12, .inl p0_population))] sz) (postI D k r [(a_p0, .inr (8, [.int p0_units, .ref a_p0_population, .ref a_p0_area, .ref a_p0_community, .ref a_p0_outer, .ref a_p0_neighbors, .ref a_p0_lengths, v_p0_cores, .int p0_districts, v_p0_tolerance, v_p0_hasPlan, .ref a_p0_plan])), (a_p1, .inr (4, [.ref a_p1_places, .ref a_p1_sets])), (a_p1_sets, .inl (k 0, 4, .inl p1_sets)), (a_p0_population, .inl (k 0, 12, .inl p0_population))] [(a_p0, .inr (8, [.int p0_units, .ref a_p0_population, .ref a_p0_area, .ref a_p0_community, .ref a_p0_outer, .ref a_p0_neighbors, .ref a_p0_lengths, v_p0_cores, .int p0_districts, v_p0_tolerance, v_p0_hasPlan, .ref a_p0_plan])), (a_p1, .inr (4, [.ref a_p1_places, .ref a_p1_sets])), (a_p1_sets, .inl (k 0, 4, .inl p1_sets)), (a_p0_population, .inl (k 0, 12, .inl p0_population))] sz) 0 0 (va_A [(a_p0, .inr (8, [.int p0_units, .ref a_p0_population, .ref a_p0_area, .ref a_p0_community, .ref a_p0_outer, .ref a_p0_neighbors, .ref a_p0_lengths, v_p0_cores, .int p0_districts, v_p0_tolerance, v_p0_hasPlan, .ref a_p0_plan])), (a_p1, .inr (4, [.ref a_p1_places, .ref a_p1_sets])), (a_p1_sets, .inl (k 0, 4, .inl p1_sets)), (a_p0_population, .inl (k 0, 12, .inl p0_population))] sz) := by
  refine Met.ofW (cc := cX6_greatestImbalance) (maxL := 4) (ret := (some .int)) (by decide) rfl ?_
  intro p e s m args below meth c s₁ B hml hv
  obtain ⟨rfl, hsz, hP, hK, hD0⟩ := hv
  have hx := B.exec
  have hb := B.bytes
  have hr := B.returns
  have hts0 := atoms_spec (ws := (Cond.code yX6_greatestImbalance cX6_greatestImbalance 4 (some .int) :: Ts)) B.pre
  have hts : ∀ w ∈ uT, w.before _ s = true := fun w h => hts0 w (List.mem_cons_of_mem _ ((hTs w).mpr h))
  clear hts0
  have hown : s.vm.findClass RX6 = some m.cls := findClass_of_methodNamed B.named
  have hlocks := B.notSynchronized
  subst hsz
  have hD := hD0.self (sz := s.heap.size)
  generalize hAe : va_A [(a_p0, .inr (8, [.int p0_units, .ref a_p0_population, .ref a_p0_area, .ref a_p0_community, .ref a_p0_outer, .ref a_p0_neighbors, .ref a_p0_lengths, v_p0_cores, .int p0_districts, v_p0_tolerance, v_p0_hasPlan, .ref a_p0_plan])), (a_p1, .inr (4, [.ref a_p1_places, .ref a_p1_sets])), (a_p1_sets, .inl (k 0, 4, .inl p1_sets)), (a_p0_population, .inl (k 0, 12, .inl p0_population))] s.heap.size = A at hD ⊢
  have hA : ∀ q : Nat, s.heap.size ≤ q → A q := fun q h => by rw [← hAe]; exact Or.inr h
  have hH : HOK D A s.heap [(a_p0, .inr (8, [.int p0_units, .ref a_p0_population, .ref a_p0_area, .ref a_p0_community, .ref a_p0_outer, .ref a_p0_neighbors, .ref a_p0_lengths, v_p0_cores, .int p0_districts, v_p0_tolerance, v_p0_hasPlan, .ref a_p0_plan])), (a_p1, .inr (4, [.ref a_p1_places, .ref a_p1_sets])), (a_p1_sets, .inl (k 0, 4, .inl p1_sets)), (a_p0_population, .inl (k 0, 12, .inl p0_population))] s.heap [] := ⟨hP, hD, va_S.rf⟩
  have hl := lv_entry ([.ref a_p0, .ref a_p1]) (n := 4) (Nat.le_of_ble_eq_true rfl)
  rw [lg_entry_eq]
  generalize (lg_sl ([.ref a_p0, .ref a_p1]) ++ List.replicate (4 - (lg_sl ([.ref a_p0, .ref a_p1])).length) Slot.unset).toArray = ls at hl ⊢
  have hl : lv_has ls 4 [(0, .ref a_p0), (1, .ref a_p1)] := hl
  generalize hQ : MQ below (postI D k r [(a_p0, .inr (8, [.int p0_units, .ref a_p0_population, .ref a_p0_area, .ref a_p0_community, .ref a_p0_outer, .ref a_p0_neighbors, .ref a_p0_lengths, v_p0_cores, .int p0_districts, v_p0_tolerance, v_p0_hasPlan, .ref a_p0_plan])), (a_p1, .inr (4, [.ref a_p1_places, .ref a_p1_sets])), (a_p1_sets, .inl (k 0, 4, .inl p1_sets)), (a_p0_population, .inl (k 0, 12, .inl p0_population))] [(a_p0, .inr (8, [.int p0_units, .ref a_p0_population, .ref a_p0_area, .ref a_p0_community, .ref a_p0_outer, .ref a_p0_neighbors, .ref a_p0_lengths, v_p0_cores, .int p0_districts, v_p0_tolerance, v_p0_hasPlan, .ref a_p0_plan])), (a_p1, .inr (4, [.ref a_p1_places, .ref a_p1_sets])), (a_p1_sets, .inl (k 0, 4, .inl p1_sets)), (a_p0_population, .inl (k 0, 12, .inl p0_population))] s.heap.size) (List.toArray [.ref a_p0, .ref a_p1]) s 0 0 A = Q
  clear hP hD hD0
  suffices K : ∀ (H : Heap) (locs : List Loc), HOK D A s.heap [(a_p0, .inr (8, [.int p0_units, .ref a_p0_population, .ref a_p0_area, .ref a_p0_community, .ref a_p0_outer, .ref a_p0_neighbors, .ref a_p0_lengths, v_p0_cores, .int p0_districts, v_p0_tolerance, v_p0_hasPlan, .ref a_p0_plan])), (a_p1, .inr (4, [.ref a_p1_places, .ref a_p1_sets])), (a_p1_sets, .inl (k 0, 4, .inl p1_sets)), (a_p0_population, .inl (k 0, 12, .inl p0_population))] H locs → W p l e ({ frames := 2, cells := 0, slots := 0, locals := 85 } : Room) s m (List.toArray [.ref a_p0, .ref a_p1]) below meth c H locs 0 0 Q (F0 m 0 ls []) from K s.heap [] hH
  intro H locs hH
  have L4 : ∀ (n : Nat), ∀ (kf : Int32 → Option (Int32)) (y4_2 : Int32) (y4_3 : Int32), fX6_greatestImbalance_L4 p0_districts p0_population p0_units p1_sets n kf y4_2 y4_3 = some r → (∀ (z4_2 : Int32) (H : Heap) (locs : List Loc) (ls : Array Slot), kf z4_2 = some r → HOK D A s.heap [(a_p0, .inr (8, [.int p0_units, .ref a_p0_population, .ref a_p0_area, .ref a_p0_community, .ref a_p0_outer, .ref a_p0_neighbors, .ref a_p0_lengths, v_p0_cores, .int p0_districts, v_p0_tolerance, v_p0_hasPlan, .ref a_p0_plan])), (a_p1, .inr (4, [.ref a_p1_places, .ref a_p1_sets])), (a_p1_sets, .inl (k 0, 4, .inl p1_sets)), (a_p0_population, .inl (k 0, 12, .inl p0_population))] H locs → lv_has ls 4 [(2, .int z4_2)] → W p l e ({ frames := 2, cells := 0, slots := 0, locals := 85 } : Room) s m (List.toArray [.ref a_p0, .ref a_p1]) below meth c H locs 0 0 Q (F0 m 33 ls [])) → ∀ (H : Heap) (locs : List Loc) (ls : Array Slot), HOK D A s.heap [(a_p0, .inr (8, [.int p0_units, .ref a_p0_population, .ref a_p0_area, .ref a_p0_community, .ref a_p0_outer, .ref a_p0_neighbors, .ref a_p0_lengths, v_p0_cores, .int p0_districts, v_p0_tolerance, v_p0_hasPlan, .ref a_p0_plan])), (a_p1, .inr (4, [.ref a_p1_places, .ref a_p1_sets])), (a_p1_sets, .inl (k 0, 4, .inl p1_sets)), (a_p0_population, .inl (k 0, 12, .inl p0_population))] H locs → lv_has ls 4 [(0, .ref a_p0), (1, .ref a_p1), (2, .int y4_2), (3, .int y4_3)] → W p l e ({ frames := 2, cells := 0, slots := 0, locals := 85 } : Room) s m (List.toArray [.ref a_p0, .ref a_p1]) below meth c H locs 0 0 Q (F0 m 4 ls []) := by
    intro n
    induction n with
    | zero =>
      intro kf y4_2 y4_3 h
      exact absurd h (by rw [fX6_greatestImbalance_L4]; exact fun q => by cases q)
    | succ n ih =>
      intro kf y4_2 y4_3 h kk H locs ls hH hl
      rw [fX6_greatestImbalance_L4] at h
      refine lv_iload_n hx hb dX6_greatestImbalance_4 rfl (lv_at hl 3 rfl) ?_
      refine lv_aload_n hx hb dX6_greatestImbalance_5 rfl (lv_at hl 0 rfl) ?_
      refine gk_get (ci := 8) (C := RX9) (T := TX9) (N := 12) hx hb hts u_ws_X9 hown hK hH 0 rfl rfl 8 (by decide) u_fl_X6_51 rfl dX6_greatestImbalance_6 ?_
      refine lv_icmp_ge (tgt := 33) hx hb dX6_greatestImbalance_9 (by decide) (fun c1 => ?_) (fun c1 => ?_)
      · replace h := dc_pos c1 h
        exact kk y4_2 H locs ls h hH (lv_sub hl [2] rfl)
      · replace h := dc_neg c1 h
        refine lv_iload_n hx hb dX6_greatestImbalance_12 rfl (lv_at hl 2 rfl) ?_
        refine lv_aload_n hx hb dX6_greatestImbalance_13 rfl (lv_at hl 0 rfl) ?_
        refine lv_aload_n hx hb dX6_greatestImbalance_14 rfl (lv_at hl 1 rfl) ?_
        refine gk_get (ci := 4) (C := RX4) (T := TX4) (N := 2) hx hb hts u_ws_X4 hown hK hH 1 rfl rfl 1 (by decide) u_fl_X6_55 rfl dX6_greatestImbalance_15 ?_
        refine lv_iload_n hx hb dX6_greatestImbalance_18 rfl (lv_at hl 3 rfl) ?_
        obtain ⟨g2, h⟩ := dc_need h
        refine gk_iald hx hb hK hH 2 rfl (dk_in g2) dX6_greatestImbalance_19 ?_
        obtain ⟨q3, hqq3, h⟩ := dc_bind h
        refine gc_Vi (ws' := [(a_p0, .inr (8, [.int p0_units, .ref a_p0_population, .ref a_p0_area, .ref a_p0_community, .ref a_p0_outer, .ref a_p0_neighbors, .ref a_p0_lengths, v_p0_cores, .int p0_districts, v_p0_tolerance, v_p0_hasPlan, .ref a_p0_plan])), (a_p1, .inr (4, [.ref a_p1_places, .ref a_p1_sets])), (a_p1_sets, .inl (k 0, 4, .inl p1_sets)), (a_p0_population, .inl (k 0, 12, .inl p0_population))]) (As := [.int (p1_sets y4_3.toNatClampNeg)]) (rest := [.int y4_2]) (n := 1) (ci := 8) (cq := (RX9, TX9, 12)) hTs ⟨hx, hb, hml, hown, hts⟩ (mX9_imbalanceOf l Ts hTs D k H.size a_p0 a_p0_population a_p0_area a_p0_community a_p0_outer a_p0_neighbors a_p0_lengths a_p0_plan p0_districts p0_population p0_units v_p0_cores v_p0_hasPlan v_p0_tolerance (p1_sets y4_3.toNatClampNeg) q3 hqq3) u_ml_X6_80 u_im_X9_imbalanceOf u_se_X9_imbalanceOf u_in_X9 u_co_X9_imbalanceOf hd_X9_imbalanceOf ⟨Nat.le_of_ble_eq_true rfl, Nat.le_of_ble_eq_true rfl⟩ ⟨rfl, rfl⟩ hK hH hA (cut0 (isC := [0, 3]) rfl rfl rfl) rfl rfl rfl rfl hl.1 (Nat.le_of_ble_eq_true rfl) dX6_greatestImbalance_20 ⟨Nat.le_of_ble_eq_true rfl, Nat.le_of_ble_eq_true rfl⟩ (fun H locs hH => ?_)
        refine va_mmax hx hb (hml.trans hl.1.symm) hown (hts _ u_ml_X6_83) (hts _ u_st_J9_max_7cf53) (hts _ u_in_J9) (hts _ u_co_Math_max) (Nat.le_of_ble_eq_true rfl) (Nat.le_of_ble_eq_true rfl) (Nat.le_of_ble_eq_true rfl) (Nat.le_of_ble_eq_true rfl) dX6_greatestImbalance_23 ?_
        refine lv_istore_n (lv' := [(2, .int (if y4_2 < q3 then q3 else y4_2)), (0, .ref a_p0), (1, .ref a_p1), (3, .int y4_3)]) hx hb dX6_greatestImbalance_26 rfl hl (by decide) rfl (fun ls hl => ?_)
        refine lv_iinc (v := (y4_3 + (1 : Int32))) (lv' := [(3, .int (y4_3 + (1 : Int32))), (2, .int (if y4_2 < q3 then q3 else y4_2)), (0, .ref a_p0), (1, .ref a_p1)]) hx hb dX6_greatestImbalance_27 hl (k := 3) rfl rfl (by decide) rfl (fun ls hl => ?_)
        refine lv_goto (tgt := 4) hx hb dX6_greatestImbalance_30 (by decide) ?_
        exact ih kf (if y4_2 < q3 then q3 else y4_2) (y4_3 + (1 : Int32)) h kk H locs ls hH (lv_sub hl [2, 3, 1, 0] rfl)
  rw [fX6_greatestImbalance] at h
  refine lv_iconst (v := 0) hx hb dX6_greatestImbalance_0 (by decide) ?_
  refine lv_istore_n (lv' := [(2, .int (0 : Int32)), (0, .ref a_p0), (1, .ref a_p1)]) hx hb dX6_greatestImbalance_1 rfl hl (by decide) rfl (fun ls hl => ?_)
  refine lv_iconst (v := 0) hx hb dX6_greatestImbalance_2 (by decide) ?_
  refine lv_istore_n (lv' := [(3, .int (0 : Int32)), (2, .int (0 : Int32)), (0, .ref a_p0), (1, .ref a_p1)]) hx hb dX6_greatestImbalance_3 rfl hl (by decide) rfl (fun ls hl => ?_)
  refine L4 _ _ (0 : Int32) (0 : Int32) h (fun z4_2 H locs ls h hH hl => ?_) H locs ls hH (lv_sub hl [2, 3, 1, 0] rfl)
  refine lv_iload_n hx hb dX6_greatestImbalance_33 rfl (lv_at hl 0 rfl) ?_
  have h := Option.some.inj h
  subst h
  exact ge_i hx hb hr hlocks hQ hK hH hAe rfl dX6_greatestImbalance_34
theorem hd_X6_weigh : yX6_weigh.cls ≠ "java/lang/invoke/MethodHandle" ∧ yX6_weigh.cls ≠ "java/lang/invoke/VarHandle" ∧ (parseMethodDescriptor yX6_weigh.desc).map (fun d => d.parameters.length) = some 4 := by decide +kernel
set_option maxHeartbeats 4000000 in
set_option maxRecDepth 100000 in
theorem mX6_weigh (l : Launch) (Ts : List Cond) (hTs : ∀ w, w ∈ Ts ↔ w ∈ uT) (D : va_G) (k : Nat → ClassId) (sz : Nat) (a_p0 : Nat) (a_p1 : Nat) (a_p3 : Nat) (a_p0_population : Nat) (a_p0_area : Nat) (a_p0_community : Nat) (a_p0_outer : Nat) (a_p0_neighbors : Nat) (a_p0_lengths : Nat) (a_p0_plan : Nat) (a_p1_places : Nat) (a_p1_sets : Nat) (p0_area : Nat → Int32) (p0_community : Nat → Int32) (p0_districts : Int32) (p0_lengths : Nat → Int32) (p0_outer : Nat → Int32) (p0_population : Nat → Int32) (p0_units : Int32) (p1_places : Nat → Int32) (p1_sets : Nat → Int32) (v_p0_cores : Value) (v_p0_hasPlan : Value) (v_p0_tolerance : Value) (v_p3_bottom : Value) (v_p3_top : Value) (x2 : Int32) (r : Int64 × Int64) (h : fX6_weigh p0_area p0_community p0_districts p0_lengths p0_outer p0_population p0_units p1_places p1_sets x2 = some r) : Met l yX6_weigh (Cond.code yX6_weigh cX6_weigh 4 none :: Ts) ({ frames := 3, cells := 0, slots := 0, locals := 108 } : Room) (preM D k [.ref a_p0, .ref a_p1, .int x2, .ref a_p3] [(a_p0, .inr (8, [.int p0_units, .ref a_p0_population, .ref a_p0_area, .ref a_p0_community, .ref a_p0_outer, .ref a_p0_neighbors, .ref a_p0_lengths, v_p0_cores, .int p0_districts, v_p0_tolerance, v_p0_hasPlan, .ref a_p0_plan])), (a_p1, .inr (4, [.ref a_p1_places, .ref a_p1_sets])), (a_p1_sets, .inl (k 0, 4, .inl p1_sets)), (a_p0_outer, .inl (k 0, 12, .inl p0_outer)), (a_p0_lengths, .inl (k 0, 144, .inl p0_lengths)), (a_p0_area, .inl (k 0, 12, .inl p0_area)), (a_p3, .inr (1, [v_p3_top, v_p3_bottom])), (a_p1_places, .inl (k 0, 12, .inl p1_places)), (a_p0_community, .inl (k 0, 12, .inl p0_community)), (a_p0_population, .inl (k 0, 12, .inl p0_population))] sz) (postV D k [(a_p0, .inr (8, [.int p0_units, .ref a_p0_population, .ref a_p0_area, .ref a_p0_community, .ref a_p0_outer, .ref a_p0_neighbors, .ref a_p0_lengths, v_p0_cores, .int p0_districts, v_p0_tolerance, v_p0_hasPlan, .ref a_p0_plan])), (a_p1, .inr (4, [.ref a_p1_places, .ref a_p1_sets])), (a_p1_sets, .inl (k 0, 4, .inl p1_sets)), (a_p0_outer, .inl (k 0, 12, .inl p0_outer)), (a_p0_lengths, .inl (k 0, 144, .inl p0_lengths)), (a_p0_area, .inl (k 0, 12, .inl p0_area)), (a_p3, .inr (1, [v_p3_top, v_p3_bottom])), (a_p1_places, .inl (k 0, 12, .inl p1_places)), (a_p0_community, .inl (k 0, 12, .inl p0_community)), (a_p0_population, .inl (k 0, 12, .inl p0_population))] [(a_p0, .inr (8, [.int p0_units, .ref a_p0_population, .ref a_p0_area, .ref a_p0_community, .ref a_p0_outer, .ref a_p0_neighbors, .ref a_p0_lengths, v_p0_cores, .int p0_districts, v_p0_tolerance, v_p0_hasPlan, .ref a_p0_plan])), (a_p1, .inr (4, [.ref a_p1_places, .ref a_p1_sets])), (a_p1_sets, .inl (k 0, 4, .inl p1_sets)), (a_p0_outer, .inl (k 0, 12, .inl p0_outer)), (a_p0_lengths, .inl (k 0, 144, .inl p0_lengths)), (a_p0_area, .inl (k 0, 12, .inl p0_area)), (a_p3, .inr (1, [.long r.2, .long r.1])), (a_p1_places, .inl (k 0, 12, .inl p1_places)), (a_p0_community, .inl (k 0, 12, .inl p0_community)), (a_p0_population, .inl (k 0, 12, .inl p0_population))] sz) 0 0 (va_A [(a_p0, .inr (8, [.int p0_units, .ref a_p0_population, .ref a_p0_area, .ref a_p0_community, .ref a_p0_outer, .ref a_p0_neighbors, .ref a_p0_lengths, v_p0_cores, .int p0_districts, v_p0_tolerance, v_p0_hasPlan, .ref a_p0_plan])), (a_p1, .inr (4, [.ref a_p1_places, .ref a_p1_sets])), (a_p1_sets, .inl (k 0, 4, .inl p1_sets)), (a_p0_outer, .inl (k 0, 12, .inl p0_outer)), (a_p0_lengths, .inl (k 0, 144, .inl p0_lengths)), (a_p0_area, .inl (k 0, 12, .inl p0_area)), (a_p3, .inr (1, [v_p3_top, v_p3_bottom])), (a_p1_places, .inl (k 0, 12, .inl p1_places)), (a_p0_community, .inl (k 0, 12, .inl p0_community)), (a_p0_population, .inl (k 0, 12, .inl p0_population))] sz) := by
  refine Met.ofW (cc := cX6_weigh) (maxL := 4) (ret := none) (by decide) rfl ?_
  intro p e s m args below meth c s₁ B hml hv
  obtain ⟨rfl, hsz, hP, hK, hD0⟩ := hv
  have hx := B.exec
  have hb := B.bytes
  have hr := B.returns
  have hts0 := atoms_spec (ws := (Cond.code yX6_weigh cX6_weigh 4 none :: Ts)) B.pre
  have hts : ∀ w ∈ uT, w.before _ s = true := fun w h => hts0 w (List.mem_cons_of_mem _ ((hTs w).mpr h))
  clear hts0
  have hown : s.vm.findClass RX6 = some m.cls := findClass_of_methodNamed B.named
  have hlocks := B.notSynchronized
  subst hsz
  have hD := hD0.self (sz := s.heap.size)
  generalize hAe : va_A [(a_p0, .inr (8, [.int p0_units, .ref a_p0_population, .ref a_p0_area, .ref a_p0_community, .ref a_p0_outer, .ref a_p0_neighbors, .ref a_p0_lengths, v_p0_cores, .int p0_districts, v_p0_tolerance, v_p0_hasPlan, .ref a_p0_plan])), (a_p1, .inr (4, [.ref a_p1_places, .ref a_p1_sets])), (a_p1_sets, .inl (k 0, 4, .inl p1_sets)), (a_p0_outer, .inl (k 0, 12, .inl p0_outer)), (a_p0_lengths, .inl (k 0, 144, .inl p0_lengths)), (a_p0_area, .inl (k 0, 12, .inl p0_area)), (a_p3, .inr (1, [v_p3_top, v_p3_bottom])), (a_p1_places, .inl (k 0, 12, .inl p1_places)), (a_p0_community, .inl (k 0, 12, .inl p0_community)), (a_p0_population, .inl (k 0, 12, .inl p0_population))] s.heap.size = A at hD ⊢
  have hA : ∀ q : Nat, s.heap.size ≤ q → A q := fun q h => by rw [← hAe]; exact Or.inr h
  have hH : HOK D A s.heap [(a_p0, .inr (8, [.int p0_units, .ref a_p0_population, .ref a_p0_area, .ref a_p0_community, .ref a_p0_outer, .ref a_p0_neighbors, .ref a_p0_lengths, v_p0_cores, .int p0_districts, v_p0_tolerance, v_p0_hasPlan, .ref a_p0_plan])), (a_p1, .inr (4, [.ref a_p1_places, .ref a_p1_sets])), (a_p1_sets, .inl (k 0, 4, .inl p1_sets)), (a_p0_outer, .inl (k 0, 12, .inl p0_outer)), (a_p0_lengths, .inl (k 0, 144, .inl p0_lengths)), (a_p0_area, .inl (k 0, 12, .inl p0_area)), (a_p3, .inr (1, [v_p3_top, v_p3_bottom])), (a_p1_places, .inl (k 0, 12, .inl p1_places)), (a_p0_community, .inl (k 0, 12, .inl p0_community)), (a_p0_population, .inl (k 0, 12, .inl p0_population))] s.heap [] := ⟨hP, hD, va_S.rf⟩
  have hl := lv_entry ([.ref a_p0, .ref a_p1, .int x2, .ref a_p3]) (n := 4) (Nat.le_of_ble_eq_true rfl)
  rw [lg_entry_eq]
  generalize (lg_sl ([.ref a_p0, .ref a_p1, .int x2, .ref a_p3]) ++ List.replicate (4 - (lg_sl ([.ref a_p0, .ref a_p1, .int x2, .ref a_p3])).length) Slot.unset).toArray = ls at hl ⊢
  have hl : lv_has ls 4 [(0, .ref a_p0), (1, .ref a_p1), (2, .int x2), (3, .ref a_p3)] := hl
  generalize hQ : MQ below (postV D k [(a_p0, .inr (8, [.int p0_units, .ref a_p0_population, .ref a_p0_area, .ref a_p0_community, .ref a_p0_outer, .ref a_p0_neighbors, .ref a_p0_lengths, v_p0_cores, .int p0_districts, v_p0_tolerance, v_p0_hasPlan, .ref a_p0_plan])), (a_p1, .inr (4, [.ref a_p1_places, .ref a_p1_sets])), (a_p1_sets, .inl (k 0, 4, .inl p1_sets)), (a_p0_outer, .inl (k 0, 12, .inl p0_outer)), (a_p0_lengths, .inl (k 0, 144, .inl p0_lengths)), (a_p0_area, .inl (k 0, 12, .inl p0_area)), (a_p3, .inr (1, [v_p3_top, v_p3_bottom])), (a_p1_places, .inl (k 0, 12, .inl p1_places)), (a_p0_community, .inl (k 0, 12, .inl p0_community)), (a_p0_population, .inl (k 0, 12, .inl p0_population))] [(a_p0, .inr (8, [.int p0_units, .ref a_p0_population, .ref a_p0_area, .ref a_p0_community, .ref a_p0_outer, .ref a_p0_neighbors, .ref a_p0_lengths, v_p0_cores, .int p0_districts, v_p0_tolerance, v_p0_hasPlan, .ref a_p0_plan])), (a_p1, .inr (4, [.ref a_p1_places, .ref a_p1_sets])), (a_p1_sets, .inl (k 0, 4, .inl p1_sets)), (a_p0_outer, .inl (k 0, 12, .inl p0_outer)), (a_p0_lengths, .inl (k 0, 144, .inl p0_lengths)), (a_p0_area, .inl (k 0, 12, .inl p0_area)), (a_p3, .inr (1, [.long r.2, .long r.1])), (a_p1_places, .inl (k 0, 12, .inl p1_places)), (a_p0_community, .inl (k 0, 12, .inl p0_community)), (a_p0_population, .inl (k 0, 12, .inl p0_population))] s.heap.size) (List.toArray [.ref a_p0, .ref a_p1, .int x2, .ref a_p3]) s 0 0 A = Q
  clear hP hD hD0
  suffices K : ∀ (H : Heap) (locs : List Loc), HOK D A s.heap [(a_p0, .inr (8, [.int p0_units, .ref a_p0_population, .ref a_p0_area, .ref a_p0_community, .ref a_p0_outer, .ref a_p0_neighbors, .ref a_p0_lengths, v_p0_cores, .int p0_districts, v_p0_tolerance, v_p0_hasPlan, .ref a_p0_plan])), (a_p1, .inr (4, [.ref a_p1_places, .ref a_p1_sets])), (a_p1_sets, .inl (k 0, 4, .inl p1_sets)), (a_p0_outer, .inl (k 0, 12, .inl p0_outer)), (a_p0_lengths, .inl (k 0, 144, .inl p0_lengths)), (a_p0_area, .inl (k 0, 12, .inl p0_area)), (a_p3, .inr (1, [v_p3_top, v_p3_bottom])), (a_p1_places, .inl (k 0, 12, .inl p1_places)), (a_p0_community, .inl (k 0, 12, .inl p0_community)), (a_p0_population, .inl (k 0, 12, .inl p0_population))] H locs → W p l e ({ frames := 3, cells := 0, slots := 0, locals := 108 } : Room) s m (List.toArray [.ref a_p0, .ref a_p1, .int x2, .ref a_p3]) below meth c H locs 0 0 Q (F0 m 0 ls []) from K s.heap [] hH
  intro H locs hH
  rw [fX6_weigh] at h
  refine lv_iload_n hx hb dX6_weigh_0 rfl (lv_at hl 2 rfl) ?_
  by_cases c2 : x2 = (0 : Int32)
  · refine lv_tableIn (tgt := 28) hx hb dX6_weigh_1 (by rw [c2]; decide) (by rw [c2]; decide) (by rw [c2]; rfl) (by decide) ?_
    replace h := dc_pos c2 h
    refine lv_aload_n hx hb dX6_weigh_28 rfl (lv_at hl 0 rfl) ?_
    refine lv_aload_n hx hb dX6_weigh_29 rfl (lv_at hl 1 rfl) ?_
    refine lv_aload_n hx hb dX6_weigh_30 rfl (lv_at hl 3 rfl) ?_
    obtain ⟨q3, hqq3, h⟩ := dc_bind h
    refine gc_Sv (ws' := [(a_p0, .inr (8, [.int p0_units, .ref a_p0_population, .ref a_p0_area, .ref a_p0_community, .ref a_p0_outer, .ref a_p0_neighbors, .ref a_p0_lengths, v_p0_cores, .int p0_districts, v_p0_tolerance, v_p0_hasPlan, .ref a_p0_plan])), (a_p1, .inr (4, [.ref a_p1_places, .ref a_p1_sets])), (a_p1_sets, .inl (k 0, 4, .inl p1_sets)), (a_p0_outer, .inl (k 0, 12, .inl p0_outer)), (a_p0_lengths, .inl (k 0, 144, .inl p0_lengths)), (a_p0_area, .inl (k 0, 12, .inl p0_area)), (a_p3, .inr (1, [.long q3.2, .long q3.1])), (a_p1_places, .inl (k 0, 12, .inl p1_places)), (a_p0_community, .inl (k 0, 12, .inl p0_community)), (a_p0_population, .inl (k 0, 12, .inl p0_population))]) (As := [.ref a_p0, .ref a_p1, .ref a_p3]) (rest := []) (n := 3) hTs ⟨hx, hb, hml, hown, hts⟩ (mX6_weighCompactness l Ts hTs D k H.size a_p0 a_p1 a_p3 a_p0_population a_p0_area a_p0_community a_p0_outer a_p0_neighbors a_p0_lengths a_p0_plan a_p1_places a_p1_sets p0_area p0_districts p0_lengths p0_outer p0_units p1_sets v_p0_cores v_p0_hasPlan v_p0_tolerance v_p3_bottom v_p3_top q3 hqq3) u_ml_X6_9 u_st_X6_weighCompactness u_in_X6 u_co_X6_weighCompactness hd_X6_weighCompactness ⟨Nat.le_of_ble_eq_true rfl, Nat.le_of_ble_eq_true rfl⟩ ⟨rfl, rfl⟩ hK hH hA (cut1 (isC := [0, 1, 2, 3, 4, 5, 6]) rfl rfl rfl rfl rfl) rfl rfl hl.1 (Nat.le_of_ble_eq_true rfl) dX6_weigh_31 ⟨Nat.le_of_ble_eq_true rfl, Nat.le_of_ble_eq_true rfl⟩ (fun H locs hH => ?_)
    refine lv_goto (tgt := 84) hx hb dX6_weigh_34 (by decide) ?_
    have h := Option.some.inj h
    subst h
    exact ge_v hx hb hr hlocks hQ hK hH hAe dX6_weigh_84
  · replace h := dc_neg c2 h
    by_cases c4 : x2 = (1 : Int32)
    · refine lv_tableIn (tgt := 37) hx hb dX6_weigh_1 (by rw [c4]; decide) (by rw [c4]; decide) (by rw [c4]; rfl) (by decide) ?_
      replace h := dc_pos c4 h
      refine lv_aload_n hx hb dX6_weigh_37 rfl (lv_at hl 3 rfl) ?_
      refine lv_aload_n hx hb dX6_weigh_38 rfl (lv_at hl 0 rfl) ?_
      refine lv_aload_n hx hb dX6_weigh_39 rfl (lv_at hl 1 rfl) ?_
      obtain ⟨q5, hqq5, h⟩ := dc_bind h
      refine gc_Si (ws' := [(a_p0, .inr (8, [.int p0_units, .ref a_p0_population, .ref a_p0_area, .ref a_p0_community, .ref a_p0_outer, .ref a_p0_neighbors, .ref a_p0_lengths, v_p0_cores, .int p0_districts, v_p0_tolerance, v_p0_hasPlan, .ref a_p0_plan])), (a_p1, .inr (4, [.ref a_p1_places, .ref a_p1_sets])), (a_p1_sets, .inl (k 0, 4, .inl p1_sets)), (a_p0_outer, .inl (k 0, 12, .inl p0_outer)), (a_p0_lengths, .inl (k 0, 144, .inl p0_lengths)), (a_p0_area, .inl (k 0, 12, .inl p0_area)), (a_p3, .inr (1, [v_p3_top, v_p3_bottom])), (a_p1_places, .inl (k 0, 12, .inl p1_places)), (a_p0_community, .inl (k 0, 12, .inl p0_community)), (a_p0_population, .inl (k 0, 12, .inl p0_population))]) (As := [.ref a_p0, .ref a_p1]) (rest := [.ref a_p3]) (n := 2) hTs ⟨hx, hb, hml, hown, hts⟩ (mX6_cutLength l Ts hTs D k H.size a_p0 a_p1 a_p0_population a_p0_area a_p0_community a_p0_outer a_p0_neighbors a_p0_lengths a_p0_plan a_p1_places a_p1_sets p0_lengths p0_units p1_places v_p0_cores (.int p0_districts) v_p0_hasPlan v_p0_tolerance q5 hqq5) u_ml_X6_15 u_st_X6_cutLength u_in_X6 u_co_X6_cutLength hd_X6_cutLength ⟨Nat.le_of_ble_eq_true rfl, Nat.le_of_ble_eq_true rfl⟩ ⟨rfl, rfl⟩ hK hH hA (cut0 (isC := [0, 1, 7, 4]) rfl rfl rfl) rfl rfl hl.1 (Nat.le_of_ble_eq_true rfl) dX6_weigh_40 ⟨Nat.le_of_ble_eq_true rfl, Nat.le_of_ble_eq_true rfl⟩ (fun H locs hH => ?_)
      refine lv_i2l (v := (Int32.toInt64 q5)) hx hb dX6_weigh_43 rfl ?_
      refine lv_lconst (v := 1) hx hb dX6_weigh_44 (by decide) ?_
      obtain ⟨q6, hqq6, h⟩ := dc_bind h
      refine gc_Vv (ws' := [(a_p0, .inr (8, [.int p0_units, .ref a_p0_population, .ref a_p0_area, .ref a_p0_community, .ref a_p0_outer, .ref a_p0_neighbors, .ref a_p0_lengths, v_p0_cores, .int p0_districts, v_p0_tolerance, v_p0_hasPlan, .ref a_p0_plan])), (a_p1, .inr (4, [.ref a_p1_places, .ref a_p1_sets])), (a_p1_sets, .inl (k 0, 4, .inl p1_sets)), (a_p0_outer, .inl (k 0, 12, .inl p0_outer)), (a_p0_lengths, .inl (k 0, 144, .inl p0_lengths)), (a_p0_area, .inl (k 0, 12, .inl p0_area)), (a_p3, .inr (1, [.long q6.2, .long q6.1])), (a_p1_places, .inl (k 0, 12, .inl p1_places)), (a_p0_community, .inl (k 0, 12, .inl p0_community)), (a_p0_population, .inl (k 0, 12, .inl p0_population))]) (As := [.long (Int32.toInt64 q5), .long (1 : Int64)]) (rest := []) (n := 2) (ci := 1) (cq := (RX1, TX1, 2)) hTs ⟨hx, hb, hml, hown, hts⟩ (mX1_become l Ts hTs D k H.size a_p3 v_p3_bottom v_p3_top (Int32.toInt64 q5) (1 : Int64) q6 hqq6) u_ml_X6_19 u_im_X1_become u_se_X1_become u_in_X1 u_co_X1_become hd_X1_become ⟨Nat.le_of_ble_eq_true rfl, Nat.le_of_ble_eq_true rfl⟩ ⟨rfl, rfl⟩ hK hH hA (cut1 (isC := [6]) rfl rfl rfl rfl rfl) rfl rfl rfl rfl hl.1 (Nat.le_of_ble_eq_true rfl) dX6_weigh_45 ⟨Nat.le_of_ble_eq_true rfl, Nat.le_of_ble_eq_true rfl⟩ (fun H locs hH => ?_)
      refine lv_goto (tgt := 84) hx hb dX6_weigh_48 (by decide) ?_
      have h := Option.some.inj h
      subst h
      exact ge_v hx hb hr hlocks hQ hK hH hAe dX6_weigh_84
    · replace h := dc_neg c4 h
      by_cases c7 : x2 = (2 : Int32)
      · refine lv_tableIn (tgt := 51) hx hb dX6_weigh_1 (by rw [c7]; decide) (by rw [c7]; decide) (by rw [c7]; rfl) (by decide) ?_
        replace h := dc_pos c7 h
        refine lv_aload_n hx hb dX6_weigh_51 rfl (lv_at hl 3 rfl) ?_
        refine lv_aload_n hx hb dX6_weigh_52 rfl (lv_at hl 0 rfl) ?_
        refine lv_aload_n hx hb dX6_weigh_53 rfl (lv_at hl 1 rfl) ?_
        obtain ⟨q8, hqq8, h⟩ := dc_bind h
        refine gc_Si (ws' := [(a_p0, .inr (8, [.int p0_units, .ref a_p0_population, .ref a_p0_area, .ref a_p0_community, .ref a_p0_outer, .ref a_p0_neighbors, .ref a_p0_lengths, v_p0_cores, .int p0_districts, v_p0_tolerance, v_p0_hasPlan, .ref a_p0_plan])), (a_p1, .inr (4, [.ref a_p1_places, .ref a_p1_sets])), (a_p1_sets, .inl (k 0, 4, .inl p1_sets)), (a_p0_outer, .inl (k 0, 12, .inl p0_outer)), (a_p0_lengths, .inl (k 0, 144, .inl p0_lengths)), (a_p0_area, .inl (k 0, 12, .inl p0_area)), (a_p3, .inr (1, [v_p3_top, v_p3_bottom])), (a_p1_places, .inl (k 0, 12, .inl p1_places)), (a_p0_community, .inl (k 0, 12, .inl p0_community)), (a_p0_population, .inl (k 0, 12, .inl p0_population))]) (As := [.ref a_p0, .ref a_p1]) (rest := [.ref a_p3]) (n := 2) hTs ⟨hx, hb, hml, hown, hts⟩ (mX6_countSplitCommunities l Ts hTs D k H.size a_p0 a_p1 a_p0_population a_p0_area a_p0_community a_p0_outer a_p0_neighbors a_p0_lengths a_p0_plan a_p1_places a_p1_sets p0_community p0_units p1_sets v_p0_cores (.int p0_districts) v_p0_hasPlan v_p0_tolerance q8 hqq8) u_ml_X6_25 u_st_X6_countSplitCommunities u_in_X6 u_co_X6_countSplitCommunities hd_X6_countSplitCommunities ⟨Nat.le_of_ble_eq_true rfl, Nat.le_of_ble_eq_true rfl⟩ ⟨rfl, rfl⟩ hK hH hA (cut0 (isC := [0, 8, 1, 2]) rfl rfl rfl) rfl rfl hl.1 (Nat.le_of_ble_eq_true rfl) dX6_weigh_54 ⟨Nat.le_of_ble_eq_true rfl, Nat.le_of_ble_eq_true rfl⟩ (fun H locs hH => ?_)
        refine lv_i2l (v := (Int32.toInt64 q8)) hx hb dX6_weigh_57 rfl ?_
        refine lv_lconst (v := 1) hx hb dX6_weigh_58 (by decide) ?_
        obtain ⟨q9, hqq9, h⟩ := dc_bind h
        refine gc_Vv (ws' := [(a_p0, .inr (8, [.int p0_units, .ref a_p0_population, .ref a_p0_area, .ref a_p0_community, .ref a_p0_outer, .ref a_p0_neighbors, .ref a_p0_lengths, v_p0_cores, .int p0_districts, v_p0_tolerance, v_p0_hasPlan, .ref a_p0_plan])), (a_p1, .inr (4, [.ref a_p1_places, .ref a_p1_sets])), (a_p1_sets, .inl (k 0, 4, .inl p1_sets)), (a_p0_outer, .inl (k 0, 12, .inl p0_outer)), (a_p0_lengths, .inl (k 0, 144, .inl p0_lengths)), (a_p0_area, .inl (k 0, 12, .inl p0_area)), (a_p3, .inr (1, [.long q9.2, .long q9.1])), (a_p1_places, .inl (k 0, 12, .inl p1_places)), (a_p0_community, .inl (k 0, 12, .inl p0_community)), (a_p0_population, .inl (k 0, 12, .inl p0_population))]) (As := [.long (Int32.toInt64 q8), .long (1 : Int64)]) (rest := []) (n := 2) (ci := 1) (cq := (RX1, TX1, 2)) hTs ⟨hx, hb, hml, hown, hts⟩ (mX1_become l Ts hTs D k H.size a_p3 v_p3_bottom v_p3_top (Int32.toInt64 q8) (1 : Int64) q9 hqq9) u_ml_X6_19 u_im_X1_become u_se_X1_become u_in_X1 u_co_X1_become hd_X1_become ⟨Nat.le_of_ble_eq_true rfl, Nat.le_of_ble_eq_true rfl⟩ ⟨rfl, rfl⟩ hK hH hA (cut1 (isC := [6]) rfl rfl rfl rfl rfl) rfl rfl rfl rfl hl.1 (Nat.le_of_ble_eq_true rfl) dX6_weigh_59 ⟨Nat.le_of_ble_eq_true rfl, Nat.le_of_ble_eq_true rfl⟩ (fun H locs hH => ?_)
        refine lv_goto (tgt := 84) hx hb dX6_weigh_62 (by decide) ?_
        have h := Option.some.inj h
        subst h
        exact ge_v hx hb hr hlocks hQ hK hH hAe dX6_weigh_84
      · replace h := dc_neg c7 h
        refine lv_tableOut (tgt := 65) hx hb dX6_weigh_1 (sw_out (fun j h1 h2 e => ?_)) (by decide) ?_
        · rcases (show j = 0 ∨ j = 1 ∨ j = 2 by omega) with rfl | rfl | rfl
          · exact c2 (sw_eq (0 : Int32) e (by decide))
          · exact c4 (sw_eq (1 : Int32) e (by decide))
          · exact c7 (sw_eq (2 : Int32) e (by decide))
        · refine lv_aload_n hx hb dX6_weigh_65 rfl (lv_at hl 3 rfl) ?_
          refine lv_aload_n hx hb dX6_weigh_66 rfl (lv_at hl 0 rfl) ?_
          refine lv_aload_n hx hb dX6_weigh_67 rfl (lv_at hl 1 rfl) ?_
          obtain ⟨q10, hqq10, h⟩ := dc_bind h
          refine gc_Si (ws' := [(a_p0, .inr (8, [.int p0_units, .ref a_p0_population, .ref a_p0_area, .ref a_p0_community, .ref a_p0_outer, .ref a_p0_neighbors, .ref a_p0_lengths, v_p0_cores, .int p0_districts, v_p0_tolerance, v_p0_hasPlan, .ref a_p0_plan])), (a_p1, .inr (4, [.ref a_p1_places, .ref a_p1_sets])), (a_p1_sets, .inl (k 0, 4, .inl p1_sets)), (a_p0_outer, .inl (k 0, 12, .inl p0_outer)), (a_p0_lengths, .inl (k 0, 144, .inl p0_lengths)), (a_p0_area, .inl (k 0, 12, .inl p0_area)), (a_p3, .inr (1, [v_p3_top, v_p3_bottom])), (a_p1_places, .inl (k 0, 12, .inl p1_places)), (a_p0_community, .inl (k 0, 12, .inl p0_community)), (a_p0_population, .inl (k 0, 12, .inl p0_population))]) (As := [.ref a_p0, .ref a_p1]) (rest := [.ref a_p3]) (n := 2) hTs ⟨hx, hb, hml, hown, hts⟩ (mX6_greatestImbalance l Ts hTs D k H.size a_p0 a_p1 a_p0_population a_p0_area a_p0_community a_p0_outer a_p0_neighbors a_p0_lengths a_p0_plan a_p1_places a_p1_sets p0_districts p0_population p0_units p1_sets v_p0_cores v_p0_hasPlan v_p0_tolerance q10 hqq10) u_ml_X6_28 u_st_X6_greatestImbalance u_in_X6 u_co_X6_greatestImbalance hd_X6_greatestImbalance ⟨Nat.le_of_ble_eq_true rfl, Nat.le_of_ble_eq_true rfl⟩ ⟨rfl, rfl⟩ hK hH hA (cut0 (isC := [0, 1, 2, 9]) rfl rfl rfl) rfl rfl hl.1 (Nat.le_of_ble_eq_true rfl) dX6_weigh_68 ⟨Nat.le_of_ble_eq_true rfl, Nat.le_of_ble_eq_true rfl⟩ (fun H locs hH => ?_)
          refine lv_i2l (v := (Int32.toInt64 q10)) hx hb dX6_weigh_71 rfl ?_
          refine lv_aload_n hx hb dX6_weigh_72 rfl (lv_at hl 0 rfl) ?_
          refine lv_aload_n hx hb dX6_weigh_73 rfl (lv_at hl 0 rfl) ?_
          obtain ⟨q11, hqq11, h⟩ := dc_bind h
          refine gc_Vi (ws' := [(a_p0, .inr (8, [.int p0_units, .ref a_p0_population, .ref a_p0_area, .ref a_p0_community, .ref a_p0_outer, .ref a_p0_neighbors, .ref a_p0_lengths, v_p0_cores, .int p0_districts, v_p0_tolerance, v_p0_hasPlan, .ref a_p0_plan])), (a_p1, .inr (4, [.ref a_p1_places, .ref a_p1_sets])), (a_p1_sets, .inl (k 0, 4, .inl p1_sets)), (a_p0_outer, .inl (k 0, 12, .inl p0_outer)), (a_p0_lengths, .inl (k 0, 144, .inl p0_lengths)), (a_p0_area, .inl (k 0, 12, .inl p0_area)), (a_p3, .inr (1, [v_p3_top, v_p3_bottom])), (a_p1_places, .inl (k 0, 12, .inl p1_places)), (a_p0_community, .inl (k 0, 12, .inl p0_community)), (a_p0_population, .inl (k 0, 12, .inl p0_population))]) (As := []) (rest := [.ref a_p0, .long (Int32.toInt64 q10), .ref a_p3]) (n := 0) (ci := 8) (cq := (RX9, TX9, 12)) hTs ⟨hx, hb, hml, hown, hts⟩ (mX9_allUnits l Ts hTs D k H.size a_p0 a_p0_population a_p0_area a_p0_community a_p0_outer a_p0_neighbors a_p0_lengths a_p0_plan p0_units v_p0_cores (.int p0_districts) v_p0_hasPlan v_p0_tolerance q11 hqq11) u_ml_X6_31 u_im_X9_allUnits u_se_X9_allUnits u_in_X9 u_co_X9_allUnits hd_X9_allUnits ⟨Nat.le_of_ble_eq_true rfl, Nat.le_of_ble_eq_true rfl⟩ ⟨rfl, rfl⟩ hK hH hA (cut0 (isC := [0]) rfl rfl rfl) rfl rfl rfl rfl hl.1 (Nat.le_of_ble_eq_true rfl) dX6_weigh_74 ⟨Nat.le_of_ble_eq_true rfl, Nat.le_of_ble_eq_true rfl⟩ (fun H locs hH => ?_)
          obtain ⟨q12, hqq12, h⟩ := dc_bind h
          refine gc_Vi (ws' := [(a_p0, .inr (8, [.int p0_units, .ref a_p0_population, .ref a_p0_area, .ref a_p0_community, .ref a_p0_outer, .ref a_p0_neighbors, .ref a_p0_lengths, v_p0_cores, .int p0_districts, v_p0_tolerance, v_p0_hasPlan, .ref a_p0_plan])), (a_p1, .inr (4, [.ref a_p1_places, .ref a_p1_sets])), (a_p1_sets, .inl (k 0, 4, .inl p1_sets)), (a_p0_outer, .inl (k 0, 12, .inl p0_outer)), (a_p0_lengths, .inl (k 0, 144, .inl p0_lengths)), (a_p0_area, .inl (k 0, 12, .inl p0_area)), (a_p3, .inr (1, [v_p3_top, v_p3_bottom])), (a_p1_places, .inl (k 0, 12, .inl p1_places)), (a_p0_community, .inl (k 0, 12, .inl p0_community)), (a_p0_population, .inl (k 0, 12, .inl p0_population))]) (As := [.int q11]) (rest := [.long (Int32.toInt64 q10), .ref a_p3]) (n := 1) (ci := 8) (cq := (RX9, TX9, 12)) hTs ⟨hx, hb, hml, hown, hts⟩ (mX9_populationOf l Ts hTs D k H.size a_p0 a_p0_population a_p0_area a_p0_community a_p0_outer a_p0_neighbors a_p0_lengths a_p0_plan p0_population p0_units v_p0_cores (.int p0_districts) v_p0_hasPlan v_p0_tolerance q11 q12 hqq12) u_ml_X6_37 u_im_X9_populationOf u_se_X9_populationOf u_in_X9 u_co_X9_populationOf hd_X9_populationOf ⟨Nat.le_of_ble_eq_true rfl, Nat.le_of_ble_eq_true rfl⟩ ⟨rfl, rfl⟩ hK hH hA (cut0 (isC := [0, 9]) rfl rfl rfl) rfl rfl rfl rfl hl.1 (Nat.le_of_ble_eq_true rfl) dX6_weigh_77 ⟨Nat.le_of_ble_eq_true rfl, Nat.le_of_ble_eq_true rfl⟩ (fun H locs hH => ?_)
          refine lv_i2l (v := (Int32.toInt64 q12)) hx hb dX6_weigh_80 rfl ?_
          obtain ⟨q13, hqq13, h⟩ := dc_bind h
          refine gc_Vv (ws' := [(a_p0, .inr (8, [.int p0_units, .ref a_p0_population, .ref a_p0_area, .ref a_p0_community, .ref a_p0_outer, .ref a_p0_neighbors, .ref a_p0_lengths, v_p0_cores, .int p0_districts, v_p0_tolerance, v_p0_hasPlan, .ref a_p0_plan])), (a_p1, .inr (4, [.ref a_p1_places, .ref a_p1_sets])), (a_p1_sets, .inl (k 0, 4, .inl p1_sets)), (a_p0_outer, .inl (k 0, 12, .inl p0_outer)), (a_p0_lengths, .inl (k 0, 144, .inl p0_lengths)), (a_p0_area, .inl (k 0, 12, .inl p0_area)), (a_p3, .inr (1, [.long q13.2, .long q13.1])), (a_p1_places, .inl (k 0, 12, .inl p1_places)), (a_p0_community, .inl (k 0, 12, .inl p0_community)), (a_p0_population, .inl (k 0, 12, .inl p0_population))]) (As := [.long (Int32.toInt64 q10), .long (Int32.toInt64 q12)]) (rest := []) (n := 2) (ci := 1) (cq := (RX1, TX1, 2)) hTs ⟨hx, hb, hml, hown, hts⟩ (mX1_become l Ts hTs D k H.size a_p3 v_p3_bottom v_p3_top (Int32.toInt64 q10) (Int32.toInt64 q12) q13 hqq13) u_ml_X6_19 u_im_X1_become u_se_X1_become u_in_X1 u_co_X1_become hd_X1_become ⟨Nat.le_of_ble_eq_true rfl, Nat.le_of_ble_eq_true rfl⟩ ⟨rfl, rfl⟩ hK hH hA (cut1 (isC := [6]) rfl rfl rfl rfl rfl) rfl rfl rfl rfl hl.1 (Nat.le_of_ble_eq_true rfl) dX6_weigh_81 ⟨Nat.le_of_ble_eq_true rfl, Nat.le_of_ble_eq_true rfl⟩ (fun H locs hH => ?_)
          have h := Option.some.inj h
          subst h
          exact ge_v hx hb hr hlocks hQ hK hH hAe dX6_weigh_84
theorem hd_J13_compare_74951 : yJ13_compare_74951.cls ≠ "java/lang/invoke/MethodHandle" ∧ yJ13_compare_74951.cls ≠ "java/lang/invoke/VarHandle" ∧ (parseMethodDescriptor yJ13_compare_74951.desc).map (fun d => d.parameters.length) = some 2 := by decide +kernel
set_option maxHeartbeats 4000000 in
set_option maxRecDepth 100000 in
theorem mJ13_compare_74951 (l : Launch) (Ts : List Cond) (hTs : ∀ w, w ∈ Ts ↔ w ∈ uT) (D : va_G) (k : Nat → ClassId) (sz : Nat) (x0 : Int64) (x2 : Int64) (r : Int32) (h : fJ13_compare_74951 x0 x2 = some r) : Met l yJ13_compare_74951 (Cond.code yJ13_compare_74951 cJ13_compare_74951 4 (some .int) :: Ts) ({ frames := 0, cells := 0, slots := 0, locals := 0 } : Room) (preM D k [.long x0, .long x2] [] sz) (postI D k r [] [] sz) 0 0 (va_A [] sz) := by
  refine Met.ofW (cc := cJ13_compare_74951) (maxL := 4) (ret := (some .int)) (by decide) rfl ?_
  intro p e s m args below meth c s₁ B hml hv
  obtain ⟨rfl, hsz, hP, hK, hD0⟩ := hv
  have hx := B.exec
  have hb := B.bytes
  have hr := B.returns
  have hts0 := atoms_spec (ws := (Cond.code yJ13_compare_74951 cJ13_compare_74951 4 (some .int) :: Ts)) B.pre
  have hts : ∀ w ∈ uT, w.before _ s = true := fun w h => hts0 w (List.mem_cons_of_mem _ ((hTs w).mpr h))
  clear hts0
  have hown : s.vm.findClass RJ13 = some m.cls := findClass_of_methodNamed B.named
  have hlocks := B.notSynchronized
  subst hsz
  have hD := hD0.self (sz := s.heap.size)
  generalize hAe : va_A [] s.heap.size = A at hD ⊢
  have hA : ∀ q : Nat, s.heap.size ≤ q → A q := fun q h => by rw [← hAe]; exact Or.inr h
  have hH : HOK D A s.heap [] s.heap [] := ⟨hP, hD, va_S.rf⟩
  have hl := lv_entry ([.long x0, .long x2]) (n := 4) (Nat.le_of_ble_eq_true rfl)
  rw [lg_entry_eq]
  generalize (lg_sl ([.long x0, .long x2]) ++ List.replicate (4 - (lg_sl ([.long x0, .long x2])).length) Slot.unset).toArray = ls at hl ⊢
  have hl : lv_has ls 4 [(0, .long x0), (2, .long x2)] := hl
  generalize hQ : MQ below (postI D k r [] [] s.heap.size) (List.toArray [.long x0, .long x2]) s 0 0 A = Q
  clear hP hD hD0
  suffices K : ∀ (H : Heap) (locs : List Loc), HOK D A s.heap [] H locs → W p l e ({ frames := 0, cells := 0, slots := 0, locals := 0 } : Room) s m (List.toArray [.long x0, .long x2]) below meth c H locs 0 0 Q (F0 m 0 ls []) from K s.heap [] hH
  intro H locs hH
  rw [fJ13_compare_74951] at h
  refine lv_lload_n hx hb dJ13_compare_74951_0 rfl (lv_at hl 0 rfl) ?_
  refine lv_lload_n hx hb dJ13_compare_74951_1 rfl (lv_at hl 1 rfl) ?_
  refine W.lcmp hx hb dJ13_compare_74951_2 ?_
  refine lv_if_ge (tgt := 10) hx hb dJ13_compare_74951_3 (by decide) (fun c1 => ?_) (fun c1 => ?_)
  · replace h := dc_pos c1 h
    refine lv_lload_n hx hb dJ13_compare_74951_10 rfl (lv_at hl 0 rfl) ?_
    refine lv_lload_n hx hb dJ13_compare_74951_11 rfl (lv_at hl 1 rfl) ?_
    refine W.lcmp hx hb dJ13_compare_74951_12 ?_
    refine lv_if_ne (tgt := 20) hx hb dJ13_compare_74951_13 (by decide) (fun c2 => ?_) (fun c2 => ?_)
    · replace h := dc_neg c2 h
      refine lv_iconst (v := 1) hx hb dJ13_compare_74951_20 (by decide) ?_
      have h := Option.some.inj h
      subst h
      exact ge_i hx hb hr hlocks hQ hK hH hAe rfl dJ13_compare_74951_21
    · replace h := dc_pos c2 h
      refine lv_iconst (v := 0) hx hb dJ13_compare_74951_16 (by decide) ?_
      refine lv_goto (tgt := 21) hx hb dJ13_compare_74951_17 (by decide) ?_
      have h := Option.some.inj h
      subst h
      exact ge_i hx hb hr hlocks hQ hK hH hAe rfl dJ13_compare_74951_21
  · replace h := dc_neg c1 h
    refine lv_iconst (v := -1) hx hb dJ13_compare_74951_6 (by decide) ?_
    refine lv_goto (tgt := 21) hx hb dJ13_compare_74951_7 (by decide) ?_
    have h := Option.some.inj h
    subst h
    exact ge_i hx hb hr hlocks hQ hK hH hAe rfl dJ13_compare_74951_21
theorem hd_X1_compareWith : yX1_compareWith.cls = RX1 ∧ yX1_compareWith.cls ≠ "java/lang/invoke/MethodHandle" ∧ yX1_compareWith.cls ≠ "java/lang/invoke/VarHandle" ∧ (parseMethodDescriptor yX1_compareWith.desc).map (fun d => d.parameters.length) = some 1 := by decide +kernel
set_option maxHeartbeats 4000000 in
set_option maxRecDepth 100000 in
theorem mX1_compareWith (l : Launch) (Ts : List Cond) (hTs : ∀ w, w ∈ Ts ↔ w ∈ uT) (D : va_G) (k : Nat → ClassId) (sz : Nat) (a_p1 : Nat) (a_t : Nat) (p1_bottom : Int64) (p1_top : Int64) (t_bottom : Int64) (t_top : Int64) (r : Int32) (h : fX1_compareWith p1_bottom p1_top t_bottom t_top = some r) : Met l yX1_compareWith (Cond.code yX1_compareWith cX1_compareWith 2 (some .int) :: Ts) ({ frames := 1, cells := 0, slots := 0, locals := 23 } : Room) (preM D k [.ref a_t, .ref a_p1] [(a_t, .inr (1, [.long t_top, .long t_bottom])), (a_p1, .inr (1, [.long p1_top, .long p1_bottom]))] sz) (postI D k r [(a_t, .inr (1, [.long t_top, .long t_bottom])), (a_p1, .inr (1, [.long p1_top, .long p1_bottom]))] [(a_t, .inr (1, [.long t_top, .long t_bottom])), (a_p1, .inr (1, [.long p1_top, .long p1_bottom]))] sz) 0 0 (va_A [(a_t, .inr (1, [.long t_top, .long t_bottom])), (a_p1, .inr (1, [.long p1_top, .long p1_bottom]))] sz) := by
  refine Met.ofW (cc := cX1_compareWith) (maxL := 2) (ret := (some .int)) (by decide) rfl ?_
  intro p e s m args below meth c s₁ B hml hv
  obtain ⟨rfl, hsz, hP, hK, hD0⟩ := hv
  have hx := B.exec
  have hb := B.bytes
  have hr := B.returns
  have hts0 := atoms_spec (ws := (Cond.code yX1_compareWith cX1_compareWith 2 (some .int) :: Ts)) B.pre
  have hts : ∀ w ∈ uT, w.before _ s = true := fun w h => hts0 w (List.mem_cons_of_mem _ ((hTs w).mpr h))
  clear hts0
  have hown : s.vm.findClass RX1 = some m.cls := findClass_of_methodNamed B.named
  have hlocks := B.notSynchronized
  subst hsz
  have hD := hD0.self (sz := s.heap.size)
  generalize hAe : va_A [(a_t, .inr (1, [.long t_top, .long t_bottom])), (a_p1, .inr (1, [.long p1_top, .long p1_bottom]))] s.heap.size = A at hD ⊢
  have hA : ∀ q : Nat, s.heap.size ≤ q → A q := fun q h => by rw [← hAe]; exact Or.inr h
  have hH : HOK D A s.heap [(a_t, .inr (1, [.long t_top, .long t_bottom])), (a_p1, .inr (1, [.long p1_top, .long p1_bottom]))] s.heap [] := ⟨hP, hD, va_S.rf⟩
  have hl := lv_entry ([.ref a_t, .ref a_p1]) (n := 2) (Nat.le_of_ble_eq_true rfl)
  rw [lg_entry_eq]
  generalize (lg_sl ([.ref a_t, .ref a_p1]) ++ List.replicate (2 - (lg_sl ([.ref a_t, .ref a_p1])).length) Slot.unset).toArray = ls at hl ⊢
  have hl : lv_has ls 2 [(0, .ref a_t), (1, .ref a_p1)] := hl
  generalize hQ : MQ below (postI D k r [(a_t, .inr (1, [.long t_top, .long t_bottom])), (a_p1, .inr (1, [.long p1_top, .long p1_bottom]))] [(a_t, .inr (1, [.long t_top, .long t_bottom])), (a_p1, .inr (1, [.long p1_top, .long p1_bottom]))] s.heap.size) (List.toArray [.ref a_t, .ref a_p1]) s 0 0 A = Q
  clear hP hD hD0
  suffices K : ∀ (H : Heap) (locs : List Loc), HOK D A s.heap [(a_t, .inr (1, [.long t_top, .long t_bottom])), (a_p1, .inr (1, [.long p1_top, .long p1_bottom]))] H locs → W p l e ({ frames := 1, cells := 0, slots := 0, locals := 23 } : Room) s m (List.toArray [.ref a_t, .ref a_p1]) below meth c H locs 0 0 Q (F0 m 0 ls []) from K s.heap [] hH
  intro H locs hH
  rw [fX1_compareWith] at h
  refine lv_aload_n hx hb dX1_compareWith_0 rfl (lv_at hl 0 rfl) ?_
  refine gk_get (ci := 1) (C := RX1) (T := TX1) (N := 2) hx hb hts u_ws_X1 hown hK hH 0 rfl rfl 0 (by decide) u_fl_X1_7 rfl dX1_compareWith_1 ?_
  refine lv_aload_n hx hb dX1_compareWith_4 rfl (lv_at hl 1 rfl) ?_
  refine gk_get (ci := 1) (C := RX1) (T := TX1) (N := 2) hx hb hts u_ws_X1 hown hK hH 1 rfl rfl 1 (by decide) u_fl_X1_13 rfl dX1_compareWith_5 ?_
  refine lv_lmul hx hb dX1_compareWith_8 ?_
  refine lv_aload_n hx hb dX1_compareWith_9 rfl (lv_at hl 1 rfl) ?_
  refine gk_get (ci := 1) (C := RX1) (T := TX1) (N := 2) hx hb hts u_ws_X1 hown hK hH 1 rfl rfl 0 (by decide) u_fl_X1_7 rfl dX1_compareWith_10 ?_
  refine lv_aload_n hx hb dX1_compareWith_13 rfl (lv_at hl 0 rfl) ?_
  refine gk_get (ci := 1) (C := RX1) (T := TX1) (N := 2) hx hb hts u_ws_X1 hown hK hH 0 rfl rfl 1 (by decide) u_fl_X1_13 rfl dX1_compareWith_14 ?_
  refine lv_lmul hx hb dX1_compareWith_17 ?_
  obtain ⟨q1, hqq1, h⟩ := dc_bind h
  refine gc_Si (ws' := [(a_t, .inr (1, [.long t_top, .long t_bottom])), (a_p1, .inr (1, [.long p1_top, .long p1_bottom]))]) (As := [.long (t_top * p1_bottom), .long (p1_top * t_bottom)]) (rest := []) (n := 2) hTs ⟨hx, hb, hml, hown, hts⟩ (mJ13_compare_74951 l Ts hTs D k H.size (t_top * p1_bottom) (p1_top * t_bottom) q1 hqq1) u_ml_X1_20 u_st_J13_compare_74951 u_in_J13 u_co_J13_compare_74951 hd_J13_compare_74951 ⟨Nat.le_of_ble_eq_true rfl, Nat.le_of_ble_eq_true rfl⟩ ⟨rfl, rfl⟩ hK hH hA (cut0 (isC := []) rfl rfl rfl) rfl rfl hl.1 (Nat.le_of_ble_eq_true rfl) dX1_compareWith_18 ⟨Nat.le_of_ble_eq_true rfl, Nat.le_of_ble_eq_true rfl⟩ (fun H locs hH => ?_)
  have h := Option.some.inj h
  subst h
  exact ge_i hx hb hr hlocks hQ hK hH hAe rfl dX1_compareWith_21
theorem hd_X6_isBetter : yX6_isBetter.cls ≠ "java/lang/invoke/MethodHandle" ∧ yX6_isBetter.cls ≠ "java/lang/invoke/VarHandle" ∧ (parseMethodDescriptor yX6_isBetter.desc).map (fun d => d.parameters.length) = some 3 := by decide +kernel
set_option maxHeartbeats 4000000 in
set_option maxRecDepth 100000 in
theorem mX6_isBetter (l : Launch) (Ts : List Cond) (hTs : ∀ w, w ∈ Ts ↔ w ∈ uT) (D : va_G) (k : Nat → ClassId) (sz : Nat) (a_p1 : Nat) (a_p2 : Nat) (p1_bottom : Int64) (p1_top : Int64) (p2_bottom : Int64) (p2_top : Int64) (x0 : Int32) (r : Int32) (h : fX6_isBetter p1_bottom p1_top p2_bottom p2_top x0 = some r) : Met l yX6_isBetter (Cond.code yX6_isBetter cX6_isBetter 4 (some .boolean) :: Ts) ({ frames := 2, cells := 0, slots := 0, locals := 44 } : Room) (preM D k [.int x0, .ref a_p1, .ref a_p2] [(a_p1, .inr (1, [.long p1_top, .long p1_bottom])), (a_p2, .inr (1, [.long p2_top, .long p2_bottom]))] sz) (postI D k r [(a_p1, .inr (1, [.long p1_top, .long p1_bottom])), (a_p2, .inr (1, [.long p2_top, .long p2_bottom]))] [(a_p1, .inr (1, [.long p1_top, .long p1_bottom])), (a_p2, .inr (1, [.long p2_top, .long p2_bottom]))] sz) 0 0 (va_A [(a_p1, .inr (1, [.long p1_top, .long p1_bottom])), (a_p2, .inr (1, [.long p2_top, .long p2_bottom]))] sz) := by
  refine Met.ofW (cc := cX6_isBetter) (maxL := 4) (ret := (some .boolean)) (by decide) rfl ?_
  intro p e s m args below meth c s₁ B hml hv
  obtain ⟨rfl, hsz, hP, hK, hD0⟩ := hv
  have hx := B.exec
  have hb := B.bytes
  have hr := B.returns
  have hts0 := atoms_spec (ws := (Cond.code yX6_isBetter cX6_isBetter 4 (some .boolean) :: Ts)) B.pre
  have hts : ∀ w ∈ uT, w.before _ s = true := fun w h => hts0 w (List.mem_cons_of_mem _ ((hTs w).mpr h))
  clear hts0
  have hown : s.vm.findClass RX6 = some m.cls := findClass_of_methodNamed B.named
  have hlocks := B.notSynchronized
  subst hsz
  have hD := hD0.self (sz := s.heap.size)
  generalize hAe : va_A [(a_p1, .inr (1, [.long p1_top, .long p1_bottom])), (a_p2, .inr (1, [.long p2_top, .long p2_bottom]))] s.heap.size = A at hD ⊢
  have hA : ∀ q : Nat, s.heap.size ≤ q → A q := fun q h => by rw [← hAe]; exact Or.inr h
  have hH : HOK D A s.heap [(a_p1, .inr (1, [.long p1_top, .long p1_bottom])), (a_p2, .inr (1, [.long p2_top, .long p2_bottom]))] s.heap [] := ⟨hP, hD, va_S.rf⟩
  have hl := lv_entry ([.int x0, .ref a_p1, .ref a_p2]) (n := 4) (Nat.le_of_ble_eq_true rfl)
  rw [lg_entry_eq]
  generalize (lg_sl ([.int x0, .ref a_p1, .ref a_p2]) ++ List.replicate (4 - (lg_sl ([.int x0, .ref a_p1, .ref a_p2])).length) Slot.unset).toArray = ls at hl ⊢
  have hl : lv_has ls 4 [(0, .int x0), (1, .ref a_p1), (2, .ref a_p2)] := hl
  generalize hQ : MQ below (postI D k r [(a_p1, .inr (1, [.long p1_top, .long p1_bottom])), (a_p2, .inr (1, [.long p2_top, .long p2_bottom]))] [(a_p1, .inr (1, [.long p1_top, .long p1_bottom])), (a_p2, .inr (1, [.long p2_top, .long p2_bottom]))] s.heap.size) (List.toArray [.int x0, .ref a_p1, .ref a_p2]) s 0 0 A = Q
  clear hP hD hD0
  suffices K : ∀ (H : Heap) (locs : List Loc), HOK D A s.heap [(a_p1, .inr (1, [.long p1_top, .long p1_bottom])), (a_p2, .inr (1, [.long p2_top, .long p2_bottom]))] H locs → W p l e ({ frames := 2, cells := 0, slots := 0, locals := 44 } : Room) s m (List.toArray [.int x0, .ref a_p1, .ref a_p2]) below meth c H locs 0 0 Q (F0 m 0 ls []) from K s.heap [] hH
  intro H locs hH
  rw [fX6_isBetter] at h
  refine lv_aload_n hx hb dX6_isBetter_0 rfl (lv_at hl 1 rfl) ?_
  refine lv_aload_n hx hb dX6_isBetter_1 rfl (lv_at hl 2 rfl) ?_
  obtain ⟨q1, hqq1, h⟩ := dc_bind h
  refine gc_Vi (ws' := [(a_p1, .inr (1, [.long p1_top, .long p1_bottom])), (a_p2, .inr (1, [.long p2_top, .long p2_bottom]))]) (As := [.ref a_p2]) (rest := []) (n := 1) (ci := 1) (cq := (RX1, TX1, 2)) hTs ⟨hx, hb, hml, hown, hts⟩ (mX1_compareWith l Ts hTs D k H.size a_p2 a_p1 p2_bottom p2_top p1_bottom p1_top q1 hqq1) u_ml_X6_41 u_im_X1_compareWith u_se_X1_compareWith u_in_X1 u_co_X1_compareWith hd_X1_compareWith ⟨Nat.le_of_ble_eq_true rfl, Nat.le_of_ble_eq_true rfl⟩ ⟨rfl, rfl⟩ hK hH hA (cut0 (isC := [0, 1]) rfl rfl rfl) rfl rfl rfl rfl hl.1 (Nat.le_of_ble_eq_true rfl) dX6_isBetter_2 ⟨Nat.le_of_ble_eq_true rfl, Nat.le_of_ble_eq_true rfl⟩ (fun H locs hH => ?_)
  refine lv_istore_n (lv' := [(3, .int q1), (0, .int x0), (1, .ref a_p1), (2, .ref a_p2)]) hx hb dX6_isBetter_5 rfl hl (by decide) rfl (fun ls hl => ?_)
  refine lv_iload_n hx hb dX6_isBetter_6 rfl (lv_at hl 1 rfl) ?_
  refine lv_if_ne (tgt := 22) hx hb dX6_isBetter_7 (by decide) (fun c2 => ?_) (fun c2 => ?_)
  · replace h := dc_neg c2 h
    refine lv_iload_n hx hb dX6_isBetter_22 rfl (lv_at hl 0 rfl) ?_
    refine lv_if_ge (tgt := 30) hx hb dX6_isBetter_23 (by decide) (fun c4 => ?_) (fun c4 => ?_)
    · replace h := dc_pos c4 h
      refine lv_iconst (v := 0) hx hb dX6_isBetter_30 (by decide) ?_
      have h := Option.some.inj h
      subst h
      exact ge_z hx hb hr rfl hlocks hQ hK hH hAe rfl dX6_isBetter_31
    · replace h := dc_neg c4 h
      refine lv_iconst (v := 1) hx hb dX6_isBetter_26 (by decide) ?_
      refine lv_goto (tgt := 31) hx hb dX6_isBetter_27 (by decide) ?_
      have h := Option.some.inj h
      subst h
      exact ge_z hx hb hr rfl hlocks hQ hK hH hAe rfl dX6_isBetter_31
  · replace h := dc_pos c2 h
    refine lv_iload_n hx hb dX6_isBetter_10 rfl (lv_at hl 0 rfl) ?_
    refine lv_if_le (tgt := 18) hx hb dX6_isBetter_11 (by decide) (fun c3 => ?_) (fun c3 => ?_)
    · replace h := dc_pos c3 h
      refine lv_iconst (v := 0) hx hb dX6_isBetter_18 (by decide) ?_
      refine lv_goto (tgt := 31) hx hb dX6_isBetter_19 (by decide) ?_
      have h := Option.some.inj h
      subst h
      exact ge_z hx hb hr rfl hlocks hQ hK hH hAe rfl dX6_isBetter_31
    · replace h := dc_neg c3 h
      refine lv_iconst (v := 1) hx hb dX6_isBetter_14 (by decide) ?_
      refine lv_goto (tgt := 31) hx hb dX6_isBetter_15 (by decide) ?_
      have h := Option.some.inj h
      subst h
      exact ge_z hx hb hr rfl hlocks hQ hK hH hAe rfl dX6_isBetter_31
theorem hd_X1_copyFrom : yX1_copyFrom.cls = RX1 ∧ yX1_copyFrom.cls ≠ "java/lang/invoke/MethodHandle" ∧ yX1_copyFrom.cls ≠ "java/lang/invoke/VarHandle" ∧ (parseMethodDescriptor yX1_copyFrom.desc).map (fun d => d.parameters.length) = some 1 := by decide +kernel
set_option maxHeartbeats 4000000 in
set_option maxRecDepth 100000 in
theorem mX1_copyFrom (l : Launch) (Ts : List Cond) (hTs : ∀ w, w ∈ Ts ↔ w ∈ uT) (D : va_G) (k : Nat → ClassId) (sz : Nat) (a_p1 : Nat) (a_t : Nat) (p1_bottom : Int64) (p1_top : Int64) (v_t_bottom : Value) (v_t_top : Value) (r : Int64 × Int64) (h : fX1_copyFrom p1_bottom p1_top = some r) : Met l yX1_copyFrom (Cond.code yX1_copyFrom cX1_copyFrom 2 none :: Ts) ({ frames := 0, cells := 0, slots := 0, locals := 0 } : Room) (preM D k [.ref a_t, .ref a_p1] [(a_t, .inr (1, [v_t_top, v_t_bottom])), (a_p1, .inr (1, [.long p1_top, .long p1_bottom]))] sz) (postV D k [(a_t, .inr (1, [v_t_top, v_t_bottom])), (a_p1, .inr (1, [.long p1_top, .long p1_bottom]))] [(a_t, .inr (1, [.long r.2, .long r.1])), (a_p1, .inr (1, [.long p1_top, .long p1_bottom]))] sz) 0 0 (va_A [(a_t, .inr (1, [v_t_top, v_t_bottom])), (a_p1, .inr (1, [.long p1_top, .long p1_bottom]))] sz) := by
  refine Met.ofW (cc := cX1_copyFrom) (maxL := 2) (ret := none) (by decide) rfl ?_
  intro p e s m args below meth c s₁ B hml hv
  obtain ⟨rfl, hsz, hP, hK, hD0⟩ := hv
  have hx := B.exec
  have hb := B.bytes
  have hr := B.returns
  have hts0 := atoms_spec (ws := (Cond.code yX1_copyFrom cX1_copyFrom 2 none :: Ts)) B.pre
  have hts : ∀ w ∈ uT, w.before _ s = true := fun w h => hts0 w (List.mem_cons_of_mem _ ((hTs w).mpr h))
  clear hts0
  have hown : s.vm.findClass RX1 = some m.cls := findClass_of_methodNamed B.named
  have hlocks := B.notSynchronized
  subst hsz
  have hD := hD0.self (sz := s.heap.size)
  generalize hAe : va_A [(a_t, .inr (1, [v_t_top, v_t_bottom])), (a_p1, .inr (1, [.long p1_top, .long p1_bottom]))] s.heap.size = A at hD ⊢
  have hA : ∀ q : Nat, s.heap.size ≤ q → A q := fun q h => by rw [← hAe]; exact Or.inr h
  have hH : HOK D A s.heap [(a_t, .inr (1, [v_t_top, v_t_bottom])), (a_p1, .inr (1, [.long p1_top, .long p1_bottom]))] s.heap [] := ⟨hP, hD, va_S.rf⟩
  have hl := lv_entry ([.ref a_t, .ref a_p1]) (n := 2) (Nat.le_of_ble_eq_true rfl)
  rw [lg_entry_eq]
  generalize (lg_sl ([.ref a_t, .ref a_p1]) ++ List.replicate (2 - (lg_sl ([.ref a_t, .ref a_p1])).length) Slot.unset).toArray = ls at hl ⊢
  have hl : lv_has ls 2 [(0, .ref a_t), (1, .ref a_p1)] := hl
  generalize hQ : MQ below (postV D k [(a_t, .inr (1, [v_t_top, v_t_bottom])), (a_p1, .inr (1, [.long p1_top, .long p1_bottom]))] [(a_t, .inr (1, [.long r.2, .long r.1])), (a_p1, .inr (1, [.long p1_top, .long p1_bottom]))] s.heap.size) (List.toArray [.ref a_t, .ref a_p1]) s 0 0 A = Q
  clear hP hD hD0
  suffices K : ∀ (H : Heap) (locs : List Loc), HOK D A s.heap [(a_t, .inr (1, [v_t_top, v_t_bottom])), (a_p1, .inr (1, [.long p1_top, .long p1_bottom]))] H locs → W p l e ({ frames := 0, cells := 0, slots := 0, locals := 0 } : Room) s m (List.toArray [.ref a_t, .ref a_p1]) below meth c H locs 0 0 Q (F0 m 0 ls []) from K s.heap [] hH
  intro H locs hH
  rw [fX1_copyFrom] at h
  refine lv_aload_n hx hb dX1_copyFrom_0 rfl (lv_at hl 0 rfl) ?_
  refine lv_aload_n hx hb dX1_copyFrom_1 rfl (lv_at hl 1 rfl) ?_
  refine gk_get (ci := 1) (C := RX1) (T := TX1) (N := 2) hx hb hts u_ws_X1 hown hK hH 1 rfl rfl 0 (by decide) u_fl_X1_7 rfl dX1_copyFrom_2 ?_
  refine gk_put (ci := 1) (C := RX1) (T := TX1) (N := 2) hx hb hts u_ws_X1 tyX1_ok nmX1 hown hK hH 0 rfl rfl 0 (by decide) u_fl_X1_7 rfl rfl rfl (Nat.le_of_ble_eq_true rfl) dX1_copyFrom_5 [(a_t, .inr (1, [.long p1_top, v_t_bottom])), (a_p1, .inr (1, [.long p1_top, .long p1_bottom]))] rfl (fun H locs hH => ?_)
  refine lv_aload_n hx hb dX1_copyFrom_8 rfl (lv_at hl 0 rfl) ?_
  refine lv_aload_n hx hb dX1_copyFrom_9 rfl (lv_at hl 1 rfl) ?_
  refine gk_get (ci := 1) (C := RX1) (T := TX1) (N := 2) hx hb hts u_ws_X1 hown hK hH 1 rfl rfl 1 (by decide) u_fl_X1_13 rfl dX1_copyFrom_10 ?_
  refine gk_put (ci := 1) (C := RX1) (T := TX1) (N := 2) hx hb hts u_ws_X1 tyX1_ok nmX1 hown hK hH 0 rfl rfl 1 (by decide) u_fl_X1_13 rfl rfl rfl (Nat.le_of_ble_eq_true rfl) dX1_copyFrom_13 [(a_t, .inr (1, [.long p1_top, .long p1_bottom])), (a_p1, .inr (1, [.long p1_top, .long p1_bottom]))] rfl (fun H locs hH => ?_)
  have h := Option.some.inj h
  subst h
  exact ge_v hx hb hr hlocks hQ hK hH hAe dX1_copyFrom_16
