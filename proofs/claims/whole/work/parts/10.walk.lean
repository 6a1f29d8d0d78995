theorem hd_X9_lengthBetween : yX9_lengthBetween.cls = RX9 ∧ yX9_lengthBetween.cls ≠ "java/lang/invoke/MethodHandle" ∧ yX9_lengthBetween.cls ≠ "java/lang/invoke/VarHandle" ∧ (parseMethodDescriptor yX9_lengthBetween.desc).map (fun d => d.parameters.length) = some 2 := by decide +kernel
set_option maxHeartbeats 4000000 in
set_option maxRecDepth 100000 in
theorem mX9_lengthBetween (l : Launch) (Ts : List Cond) (hTs : ∀ w, w ∈ Ts ↔ w ∈ uT) (D : va_G) (k : Nat → ClassId) (sz : Nat) (a_t : Nat) (a_t_population : Nat) (a_t_area : Nat) (a_t_community : Nat) (a_t_outer : Nat) (a_t_neighbors : Nat) (a_t_lengths : Nat) (a_t_plan : Nat) (t_lengths : Nat → Int32) (v_t_cores : Value) (v_t_districts : Value) (v_t_hasPlan : Value) (v_t_tolerance : Value) (v_t_units : Value) (x1 : Int32) (x2 : Int32) (r : Int32) (h : fX9_lengthBetween t_lengths x1 x2 = some r) : Met l yX9_lengthBetween (Cond.code yX9_lengthBetween cX9_lengthBetween 3 (some .int) :: Ts) ({ frames := 0, cells := 0, slots := 0, locals := 0 } : Room) (preM D k [.ref a_t, .int x1, .int x2] [(a_t, .inr (8, [v_t_units, .ref a_t_population, .ref a_t_area, .ref a_t_community, .ref a_t_outer, .ref a_t_neighbors, .ref a_t_lengths, v_t_cores, v_t_districts, v_t_tolerance, v_t_hasPlan, .ref a_t_plan])), (a_t_lengths, .inl (k 0, 144, .inl t_lengths))] sz) (postI D k r [(a_t, .inr (8, [v_t_units, .ref a_t_population, .ref a_t_area, .ref a_t_community, .ref a_t_outer, .ref a_t_neighbors, .ref a_t_lengths, v_t_cores, v_t_districts, v_t_tolerance, v_t_hasPlan, .ref a_t_plan])), (a_t_lengths, .inl (k 0, 144, .inl t_lengths))] [(a_t, .inr (8, [v_t_units, .ref a_t_population, .ref a_t_area, .ref a_t_community, .ref a_t_outer, .ref a_t_neighbors, .ref a_t_lengths, v_t_cores, v_t_districts, v_t_tolerance, v_t_hasPlan, .ref a_t_plan])), (a_t_lengths, .inl (k 0, 144, .inl t_lengths))] sz) 0 0 (va_A [(a_t, .inr (8, [v_t_units, .ref a_t_population, .ref a_t_area, .ref a_t_community, .ref a_t_outer, .ref a_t_neighbors, .ref a_t_lengths, v_t_cores, v_t_districts, v_t_tolerance, v_t_hasPlan, .ref a_t_plan])), (a_t_lengths, .inl (k 0, 144, .inl t_lengths))] sz) := by
  refine Met.ofW (cc := cX9_lengthBetween) (maxL := 3) (ret := (some .int)) (by decide) rfl ?_
  intro p e s m args below meth c s₁ B hml hv
  obtain ⟨rfl, hsz, hP, hK, hD0⟩ := hv
  have hx := B.exec
  have hb := B.bytes
  have hr := B.returns
  have hts0 := atoms_spec (ws := (Cond.code yX9_lengthBetween cX9_lengthBetween 3 (some .int) :: Ts)) B.pre
  have hts : ∀ w ∈ uT, w.before _ s = true := fun w h => hts0 w (List.mem_cons_of_mem _ ((hTs w).mpr h))
  clear hts0
  have hown : s.vm.findClass RX9 = some m.cls := findClass_of_methodNamed B.named
  have hlocks := B.notSynchronized
  subst hsz
  have hD := hD0.self (sz := s.heap.size)
  generalize hAe : va_A [(a_t, .inr (8, [v_t_units, .ref a_t_population, .ref a_t_area, .ref a_t_community, .ref a_t_outer, .ref a_t_neighbors, .ref a_t_lengths, v_t_cores, v_t_districts, v_t_tolerance, v_t_hasPlan, .ref a_t_plan])), (a_t_lengths, .inl (k 0, 144, .inl t_lengths))] s.heap.size = A at hD ⊢
  have hA : ∀ q : Nat, s.heap.size ≤ q → A q := fun q h => by rw [← hAe]; exact Or.inr h
  have hH : HOK D A s.heap [(a_t, .inr (8, [v_t_units, .ref a_t_population, .ref a_t_area, .ref a_t_community, .ref a_t_outer, .ref a_t_neighbors, .ref a_t_lengths, v_t_cores, v_t_districts, v_t_tolerance, v_t_hasPlan, .ref a_t_plan])), (a_t_lengths, .inl (k 0, 144, .inl t_lengths))] s.heap [] := ⟨hP, hD, va_S.rf⟩
  have hl := lv_entry ([.ref a_t, .int x1, .int x2]) (n := 3) (Nat.le_of_ble_eq_true rfl)
  rw [lg_entry_eq]
  generalize (lg_sl ([.ref a_t, .int x1, .int x2]) ++ List.replicate (3 - (lg_sl ([.ref a_t, .int x1, .int x2])).length) Slot.unset).toArray = ls at hl ⊢
  have hl : lv_has ls 3 [(0, .ref a_t), (1, .int x1), (2, .int x2)] := hl
  generalize hQ : MQ below (postI D k r [(a_t, .inr (8, [v_t_units, .ref a_t_population, .ref a_t_area, .ref a_t_community, .ref a_t_outer, .ref a_t_neighbors, .ref a_t_lengths, v_t_cores, v_t_districts, v_t_tolerance, v_t_hasPlan, .ref a_t_plan])), (a_t_lengths, .inl (k 0, 144, .inl t_lengths))] [(a_t, .inr (8, [v_t_units, .ref a_t_population, .ref a_t_area, .ref a_t_community, .ref a_t_outer, .ref a_t_neighbors, .ref a_t_lengths, v_t_cores, v_t_districts, v_t_tolerance, v_t_hasPlan, .ref a_t_plan])), (a_t_lengths, .inl (k 0, 144, .inl t_lengths))] s.heap.size) (List.toArray [.ref a_t, .int x1, .int x2]) s 0 0 A = Q
  clear hP hD hD0
  suffices K : ∀ (H : Heap) (locs : List Loc), HOK D A s.heap [(a_t, .inr (8, [v_t_units, .ref a_t_population, .ref a_t_area, .ref a_t_community, .ref a_t_outer, .ref a_t_neighbors, .ref a_t_lengths, v_t_cores, v_t_districts, v_t_tolerance, v_t_hasPlan, .ref a_t_plan])), (a_t_lengths, .inl (k 0, 144, .inl t_lengths))] H locs → W p l e ({ frames := 0, cells := 0, slots := 0, locals := 0 } : Room) s m (List.toArray [.ref a_t, .int x1, .int x2]) below meth c H locs 0 0 Q (F0 m 0 ls []) from K s.heap [] hH
  intro H locs hH
  rw [fX9_lengthBetween] at h
  refine lv_aload_n hx hb dX9_lengthBetween_0 rfl (lv_at hl 0 rfl) ?_
  refine gk_get (ci := 8) (C := RX9) (T := TX9) (N := 12) hx hb hts u_ws_X9 hown hK hH 0 rfl rfl 6 (by decide) u_fl_X9_31 rfl dX9_lengthBetween_1 ?_
  refine lv_iload_n hx hb dX9_lengthBetween_4 rfl (lv_at hl 1 rfl) ?_
  refine lv_bipush (v := 12) hx hb dX9_lengthBetween_5 (by decide) ?_
  refine lv_imul hx hb dX9_lengthBetween_7 ?_
  refine lv_iload_n hx hb dX9_lengthBetween_8 rfl (lv_at hl 2 rfl) ?_
  refine lv_iadd hx hb dX9_lengthBetween_9 ?_
  obtain ⟨g1, h⟩ := dc_need h
  refine gk_iald hx hb hK hH 1 rfl (dk_in g1) dX9_lengthBetween_10 ?_
  have h := Option.some.inj h
  subst h
  exact ge_i hx hb hr hlocks hQ hK hH hAe rfl dX9_lengthBetween_11
theorem hd_X9_allUnits : yX9_allUnits.cls = RX9 ∧ yX9_allUnits.cls ≠ "java/lang/invoke/MethodHandle" ∧ yX9_allUnits.cls ≠ "java/lang/invoke/VarHandle" ∧ (parseMethodDescriptor yX9_allUnits.desc).map (fun d => d.parameters.length) = some 0 := by decide +kernel
set_option maxHeartbeats 4000000 in
set_option maxRecDepth 100000 in
theorem mX9_allUnits (l : Launch) (Ts : List Cond) (hTs : ∀ w, w ∈ Ts ↔ w ∈ uT) (D : va_G) (k : Nat → ClassId) (sz : Nat) (a_t : Nat) (a_t_population : Nat) (a_t_area : Nat) (a_t_community : Nat) (a_t_outer : Nat) (a_t_neighbors : Nat) (a_t_lengths : Nat) (a_t_plan : Nat) (t_units : Int32) (v_t_cores : Value) (v_t_districts : Value) (v_t_hasPlan : Value) (v_t_tolerance : Value) (r : Int32) (h : fX9_allUnits t_units = some r) : Met l yX9_allUnits (Cond.code yX9_allUnits cX9_allUnits 1 (some .int) :: Ts) ({ frames := 0, cells := 0, slots := 0, locals := 0 } : Room) (preM D k [.ref a_t] [(a_t, .inr (8, [.int t_units, .ref a_t_population, .ref a_t_area, .ref a_t_community, .ref a_t_outer, .ref a_t_neighbors, .ref a_t_lengths, v_t_cores, v_t_districts, v_t_tolerance, v_t_hasPlan, .ref a_t_plan]))] sz) (postI D k r [(a_t, .inr (8, [.int t_units, .ref a_t_population, .ref a_t_area, .ref a_t_community, .ref a_t_outer, .ref a_t_neighbors, .ref a_t_lengths, v_t_cores, v_t_districts, v_t_tolerance, v_t_hasPlan, .ref a_t_plan]))] [(a_t, .inr (8, [.int t_units, .ref a_t_population, .ref a_t_area, .ref a_t_community, .ref a_t_outer, .ref a_t_neighbors, .ref a_t_lengths, v_t_cores, v_t_districts, v_t_tolerance, v_t_hasPlan, .ref a_t_plan]))] sz) 0 0 (va_A [(a_t, .inr (8, [.int t_units, .ref a_t_population, .ref a_t_area, .ref a_t_community, .ref a_t_outer, .ref a_t_neighbors, .ref a_t_lengths, v_t_cores, v_t_districts, v_t_tolerance, v_t_hasPlan, .ref a_t_plan]))] sz) := by
  refine Met.ofW (cc := cX9_allUnits) (maxL := 1) (ret := (some .int)) (by decide) rfl ?_
  intro p e s m args below meth c s₁ B hml hv
  obtain ⟨rfl, hsz, hP, hK, hD0⟩ := hv
  have hx := B.exec
  have hb := B.bytes
  have hr := B.returns
  have hts0 := atoms_spec (ws := (Cond.code yX9_allUnits cX9_allUnits 1 (some .int) :: Ts)) B.pre
  have hts : ∀ w ∈ uT, w.before _ s = true := fun w h => hts0 w (List.mem_cons_of_mem _ ((hTs w).mpr h))
  clear hts0
  have hown : s.vm.findClass RX9 = some m.cls := findClass_of_methodNamed B.named
  have hlocks := B.notSynchronized
  subst hsz
  have hD := hD0.self (sz := s.heap.size)
  generalize hAe : va_A [(a_t, .inr (8, [.int t_units, .ref a_t_population, .ref a_t_area, .ref a_t_community, .ref a_t_outer, .ref a_t_neighbors, .ref a_t_lengths, v_t_cores, v_t_districts, v_t_tolerance, v_t_hasPlan, .ref a_t_plan]))] s.heap.size = A at hD ⊢
  have hA : ∀ q : Nat, s.heap.size ≤ q → A q := fun q h => by rw [← hAe]; exact Or.inr h
  have hH : HOK D A s.heap [(a_t, .inr (8, [.int t_units, .ref a_t_population, .ref a_t_area, .ref a_t_community, .ref a_t_outer, .ref a_t_neighbors, .ref a_t_lengths, v_t_cores, v_t_districts, v_t_tolerance, v_t_hasPlan, .ref a_t_plan]))] s.heap [] := ⟨hP, hD, va_S.rf⟩
  have hl := lv_entry ([.ref a_t]) (n := 1) (Nat.le_of_ble_eq_true rfl)
  rw [lg_entry_eq]
  generalize (lg_sl ([.ref a_t]) ++ List.replicate (1 - (lg_sl ([.ref a_t])).length) Slot.unset).toArray = ls at hl ⊢
  have hl : lv_has ls 1 [(0, .ref a_t)] := hl
  generalize hQ : MQ below (postI D k r [(a_t, .inr (8, [.int t_units, .ref a_t_population, .ref a_t_area, .ref a_t_community, .ref a_t_outer, .ref a_t_neighbors, .ref a_t_lengths, v_t_cores, v_t_districts, v_t_tolerance, v_t_hasPlan, .ref a_t_plan]))] [(a_t, .inr (8, [.int t_units, .ref a_t_population, .ref a_t_area, .ref a_t_community, .ref a_t_outer, .ref a_t_neighbors, .ref a_t_lengths, v_t_cores, v_t_districts, v_t_tolerance, v_t_hasPlan, .ref a_t_plan]))] s.heap.size) (List.toArray [.ref a_t]) s 0 0 A = Q
  clear hP hD hD0
  suffices K : ∀ (H : Heap) (locs : List Loc), HOK D A s.heap [(a_t, .inr (8, [.int t_units, .ref a_t_population, .ref a_t_area, .ref a_t_community, .ref a_t_outer, .ref a_t_neighbors, .ref a_t_lengths, v_t_cores, v_t_districts, v_t_tolerance, v_t_hasPlan, .ref a_t_plan]))] H locs → W p l e ({ frames := 0, cells := 0, slots := 0, locals := 0 } : Room) s m (List.toArray [.ref a_t]) below meth c H locs 0 0 Q (F0 m 0 ls []) from K s.heap [] hH
  intro H locs hH
  rw [fX9_allUnits] at h
  refine lv_iconst (v := 1) hx hb dX9_allUnits_0 (by decide) ?_
  refine lv_aload_n hx hb dX9_allUnits_1 rfl (lv_at hl 0 rfl) ?_
  refine gk_get (ci := 8) (C := RX9) (T := TX9) (N := 12) hx hb hts u_ws_X9 hown hK hH 0 rfl rfl 0 (by decide) u_fl_X9_9 rfl dX9_allUnits_2 ?_
  refine lv_ishl hx hb dX9_allUnits_5 ?_
  refine lv_iconst (v := 1) hx hb dX9_allUnits_6 (by decide) ?_
  refine lv_isub hx hb dX9_allUnits_7 ?_
  have h := Option.some.inj h
  subst h
  exact ge_i hx hb hr hlocks hQ hK hH hAe rfl dX9_allUnits_8
theorem hd_X9_populationOf : yX9_populationOf.cls = RX9 ∧ yX9_populationOf.cls ≠ "java/lang/invoke/MethodHandle" ∧ yX9_populationOf.cls ≠ "java/lang/invoke/VarHandle" ∧ (parseMethodDescriptor yX9_populationOf.desc).map (fun d => d.parameters.length) = some 1 := by decide +kernel
set_option maxHeartbeats 4000000 in
set_option maxRecDepth 100000 in
theorem mX9_populationOf (l : Launch) (Ts : List Cond) (hTs : ∀ w, w ∈ Ts ↔ w ∈ uT) (D : va_G) (k : Nat → ClassId) (sz : Nat) (a_t : Nat) (a_t_population : Nat) (a_t_area : Nat) (a_t_community : Nat) (a_t_outer : Nat) (a_t_neighbors : Nat) (a_t_lengths : Nat) (a_t_plan : Nat) (t_population : Nat → Int32) (t_units : Int32) (v_t_cores : Value) (v_t_districts : Value) (v_t_hasPlan : Value) (v_t_tolerance : Value) (x1 : Int32) (r : Int32) (h : fX9_populationOf t_population t_units x1 = some r) : Met l yX9_populationOf (Cond.code yX9_populationOf cX9_populationOf 4 (some .int) :: Ts) ({ frames := 0, cells := 0, slots := 0, locals := 0 } : Room) (preM D k [.ref a_t, .int x1] [(a_t, .inr (8, [.int t_units, .ref a_t_population, .ref a_t_area, .ref a_t_community, .ref a_t_outer, .ref a_t_neighbors, .ref a_t_lengths, v_t_cores, v_t_districts, v_t_tolerance, v_t_hasPlan, .ref a_t_plan])), (a_t_population, .inl (k 0, 12, .inl t_population))] sz) (postI D k r [(a_t, .inr (8, [.int t_units, .ref a_t_population, .ref a_t_area, .ref a_t_community, .ref a_t_outer, .ref a_t_neighbors, .ref a_t_lengths, v_t_cores, v_t_districts, v_t_tolerance, v_t_hasPlan, .ref a_t_plan])), (a_t_population, .inl (k 0, 12, .inl t_population))] [(a_t, .inr (8, [.int t_units, .ref a_t_population, .ref a_t_area, .ref a_t_community, .ref a_t_outer, .ref a_t_neighbors, .ref a_t_lengths, v_t_cores, v_t_districts, v_t_tolerance, v_t_hasPlan, .ref a_t_plan])), (a_t_population, .inl (k 0, 12, .inl t_population))] sz) 0 0 (va_A [(a_t, .inr (8, [.int t_units, .ref a_t_population, .ref a_t_area, .ref a_t_community, .ref a_t_outer, .ref a_t_neighbors, .ref a_t_lengths, v_t_cores, v_t_districts, v_t_tolerance, v_t_hasPlan, .ref a_t_plan])), (a_t_population, .inl (k 0, 12, .inl t_population))] sz) := by
  refine Met.ofW (cc := cX9_populationOf) (maxL := 4) (ret := (some .int)) (by decide) rfl ?_
  intro p e s m args below meth c s₁ B hml hv
  obtain ⟨rfl, hsz, hP, hK, hD0⟩ := hv
  have hx := B.exec
  have hb := B.bytes
  have hr := B.returns
  have hts0 := atoms_spec (ws := (Cond.code yX9_populationOf cX9_populationOf 4 (some .int) :: Ts)) B.pre
  have hts : ∀ w ∈ uT, w.before _ s = true := fun w h => hts0 w (List.mem_cons_of_mem _ ((hTs w).mpr h))
  clear hts0
  have hown : s.vm.findClass RX9 = some m.cls := findClass_of_methodNamed B.named
  have hlocks := B.notSynchronized
  subst hsz
  have hD := hD0.self (sz := s.heap.size)
  generalize hAe : va_A [(a_t, .inr (8, [.int t_units, .ref a_t_population, .ref a_t_area, .ref a_t_community, .ref a_t_outer, .ref a_t_neighbors, .ref a_t_lengths, v_t_cores, v_t_districts, v_t_tolerance, v_t_hasPlan, .ref a_t_plan])), (a_t_population, .inl (k 0, 12, .inl t_population))] s.heap.size = A at hD ⊢
  have hA : ∀ q : Nat, s.heap.size ≤ q → A q := fun q h => by rw [← hAe]; exact Or.inr h
  have hH : HOK D A s.heap [(a_t, .inr (8, [.int t_units, .ref a_t_population, .ref a_t_area, .ref a_t_community, .ref a_t_outer, .ref a_t_neighbors, .ref a_t_lengths, v_t_cores, v_t_districts, v_t_tolerance, v_t_hasPlan, .ref a_t_plan])), (a_t_population, .inl (k 0, 12, .inl t_population))] s.heap [] := ⟨hP, hD, va_S.rf⟩
  have hl := lv_entry ([.ref a_t, .int x1]) (n := 4) (Nat.le_of_ble_eq_true rfl)
  rw [lg_entry_eq]
  generalize (lg_sl ([.ref a_t, .int x1]) ++ List.replicate (4 - (lg_sl ([.ref a_t, .int x1])).length) Slot.unset).toArray = ls at hl ⊢
  have hl : lv_has ls 4 [(0, .ref a_t), (1, .int x1)] := hl
  generalize hQ : MQ below (postI D k r [(a_t, .inr (8, [.int t_units, .ref a_t_population, .ref a_t_area, .ref a_t_community, .ref a_t_outer, .ref a_t_neighbors, .ref a_t_lengths, v_t_cores, v_t_districts, v_t_tolerance, v_t_hasPlan, .ref a_t_plan])), (a_t_population, .inl (k 0, 12, .inl t_population))] [(a_t, .inr (8, [.int t_units, .ref a_t_population, .ref a_t_area, .ref a_t_community, .ref a_t_outer, .ref a_t_neighbors, .ref a_t_lengths, v_t_cores, v_t_districts, v_t_tolerance, v_t_hasPlan, .ref a_t_plan])), (a_t_population, .inl (k 0, 12, .inl t_population))] s.heap.size) (List.toArray [.ref a_t, .int x1]) s 0 0 A = Q
  clear hP hD hD0
  suffices K : ∀ (H : Heap) (locs : List Loc), HOK D A s.heap [(a_t, .inr (8, [.int t_units, .ref a_t_population, .ref a_t_area, .ref a_t_community, .ref a_t_outer, .ref a_t_neighbors, .ref a_t_lengths, v_t_cores, v_t_districts, v_t_tolerance, v_t_hasPlan, .ref a_t_plan])), (a_t_population, .inl (k 0, 12, .inl t_population))] H locs → W p l e ({ frames := 0, cells := 0, slots := 0, locals := 0 } : Room) s m (List.toArray [.ref a_t, .int x1]) below meth c H locs 0 0 Q (F0 m 0 ls []) from K s.heap [] hH
  intro H locs hH
  have L4 : ∀ (n : Nat), ∀ (kf : Int32 → Option (Int32)) (y4_2 : Int32) (y4_3 : Int32), fX9_populationOf_L4 t_population t_units x1 n kf y4_2 y4_3 = some r → (∀ (z4_2 : Int32) (H : Heap) (locs : List Loc) (ls : Array Slot), kf z4_2 = some r → HOK D A s.heap [(a_t, .inr (8, [.int t_units, .ref a_t_population, .ref a_t_area, .ref a_t_community, .ref a_t_outer, .ref a_t_neighbors, .ref a_t_lengths, v_t_cores, v_t_districts, v_t_tolerance, v_t_hasPlan, .ref a_t_plan])), (a_t_population, .inl (k 0, 12, .inl t_population))] H locs → lv_has ls 4 [(2, .int z4_2)] → W p l e ({ frames := 0, cells := 0, slots := 0, locals := 0 } : Room) s m (List.toArray [.ref a_t, .int x1]) below meth c H locs 0 0 Q (F0 m 35 ls [])) → ∀ (H : Heap) (locs : List Loc) (ls : Array Slot), HOK D A s.heap [(a_t, .inr (8, [.int t_units, .ref a_t_population, .ref a_t_area, .ref a_t_community, .ref a_t_outer, .ref a_t_neighbors, .ref a_t_lengths, v_t_cores, v_t_districts, v_t_tolerance, v_t_hasPlan, .ref a_t_plan])), (a_t_population, .inl (k 0, 12, .inl t_population))] H locs → lv_has ls 4 [(0, .ref a_t), (1, .int x1), (2, .int y4_2), (3, .int y4_3)] → W p l e ({ frames := 0, cells := 0, slots := 0, locals := 0 } : Room) s m (List.toArray [.ref a_t, .int x1]) below meth c H locs 0 0 Q (F0 m 4 ls []) := by
    intro n
    induction n with
    | zero =>
      intro kf y4_2 y4_3 h
      exact absurd h (by rw [fX9_populationOf_L4]; exact fun q => by cases q)
    | succ n ih =>
      intro kf y4_2 y4_3 h kk H locs ls hH hl
      rw [fX9_populationOf_L4] at h
      refine lv_iload_n hx hb dX9_populationOf_4 rfl (lv_at hl 3 rfl) ?_
      refine lv_aload_n hx hb dX9_populationOf_5 rfl (lv_at hl 0 rfl) ?_
      refine gk_get (ci := 8) (C := RX9) (T := TX9) (N := 12) hx hb hts u_ws_X9 hown hK hH 0 rfl rfl 0 (by decide) u_fl_X9_9 rfl dX9_populationOf_6 ?_
      refine lv_icmp_ge (tgt := 35) hx hb dX9_populationOf_9 (by decide) (fun c1 => ?_) (fun c1 => ?_)
      · replace h := dc_pos c1 h
        exact kk y4_2 H locs ls h hH (lv_sub hl [2] rfl)
      · replace h := dc_neg c1 h
        refine lv_iload_n hx hb dX9_populationOf_12 rfl (lv_at hl 1 rfl) ?_
        refine lv_iload_n hx hb dX9_populationOf_13 rfl (lv_at hl 3 rfl) ?_
        refine lv_ishr hx hb dX9_populationOf_14 ?_
        refine lv_iconst (v := 1) hx hb dX9_populationOf_15 (by decide) ?_
        refine lv_iand hx hb dX9_populationOf_16 ?_
        refine lv_if_eq (tgt := 29) hx hb dX9_populationOf_17 (by decide) (fun c2 => ?_) (fun c2 => ?_)
        · replace h := dc_pos c2 h
          refine lv_iinc (v := (y4_3 + (1 : Int32))) (lv' := [(3, .int (y4_3 + (1 : Int32))), (0, .ref a_t), (1, .int x1), (2, .int y4_2)]) hx hb dX9_populationOf_29 hl (k := 3) rfl rfl (by decide) rfl (fun ls hl => ?_)
          refine lv_goto (tgt := 4) hx hb dX9_populationOf_32 (by decide) ?_
          exact ih kf y4_2 (y4_3 + (1 : Int32)) h kk H locs ls hH (lv_sub hl [1, 2, 3, 0] rfl)
        · replace h := dc_neg c2 h
          refine lv_iload_n hx hb dX9_populationOf_20 rfl (lv_at hl 2 rfl) ?_
          refine lv_aload_n hx hb dX9_populationOf_21 rfl (lv_at hl 0 rfl) ?_
          refine gk_get (ci := 8) (C := RX9) (T := TX9) (N := 12) hx hb hts u_ws_X9 hown hK hH 0 rfl rfl 1 (by decide) u_fl_X9_15 rfl dX9_populationOf_22 ?_
          refine lv_iload_n hx hb dX9_populationOf_25 rfl (lv_at hl 3 rfl) ?_
          obtain ⟨g3, h⟩ := dc_need h
          refine gk_iald hx hb hK hH 1 rfl (dk_in g3) dX9_populationOf_26 ?_
          refine lv_iadd hx hb dX9_populationOf_27 ?_
          refine lv_istore_n (lv' := [(2, .int (y4_2 + (t_population y4_3.toNatClampNeg))), (0, .ref a_t), (1, .int x1), (3, .int y4_3)]) hx hb dX9_populationOf_28 rfl hl (by decide) rfl (fun ls hl => ?_)
          refine lv_iinc (v := (y4_3 + (1 : Int32))) (lv' := [(3, .int (y4_3 + (1 : Int32))), (2, .int (y4_2 + (t_population y4_3.toNatClampNeg))), (0, .ref a_t), (1, .int x1)]) hx hb dX9_populationOf_29 hl (k := 3) rfl rfl (by decide) rfl (fun ls hl => ?_)
          refine lv_goto (tgt := 4) hx hb dX9_populationOf_32 (by decide) ?_
          exact ih kf (y4_2 + (t_population y4_3.toNatClampNeg)) (y4_3 + (1 : Int32)) h kk H locs ls hH (lv_sub hl [2, 3, 1, 0] rfl)
  rw [fX9_populationOf] at h
  refine lv_iconst (v := 0) hx hb dX9_populationOf_0 (by decide) ?_
  refine lv_istore_n (lv' := [(2, .int (0 : Int32)), (0, .ref a_t), (1, .int x1)]) hx hb dX9_populationOf_1 rfl hl (by decide) rfl (fun ls hl => ?_)
  refine lv_iconst (v := 0) hx hb dX9_populationOf_2 (by decide) ?_
  refine lv_istore_n (lv' := [(3, .int (0 : Int32)), (2, .int (0 : Int32)), (0, .ref a_t), (1, .int x1)]) hx hb dX9_populationOf_3 rfl hl (by decide) rfl (fun ls hl => ?_)
  refine L4 _ _ (0 : Int32) (0 : Int32) h (fun z4_2 H locs ls h hH hl => ?_) H locs ls hH (lv_sub hl [2, 3, 1, 0] rfl)
  refine lv_iload_n hx hb dX9_populationOf_35 rfl (lv_at hl 0 rfl) ?_
  have h := Option.some.inj h
  subst h
  exact ge_i hx hb hr hlocks hQ hK hH hAe rfl dX9_populationOf_36
theorem hd_X9_reach : yX9_reach.cls = RX9 ∧ yX9_reach.cls ≠ "java/lang/invoke/MethodHandle" ∧ yX9_reach.cls ≠ "java/lang/invoke/VarHandle" ∧ (parseMethodDescriptor yX9_reach.desc).map (fun d => d.parameters.length) = some 1 := by decide +kernel
set_option maxHeartbeats 4000000 in
set_option maxRecDepth 100000 in
theorem mX9_reach (l : Launch) (Ts : List Cond) (hTs : ∀ w, w ∈ Ts ↔ w ∈ uT) (D : va_G) (k : Nat → ClassId) (sz : Nat) (a_t : Nat) (a_t_population : Nat) (a_t_area : Nat) (a_t_community : Nat) (a_t_outer : Nat) (a_t_neighbors : Nat) (a_t_lengths : Nat) (a_t_plan : Nat) (t_neighbors : Nat → Int32) (t_units : Int32) (v_t_cores : Value) (v_t_districts : Value) (v_t_hasPlan : Value) (v_t_tolerance : Value) (x1 : Int32) (r : Int32) (h : fX9_reach t_neighbors t_units x1 = some r) : Met l yX9_reach (Cond.code yX9_reach cX9_reach 6 (some .int) :: Ts) ({ frames := 0, cells := 0, slots := 0, locals := 0 } : Room) (preM D k [.ref a_t, .int x1] [(a_t, .inr (8, [.int t_units, .ref a_t_population, .ref a_t_area, .ref a_t_community, .ref a_t_outer, .ref a_t_neighbors, .ref a_t_lengths, v_t_cores, v_t_districts, v_t_tolerance, v_t_hasPlan, .ref a_t_plan])), (a_t_neighbors, .inl (k 0, 12, .inl t_neighbors))] sz) (postI D k r [(a_t, .inr (8, [.int t_units, .ref a_t_population, .ref a_t_area, .ref a_t_community, .ref a_t_outer, .ref a_t_neighbors, .ref a_t_lengths, v_t_cores, v_t_districts, v_t_tolerance, v_t_hasPlan, .ref a_t_plan])), (a_t_neighbors, .inl (k 0, 12, .inl t_neighbors))] [(a_t, .inr (8, [.int t_units, .ref a_t_population, .ref a_t_area, .ref a_t_community, .ref a_t_outer, .ref a_t_neighbors, .ref a_t_lengths, v_t_cores, v_t_districts, v_t_tolerance, v_t_hasPlan, .ref a_t_plan])), (a_t_neighbors, .inl (k 0, 12, .inl t_neighbors))] sz) 0 0 (va_A [(a_t, .inr (8, [.int t_units, .ref a_t_population, .ref a_t_area, .ref a_t_community, .ref a_t_outer, .ref a_t_neighbors, .ref a_t_lengths, v_t_cores, v_t_districts, v_t_tolerance, v_t_hasPlan, .ref a_t_plan])), (a_t_neighbors, .inl (k 0, 12, .inl t_neighbors))] sz) := by
  refine Met.ofW (cc := cX9_reach) (maxL := 6) (ret := (some .int)) (by decide) rfl ?_
  intro p e s m args below meth c s₁ B hml hv
  obtain ⟨rfl, hsz, hP, hK, hD0⟩ := hv
  have hx := B.exec
  have hb := B.bytes
  have hr := B.returns
  have hts0 := atoms_spec (ws := (Cond.code yX9_reach cX9_reach 6 (some .int) :: Ts)) B.pre
  have hts : ∀ w ∈ uT, w.before _ s = true := fun w h => hts0 w (List.mem_cons_of_mem _ ((hTs w).mpr h))
  clear hts0
  have hown : s.vm.findClass RX9 = some m.cls := findClass_of_methodNamed B.named
  have hlocks := B.notSynchronized
  subst hsz
  have hD := hD0.self (sz := s.heap.size)
  generalize hAe : va_A [(a_t, .inr (8, [.int t_units, .ref a_t_population, .ref a_t_area, .ref a_t_community, .ref a_t_outer, .ref a_t_neighbors, .ref a_t_lengths, v_t_cores, v_t_districts, v_t_tolerance, v_t_hasPlan, .ref a_t_plan])), (a_t_neighbors, .inl (k 0, 12, .inl t_neighbors))] s.heap.size = A at hD ⊢
  have hA : ∀ q : Nat, s.heap.size ≤ q → A q := fun q h => by rw [← hAe]; exact Or.inr h
  have hH : HOK D A s.heap [(a_t, .inr (8, [.int t_units, .ref a_t_population, .ref a_t_area, .ref a_t_community, .ref a_t_outer, .ref a_t_neighbors, .ref a_t_lengths, v_t_cores, v_t_districts, v_t_tolerance, v_t_hasPlan, .ref a_t_plan])), (a_t_neighbors, .inl (k 0, 12, .inl t_neighbors))] s.heap [] := ⟨hP, hD, va_S.rf⟩
  have hl := lv_entry ([.ref a_t, .int x1]) (n := 6) (Nat.le_of_ble_eq_true rfl)
  rw [lg_entry_eq]
  generalize (lg_sl ([.ref a_t, .int x1]) ++ List.replicate (6 - (lg_sl ([.ref a_t, .int x1])).length) Slot.unset).toArray = ls at hl ⊢
  have hl : lv_has ls 6 [(0, .ref a_t), (1, .int x1)] := hl
  generalize hQ : MQ below (postI D k r [(a_t, .inr (8, [.int t_units, .ref a_t_population, .ref a_t_area, .ref a_t_community, .ref a_t_outer, .ref a_t_neighbors, .ref a_t_lengths, v_t_cores, v_t_districts, v_t_tolerance, v_t_hasPlan, .ref a_t_plan])), (a_t_neighbors, .inl (k 0, 12, .inl t_neighbors))] [(a_t, .inr (8, [.int t_units, .ref a_t_population, .ref a_t_area, .ref a_t_community, .ref a_t_outer, .ref a_t_neighbors, .ref a_t_lengths, v_t_cores, v_t_districts, v_t_tolerance, v_t_hasPlan, .ref a_t_plan])), (a_t_neighbors, .inl (k 0, 12, .inl t_neighbors))] s.heap.size) (List.toArray [.ref a_t, .int x1]) s 0 0 A = Q
  clear hP hD hD0
  suffices K : ∀ (H : Heap) (locs : List Loc), HOK D A s.heap [(a_t, .inr (8, [.int t_units, .ref a_t_population, .ref a_t_area, .ref a_t_community, .ref a_t_outer, .ref a_t_neighbors, .ref a_t_lengths, v_t_cores, v_t_districts, v_t_tolerance, v_t_hasPlan, .ref a_t_plan])), (a_t_neighbors, .inl (k 0, 12, .inl t_neighbors))] H locs → W p l e ({ frames := 0, cells := 0, slots := 0, locals := 0 } : Room) s m (List.toArray [.ref a_t, .int x1]) below meth c H locs 0 0 Q (F0 m 0 ls []) from K s.heap [] hH
  intro H locs hH
  have L19 : ∀ (y19_3 : Int32) (y19_4 : Int32) (n : Nat), ∀ (kf : Int32 → Option (Int32)) (y19_2 : Int32) (y19_5 : Int32), fX9_reach_L19 t_neighbors t_units x1 y19_3 y19_4 n kf y19_2 y19_5 = some r → (∀ (z19_2 : Int32) (H : Heap) (locs : List Loc) (ls : Array Slot), kf z19_2 = some r → HOK D A s.heap [(a_t, .inr (8, [.int t_units, .ref a_t_population, .ref a_t_area, .ref a_t_community, .ref a_t_outer, .ref a_t_neighbors, .ref a_t_lengths, v_t_cores, v_t_districts, v_t_tolerance, v_t_hasPlan, .ref a_t_plan])), (a_t_neighbors, .inl (k 0, 12, .inl t_neighbors))] H locs → lv_has ls 6 [(0, .ref a_t), (1, .int x1), (2, .int z19_2), (3, .int y19_3), (4, .int y19_4)] → W p l e ({ frames := 0, cells := 0, slots := 0, locals := 0 } : Room) s m (List.toArray [.ref a_t, .int x1]) below meth c H locs 0 0 Q (F0 m 55 ls [])) → ∀ (H : Heap) (locs : List Loc) (ls : Array Slot), HOK D A s.heap [(a_t, .inr (8, [.int t_units, .ref a_t_population, .ref a_t_area, .ref a_t_community, .ref a_t_outer, .ref a_t_neighbors, .ref a_t_lengths, v_t_cores, v_t_districts, v_t_tolerance, v_t_hasPlan, .ref a_t_plan])), (a_t_neighbors, .inl (k 0, 12, .inl t_neighbors))] H locs → lv_has ls 6 [(0, .ref a_t), (1, .int x1), (2, .int y19_2), (3, .int y19_3), (4, .int y19_4), (5, .int y19_5)] → W p l e ({ frames := 0, cells := 0, slots := 0, locals := 0 } : Room) s m (List.toArray [.ref a_t, .int x1]) below meth c H locs 0 0 Q (F0 m 19 ls []) := by
    intro y19_3 y19_4 n
    induction n with
    | zero =>
      intro kf y19_2 y19_5 h
      exact absurd h (by rw [fX9_reach_L19]; exact fun q => by cases q)
    | succ n ih =>
      intro kf y19_2 y19_5 h kk H locs ls hH hl
      rw [fX9_reach_L19] at h
      refine lv_iload hx hb dX9_reach_19 (lv_at hl 5 rfl) ?_
      refine lv_aload_n hx hb dX9_reach_21 rfl (lv_at hl 0 rfl) ?_
      refine gk_get (ci := 8) (C := RX9) (T := TX9) (N := 12) hx hb hts u_ws_X9 hown hK hH 0 rfl rfl 0 (by decide) u_fl_X9_9 rfl dX9_reach_22 ?_
      refine lv_icmp_ge (tgt := 55) hx hb dX9_reach_25 (by decide) (fun c2 => ?_) (fun c2 => ?_)
      · replace h := dc_pos c2 h
        exact kk y19_2 H locs ls h hH (lv_sub hl [0, 1, 2, 3, 4] rfl)
      · replace h := dc_neg c2 h
        refine lv_iload_n hx hb dX9_reach_28 rfl (lv_at hl 2 rfl) ?_
        refine lv_iload hx hb dX9_reach_29 (lv_at hl 5 rfl) ?_
        refine lv_ishr hx hb dX9_reach_31 ?_
        refine lv_iconst (v := 1) hx hb dX9_reach_32 (by decide) ?_
        refine lv_iand hx hb dX9_reach_33 ?_
        refine lv_if_eq (tgt := 49) hx hb dX9_reach_34 (by decide) (fun c3 => ?_) (fun c3 => ?_)
        · replace h := dc_pos c3 h
          refine lv_iinc (v := (y19_5 + (1 : Int32))) (lv' := [(5, .int (y19_5 + (1 : Int32))), (0, .ref a_t), (1, .int x1), (2, .int y19_2), (3, .int y19_3), (4, .int y19_4)]) hx hb dX9_reach_49 hl (k := 5) rfl rfl (by decide) rfl (fun ls hl => ?_)
          refine lv_goto (tgt := 19) hx hb dX9_reach_52 (by decide) ?_
          exact ih kf y19_2 (y19_5 + (1 : Int32)) h kk H locs ls hH (lv_sub hl [1, 2, 3, 4, 5, 0] rfl)
        · replace h := dc_neg c3 h
          refine lv_iload_n hx hb dX9_reach_37 rfl (lv_at hl 2 rfl) ?_
          refine lv_aload_n hx hb dX9_reach_38 rfl (lv_at hl 0 rfl) ?_
          refine gk_get (ci := 8) (C := RX9) (T := TX9) (N := 12) hx hb hts u_ws_X9 hown hK hH 0 rfl rfl 5 (by decide) u_fl_X9_28 rfl dX9_reach_39 ?_
          refine lv_iload hx hb dX9_reach_42 (lv_at hl 5 rfl) ?_
          obtain ⟨g4, h⟩ := dc_need h
          refine gk_iald hx hb hK hH 1 rfl (dk_in g4) dX9_reach_44 ?_
          refine lv_iload_n hx hb dX9_reach_45 rfl (lv_at hl 1 rfl) ?_
          refine lv_iand hx hb dX9_reach_46 ?_
          refine lv_ior hx hb dX9_reach_47 ?_
          refine lv_istore_n (lv' := [(2, .int (y19_2 ||| ((t_neighbors y19_5.toNatClampNeg) &&& x1))), (0, .ref a_t), (1, .int x1), (3, .int y19_3), (4, .int y19_4), (5, .int y19_5)]) hx hb dX9_reach_48 rfl hl (by decide) rfl (fun ls hl => ?_)
          refine lv_iinc (v := (y19_5 + (1 : Int32))) (lv' := [(5, .int (y19_5 + (1 : Int32))), (2, .int (y19_2 ||| ((t_neighbors y19_5.toNatClampNeg) &&& x1))), (0, .ref a_t), (1, .int x1), (3, .int y19_3), (4, .int y19_4)]) hx hb dX9_reach_49 hl (k := 5) rfl rfl (by decide) rfl (fun ls hl => ?_)
          refine lv_goto (tgt := 19) hx hb dX9_reach_52 (by decide) ?_
          exact ih kf (y19_2 ||| ((t_neighbors y19_5.toNatClampNeg) &&& x1)) (y19_5 + (1 : Int32)) h kk H locs ls hH (lv_sub hl [2, 3, 1, 4, 5, 0] rfl)
  have L7 : ∀ (n : Nat), ∀ (kf : Int32 → Option (Int32)) (y7_2 : Int32) (y7_3 : Int32), fX9_reach_L7 t_neighbors t_units x1 n kf y7_2 y7_3 = some r → (∀ (z7_2 : Int32) (H : Heap) (locs : List Loc) (ls : Array Slot), kf z7_2 = some r → HOK D A s.heap [(a_t, .inr (8, [.int t_units, .ref a_t_population, .ref a_t_area, .ref a_t_community, .ref a_t_outer, .ref a_t_neighbors, .ref a_t_lengths, v_t_cores, v_t_districts, v_t_tolerance, v_t_hasPlan, .ref a_t_plan])), (a_t_neighbors, .inl (k 0, 12, .inl t_neighbors))] H locs → lv_has ls 6 [(2, .int z7_2)] → W p l e ({ frames := 0, cells := 0, slots := 0, locals := 0 } : Room) s m (List.toArray [.ref a_t, .int x1]) below meth c H locs 0 0 Q (F0 m 70 ls [])) → ∀ (H : Heap) (locs : List Loc) (ls : Array Slot), HOK D A s.heap [(a_t, .inr (8, [.int t_units, .ref a_t_population, .ref a_t_area, .ref a_t_community, .ref a_t_outer, .ref a_t_neighbors, .ref a_t_lengths, v_t_cores, v_t_districts, v_t_tolerance, v_t_hasPlan, .ref a_t_plan])), (a_t_neighbors, .inl (k 0, 12, .inl t_neighbors))] H locs → lv_has ls 6 [(0, .ref a_t), (1, .int x1), (2, .int y7_2), (3, .int y7_3)] → W p l e ({ frames := 0, cells := 0, slots := 0, locals := 0 } : Room) s m (List.toArray [.ref a_t, .int x1]) below meth c H locs 0 0 Q (F0 m 7 ls []) := by
    intro n
    induction n with
    | zero =>
      intro kf y7_2 y7_3 h
      exact absurd h (by rw [fX9_reach_L7]; exact fun q => by cases q)
    | succ n ih =>
      intro kf y7_2 y7_3 h kk H locs ls hH hl
      rw [fX9_reach_L7] at h
      refine lv_iload_n hx hb dX9_reach_7 rfl (lv_at hl 3 rfl) ?_
      refine lv_bipush (v := 12) hx hb dX9_reach_8 (by decide) ?_
      refine lv_icmp_ge (tgt := 70) hx hb dX9_reach_10 (by decide) (fun c1 => ?_) (fun c1 => ?_)
      · replace h := dc_pos c1 h
        exact kk y7_2 H locs ls h hH (lv_sub hl [2] rfl)
      · replace h := dc_neg c1 h
        refine lv_iload_n hx hb dX9_reach_13 rfl (lv_at hl 2 rfl) ?_
        refine lv_istore (lv' := [(4, .int y7_2), (0, .ref a_t), (1, .int x1), (2, .int y7_2), (3, .int y7_3)]) hx hb dX9_reach_14 hl (by decide) rfl (fun ls hl => ?_)
        refine lv_iconst (v := 0) hx hb dX9_reach_16 (by decide) ?_
        refine lv_istore (lv' := [(5, .int (0 : Int32)), (4, .int y7_2), (0, .ref a_t), (1, .int x1), (2, .int y7_2), (3, .int y7_3)]) hx hb dX9_reach_17 hl (by decide) rfl (fun ls hl => ?_)
        refine L19 y7_3 y7_2 _ _ y7_2 (0 : Int32) h (fun z19_2 H locs ls h hH hl => ?_) H locs ls hH (lv_sub hl [2, 3, 4, 5, 1, 0] rfl)
        refine lv_iload_n hx hb dX9_reach_55 rfl (lv_at hl 2 rfl) ?_
        refine lv_iload hx hb dX9_reach_56 (lv_at hl 4 rfl) ?_
        refine lv_icmp_ne (tgt := 64) hx hb dX9_reach_58 (by decide) (fun c5 => ?_) (fun c5 => ?_)
        · replace h := dc_neg c5 h
          refine lv_iinc (v := (y7_3 + (1 : Int32))) (lv' := [(3, .int (y7_3 + (1 : Int32))), (0, .ref a_t), (1, .int x1), (2, .int z19_2), (4, .int y7_2)]) hx hb dX9_reach_64 hl (k := 3) rfl rfl (by decide) rfl (fun ls hl => ?_)
          refine lv_goto (tgt := 7) hx hb dX9_reach_67 (by decide) ?_
          exact ih kf z19_2 (y7_3 + (1 : Int32)) h kk H locs ls hH (lv_sub hl [1, 2, 3, 0] rfl)
        · replace h := dc_pos c5 h
          refine lv_goto (tgt := 70) hx hb dX9_reach_61 (by decide) ?_
          exact kk z19_2 H locs ls h hH (lv_sub hl [2] rfl)
  rw [fX9_reach] at h
  refine lv_iload_n hx hb dX9_reach_0 rfl (lv_at hl 1 rfl) ?_
  refine lv_iload_n hx hb dX9_reach_1 rfl (lv_at hl 1 rfl) ?_
  refine lv_ineg hx hb dX9_reach_2 ?_
  refine lv_iand hx hb dX9_reach_3 ?_
  refine lv_istore_n (lv' := [(2, .int (x1 &&& (-x1))), (0, .ref a_t), (1, .int x1)]) hx hb dX9_reach_4 rfl hl (by decide) rfl (fun ls hl => ?_)
  refine lv_iconst (v := 0) hx hb dX9_reach_5 (by decide) ?_
  refine lv_istore_n (lv' := [(3, .int (0 : Int32)), (2, .int (x1 &&& (-x1))), (0, .ref a_t), (1, .int x1)]) hx hb dX9_reach_6 rfl hl (by decide) rfl (fun ls hl => ?_)
  refine L7 _ _ (x1 &&& (-x1)) (0 : Int32) h (fun z7_2 H locs ls h hH hl => ?_) H locs ls hH (lv_sub hl [2, 3, 1, 0] rfl)
  refine lv_iload_n hx hb dX9_reach_70 rfl (lv_at hl 0 rfl) ?_
  have h := Option.some.inj h
  subst h
  exact ge_i hx hb hr hlocks hQ hK hH hAe rfl dX9_reach_71
theorem hd_X9_isContiguous : yX9_isContiguous.cls = RX9 ∧ yX9_isContiguous.cls ≠ "java/lang/invoke/MethodHandle" ∧ yX9_isContiguous.cls ≠ "java/lang/invoke/VarHandle" ∧ (parseMethodDescriptor yX9_isContiguous.desc).map (fun d => d.parameters.length) = some 1 := by decide +kernel
set_option maxHeartbeats 4000000 in
set_option maxRecDepth 100000 in
theorem mX9_isContiguous (l : Launch) (Ts : List Cond) (hTs : ∀ w, w ∈ Ts ↔ w ∈ uT) (D : va_G) (k : Nat → ClassId) (sz : Nat) (a_t : Nat) (a_t_population : Nat) (a_t_area : Nat) (a_t_community : Nat) (a_t_outer : Nat) (a_t_neighbors : Nat) (a_t_lengths : Nat) (a_t_plan : Nat) (t_neighbors : Nat → Int32) (t_units : Int32) (v_t_cores : Value) (v_t_districts : Value) (v_t_hasPlan : Value) (v_t_tolerance : Value) (x1 : Int32) (r : Int32) (h : fX9_isContiguous t_neighbors t_units x1 = some r) : Met l yX9_isContiguous (Cond.code yX9_isContiguous cX9_isContiguous 2 (some .boolean) :: Ts) ({ frames := 1, cells := 0, slots := 0, locals := 25 } : Room) (preM D k [.ref a_t, .int x1] [(a_t, .inr (8, [.int t_units, .ref a_t_population, .ref a_t_area, .ref a_t_community, .ref a_t_outer, .ref a_t_neighbors, .ref a_t_lengths, v_t_cores, v_t_districts, v_t_tolerance, v_t_hasPlan, .ref a_t_plan])), (a_t_neighbors, .inl (k 0, 12, .inl t_neighbors))] sz) (postI D k r [(a_t, .inr (8, [.int t_units, .ref a_t_population, .ref a_t_area, .ref a_t_community, .ref a_t_outer, .ref a_t_neighbors, .ref a_t_lengths, v_t_cores, v_t_districts, v_t_tolerance, v_t_hasPlan, .ref a_t_plan])), (a_t_neighbors, .inl (k 0, 12, .inl t_neighbors))] [(a_t, .inr (8, [.int t_units, .ref a_t_population, .ref a_t_area, .ref a_t_community, .ref a_t_outer, .ref a_t_neighbors, .ref a_t_lengths, v_t_cores, v_t_districts, v_t_tolerance, v_t_hasPlan, .ref a_t_plan])), (a_t_neighbors, .inl (k 0, 12, .inl t_neighbors))] sz) 0 0 (va_A [(a_t, .inr (8, [.int t_units, .ref a_t_population, .ref a_t_area, .ref a_t_community, .ref a_t_outer, .ref a_t_neighbors, .ref a_t_lengths, v_t_cores, v_t_districts, v_t_tolerance, v_t_hasPlan, .ref a_t_plan])), (a_t_neighbors, .inl (k 0, 12, .inl t_neighbors))] sz) := by
  refine Met.ofW (cc := cX9_isContiguous) (maxL := 2) (ret := (some .boolean)) (by decide) rfl ?_
  intro p e s m args below meth c s₁ B hml hv
  obtain ⟨rfl, hsz, hP, hK, hD0⟩ := hv
  have hx := B.exec
  have hb := B.bytes
  have hr := B.returns
  have hts0 := atoms_spec (ws := (Cond.code yX9_isContiguous cX9_isContiguous 2 (some .boolean) :: Ts)) B.pre
  have hts : ∀ w ∈ uT, w.before _ s = true := fun w h => hts0 w (List.mem_cons_of_mem _ ((hTs w).mpr h))
  clear hts0
  have hown : s.vm.findClass RX9 = some m.cls := findClass_of_methodNamed B.named
  have hlocks := B.notSynchronized
  subst hsz
  have hD := hD0.self (sz := s.heap.size)
  generalize hAe : va_A [(a_t, .inr (8, [.int t_units, .ref a_t_population, .ref a_t_area, .ref a_t_community, .ref a_t_outer, .ref a_t_neighbors, .ref a_t_lengths, v_t_cores, v_t_districts, v_t_tolerance, v_t_hasPlan, .ref a_t_plan])), (a_t_neighbors, .inl (k 0, 12, .inl t_neighbors))] s.heap.size = A at hD ⊢
  have hA : ∀ q : Nat, s.heap.size ≤ q → A q := fun q h => by rw [← hAe]; exact Or.inr h
  have hH : HOK D A s.heap [(a_t, .inr (8, [.int t_units, .ref a_t_population, .ref a_t_area, .ref a_t_community, .ref a_t_outer, .ref a_t_neighbors, .ref a_t_lengths, v_t_cores, v_t_districts, v_t_tolerance, v_t_hasPlan, .ref a_t_plan])), (a_t_neighbors, .inl (k 0, 12, .inl t_neighbors))] s.heap [] := ⟨hP, hD, va_S.rf⟩
  have hl := lv_entry ([.ref a_t, .int x1]) (n := 2) (Nat.le_of_ble_eq_true rfl)
  rw [lg_entry_eq]
  generalize (lg_sl ([.ref a_t, .int x1]) ++ List.replicate (2 - (lg_sl ([.ref a_t, .int x1])).length) Slot.unset).toArray = ls at hl ⊢
  have hl : lv_has ls 2 [(0, .ref a_t), (1, .int x1)] := hl
  generalize hQ : MQ below (postI D k r [(a_t, .inr (8, [.int t_units, .ref a_t_population, .ref a_t_area, .ref a_t_community, .ref a_t_outer, .ref a_t_neighbors, .ref a_t_lengths, v_t_cores, v_t_districts, v_t_tolerance, v_t_hasPlan, .ref a_t_plan])), (a_t_neighbors, .inl (k 0, 12, .inl t_neighbors))] [(a_t, .inr (8, [.int t_units, .ref a_t_population, .ref a_t_area, .ref a_t_community, .ref a_t_outer, .ref a_t_neighbors, .ref a_t_lengths, v_t_cores, v_t_districts, v_t_tolerance, v_t_hasPlan, .ref a_t_plan])), (a_t_neighbors, .inl (k 0, 12, .inl t_neighbors))] s.heap.size) (List.toArray [.ref a_t, .int x1]) s 0 0 A = Q
  clear hP hD hD0
  suffices K : ∀ (H : Heap) (locs : List Loc), HOK D A s.heap [(a_t, .inr (8, [.int t_units, .ref a_t_population, .ref a_t_area, .ref a_t_community, .ref a_t_outer, .ref a_t_neighbors, .ref a_t_lengths, v_t_cores, v_t_districts, v_t_tolerance, v_t_hasPlan, .ref a_t_plan])), (a_t_neighbors, .inl (k 0, 12, .inl t_neighbors))] H locs → W p l e ({ frames := 1, cells := 0, slots := 0, locals := 25 } : Room) s m (List.toArray [.ref a_t, .int x1]) below meth c H locs 0 0 Q (F0 m 0 ls []) from K s.heap [] hH
  intro H locs hH
  rw [fX9_isContiguous] at h
  refine lv_aload_n hx hb dX9_isContiguous_0 rfl (lv_at hl 0 rfl) ?_
  refine lv_iload_n hx hb dX9_isContiguous_1 rfl (lv_at hl 1 rfl) ?_
  obtain ⟨q1, hqq1, h⟩ := dc_bind h
  refine gc_Vi (ws' := [(a_t, .inr (8, [.int t_units, .ref a_t_population, .ref a_t_area, .ref a_t_community, .ref a_t_outer, .ref a_t_neighbors, .ref a_t_lengths, v_t_cores, v_t_districts, v_t_tolerance, v_t_hasPlan, .ref a_t_plan])), (a_t_neighbors, .inl (k 0, 12, .inl t_neighbors))]) (isC := [0, 1]) (isR := []) (As := [.int x1]) (rest := []) (n := 1) (ci := 8) (cq := (RX9, TX9, 12)) hTs ⟨hx, hb, hml, hown, hts⟩ (mX9_reach l Ts hTs D k H.size a_t a_t_population a_t_area a_t_community a_t_outer a_t_neighbors a_t_lengths a_t_plan t_neighbors t_units v_t_cores v_t_districts v_t_hasPlan v_t_tolerance x1 q1 hqq1) u_ml_X9_99 u_im_X9_reach u_se_X9_reach u_in_X9 u_co_X9_reach hd_X9_reach ⟨Nat.le_of_ble_eq_true rfl, Nat.le_of_ble_eq_true rfl⟩ ⟨rfl, rfl⟩ hK hH hA ⟨rfl, rfl, rfl, rfl, rfl, rfl⟩ rfl rfl rfl rfl hl.1 (by decide) dX9_isContiguous_2 ⟨Nat.le_of_ble_eq_true rfl, Nat.le_of_ble_eq_true rfl⟩ (fun H locs hH => ?_)
  refine lv_iload_n hx hb dX9_isContiguous_5 rfl (lv_at hl 1 rfl) ?_
  refine lv_icmp_ne (tgt := 13) hx hb dX9_isContiguous_6 (by decide) (fun c2 => ?_) (fun c2 => ?_)
  · replace h := dc_neg c2 h
    refine lv_iconst (v := 0) hx hb dX9_isContiguous_13 (by decide) ?_
    have h := Option.some.inj h
    subst h
    exact ge_z hx hb hr rfl hlocks hQ hK hH hAe rfl dX9_isContiguous_14
  · replace h := dc_pos c2 h
    refine lv_iconst (v := 1) hx hb dX9_isContiguous_9 (by decide) ?_
    refine lv_goto (tgt := 14) hx hb dX9_isContiguous_10 (by decide) ?_
    have h := Option.some.inj h
    subst h
    exact ge_z hx hb hr rfl hlocks hQ hK hH hAe rfl dX9_isContiguous_14
