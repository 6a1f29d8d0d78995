theorem hd_X6_roughCompactness : yX6_roughCompactness.cls ≠ "java/lang/invoke/MethodHandle" ∧ yX6_roughCompactness.cls ≠ "java/lang/invoke/VarHandle" ∧ (parseMethodDescriptor yX6_roughCompactness.desc).map (fun d => d.parameters.length) = some 2 := by decide +kernel
set_option maxHeartbeats 4000000 in
set_option maxRecDepth 100000 in
theorem mX6_roughCompactness (l : Launch) (Ts : List Cond) (hTs : ∀ w, w ∈ Ts ↔ w ∈ uT) (D : va_G) (k : Nat → ClassId) (sz : Nat) (a_p0 : Nat) (a_p0_population : Nat) (a_p0_area : Nat) (a_p0_community : Nat) (a_p0_outer : Nat) (a_p0_neighbors : Nat) (a_p0_lengths : Nat) (a_p0_plan : Nat) (p0_area : Nat → Int32) (p0_lengths : Nat → Int32) (p0_outer : Nat → Int32) (p0_units : Int32) (v_p0_cores : Value) (v_p0_districts : Value) (v_p0_hasPlan : Value) (v_p0_tolerance : Value) (x1 : Int32) (r : UInt32) (h : fX6_roughCompactness p0_area p0_lengths p0_outer p0_units x1 = some r) : Met l yX6_roughCompactness (Cond.code yX6_roughCompactness cX6_roughCompactness 3 (some .float) :: Ts) ({ frames := 2, cells := 0, slots := 0, locals := 47 } : Room) (preM D k [.ref a_p0, .int x1] [(a_p0, .inr (8, [.int p0_units, .ref a_p0_population, .ref a_p0_area, .ref a_p0_community, .ref a_p0_outer, .ref a_p0_neighbors, .ref a_p0_lengths, v_p0_cores, v_p0_districts, v_p0_tolerance, v_p0_hasPlan, .ref a_p0_plan])), (a_p0_outer, .inl (k 0, 12, .inl p0_outer)), (a_p0_lengths, .inl (k 0, 144, .inl p0_lengths)), (a_p0_area, .inl (k 0, 12, .inl p0_area))] sz) (postF D k r [(a_p0, .inr (8, [.int p0_units, .ref a_p0_population, .ref a_p0_area, .ref a_p0_community, .ref a_p0_outer, .ref a_p0_neighbors, .ref a_p0_lengths, v_p0_cores, v_p0_districts, v_p0_tolerance, v_p0_hasPlan, .ref a_p0_plan])), (a_p0_outer, .inl (k 0, 12, .inl p0_outer)), (a_p0_lengths, .inl (k 0, 144, .inl p0_lengths)), (a_p0_area, .inl (k 0, 12, .inl p0_area))] [(a_p0, .inr (8, [.int p0_units, .ref a_p0_population, .ref a_p0_area, .ref a_p0_community, .ref a_p0_outer, .ref a_p0_neighbors, .ref a_p0_lengths, v_p0_cores, v_p0_districts, v_p0_tolerance, v_p0_hasPlan, .ref a_p0_plan])), (a_p0_outer, .inl (k 0, 12, .inl p0_outer)), (a_p0_lengths, .inl (k 0, 144, .inl p0_lengths)), (a_p0_area, .inl (k 0, 12, .inl p0_area))] sz) 0 0 (va_A [(a_p0, .inr (8, [.int p0_units, .ref a_p0_population, .ref a_p0_area, .ref a_p0_community, .ref a_p0_outer, .ref a_p0_neighbors, .ref a_p0_lengths, v_p0_cores, v_p0_districts, v_p0_tolerance, v_p0_hasPlan, .ref a_p0_plan])), (a_p0_outer, .inl (k 0, 12, .inl p0_outer)), (a_p0_lengths, .inl (k 0, 144, .inl p0_lengths)), (a_p0_area, .inl (k 0, 12, .inl p0_area))] sz) := by
  refine Met.ofW (cc := cX6_roughCompactness) (maxL := 3) (ret := (some .float)) (by decide) rfl ?_
  intro p e s m args below meth c s₁ B hml hv
  obtain ⟨rfl, hsz, hP, hK, hD0⟩ := hv
  have hx := B.exec
  have hb := B.bytes
  have hr := B.returns
  have hts0 := atoms_spec (ws := (Cond.code yX6_roughCompactness cX6_roughCompactness 3 (some .float) :: Ts)) B.pre
  have hts : ∀ w ∈ uT, w.before _ s = true := fun w h => hts0 w (List.mem_cons_of_mem _ ((hTs w).mpr h))
  clear hts0
  have hown : s.vm.findClass RX6 = some m.cls := findClass_of_methodNamed B.named
  have hlocks := B.notSynchronized
  subst hsz
  have hD := hD0.self (sz := s.heap.size)
  generalize hAe : va_A [(a_p0, .inr (8, [.int p0_units, .ref a_p0_population, .ref a_p0_area, .ref a_p0_community, .ref a_p0_outer, .ref a_p0_neighbors, .ref a_p0_lengths, v_p0_cores, v_p0_districts, v_p0_tolerance, v_p0_hasPlan, .ref a_p0_plan])), (a_p0_outer, .inl (k 0, 12, .inl p0_outer)), (a_p0_lengths, .inl (k 0, 144, .inl p0_lengths)), (a_p0_area, .inl (k 0, 12, .inl p0_area))] s.heap.size = A at hD ⊢
  have hA : ∀ q : Nat, s.heap.size ≤ q → A q := fun q h => by rw [← hAe]; exact Or.inr h
  have hH : HOK D A s.heap [(a_p0, .inr (8, [.int p0_units, .ref a_p0_population, .ref a_p0_area, .ref a_p0_community, .ref a_p0_outer, .ref a_p0_neighbors, .ref a_p0_lengths, v_p0_cores, v_p0_districts, v_p0_tolerance, v_p0_hasPlan, .ref a_p0_plan])), (a_p0_outer, .inl (k 0, 12, .inl p0_outer)), (a_p0_lengths, .inl (k 0, 144, .inl p0_lengths)), (a_p0_area, .inl (k 0, 12, .inl p0_area))] s.heap [] := ⟨hP, hD, va_S.rf⟩
  have hl := lv_entry ([.ref a_p0, .int x1]) (n := 3) (Nat.le_of_ble_eq_true rfl)
  rw [lg_entry_eq]
  generalize (lg_sl ([.ref a_p0, .int x1]) ++ List.replicate (3 - (lg_sl ([.ref a_p0, .int x1])).length) Slot.unset).toArray = ls at hl ⊢
  have hl : lv_has ls 3 [(0, .ref a_p0), (1, .int x1)] := hl
  generalize hQ : MQ below (postF D k r [(a_p0, .inr (8, [.int p0_units, .ref a_p0_population, .ref a_p0_area, .ref a_p0_community, .ref a_p0_outer, .ref a_p0_neighbors, .ref a_p0_lengths, v_p0_cores, v_p0_districts, v_p0_tolerance, v_p0_hasPlan, .ref a_p0_plan])), (a_p0_outer, .inl (k 0, 12, .inl p0_outer)), (a_p0_lengths, .inl (k 0, 144, .inl p0_lengths)), (a_p0_area, .inl (k 0, 12, .inl p0_area))] [(a_p0, .inr (8, [.int p0_units, .ref a_p0_population, .ref a_p0_area, .ref a_p0_community, .ref a_p0_outer, .ref a_p0_neighbors, .ref a_p0_lengths, v_p0_cores, v_p0_districts, v_p0_tolerance, v_p0_hasPlan, .ref a_p0_plan])), (a_p0_outer, .inl (k 0, 12, .inl p0_outer)), (a_p0_lengths, .inl (k 0, 144, .inl p0_lengths)), (a_p0_area, .inl (k 0, 12, .inl p0_area))] s.heap.size) (List.toArray [.ref a_p0, .int x1]) s 0 0 A = Q
  clear hP hD hD0
  suffices K : ∀ (H : Heap) (locs : List Loc), HOK D A s.heap [(a_p0, .inr (8, [.int p0_units, .ref a_p0_population, .ref a_p0_area, .ref a_p0_community, .ref a_p0_outer, .ref a_p0_neighbors, .ref a_p0_lengths, v_p0_cores, v_p0_districts, v_p0_tolerance, v_p0_hasPlan, .ref a_p0_plan])), (a_p0_outer, .inl (k 0, 12, .inl p0_outer)), (a_p0_lengths, .inl (k 0, 144, .inl p0_lengths)), (a_p0_area, .inl (k 0, 12, .inl p0_area))] H locs → W p l e ({ frames := 2, cells := 0, slots := 0, locals := 47 } : Room) s m (List.toArray [.ref a_p0, .int x1]) below meth c H locs 0 0 Q (F0 m 0 ls []) from K s.heap [] hH
  intro H locs hH
  rw [fX6_roughCompactness] at h
  refine lv_aload_n hx hb dX6_roughCompactness_0 rfl (lv_at hl 0 rfl) ?_
  refine lv_iload_n hx hb dX6_roughCompactness_1 rfl (lv_at hl 1 rfl) ?_
  obtain ⟨q1, hqq1, h⟩ := dc_bind h
  refine gc_Vi (ws' := [(a_p0, .inr (8, [.int p0_units, .ref a_p0_population, .ref a_p0_area, .ref a_p0_community, .ref a_p0_outer, .ref a_p0_neighbors, .ref a_p0_lengths, v_p0_cores, v_p0_districts, v_p0_tolerance, v_p0_hasPlan, .ref a_p0_plan])), (a_p0_outer, .inl (k 0, 12, .inl p0_outer)), (a_p0_lengths, .inl (k 0, 144, .inl p0_lengths)), (a_p0_area, .inl (k 0, 12, .inl p0_area))]) (As := [.int x1]) (rest := []) (n := 1) (ci := 8) (cq := (RX9, TX9, 12)) hTs ⟨hx, hb, hml, hown, hts⟩ (mX9_perimeterOf l Ts hTs D k H.size a_p0 a_p0_population a_p0_area a_p0_community a_p0_outer a_p0_neighbors a_p0_lengths a_p0_plan p0_lengths p0_outer p0_units v_p0_cores v_p0_districts v_p0_hasPlan v_p0_tolerance x1 q1 hqq1) u_ml_X6_45 u_im_X9_perimeterOf u_se_X9_perimeterOf u_in_X9 u_co_X9_perimeterOf hd_X9_perimeterOf ⟨Nat.le_of_ble_eq_true rfl, Nat.le_of_ble_eq_true rfl⟩ ⟨rfl, rfl⟩ hK hH hA (cut0 (isC := [0, 1, 2]) rfl rfl rfl) rfl rfl rfl rfl hl.1 (Nat.le_of_ble_eq_true rfl) dX6_roughCompactness_2 ⟨Nat.le_of_ble_eq_true rfl, Nat.le_of_ble_eq_true rfl⟩ (fun H locs hH => ?_)
  refine lv_istore_n (lv' := [(2, .int q1), (0, .ref a_p0), (1, .int x1)]) hx hb dX6_roughCompactness_5 rfl hl (by decide) rfl (fun ls hl => ?_)
  refine lv_iload_n hx hb dX6_roughCompactness_6 rfl (lv_at hl 0 rfl) ?_
  refine lv_if_ne (tgt := 12) hx hb dX6_roughCompactness_7 (by decide) (fun c2 => ?_) (fun c2 => ?_)
  · replace h := dc_neg c2 h
    refine lv_bipush (v := 16) hx hb dX6_roughCompactness_12 (by decide) ?_
    refine lv_aload_n hx hb dX6_roughCompactness_14 rfl (lv_at hl 1 rfl) ?_
    refine lv_iload_n hx hb dX6_roughCompactness_15 rfl (lv_at hl 2 rfl) ?_
    obtain ⟨q3, hqq3, h⟩ := dc_bind h
    refine gc_Vi (ws' := [(a_p0, .inr (8, [.int p0_units, .ref a_p0_population, .ref a_p0_area, .ref a_p0_community, .ref a_p0_outer, .ref a_p0_neighbors, .ref a_p0_lengths, v_p0_cores, v_p0_districts, v_p0_tolerance, v_p0_hasPlan, .ref a_p0_plan])), (a_p0_outer, .inl (k 0, 12, .inl p0_outer)), (a_p0_lengths, .inl (k 0, 144, .inl p0_lengths)), (a_p0_area, .inl (k 0, 12, .inl p0_area))]) (As := [.int x1]) (rest := [.int (16 : Int32)]) (n := 1) (ci := 8) (cq := (RX9, TX9, 12)) hTs ⟨hx, hb, hml, hown, hts⟩ (mX9_areaOf l Ts hTs D k H.size a_p0 a_p0_population a_p0_area a_p0_community a_p0_outer a_p0_neighbors a_p0_lengths a_p0_plan p0_area p0_units v_p0_cores v_p0_districts v_p0_hasPlan v_p0_tolerance x1 q3 hqq3) u_ml_X6_48 u_im_X9_areaOf u_se_X9_areaOf u_in_X9 u_co_X9_areaOf hd_X9_areaOf ⟨Nat.le_of_ble_eq_true rfl, Nat.le_of_ble_eq_true rfl⟩ ⟨rfl, rfl⟩ hK hH hA (cut0 (isC := [0, 3]) rfl rfl rfl) rfl rfl rfl rfl hl.1 (Nat.le_of_ble_eq_true rfl) dX6_roughCompactness_16 ⟨Nat.le_of_ble_eq_true rfl, Nat.le_of_ble_eq_true rfl⟩ (fun H locs hH => ?_)
    refine lv_imul hx hb dX6_roughCompactness_19 ?_
    refine lv_i2f hx hb dX6_roughCompactness_20 ?_
    refine lv_iload_n hx hb dX6_roughCompactness_21 rfl (lv_at hl 0 rfl) ?_
    refine lv_iload_n hx hb dX6_roughCompactness_22 rfl (lv_at hl 0 rfl) ?_
    refine lv_imul hx hb dX6_roughCompactness_23 ?_
    refine lv_i2f hx hb dX6_roughCompactness_24 ?_
    obtain ⟨g4, h⟩ := dc_need h
    refine lv_fdiv hx hb dX6_roughCompactness_25 g4 ?_
    have h := Option.some.inj h
    subst h
    exact ge_f hx hb hr hlocks hQ hK hH hAe rfl dX6_roughCompactness_26
  · replace h := dc_pos c2 h
    refine lv_fconst0 hx hb dX6_roughCompactness_10 ?_
    have h := Option.some.inj h
    subst h
    exact ge_f hx hb hr hlocks hQ hK hH hAe rfl dX6_roughCompactness_11
theorem hd_X5_takeFrom : yX5_takeFrom.cls = RX5 ∧ yX5_takeFrom.cls ≠ "java/lang/invoke/MethodHandle" ∧ yX5_takeFrom.cls ≠ "java/lang/invoke/VarHandle" ∧ (parseMethodDescriptor yX5_takeFrom.desc).map (fun d => d.parameters.length) = some 2 := by decide +kernel
set_option maxHeartbeats 4000000 in
set_option maxRecDepth 100000 in
theorem mX5_takeFrom (l : Launch) (Ts : List Cond) (hTs : ∀ w, w ∈ Ts ↔ w ∈ uT) (D : va_G) (k : Nat → ClassId) (sz : Nat) (a_p1 : Nat) (a_t : Nat) (a_t_whole : Nat) (a_t_rough : Nat) (a_p1_population : Nat) (a_p1_area : Nat) (a_p1_community : Nat) (a_p1_outer : Nat) (a_p1_neighbors : Nat) (a_p1_lengths : Nat) (a_p1_plan : Nat) (a_p1_plan_places : Nat) (a_p1_plan_sets : Nat) (p1_area : Nat → Int32) (p1_districts : Int32) (p1_lengths : Nat → Int32) (p1_outer : Nat → Int32) (p1_plan_sets : Nat → Int32) (p1_population : Nat → Int32) (p1_units : Int32) (t_rough : Nat → UInt32) (t_whole : Nat → Int32) (v_p1_cores : Value) (v_p1_hasPlan : Value) (v_p1_tolerance : Value) (v_t_isExact : Value) (v_t_size : Value) (x2 : Int32) (r : Int32 × (Nat → UInt32) × Int32 × (Nat → Int32)) (h : fX5_takeFrom p1_area p1_districts p1_lengths p1_outer p1_plan_sets p1_population p1_units t_rough t_whole x2 = some r) : Met l yX5_takeFrom (Cond.code yX5_takeFrom cX5_takeFrom 5 none :: Ts) ({ frames := 3, cells := 0, slots := 0, locals := 69 } : Room) (preM D k [.ref a_t, .ref a_p1, .int x2] [(a_t, .inr (5, [.ref a_t_whole, .ref a_t_rough, v_t_size, v_t_isExact])), (a_p1, .inr (8, [.int p1_units, .ref a_p1_population, .ref a_p1_area, .ref a_p1_community, .ref a_p1_outer, .ref a_p1_neighbors, .ref a_p1_lengths, v_p1_cores, .int p1_districts, v_p1_tolerance, v_p1_hasPlan, .ref a_p1_plan])), (a_p1_plan, .inr (4, [.ref a_p1_plan_places, .ref a_p1_plan_sets])), (a_p1_plan_sets, .inl (k 0, 4, .inl p1_plan_sets)), (a_p1_outer, .inl (k 0, 12, .inl p1_outer)), (a_p1_lengths, .inl (k 0, 144, .inl p1_lengths)), (a_p1_area, .inl (k 0, 12, .inl p1_area)), (a_t_rough, .inl (k 3, 4, .inr (.inr (.inl t_rough)))), (a_p1_population, .inl (k 0, 12, .inl p1_population)), (a_t_whole, .inl (k 0, 4, .inl t_whole))] sz) (postV D k [(a_t, .inr (5, [.ref a_t_whole, .ref a_t_rough, v_t_size, v_t_isExact])), (a_p1, .inr (8, [.int p1_units, .ref a_p1_population, .ref a_p1_area, .ref a_p1_community, .ref a_p1_outer, .ref a_p1_neighbors, .ref a_p1_lengths, v_p1_cores, .int p1_districts, v_p1_tolerance, v_p1_hasPlan, .ref a_p1_plan])), (a_p1_plan, .inr (4, [.ref a_p1_plan_places, .ref a_p1_plan_sets])), (a_p1_plan_sets, .inl (k 0, 4, .inl p1_plan_sets)), (a_p1_outer, .inl (k 0, 12, .inl p1_outer)), (a_p1_lengths, .inl (k 0, 144, .inl p1_lengths)), (a_p1_area, .inl (k 0, 12, .inl p1_area)), (a_t_rough, .inl (k 3, 4, .inr (.inr (.inl t_rough)))), (a_p1_population, .inl (k 0, 12, .inl p1_population)), (a_t_whole, .inl (k 0, 4, .inl t_whole))] [(a_t, .inr (5, [.ref a_t_whole, .ref a_t_rough, .int r.2.2.1, .int r.1])), (a_p1, .inr (8, [.int p1_units, .ref a_p1_population, .ref a_p1_area, .ref a_p1_community, .ref a_p1_outer, .ref a_p1_neighbors, .ref a_p1_lengths, v_p1_cores, .int p1_districts, v_p1_tolerance, v_p1_hasPlan, .ref a_p1_plan])), (a_p1_plan, .inr (4, [.ref a_p1_plan_places, .ref a_p1_plan_sets])), (a_p1_plan_sets, .inl (k 0, 4, .inl p1_plan_sets)), (a_p1_outer, .inl (k 0, 12, .inl p1_outer)), (a_p1_lengths, .inl (k 0, 144, .inl p1_lengths)), (a_p1_area, .inl (k 0, 12, .inl p1_area)), (a_t_rough, .inl (k 3, 4, .inr (.inr (.inl r.2.1)))), (a_p1_population, .inl (k 0, 12, .inl p1_population)), (a_t_whole, .inl (k 0, 4, .inl r.2.2.2))] sz) 0 0 (va_A [(a_t, .inr (5, [.ref a_t_whole, .ref a_t_rough, v_t_size, v_t_isExact])), (a_p1, .inr (8, [.int p1_units, .ref a_p1_population, .ref a_p1_area, .ref a_p1_community, .ref a_p1_outer, .ref a_p1_neighbors, .ref a_p1_lengths, v_p1_cores, .int p1_districts, v_p1_tolerance, v_p1_hasPlan, .ref a_p1_plan])), (a_p1_plan, .inr (4, [.ref a_p1_plan_places, .ref a_p1_plan_sets])), (a_p1_plan_sets, .inl (k 0, 4, .inl p1_plan_sets)), (a_p1_outer, .inl (k 0, 12, .inl p1_outer)), (a_p1_lengths, .inl (k 0, 144, .inl p1_lengths)), (a_p1_area, .inl (k 0, 12, .inl p1_area)), (a_t_rough, .inl (k 3, 4, .inr (.inr (.inl t_rough)))), (a_p1_population, .inl (k 0, 12, .inl p1_population)), (a_t_whole, .inl (k 0, 4, .inl t_whole))] sz) := by
  refine Met.ofW (cc := cX5_takeFrom) (maxL := 5) (ret := none) (by decide) rfl ?_
  intro p e s m args below meth c s₁ B hml hv
  obtain ⟨rfl, hsz, hP, hK, hD0⟩ := hv
  have hx := B.exec
  have hb := B.bytes
  have hr := B.returns
  have hts0 := atoms_spec (ws := (Cond.code yX5_takeFrom cX5_takeFrom 5 none :: Ts)) B.pre
  have hts : ∀ w ∈ uT, w.before _ s = true := fun w h => hts0 w (List.mem_cons_of_mem _ ((hTs w).mpr h))
  clear hts0
  have hown : s.vm.findClass RX5 = some m.cls := findClass_of_methodNamed B.named
  have hlocks := B.notSynchronized
  subst hsz
  have hD := hD0.self (sz := s.heap.size)
  generalize hAe : va_A [(a_t, .inr (5, [.ref a_t_whole, .ref a_t_rough, v_t_size, v_t_isExact])), (a_p1, .inr (8, [.int p1_units, .ref a_p1_population, .ref a_p1_area, .ref a_p1_community, .ref a_p1_outer, .ref a_p1_neighbors, .ref a_p1_lengths, v_p1_cores, .int p1_districts, v_p1_tolerance, v_p1_hasPlan, .ref a_p1_plan])), (a_p1_plan, .inr (4, [.ref a_p1_plan_places, .ref a_p1_plan_sets])), (a_p1_plan_sets, .inl (k 0, 4, .inl p1_plan_sets)), (a_p1_outer, .inl (k 0, 12, .inl p1_outer)), (a_p1_lengths, .inl (k 0, 144, .inl p1_lengths)), (a_p1_area, .inl (k 0, 12, .inl p1_area)), (a_t_rough, .inl (k 3, 4, .inr (.inr (.inl t_rough)))), (a_p1_population, .inl (k 0, 12, .inl p1_population)), (a_t_whole, .inl (k 0, 4, .inl t_whole))] s.heap.size = A at hD ⊢
  have hA : ∀ q : Nat, s.heap.size ≤ q → A q := fun q h => by rw [← hAe]; exact Or.inr h
  have hH : HOK D A s.heap [(a_t, .inr (5, [.ref a_t_whole, .ref a_t_rough, v_t_size, v_t_isExact])), (a_p1, .inr (8, [.int p1_units, .ref a_p1_population, .ref a_p1_area, .ref a_p1_community, .ref a_p1_outer, .ref a_p1_neighbors, .ref a_p1_lengths, v_p1_cores, .int p1_districts, v_p1_tolerance, v_p1_hasPlan, .ref a_p1_plan])), (a_p1_plan, .inr (4, [.ref a_p1_plan_places, .ref a_p1_plan_sets])), (a_p1_plan_sets, .inl (k 0, 4, .inl p1_plan_sets)), (a_p1_outer, .inl (k 0, 12, .inl p1_outer)), (a_p1_lengths, .inl (k 0, 144, .inl p1_lengths)), (a_p1_area, .inl (k 0, 12, .inl p1_area)), (a_t_rough, .inl (k 3, 4, .inr (.inr (.inl t_rough)))), (a_p1_population, .inl (k 0, 12, .inl p1_population)), (a_t_whole, .inl (k 0, 4, .inl t_whole))] s.heap [] := ⟨hP, hD, va_S.rf⟩
  have hl := lv_entry ([.ref a_t, .ref a_p1, .int x2]) (n := 5) (Nat.le_of_ble_eq_true rfl)
  rw [lg_entry_eq]
  generalize (lg_sl ([.ref a_t, .ref a_p1, .int x2]) ++ List.replicate (5 - (lg_sl ([.ref a_t, .ref a_p1, .int x2])).length) Slot.unset).toArray = ls at hl ⊢
  have hl : lv_has ls 5 [(0, .ref a_t), (1, .ref a_p1), (2, .int x2)] := hl
  generalize hQ : MQ below (postV D k [(a_t, .inr (5, [.ref a_t_whole, .ref a_t_rough, v_t_size, v_t_isExact])), (a_p1, .inr (8, [.int p1_units, .ref a_p1_population, .ref a_p1_area, .ref a_p1_community, .ref a_p1_outer, .ref a_p1_neighbors, .ref a_p1_lengths, v_p1_cores, .int p1_districts, v_p1_tolerance, v_p1_hasPlan, .ref a_p1_plan])), (a_p1_plan, .inr (4, [.ref a_p1_plan_places, .ref a_p1_plan_sets])), (a_p1_plan_sets, .inl (k 0, 4, .inl p1_plan_sets)), (a_p1_outer, .inl (k 0, 12, .inl p1_outer)), (a_p1_lengths, .inl (k 0, 144, .inl p1_lengths)), (a_p1_area, .inl (k 0, 12, .inl p1_area)), (a_t_rough, .inl (k 3, 4, .inr (.inr (.inl t_rough)))), (a_p1_population, .inl (k 0, 12, .inl p1_population)), (a_t_whole, .inl (k 0, 4, .inl t_whole))] [(a_t, .inr (5, [.ref a_t_whole, .ref a_t_rough, .int r.2.2.1, .int r.1])), (a_p1, .inr (8, [.int p1_units, .ref a_p1_population, .ref a_p1_area, .ref a_p1_community, .ref a_p1_outer, .ref a_p1_neighbors, .ref a_p1_lengths, v_p1_cores, .int p1_districts, v_p1_tolerance, v_p1_hasPlan, .ref a_p1_plan])), (a_p1_plan, .inr (4, [.ref a_p1_plan_places, .ref a_p1_plan_sets])), (a_p1_plan_sets, .inl (k 0, 4, .inl p1_plan_sets)), (a_p1_outer, .inl (k 0, 12, .inl p1_outer)), (a_p1_lengths, .inl (k 0, 144, .inl p1_lengths)), (a_p1_area, .inl (k 0, 12, .inl p1_area)), (a_t_rough, .inl (k 3, 4, .inr (.inr (.inl r.2.1)))), (a_p1_population, .inl (k 0, 12, .inl p1_population)), (a_t_whole, .inl (k 0, 4, .inl r.2.2.2))] s.heap.size) (List.toArray [.ref a_t, .ref a_p1, .int x2]) s 0 0 A = Q
  clear hP hD hD0
  suffices K : ∀ (H : Heap) (locs : List Loc), HOK D A s.heap [(a_t, .inr (5, [.ref a_t_whole, .ref a_t_rough, v_t_size, v_t_isExact])), (a_p1, .inr (8, [.int p1_units, .ref a_p1_population, .ref a_p1_area, .ref a_p1_community, .ref a_p1_outer, .ref a_p1_neighbors, .ref a_p1_lengths, v_p1_cores, .int p1_districts, v_p1_tolerance, v_p1_hasPlan, .ref a_p1_plan])), (a_p1_plan, .inr (4, [.ref a_p1_plan_places, .ref a_p1_plan_sets])), (a_p1_plan_sets, .inl (k 0, 4, .inl p1_plan_sets)), (a_p1_outer, .inl (k 0, 12, .inl p1_outer)), (a_p1_lengths, .inl (k 0, 144, .inl p1_lengths)), (a_p1_area, .inl (k 0, 12, .inl p1_area)), (a_t_rough, .inl (k 3, 4, .inr (.inr (.inl t_rough)))), (a_p1_population, .inl (k 0, 12, .inl p1_population)), (a_t_whole, .inl (k 0, 4, .inl t_whole))] H locs → W p l e ({ frames := 3, cells := 0, slots := 0, locals := 69 } : Room) s m (List.toArray [.ref a_t, .ref a_p1, .int x2]) below meth c H locs 0 0 Q (F0 m 0 ls []) from K s.heap [] hH
  intro H locs hH
  have L15 : ∀ (y15_t_isExact : Int32) (y15_t_size : Int32) (n : Nat), ∀ (kf : (Nat → UInt32) → (Nat → Int32) → Option (Int32 × (Nat → UInt32) × Int32 × (Nat → Int32))) (y15_3 : Int32) (y15_t_rough : Nat → UInt32) (y15_t_whole : Nat → Int32), fX5_takeFrom_L15 p1_area p1_lengths p1_outer p1_plan_sets p1_population p1_units x2 y15_t_isExact y15_t_size n kf y15_3 y15_t_rough y15_t_whole = some r → (∀ (z15_t_rough : Nat → UInt32) (z15_t_whole : Nat → Int32) (H : Heap) (locs : List Loc) (ls : Array Slot), kf z15_t_rough z15_t_whole = some r → HOK D A s.heap [(a_t, .inr (5, [.ref a_t_whole, .ref a_t_rough, .int y15_t_size, .int y15_t_isExact])), (a_p1, .inr (8, [.int p1_units, .ref a_p1_population, .ref a_p1_area, .ref a_p1_community, .ref a_p1_outer, .ref a_p1_neighbors, .ref a_p1_lengths, v_p1_cores, .int p1_districts, v_p1_tolerance, v_p1_hasPlan, .ref a_p1_plan])), (a_p1_plan, .inr (4, [.ref a_p1_plan_places, .ref a_p1_plan_sets])), (a_p1_plan_sets, .inl (k 0, 4, .inl p1_plan_sets)), (a_p1_outer, .inl (k 0, 12, .inl p1_outer)), (a_p1_lengths, .inl (k 0, 144, .inl p1_lengths)), (a_p1_area, .inl (k 0, 12, .inl p1_area)), (a_t_rough, .inl (k 3, 4, .inr (.inr (.inl z15_t_rough)))), (a_p1_population, .inl (k 0, 12, .inl p1_population)), (a_t_whole, .inl (k 0, 4, .inl z15_t_whole))] H locs → lv_has ls 5 [] → W p l e ({ frames := 3, cells := 0, slots := 0, locals := 69 } : Room) s m (List.toArray [.ref a_t, .ref a_p1, .int x2]) below meth c H locs 0 0 Q (F0 m 71 ls [])) → ∀ (H : Heap) (locs : List Loc) (ls : Array Slot), HOK D A s.heap [(a_t, .inr (5, [.ref a_t_whole, .ref a_t_rough, .int y15_t_size, .int y15_t_isExact])), (a_p1, .inr (8, [.int p1_units, .ref a_p1_population, .ref a_p1_area, .ref a_p1_community, .ref a_p1_outer, .ref a_p1_neighbors, .ref a_p1_lengths, v_p1_cores, .int p1_districts, v_p1_tolerance, v_p1_hasPlan, .ref a_p1_plan])), (a_p1_plan, .inr (4, [.ref a_p1_plan_places, .ref a_p1_plan_sets])), (a_p1_plan_sets, .inl (k 0, 4, .inl p1_plan_sets)), (a_p1_outer, .inl (k 0, 12, .inl p1_outer)), (a_p1_lengths, .inl (k 0, 144, .inl p1_lengths)), (a_p1_area, .inl (k 0, 12, .inl p1_area)), (a_t_rough, .inl (k 3, 4, .inr (.inr (.inl y15_t_rough)))), (a_p1_population, .inl (k 0, 12, .inl p1_population)), (a_t_whole, .inl (k 0, 4, .inl y15_t_whole))] H locs → lv_has ls 5 [(0, .ref a_t), (1, .ref a_p1), (2, .int x2), (3, .int y15_3)] → W p l e ({ frames := 3, cells := 0, slots := 0, locals := 69 } : Room) s m (List.toArray [.ref a_t, .ref a_p1, .int x2]) below meth c H locs 0 0 Q (F0 m 15 ls []) := by
    intro y15_t_isExact y15_t_size n
    induction n with
    | zero =>
      intro kf y15_3 y15_t_rough y15_t_whole h
      exact absurd h (by rw [fX5_takeFrom_L15]; exact fun q => by cases q)
    | succ n ih =>
      intro kf y15_3 y15_t_rough y15_t_whole h kk H locs ls hH hl
      rw [fX5_takeFrom_L15] at h
      refine lv_iload_n hx hb dX5_takeFrom_15 rfl (lv_at hl 3 rfl) ?_
      refine lv_aload_n hx hb dX5_takeFrom_16 rfl (lv_at hl 0 rfl) ?_
      refine gk_get (ci := 5) (C := RX5) (T := TX5) (N := 4) hx hb hts u_ws_X5 hown hK hH 0 rfl rfl 2 (by decide) u_fl_X5_19 rfl dX5_takeFrom_17 ?_
      refine lv_icmp_ge (tgt := 71) hx hb dX5_takeFrom_20 (by decide) (fun c2 => ?_) (fun c2 => ?_)
      · replace h := dc_pos c2 h
        exact kk y15_t_rough y15_t_whole H locs ls h hH (lv_sub hl [] rfl)
      · replace h := dc_neg c2 h
        refine lv_aload_n hx hb dX5_takeFrom_23 rfl (lv_at hl 1 rfl) ?_
        refine gk_get (ci := 8) (C := RX9) (T := TX9) (N := 12) hx hb hts u_ws_X9 hown hK hH 1 rfl rfl 11 (by decide) u_fl_X5_32 rfl dX5_takeFrom_24 ?_
        refine gk_get (ci := 4) (C := RX4) (T := TX4) (N := 2) hx hb hts u_ws_X4 hown hK hH 2 rfl rfl 1 (by decide) u_fl_X5_36 rfl dX5_takeFrom_27 ?_
        refine lv_iload_n hx hb dX5_takeFrom_30 rfl (lv_at hl 3 rfl) ?_
        obtain ⟨g3, h⟩ := dc_need h
        refine gk_iald hx hb hK hH 3 rfl (dk_in g3) dX5_takeFrom_31 ?_
        refine lv_istore (lv' := [(4, .int (p1_plan_sets y15_3.toNatClampNeg)), (0, .ref a_t), (1, .ref a_p1), (2, .int x2), (3, .int y15_3)]) hx hb dX5_takeFrom_32 hl (by decide) rfl (fun ls hl => ?_)
        refine lv_iload_n hx hb dX5_takeFrom_34 rfl (lv_at hl 3 rfl) ?_
        refine lv_if_eq (tgt := 53) hx hb dX5_takeFrom_35 (by decide) (fun c4 => ?_) (fun c4 => ?_)
        · replace h := dc_pos c4 h
          refine lv_aload_n hx hb dX5_takeFrom_53 rfl (lv_at hl 1 rfl) ?_
          refine gk_get (ci := 5) (C := RX5) (T := TX5) (N := 4) hx hb hts u_ws_X5 hown hK hH 0 rfl rfl 1 (by decide) u_fl_X5_15 rfl dX5_takeFrom_54 ?_
          refine lv_iload_n hx hb dX5_takeFrom_57 rfl (lv_at hl 4 rfl) ?_
          refine lv_aload_n hx hb dX5_takeFrom_58 rfl (lv_at hl 2 rfl) ?_
          refine lv_iload hx hb dX5_takeFrom_59 (lv_at hl 0 rfl) ?_
          obtain ⟨q5, hqq5, h⟩ := dc_bind h
          refine gc_Sf (ws' := [(a_t, .inr (5, [.ref a_t_whole, .ref a_t_rough, .int y15_t_size, .int y15_t_isExact])), (a_p1, .inr (8, [.int p1_units, .ref a_p1_population, .ref a_p1_area, .ref a_p1_community, .ref a_p1_outer, .ref a_p1_neighbors, .ref a_p1_lengths, v_p1_cores, .int p1_districts, v_p1_tolerance, v_p1_hasPlan, .ref a_p1_plan])), (a_p1_plan, .inr (4, [.ref a_p1_plan_places, .ref a_p1_plan_sets])), (a_p1_plan_sets, .inl (k 0, 4, .inl p1_plan_sets)), (a_p1_outer, .inl (k 0, 12, .inl p1_outer)), (a_p1_lengths, .inl (k 0, 144, .inl p1_lengths)), (a_p1_area, .inl (k 0, 12, .inl p1_area)), (a_t_rough, .inl (k 3, 4, .inr (.inr (.inl y15_t_rough)))), (a_p1_population, .inl (k 0, 12, .inl p1_population)), (a_t_whole, .inl (k 0, 4, .inl y15_t_whole))]) (As := [.ref a_p1, .int (p1_plan_sets y15_3.toNatClampNeg)]) (rest := [.int y15_3, .ref a_t_rough]) (n := 2) hTs ⟨hx, hb, hml, hown, hts⟩ (mX6_roughCompactness l Ts hTs D k H.size a_p1 a_p1_population a_p1_area a_p1_community a_p1_outer a_p1_neighbors a_p1_lengths a_p1_plan p1_area p1_lengths p1_outer p1_units v_p1_cores (.int p1_districts) v_p1_hasPlan v_p1_tolerance (p1_plan_sets y15_3.toNatClampNeg) q5 hqq5) u_ml_X5_45 u_st_X6_roughCompactness u_in_X6 u_co_X6_roughCompactness hd_X6_roughCompactness ⟨Nat.le_of_ble_eq_true rfl, Nat.le_of_ble_eq_true rfl⟩ ⟨rfl, rfl⟩ hK hH hA (cut0 (isC := [1, 4, 5, 6]) rfl rfl rfl) rfl rfl hl.1 (Nat.le_of_ble_eq_true rfl) dX5_takeFrom_61 ⟨Nat.le_of_ble_eq_true rfl, Nat.le_of_ble_eq_true rfl⟩ (fun H locs hH => ?_)
          obtain ⟨g6, h⟩ := dc_need h
          refine gk_fast hx hb hK hH 7 rfl (dk_in g6) dX5_takeFrom_64 [(a_t, .inr (5, [.ref a_t_whole, .ref a_t_rough, .int y15_t_size, .int y15_t_isExact])), (a_p1, .inr (8, [.int p1_units, .ref a_p1_population, .ref a_p1_area, .ref a_p1_community, .ref a_p1_outer, .ref a_p1_neighbors, .ref a_p1_lengths, v_p1_cores, .int p1_districts, v_p1_tolerance, v_p1_hasPlan, .ref a_p1_plan])), (a_p1_plan, .inr (4, [.ref a_p1_plan_places, .ref a_p1_plan_sets])), (a_p1_plan_sets, .inl (k 0, 4, .inl p1_plan_sets)), (a_p1_outer, .inl (k 0, 12, .inl p1_outer)), (a_p1_lengths, .inl (k 0, 144, .inl p1_lengths)), (a_p1_area, .inl (k 0, 12, .inl p1_area)), (a_t_rough, .inl (k 3, 4, .inr (.inr (.inl (vf_upd y15_t_rough y15_3.toNatClampNeg q5))))), (a_p1_population, .inl (k 0, 12, .inl p1_population)), (a_t_whole, .inl (k 0, 4, .inl y15_t_whole))] rfl (fun H locs hH => ?_)
          refine lv_iinc (v := (y15_3 + (1 : Int32))) (lv' := [(3, .int (y15_3 + (1 : Int32))), (4, .int (p1_plan_sets y15_3.toNatClampNeg)), (0, .ref a_t), (1, .ref a_p1), (2, .int x2)]) hx hb dX5_takeFrom_65 hl (k := 4) rfl rfl (by decide) rfl (fun ls hl => ?_)
          refine lv_goto (tgt := 15) hx hb dX5_takeFrom_68 (by decide) ?_
          exact ih kf (y15_3 + (1 : Int32)) (vf_upd y15_t_rough y15_3.toNatClampNeg q5) y15_t_whole h kk H locs ls hH (lv_sub hl [2, 3, 4, 0] rfl)
        · replace h := dc_neg c4 h
          refine lv_aload_n hx hb dX5_takeFrom_38 rfl (lv_at hl 1 rfl) ?_
          refine gk_get (ci := 5) (C := RX5) (T := TX5) (N := 4) hx hb hts u_ws_X5 hown hK hH 0 rfl rfl 0 (by decide) u_fl_X5_9 rfl dX5_takeFrom_39 ?_
          refine lv_iload_n hx hb dX5_takeFrom_42 rfl (lv_at hl 4 rfl) ?_
          refine lv_aload_n hx hb dX5_takeFrom_43 rfl (lv_at hl 2 rfl) ?_
          refine lv_iload hx hb dX5_takeFrom_44 (lv_at hl 0 rfl) ?_
          obtain ⟨q7, hqq7, h⟩ := dc_bind h
          refine gc_Vi (ws' := [(a_t, .inr (5, [.ref a_t_whole, .ref a_t_rough, .int y15_t_size, .int y15_t_isExact])), (a_p1, .inr (8, [.int p1_units, .ref a_p1_population, .ref a_p1_area, .ref a_p1_community, .ref a_p1_outer, .ref a_p1_neighbors, .ref a_p1_lengths, v_p1_cores, .int p1_districts, v_p1_tolerance, v_p1_hasPlan, .ref a_p1_plan])), (a_p1_plan, .inr (4, [.ref a_p1_plan_places, .ref a_p1_plan_sets])), (a_p1_plan_sets, .inl (k 0, 4, .inl p1_plan_sets)), (a_p1_outer, .inl (k 0, 12, .inl p1_outer)), (a_p1_lengths, .inl (k 0, 144, .inl p1_lengths)), (a_p1_area, .inl (k 0, 12, .inl p1_area)), (a_t_rough, .inl (k 3, 4, .inr (.inr (.inl y15_t_rough)))), (a_p1_population, .inl (k 0, 12, .inl p1_population)), (a_t_whole, .inl (k 0, 4, .inl y15_t_whole))]) (As := [.int (p1_plan_sets y15_3.toNatClampNeg)]) (rest := [.int y15_3, .ref a_t_whole]) (n := 1) (ci := 8) (cq := (RX9, TX9, 12)) hTs ⟨hx, hb, hml, hown, hts⟩ (mX9_populationOf l Ts hTs D k H.size a_p1 a_p1_population a_p1_area a_p1_community a_p1_outer a_p1_neighbors a_p1_lengths a_p1_plan p1_population p1_units v_p1_cores (.int p1_districts) v_p1_hasPlan v_p1_tolerance (p1_plan_sets y15_3.toNatClampNeg) q7 hqq7) u_ml_X5_41 u_im_X9_populationOf u_se_X9_populationOf u_in_X9 u_co_X9_populationOf hd_X9_populationOf ⟨Nat.le_of_ble_eq_true rfl, Nat.le_of_ble_eq_true rfl⟩ ⟨rfl, rfl⟩ hK hH hA (cut0 (isC := [1, 8]) rfl rfl rfl) rfl rfl rfl rfl hl.1 (Nat.le_of_ble_eq_true rfl) dX5_takeFrom_46 ⟨Nat.le_of_ble_eq_true rfl, Nat.le_of_ble_eq_true rfl⟩ (fun H locs hH => ?_)
          obtain ⟨g8, h⟩ := dc_need h
          refine gk_iast hx hb hK hH 9 rfl (dk_in g8) dX5_takeFrom_49 [(a_t, .inr (5, [.ref a_t_whole, .ref a_t_rough, .int y15_t_size, .int y15_t_isExact])), (a_p1, .inr (8, [.int p1_units, .ref a_p1_population, .ref a_p1_area, .ref a_p1_community, .ref a_p1_outer, .ref a_p1_neighbors, .ref a_p1_lengths, v_p1_cores, .int p1_districts, v_p1_tolerance, v_p1_hasPlan, .ref a_p1_plan])), (a_p1_plan, .inr (4, [.ref a_p1_plan_places, .ref a_p1_plan_sets])), (a_p1_plan_sets, .inl (k 0, 4, .inl p1_plan_sets)), (a_p1_outer, .inl (k 0, 12, .inl p1_outer)), (a_p1_lengths, .inl (k 0, 144, .inl p1_lengths)), (a_p1_area, .inl (k 0, 12, .inl p1_area)), (a_t_rough, .inl (k 3, 4, .inr (.inr (.inl y15_t_rough)))), (a_p1_population, .inl (k 0, 12, .inl p1_population)), (a_t_whole, .inl (k 0, 4, .inl (upd y15_t_whole y15_3.toNatClampNeg q7)))] rfl (fun H locs hH => ?_)
          refine lv_goto (tgt := 65) hx hb dX5_takeFrom_50 (by decide) ?_
          refine lv_iinc (v := (y15_3 + (1 : Int32))) (lv' := [(3, .int (y15_3 + (1 : Int32))), (4, .int (p1_plan_sets y15_3.toNatClampNeg)), (0, .ref a_t), (1, .ref a_p1), (2, .int x2)]) hx hb dX5_takeFrom_65 hl (k := 4) rfl rfl (by decide) rfl (fun ls hl => ?_)
          refine lv_goto (tgt := 15) hx hb dX5_takeFrom_68 (by decide) ?_
          exact ih kf (y15_3 + (1 : Int32)) y15_t_rough (upd y15_t_whole y15_3.toNatClampNeg q7) h kk H locs ls hH (lv_sub hl [2, 3, 4, 0] rfl)
  rw [fX5_takeFrom] at h
  refine lv_aload_n hx hb dX5_takeFrom_0 rfl (lv_at hl 0 rfl) ?_
  refine lv_aload_n hx hb dX5_takeFrom_1 rfl (lv_at hl 1 rfl) ?_
  refine gk_get (ci := 8) (C := RX9) (T := TX9) (N := 12) hx hb hts u_ws_X9 hown hK hH 1 rfl rfl 8 (by decide) u_fl_X5_27 rfl dX5_takeFrom_2 ?_
  refine gk_put (ci := 5) (C := RX5) (T := TX5) (N := 4) hx hb hts u_ws_X5 tyX5_ok nmX5 hown hK hH 0 rfl rfl 2 (by decide) u_fl_X5_19 rfl rfl rfl (Nat.le_of_ble_eq_true rfl) dX5_takeFrom_5 [(a_t, .inr (5, [.ref a_t_whole, .ref a_t_rough, .int p1_districts, v_t_isExact])), (a_p1, .inr (8, [.int p1_units, .ref a_p1_population, .ref a_p1_area, .ref a_p1_community, .ref a_p1_outer, .ref a_p1_neighbors, .ref a_p1_lengths, v_p1_cores, .int p1_districts, v_p1_tolerance, v_p1_hasPlan, .ref a_p1_plan])), (a_p1_plan, .inr (4, [.ref a_p1_plan_places, .ref a_p1_plan_sets])), (a_p1_plan_sets, .inl (k 0, 4, .inl p1_plan_sets)), (a_p1_outer, .inl (k 0, 12, .inl p1_outer)), (a_p1_lengths, .inl (k 0, 144, .inl p1_lengths)), (a_p1_area, .inl (k 0, 12, .inl p1_area)), (a_t_rough, .inl (k 3, 4, .inr (.inr (.inl t_rough)))), (a_p1_population, .inl (k 0, 12, .inl p1_population)), (a_t_whole, .inl (k 0, 4, .inl t_whole))] rfl (fun H locs hH => ?_)
  refine lv_aload_n hx hb dX5_takeFrom_8 rfl (lv_at hl 0 rfl) ?_
  refine lv_iload_n hx hb dX5_takeFrom_9 rfl (lv_at hl 2 rfl) ?_
  obtain ⟨g1, h⟩ := dc_need h
  refine gk_put (ci := 5) (C := RX5) (T := TX5) (N := 4) hx hb hts u_ws_X5 tyX5_ok nmX5 hown hK hH 0 rfl rfl 3 (by decide) u_fl_X5_23 rfl (dk_bit g1).1 (dk_bit g1).2 (Nat.le_of_ble_eq_true rfl) dX5_takeFrom_10 [(a_t, .inr (5, [.ref a_t_whole, .ref a_t_rough, .int p1_districts, .int x2])), (a_p1, .inr (8, [.int p1_units, .ref a_p1_population, .ref a_p1_area, .ref a_p1_community, .ref a_p1_outer, .ref a_p1_neighbors, .ref a_p1_lengths, v_p1_cores, .int p1_districts, v_p1_tolerance, v_p1_hasPlan, .ref a_p1_plan])), (a_p1_plan, .inr (4, [.ref a_p1_plan_places, .ref a_p1_plan_sets])), (a_p1_plan_sets, .inl (k 0, 4, .inl p1_plan_sets)), (a_p1_outer, .inl (k 0, 12, .inl p1_outer)), (a_p1_lengths, .inl (k 0, 144, .inl p1_lengths)), (a_p1_area, .inl (k 0, 12, .inl p1_area)), (a_t_rough, .inl (k 3, 4, .inr (.inr (.inl t_rough)))), (a_p1_population, .inl (k 0, 12, .inl p1_population)), (a_t_whole, .inl (k 0, 4, .inl t_whole))] rfl (fun H locs hH => ?_)
  refine lv_iconst (v := 0) hx hb dX5_takeFrom_13 (by decide) ?_
  refine lv_istore_n (lv' := [(3, .int (0 : Int32)), (0, .ref a_t), (1, .ref a_p1), (2, .int x2)]) hx hb dX5_takeFrom_14 rfl hl (by decide) rfl (fun ls hl => ?_)
  refine L15 x2 p1_districts _ _ (0 : Int32) t_rough t_whole h (fun z15_t_rough z15_t_whole H locs ls h hH hl => ?_) H locs ls hH (lv_sub hl [1, 2, 3, 0] rfl)
  have h := Option.some.inj h
  subst h
  exact ge_v hx hb hr hlocks hQ hK hH hAe dX5_takeFrom_71
theorem hd_X5_takeElements : yX5_takeElements.cls = RX5 ∧ yX5_takeElements.cls ≠ "java/lang/invoke/MethodHandle" ∧ yX5_takeElements.cls ≠ "java/lang/invoke/VarHandle" ∧ (parseMethodDescriptor yX5_takeElements.desc).map (fun d => d.parameters.length) = some 2 := by decide +kernel
set_option maxHeartbeats 4000000 in
set_option maxRecDepth 100000 in
theorem mX5_takeElements (l : Launch) (Ts : List Cond) (hTs : ∀ w, w ∈ Ts ↔ w ∈ uT) (D : va_G) (k : Nat → ClassId) (sz : Nat) (a_p1 : Nat) (a_t : Nat) (a_t_whole : Nat) (a_t_rough : Nat) (a_p1_whole : Nat) (a_p1_rough : Nat) (p1_rough : Nat → UInt32) (p1_whole : Nat → Int32) (t_isExact : Int32) (t_rough : Nat → UInt32) (t_whole : Nat → Int32) (v_p1_isExact : Value) (v_p1_size : Value) (v_t_size : Value) (x2 : Int32) (r : (Nat → UInt32) × (Nat → Int32)) (h : fX5_takeElements p1_rough p1_whole t_isExact t_rough t_whole x2 = some r) : Met l yX5_takeElements (Cond.code yX5_takeElements cX5_takeElements 3 none :: Ts) ({ frames := 1, cells := 0, slots := 0, locals := 96 } : Room) (preM D k [.ref a_t, .ref a_p1, .int x2] [(a_t, .inr (5, [.ref a_t_whole, .ref a_t_rough, v_t_size, .int t_isExact])), (a_p1, .inr (5, [.ref a_p1_whole, .ref a_p1_rough, v_p1_size, v_p1_isExact])), (a_p1_rough, .inl (k 3, 4, .inr (.inr (.inl p1_rough)))), (a_t_rough, .inl (k 3, 4, .inr (.inr (.inl t_rough)))), (a_p1_whole, .inl (k 0, 4, .inl p1_whole)), (a_t_whole, .inl (k 0, 4, .inl t_whole))] sz) (postV D k [(a_t, .inr (5, [.ref a_t_whole, .ref a_t_rough, v_t_size, .int t_isExact])), (a_p1, .inr (5, [.ref a_p1_whole, .ref a_p1_rough, v_p1_size, v_p1_isExact])), (a_p1_rough, .inl (k 3, 4, .inr (.inr (.inl p1_rough)))), (a_t_rough, .inl (k 3, 4, .inr (.inr (.inl t_rough)))), (a_p1_whole, .inl (k 0, 4, .inl p1_whole)), (a_t_whole, .inl (k 0, 4, .inl t_whole))] [(a_t, .inr (5, [.ref a_t_whole, .ref a_t_rough, v_t_size, .int t_isExact])), (a_p1, .inr (5, [.ref a_p1_whole, .ref a_p1_rough, v_p1_size, v_p1_isExact])), (a_p1_rough, .inl (k 3, 4, .inr (.inr (.inl p1_rough)))), (a_t_rough, .inl (k 3, 4, .inr (.inr (.inl r.1)))), (a_p1_whole, .inl (k 0, 4, .inl p1_whole)), (a_t_whole, .inl (k 0, 4, .inl r.2))] sz) 0 0 (va_A [(a_t, .inr (5, [.ref a_t_whole, .ref a_t_rough, v_t_size, .int t_isExact])), (a_p1, .inr (5, [.ref a_p1_whole, .ref a_p1_rough, v_p1_size, v_p1_isExact])), (a_p1_rough, .inl (k 3, 4, .inr (.inr (.inl p1_rough)))), (a_t_rough, .inl (k 3, 4, .inr (.inr (.inl t_rough)))), (a_p1_whole, .inl (k 0, 4, .inl p1_whole)), (a_t_whole, .inl (k 0, 4, .inl t_whole))] sz) := by
  refine Met.ofW (cc := cX5_takeElements) (maxL := 3) (ret := none) (by decide) rfl ?_
  intro p e s m args below meth c s₁ B hml hv
  obtain ⟨rfl, hsz, hP, hK, hD0⟩ := hv
  have hx := B.exec
  have hb := B.bytes
  have hr := B.returns
  have hts0 := atoms_spec (ws := (Cond.code yX5_takeElements cX5_takeElements 3 none :: Ts)) B.pre
  have hts : ∀ w ∈ uT, w.before _ s = true := fun w h => hts0 w (List.mem_cons_of_mem _ ((hTs w).mpr h))
  clear hts0
  have hown : s.vm.findClass RX5 = some m.cls := findClass_of_methodNamed B.named
  have hlocks := B.notSynchronized
  subst hsz
  have hD := hD0.self (sz := s.heap.size)
  generalize hAe : va_A [(a_t, .inr (5, [.ref a_t_whole, .ref a_t_rough, v_t_size, .int t_isExact])), (a_p1, .inr (5, [.ref a_p1_whole, .ref a_p1_rough, v_p1_size, v_p1_isExact])), (a_p1_rough, .inl (k 3, 4, .inr (.inr (.inl p1_rough)))), (a_t_rough, .inl (k 3, 4, .inr (.inr (.inl t_rough)))), (a_p1_whole, .inl (k 0, 4, .inl p1_whole)), (a_t_whole, .inl (k 0, 4, .inl t_whole))] s.heap.size = A at hD ⊢
  have hA : ∀ q : Nat, s.heap.size ≤ q → A q := fun q h => by rw [← hAe]; exact Or.inr h
  have hH : HOK D A s.heap [(a_t, .inr (5, [.ref a_t_whole, .ref a_t_rough, v_t_size, .int t_isExact])), (a_p1, .inr (5, [.ref a_p1_whole, .ref a_p1_rough, v_p1_size, v_p1_isExact])), (a_p1_rough, .inl (k 3, 4, .inr (.inr (.inl p1_rough)))), (a_t_rough, .inl (k 3, 4, .inr (.inr (.inl t_rough)))), (a_p1_whole, .inl (k 0, 4, .inl p1_whole)), (a_t_whole, .inl (k 0, 4, .inl t_whole))] s.heap [] := ⟨hP, hD, va_S.rf⟩
  have hl := lv_entry ([.ref a_t, .ref a_p1, .int x2]) (n := 3) (Nat.le_of_ble_eq_true rfl)
  rw [lg_entry_eq]
  generalize (lg_sl ([.ref a_t, .ref a_p1, .int x2]) ++ List.replicate (3 - (lg_sl ([.ref a_t, .ref a_p1, .int x2])).length) Slot.unset).toArray = ls at hl ⊢
  have hl : lv_has ls 3 [(0, .ref a_t), (1, .ref a_p1), (2, .int x2)] := hl
  generalize hQ : MQ below (postV D k [(a_t, .inr (5, [.ref a_t_whole, .ref a_t_rough, v_t_size, .int t_isExact])), (a_p1, .inr (5, [.ref a_p1_whole, .ref a_p1_rough, v_p1_size, v_p1_isExact])), (a_p1_rough, .inl (k 3, 4, .inr (.inr (.inl p1_rough)))), (a_t_rough, .inl (k 3, 4, .inr (.inr (.inl t_rough)))), (a_p1_whole, .inl (k 0, 4, .inl p1_whole)), (a_t_whole, .inl (k 0, 4, .inl t_whole))] [(a_t, .inr (5, [.ref a_t_whole, .ref a_t_rough, v_t_size, .int t_isExact])), (a_p1, .inr (5, [.ref a_p1_whole, .ref a_p1_rough, v_p1_size, v_p1_isExact])), (a_p1_rough, .inl (k 3, 4, .inr (.inr (.inl p1_rough)))), (a_t_rough, .inl (k 3, 4, .inr (.inr (.inl r.1)))), (a_p1_whole, .inl (k 0, 4, .inl p1_whole)), (a_t_whole, .inl (k 0, 4, .inl r.2))] s.heap.size) (List.toArray [.ref a_t, .ref a_p1, .int x2]) s 0 0 A = Q
  clear hP hD hD0
  suffices K : ∀ (H : Heap) (locs : List Loc), HOK D A s.heap [(a_t, .inr (5, [.ref a_t_whole, .ref a_t_rough, v_t_size, .int t_isExact])), (a_p1, .inr (5, [.ref a_p1_whole, .ref a_p1_rough, v_p1_size, v_p1_isExact])), (a_p1_rough, .inl (k 3, 4, .inr (.inr (.inl p1_rough)))), (a_t_rough, .inl (k 3, 4, .inr (.inr (.inl t_rough)))), (a_p1_whole, .inl (k 0, 4, .inl p1_whole)), (a_t_whole, .inl (k 0, 4, .inl t_whole))] H locs → W p l e ({ frames := 1, cells := 0, slots := 0, locals := 96 } : Room) s m (List.toArray [.ref a_t, .ref a_p1, .int x2]) below meth c H locs 0 0 Q (F0 m 0 ls []) from K s.heap [] hH
  intro H locs hH
  rw [fX5_takeElements] at h
  refine lv_aload_n hx hb dX5_takeElements_0 rfl (lv_at hl 0 rfl) ?_
  refine gk_get (ci := 5) (C := RX5) (T := TX5) (N := 4) hx hb hts u_ws_X5 hown hK hH 0 rfl rfl 3 (by decide) u_fl_X5_23 rfl dX5_takeElements_1 ?_
  refine lv_if_eq (tgt := 24) hx hb dX5_takeElements_4 (by decide) (fun c1 => ?_) (fun c1 => ?_)
  · replace h := dc_pos c1 h
    refine lv_aload_n hx hb dX5_takeElements_24 rfl (lv_at hl 1 rfl) ?_
    refine gk_get (ci := 5) (C := RX5) (T := TX5) (N := 4) hx hb hts u_ws_X5 hown hK hH 1 rfl rfl 1 (by decide) u_fl_X5_15 rfl dX5_takeElements_25 ?_
    refine lv_iconst (v := 0) hx hb dX5_takeElements_28 (by decide) ?_
    refine lv_aload_n hx hb dX5_takeElements_29 rfl (lv_at hl 0 rfl) ?_
    refine gk_get (ci := 5) (C := RX5) (T := TX5) (N := 4) hx hb hts u_ws_X5 hown hK hH 0 rfl rfl 1 (by decide) u_fl_X5_15 rfl dX5_takeElements_30 ?_
    refine lv_iconst (v := 0) hx hb dX5_takeElements_33 (by decide) ?_
    refine lv_iload_n hx hb dX5_takeElements_34 rfl (lv_at hl 2 rfl) ?_
    obtain ⟨g2, h⟩ := dc_need h
    refine gk_copyf (n0 := 4) (n1 := 4) (ws' := [(a_t, .inr (5, [.ref a_t_whole, .ref a_t_rough, v_t_size, .int t_isExact])), (a_p1, .inr (5, [.ref a_p1_whole, .ref a_p1_rough, v_p1_size, v_p1_isExact])), (a_p1_rough, .inl (k 3, 4, .inr (.inr (.inl p1_rough)))), (a_t_rough, .inl (k 3, 4, .inr (.inr (.inl (va_cpy p1_rough t_rough 0 0 x2.toNatClampNeg))))), (a_p1_whole, .inl (k 0, 4, .inl p1_whole)), (a_t_whole, .inl (k 0, 4, .inl t_whole))]) hx hb (hml.trans hl.1.symm) hown (hts _ u_ml_X5_51) (hts _ u_na_System_arraycopy) (hts _ u_st_System_arraycopy) (hts _ u_in_J10) hK hH 2 3 rfl rfl g2 (by decide) (by decide) (Nat.le_of_ble_eq_true rfl) (Nat.le_of_ble_eq_true rfl) dX5_takeElements_35 rfl (fun H locs hH => ?_)
    have h := Option.some.inj h
    subst h
    exact ge_v hx hb hr hlocks hQ hK hH hAe dX5_takeElements_38
  · replace h := dc_neg c1 h
    refine lv_aload_n hx hb dX5_takeElements_7 rfl (lv_at hl 1 rfl) ?_
    refine gk_get (ci := 5) (C := RX5) (T := TX5) (N := 4) hx hb hts u_ws_X5 hown hK hH 1 rfl rfl 0 (by decide) u_fl_X5_9 rfl dX5_takeElements_8 ?_
    refine lv_iconst (v := 0) hx hb dX5_takeElements_11 (by decide) ?_
    refine lv_aload_n hx hb dX5_takeElements_12 rfl (lv_at hl 0 rfl) ?_
    refine gk_get (ci := 5) (C := RX5) (T := TX5) (N := 4) hx hb hts u_ws_X5 hown hK hH 0 rfl rfl 0 (by decide) u_fl_X5_9 rfl dX5_takeElements_13 ?_
    refine lv_iconst (v := 0) hx hb dX5_takeElements_16 (by decide) ?_
    refine lv_iload_n hx hb dX5_takeElements_17 rfl (lv_at hl 2 rfl) ?_
    obtain ⟨g3, h⟩ := dc_need h
    refine gk_copyi (n0 := 4) (n1 := 4) (ws' := [(a_t, .inr (5, [.ref a_t_whole, .ref a_t_rough, v_t_size, .int t_isExact])), (a_p1, .inr (5, [.ref a_p1_whole, .ref a_p1_rough, v_p1_size, v_p1_isExact])), (a_p1_rough, .inl (k 3, 4, .inr (.inr (.inl p1_rough)))), (a_t_rough, .inl (k 3, 4, .inr (.inr (.inl t_rough)))), (a_p1_whole, .inl (k 0, 4, .inl p1_whole)), (a_t_whole, .inl (k 0, 4, .inl (va_cpy p1_whole t_whole 0 0 x2.toNatClampNeg)))]) hx hb (hml.trans hl.1.symm) hown (hts _ u_ml_X5_51) (hts _ u_na_System_arraycopy) (hts _ u_st_System_arraycopy) (hts _ u_in_J10) hK hH 4 5 rfl rfl g3 (by decide) (by decide) (Nat.le_of_ble_eq_true rfl) (Nat.le_of_ble_eq_true rfl) dX5_takeElements_18 rfl (fun H locs hH => ?_)
    refine lv_goto (tgt := 38) hx hb dX5_takeElements_21 (by decide) ?_
    have h := Option.some.inj h
    subst h
    exact ge_v hx hb hr hlocks hQ hK hH hAe dX5_takeElements_38
theorem hd_X5_sum : yX5_sum.cls = RX5 ∧ yX5_sum.cls ≠ "java/lang/invoke/MethodHandle" ∧ yX5_sum.cls ≠ "java/lang/invoke/VarHandle" ∧ (parseMethodDescriptor yX5_sum.desc).map (fun d => d.parameters.length) = some 0 := by decide +kernel
set_option maxHeartbeats 4000000 in
set_option maxRecDepth 100000 in
theorem mX5_sum (l : Launch) (Ts : List Cond) (hTs : ∀ w, w ∈ Ts ↔ w ∈ uT) (D : va_G) (k : Nat → ClassId) (sz : Nat) (a_t : Nat) (a_t_whole : Nat) (a_t_rough : Nat) (t_isExact : Int32) (t_rough : Nat → UInt32) (t_size : Int32) (t_whole : Nat → Int32) (r : Int32) (h : fX5_sum t_isExact t_rough t_size t_whole = some r) : Met l yX5_sum (Cond.code yX5_sum cX5_sum 3 (some .int) :: Ts) ({ frames := 0, cells := 0, slots := 0, locals := 0 } : Room) (preM D k [.ref a_t] [(a_t, .inr (5, [.ref a_t_whole, .ref a_t_rough, .int t_size, .int t_isExact])), (a_t_rough, .inl (k 3, 4, .inr (.inr (.inl t_rough)))), (a_t_whole, .inl (k 0, 4, .inl t_whole))] sz) (postI D k r [(a_t, .inr (5, [.ref a_t_whole, .ref a_t_rough, .int t_size, .int t_isExact])), (a_t_rough, .inl (k 3, 4, .inr (.inr (.inl t_rough)))), (a_t_whole, .inl (k 0, 4, .inl t_whole))] [(a_t, .inr (5, [.ref a_t_whole, .ref a_t_rough, .int t_size, .int t_isExact])), (a_t_rough, .inl (k 3, 4, .inr (.inr (.inl t_rough)))), (a_t_whole, .inl (k 0, 4, .inl t_whole))] sz) 0 0 (va_A [(a_t, .inr (5, [.ref a_t_whole, .ref a_t_rough, .int t_size, .int t_isExact])), (a_t_rough, .inl (k 3, 4, .inr (.inr (.inl t_rough)))), (a_t_whole, .inl (k 0, 4, .inl t_whole))] sz) := by
  refine Met.ofW (cc := cX5_sum) (maxL := 3) (ret := (some .int)) (by decide) rfl ?_
  intro p e s m args below meth c s₁ B hml hv
  obtain ⟨rfl, hsz, hP, hK, hD0⟩ := hv
  have hx := B.exec
  have hb := B.bytes
  have hr := B.returns
  have hts0 := atoms_spec (ws := (Cond.code yX5_sum cX5_sum 3 (some .int) :: Ts)) B.pre
  have hts : ∀ w ∈ uT, w.before _ s = true := fun w h => hts0 w (List.mem_cons_of_mem _ ((hTs w).mpr h))
  clear hts0
  have hown : s.vm.findClass RX5 = some m.cls := findClass_of_methodNamed B.named
  have hlocks := B.notSynchronized
  subst hsz
  have hD := hD0.self (sz := s.heap.size)
  generalize hAe : va_A [(a_t, .inr (5, [.ref a_t_whole, .ref a_t_rough, .int t_size, .int t_isExact])), (a_t_rough, .inl (k 3, 4, .inr (.inr (.inl t_rough)))), (a_t_whole, .inl (k 0, 4, .inl t_whole))] s.heap.size = A at hD ⊢
  have hA : ∀ q : Nat, s.heap.size ≤ q → A q := fun q h => by rw [← hAe]; exact Or.inr h
  have hH : HOK D A s.heap [(a_t, .inr (5, [.ref a_t_whole, .ref a_t_rough, .int t_size, .int t_isExact])), (a_t_rough, .inl (k 3, 4, .inr (.inr (.inl t_rough)))), (a_t_whole, .inl (k 0, 4, .inl t_whole))] s.heap [] := ⟨hP, hD, va_S.rf⟩
  have hl := lv_entry ([.ref a_t]) (n := 3) (Nat.le_of_ble_eq_true rfl)
  rw [lg_entry_eq]
  generalize (lg_sl ([.ref a_t]) ++ List.replicate (3 - (lg_sl ([.ref a_t])).length) Slot.unset).toArray = ls at hl ⊢
  have hl : lv_has ls 3 [(0, .ref a_t)] := hl
  generalize hQ : MQ below (postI D k r [(a_t, .inr (5, [.ref a_t_whole, .ref a_t_rough, .int t_size, .int t_isExact])), (a_t_rough, .inl (k 3, 4, .inr (.inr (.inl t_rough)))), (a_t_whole, .inl (k 0, 4, .inl t_whole))] [(a_t, .inr (5, [.ref a_t_whole, .ref a_t_rough, .int t_size, .int t_isExact])), (a_t_rough, .inl (k 3, 4, .inr (.inr (.inl t_rough)))), (a_t_whole, .inl (k 0, 4, .inl t_whole))] s.heap.size) (List.toArray [.ref a_t]) s 0 0 A = Q
  clear hP hD hD0
  suffices K : ∀ (H : Heap) (locs : List Loc), HOK D A s.heap [(a_t, .inr (5, [.ref a_t_whole, .ref a_t_rough, .int t_size, .int t_isExact])), (a_t_rough, .inl (k 3, 4, .inr (.inr (.inl t_rough)))), (a_t_whole, .inl (k 0, 4, .inl t_whole))] H locs → W p l e ({ frames := 0, cells := 0, slots := 0, locals := 0 } : Room) s m (List.toArray [.ref a_t]) below meth c H locs 0 0 Q (F0 m 0 ls []) from K s.heap [] hH
  intro H locs hH
  have L4 : ∀ (n : Nat), ∀ (kf : Int32 → Option (Int32)) (y4_1 : Int32) (y4_2 : Int32), fX5_sum_L4 t_isExact t_rough t_size t_whole n kf y4_1 y4_2 = some r → (∀ (z4_1 : Int32) (H : Heap) (locs : List Loc) (ls : Array Slot), kf z4_1 = some r → HOK D A s.heap [(a_t, .inr (5, [.ref a_t_whole, .ref a_t_rough, .int t_size, .int t_isExact])), (a_t_rough, .inl (k 3, 4, .inr (.inr (.inl t_rough)))), (a_t_whole, .inl (k 0, 4, .inl t_whole))] H locs → lv_has ls 3 [(1, .int z4_1)] → W p l e ({ frames := 0, cells := 0, slots := 0, locals := 0 } : Room) s m (List.toArray [.ref a_t]) below meth c H locs 0 0 Q (F0 m 44 ls [])) → ∀ (H : Heap) (locs : List Loc) (ls : Array Slot), HOK D A s.heap [(a_t, .inr (5, [.ref a_t_whole, .ref a_t_rough, .int t_size, .int t_isExact])), (a_t_rough, .inl (k 3, 4, .inr (.inr (.inl t_rough)))), (a_t_whole, .inl (k 0, 4, .inl t_whole))] H locs → lv_has ls 3 [(0, .ref a_t), (1, .int y4_1), (2, .int y4_2)] → W p l e ({ frames := 0, cells := 0, slots := 0, locals := 0 } : Room) s m (List.toArray [.ref a_t]) below meth c H locs 0 0 Q (F0 m 4 ls []) := by
    intro n
    induction n with
    | zero =>
      intro kf y4_1 y4_2 h
      exact absurd h (by rw [fX5_sum_L4]; exact fun q => by cases q)
    | succ n ih =>
      intro kf y4_1 y4_2 h kk H locs ls hH hl
      rw [fX5_sum_L4] at h
      refine lv_iload_n hx hb dX5_sum_4 rfl (lv_at hl 2 rfl) ?_
      refine lv_aload_n hx hb dX5_sum_5 rfl (lv_at hl 0 rfl) ?_
      refine gk_get (ci := 5) (C := RX5) (T := TX5) (N := 4) hx hb hts u_ws_X5 hown hK hH 0 rfl rfl 2 (by decide) u_fl_X5_19 rfl dX5_sum_6 ?_
      refine lv_icmp_ge (tgt := 44) hx hb dX5_sum_9 (by decide) (fun c1 => ?_) (fun c1 => ?_)
      · replace h := dc_pos c1 h
        exact kk y4_1 H locs ls h hH (lv_sub hl [1] rfl)
      · replace h := dc_neg c1 h
        refine lv_iload_n hx hb dX5_sum_12 rfl (lv_at hl 1 rfl) ?_
        refine lv_aload_n hx hb dX5_sum_13 rfl (lv_at hl 0 rfl) ?_
        refine gk_get (ci := 5) (C := RX5) (T := TX5) (N := 4) hx hb hts u_ws_X5 hown hK hH 0 rfl rfl 3 (by decide) u_fl_X5_23 rfl dX5_sum_14 ?_
        refine lv_if_eq (tgt := 29) hx hb dX5_sum_17 (by decide) (fun c2 => ?_) (fun c2 => ?_)
        · replace h := dc_pos c2 h
          refine lv_aload_n hx hb dX5_sum_29 rfl (lv_at hl 0 rfl) ?_
          refine gk_get (ci := 5) (C := RX5) (T := TX5) (N := 4) hx hb hts u_ws_X5 hown hK hH 0 rfl rfl 1 (by decide) u_fl_X5_15 rfl dX5_sum_30 ?_
          refine lv_iload_n hx hb dX5_sum_33 rfl (lv_at hl 2 rfl) ?_
          obtain ⟨g3, h⟩ := dc_need h
          refine gk_fald hx hb hK hH 1 rfl (dk_in g3) dX5_sum_34 ?_
          refine lv_f2i hx hb dX5_sum_35 ?_
          refine lv_iadd hx hb dX5_sum_36 ?_
          refine lv_istore_n (lv' := [(1, .int (y4_1 + (FP.f2i (t_rough y4_2.toNatClampNeg)))), (0, .ref a_t), (2, .int y4_2)]) hx hb dX5_sum_37 rfl hl (by decide) rfl (fun ls hl => ?_)
          refine lv_iinc (v := (y4_2 + (1 : Int32))) (lv' := [(2, .int (y4_2 + (1 : Int32))), (1, .int (y4_1 + (FP.f2i (t_rough y4_2.toNatClampNeg)))), (0, .ref a_t)]) hx hb dX5_sum_38 hl (k := 2) rfl rfl (by decide) rfl (fun ls hl => ?_)
          refine lv_goto (tgt := 4) hx hb dX5_sum_41 (by decide) ?_
          exact ih kf (y4_1 + (FP.f2i (t_rough y4_2.toNatClampNeg))) (y4_2 + (1 : Int32)) h kk H locs ls hH (lv_sub hl [2, 1, 0] rfl)
        · replace h := dc_neg c2 h
          refine lv_aload_n hx hb dX5_sum_20 rfl (lv_at hl 0 rfl) ?_
          refine gk_get (ci := 5) (C := RX5) (T := TX5) (N := 4) hx hb hts u_ws_X5 hown hK hH 0 rfl rfl 0 (by decide) u_fl_X5_9 rfl dX5_sum_21 ?_
          refine lv_iload_n hx hb dX5_sum_24 rfl (lv_at hl 2 rfl) ?_
          obtain ⟨g4, h⟩ := dc_need h
          refine gk_iald hx hb hK hH 2 rfl (dk_in g4) dX5_sum_25 ?_
          refine lv_goto (tgt := 36) hx hb dX5_sum_26 (by decide) ?_
          refine lv_iadd hx hb dX5_sum_36 ?_
          refine lv_istore_n (lv' := [(1, .int (y4_1 + (t_whole y4_2.toNatClampNeg))), (0, .ref a_t), (2, .int y4_2)]) hx hb dX5_sum_37 rfl hl (by decide) rfl (fun ls hl => ?_)
          refine lv_iinc (v := (y4_2 + (1 : Int32))) (lv' := [(2, .int (y4_2 + (1 : Int32))), (1, .int (y4_1 + (t_whole y4_2.toNatClampNeg))), (0, .ref a_t)]) hx hb dX5_sum_38 hl (k := 2) rfl rfl (by decide) rfl (fun ls hl => ?_)
          refine lv_goto (tgt := 4) hx hb dX5_sum_41 (by decide) ?_
          exact ih kf (y4_1 + (t_whole y4_2.toNatClampNeg)) (y4_2 + (1 : Int32)) h kk H locs ls hH (lv_sub hl [2, 1, 0] rfl)
  rw [fX5_sum] at h
  refine lv_iconst (v := 0) hx hb dX5_sum_0 (by decide) ?_
  refine lv_istore_n (lv' := [(1, .int (0 : Int32)), (0, .ref a_t)]) hx hb dX5_sum_1 rfl hl (by decide) rfl (fun ls hl => ?_)
  refine lv_iconst (v := 0) hx hb dX5_sum_2 (by decide) ?_
  refine lv_istore_n (lv' := [(2, .int (0 : Int32)), (1, .int (0 : Int32)), (0, .ref a_t)]) hx hb dX5_sum_3 rfl hl (by decide) rfl (fun ls hl => ?_)
  refine L4 _ _ (0 : Int32) (0 : Int32) h (fun z4_1 H locs ls h hH hl => ?_) H locs ls hH (lv_sub hl [2, 1, 0] rfl)
  refine lv_iload_n hx hb dX5_sum_44 rfl (lv_at hl 0 rfl) ?_
  have h := Option.some.inj h
  subst h
  exact ge_i hx hb hr hlocks hQ hK hH hAe rfl dX5_sum_45
theorem hd_X5_element : yX5_element.cls = RX5 ∧ yX5_element.cls ≠ "java/lang/invoke/MethodHandle" ∧ yX5_element.cls ≠ "java/lang/invoke/VarHandle" ∧ (parseMethodDescriptor yX5_element.desc).map (fun d => d.parameters.length) = some 1 := by decide +kernel
set_option maxHeartbeats 4000000 in
set_option maxRecDepth 100000 in
theorem mX5_element (l : Launch) (Ts : List Cond) (hTs : ∀ w, w ∈ Ts ↔ w ∈ uT) (D : va_G) (k : Nat → ClassId) (sz : Nat) (a_t : Nat) (a_t_whole : Nat) (a_t_rough : Nat) (t_isExact : Int32) (t_rough : Nat → UInt32) (t_whole : Nat → Int32) (v_t_size : Value) (x1 : Int32) (r : UInt32) (h : fX5_element t_isExact t_rough t_whole x1 = some r) : Met l yX5_element (Cond.code yX5_element cX5_element 2 (some .float) :: Ts) ({ frames := 0, cells := 0, slots := 0, locals := 0 } : Room) (preM D k [.ref a_t, .int x1] [(a_t, .inr (5, [.ref a_t_whole, .ref a_t_rough, v_t_size, .int t_isExact])), (a_t_rough, .inl (k 3, 4, .inr (.inr (.inl t_rough)))), (a_t_whole, .inl (k 0, 4, .inl t_whole))] sz) (postF D k r [(a_t, .inr (5, [.ref a_t_whole, .ref a_t_rough, v_t_size, .int t_isExact])), (a_t_rough, .inl (k 3, 4, .inr (.inr (.inl t_rough)))), (a_t_whole, .inl (k 0, 4, .inl t_whole))] [(a_t, .inr (5, [.ref a_t_whole, .ref a_t_rough, v_t_size, .int t_isExact])), (a_t_rough, .inl (k 3, 4, .inr (.inr (.inl t_rough)))), (a_t_whole, .inl (k 0, 4, .inl t_whole))] sz) 0 0 (va_A [(a_t, .inr (5, [.ref a_t_whole, .ref a_t_rough, v_t_size, .int t_isExact])), (a_t_rough, .inl (k 3, 4, .inr (.inr (.inl t_rough)))), (a_t_whole, .inl (k 0, 4, .inl t_whole))] sz) := by
  refine Met.ofW (cc := cX5_element) (maxL := 2) (ret := (some .float)) (by decide) rfl ?_
  intro p e s m args below meth c s₁ B hml hv
  obtain ⟨rfl, hsz, hP, hK, hD0⟩ := hv
  have hx := B.exec
  have hb := B.bytes
  have hr := B.returns
  have hts0 := atoms_spec (ws := (Cond.code yX5_element cX5_element 2 (some .float) :: Ts)) B.pre
  have hts : ∀ w ∈ uT, w.before _ s = true := fun w h => hts0 w (List.mem_cons_of_mem _ ((hTs w).mpr h))
  clear hts0
  have hown : s.vm.findClass RX5 = some m.cls := findClass_of_methodNamed B.named
  have hlocks := B.notSynchronized
  subst hsz
  have hD := hD0.self (sz := s.heap.size)
  generalize hAe : va_A [(a_t, .inr (5, [.ref a_t_whole, .ref a_t_rough, v_t_size, .int t_isExact])), (a_t_rough, .inl (k 3, 4, .inr (.inr (.inl t_rough)))), (a_t_whole, .inl (k 0, 4, .inl t_whole))] s.heap.size = A at hD ⊢
  have hA : ∀ q : Nat, s.heap.size ≤ q → A q := fun q h => by rw [← hAe]; exact Or.inr h
  have hH : HOK D A s.heap [(a_t, .inr (5, [.ref a_t_whole, .ref a_t_rough, v_t_size, .int t_isExact])), (a_t_rough, .inl (k 3, 4, .inr (.inr (.inl t_rough)))), (a_t_whole, .inl (k 0, 4, .inl t_whole))] s.heap [] := ⟨hP, hD, va_S.rf⟩
  have hl := lv_entry ([.ref a_t, .int x1]) (n := 2) (Nat.le_of_ble_eq_true rfl)
  rw [lg_entry_eq]
  generalize (lg_sl ([.ref a_t, .int x1]) ++ List.replicate (2 - (lg_sl ([.ref a_t, .int x1])).length) Slot.unset).toArray = ls at hl ⊢
  have hl : lv_has ls 2 [(0, .ref a_t), (1, .int x1)] := hl
  generalize hQ : MQ below (postF D k r [(a_t, .inr (5, [.ref a_t_whole, .ref a_t_rough, v_t_size, .int t_isExact])), (a_t_rough, .inl (k 3, 4, .inr (.inr (.inl t_rough)))), (a_t_whole, .inl (k 0, 4, .inl t_whole))] [(a_t, .inr (5, [.ref a_t_whole, .ref a_t_rough, v_t_size, .int t_isExact])), (a_t_rough, .inl (k 3, 4, .inr (.inr (.inl t_rough)))), (a_t_whole, .inl (k 0, 4, .inl t_whole))] s.heap.size) (List.toArray [.ref a_t, .int x1]) s 0 0 A = Q
  clear hP hD hD0
  suffices K : ∀ (H : Heap) (locs : List Loc), HOK D A s.heap [(a_t, .inr (5, [.ref a_t_whole, .ref a_t_rough, v_t_size, .int t_isExact])), (a_t_rough, .inl (k 3, 4, .inr (.inr (.inl t_rough)))), (a_t_whole, .inl (k 0, 4, .inl t_whole))] H locs → W p l e ({ frames := 0, cells := 0, slots := 0, locals := 0 } : Room) s m (List.toArray [.ref a_t, .int x1]) below meth c H locs 0 0 Q (F0 m 0 ls []) from K s.heap [] hH
  intro H locs hH
  rw [fX5_element] at h
  refine lv_aload_n hx hb dX5_element_0 rfl (lv_at hl 0 rfl) ?_
  refine gk_get (ci := 5) (C := RX5) (T := TX5) (N := 4) hx hb hts u_ws_X5 hown hK hH 0 rfl rfl 3 (by decide) u_fl_X5_23 rfl dX5_element_1 ?_
  refine lv_if_eq (tgt := 17) hx hb dX5_element_4 (by decide) (fun c1 => ?_) (fun c1 => ?_)
  · replace h := dc_pos c1 h
    refine lv_aload_n hx hb dX5_element_17 rfl (lv_at hl 0 rfl) ?_
    refine gk_get (ci := 5) (C := RX5) (T := TX5) (N := 4) hx hb hts u_ws_X5 hown hK hH 0 rfl rfl 1 (by decide) u_fl_X5_15 rfl dX5_element_18 ?_
    refine lv_iload_n hx hb dX5_element_21 rfl (lv_at hl 1 rfl) ?_
    obtain ⟨g2, h⟩ := dc_need h
    refine gk_fald hx hb hK hH 1 rfl (dk_in g2) dX5_element_22 ?_
    have h := Option.some.inj h
    subst h
    exact ge_f hx hb hr hlocks hQ hK hH hAe rfl dX5_element_23
  · replace h := dc_neg c1 h
    refine lv_aload_n hx hb dX5_element_7 rfl (lv_at hl 0 rfl) ?_
    refine gk_get (ci := 5) (C := RX5) (T := TX5) (N := 4) hx hb hts u_ws_X5 hown hK hH 0 rfl rfl 0 (by decide) u_fl_X5_9 rfl dX5_element_8 ?_
    refine lv_iload_n hx hb dX5_element_11 rfl (lv_at hl 1 rfl) ?_
    obtain ⟨g3, h⟩ := dc_need h
    refine gk_iald hx hb hK hH 2 rfl (dk_in g3) dX5_element_12 ?_
    refine lv_i2f hx hb dX5_element_13 ?_
    refine lv_goto (tgt := 23) hx hb dX5_element_14 (by decide) ?_
    have h := Option.some.inj h
    subst h
    exact ge_f hx hb hr hlocks hQ hK hH hAe rfl dX5_element_23
theorem hd_X5_bitsOf : yX5_bitsOf.cls ≠ "java/lang/invoke/MethodHandle" ∧ yX5_bitsOf.cls ≠ "java/lang/invoke/VarHandle" ∧ (parseMethodDescriptor yX5_bitsOf.desc).map (fun d => d.parameters.length) = some 1 := by decide +kernel
set_option maxHeartbeats 4000000 in
set_option maxRecDepth 100000 in
theorem mX5_bitsOf (l : Launch) (Ts : List Cond) (hTs : ∀ w, w ∈ Ts ↔ w ∈ uT) (D : va_G) (k : Nat → ClassId) (sz : Nat) (x0 : UInt32) (r : Int32) (h : fX5_bitsOf x0 = some r) : Met l yX5_bitsOf (Cond.code yX5_bitsOf cX5_bitsOf 4 (some .int) :: Ts) ({ frames := 0, cells := 0, slots := 0, locals := 0 } : Room) (preM D k [.float x0] [] sz) (postI D k r [] [] sz) 0 0 (va_A [] sz) := by
  refine Met.ofW (cc := cX5_bitsOf) (maxL := 4) (ret := (some .int)) (by decide) rfl ?_
  intro p e s m args below meth c s₁ B hml hv
  obtain ⟨rfl, hsz, hP, hK, hD0⟩ := hv
  have hx := B.exec
  have hb := B.bytes
  have hr := B.returns
  have hts0 := atoms_spec (ws := (Cond.code yX5_bitsOf cX5_bitsOf 4 (some .int) :: Ts)) B.pre
  have hts : ∀ w ∈ uT, w.before _ s = true := fun w h => hts0 w (List.mem_cons_of_mem _ ((hTs w).mpr h))
  clear hts0
  have hown : s.vm.findClass RX5 = some m.cls := findClass_of_methodNamed B.named
  have hlocks := B.notSynchronized
  subst hsz
  have hD := hD0.self (sz := s.heap.size)
  generalize hAe : va_A [] s.heap.size = A at hD ⊢
  have hA : ∀ q : Nat, s.heap.size ≤ q → A q := fun q h => by rw [← hAe]; exact Or.inr h
  have hH : HOK D A s.heap [] s.heap [] := ⟨hP, hD, va_S.rf⟩
  have hl := lv_entry ([.float x0]) (n := 4) (Nat.le_of_ble_eq_true rfl)
  rw [lg_entry_eq]
  generalize (lg_sl ([.float x0]) ++ List.replicate (4 - (lg_sl ([.float x0])).length) Slot.unset).toArray = ls at hl ⊢
  have hl : lv_has ls 4 [(0, .float x0)] := hl
  generalize hQ : MQ below (postI D k r [] [] s.heap.size) (List.toArray [.float x0]) s 0 0 A = Q
  clear hP hD hD0
  suffices K : ∀ (H : Heap) (locs : List Loc), HOK D A s.heap [] H locs → W p l e ({ frames := 0, cells := 0, slots := 0, locals := 0 } : Room) s m (List.toArray [.float x0]) below meth c H locs 0 0 Q (F0 m 0 ls []) from K s.heap [] hH
  intro H locs hH
  have L15 : ∀ (n : Nat), ∀ (kf : UInt32 → Int32 → Option (Int32)) (y15_1 : UInt32) (y15_2 : Int32) (y15_3 : Int32), fX5_bitsOf_L15 n kf y15_1 y15_2 y15_3 = some r → (∀ (z15_1 : UInt32) (z15_2 : Int32) (H : Heap) (locs : List Loc) (ls : Array Slot), kf z15_1 z15_2 = some r → HOK D A s.heap [] H locs → lv_has ls 4 [(1, .float z15_1), (2, .int z15_2)] → W p l e ({ frames := 0, cells := 0, slots := 0, locals := 0 } : Room) s m (List.toArray [.float x0]) below meth c H locs 0 0 Q (F0 m 40 ls [])) → ∀ (H : Heap) (locs : List Loc) (ls : Array Slot), HOK D A s.heap [] H locs → lv_has ls 4 [(1, .float y15_1), (2, .int y15_2), (3, .int y15_3)] → W p l e ({ frames := 0, cells := 0, slots := 0, locals := 0 } : Room) s m (List.toArray [.float x0]) below meth c H locs 0 0 Q (F0 m 15 ls []) := by
    intro n
    induction n with
    | zero =>
      intro kf y15_1 y15_2 y15_3 h
      exact absurd h (by rw [fX5_bitsOf_L15]; exact fun q => by cases q)
    | succ n ih =>
      intro kf y15_1 y15_2 y15_3 h kk H locs ls hH hl
      rw [fX5_bitsOf_L15] at h
      refine lv_iload_n hx hb dX5_bitsOf_15 rfl (lv_at hl 2 rfl) ?_
      refine lv_bipush (v := 126) hx hb dX5_bitsOf_16 (by decide) ?_
      refine lv_icmp_ge (tgt := 40) hx hb dX5_bitsOf_18 (by decide) (fun c2 => ?_) (fun c2 => ?_)
      · replace h := dc_pos c2 h
        exact kk y15_1 y15_2 H locs ls h hH (lv_sub hl [0, 1] rfl)
      · replace h := dc_neg c2 h
        refine lv_fload_n hx hb dX5_bitsOf_21 rfl (lv_at hl 0 rfl) ?_
        refine lv_fconst2 hx hb dX5_bitsOf_22 ?_
        refine lv_fcmp hx hb dX5_bitsOf_23 ?_
        refine lv_if_lt (tgt := 40) hx hb dX5_bitsOf_24 (by decide) (fun c3 => ?_) (fun c3 => ?_)
        · replace h := dc_pos c3 h
          exact kk y15_1 y15_2 H locs ls h hH (lv_sub hl [0, 1] rfl)
        · replace h := dc_neg c3 h
          refine lv_fload_n hx hb dX5_bitsOf_27 rfl (lv_at hl 0 rfl) ?_
          refine lv_fconst2 hx hb dX5_bitsOf_28 ?_
          obtain ⟨g4, h⟩ := dc_need h
          refine lv_fdiv hx hb dX5_bitsOf_29 g4 ?_
          refine lv_fstore_n (lv' := [(1, .float (FP.fdiv y15_1 FP.fconst2)), (2, .int y15_2), (3, .int y15_3)]) hx hb dX5_bitsOf_30 rfl hl (by decide) rfl (fun ls hl => ?_)
          refine lv_iinc (v := (y15_2 + (1 : Int32))) (lv' := [(2, .int (y15_2 + (1 : Int32))), (1, .float (FP.fdiv y15_1 FP.fconst2)), (3, .int y15_3)]) hx hb dX5_bitsOf_31 hl (k := 1) rfl rfl (by decide) rfl (fun ls hl => ?_)
          refine lv_iinc (v := (y15_3 + (1 : Int32))) (lv' := [(3, .int (y15_3 + (1 : Int32))), (2, .int (y15_2 + (1 : Int32))), (1, .float (FP.fdiv y15_1 FP.fconst2))]) hx hb dX5_bitsOf_34 hl (k := 2) rfl rfl (by decide) rfl (fun ls hl => ?_)
          refine lv_goto (tgt := 15) hx hb dX5_bitsOf_37 (by decide) ?_
          exact ih kf (FP.fdiv y15_1 FP.fconst2) (y15_2 + (1 : Int32)) (y15_3 + (1 : Int32)) h kk H locs ls hH (lv_sub hl [2, 1, 0] rfl)
  have L42 : ∀ (n : Nat), ∀ (kf : UInt32 → Int32 → Option (Int32)) (y42_1 : UInt32) (y42_2 : Int32) (y42_3 : Int32), fX5_bitsOf_L42 n kf y42_1 y42_2 y42_3 = some r → (∀ (z42_1 : UInt32) (z42_2 : Int32) (H : Heap) (locs : List Loc) (ls : Array Slot), kf z42_1 z42_2 = some r → HOK D A s.heap [] H locs → lv_has ls 4 [(1, .float z42_1), (2, .int z42_2)] → W p l e ({ frames := 0, cells := 0, slots := 0, locals := 0 } : Room) s m (List.toArray [.float x0]) below meth c H locs 0 0 Q (F0 m 67 ls [])) → ∀ (H : Heap) (locs : List Loc) (ls : Array Slot), HOK D A s.heap [] H locs → lv_has ls 4 [(1, .float y42_1), (2, .int y42_2), (3, .int y42_3)] → W p l e ({ frames := 0, cells := 0, slots := 0, locals := 0 } : Room) s m (List.toArray [.float x0]) below meth c H locs 0 0 Q (F0 m 42 ls []) := by
    intro n
    induction n with
    | zero =>
      intro kf y42_1 y42_2 y42_3 h
      exact absurd h (by rw [fX5_bitsOf_L42]; exact fun q => by cases q)
    | succ n ih =>
      intro kf y42_1 y42_2 y42_3 h kk H locs ls hH hl
      rw [fX5_bitsOf_L42] at h
      refine lv_iload_n hx hb dX5_bitsOf_42 rfl (lv_at hl 2 rfl) ?_
      refine lv_bipush (v := 126) hx hb dX5_bitsOf_43 (by decide) ?_
      refine lv_icmp_ge (tgt := 67) hx hb dX5_bitsOf_45 (by decide) (fun c5 => ?_) (fun c5 => ?_)
      · replace h := dc_pos c5 h
        exact kk y42_1 y42_2 H locs ls h hH (lv_sub hl [0, 1] rfl)
      · replace h := dc_neg c5 h
        refine lv_fload_n hx hb dX5_bitsOf_48 rfl (lv_at hl 0 rfl) ?_
        refine lv_fconst1 hx hb dX5_bitsOf_49 ?_
        refine lv_fcmp hx hb dX5_bitsOf_50 ?_
        refine lv_if_ge (tgt := 67) hx hb dX5_bitsOf_51 (by decide) (fun c6 => ?_) (fun c6 => ?_)
        · replace h := dc_pos c6 h
          exact kk y42_1 y42_2 H locs ls h hH (lv_sub hl [0, 1] rfl)
        · replace h := dc_neg c6 h
          refine lv_fload_n hx hb dX5_bitsOf_54 rfl (lv_at hl 0 rfl) ?_
          refine lv_fconst2 hx hb dX5_bitsOf_55 ?_
          obtain ⟨g7, h⟩ := dc_need h
          refine lv_fmul hx hb dX5_bitsOf_56 g7 ?_
          refine lv_fstore_n (lv' := [(1, .float (FP.fmul y42_1 FP.fconst2)), (2, .int y42_2), (3, .int y42_3)]) hx hb dX5_bitsOf_57 rfl hl (by decide) rfl (fun ls hl => ?_)
          refine lv_iinc (v := (y42_2 + (-1 : Int32))) (lv' := [(2, .int (y42_2 + (-1 : Int32))), (1, .float (FP.fmul y42_1 FP.fconst2)), (3, .int y42_3)]) hx hb dX5_bitsOf_58 hl (k := 1) rfl rfl (by decide) rfl (fun ls hl => ?_)
          refine lv_iinc (v := (y42_3 + (1 : Int32))) (lv' := [(3, .int (y42_3 + (1 : Int32))), (2, .int (y42_2 + (-1 : Int32))), (1, .float (FP.fmul y42_1 FP.fconst2))]) hx hb dX5_bitsOf_61 hl (k := 2) rfl rfl (by decide) rfl (fun ls hl => ?_)
          refine lv_goto (tgt := 42) hx hb dX5_bitsOf_64 (by decide) ?_
          exact ih kf (FP.fmul y42_1 FP.fconst2) (y42_2 + (-1 : Int32)) (y42_3 + (1 : Int32)) h kk H locs ls hH (lv_sub hl [2, 1, 0] rfl)
  rw [fX5_bitsOf] at h
  refine lv_fload_n hx hb dX5_bitsOf_0 rfl (lv_at hl 0 rfl) ?_
  refine lv_fconst0 hx hb dX5_bitsOf_1 ?_
  refine lv_fcmp hx hb dX5_bitsOf_2 ?_
  refine lv_if_gt (tgt := 8) hx hb dX5_bitsOf_3 (by decide) (fun c1 => ?_) (fun c1 => ?_)
  · replace h := dc_pos c1 h
    refine lv_fload_n hx hb dX5_bitsOf_8 rfl (lv_at hl 0 rfl) ?_
    refine lv_fstore_n (lv' := [(1, .float x0), (0, .float x0)]) hx hb dX5_bitsOf_9 rfl hl (by decide) rfl (fun ls hl => ?_)
    refine lv_bipush (v := 127) hx hb dX5_bitsOf_10 (by decide) ?_
    refine lv_istore_n (lv' := [(2, .int (127 : Int32)), (1, .float x0), (0, .float x0)]) hx hb dX5_bitsOf_12 rfl hl (by decide) rfl (fun ls hl => ?_)
    refine lv_iconst (v := 0) hx hb dX5_bitsOf_13 (by decide) ?_
    refine lv_istore_n (lv' := [(3, .int (0 : Int32)), (2, .int (127 : Int32)), (1, .float x0), (0, .float x0)]) hx hb dX5_bitsOf_14 rfl hl (by decide) rfl (fun ls hl => ?_)
    refine L15 _ _ x0 (127 : Int32) (0 : Int32) h (fun z15_1 z15_2 H locs ls h hH hl => ?_) H locs ls hH (lv_sub hl [2, 1, 0] rfl)
    refine lv_iconst (v := 0) hx hb dX5_bitsOf_40 (by decide) ?_
    refine lv_istore_n (lv' := [(3, .int (0 : Int32)), (1, .float z15_1), (2, .int z15_2)]) hx hb dX5_bitsOf_41 rfl hl (by decide) rfl (fun ls hl => ?_)
    refine L42 _ _ z15_1 z15_2 (0 : Int32) h (fun z42_1 z42_2 H locs ls h hH hl => ?_) H locs ls hH (lv_sub hl [1, 2, 0] rfl)
    refine lv_fload_n hx hb dX5_bitsOf_67 rfl (lv_at hl 0 rfl) ?_
    refine lv_fconst1 hx hb dX5_bitsOf_68 ?_
    obtain ⟨g8, h⟩ := dc_need h
    refine lv_fsub hx hb dX5_bitsOf_69 g8 ?_
    refine lv_ldcf hx hb hown (hts _ u_k_X5_57) dX5_bitsOf_70 ?_
    obtain ⟨g9, h⟩ := dc_need h
    refine lv_fmul hx hb dX5_bitsOf_72 g9 ?_
    refine lv_f2i hx hb dX5_bitsOf_73 ?_
    refine lv_topi (fun n10 en10 => ?_)
    replace h := dc_at en10 h
    refine lv_istore_n (lv' := [(3, .int n10), (1, .float z42_1), (2, .int z42_2)]) hx hb dX5_bitsOf_74 rfl hl (by decide) rfl (fun ls hl => ?_)
    refine lv_iload_n hx hb dX5_bitsOf_75 rfl (lv_at hl 2 rfl) ?_
    refine lv_bipush (v := 23) hx hb dX5_bitsOf_76 (by decide) ?_
    refine lv_ishl hx hb dX5_bitsOf_78 ?_
    refine lv_iload_n hx hb dX5_bitsOf_79 rfl (lv_at hl 0 rfl) ?_
    refine lv_iadd hx hb dX5_bitsOf_80 ?_
    have h := Option.some.inj h
    subst h
    exact ge_i hx hb hr hlocks hQ hK hH hAe rfl dX5_bitsOf_81
  · replace h := dc_neg c1 h
    refine lv_iconst (v := 0) hx hb dX5_bitsOf_6 (by decide) ?_
    have h := Option.some.inj h
    subst h
    exact ge_i hx hb hr hlocks hQ hK hH hAe rfl dX5_bitsOf_7
theorem hd_X7_begin : yX7_begin.cls = RX7 ∧ yX7_begin.cls ≠ "java/lang/invoke/MethodHandle" ∧ yX7_begin.cls ≠ "java/lang/invoke/VarHandle" ∧ (parseMethodDescriptor yX7_begin.desc).map (fun d => d.parameters.length) = some 2 := by decide +kernel
set_option maxHeartbeats 4000000 in
set_option maxRecDepth 100000 in
theorem mX7_begin (l : Launch) (Ts : List Cond) (hTs : ∀ w, w ∈ Ts ↔ w ∈ uT) (D : va_G) (k : Nat → ClassId) (sz : Nat) (a_p1 : Nat) (a_t : Nat) (a_t_found : Nat) (a_t_behind : Nat) (a_t_best : Nat) (a_t_tried : Nat) (a_p1_population : Nat) (a_p1_area : Nat) (a_p1_community : Nat) (a_p1_outer : Nat) (a_p1_neighbors : Nat) (a_p1_lengths : Nat) (a_p1_plan : Nat) (a_p1_plan_places : Nat) (a_p1_plan_sets : Nat) (p1_area : Nat → Int32) (p1_community : Nat → Int32) (p1_districts : Int32) (p1_lengths : Nat → Int32) (p1_outer : Nat → Int32) (p1_plan_places : Nat → Int32) (p1_plan_sets : Nat → Int32) (p1_population : Nat → Int32) (p1_units : Int32) (t_best_bottom : Int64) (t_best_top : Int64) (v_p1_cores : Value) (v_p1_hasPlan : Value) (v_p1_tolerance : Value) (v_t_hasFound : Value) (v_t_measure : Value) (x2 : Int32) (r : Int64 × Int64 × Int32 × Int32) (h : fX7_begin p1_area p1_community p1_districts p1_lengths p1_outer p1_plan_places p1_plan_sets p1_population p1_units t_best_bottom t_best_top x2 = some r) : Met l yX7_begin (Cond.code yX7_begin cX7_begin 3 none :: Ts) ({ frames := 4, cells := 0, slots := 0, locals := 131 } : Room) (preM D k [.ref a_t, .ref a_p1, .int x2] [(a_t, .inr (6, [.ref a_t_found, v_t_hasFound, v_t_measure, .ref a_t_behind, .ref a_t_best, .ref a_t_tried])), (a_p1, .inr (8, [.int p1_units, .ref a_p1_population, .ref a_p1_area, .ref a_p1_community, .ref a_p1_outer, .ref a_p1_neighbors, .ref a_p1_lengths, v_p1_cores, .int p1_districts, v_p1_tolerance, v_p1_hasPlan, .ref a_p1_plan])), (a_p1_plan, .inr (4, [.ref a_p1_plan_places, .ref a_p1_plan_sets])), (a_p1_plan_sets, .inl (k 0, 4, .inl p1_plan_sets)), (a_p1_outer, .inl (k 0, 12, .inl p1_outer)), (a_p1_lengths, .inl (k 0, 144, .inl p1_lengths)), (a_p1_area, .inl (k 0, 12, .inl p1_area)), (a_t_best, .inr (1, [.long t_best_top, .long t_best_bottom])), (a_p1_plan_places, .inl (k 0, 12, .inl p1_plan_places)), (a_p1_community, .inl (k 0, 12, .inl p1_community)), (a_p1_population, .inl (k 0, 12, .inl p1_population))] sz) (postV D k [(a_t, .inr (6, [.ref a_t_found, v_t_hasFound, v_t_measure, .ref a_t_behind, .ref a_t_best, .ref a_t_tried])), (a_p1, .inr (8, [.int p1_units, .ref a_p1_population, .ref a_p1_area, .ref a_p1_community, .ref a_p1_outer, .ref a_p1_neighbors, .ref a_p1_lengths, v_p1_cores, .int p1_districts, v_p1_tolerance, v_p1_hasPlan, .ref a_p1_plan])), (a_p1_plan, .inr (4, [.ref a_p1_plan_places, .ref a_p1_plan_sets])), (a_p1_plan_sets, .inl (k 0, 4, .inl p1_plan_sets)), (a_p1_outer, .inl (k 0, 12, .inl p1_outer)), (a_p1_lengths, .inl (k 0, 144, .inl p1_lengths)), (a_p1_area, .inl (k 0, 12, .inl p1_area)), (a_t_best, .inr (1, [.long t_best_top, .long t_best_bottom])), (a_p1_plan_places, .inl (k 0, 12, .inl p1_plan_places)), (a_p1_community, .inl (k 0, 12, .inl p1_community)), (a_p1_population, .inl (k 0, 12, .inl p1_population))] [(a_t, .inr (6, [.ref a_t_found, .int r.2.2.1, .int r.2.2.2, .ref a_t_behind, .ref a_t_best, .ref a_t_tried])), (a_p1, .inr (8, [.int p1_units, .ref a_p1_population, .ref a_p1_area, .ref a_p1_community, .ref a_p1_outer, .ref a_p1_neighbors, .ref a_p1_lengths, v_p1_cores, .int p1_districts, v_p1_tolerance, v_p1_hasPlan, .ref a_p1_plan])), (a_p1_plan, .inr (4, [.ref a_p1_plan_places, .ref a_p1_plan_sets])), (a_p1_plan_sets, .inl (k 0, 4, .inl p1_plan_sets)), (a_p1_outer, .inl (k 0, 12, .inl p1_outer)), (a_p1_lengths, .inl (k 0, 144, .inl p1_lengths)), (a_p1_area, .inl (k 0, 12, .inl p1_area)), (a_t_best, .inr (1, [.long r.2.1, .long r.1])), (a_p1_plan_places, .inl (k 0, 12, .inl p1_plan_places)), (a_p1_community, .inl (k 0, 12, .inl p1_community)), (a_p1_population, .inl (k 0, 12, .inl p1_population))] sz) 0 0 (va_A [(a_t, .inr (6, [.ref a_t_found, v_t_hasFound, v_t_measure, .ref a_t_behind, .ref a_t_best, .ref a_t_tried])), (a_p1, .inr (8, [.int p1_units, .ref a_p1_population, .ref a_p1_area, .ref a_p1_community, .ref a_p1_outer, .ref a_p1_neighbors, .ref a_p1_lengths, v_p1_cores, .int p1_districts, v_p1_tolerance, v_p1_hasPlan, .ref a_p1_plan])), (a_p1_plan, .inr (4, [.ref a_p1_plan_places, .ref a_p1_plan_sets])), (a_p1_plan_sets, .inl (k 0, 4, .inl p1_plan_sets)), (a_p1_outer, .inl (k 0, 12, .inl p1_outer)), (a_p1_lengths, .inl (k 0, 144, .inl p1_lengths)), (a_p1_area, .inl (k 0, 12, .inl p1_area)), (a_t_best, .inr (1, [.long t_best_top, .long t_best_bottom])), (a_p1_plan_places, .inl (k 0, 12, .inl p1_plan_places)), (a_p1_community, .inl (k 0, 12, .inl p1_community)), (a_p1_population, .inl (k 0, 12, .inl p1_population))] sz) := by
  refine Met.ofW (cc := cX7_begin) (maxL := 3) (ret := none) (by decide) rfl ?_
  intro p e s m args below meth c s₁ B hml hv
  obtain ⟨rfl, hsz, hP, hK, hD0⟩ := hv
  have hx := B.exec
  have hb := B.bytes
  have hr := B.returns
  have hts0 := atoms_spec (ws := (Cond.code yX7_begin cX7_begin 3 none :: Ts)) B.pre
  have hts : ∀ w ∈ uT, w.before _ s = true := fun w h => hts0 w (List.mem_cons_of_mem _ ((hTs w).mpr h))
  clear hts0
  have hown : s.vm.findClass RX7 = some m.cls := findClass_of_methodNamed B.named
  have hlocks := B.notSynchronized
  subst hsz
  have hD := hD0.self (sz := s.heap.size)
  generalize hAe : va_A [(a_t, .inr (6, [.ref a_t_found, v_t_hasFound, v_t_measure, .ref a_t_behind, .ref a_t_best, .ref a_t_tried])), (a_p1, .inr (8, [.int p1_units, .ref a_p1_population, .ref a_p1_area, .ref a_p1_community, .ref a_p1_outer, .ref a_p1_neighbors, .ref a_p1_lengths, v_p1_cores, .int p1_districts, v_p1_tolerance, v_p1_hasPlan, .ref a_p1_plan])), (a_p1_plan, .inr (4, [.ref a_p1_plan_places, .ref a_p1_plan_sets])), (a_p1_plan_sets, .inl (k 0, 4, .inl p1_plan_sets)), (a_p1_outer, .inl (k 0, 12, .inl p1_outer)), (a_p1_lengths, .inl (k 0, 144, .inl p1_lengths)), (a_p1_area, .inl (k 0, 12, .inl p1_area)), (a_t_best, .inr (1, [.long t_best_top, .long t_best_bottom])), (a_p1_plan_places, .inl (k 0, 12, .inl p1_plan_places)), (a_p1_community, .inl (k 0, 12, .inl p1_community)), (a_p1_population, .inl (k 0, 12, .inl p1_population))] s.heap.size = A at hD ⊢
  have hA : ∀ q : Nat, s.heap.size ≤ q → A q := fun q h => by rw [← hAe]; exact Or.inr h
  have hH : HOK D A s.heap [(a_t, .inr (6, [.ref a_t_found, v_t_hasFound, v_t_measure, .ref a_t_behind, .ref a_t_best, .ref a_t_tried])), (a_p1, .inr (8, [.int p1_units, .ref a_p1_population, .ref a_p1_area, .ref a_p1_community, .ref a_p1_outer, .ref a_p1_neighbors, .ref a_p1_lengths, v_p1_cores, .int p1_districts, v_p1_tolerance, v_p1_hasPlan, .ref a_p1_plan])), (a_p1_plan, .inr (4, [.ref a_p1_plan_places, .ref a_p1_plan_sets])), (a_p1_plan_sets, .inl (k 0, 4, .inl p1_plan_sets)), (a_p1_outer, .inl (k 0, 12, .inl p1_outer)), (a_p1_lengths, .inl (k 0, 144, .inl p1_lengths)), (a_p1_area, .inl (k 0, 12, .inl p1_area)), (a_t_best, .inr (1, [.long t_best_top, .long t_best_bottom])), (a_p1_plan_places, .inl (k 0, 12, .inl p1_plan_places)), (a_p1_community, .inl (k 0, 12, .inl p1_community)), (a_p1_population, .inl (k 0, 12, .inl p1_population))] s.heap [] := ⟨hP, hD, va_S.rf⟩
  have hl := lv_entry ([.ref a_t, .ref a_p1, .int x2]) (n := 3) (Nat.le_of_ble_eq_true rfl)
  rw [lg_entry_eq]
  generalize (lg_sl ([.ref a_t, .ref a_p1, .int x2]) ++ List.replicate (3 - (lg_sl ([.ref a_t, .ref a_p1, .int x2])).length) Slot.unset).toArray = ls at hl ⊢
  have hl : lv_has ls 3 [(0, .ref a_t), (1, .ref a_p1), (2, .int x2)] := hl
  generalize hQ : MQ below (postV D k [(a_t, .inr (6, [.ref a_t_found, v_t_hasFound, v_t_measure, .ref a_t_behind, .ref a_t_best, .ref a_t_tried])), (a_p1, .inr (8, [.int p1_units, .ref a_p1_population, .ref a_p1_area, .ref a_p1_community, .ref a_p1_outer, .ref a_p1_neighbors, .ref a_p1_lengths, v_p1_cores, .int p1_districts, v_p1_tolerance, v_p1_hasPlan, .ref a_p1_plan])), (a_p1_plan, .inr (4, [.ref a_p1_plan_places, .ref a_p1_plan_sets])), (a_p1_plan_sets, .inl (k 0, 4, .inl p1_plan_sets)), (a_p1_outer, .inl (k 0, 12, .inl p1_outer)), (a_p1_lengths, .inl (k 0, 144, .inl p1_lengths)), (a_p1_area, .inl (k 0, 12, .inl p1_area)), (a_t_best, .inr (1, [.long t_best_top, .long t_best_bottom])), (a_p1_plan_places, .inl (k 0, 12, .inl p1_plan_places)), (a_p1_community, .inl (k 0, 12, .inl p1_community)), (a_p1_population, .inl (k 0, 12, .inl p1_population))] [(a_t, .inr (6, [.ref a_t_found, .int r.2.2.1, .int r.2.2.2, .ref a_t_behind, .ref a_t_best, .ref a_t_tried])), (a_p1, .inr (8, [.int p1_units, .ref a_p1_population, .ref a_p1_area, .ref a_p1_community, .ref a_p1_outer, .ref a_p1_neighbors, .ref a_p1_lengths, v_p1_cores, .int p1_districts, v_p1_tolerance, v_p1_hasPlan, .ref a_p1_plan])), (a_p1_plan, .inr (4, [.ref a_p1_plan_places, .ref a_p1_plan_sets])), (a_p1_plan_sets, .inl (k 0, 4, .inl p1_plan_sets)), (a_p1_outer, .inl (k 0, 12, .inl p1_outer)), (a_p1_lengths, .inl (k 0, 144, .inl p1_lengths)), (a_p1_area, .inl (k 0, 12, .inl p1_area)), (a_t_best, .inr (1, [.long r.2.1, .long r.1])), (a_p1_plan_places, .inl (k 0, 12, .inl p1_plan_places)), (a_p1_community, .inl (k 0, 12, .inl p1_community)), (a_p1_population, .inl (k 0, 12, .inl p1_population))] s.heap.size) (List.toArray [.ref a_t, .ref a_p1, .int x2]) s 0 0 A = Q
  clear hP hD hD0
  suffices K : ∀ (H : Heap) (locs : List Loc), HOK D A s.heap [(a_t, .inr (6, [.ref a_t_found, v_t_hasFound, v_t_measure, .ref a_t_behind, .ref a_t_best, .ref a_t_tried])), (a_p1, .inr (8, [.int p1_units, .ref a_p1_population, .ref a_p1_area, .ref a_p1_community, .ref a_p1_outer, .ref a_p1_neighbors, .ref a_p1_lengths, v_p1_cores, .int p1_districts, v_p1_tolerance, v_p1_hasPlan, .ref a_p1_plan])), (a_p1_plan, .inr (4, [.ref a_p1_plan_places, .ref a_p1_plan_sets])), (a_p1_plan_sets, .inl (k 0, 4, .inl p1_plan_sets)), (a_p1_outer, .inl (k 0, 12, .inl p1_outer)), (a_p1_lengths, .inl (k 0, 144, .inl p1_lengths)), (a_p1_area, .inl (k 0, 12, .inl p1_area)), (a_t_best, .inr (1, [.long t_best_top, .long t_best_bottom])), (a_p1_plan_places, .inl (k 0, 12, .inl p1_plan_places)), (a_p1_community, .inl (k 0, 12, .inl p1_community)), (a_p1_population, .inl (k 0, 12, .inl p1_population))] H locs → W p l e ({ frames := 4, cells := 0, slots := 0, locals := 131 } : Room) s m (List.toArray [.ref a_t, .ref a_p1, .int x2]) below meth c H locs 0 0 Q (F0 m 0 ls []) from K s.heap [] hH
  intro H locs hH
  rw [fX7_begin] at h
  refine lv_aload_n hx hb dX7_begin_0 rfl (lv_at hl 0 rfl) ?_
  refine lv_iload_n hx hb dX7_begin_1 rfl (lv_at hl 2 rfl) ?_
  refine gk_put (ci := 6) (C := RX7) (T := TX7) (N := 6) hx hb hts u_ws_X7 tyX7_ok nmX7 hown hK hH 0 rfl rfl 2 (by decide) u_fl_X7_22 rfl rfl rfl (Nat.le_of_ble_eq_true rfl) dX7_begin_2 [(a_t, .inr (6, [.ref a_t_found, v_t_hasFound, .int x2, .ref a_t_behind, .ref a_t_best, .ref a_t_tried])), (a_p1, .inr (8, [.int p1_units, .ref a_p1_population, .ref a_p1_area, .ref a_p1_community, .ref a_p1_outer, .ref a_p1_neighbors, .ref a_p1_lengths, v_p1_cores, .int p1_districts, v_p1_tolerance, v_p1_hasPlan, .ref a_p1_plan])), (a_p1_plan, .inr (4, [.ref a_p1_plan_places, .ref a_p1_plan_sets])), (a_p1_plan_sets, .inl (k 0, 4, .inl p1_plan_sets)), (a_p1_outer, .inl (k 0, 12, .inl p1_outer)), (a_p1_lengths, .inl (k 0, 144, .inl p1_lengths)), (a_p1_area, .inl (k 0, 12, .inl p1_area)), (a_t_best, .inr (1, [.long t_best_top, .long t_best_bottom])), (a_p1_plan_places, .inl (k 0, 12, .inl p1_plan_places)), (a_p1_community, .inl (k 0, 12, .inl p1_community)), (a_p1_population, .inl (k 0, 12, .inl p1_population))] rfl (fun H locs hH => ?_)
  refine lv_aload_n hx hb dX7_begin_5 rfl (lv_at hl 0 rfl) ?_
  refine lv_iconst (v := 0) hx hb dX7_begin_6 (by decide) ?_
  refine gk_put (ci := 6) (C := RX7) (T := TX7) (N := 6) hx hb hts u_ws_X7 tyX7_ok nmX7 hown hK hH 0 rfl rfl 1 (by decide) u_fl_X7_18 rfl rfl rfl (Nat.le_of_ble_eq_true rfl) dX7_begin_7 [(a_t, .inr (6, [.ref a_t_found, .int (0 : Int32), .int x2, .ref a_t_behind, .ref a_t_best, .ref a_t_tried])), (a_p1, .inr (8, [.int p1_units, .ref a_p1_population, .ref a_p1_area, .ref a_p1_community, .ref a_p1_outer, .ref a_p1_neighbors, .ref a_p1_lengths, v_p1_cores, .int p1_districts, v_p1_tolerance, v_p1_hasPlan, .ref a_p1_plan])), (a_p1_plan, .inr (4, [.ref a_p1_plan_places, .ref a_p1_plan_sets])), (a_p1_plan_sets, .inl (k 0, 4, .inl p1_plan_sets)), (a_p1_outer, .inl (k 0, 12, .inl p1_outer)), (a_p1_lengths, .inl (k 0, 144, .inl p1_lengths)), (a_p1_area, .inl (k 0, 12, .inl p1_area)), (a_t_best, .inr (1, [.long t_best_top, .long t_best_bottom])), (a_p1_plan_places, .inl (k 0, 12, .inl p1_plan_places)), (a_p1_community, .inl (k 0, 12, .inl p1_community)), (a_p1_population, .inl (k 0, 12, .inl p1_population))] rfl (fun H locs hH => ?_)
  refine lv_aload_n hx hb dX7_begin_10 rfl (lv_at hl 0 rfl) ?_
  refine gk_get (ci := 6) (C := RX7) (T := TX7) (N := 6) hx hb hts u_ws_X7 hown hK hH 0 rfl rfl 2 (by decide) u_fl_X7_22 rfl dX7_begin_11 ?_
  refine lv_iconst (v := -1) hx hb dX7_begin_14 (by decide) ?_
  refine lv_icmp_eq (tgt := 34) hx hb dX7_begin_15 (by decide) (fun c1 => ?_) (fun c1 => ?_)
  · replace h := dc_pos c1 h
    have h := Option.some.inj h
    subst h
    exact ge_v hx hb hr hlocks hQ hK hH hAe dX7_begin_34
  · replace h := dc_neg c1 h
    refine lv_aload_n hx hb dX7_begin_18 rfl (lv_at hl 1 rfl) ?_
    refine lv_aload_n hx hb dX7_begin_19 rfl (lv_at hl 1 rfl) ?_
    refine gk_get (ci := 8) (C := RX9) (T := TX9) (N := 12) hx hb hts u_ws_X9 hown hK hH 1 rfl rfl 11 (by decide) u_fl_X7_39 rfl dX7_begin_20 ?_
    refine lv_aload_n hx hb dX7_begin_23 rfl (lv_at hl 0 rfl) ?_
    refine gk_get (ci := 6) (C := RX7) (T := TX7) (N := 6) hx hb hts u_ws_X7 hown hK hH 0 rfl rfl 2 (by decide) u_fl_X7_22 rfl dX7_begin_24 ?_
    refine lv_aload_n hx hb dX7_begin_27 rfl (lv_at hl 0 rfl) ?_
    refine gk_get (ci := 6) (C := RX7) (T := TX7) (N := 6) hx hb hts u_ws_X7 hown hK hH 0 rfl rfl 4 (by decide) u_fl_X7_32 rfl dX7_begin_28 ?_
    obtain ⟨q2, hqq2, h⟩ := dc_bind h
    refine gc_Sv (ws' := [(a_t, .inr (6, [.ref a_t_found, .int (0 : Int32), .int x2, .ref a_t_behind, .ref a_t_best, .ref a_t_tried])), (a_p1, .inr (8, [.int p1_units, .ref a_p1_population, .ref a_p1_area, .ref a_p1_community, .ref a_p1_outer, .ref a_p1_neighbors, .ref a_p1_lengths, v_p1_cores, .int p1_districts, v_p1_tolerance, v_p1_hasPlan, .ref a_p1_plan])), (a_p1_plan, .inr (4, [.ref a_p1_plan_places, .ref a_p1_plan_sets])), (a_p1_plan_sets, .inl (k 0, 4, .inl p1_plan_sets)), (a_p1_outer, .inl (k 0, 12, .inl p1_outer)), (a_p1_lengths, .inl (k 0, 144, .inl p1_lengths)), (a_p1_area, .inl (k 0, 12, .inl p1_area)), (a_t_best, .inr (1, [.long q2.2, .long q2.1])), (a_p1_plan_places, .inl (k 0, 12, .inl p1_plan_places)), (a_p1_community, .inl (k 0, 12, .inl p1_community)), (a_p1_population, .inl (k 0, 12, .inl p1_population))]) (As := [.ref a_p1, .ref a_p1_plan, .int x2, .ref a_t_best]) (rest := []) (n := 4) hTs ⟨hx, hb, hml, hown, hts⟩ (mX6_weigh l Ts hTs D k H.size a_p1 a_p1_plan a_t_best a_p1_population a_p1_area a_p1_community a_p1_outer a_p1_neighbors a_p1_lengths a_p1_plan a_p1_plan_places a_p1_plan_sets p1_area p1_community p1_districts p1_lengths p1_outer p1_population p1_units p1_plan_places p1_plan_sets v_p1_cores v_p1_hasPlan v_p1_tolerance (.long t_best_bottom) (.long t_best_top) x2 q2 hqq2) u_ml_X7_44 u_st_X6_weigh u_in_X6 u_co_X6_weigh hd_X6_weigh ⟨Nat.le_of_ble_eq_true rfl, Nat.le_of_ble_eq_true rfl⟩ ⟨rfl, rfl⟩ hK hH hA (cutM (isC := [1, 2, 3, 4, 5, 6, 7, 8, 9, 10]) [none, some 0, some 1, some 2, some 3, some 4, some 5, some 6, some 7, some 8, some 9] 11 rfl rfl rfl rfl rfl rfl rfl) rfl rfl hl.1 (Nat.le_of_ble_eq_true rfl) dX7_begin_31 ⟨Nat.le_of_ble_eq_true rfl, Nat.le_of_ble_eq_true rfl⟩ (fun H locs hH => ?_)
    have h := Option.some.inj h
    subst h
    exact ge_v hx hb hr hlocks hQ hK hH hAe dX7_begin_34
