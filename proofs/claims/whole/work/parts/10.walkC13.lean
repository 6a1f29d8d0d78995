theorem hd_X9_dropPlan : yX9_dropPlan.cls = RX9 ∧ yX9_dropPlan.cls ≠ "java/lang/invoke/MethodHandle" ∧ yX9_dropPlan.cls ≠ "java/lang/invoke/VarHandle" ∧ (parseMethodDescriptor yX9_dropPlan.desc).map (fun d => d.parameters.length) = some 0 := by decide +kernel
set_option maxHeartbeats 4000000 in
set_option maxRecDepth 100000 in
theorem mX9_dropPlan (l : Launch) (Ts : List Cond) (hTs : ∀ w, w ∈ Ts ↔ w ∈ uT) (D : va_G) (k : Nat → ClassId) (sz : Nat) (a_t : Nat) (a_t_population : Nat) (a_t_area : Nat) (a_t_community : Nat) (a_t_outer : Nat) (a_t_neighbors : Nat) (a_t_lengths : Nat) (a_t_plan : Nat) (a_t_plan_places : Nat) (a_t_plan_sets : Nat) (t_plan_places : Nat → Int32) (t_plan_sets : Nat → Int32) (v_t_cores : Value) (v_t_districts : Value) (v_t_hasPlan : Value) (v_t_tolerance : Value) (v_t_units : Value) (r : Int32 × (Nat → Int32) × (Nat → Int32)) (h : fX9_dropPlan t_plan_places t_plan_sets = some r) : Met l yX9_dropPlan (Cond.code yX9_dropPlan cX9_dropPlan 1 none :: Ts) ({ frames := 2, cells := 0, slots := 0, locals := 43 } : Room) (preM D k [.ref a_t] [(a_t, .inr (8, [v_t_units, .ref a_t_population, .ref a_t_area, .ref a_t_community, .ref a_t_outer, .ref a_t_neighbors, .ref a_t_lengths, v_t_cores, v_t_districts, v_t_tolerance, v_t_hasPlan, .ref a_t_plan])), (a_t_plan, .inr (4, [.ref a_t_plan_places, .ref a_t_plan_sets])), (a_t_plan_places, .inl (k 0, 12, .inl t_plan_places)), (a_t_plan_sets, .inl (k 0, 4, .inl t_plan_sets))] sz) (postV D k [(a_t, .inr (8, [v_t_units, .ref a_t_population, .ref a_t_area, .ref a_t_community, .ref a_t_outer, .ref a_t_neighbors, .ref a_t_lengths, v_t_cores, v_t_districts, v_t_tolerance, v_t_hasPlan, .ref a_t_plan])), (a_t_plan, .inr (4, [.ref a_t_plan_places, .ref a_t_plan_sets])), (a_t_plan_places, .inl (k 0, 12, .inl t_plan_places)), (a_t_plan_sets, .inl (k 0, 4, .inl t_plan_sets))] [(a_t, .inr (8, [v_t_units, .ref a_t_population, .ref a_t_area, .ref a_t_community, .ref a_t_outer, .ref a_t_neighbors, .ref a_t_lengths, v_t_cores, v_t_districts, v_t_tolerance, .int r.1, .ref a_t_plan])), (a_t_plan, .inr (4, [.ref a_t_plan_places, .ref a_t_plan_sets])), (a_t_plan_places, .inl (k 0, 12, .inl r.2.1)), (a_t_plan_sets, .inl (k 0, 4, .inl r.2.2))] sz) 0 0 (va_A [(a_t, .inr (8, [v_t_units, .ref a_t_population, .ref a_t_area, .ref a_t_community, .ref a_t_outer, .ref a_t_neighbors, .ref a_t_lengths, v_t_cores, v_t_districts, v_t_tolerance, v_t_hasPlan, .ref a_t_plan])), (a_t_plan, .inr (4, [.ref a_t_plan_places, .ref a_t_plan_sets])), (a_t_plan_places, .inl (k 0, 12, .inl t_plan_places)), (a_t_plan_sets, .inl (k 0, 4, .inl t_plan_sets))] sz) := by
  refine Met.ofW (cc := cX9_dropPlan) (maxL := 1) (ret := none) (by decide) rfl ?_
  intro p e s m args below meth c s₁ B hml hv
  obtain ⟨rfl, hsz, hP, hK, hD0⟩ := hv
  have hx := B.exec
  have hb := B.bytes
  have hr := B.returns
  have hts0 := atoms_spec (ws := (Cond.code yX9_dropPlan cX9_dropPlan 1 none :: Ts)) B.pre
  have hts : ∀ w ∈ uT, w.before _ s = true := fun w h => hts0 w (List.mem_cons_of_mem _ ((hTs w).mpr h))
  clear hts0
  have hown : s.vm.findClass RX9 = some m.cls := findClass_of_methodNamed B.named
  have hlocks := B.notSynchronized
  subst hsz
  have hD := hD0.self (sz := s.heap.size)
  generalize hAe : va_A [(a_t, .inr (8, [v_t_units, .ref a_t_population, .ref a_t_area, .ref a_t_community, .ref a_t_outer, .ref a_t_neighbors, .ref a_t_lengths, v_t_cores, v_t_districts, v_t_tolerance, v_t_hasPlan, .ref a_t_plan])), (a_t_plan, .inr (4, [.ref a_t_plan_places, .ref a_t_plan_sets])), (a_t_plan_places, .inl (k 0, 12, .inl t_plan_places)), (a_t_plan_sets, .inl (k 0, 4, .inl t_plan_sets))] s.heap.size = A at hD ⊢
  have hA : ∀ q : Nat, s.heap.size ≤ q → A q := fun q h => by rw [← hAe]; exact Or.inr h
  have hH : HOK D A s.heap [(a_t, .inr (8, [v_t_units, .ref a_t_population, .ref a_t_area, .ref a_t_community, .ref a_t_outer, .ref a_t_neighbors, .ref a_t_lengths, v_t_cores, v_t_districts, v_t_tolerance, v_t_hasPlan, .ref a_t_plan])), (a_t_plan, .inr (4, [.ref a_t_plan_places, .ref a_t_plan_sets])), (a_t_plan_places, .inl (k 0, 12, .inl t_plan_places)), (a_t_plan_sets, .inl (k 0, 4, .inl t_plan_sets))] s.heap [] := ⟨hP, hD, va_S.rf⟩
  have hl := lv_entry ([.ref a_t]) (n := 1) (Nat.le_of_ble_eq_true rfl)
  rw [lg_entry_eq]
  generalize (lg_sl ([.ref a_t]) ++ List.replicate (1 - (lg_sl ([.ref a_t])).length) Slot.unset).toArray = ls at hl ⊢
  have hl : lv_has ls 1 [(0, .ref a_t)] := hl
  generalize hQ : MQ below (postV D k [(a_t, .inr (8, [v_t_units, .ref a_t_population, .ref a_t_area, .ref a_t_community, .ref a_t_outer, .ref a_t_neighbors, .ref a_t_lengths, v_t_cores, v_t_districts, v_t_tolerance, v_t_hasPlan, .ref a_t_plan])), (a_t_plan, .inr (4, [.ref a_t_plan_places, .ref a_t_plan_sets])), (a_t_plan_places, .inl (k 0, 12, .inl t_plan_places)), (a_t_plan_sets, .inl (k 0, 4, .inl t_plan_sets))] [(a_t, .inr (8, [v_t_units, .ref a_t_population, .ref a_t_area, .ref a_t_community, .ref a_t_outer, .ref a_t_neighbors, .ref a_t_lengths, v_t_cores, v_t_districts, v_t_tolerance, .int r.1, .ref a_t_plan])), (a_t_plan, .inr (4, [.ref a_t_plan_places, .ref a_t_plan_sets])), (a_t_plan_places, .inl (k 0, 12, .inl r.2.1)), (a_t_plan_sets, .inl (k 0, 4, .inl r.2.2))] s.heap.size) (List.toArray [.ref a_t]) s 0 0 A = Q
  clear hP hD hD0
  suffices K : ∀ (H : Heap) (locs : List Loc), HOK D A s.heap [(a_t, .inr (8, [v_t_units, .ref a_t_population, .ref a_t_area, .ref a_t_community, .ref a_t_outer, .ref a_t_neighbors, .ref a_t_lengths, v_t_cores, v_t_districts, v_t_tolerance, v_t_hasPlan, .ref a_t_plan])), (a_t_plan, .inr (4, [.ref a_t_plan_places, .ref a_t_plan_sets])), (a_t_plan_places, .inl (k 0, 12, .inl t_plan_places)), (a_t_plan_sets, .inl (k 0, 4, .inl t_plan_sets))] H locs → W p l e ({ frames := 2, cells := 0, slots := 0, locals := 43 } : Room) s m (List.toArray [.ref a_t]) below meth c H locs 0 0 Q (F0 m 0 ls []) from K s.heap [] hH
  intro H locs hH
  rw [fX9_dropPlan] at h
  refine lv_aload_n hx hb dX9_dropPlan_0 rfl (lv_at hl 0 rfl) ?_
  refine lv_iconst (v := 0) hx hb dX9_dropPlan_1 (by decide) ?_
  refine gk_put (ci := 8) (C := RX9) (T := TX9) (N := 12) hx hb hts u_ws_X9 tyX9_ok nmX9 hown hK hH 0 rfl rfl 10 (by decide) u_fl_X9_43 rfl rfl rfl (Nat.le_of_ble_eq_true rfl) dX9_dropPlan_2 [(a_t, .inr (8, [v_t_units, .ref a_t_population, .ref a_t_area, .ref a_t_community, .ref a_t_outer, .ref a_t_neighbors, .ref a_t_lengths, v_t_cores, v_t_districts, v_t_tolerance, .int (0 : Int32), .ref a_t_plan])), (a_t_plan, .inr (4, [.ref a_t_plan_places, .ref a_t_plan_sets])), (a_t_plan_places, .inl (k 0, 12, .inl t_plan_places)), (a_t_plan_sets, .inl (k 0, 4, .inl t_plan_sets))] rfl (fun H locs hH => ?_)
  refine lv_aload_n hx hb dX9_dropPlan_5 rfl (lv_at hl 0 rfl) ?_
  refine gk_get (ci := 8) (C := RX9) (T := TX9) (N := 12) hx hb hts u_ws_X9 hown hK hH 0 rfl rfl 11 (by decide) u_fl_X9_50 rfl dX9_dropPlan_6 ?_
  obtain ⟨q1, hqq1, h⟩ := dc_bind h
  refine gc_Vv (ws' := [(a_t, .inr (8, [v_t_units, .ref a_t_population, .ref a_t_area, .ref a_t_community, .ref a_t_outer, .ref a_t_neighbors, .ref a_t_lengths, v_t_cores, v_t_districts, v_t_tolerance, .int (0 : Int32), .ref a_t_plan])), (a_t_plan, .inr (4, [.ref a_t_plan_places, .ref a_t_plan_sets])), (a_t_plan_places, .inl (k 0, 12, .inl q1.1)), (a_t_plan_sets, .inl (k 0, 4, .inl q1.2))]) (As := []) (rest := []) (n := 0) (ci := 4) (cq := (RX4, TX4, 2)) hTs ⟨hx, hb, hml, hown, hts⟩ (mX4_clear l Ts hTs D k H.size a_t_plan a_t_plan_places a_t_plan_sets t_plan_places t_plan_sets q1 hqq1) u_ml_X9_70 u_im_X4_clear u_se_X4_clear u_in_X4 u_co_X4_clear hd_X4_clear ⟨Nat.le_of_ble_eq_true rfl, Nat.le_of_ble_eq_true rfl⟩ ⟨rfl, rfl⟩ hK hH hA (cutM (isC := [1, 2, 3]) [none, some 0, some 1, some 2] 4 rfl rfl rfl rfl rfl rfl rfl) rfl rfl rfl rfl hl.1 (Nat.le_of_ble_eq_true rfl) dX9_dropPlan_9 ⟨Nat.le_of_ble_eq_true rfl, Nat.le_of_ble_eq_true rfl⟩ (fun H locs hH => ?_)
  have h := Option.some.inj h
  subst h
  exact ge_v hx hb hr hlocks hQ hK hH hAe dX9_dropPlan_12
theorem hd_X9_isAtEdge : yX9_isAtEdge.cls = RX9 ∧ yX9_isAtEdge.cls ≠ "java/lang/invoke/MethodHandle" ∧ yX9_isAtEdge.cls ≠ "java/lang/invoke/VarHandle" ∧ (parseMethodDescriptor yX9_isAtEdge.desc).map (fun d => d.parameters.length) = some 1 := by decide +kernel
set_option maxHeartbeats 4000000 in
set_option maxRecDepth 100000 in
theorem mX9_isAtEdge (l : Launch) (Ts : List Cond) (hTs : ∀ w, w ∈ Ts ↔ w ∈ uT) (D : va_G) (k : Nat → ClassId) (sz : Nat) (a_t : Nat) (a_t_population : Nat) (a_t_area : Nat) (a_t_community : Nat) (a_t_outer : Nat) (a_t_neighbors : Nat) (a_t_lengths : Nat) (a_t_plan : Nat) (a_t_plan_places : Nat) (a_t_plan_sets : Nat) (t_hasPlan : Int32) (t_neighbors : Nat → Int32) (t_plan_places : Nat → Int32) (t_plan_sets : Nat → Int32) (v_t_cores : Value) (v_t_districts : Value) (v_t_tolerance : Value) (v_t_units : Value) (x1 : Int32) (r : Int32) (h : fX9_isAtEdge t_hasPlan t_neighbors t_plan_places t_plan_sets x1 = some r) : Met l yX9_isAtEdge (Cond.code yX9_isAtEdge cX9_isAtEdge 2 (some .boolean) :: Ts) ({ frames := 0, cells := 0, slots := 0, locals := 0 } : Room) (preM D k [.ref a_t, .int x1] [(a_t, .inr (8, [v_t_units, .ref a_t_population, .ref a_t_area, .ref a_t_community, .ref a_t_outer, .ref a_t_neighbors, .ref a_t_lengths, v_t_cores, v_t_districts, v_t_tolerance, .int t_hasPlan, .ref a_t_plan])), (a_t_neighbors, .inl (k 0, 12, .inl t_neighbors)), (a_t_plan, .inr (4, [.ref a_t_plan_places, .ref a_t_plan_sets])), (a_t_plan_places, .inl (k 0, 12, .inl t_plan_places)), (a_t_plan_sets, .inl (k 0, 4, .inl t_plan_sets))] sz) (postI D k r [(a_t, .inr (8, [v_t_units, .ref a_t_population, .ref a_t_area, .ref a_t_community, .ref a_t_outer, .ref a_t_neighbors, .ref a_t_lengths, v_t_cores, v_t_districts, v_t_tolerance, .int t_hasPlan, .ref a_t_plan])), (a_t_neighbors, .inl (k 0, 12, .inl t_neighbors)), (a_t_plan, .inr (4, [.ref a_t_plan_places, .ref a_t_plan_sets])), (a_t_plan_places, .inl (k 0, 12, .inl t_plan_places)), (a_t_plan_sets, .inl (k 0, 4, .inl t_plan_sets))] [(a_t, .inr (8, [v_t_units, .ref a_t_population, .ref a_t_area, .ref a_t_community, .ref a_t_outer, .ref a_t_neighbors, .ref a_t_lengths, v_t_cores, v_t_districts, v_t_tolerance, .int t_hasPlan, .ref a_t_plan])), (a_t_neighbors, .inl (k 0, 12, .inl t_neighbors)), (a_t_plan, .inr (4, [.ref a_t_plan_places, .ref a_t_plan_sets])), (a_t_plan_places, .inl (k 0, 12, .inl t_plan_places)), (a_t_plan_sets, .inl (k 0, 4, .inl t_plan_sets))] sz) 0 0 (va_A [(a_t, .inr (8, [v_t_units, .ref a_t_population, .ref a_t_area, .ref a_t_community, .ref a_t_outer, .ref a_t_neighbors, .ref a_t_lengths, v_t_cores, v_t_districts, v_t_tolerance, .int t_hasPlan, .ref a_t_plan])), (a_t_neighbors, .inl (k 0, 12, .inl t_neighbors)), (a_t_plan, .inr (4, [.ref a_t_plan_places, .ref a_t_plan_sets])), (a_t_plan_places, .inl (k 0, 12, .inl t_plan_places)), (a_t_plan_sets, .inl (k 0, 4, .inl t_plan_sets))] sz) := by
  refine Met.ofW (cc := cX9_isAtEdge) (maxL := 2) (ret := (some .boolean)) (by decide) rfl ?_
  intro p e s m args below meth c s₁ B hml hv
  obtain ⟨rfl, hsz, hP, hK, hD0⟩ := hv
  have hx := B.exec
  have hb := B.bytes
  have hr := B.returns
  have hts0 := atoms_spec (ws := (Cond.code yX9_isAtEdge cX9_isAtEdge 2 (some .boolean) :: Ts)) B.pre
  have hts : ∀ w ∈ uT, w.before _ s = true := fun w h => hts0 w (List.mem_cons_of_mem _ ((hTs w).mpr h))
  clear hts0
  have hown : s.vm.findClass RX9 = some m.cls := findClass_of_methodNamed B.named
  have hlocks := B.notSynchronized
  subst hsz
  have hD := hD0.self (sz := s.heap.size)
  generalize hAe : va_A [(a_t, .inr (8, [v_t_units, .ref a_t_population, .ref a_t_area, .ref a_t_community, .ref a_t_outer, .ref a_t_neighbors, .ref a_t_lengths, v_t_cores, v_t_districts, v_t_tolerance, .int t_hasPlan, .ref a_t_plan])), (a_t_neighbors, .inl (k 0, 12, .inl t_neighbors)), (a_t_plan, .inr (4, [.ref a_t_plan_places, .ref a_t_plan_sets])), (a_t_plan_places, .inl (k 0, 12, .inl t_plan_places)), (a_t_plan_sets, .inl (k 0, 4, .inl t_plan_sets))] s.heap.size = A at hD ⊢
  have hA : ∀ q : Nat, s.heap.size ≤ q → A q := fun q h => by rw [← hAe]; exact Or.inr h
  have hH : HOK D A s.heap [(a_t, .inr (8, [v_t_units, .ref a_t_population, .ref a_t_area, .ref a_t_community, .ref a_t_outer, .ref a_t_neighbors, .ref a_t_lengths, v_t_cores, v_t_districts, v_t_tolerance, .int t_hasPlan, .ref a_t_plan])), (a_t_neighbors, .inl (k 0, 12, .inl t_neighbors)), (a_t_plan, .inr (4, [.ref a_t_plan_places, .ref a_t_plan_sets])), (a_t_plan_places, .inl (k 0, 12, .inl t_plan_places)), (a_t_plan_sets, .inl (k 0, 4, .inl t_plan_sets))] s.heap [] := ⟨hP, hD, va_S.rf⟩
  have hl := lv_entry ([.ref a_t, .int x1]) (n := 2) (Nat.le_of_ble_eq_true rfl)
  rw [lg_entry_eq]
  generalize (lg_sl ([.ref a_t, .int x1]) ++ List.replicate (2 - (lg_sl ([.ref a_t, .int x1])).length) Slot.unset).toArray = ls at hl ⊢
  have hl : lv_has ls 2 [(0, .ref a_t), (1, .int x1)] := hl
  generalize hQ : MQ below (postI D k r [(a_t, .inr (8, [v_t_units, .ref a_t_population, .ref a_t_area, .ref a_t_community, .ref a_t_outer, .ref a_t_neighbors, .ref a_t_lengths, v_t_cores, v_t_districts, v_t_tolerance, .int t_hasPlan, .ref a_t_plan])), (a_t_neighbors, .inl (k 0, 12, .inl t_neighbors)), (a_t_plan, .inr (4, [.ref a_t_plan_places, .ref a_t_plan_sets])), (a_t_plan_places, .inl (k 0, 12, .inl t_plan_places)), (a_t_plan_sets, .inl (k 0, 4, .inl t_plan_sets))] [(a_t, .inr (8, [v_t_units, .ref a_t_population, .ref a_t_area, .ref a_t_community, .ref a_t_outer, .ref a_t_neighbors, .ref a_t_lengths, v_t_cores, v_t_districts, v_t_tolerance, .int t_hasPlan, .ref a_t_plan])), (a_t_neighbors, .inl (k 0, 12, .inl t_neighbors)), (a_t_plan, .inr (4, [.ref a_t_plan_places, .ref a_t_plan_sets])), (a_t_plan_places, .inl (k 0, 12, .inl t_plan_places)), (a_t_plan_sets, .inl (k 0, 4, .inl t_plan_sets))] s.heap.size) (List.toArray [.ref a_t, .int x1]) s 0 0 A = Q
  clear hP hD hD0
  suffices K : ∀ (H : Heap) (locs : List Loc), HOK D A s.heap [(a_t, .inr (8, [v_t_units, .ref a_t_population, .ref a_t_area, .ref a_t_community, .ref a_t_outer, .ref a_t_neighbors, .ref a_t_lengths, v_t_cores, v_t_districts, v_t_tolerance, .int t_hasPlan, .ref a_t_plan])), (a_t_neighbors, .inl (k 0, 12, .inl t_neighbors)), (a_t_plan, .inr (4, [.ref a_t_plan_places, .ref a_t_plan_sets])), (a_t_plan_places, .inl (k 0, 12, .inl t_plan_places)), (a_t_plan_sets, .inl (k 0, 4, .inl t_plan_sets))] H locs → W p l e ({ frames := 0, cells := 0, slots := 0, locals := 0 } : Room) s m (List.toArray [.ref a_t, .int x1]) below meth c H locs 0 0 Q (F0 m 0 ls []) from K s.heap [] hH
  intro H locs hH
  rw [fX9_isAtEdge] at h
  refine lv_aload_n hx hb dX9_isAtEdge_0 rfl (lv_at hl 0 rfl) ?_
  refine gk_get (ci := 8) (C := RX9) (T := TX9) (N := 12) hx hb hts u_ws_X9 hown hK hH 0 rfl rfl 10 (by decide) u_fl_X9_43 rfl dX9_isAtEdge_1 ?_
  refine lv_if_eq (tgt := 40) hx hb dX9_isAtEdge_4 (by decide) (fun c1 => ?_) (fun c1 => ?_)
  · replace h := dc_pos c1 h
    refine lv_iconst (v := 0) hx hb dX9_isAtEdge_40 (by decide) ?_
    have h := Option.some.inj h
    subst h
    exact ge_z hx hb hr rfl hlocks hQ hK hH hAe rfl dX9_isAtEdge_41
  · replace h := dc_neg c1 h
    refine lv_aload_n hx hb dX9_isAtEdge_7 rfl (lv_at hl 0 rfl) ?_
    refine gk_get (ci := 8) (C := RX9) (T := TX9) (N := 12) hx hb hts u_ws_X9 hown hK hH 0 rfl rfl 5 (by decide) u_fl_X9_28 rfl dX9_isAtEdge_8 ?_
    refine lv_iload_n hx hb dX9_isAtEdge_11 rfl (lv_at hl 1 rfl) ?_
    obtain ⟨g2, h⟩ := dc_need h
    refine gk_iald hx hb hK hH 1 rfl (dk_in g2) dX9_isAtEdge_12 ?_
    refine lv_aload_n hx hb dX9_isAtEdge_13 rfl (lv_at hl 0 rfl) ?_
    refine gk_get (ci := 8) (C := RX9) (T := TX9) (N := 12) hx hb hts u_ws_X9 hown hK hH 0 rfl rfl 11 (by decide) u_fl_X9_50 rfl dX9_isAtEdge_14 ?_
    refine gk_get (ci := 4) (C := RX4) (T := TX4) (N := 2) hx hb hts u_ws_X4 hown hK hH 2 rfl rfl 1 (by decide) u_fl_X9_77 rfl dX9_isAtEdge_17 ?_
    refine lv_aload_n hx hb dX9_isAtEdge_20 rfl (lv_at hl 0 rfl) ?_
    refine gk_get (ci := 8) (C := RX9) (T := TX9) (N := 12) hx hb hts u_ws_X9 hown hK hH 0 rfl rfl 11 (by decide) u_fl_X9_50 rfl dX9_isAtEdge_21 ?_
    refine gk_get (ci := 4) (C := RX4) (T := TX4) (N := 2) hx hb hts u_ws_X4 hown hK hH 2 rfl rfl 0 (by decide) u_fl_X9_80 rfl dX9_isAtEdge_24 ?_
    refine lv_iload_n hx hb dX9_isAtEdge_27 rfl (lv_at hl 1 rfl) ?_
    obtain ⟨g3, h⟩ := dc_need h
    refine gk_iald hx hb hK hH 3 rfl (dk_in g3) dX9_isAtEdge_28 ?_
    obtain ⟨g4, h⟩ := dc_need h
    refine gk_iald hx hb hK hH 4 rfl (dk_in g4) dX9_isAtEdge_29 ?_
    refine lv_iconst (v := -1) hx hb dX9_isAtEdge_30 (by decide) ?_
    refine lv_ixor hx hb dX9_isAtEdge_31 ?_
    refine lv_iand hx hb dX9_isAtEdge_32 ?_
    refine lv_if_eq (tgt := 40) hx hb dX9_isAtEdge_33 (by decide) (fun c5 => ?_) (fun c5 => ?_)
    · replace h := dc_pos c5 h
      refine lv_iconst (v := 0) hx hb dX9_isAtEdge_40 (by decide) ?_
      have h := Option.some.inj h
      subst h
      exact ge_z hx hb hr rfl hlocks hQ hK hH hAe rfl dX9_isAtEdge_41
    · replace h := dc_neg c5 h
      refine lv_iconst (v := 1) hx hb dX9_isAtEdge_36 (by decide) ?_
      refine lv_goto (tgt := 41) hx hb dX9_isAtEdge_37 (by decide) ?_
      have h := Option.some.inj h
      subst h
      exact ge_z hx hb hr rfl hlocks hQ hK hH hAe rfl dX9_isAtEdge_41
theorem hd_J6_bitCount_0f7a4 : yJ6_bitCount_0f7a4.cls ≠ "java/lang/invoke/MethodHandle" ∧ yJ6_bitCount_0f7a4.cls ≠ "java/lang/invoke/VarHandle" ∧ (parseMethodDescriptor yJ6_bitCount_0f7a4.desc).map (fun d => d.parameters.length) = some 1 := by decide +kernel
set_option maxHeartbeats 4000000 in
set_option maxRecDepth 100000 in
theorem mJ6_bitCount_0f7a4 (l : Launch) (Ts : List Cond) (hTs : ∀ w, w ∈ Ts ↔ w ∈ uT) (D : va_G) (k : Nat → ClassId) (sz : Nat) (x0 : Int32) (r : Int32) (h : fJ6_bitCount_0f7a4 x0 = some r) : Met l yJ6_bitCount_0f7a4 (Cond.code yJ6_bitCount_0f7a4 cJ6_bitCount_0f7a4 1 (some .int) :: Ts) ({ frames := 0, cells := 0, slots := 0, locals := 0 } : Room) (preM D k [.int x0] [] sz) (postI D k r [] [] sz) 0 0 (va_A [] sz) := by
  refine Met.ofW (cc := cJ6_bitCount_0f7a4) (maxL := 1) (ret := (some .int)) (by decide) rfl ?_
  intro p e s m args below meth c s₁ B hml hv
  obtain ⟨rfl, hsz, hP, hK, hD0⟩ := hv
  have hx := B.exec
  have hb := B.bytes
  have hr := B.returns
  have hts0 := atoms_spec (ws := (Cond.code yJ6_bitCount_0f7a4 cJ6_bitCount_0f7a4 1 (some .int) :: Ts)) B.pre
  have hts : ∀ w ∈ uT, w.before _ s = true := fun w h => hts0 w (List.mem_cons_of_mem _ ((hTs w).mpr h))
  clear hts0
  have hown : s.vm.findClass RJ6 = some m.cls := findClass_of_methodNamed B.named
  have hlocks := B.notSynchronized
  subst hsz
  have hD := hD0.self (sz := s.heap.size)
  generalize hAe : va_A [] s.heap.size = A at hD ⊢
  have hA : ∀ q : Nat, s.heap.size ≤ q → A q := fun q h => by rw [← hAe]; exact Or.inr h
  have hH : HOK D A s.heap [] s.heap [] := ⟨hP, hD, va_S.rf⟩
  have hl := lv_entry ([.int x0]) (n := 1) (Nat.le_of_ble_eq_true rfl)
  rw [lg_entry_eq]
  generalize (lg_sl ([.int x0]) ++ List.replicate (1 - (lg_sl ([.int x0])).length) Slot.unset).toArray = ls at hl ⊢
  have hl : lv_has ls 1 [(0, .int x0)] := hl
  generalize hQ : MQ below (postI D k r [] [] s.heap.size) (List.toArray [.int x0]) s 0 0 A = Q
  clear hP hD hD0
  suffices K : ∀ (H : Heap) (locs : List Loc), HOK D A s.heap [] H locs → W p l e ({ frames := 0, cells := 0, slots := 0, locals := 0 } : Room) s m (List.toArray [.int x0]) below meth c H locs 0 0 Q (F0 m 0 ls []) from K s.heap [] hH
  intro H locs hH
  rw [fJ6_bitCount_0f7a4] at h
  refine lv_iload_n hx hb dJ6_bitCount_0f7a4_0 rfl (lv_at hl 0 rfl) ?_
  refine lv_iload_n hx hb dJ6_bitCount_0f7a4_1 rfl (lv_at hl 0 rfl) ?_
  refine lv_iconst (v := 1) hx hb dJ6_bitCount_0f7a4_2 (by decide) ?_
  refine lv_iushr (v := ((Int32.toUInt32 x0) >>> ((Int32.toUInt32 (1 : Int32)) &&& Int32.toUInt32 31)).toInt32) hx hb dJ6_bitCount_0f7a4_3 rfl ?_
  refine lv_ldcw hx hb hown (hts _ u_k_J6_265) dJ6_bitCount_0f7a4_4 ?_
  refine lv_iand hx hb dJ6_bitCount_0f7a4_7 ?_
  refine lv_isub hx hb dJ6_bitCount_0f7a4_8 ?_
  refine lv_topi (fun n1 en1 => ?_)
  replace h := dc_at en1 h
  refine lv_istore_n (lv' := [(0, .int n1)]) hx hb dJ6_bitCount_0f7a4_9 rfl hl (by decide) rfl (fun ls hl => ?_)
  refine lv_iload_n hx hb dJ6_bitCount_0f7a4_10 rfl (lv_at hl 0 rfl) ?_
  refine lv_ldcw hx hb hown (hts _ u_k_J6_266) dJ6_bitCount_0f7a4_11 ?_
  refine lv_iand hx hb dJ6_bitCount_0f7a4_14 ?_
  refine lv_iload_n hx hb dJ6_bitCount_0f7a4_15 rfl (lv_at hl 0 rfl) ?_
  refine lv_iconst (v := 2) hx hb dJ6_bitCount_0f7a4_16 (by decide) ?_
  refine lv_iushr (v := ((Int32.toUInt32 n1) >>> ((Int32.toUInt32 (2 : Int32)) &&& Int32.toUInt32 31)).toInt32) hx hb dJ6_bitCount_0f7a4_17 rfl ?_
  refine lv_ldcw hx hb hown (hts _ u_k_J6_266) dJ6_bitCount_0f7a4_18 ?_
  refine lv_iand hx hb dJ6_bitCount_0f7a4_21 ?_
  refine lv_iadd hx hb dJ6_bitCount_0f7a4_22 ?_
  refine lv_topi (fun n2 en2 => ?_)
  replace h := dc_at en2 h
  refine lv_istore_n (lv' := [(0, .int n2)]) hx hb dJ6_bitCount_0f7a4_23 rfl hl (by decide) rfl (fun ls hl => ?_)
  refine lv_iload_n hx hb dJ6_bitCount_0f7a4_24 rfl (lv_at hl 0 rfl) ?_
  refine lv_iload_n hx hb dJ6_bitCount_0f7a4_25 rfl (lv_at hl 0 rfl) ?_
  refine lv_iconst (v := 4) hx hb dJ6_bitCount_0f7a4_26 (by decide) ?_
  refine lv_iushr (v := ((Int32.toUInt32 n2) >>> ((Int32.toUInt32 (4 : Int32)) &&& Int32.toUInt32 31)).toInt32) hx hb dJ6_bitCount_0f7a4_27 rfl ?_
  refine lv_iadd hx hb dJ6_bitCount_0f7a4_28 ?_
  refine lv_ldcw hx hb hown (hts _ u_k_J6_267) dJ6_bitCount_0f7a4_29 ?_
  refine lv_iand hx hb dJ6_bitCount_0f7a4_32 ?_
  refine lv_topi (fun n3 en3 => ?_)
  replace h := dc_at en3 h
  refine lv_istore_n (lv' := [(0, .int n3)]) hx hb dJ6_bitCount_0f7a4_33 rfl hl (by decide) rfl (fun ls hl => ?_)
  refine lv_iload_n hx hb dJ6_bitCount_0f7a4_34 rfl (lv_at hl 0 rfl) ?_
  refine lv_iload_n hx hb dJ6_bitCount_0f7a4_35 rfl (lv_at hl 0 rfl) ?_
  refine lv_bipush (v := 8) hx hb dJ6_bitCount_0f7a4_36 (by decide) ?_
  refine lv_iushr (v := ((Int32.toUInt32 n3) >>> ((Int32.toUInt32 (8 : Int32)) &&& Int32.toUInt32 31)).toInt32) hx hb dJ6_bitCount_0f7a4_38 rfl ?_
  refine lv_iadd hx hb dJ6_bitCount_0f7a4_39 ?_
  refine lv_topi (fun n4 en4 => ?_)
  replace h := dc_at en4 h
  refine lv_istore_n (lv' := [(0, .int n4)]) hx hb dJ6_bitCount_0f7a4_40 rfl hl (by decide) rfl (fun ls hl => ?_)
  refine lv_iload_n hx hb dJ6_bitCount_0f7a4_41 rfl (lv_at hl 0 rfl) ?_
  refine lv_iload_n hx hb dJ6_bitCount_0f7a4_42 rfl (lv_at hl 0 rfl) ?_
  refine lv_bipush (v := 16) hx hb dJ6_bitCount_0f7a4_43 (by decide) ?_
  refine lv_iushr (v := ((Int32.toUInt32 n4) >>> ((Int32.toUInt32 (16 : Int32)) &&& Int32.toUInt32 31)).toInt32) hx hb dJ6_bitCount_0f7a4_45 rfl ?_
  refine lv_iadd hx hb dJ6_bitCount_0f7a4_46 ?_
  refine lv_topi (fun n5 en5 => ?_)
  replace h := dc_at en5 h
  refine lv_istore_n (lv' := [(0, .int n5)]) hx hb dJ6_bitCount_0f7a4_47 rfl hl (by decide) rfl (fun ls hl => ?_)
  refine lv_iload_n hx hb dJ6_bitCount_0f7a4_48 rfl (lv_at hl 0 rfl) ?_
  refine lv_bipush (v := 63) hx hb dJ6_bitCount_0f7a4_49 (by decide) ?_
  refine lv_iand hx hb dJ6_bitCount_0f7a4_51 ?_
  have h := Option.some.inj h
  subst h
  exact ge_i hx hb hr hlocks hQ hK hH hAe rfl dJ6_bitCount_0f7a4_52
theorem hd_X9_countBorders : yX9_countBorders.cls = RX9 ∧ yX9_countBorders.cls ≠ "java/lang/invoke/MethodHandle" ∧ yX9_countBorders.cls ≠ "java/lang/invoke/VarHandle" ∧ (parseMethodDescriptor yX9_countBorders.desc).map (fun d => d.parameters.length) = some 0 := by decide +kernel
set_option maxHeartbeats 4000000 in
set_option maxRecDepth 100000 in
theorem mX9_countBorders (l : Launch) (Ts : List Cond) (hTs : ∀ w, w ∈ Ts ↔ w ∈ uT) (D : va_G) (k : Nat → ClassId) (sz : Nat) (a_t : Nat) (a_t_population : Nat) (a_t_area : Nat) (a_t_community : Nat) (a_t_outer : Nat) (a_t_neighbors : Nat) (a_t_lengths : Nat) (a_t_plan : Nat) (t_neighbors : Nat → Int32) (t_units : Int32) (v_t_cores : Value) (v_t_districts : Value) (v_t_hasPlan : Value) (v_t_tolerance : Value) (r : Int32) (h : fX9_countBorders t_neighbors t_units = some r) : Met l yX9_countBorders (Cond.code yX9_countBorders cX9_countBorders 3 (some .int) :: Ts) ({ frames := 1, cells := 0, slots := 0, locals := 20 } : Room) (preM D k [.ref a_t] [(a_t, .inr (8, [.int t_units, .ref a_t_population, .ref a_t_area, .ref a_t_community, .ref a_t_outer, .ref a_t_neighbors, .ref a_t_lengths, v_t_cores, v_t_districts, v_t_tolerance, v_t_hasPlan, .ref a_t_plan])), (a_t_neighbors, .inl (k 0, 12, .inl t_neighbors))] sz) (postI D k r [(a_t, .inr (8, [.int t_units, .ref a_t_population, .ref a_t_area, .ref a_t_community, .ref a_t_outer, .ref a_t_neighbors, .ref a_t_lengths, v_t_cores, v_t_districts, v_t_tolerance, v_t_hasPlan, .ref a_t_plan])), (a_t_neighbors, .inl (k 0, 12, .inl t_neighbors))] [(a_t, .inr (8, [.int t_units, .ref a_t_population, .ref a_t_area, .ref a_t_community, .ref a_t_outer, .ref a_t_neighbors, .ref a_t_lengths, v_t_cores, v_t_districts, v_t_tolerance, v_t_hasPlan, .ref a_t_plan])), (a_t_neighbors, .inl (k 0, 12, .inl t_neighbors))] sz) 0 0 (va_A [(a_t, .inr (8, [.int t_units, .ref a_t_population, .ref a_t_area, .ref a_t_community, .ref a_t_outer, .ref a_t_neighbors, .ref a_t_lengths, v_t_cores, v_t_districts, v_t_tolerance, v_t_hasPlan, .ref a_t_plan])), (a_t_neighbors, .inl (k 0, 12, .inl t_neighbors))] sz) := by
  refine Met.ofW (cc := cX9_countBorders) (maxL := 3) (ret := (some .int)) (by decide) rfl ?_
  intro p e s m args below meth c s₁ B hml hv
  obtain ⟨rfl, hsz, hP, hK, hD0⟩ := hv
  have hx := B.exec
  have hb := B.bytes
  have hr := B.returns
  have hts0 := atoms_spec (ws := (Cond.code yX9_countBorders cX9_countBorders 3 (some .int) :: Ts)) B.pre
  have hts : ∀ w ∈ uT, w.before _ s = true := fun w h => hts0 w (List.mem_cons_of_mem _ ((hTs w).mpr h))
  clear hts0
  have hown : s.vm.findClass RX9 = some m.cls := findClass_of_methodNamed B.named
  have hlocks := B.notSynchronized
  subst hsz
  have hD := hD0.self (sz := s.heap.size)
  generalize hAe : va_A [(a_t, .inr (8, [.int t_units, .ref a_t_population, .ref a_t_area, .ref a_t_community, .ref a_t_outer, .ref a_t_neighbors, .ref a_t_lengths, v_t_cores, v_t_districts, v_t_tolerance, v_t_hasPlan, .ref a_t_plan])), (a_t_neighbors, .inl (k 0, 12, .inl t_neighbors))] s.heap.size = A at hD ⊢
  have hA : ∀ q : Nat, s.heap.size ≤ q → A q := fun q h => by rw [← hAe]; exact Or.inr h
  have hH : HOK D A s.heap [(a_t, .inr (8, [.int t_units, .ref a_t_population, .ref a_t_area, .ref a_t_community, .ref a_t_outer, .ref a_t_neighbors, .ref a_t_lengths, v_t_cores, v_t_districts, v_t_tolerance, v_t_hasPlan, .ref a_t_plan])), (a_t_neighbors, .inl (k 0, 12, .inl t_neighbors))] s.heap [] := ⟨hP, hD, va_S.rf⟩
  have hl := lv_entry ([.ref a_t]) (n := 3) (Nat.le_of_ble_eq_true rfl)
  rw [lg_entry_eq]
  generalize (lg_sl ([.ref a_t]) ++ List.replicate (3 - (lg_sl ([.ref a_t])).length) Slot.unset).toArray = ls at hl ⊢
  have hl : lv_has ls 3 [(0, .ref a_t)] := hl
  generalize hQ : MQ below (postI D k r [(a_t, .inr (8, [.int t_units, .ref a_t_population, .ref a_t_area, .ref a_t_community, .ref a_t_outer, .ref a_t_neighbors, .ref a_t_lengths, v_t_cores, v_t_districts, v_t_tolerance, v_t_hasPlan, .ref a_t_plan])), (a_t_neighbors, .inl (k 0, 12, .inl t_neighbors))] [(a_t, .inr (8, [.int t_units, .ref a_t_population, .ref a_t_area, .ref a_t_community, .ref a_t_outer, .ref a_t_neighbors, .ref a_t_lengths, v_t_cores, v_t_districts, v_t_tolerance, v_t_hasPlan, .ref a_t_plan])), (a_t_neighbors, .inl (k 0, 12, .inl t_neighbors))] s.heap.size) (List.toArray [.ref a_t]) s 0 0 A = Q
  clear hP hD hD0
  suffices K : ∀ (H : Heap) (locs : List Loc), HOK D A s.heap [(a_t, .inr (8, [.int t_units, .ref a_t_population, .ref a_t_area, .ref a_t_community, .ref a_t_outer, .ref a_t_neighbors, .ref a_t_lengths, v_t_cores, v_t_districts, v_t_tolerance, v_t_hasPlan, .ref a_t_plan])), (a_t_neighbors, .inl (k 0, 12, .inl t_neighbors))] H locs → W p l e ({ frames := 1, cells := 0, slots := 0, locals := 20 } : Room) s m (List.toArray [.ref a_t]) below meth c H locs 0 0 Q (F0 m 0 ls []) from K s.heap [] hH
  intro H locs hH
  have L4 : ∀ (n : Nat), ∀ (kf : Int32 → Option (Int32)) (y4_1 : Int32) (y4_2 : Int32), fX9_countBorders_L4 t_neighbors t_units n kf y4_1 y4_2 = some r → (∀ (z4_1 : Int32) (H : Heap) (locs : List Loc) (ls : Array Slot), kf z4_1 = some r → HOK D A s.heap [(a_t, .inr (8, [.int t_units, .ref a_t_population, .ref a_t_area, .ref a_t_community, .ref a_t_outer, .ref a_t_neighbors, .ref a_t_lengths, v_t_cores, v_t_districts, v_t_tolerance, v_t_hasPlan, .ref a_t_plan])), (a_t_neighbors, .inl (k 0, 12, .inl t_neighbors))] H locs → lv_has ls 3 [(1, .int z4_1)] → W p l e ({ frames := 1, cells := 0, slots := 0, locals := 20 } : Room) s m (List.toArray [.ref a_t]) below meth c H locs 0 0 Q (F0 m 30 ls [])) → ∀ (H : Heap) (locs : List Loc) (ls : Array Slot), HOK D A s.heap [(a_t, .inr (8, [.int t_units, .ref a_t_population, .ref a_t_area, .ref a_t_community, .ref a_t_outer, .ref a_t_neighbors, .ref a_t_lengths, v_t_cores, v_t_districts, v_t_tolerance, v_t_hasPlan, .ref a_t_plan])), (a_t_neighbors, .inl (k 0, 12, .inl t_neighbors))] H locs → lv_has ls 3 [(0, .ref a_t), (1, .int y4_1), (2, .int y4_2)] → W p l e ({ frames := 1, cells := 0, slots := 0, locals := 20 } : Room) s m (List.toArray [.ref a_t]) below meth c H locs 0 0 Q (F0 m 4 ls []) := by
    intro n
    induction n with
    | zero =>
      intro kf y4_1 y4_2 h
      exact absurd h (by rw [fX9_countBorders_L4]; exact fun q => by cases q)
    | succ n ih =>
      intro kf y4_1 y4_2 h kk H locs ls hH hl
      rw [fX9_countBorders_L4] at h
      refine lv_iload_n hx hb dX9_countBorders_4 rfl (lv_at hl 2 rfl) ?_
      refine lv_aload_n hx hb dX9_countBorders_5 rfl (lv_at hl 0 rfl) ?_
      refine gk_get (ci := 8) (C := RX9) (T := TX9) (N := 12) hx hb hts u_ws_X9 hown hK hH 0 rfl rfl 0 (by decide) u_fl_X9_9 rfl dX9_countBorders_6 ?_
      refine lv_icmp_ge (tgt := 30) hx hb dX9_countBorders_9 (by decide) (fun c1 => ?_) (fun c1 => ?_)
      · replace h := dc_pos c1 h
        exact kk y4_1 H locs ls h hH (lv_sub hl [1] rfl)
      · replace h := dc_neg c1 h
        refine lv_iload_n hx hb dX9_countBorders_12 rfl (lv_at hl 1 rfl) ?_
        refine lv_aload_n hx hb dX9_countBorders_13 rfl (lv_at hl 0 rfl) ?_
        refine gk_get (ci := 8) (C := RX9) (T := TX9) (N := 12) hx hb hts u_ws_X9 hown hK hH 0 rfl rfl 5 (by decide) u_fl_X9_28 rfl dX9_countBorders_14 ?_
        refine lv_iload_n hx hb dX9_countBorders_17 rfl (lv_at hl 2 rfl) ?_
        obtain ⟨g2, h⟩ := dc_need h
        refine gk_iald hx hb hK hH 1 rfl (dk_in g2) dX9_countBorders_18 ?_
        obtain ⟨q3, hqq3, h⟩ := dc_bind h
        refine gc_Si (ws' := [(a_t, .inr (8, [.int t_units, .ref a_t_population, .ref a_t_area, .ref a_t_community, .ref a_t_outer, .ref a_t_neighbors, .ref a_t_lengths, v_t_cores, v_t_districts, v_t_tolerance, v_t_hasPlan, .ref a_t_plan])), (a_t_neighbors, .inl (k 0, 12, .inl t_neighbors))]) (As := [.int (t_neighbors y4_2.toNatClampNeg)]) (rest := [.int y4_1]) (n := 1) hTs ⟨hx, hb, hml, hown, hts⟩ (mJ6_bitCount_0f7a4 l Ts hTs D k H.size (t_neighbors y4_2.toNatClampNeg) q3 hqq3) u_ml_X9_83 u_st_J6_bitCount_0f7a4 u_in_J6 u_co_J6_bitCount_0f7a4 hd_J6_bitCount_0f7a4 ⟨Nat.le_of_ble_eq_true rfl, Nat.le_of_ble_eq_true rfl⟩ ⟨rfl, rfl⟩ hK hH hA (cut0 (isC := []) rfl rfl rfl) rfl rfl hl.1 (Nat.le_of_ble_eq_true rfl) dX9_countBorders_19 ⟨Nat.le_of_ble_eq_true rfl, Nat.le_of_ble_eq_true rfl⟩ (fun H locs hH => ?_)
        refine lv_iadd hx hb dX9_countBorders_22 ?_
        refine lv_istore_n (lv' := [(1, .int (y4_1 + q3)), (0, .ref a_t), (2, .int y4_2)]) hx hb dX9_countBorders_23 rfl hl (by decide) rfl (fun ls hl => ?_)
        refine lv_iinc (v := (y4_2 + (1 : Int32))) (lv' := [(2, .int (y4_2 + (1 : Int32))), (1, .int (y4_1 + q3)), (0, .ref a_t)]) hx hb dX9_countBorders_24 hl (k := 2) rfl rfl (by decide) rfl (fun ls hl => ?_)
        refine lv_goto (tgt := 4) hx hb dX9_countBorders_27 (by decide) ?_
        exact ih kf (y4_1 + q3) (y4_2 + (1 : Int32)) h kk H locs ls hH (lv_sub hl [2, 1, 0] rfl)
  rw [fX9_countBorders] at h
  refine lv_iconst (v := 0) hx hb dX9_countBorders_0 (by decide) ?_
  refine lv_istore_n (lv' := [(1, .int (0 : Int32)), (0, .ref a_t)]) hx hb dX9_countBorders_1 rfl hl (by decide) rfl (fun ls hl => ?_)
  refine lv_iconst (v := 0) hx hb dX9_countBorders_2 (by decide) ?_
  refine lv_istore_n (lv' := [(2, .int (0 : Int32)), (1, .int (0 : Int32)), (0, .ref a_t)]) hx hb dX9_countBorders_3 rfl hl (by decide) rfl (fun ls hl => ?_)
  refine L4 _ _ (0 : Int32) (0 : Int32) h (fun z4_1 H locs ls h hH hl => ?_) H locs ls hH (lv_sub hl [2, 1, 0] rfl)
  refine lv_iload_n hx hb dX9_countBorders_30 rfl (lv_at hl 0 rfl) ?_
  refine lv_iconst (v := 2) hx hb dX9_countBorders_31 (by decide) ?_
  refine lv_idiv hx hb dX9_countBorders_32 (by decide) ?_
  have h := Option.some.inj h
  subst h
  exact ge_i hx hb hr hlocks hQ hK hH hAe rfl dX9_countBorders_33
theorem hd_X9_districtsAround : yX9_districtsAround.cls = RX9 ∧ yX9_districtsAround.cls ≠ "java/lang/invoke/MethodHandle" ∧ yX9_districtsAround.cls ≠ "java/lang/invoke/VarHandle" ∧ (parseMethodDescriptor yX9_districtsAround.desc).map (fun d => d.parameters.length) = some 1 := by decide +kernel
set_option maxHeartbeats 4000000 in
set_option maxRecDepth 100000 in
theorem mX9_districtsAround (l : Launch) (Ts : List Cond) (hTs : ∀ w, w ∈ Ts ↔ w ∈ uT) (D : va_G) (k : Nat → ClassId) (sz : Nat) (a_t : Nat) (a_t_population : Nat) (a_t_area : Nat) (a_t_community : Nat) (a_t_outer : Nat) (a_t_neighbors : Nat) (a_t_lengths : Nat) (a_t_plan : Nat) (a_t_plan_places : Nat) (a_t_plan_sets : Nat) (t_districts : Int32) (t_neighbors : Nat → Int32) (t_plan_places : Nat → Int32) (t_plan_sets : Nat → Int32) (t_units : Int32) (v_t_cores : Value) (v_t_hasPlan : Value) (v_t_tolerance : Value) (x1 : Int32) (r : Int32) (h : fX9_districtsAround t_districts t_neighbors t_plan_places t_plan_sets t_units x1 = some r) : Met l yX9_districtsAround (Cond.code yX9_districtsAround cX9_districtsAround 5 (some .int) :: Ts) ({ frames := 0, cells := 0, slots := 0, locals := 0 } : Room) (preM D k [.ref a_t, .int x1] [(a_t, .inr (8, [.int t_units, .ref a_t_population, .ref a_t_area, .ref a_t_community, .ref a_t_outer, .ref a_t_neighbors, .ref a_t_lengths, v_t_cores, .int t_districts, v_t_tolerance, v_t_hasPlan, .ref a_t_plan])), (a_t_plan, .inr (4, [.ref a_t_plan_places, .ref a_t_plan_sets])), (a_t_plan_places, .inl (k 0, 12, .inl t_plan_places)), (a_t_neighbors, .inl (k 0, 12, .inl t_neighbors)), (a_t_plan_sets, .inl (k 0, 4, .inl t_plan_sets))] sz) (postI D k r [(a_t, .inr (8, [.int t_units, .ref a_t_population, .ref a_t_area, .ref a_t_community, .ref a_t_outer, .ref a_t_neighbors, .ref a_t_lengths, v_t_cores, .int t_districts, v_t_tolerance, v_t_hasPlan, .ref a_t_plan])), (a_t_plan, .inr (4, [.ref a_t_plan_places, .ref a_t_plan_sets])), (a_t_plan_places, .inl (k 0, 12, .inl t_plan_places)), (a_t_neighbors, .inl (k 0, 12, .inl t_neighbors)), (a_t_plan_sets, .inl (k 0, 4, .inl t_plan_sets))] [(a_t, .inr (8, [.int t_units, .ref a_t_population, .ref a_t_area, .ref a_t_community, .ref a_t_outer, .ref a_t_neighbors, .ref a_t_lengths, v_t_cores, .int t_districts, v_t_tolerance, v_t_hasPlan, .ref a_t_plan])), (a_t_plan, .inr (4, [.ref a_t_plan_places, .ref a_t_plan_sets])), (a_t_plan_places, .inl (k 0, 12, .inl t_plan_places)), (a_t_neighbors, .inl (k 0, 12, .inl t_neighbors)), (a_t_plan_sets, .inl (k 0, 4, .inl t_plan_sets))] sz) 0 0 (va_A [(a_t, .inr (8, [.int t_units, .ref a_t_population, .ref a_t_area, .ref a_t_community, .ref a_t_outer, .ref a_t_neighbors, .ref a_t_lengths, v_t_cores, .int t_districts, v_t_tolerance, v_t_hasPlan, .ref a_t_plan])), (a_t_plan, .inr (4, [.ref a_t_plan_places, .ref a_t_plan_sets])), (a_t_plan_places, .inl (k 0, 12, .inl t_plan_places)), (a_t_neighbors, .inl (k 0, 12, .inl t_neighbors)), (a_t_plan_sets, .inl (k 0, 4, .inl t_plan_sets))] sz) := by
  refine Met.ofW (cc := cX9_districtsAround) (maxL := 5) (ret := (some .int)) (by decide) rfl ?_
  intro p e s m args below meth c s₁ B hml hv
  obtain ⟨rfl, hsz, hP, hK, hD0⟩ := hv
  have hx := B.exec
  have hb := B.bytes
  have hr := B.returns
  have hts0 := atoms_spec (ws := (Cond.code yX9_districtsAround cX9_districtsAround 5 (some .int) :: Ts)) B.pre
  have hts : ∀ w ∈ uT, w.before _ s = true := fun w h => hts0 w (List.mem_cons_of_mem _ ((hTs w).mpr h))
  clear hts0
  have hown : s.vm.findClass RX9 = some m.cls := findClass_of_methodNamed B.named
  have hlocks := B.notSynchronized
  subst hsz
  have hD := hD0.self (sz := s.heap.size)
  generalize hAe : va_A [(a_t, .inr (8, [.int t_units, .ref a_t_population, .ref a_t_area, .ref a_t_community, .ref a_t_outer, .ref a_t_neighbors, .ref a_t_lengths, v_t_cores, .int t_districts, v_t_tolerance, v_t_hasPlan, .ref a_t_plan])), (a_t_plan, .inr (4, [.ref a_t_plan_places, .ref a_t_plan_sets])), (a_t_plan_places, .inl (k 0, 12, .inl t_plan_places)), (a_t_neighbors, .inl (k 0, 12, .inl t_neighbors)), (a_t_plan_sets, .inl (k 0, 4, .inl t_plan_sets))] s.heap.size = A at hD ⊢
  have hA : ∀ q : Nat, s.heap.size ≤ q → A q := fun q h => by rw [← hAe]; exact Or.inr h
  have hH : HOK D A s.heap [(a_t, .inr (8, [.int t_units, .ref a_t_population, .ref a_t_area, .ref a_t_community, .ref a_t_outer, .ref a_t_neighbors, .ref a_t_lengths, v_t_cores, .int t_districts, v_t_tolerance, v_t_hasPlan, .ref a_t_plan])), (a_t_plan, .inr (4, [.ref a_t_plan_places, .ref a_t_plan_sets])), (a_t_plan_places, .inl (k 0, 12, .inl t_plan_places)), (a_t_neighbors, .inl (k 0, 12, .inl t_neighbors)), (a_t_plan_sets, .inl (k 0, 4, .inl t_plan_sets))] s.heap [] := ⟨hP, hD, va_S.rf⟩
  have hl := lv_entry ([.ref a_t, .int x1]) (n := 5) (Nat.le_of_ble_eq_true rfl)
  rw [lg_entry_eq]
  generalize (lg_sl ([.ref a_t, .int x1]) ++ List.replicate (5 - (lg_sl ([.ref a_t, .int x1])).length) Slot.unset).toArray = ls at hl ⊢
  have hl : lv_has ls 5 [(0, .ref a_t), (1, .int x1)] := hl
  generalize hQ : MQ below (postI D k r [(a_t, .inr (8, [.int t_units, .ref a_t_population, .ref a_t_area, .ref a_t_community, .ref a_t_outer, .ref a_t_neighbors, .ref a_t_lengths, v_t_cores, .int t_districts, v_t_tolerance, v_t_hasPlan, .ref a_t_plan])), (a_t_plan, .inr (4, [.ref a_t_plan_places, .ref a_t_plan_sets])), (a_t_plan_places, .inl (k 0, 12, .inl t_plan_places)), (a_t_neighbors, .inl (k 0, 12, .inl t_neighbors)), (a_t_plan_sets, .inl (k 0, 4, .inl t_plan_sets))] [(a_t, .inr (8, [.int t_units, .ref a_t_population, .ref a_t_area, .ref a_t_community, .ref a_t_outer, .ref a_t_neighbors, .ref a_t_lengths, v_t_cores, .int t_districts, v_t_tolerance, v_t_hasPlan, .ref a_t_plan])), (a_t_plan, .inr (4, [.ref a_t_plan_places, .ref a_t_plan_sets])), (a_t_plan_places, .inl (k 0, 12, .inl t_plan_places)), (a_t_neighbors, .inl (k 0, 12, .inl t_neighbors)), (a_t_plan_sets, .inl (k 0, 4, .inl t_plan_sets))] s.heap.size) (List.toArray [.ref a_t, .int x1]) s 0 0 A = Q
  clear hP hD hD0
  suffices K : ∀ (H : Heap) (locs : List Loc), HOK D A s.heap [(a_t, .inr (8, [.int t_units, .ref a_t_population, .ref a_t_area, .ref a_t_community, .ref a_t_outer, .ref a_t_neighbors, .ref a_t_lengths, v_t_cores, .int t_districts, v_t_tolerance, v_t_hasPlan, .ref a_t_plan])), (a_t_plan, .inr (4, [.ref a_t_plan_places, .ref a_t_plan_sets])), (a_t_plan_places, .inl (k 0, 12, .inl t_plan_places)), (a_t_neighbors, .inl (k 0, 12, .inl t_neighbors)), (a_t_plan_sets, .inl (k 0, 4, .inl t_plan_sets))] H locs → W p l e ({ frames := 0, cells := 0, slots := 0, locals := 0 } : Room) s m (List.toArray [.ref a_t, .int x1]) below meth c H locs 0 0 Q (F0 m 0 ls []) from K s.heap [] hH
  intro H locs hH
  have L4 : ∀ (n : Nat), ∀ (kf : Int32 → Option (Int32)) (y4_2 : Int32) (y4_3 : Int32), fX9_districtsAround_L4 t_neighbors t_plan_places t_units x1 n kf y4_2 y4_3 = some r → (∀ (z4_2 : Int32) (H : Heap) (locs : List Loc) (ls : Array Slot), kf z4_2 = some r → HOK D A s.heap [(a_t, .inr (8, [.int t_units, .ref a_t_population, .ref a_t_area, .ref a_t_community, .ref a_t_outer, .ref a_t_neighbors, .ref a_t_lengths, v_t_cores, .int t_districts, v_t_tolerance, v_t_hasPlan, .ref a_t_plan])), (a_t_plan, .inr (4, [.ref a_t_plan_places, .ref a_t_plan_sets])), (a_t_plan_places, .inl (k 0, 12, .inl t_plan_places)), (a_t_neighbors, .inl (k 0, 12, .inl t_neighbors)), (a_t_plan_sets, .inl (k 0, 4, .inl t_plan_sets))] H locs → lv_has ls 5 [(0, .ref a_t), (1, .int x1), (2, .int z4_2)] → W p l e ({ frames := 0, cells := 0, slots := 0, locals := 0 } : Room) s m (List.toArray [.ref a_t, .int x1]) below meth c H locs 0 0 Q (F0 m 40 ls [])) → ∀ (H : Heap) (locs : List Loc) (ls : Array Slot), HOK D A s.heap [(a_t, .inr (8, [.int t_units, .ref a_t_population, .ref a_t_area, .ref a_t_community, .ref a_t_outer, .ref a_t_neighbors, .ref a_t_lengths, v_t_cores, .int t_districts, v_t_tolerance, v_t_hasPlan, .ref a_t_plan])), (a_t_plan, .inr (4, [.ref a_t_plan_places, .ref a_t_plan_sets])), (a_t_plan_places, .inl (k 0, 12, .inl t_plan_places)), (a_t_neighbors, .inl (k 0, 12, .inl t_neighbors)), (a_t_plan_sets, .inl (k 0, 4, .inl t_plan_sets))] H locs → lv_has ls 5 [(0, .ref a_t), (1, .int x1), (2, .int y4_2), (3, .int y4_3)] → W p l e ({ frames := 0, cells := 0, slots := 0, locals := 0 } : Room) s m (List.toArray [.ref a_t, .int x1]) below meth c H locs 0 0 Q (F0 m 4 ls []) := by
    intro n
    induction n with
    | zero =>
      intro kf y4_2 y4_3 h
      exact absurd h (by rw [fX9_districtsAround_L4]; exact fun q => by cases q)
    | succ n ih =>
      intro kf y4_2 y4_3 h kk H locs ls hH hl
      rw [fX9_districtsAround_L4] at h
      refine lv_iload_n hx hb dX9_districtsAround_4 rfl (lv_at hl 3 rfl) ?_
      refine lv_aload_n hx hb dX9_districtsAround_5 rfl (lv_at hl 0 rfl) ?_
      refine gk_get (ci := 8) (C := RX9) (T := TX9) (N := 12) hx hb hts u_ws_X9 hown hK hH 0 rfl rfl 0 (by decide) u_fl_X9_9 rfl dX9_districtsAround_6 ?_
      refine lv_icmp_ge (tgt := 40) hx hb dX9_districtsAround_9 (by decide) (fun c1 => ?_) (fun c1 => ?_)
      · replace h := dc_pos c1 h
        exact kk y4_2 H locs ls h hH (lv_sub hl [0, 1, 2] rfl)
      · replace h := dc_neg c1 h
        refine lv_aload_n hx hb dX9_districtsAround_12 rfl (lv_at hl 0 rfl) ?_
        refine gk_get (ci := 8) (C := RX9) (T := TX9) (N := 12) hx hb hts u_ws_X9 hown hK hH 0 rfl rfl 11 (by decide) u_fl_X9_50 rfl dX9_districtsAround_13 ?_
        refine gk_get (ci := 4) (C := RX4) (T := TX4) (N := 2) hx hb hts u_ws_X4 hown hK hH 1 rfl rfl 0 (by decide) u_fl_X9_80 rfl dX9_districtsAround_16 ?_
        refine lv_iload_n hx hb dX9_districtsAround_19 rfl (lv_at hl 3 rfl) ?_
        obtain ⟨g2, h⟩ := dc_need h
        refine gk_iald hx hb hK hH 2 rfl (dk_in g2) dX9_districtsAround_20 ?_
        refine lv_iload_n hx hb dX9_districtsAround_21 rfl (lv_at hl 1 rfl) ?_
        refine lv_icmp_ne (tgt := 34) hx hb dX9_districtsAround_22 (by decide) (fun c3 => ?_) (fun c3 => ?_)
        · replace h := dc_neg c3 h
          refine lv_iinc (v := (y4_3 + (1 : Int32))) (lv' := [(3, .int (y4_3 + (1 : Int32))), (0, .ref a_t), (1, .int x1), (2, .int y4_2)]) hx hb dX9_districtsAround_34 hl (k := 3) rfl rfl (by decide) rfl (fun ls hl => ?_)
          refine lv_goto (tgt := 4) hx hb dX9_districtsAround_37 (by decide) ?_
          exact ih kf y4_2 (y4_3 + (1 : Int32)) h kk H locs ls hH (lv_sub hl [1, 2, 3, 0] rfl)
        · replace h := dc_pos c3 h
          refine lv_iload_n hx hb dX9_districtsAround_25 rfl (lv_at hl 2 rfl) ?_
          refine lv_aload_n hx hb dX9_districtsAround_26 rfl (lv_at hl 0 rfl) ?_
          refine gk_get (ci := 8) (C := RX9) (T := TX9) (N := 12) hx hb hts u_ws_X9 hown hK hH 0 rfl rfl 5 (by decide) u_fl_X9_28 rfl dX9_districtsAround_27 ?_
          refine lv_iload_n hx hb dX9_districtsAround_30 rfl (lv_at hl 3 rfl) ?_
          obtain ⟨g4, h⟩ := dc_need h
          refine gk_iald hx hb hK hH 3 rfl (dk_in g4) dX9_districtsAround_31 ?_
          refine lv_ior hx hb dX9_districtsAround_32 ?_
          refine lv_istore_n (lv' := [(2, .int (y4_2 ||| (t_neighbors y4_3.toNatClampNeg))), (0, .ref a_t), (1, .int x1), (3, .int y4_3)]) hx hb dX9_districtsAround_33 rfl hl (by decide) rfl (fun ls hl => ?_)
          refine lv_iinc (v := (y4_3 + (1 : Int32))) (lv' := [(3, .int (y4_3 + (1 : Int32))), (2, .int (y4_2 ||| (t_neighbors y4_3.toNatClampNeg))), (0, .ref a_t), (1, .int x1)]) hx hb dX9_districtsAround_34 hl (k := 3) rfl rfl (by decide) rfl (fun ls hl => ?_)
          refine lv_goto (tgt := 4) hx hb dX9_districtsAround_37 (by decide) ?_
          exact ih kf (y4_2 ||| (t_neighbors y4_3.toNatClampNeg)) (y4_3 + (1 : Int32)) h kk H locs ls hH (lv_sub hl [2, 3, 1, 0] rfl)
  have L45 : ∀ (y45_2 : Int32) (n : Nat), ∀ (kf : Int32 → Option (Int32)) (y45_3 : Int32) (y45_4 : Int32), fX9_districtsAround_L45 t_districts t_plan_sets x1 y45_2 n kf y45_3 y45_4 = some r → (∀ (z45_3 : Int32) (H : Heap) (locs : List Loc) (ls : Array Slot), kf z45_3 = some r → HOK D A s.heap [(a_t, .inr (8, [.int t_units, .ref a_t_population, .ref a_t_area, .ref a_t_community, .ref a_t_outer, .ref a_t_neighbors, .ref a_t_lengths, v_t_cores, .int t_districts, v_t_tolerance, v_t_hasPlan, .ref a_t_plan])), (a_t_plan, .inr (4, [.ref a_t_plan_places, .ref a_t_plan_sets])), (a_t_plan_places, .inl (k 0, 12, .inl t_plan_places)), (a_t_neighbors, .inl (k 0, 12, .inl t_neighbors)), (a_t_plan_sets, .inl (k 0, 4, .inl t_plan_sets))] H locs → lv_has ls 5 [(3, .int z45_3)] → W p l e ({ frames := 0, cells := 0, slots := 0, locals := 0 } : Room) s m (List.toArray [.ref a_t, .int x1]) below meth c H locs 0 0 Q (F0 m 88 ls [])) → ∀ (H : Heap) (locs : List Loc) (ls : Array Slot), HOK D A s.heap [(a_t, .inr (8, [.int t_units, .ref a_t_population, .ref a_t_area, .ref a_t_community, .ref a_t_outer, .ref a_t_neighbors, .ref a_t_lengths, v_t_cores, .int t_districts, v_t_tolerance, v_t_hasPlan, .ref a_t_plan])), (a_t_plan, .inr (4, [.ref a_t_plan_places, .ref a_t_plan_sets])), (a_t_plan_places, .inl (k 0, 12, .inl t_plan_places)), (a_t_neighbors, .inl (k 0, 12, .inl t_neighbors)), (a_t_plan_sets, .inl (k 0, 4, .inl t_plan_sets))] H locs → lv_has ls 5 [(0, .ref a_t), (1, .int x1), (2, .int y45_2), (3, .int y45_3), (4, .int y45_4)] → W p l e ({ frames := 0, cells := 0, slots := 0, locals := 0 } : Room) s m (List.toArray [.ref a_t, .int x1]) below meth c H locs 0 0 Q (F0 m 45 ls []) := by
    intro y45_2 n
    induction n with
    | zero =>
      intro kf y45_3 y45_4 h
      exact absurd h (by rw [fX9_districtsAround_L45]; exact fun q => by cases q)
    | succ n ih =>
      intro kf y45_3 y45_4 h kk H locs ls hH hl
      rw [fX9_districtsAround_L45] at h
      refine lv_iload hx hb dX9_districtsAround_45 (lv_at hl 4 rfl) ?_
      refine lv_aload_n hx hb dX9_districtsAround_47 rfl (lv_at hl 0 rfl) ?_
      refine gk_get (ci := 8) (C := RX9) (T := TX9) (N := 12) hx hb hts u_ws_X9 hown hK hH 0 rfl rfl 8 (by decide) u_fl_X9_37 rfl dX9_districtsAround_48 ?_
      refine lv_icmp_ge (tgt := 88) hx hb dX9_districtsAround_51 (by decide) (fun c5 => ?_) (fun c5 => ?_)
      · replace h := dc_pos c5 h
        exact kk y45_3 H locs ls h hH (lv_sub hl [3] rfl)
      · replace h := dc_neg c5 h
        refine lv_iload hx hb dX9_districtsAround_54 (lv_at hl 4 rfl) ?_
        refine lv_iload_n hx hb dX9_districtsAround_56 rfl (lv_at hl 1 rfl) ?_
        refine lv_icmp_eq (tgt := 82) hx hb dX9_districtsAround_57 (by decide) (fun c6 => ?_) (fun c6 => ?_)
        · replace h := dc_pos c6 h
          refine lv_iinc (v := (y45_4 + (1 : Int32))) (lv' := [(4, .int (y45_4 + (1 : Int32))), (0, .ref a_t), (1, .int x1), (2, .int y45_2), (3, .int y45_3)]) hx hb dX9_districtsAround_82 hl (k := 4) rfl rfl (by decide) rfl (fun ls hl => ?_)
          refine lv_goto (tgt := 45) hx hb dX9_districtsAround_85 (by decide) ?_
          exact ih kf y45_3 (y45_4 + (1 : Int32)) h kk H locs ls hH (lv_sub hl [1, 2, 3, 4, 0] rfl)
        · replace h := dc_neg c6 h
          refine lv_iload_n hx hb dX9_districtsAround_60 rfl (lv_at hl 2 rfl) ?_
          refine lv_aload_n hx hb dX9_districtsAround_61 rfl (lv_at hl 0 rfl) ?_
          refine gk_get (ci := 8) (C := RX9) (T := TX9) (N := 12) hx hb hts u_ws_X9 hown hK hH 0 rfl rfl 11 (by decide) u_fl_X9_50 rfl dX9_districtsAround_62 ?_
          refine gk_get (ci := 4) (C := RX4) (T := TX4) (N := 2) hx hb hts u_ws_X4 hown hK hH 1 rfl rfl 1 (by decide) u_fl_X9_77 rfl dX9_districtsAround_65 ?_
          refine lv_iload hx hb dX9_districtsAround_68 (lv_at hl 4 rfl) ?_
          obtain ⟨g7, h⟩ := dc_need h
          refine gk_iald hx hb hK hH 4 rfl (dk_in g7) dX9_districtsAround_70 ?_
          refine lv_iand hx hb dX9_districtsAround_71 ?_
          refine lv_if_eq (tgt := 82) hx hb dX9_districtsAround_72 (by decide) (fun c8 => ?_) (fun c8 => ?_)
          · replace h := dc_pos c8 h
            refine lv_iinc (v := (y45_4 + (1 : Int32))) (lv' := [(4, .int (y45_4 + (1 : Int32))), (0, .ref a_t), (1, .int x1), (2, .int y45_2), (3, .int y45_3)]) hx hb dX9_districtsAround_82 hl (k := 4) rfl rfl (by decide) rfl (fun ls hl => ?_)
            refine lv_goto (tgt := 45) hx hb dX9_districtsAround_85 (by decide) ?_
            exact ih kf y45_3 (y45_4 + (1 : Int32)) h kk H locs ls hH (lv_sub hl [1, 2, 3, 4, 0] rfl)
          · replace h := dc_neg c8 h
            refine lv_iload_n hx hb dX9_districtsAround_75 rfl (lv_at hl 3 rfl) ?_
            refine lv_iconst (v := 1) hx hb dX9_districtsAround_76 (by decide) ?_
            refine lv_iload hx hb dX9_districtsAround_77 (lv_at hl 4 rfl) ?_
            refine lv_ishl hx hb dX9_districtsAround_79 ?_
            refine lv_ior hx hb dX9_districtsAround_80 ?_
            refine lv_istore_n (lv' := [(3, .int (y45_3 ||| ((1 : Int32) <<< (y45_4 &&& 31)))), (0, .ref a_t), (1, .int x1), (2, .int y45_2), (4, .int y45_4)]) hx hb dX9_districtsAround_81 rfl hl (by decide) rfl (fun ls hl => ?_)
            refine lv_iinc (v := (y45_4 + (1 : Int32))) (lv' := [(4, .int (y45_4 + (1 : Int32))), (3, .int (y45_3 ||| ((1 : Int32) <<< (y45_4 &&& 31)))), (0, .ref a_t), (1, .int x1), (2, .int y45_2)]) hx hb dX9_districtsAround_82 hl (k := 4) rfl rfl (by decide) rfl (fun ls hl => ?_)
            refine lv_goto (tgt := 45) hx hb dX9_districtsAround_85 (by decide) ?_
            exact ih kf (y45_3 ||| ((1 : Int32) <<< (y45_4 &&& 31))) (y45_4 + (1 : Int32)) h kk H locs ls hH (lv_sub hl [2, 3, 4, 1, 0] rfl)
  rw [fX9_districtsAround] at h
  refine lv_iconst (v := 0) hx hb dX9_districtsAround_0 (by decide) ?_
  refine lv_istore_n (lv' := [(2, .int (0 : Int32)), (0, .ref a_t), (1, .int x1)]) hx hb dX9_districtsAround_1 rfl hl (by decide) rfl (fun ls hl => ?_)
  refine lv_iconst (v := 0) hx hb dX9_districtsAround_2 (by decide) ?_
  refine lv_istore_n (lv' := [(3, .int (0 : Int32)), (2, .int (0 : Int32)), (0, .ref a_t), (1, .int x1)]) hx hb dX9_districtsAround_3 rfl hl (by decide) rfl (fun ls hl => ?_)
  refine L4 _ _ (0 : Int32) (0 : Int32) h (fun z4_2 H locs ls h hH hl => ?_) H locs ls hH (lv_sub hl [2, 3, 1, 0] rfl)
  refine lv_iconst (v := 0) hx hb dX9_districtsAround_40 (by decide) ?_
  refine lv_istore_n (lv' := [(3, .int (0 : Int32)), (0, .ref a_t), (1, .int x1), (2, .int z4_2)]) hx hb dX9_districtsAround_41 rfl hl (by decide) rfl (fun ls hl => ?_)
  refine lv_iconst (v := 0) hx hb dX9_districtsAround_42 (by decide) ?_
  refine lv_istore (lv' := [(4, .int (0 : Int32)), (3, .int (0 : Int32)), (0, .ref a_t), (1, .int x1), (2, .int z4_2)]) hx hb dX9_districtsAround_43 hl (by decide) rfl (fun ls hl => ?_)
  refine L45 z4_2 _ _ (0 : Int32) (0 : Int32) h (fun z45_3 H locs ls h hH hl => ?_) H locs ls hH (lv_sub hl [2, 3, 4, 1, 0] rfl)
  refine lv_iload_n hx hb dX9_districtsAround_88 rfl (lv_at hl 0 rfl) ?_
  have h := Option.some.inj h
  subst h
  exact ge_i hx hb hr hlocks hQ hK hH hAe rfl dX9_districtsAround_89
theorem hd_X9_countCommunities : yX9_countCommunities.cls = RX9 ∧ yX9_countCommunities.cls ≠ "java/lang/invoke/MethodHandle" ∧ yX9_countCommunities.cls ≠ "java/lang/invoke/VarHandle" ∧ (parseMethodDescriptor yX9_countCommunities.desc).map (fun d => d.parameters.length) = some 1 := by decide +kernel
set_option maxHeartbeats 4000000 in
set_option maxRecDepth 100000 in
theorem mX9_countCommunities (l : Launch) (Ts : List Cond) (hTs : ∀ w, w ∈ Ts ↔ w ∈ uT) (D : va_G) (k : Nat → ClassId) (sz : Nat) (a_t : Nat) (a_t_population : Nat) (a_t_area : Nat) (a_t_community : Nat) (a_t_outer : Nat) (a_t_neighbors : Nat) (a_t_lengths : Nat) (a_t_plan : Nat) (t_community : Nat → Int32) (t_units : Int32) (v_t_cores : Value) (v_t_districts : Value) (v_t_hasPlan : Value) (v_t_tolerance : Value) (x1 : Int32) (r : Int32) (h : fX9_countCommunities t_community t_units x1 = some r) : Met l yX9_countCommunities (Cond.code yX9_countCommunities cX9_countCommunities 4 (some .int) :: Ts) ({ frames := 1, cells := 0, slots := 0, locals := 23 } : Room) (preM D k [.ref a_t, .int x1] [(a_t, .inr (8, [.int t_units, .ref a_t_population, .ref a_t_area, .ref a_t_community, .ref a_t_outer, .ref a_t_neighbors, .ref a_t_lengths, v_t_cores, v_t_districts, v_t_tolerance, v_t_hasPlan, .ref a_t_plan])), (a_t_community, .inl (k 0, 12, .inl t_community))] sz) (postI D k r [(a_t, .inr (8, [.int t_units, .ref a_t_population, .ref a_t_area, .ref a_t_community, .ref a_t_outer, .ref a_t_neighbors, .ref a_t_lengths, v_t_cores, v_t_districts, v_t_tolerance, v_t_hasPlan, .ref a_t_plan])), (a_t_community, .inl (k 0, 12, .inl t_community))] [(a_t, .inr (8, [.int t_units, .ref a_t_population, .ref a_t_area, .ref a_t_community, .ref a_t_outer, .ref a_t_neighbors, .ref a_t_lengths, v_t_cores, v_t_districts, v_t_tolerance, v_t_hasPlan, .ref a_t_plan])), (a_t_community, .inl (k 0, 12, .inl t_community))] sz) 0 0 (va_A [(a_t, .inr (8, [.int t_units, .ref a_t_population, .ref a_t_area, .ref a_t_community, .ref a_t_outer, .ref a_t_neighbors, .ref a_t_lengths, v_t_cores, v_t_districts, v_t_tolerance, v_t_hasPlan, .ref a_t_plan])), (a_t_community, .inl (k 0, 12, .inl t_community))] sz) := by
  refine Met.ofW (cc := cX9_countCommunities) (maxL := 4) (ret := (some .int)) (by decide) rfl ?_
  intro p e s m args below meth c s₁ B hml hv
  obtain ⟨rfl, hsz, hP, hK, hD0⟩ := hv
  have hx := B.exec
  have hb := B.bytes
  have hr := B.returns
  have hts0 := atoms_spec (ws := (Cond.code yX9_countCommunities cX9_countCommunities 4 (some .int) :: Ts)) B.pre
  have hts : ∀ w ∈ uT, w.before _ s = true := fun w h => hts0 w (List.mem_cons_of_mem _ ((hTs w).mpr h))
  clear hts0
  have hown : s.vm.findClass RX9 = some m.cls := findClass_of_methodNamed B.named
  have hlocks := B.notSynchronized
  subst hsz
  have hD := hD0.self (sz := s.heap.size)
  generalize hAe : va_A [(a_t, .inr (8, [.int t_units, .ref a_t_population, .ref a_t_area, .ref a_t_community, .ref a_t_outer, .ref a_t_neighbors, .ref a_t_lengths, v_t_cores, v_t_districts, v_t_tolerance, v_t_hasPlan, .ref a_t_plan])), (a_t_community, .inl (k 0, 12, .inl t_community))] s.heap.size = A at hD ⊢
  have hA : ∀ q : Nat, s.heap.size ≤ q → A q := fun q h => by rw [← hAe]; exact Or.inr h
  have hH : HOK D A s.heap [(a_t, .inr (8, [.int t_units, .ref a_t_population, .ref a_t_area, .ref a_t_community, .ref a_t_outer, .ref a_t_neighbors, .ref a_t_lengths, v_t_cores, v_t_districts, v_t_tolerance, v_t_hasPlan, .ref a_t_plan])), (a_t_community, .inl (k 0, 12, .inl t_community))] s.heap [] := ⟨hP, hD, va_S.rf⟩
  have hl := lv_entry ([.ref a_t, .int x1]) (n := 4) (Nat.le_of_ble_eq_true rfl)
  rw [lg_entry_eq]
  generalize (lg_sl ([.ref a_t, .int x1]) ++ List.replicate (4 - (lg_sl ([.ref a_t, .int x1])).length) Slot.unset).toArray = ls at hl ⊢
  have hl : lv_has ls 4 [(0, .ref a_t), (1, .int x1)] := hl
  generalize hQ : MQ below (postI D k r [(a_t, .inr (8, [.int t_units, .ref a_t_population, .ref a_t_area, .ref a_t_community, .ref a_t_outer, .ref a_t_neighbors, .ref a_t_lengths, v_t_cores, v_t_districts, v_t_tolerance, v_t_hasPlan, .ref a_t_plan])), (a_t_community, .inl (k 0, 12, .inl t_community))] [(a_t, .inr (8, [.int t_units, .ref a_t_population, .ref a_t_area, .ref a_t_community, .ref a_t_outer, .ref a_t_neighbors, .ref a_t_lengths, v_t_cores, v_t_districts, v_t_tolerance, v_t_hasPlan, .ref a_t_plan])), (a_t_community, .inl (k 0, 12, .inl t_community))] s.heap.size) (List.toArray [.ref a_t, .int x1]) s 0 0 A = Q
  clear hP hD hD0
  suffices K : ∀ (H : Heap) (locs : List Loc), HOK D A s.heap [(a_t, .inr (8, [.int t_units, .ref a_t_population, .ref a_t_area, .ref a_t_community, .ref a_t_outer, .ref a_t_neighbors, .ref a_t_lengths, v_t_cores, v_t_districts, v_t_tolerance, v_t_hasPlan, .ref a_t_plan])), (a_t_community, .inl (k 0, 12, .inl t_community))] H locs → W p l e ({ frames := 1, cells := 0, slots := 0, locals := 23 } : Room) s m (List.toArray [.ref a_t, .int x1]) below meth c H locs 0 0 Q (F0 m 0 ls []) from K s.heap [] hH
  intro H locs hH
  have L4 : ∀ (n : Nat), ∀ (kf : Int32 → Option (Int32)) (y4_2 : Int32) (y4_3 : Int32), fX9_countCommunities_L4 t_community t_units x1 n kf y4_2 y4_3 = some r → (∀ (z4_2 : Int32) (H : Heap) (locs : List Loc) (ls : Array Slot), kf z4_2 = some r → HOK D A s.heap [(a_t, .inr (8, [.int t_units, .ref a_t_population, .ref a_t_area, .ref a_t_community, .ref a_t_outer, .ref a_t_neighbors, .ref a_t_lengths, v_t_cores, v_t_districts, v_t_tolerance, v_t_hasPlan, .ref a_t_plan])), (a_t_community, .inl (k 0, 12, .inl t_community))] H locs → lv_has ls 4 [(2, .int z4_2)] → W p l e ({ frames := 1, cells := 0, slots := 0, locals := 23 } : Room) s m (List.toArray [.ref a_t, .int x1]) below meth c H locs 0 0 Q (F0 m 28 ls [])) → ∀ (H : Heap) (locs : List Loc) (ls : Array Slot), HOK D A s.heap [(a_t, .inr (8, [.int t_units, .ref a_t_population, .ref a_t_area, .ref a_t_community, .ref a_t_outer, .ref a_t_neighbors, .ref a_t_lengths, v_t_cores, v_t_districts, v_t_tolerance, v_t_hasPlan, .ref a_t_plan])), (a_t_community, .inl (k 0, 12, .inl t_community))] H locs → lv_has ls 4 [(0, .ref a_t), (1, .int x1), (2, .int y4_2), (3, .int y4_3)] → W p l e ({ frames := 1, cells := 0, slots := 0, locals := 23 } : Room) s m (List.toArray [.ref a_t, .int x1]) below meth c H locs 0 0 Q (F0 m 4 ls []) := by
    intro n
    induction n with
    | zero =>
      intro kf y4_2 y4_3 h
      exact absurd h (by rw [fX9_countCommunities_L4]; exact fun q => by cases q)
    | succ n ih =>
      intro kf y4_2 y4_3 h kk H locs ls hH hl
      rw [fX9_countCommunities_L4] at h
      refine lv_iload_n hx hb dX9_countCommunities_4 rfl (lv_at hl 3 rfl) ?_
      refine lv_iconst (v := 4) hx hb dX9_countCommunities_5 (by decide) ?_
      refine lv_icmp_ge (tgt := 28) hx hb dX9_countCommunities_6 (by decide) (fun c1 => ?_) (fun c1 => ?_)
      · replace h := dc_pos c1 h
        exact kk y4_2 H locs ls h hH (lv_sub hl [2] rfl)
      · replace h := dc_neg c1 h
        refine lv_aload_n hx hb dX9_countCommunities_9 rfl (lv_at hl 0 rfl) ?_
        refine lv_iload_n hx hb dX9_countCommunities_10 rfl (lv_at hl 3 rfl) ?_
        obtain ⟨q2, hqq2, h⟩ := dc_bind h
        refine gc_Vi (ws' := [(a_t, .inr (8, [.int t_units, .ref a_t_population, .ref a_t_area, .ref a_t_community, .ref a_t_outer, .ref a_t_neighbors, .ref a_t_lengths, v_t_cores, v_t_districts, v_t_tolerance, v_t_hasPlan, .ref a_t_plan])), (a_t_community, .inl (k 0, 12, .inl t_community))]) (As := [.int y4_3]) (rest := []) (n := 1) (ci := 8) (cq := (RX9, TX9, 12)) hTs ⟨hx, hb, hml, hown, hts⟩ (mX9_membersOf l Ts hTs D k H.size a_t a_t_population a_t_area a_t_community a_t_outer a_t_neighbors a_t_lengths a_t_plan t_community t_units v_t_cores v_t_districts v_t_hasPlan v_t_tolerance y4_3 q2 hqq2) u_ml_X9_92 u_im_X9_membersOf u_se_X9_membersOf u_in_X9 u_co_X9_membersOf hd_X9_membersOf ⟨Nat.le_of_ble_eq_true rfl, Nat.le_of_ble_eq_true rfl⟩ ⟨rfl, rfl⟩ hK hH hA (cut0 (isC := [0, 1]) rfl rfl rfl) rfl rfl rfl rfl hl.1 (Nat.le_of_ble_eq_true rfl) dX9_countCommunities_11 ⟨Nat.le_of_ble_eq_true rfl, Nat.le_of_ble_eq_true rfl⟩ (fun H locs hH => ?_)
        refine lv_iload_n hx hb dX9_countCommunities_14 rfl (lv_at hl 1 rfl) ?_
        refine lv_iand hx hb dX9_countCommunities_15 ?_
        refine lv_if_eq (tgt := 22) hx hb dX9_countCommunities_16 (by decide) (fun c3 => ?_) (fun c3 => ?_)
        · replace h := dc_pos c3 h
          refine lv_iinc (v := (y4_3 + (1 : Int32))) (lv' := [(3, .int (y4_3 + (1 : Int32))), (0, .ref a_t), (1, .int x1), (2, .int y4_2)]) hx hb dX9_countCommunities_22 hl (k := 3) rfl rfl (by decide) rfl (fun ls hl => ?_)
          refine lv_goto (tgt := 4) hx hb dX9_countCommunities_25 (by decide) ?_
          exact ih kf y4_2 (y4_3 + (1 : Int32)) h kk H locs ls hH (lv_sub hl [1, 2, 3, 0] rfl)
        · replace h := dc_neg c3 h
          refine lv_iinc (v := (y4_2 + (1 : Int32))) (lv' := [(2, .int (y4_2 + (1 : Int32))), (0, .ref a_t), (1, .int x1), (3, .int y4_3)]) hx hb dX9_countCommunities_19 hl (k := 2) rfl rfl (by decide) rfl (fun ls hl => ?_)
          refine lv_iinc (v := (y4_3 + (1 : Int32))) (lv' := [(3, .int (y4_3 + (1 : Int32))), (2, .int (y4_2 + (1 : Int32))), (0, .ref a_t), (1, .int x1)]) hx hb dX9_countCommunities_22 hl (k := 3) rfl rfl (by decide) rfl (fun ls hl => ?_)
          refine lv_goto (tgt := 4) hx hb dX9_countCommunities_25 (by decide) ?_
          exact ih kf (y4_2 + (1 : Int32)) (y4_3 + (1 : Int32)) h kk H locs ls hH (lv_sub hl [2, 3, 1, 0] rfl)
  rw [fX9_countCommunities] at h
  refine lv_iconst (v := 0) hx hb dX9_countCommunities_0 (by decide) ?_
  refine lv_istore_n (lv' := [(2, .int (0 : Int32)), (0, .ref a_t), (1, .int x1)]) hx hb dX9_countCommunities_1 rfl hl (by decide) rfl (fun ls hl => ?_)
  refine lv_iconst (v := 0) hx hb dX9_countCommunities_2 (by decide) ?_
  refine lv_istore_n (lv' := [(3, .int (0 : Int32)), (2, .int (0 : Int32)), (0, .ref a_t), (1, .int x1)]) hx hb dX9_countCommunities_3 rfl hl (by decide) rfl (fun ls hl => ?_)
  refine L4 _ _ (0 : Int32) (0 : Int32) h (fun z4_2 H locs ls h hH hl => ?_) H locs ls hH (lv_sub hl [2, 3, 1, 0] rfl)
  refine lv_iload_n hx hb dX9_countCommunities_28 rfl (lv_at hl 0 rfl) ?_
  have h := Option.some.inj h
  subst h
  exact ge_i hx hb hr hlocks hQ hK hH hAe rfl dX9_countCommunities_29
theorem hd_X9_countParts : yX9_countParts.cls = RX9 ∧ yX9_countParts.cls ≠ "java/lang/invoke/MethodHandle" ∧ yX9_countParts.cls ≠ "java/lang/invoke/VarHandle" ∧ (parseMethodDescriptor yX9_countParts.desc).map (fun d => d.parameters.length) = some 0 := by decide +kernel
set_option maxHeartbeats 4000000 in
set_option maxRecDepth 100000 in
theorem mX9_countParts (l : Launch) (Ts : List Cond) (hTs : ∀ w, w ∈ Ts ↔ w ∈ uT) (D : va_G) (k : Nat → ClassId) (sz : Nat) (a_t : Nat) (a_t_population : Nat) (a_t_area : Nat) (a_t_community : Nat) (a_t_outer : Nat) (a_t_neighbors : Nat) (a_t_lengths : Nat) (a_t_plan : Nat) (t_neighbors : Nat → Int32) (t_units : Int32) (v_t_cores : Value) (v_t_districts : Value) (v_t_hasPlan : Value) (v_t_tolerance : Value) (r : Int32) (h : fX9_countParts t_neighbors t_units = some r) : Met l yX9_countParts (Cond.code yX9_countParts cX9_countParts 3 (some .int) :: Ts) ({ frames := 1, cells := 0, slots := 0, locals := 25 } : Room) (preM D k [.ref a_t] [(a_t, .inr (8, [.int t_units, .ref a_t_population, .ref a_t_area, .ref a_t_community, .ref a_t_outer, .ref a_t_neighbors, .ref a_t_lengths, v_t_cores, v_t_districts, v_t_tolerance, v_t_hasPlan, .ref a_t_plan])), (a_t_neighbors, .inl (k 0, 12, .inl t_neighbors))] sz) (postI D k r [(a_t, .inr (8, [.int t_units, .ref a_t_population, .ref a_t_area, .ref a_t_community, .ref a_t_outer, .ref a_t_neighbors, .ref a_t_lengths, v_t_cores, v_t_districts, v_t_tolerance, v_t_hasPlan, .ref a_t_plan])), (a_t_neighbors, .inl (k 0, 12, .inl t_neighbors))] [(a_t, .inr (8, [.int t_units, .ref a_t_population, .ref a_t_area, .ref a_t_community, .ref a_t_outer, .ref a_t_neighbors, .ref a_t_lengths, v_t_cores, v_t_districts, v_t_tolerance, v_t_hasPlan, .ref a_t_plan])), (a_t_neighbors, .inl (k 0, 12, .inl t_neighbors))] sz) 0 0 (va_A [(a_t, .inr (8, [.int t_units, .ref a_t_population, .ref a_t_area, .ref a_t_community, .ref a_t_outer, .ref a_t_neighbors, .ref a_t_lengths, v_t_cores, v_t_districts, v_t_tolerance, v_t_hasPlan, .ref a_t_plan])), (a_t_neighbors, .inl (k 0, 12, .inl t_neighbors))] sz) := by
  refine Met.ofW (cc := cX9_countParts) (maxL := 3) (ret := (some .int)) (by decide) rfl ?_
  intro p e s m args below meth c s₁ B hml hv
  obtain ⟨rfl, hsz, hP, hK, hD0⟩ := hv
  have hx := B.exec
  have hb := B.bytes
  have hr := B.returns
  have hts0 := atoms_spec (ws := (Cond.code yX9_countParts cX9_countParts 3 (some .int) :: Ts)) B.pre
  have hts : ∀ w ∈ uT, w.before _ s = true := fun w h => hts0 w (List.mem_cons_of_mem _ ((hTs w).mpr h))
  clear hts0
  have hown : s.vm.findClass RX9 = some m.cls := findClass_of_methodNamed B.named
  have hlocks := B.notSynchronized
  subst hsz
  have hD := hD0.self (sz := s.heap.size)
  generalize hAe : va_A [(a_t, .inr (8, [.int t_units, .ref a_t_population, .ref a_t_area, .ref a_t_community, .ref a_t_outer, .ref a_t_neighbors, .ref a_t_lengths, v_t_cores, v_t_districts, v_t_tolerance, v_t_hasPlan, .ref a_t_plan])), (a_t_neighbors, .inl (k 0, 12, .inl t_neighbors))] s.heap.size = A at hD ⊢
  have hA : ∀ q : Nat, s.heap.size ≤ q → A q := fun q h => by rw [← hAe]; exact Or.inr h
  have hH : HOK D A s.heap [(a_t, .inr (8, [.int t_units, .ref a_t_population, .ref a_t_area, .ref a_t_community, .ref a_t_outer, .ref a_t_neighbors, .ref a_t_lengths, v_t_cores, v_t_districts, v_t_tolerance, v_t_hasPlan, .ref a_t_plan])), (a_t_neighbors, .inl (k 0, 12, .inl t_neighbors))] s.heap [] := ⟨hP, hD, va_S.rf⟩
  have hl := lv_entry ([.ref a_t]) (n := 3) (Nat.le_of_ble_eq_true rfl)
  rw [lg_entry_eq]
  generalize (lg_sl ([.ref a_t]) ++ List.replicate (3 - (lg_sl ([.ref a_t])).length) Slot.unset).toArray = ls at hl ⊢
  have hl : lv_has ls 3 [(0, .ref a_t)] := hl
  generalize hQ : MQ below (postI D k r [(a_t, .inr (8, [.int t_units, .ref a_t_population, .ref a_t_area, .ref a_t_community, .ref a_t_outer, .ref a_t_neighbors, .ref a_t_lengths, v_t_cores, v_t_districts, v_t_tolerance, v_t_hasPlan, .ref a_t_plan])), (a_t_neighbors, .inl (k 0, 12, .inl t_neighbors))] [(a_t, .inr (8, [.int t_units, .ref a_t_population, .ref a_t_area, .ref a_t_community, .ref a_t_outer, .ref a_t_neighbors, .ref a_t_lengths, v_t_cores, v_t_districts, v_t_tolerance, v_t_hasPlan, .ref a_t_plan])), (a_t_neighbors, .inl (k 0, 12, .inl t_neighbors))] s.heap.size) (List.toArray [.ref a_t]) s 0 0 A = Q
  clear hP hD hD0
  suffices K : ∀ (H : Heap) (locs : List Loc), HOK D A s.heap [(a_t, .inr (8, [.int t_units, .ref a_t_population, .ref a_t_area, .ref a_t_community, .ref a_t_outer, .ref a_t_neighbors, .ref a_t_lengths, v_t_cores, v_t_districts, v_t_tolerance, v_t_hasPlan, .ref a_t_plan])), (a_t_neighbors, .inl (k 0, 12, .inl t_neighbors))] H locs → W p l e ({ frames := 1, cells := 0, slots := 0, locals := 25 } : Room) s m (List.toArray [.ref a_t]) below meth c H locs 0 0 Q (F0 m 0 ls []) from K s.heap [] hH
  intro H locs hH
  have L7 : ∀ (n : Nat), ∀ (kf : Int32 → Option (Int32)) (y7_1 : Int32) (y7_2 : Int32), fX9_countParts_L7 t_neighbors t_units n kf y7_1 y7_2 = some r → (∀ (z7_1 : Int32) (H : Heap) (locs : List Loc) (ls : Array Slot), kf z7_1 = some r → HOK D A s.heap [(a_t, .inr (8, [.int t_units, .ref a_t_population, .ref a_t_area, .ref a_t_community, .ref a_t_outer, .ref a_t_neighbors, .ref a_t_lengths, v_t_cores, v_t_districts, v_t_tolerance, v_t_hasPlan, .ref a_t_plan])), (a_t_neighbors, .inl (k 0, 12, .inl t_neighbors))] H locs → lv_has ls 3 [(1, .int z7_1)] → W p l e ({ frames := 1, cells := 0, slots := 0, locals := 25 } : Room) s m (List.toArray [.ref a_t]) below meth c H locs 0 0 Q (F0 m 35 ls [])) → ∀ (H : Heap) (locs : List Loc) (ls : Array Slot), HOK D A s.heap [(a_t, .inr (8, [.int t_units, .ref a_t_population, .ref a_t_area, .ref a_t_community, .ref a_t_outer, .ref a_t_neighbors, .ref a_t_lengths, v_t_cores, v_t_districts, v_t_tolerance, v_t_hasPlan, .ref a_t_plan])), (a_t_neighbors, .inl (k 0, 12, .inl t_neighbors))] H locs → lv_has ls 3 [(0, .ref a_t), (1, .int y7_1), (2, .int y7_2)] → W p l e ({ frames := 1, cells := 0, slots := 0, locals := 25 } : Room) s m (List.toArray [.ref a_t]) below meth c H locs 0 0 Q (F0 m 7 ls []) := by
    intro n
    induction n with
    | zero =>
      intro kf y7_1 y7_2 h
      exact absurd h (by rw [fX9_countParts_L7]; exact fun q => by cases q)
    | succ n ih =>
      intro kf y7_1 y7_2 h kk H locs ls hH hl
      rw [fX9_countParts_L7] at h
      refine lv_iload_n hx hb dX9_countParts_7 rfl (lv_at hl 2 rfl) ?_
      refine lv_if_eq (tgt := 35) hx hb dX9_countParts_8 (by decide) (fun c2 => ?_) (fun c2 => ?_)
      · replace h := dc_pos c2 h
        exact kk y7_1 H locs ls h hH (lv_sub hl [1] rfl)
      · replace h := dc_neg c2 h
        refine lv_iload_n hx hb dX9_countParts_11 rfl (lv_at hl 1 rfl) ?_
        refine lv_aload_n hx hb dX9_countParts_12 rfl (lv_at hl 0 rfl) ?_
        refine gk_get (ci := 8) (C := RX9) (T := TX9) (N := 12) hx hb hts u_ws_X9 hown hK hH 0 rfl rfl 0 (by decide) u_fl_X9_9 rfl dX9_countParts_13 ?_
        refine lv_icmp_ge (tgt := 35) hx hb dX9_countParts_16 (by decide) (fun c3 => ?_) (fun c3 => ?_)
        · replace h := dc_pos c3 h
          exact kk y7_1 H locs ls h hH (lv_sub hl [1] rfl)
        · replace h := dc_neg c3 h
          refine lv_iload_n hx hb dX9_countParts_19 rfl (lv_at hl 2 rfl) ?_
          refine lv_aload_n hx hb dX9_countParts_20 rfl (lv_at hl 0 rfl) ?_
          refine lv_iload_n hx hb dX9_countParts_21 rfl (lv_at hl 2 rfl) ?_
          obtain ⟨q4, hqq4, h⟩ := dc_bind h
          refine gc_Vi (ws' := [(a_t, .inr (8, [.int t_units, .ref a_t_population, .ref a_t_area, .ref a_t_community, .ref a_t_outer, .ref a_t_neighbors, .ref a_t_lengths, v_t_cores, v_t_districts, v_t_tolerance, v_t_hasPlan, .ref a_t_plan])), (a_t_neighbors, .inl (k 0, 12, .inl t_neighbors))]) (As := [.int y7_2]) (rest := [.int y7_2]) (n := 1) (ci := 8) (cq := (RX9, TX9, 12)) hTs ⟨hx, hb, hml, hown, hts⟩ (mX9_reach l Ts hTs D k H.size a_t a_t_population a_t_area a_t_community a_t_outer a_t_neighbors a_t_lengths a_t_plan t_neighbors t_units v_t_cores v_t_districts v_t_hasPlan v_t_tolerance y7_2 q4 hqq4) u_ml_X9_99 u_im_X9_reach u_se_X9_reach u_in_X9 u_co_X9_reach hd_X9_reach ⟨Nat.le_of_ble_eq_true rfl, Nat.le_of_ble_eq_true rfl⟩ ⟨rfl, rfl⟩ hK hH hA (cut0 (isC := [0, 1]) rfl rfl rfl) rfl rfl rfl rfl hl.1 (Nat.le_of_ble_eq_true rfl) dX9_countParts_22 ⟨Nat.le_of_ble_eq_true rfl, Nat.le_of_ble_eq_true rfl⟩ (fun H locs hH => ?_)
          refine lv_iconst (v := -1) hx hb dX9_countParts_25 (by decide) ?_
          refine lv_ixor hx hb dX9_countParts_26 ?_
          refine lv_iand hx hb dX9_countParts_27 ?_
          refine lv_istore_n (lv' := [(2, .int (y7_2 &&& (q4 ^^^ (-1 : Int32)))), (0, .ref a_t), (1, .int y7_1)]) hx hb dX9_countParts_28 rfl hl (by decide) rfl (fun ls hl => ?_)
          refine lv_iinc (v := (y7_1 + (1 : Int32))) (lv' := [(1, .int (y7_1 + (1 : Int32))), (2, .int (y7_2 &&& (q4 ^^^ (-1 : Int32)))), (0, .ref a_t)]) hx hb dX9_countParts_29 hl (k := 2) rfl rfl (by decide) rfl (fun ls hl => ?_)
          refine lv_goto (tgt := 7) hx hb dX9_countParts_32 (by decide) ?_
          exact ih kf (y7_1 + (1 : Int32)) (y7_2 &&& (q4 ^^^ (-1 : Int32))) h kk H locs ls hH (lv_sub hl [2, 0, 1] rfl)
  rw [fX9_countParts] at h
  refine lv_iconst (v := 0) hx hb dX9_countParts_0 (by decide) ?_
  refine lv_istore_n (lv' := [(1, .int (0 : Int32)), (0, .ref a_t)]) hx hb dX9_countParts_1 rfl hl (by decide) rfl (fun ls hl => ?_)
  refine lv_aload_n hx hb dX9_countParts_2 rfl (lv_at hl 1 rfl) ?_
  obtain ⟨q1, hqq1, h⟩ := dc_bind h
  refine gc_Vi (ws' := [(a_t, .inr (8, [.int t_units, .ref a_t_population, .ref a_t_area, .ref a_t_community, .ref a_t_outer, .ref a_t_neighbors, .ref a_t_lengths, v_t_cores, v_t_districts, v_t_tolerance, v_t_hasPlan, .ref a_t_plan])), (a_t_neighbors, .inl (k 0, 12, .inl t_neighbors))]) (As := []) (rest := []) (n := 0) (ci := 8) (cq := (RX9, TX9, 12)) hTs ⟨hx, hb, hml, hown, hts⟩ (mX9_allUnits l Ts hTs D k H.size a_t a_t_population a_t_area a_t_community a_t_outer a_t_neighbors a_t_lengths a_t_plan t_units v_t_cores v_t_districts v_t_hasPlan v_t_tolerance q1 hqq1) u_ml_X9_95 u_im_X9_allUnits u_se_X9_allUnits u_in_X9 u_co_X9_allUnits hd_X9_allUnits ⟨Nat.le_of_ble_eq_true rfl, Nat.le_of_ble_eq_true rfl⟩ ⟨rfl, rfl⟩ hK hH hA (cut0 (isC := [0]) rfl rfl rfl) rfl rfl rfl rfl hl.1 (Nat.le_of_ble_eq_true rfl) dX9_countParts_3 ⟨Nat.le_of_ble_eq_true rfl, Nat.le_of_ble_eq_true rfl⟩ (fun H locs hH => ?_)
  refine lv_istore_n (lv' := [(2, .int q1), (1, .int (0 : Int32)), (0, .ref a_t)]) hx hb dX9_countParts_6 rfl hl (by decide) rfl (fun ls hl => ?_)
  refine L7 _ _ (0 : Int32) q1 h (fun z7_1 H locs ls h hH hl => ?_) H locs ls hH (lv_sub hl [2, 1, 0] rfl)
  refine lv_iload_n hx hb dX9_countParts_35 rfl (lv_at hl 0 rfl) ?_
  have h := Option.some.inj h
  subst h
  exact ge_i hx hb hr hlocks hQ hK hH hAe rfl dX9_countParts_36
