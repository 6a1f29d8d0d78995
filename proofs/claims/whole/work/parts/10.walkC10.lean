theorem hd_X7_trySwaps : yX7_trySwaps.cls = RX7 ∧ yX7_trySwaps.cls ≠ "java/lang/invoke/MethodHandle" ∧ yX7_trySwaps.cls ≠ "java/lang/invoke/VarHandle" ∧ (parseMethodDescriptor yX7_trySwaps.desc).map (fun d => d.parameters.length) = some 2 := by decide +kernel
set_option maxHeartbeats 4000000 in
set_option maxRecDepth 100000 in
theorem mX7_trySwaps (l : Launch) (Ts : List Cond) (hTs : ∀ w, w ∈ Ts ↔ w ∈ uT) (D : va_G) (k : Nat → ClassId) (sz : Nat) (a_p1 : Nat) (a_p2 : Nat) (a_t : Nat) (a_t_found : Nat) (a_t_behind : Nat) (a_t_best : Nat) (a_t_tried : Nat) (a_p1_population : Nat) (a_p1_area : Nat) (a_p1_community : Nat) (a_p1_outer : Nat) (a_p1_neighbors : Nat) (a_p1_lengths : Nat) (a_p1_plan : Nat) (a_p1_plan_places : Nat) (a_p1_plan_sets : Nat) (a_t_behind_places : Nat) (a_t_behind_sets : Nat) (a_t_found_places : Nat) (a_t_found_sets : Nat) (p1_area : Nat → Int32) (p1_community : Nat → Int32) (p1_cores : Int32) (p1_districts : Int32) (p1_lengths : Nat → Int32) (p1_neighbors : Nat → Int32) (p1_outer : Nat → Int32) (p1_plan_places : Nat → Int32) (p1_plan_sets : Nat → Int32) (p1_population : Nat → Int32) (p1_tolerance : Int32) (p1_units : Int32) (p2_detail : Int32) (p2_reason : Int32) (t_behind_places : Nat → Int32) (t_behind_sets : Nat → Int32) (t_best_bottom : Int64) (t_best_top : Int64) (t_found_places : Nat → Int32) (t_found_sets : Nat → Int32) (t_hasFound : Int32) (t_measure : Int32) (t_tried_bottom : Int64) (t_tried_top : Int64) (v_p1_hasPlan : Value) (r : Int32 × Int32 × Int32 × (Nat → Int32) × (Nat → Int32) × Int64 × Int64 × (Nat → Int32) × (Nat → Int32) × Int32 × Int64 × Int64) (h : fX7_trySwaps p1_area p1_community p1_cores p1_districts p1_lengths p1_neighbors p1_outer p1_plan_places p1_plan_sets p1_population p1_tolerance p1_units p2_detail p2_reason t_behind_places t_behind_sets t_best_bottom t_best_top t_found_places t_found_sets t_hasFound t_measure t_tried_bottom t_tried_top = some r) : Met l yX7_trySwaps (Cond.code yX7_trySwaps cX7_trySwaps 6 (some .int) :: Ts) ({ frames := 5, cells := 0, slots := 0, locals := 155 } : Room) (preM D k [.ref a_t, .ref a_p1, .ref a_p2] [(a_t, .inr (6, [.ref a_t_found, .int t_hasFound, .int t_measure, .ref a_t_behind, .ref a_t_best, .ref a_t_tried])), (a_p1, .inr (8, [.int p1_units, .ref a_p1_population, .ref a_p1_area, .ref a_p1_community, .ref a_p1_outer, .ref a_p1_neighbors, .ref a_p1_lengths, .int p1_cores, .int p1_districts, .int p1_tolerance, v_p1_hasPlan, .ref a_p1_plan])), (a_p1_plan, .inr (4, [.ref a_p1_plan_places, .ref a_p1_plan_sets])), (a_p1_plan_places, .inl (k 0, 12, .inl p1_plan_places)), (a_p2, .inr (3, [.int p2_reason, .int p2_detail])), (a_p1_neighbors, .inl (k 0, 12, .inl p1_neighbors)), (a_p1_plan_sets, .inl (k 0, 4, .inl p1_plan_sets)), (a_t_behind, .inr (4, [.ref a_t_behind_places, .ref a_t_behind_sets])), (a_t_behind_places, .inl (k 0, 12, .inl t_behind_places)), (a_t_behind_sets, .inl (k 0, 4, .inl t_behind_sets)), (a_p1_community, .inl (k 0, 12, .inl p1_community)), (a_p1_population, .inl (k 0, 12, .inl p1_population)), (a_p1_outer, .inl (k 0, 12, .inl p1_outer)), (a_p1_lengths, .inl (k 0, 144, .inl p1_lengths)), (a_p1_area, .inl (k 0, 12, .inl p1_area)), (a_t_tried, .inr (1, [.long t_tried_top, .long t_tried_bottom])), (a_t_best, .inr (1, [.long t_best_top, .long t_best_bottom])), (a_t_found, .inr (4, [.ref a_t_found_places, .ref a_t_found_sets])), (a_t_found_places, .inl (k 0, 12, .inl t_found_places)), (a_t_found_sets, .inl (k 0, 4, .inl t_found_sets))] sz) (postI D k r.1 [(a_t, .inr (6, [.ref a_t_found, .int t_hasFound, .int t_measure, .ref a_t_behind, .ref a_t_best, .ref a_t_tried])), (a_p1, .inr (8, [.int p1_units, .ref a_p1_population, .ref a_p1_area, .ref a_p1_community, .ref a_p1_outer, .ref a_p1_neighbors, .ref a_p1_lengths, .int p1_cores, .int p1_districts, .int p1_tolerance, v_p1_hasPlan, .ref a_p1_plan])), (a_p1_plan, .inr (4, [.ref a_p1_plan_places, .ref a_p1_plan_sets])), (a_p1_plan_places, .inl (k 0, 12, .inl p1_plan_places)), (a_p2, .inr (3, [.int p2_reason, .int p2_detail])), (a_p1_neighbors, .inl (k 0, 12, .inl p1_neighbors)), (a_p1_plan_sets, .inl (k 0, 4, .inl p1_plan_sets)), (a_t_behind, .inr (4, [.ref a_t_behind_places, .ref a_t_behind_sets])), (a_t_behind_places, .inl (k 0, 12, .inl t_behind_places)), (a_t_behind_sets, .inl (k 0, 4, .inl t_behind_sets)), (a_p1_community, .inl (k 0, 12, .inl p1_community)), (a_p1_population, .inl (k 0, 12, .inl p1_population)), (a_p1_outer, .inl (k 0, 12, .inl p1_outer)), (a_p1_lengths, .inl (k 0, 144, .inl p1_lengths)), (a_p1_area, .inl (k 0, 12, .inl p1_area)), (a_t_tried, .inr (1, [.long t_tried_top, .long t_tried_bottom])), (a_t_best, .inr (1, [.long t_best_top, .long t_best_bottom])), (a_t_found, .inr (4, [.ref a_t_found_places, .ref a_t_found_sets])), (a_t_found_places, .inl (k 0, 12, .inl t_found_places)), (a_t_found_sets, .inl (k 0, 4, .inl t_found_sets))] [(a_t, .inr (6, [.ref a_t_found, .int r.2.2.2.2.2.2.2.2.2.1, .int t_measure, .ref a_t_behind, .ref a_t_best, .ref a_t_tried])), (a_p1, .inr (8, [.int p1_units, .ref a_p1_population, .ref a_p1_area, .ref a_p1_community, .ref a_p1_outer, .ref a_p1_neighbors, .ref a_p1_lengths, .int p1_cores, .int p1_districts, .int p1_tolerance, v_p1_hasPlan, .ref a_p1_plan])), (a_p1_plan, .inr (4, [.ref a_p1_plan_places, .ref a_p1_plan_sets])), (a_p1_plan_places, .inl (k 0, 12, .inl p1_plan_places)), (a_p2, .inr (3, [.int r.2.2.1, .int r.2.1])), (a_p1_neighbors, .inl (k 0, 12, .inl p1_neighbors)), (a_p1_plan_sets, .inl (k 0, 4, .inl p1_plan_sets)), (a_t_behind, .inr (4, [.ref a_t_behind_places, .ref a_t_behind_sets])), (a_t_behind_places, .inl (k 0, 12, .inl r.2.2.2.1)), (a_t_behind_sets, .inl (k 0, 4, .inl r.2.2.2.2.1)), (a_p1_community, .inl (k 0, 12, .inl p1_community)), (a_p1_population, .inl (k 0, 12, .inl p1_population)), (a_p1_outer, .inl (k 0, 12, .inl p1_outer)), (a_p1_lengths, .inl (k 0, 144, .inl p1_lengths)), (a_p1_area, .inl (k 0, 12, .inl p1_area)), (a_t_tried, .inr (1, [.long r.2.2.2.2.2.2.2.2.2.2.2, .long r.2.2.2.2.2.2.2.2.2.2.1])), (a_t_best, .inr (1, [.long r.2.2.2.2.2.2.1, .long r.2.2.2.2.2.1])), (a_t_found, .inr (4, [.ref a_t_found_places, .ref a_t_found_sets])), (a_t_found_places, .inl (k 0, 12, .inl r.2.2.2.2.2.2.2.1)), (a_t_found_sets, .inl (k 0, 4, .inl r.2.2.2.2.2.2.2.2.1))] sz) 0 0 (va_A [(a_t, .inr (6, [.ref a_t_found, .int t_hasFound, .int t_measure, .ref a_t_behind, .ref a_t_best, .ref a_t_tried])), (a_p1, .inr (8, [.int p1_units, .ref a_p1_population, .ref a_p1_area, .ref a_p1_community, .ref a_p1_outer, .ref a_p1_neighbors, .ref a_p1_lengths, .int p1_cores, .int p1_districts, .int p1_tolerance, v_p1_hasPlan, .ref a_p1_plan])), (a_p1_plan, .inr (4, [.ref a_p1_plan_places, .ref a_p1_plan_sets])), (a_p1_plan_places, .inl (k 0, 12, .inl p1_plan_places)), (a_p2, .inr (3, [.int p2_reason, .int p2_detail])), (a_p1_neighbors, .inl (k 0, 12, .inl p1_neighbors)), (a_p1_plan_sets, .inl (k 0, 4, .inl p1_plan_sets)), (a_t_behind, .inr (4, [.ref a_t_behind_places, .ref a_t_behind_sets])), (a_t_behind_places, .inl (k 0, 12, .inl t_behind_places)), (a_t_behind_sets, .inl (k 0, 4, .inl t_behind_sets)), (a_p1_community, .inl (k 0, 12, .inl p1_community)), (a_p1_population, .inl (k 0, 12, .inl p1_population)), (a_p1_outer, .inl (k 0, 12, .inl p1_outer)), (a_p1_lengths, .inl (k 0, 144, .inl p1_lengths)), (a_p1_area, .inl (k 0, 12, .inl p1_area)), (a_t_tried, .inr (1, [.long t_tried_top, .long t_tried_bottom])), (a_t_best, .inr (1, [.long t_best_top, .long t_best_bottom])), (a_t_found, .inr (4, [.ref a_t_found_places, .ref a_t_found_sets])), (a_t_found_places, .inl (k 0, 12, .inl t_found_places)), (a_t_found_sets, .inl (k 0, 4, .inl t_found_sets))] sz) := by
  refine Met.ofW (cc := cX7_trySwaps) (maxL := 6) (ret := (some .int)) (by decide) rfl ?_
  intro p e s m args below meth c s₁ B hml hv
  obtain ⟨rfl, hsz, hP, hK, hD0⟩ := hv
  have hx := B.exec
  have hb := B.bytes
  have hr := B.returns
  have hts0 := atoms_spec (ws := (Cond.code yX7_trySwaps cX7_trySwaps 6 (some .int) :: Ts)) B.pre
  have hts : ∀ w ∈ uT, w.before _ s = true := fun w h => hts0 w (List.mem_cons_of_mem _ ((hTs w).mpr h))
  clear hts0
  have hown : s.vm.findClass RX7 = some m.cls := findClass_of_methodNamed B.named
  have hlocks := B.notSynchronized
  subst hsz
  have hD := hD0.self (sz := s.heap.size)
  generalize hAe : va_A [(a_t, .inr (6, [.ref a_t_found, .int t_hasFound, .int t_measure, .ref a_t_behind, .ref a_t_best, .ref a_t_tried])), (a_p1, .inr (8, [.int p1_units, .ref a_p1_population, .ref a_p1_area, .ref a_p1_community, .ref a_p1_outer, .ref a_p1_neighbors, .ref a_p1_lengths, .int p1_cores, .int p1_districts, .int p1_tolerance, v_p1_hasPlan, .ref a_p1_plan])), (a_p1_plan, .inr (4, [.ref a_p1_plan_places, .ref a_p1_plan_sets])), (a_p1_plan_places, .inl (k 0, 12, .inl p1_plan_places)), (a_p2, .inr (3, [.int p2_reason, .int p2_detail])), (a_p1_neighbors, .inl (k 0, 12, .inl p1_neighbors)), (a_p1_plan_sets, .inl (k 0, 4, .inl p1_plan_sets)), (a_t_behind, .inr (4, [.ref a_t_behind_places, .ref a_t_behind_sets])), (a_t_behind_places, .inl (k 0, 12, .inl t_behind_places)), (a_t_behind_sets, .inl (k 0, 4, .inl t_behind_sets)), (a_p1_community, .inl (k 0, 12, .inl p1_community)), (a_p1_population, .inl (k 0, 12, .inl p1_population)), (a_p1_outer, .inl (k 0, 12, .inl p1_outer)), (a_p1_lengths, .inl (k 0, 144, .inl p1_lengths)), (a_p1_area, .inl (k 0, 12, .inl p1_area)), (a_t_tried, .inr (1, [.long t_tried_top, .long t_tried_bottom])), (a_t_best, .inr (1, [.long t_best_top, .long t_best_bottom])), (a_t_found, .inr (4, [.ref a_t_found_places, .ref a_t_found_sets])), (a_t_found_places, .inl (k 0, 12, .inl t_found_places)), (a_t_found_sets, .inl (k 0, 4, .inl t_found_sets))] s.heap.size = A at hD ⊢
  have hA : ∀ q : Nat, s.heap.size ≤ q → A q := fun q h => by rw [← hAe]; exact Or.inr h
  have hH : HOK D A s.heap [(a_t, .inr (6, [.ref a_t_found, .int t_hasFound, .int t_measure, .ref a_t_behind, .ref a_t_best, .ref a_t_tried])), (a_p1, .inr (8, [.int p1_units, .ref a_p1_population, .ref a_p1_area, .ref a_p1_community, .ref a_p1_outer, .ref a_p1_neighbors, .ref a_p1_lengths, .int p1_cores, .int p1_districts, .int p1_tolerance, v_p1_hasPlan, .ref a_p1_plan])), (a_p1_plan, .inr (4, [.ref a_p1_plan_places, .ref a_p1_plan_sets])), (a_p1_plan_places, .inl (k 0, 12, .inl p1_plan_places)), (a_p2, .inr (3, [.int p2_reason, .int p2_detail])), (a_p1_neighbors, .inl (k 0, 12, .inl p1_neighbors)), (a_p1_plan_sets, .inl (k 0, 4, .inl p1_plan_sets)), (a_t_behind, .inr (4, [.ref a_t_behind_places, .ref a_t_behind_sets])), (a_t_behind_places, .inl (k 0, 12, .inl t_behind_places)), (a_t_behind_sets, .inl (k 0, 4, .inl t_behind_sets)), (a_p1_community, .inl (k 0, 12, .inl p1_community)), (a_p1_population, .inl (k 0, 12, .inl p1_population)), (a_p1_outer, .inl (k 0, 12, .inl p1_outer)), (a_p1_lengths, .inl (k 0, 144, .inl p1_lengths)), (a_p1_area, .inl (k 0, 12, .inl p1_area)), (a_t_tried, .inr (1, [.long t_tried_top, .long t_tried_bottom])), (a_t_best, .inr (1, [.long t_best_top, .long t_best_bottom])), (a_t_found, .inr (4, [.ref a_t_found_places, .ref a_t_found_sets])), (a_t_found_places, .inl (k 0, 12, .inl t_found_places)), (a_t_found_sets, .inl (k 0, 4, .inl t_found_sets))] s.heap [] := ⟨hP, hD, va_S.rf⟩
  have hl := lv_entry ([.ref a_t, .ref a_p1, .ref a_p2]) (n := 6) (Nat.le_of_ble_eq_true rfl)
  rw [lg_entry_eq]
  generalize (lg_sl ([.ref a_t, .ref a_p1, .ref a_p2]) ++ List.replicate (6 - (lg_sl ([.ref a_t, .ref a_p1, .ref a_p2])).length) Slot.unset).toArray = ls at hl ⊢
  have hl : lv_has ls 6 [(0, .ref a_t), (1, .ref a_p1), (2, .ref a_p2)] := hl
  generalize hQ : MQ below (postI D k r.1 [(a_t, .inr (6, [.ref a_t_found, .int t_hasFound, .int t_measure, .ref a_t_behind, .ref a_t_best, .ref a_t_tried])), (a_p1, .inr (8, [.int p1_units, .ref a_p1_population, .ref a_p1_area, .ref a_p1_community, .ref a_p1_outer, .ref a_p1_neighbors, .ref a_p1_lengths, .int p1_cores, .int p1_districts, .int p1_tolerance, v_p1_hasPlan, .ref a_p1_plan])), (a_p1_plan, .inr (4, [.ref a_p1_plan_places, .ref a_p1_plan_sets])), (a_p1_plan_places, .inl (k 0, 12, .inl p1_plan_places)), (a_p2, .inr (3, [.int p2_reason, .int p2_detail])), (a_p1_neighbors, .inl (k 0, 12, .inl p1_neighbors)), (a_p1_plan_sets, .inl (k 0, 4, .inl p1_plan_sets)), (a_t_behind, .inr (4, [.ref a_t_behind_places, .ref a_t_behind_sets])), (a_t_behind_places, .inl (k 0, 12, .inl t_behind_places)), (a_t_behind_sets, .inl (k 0, 4, .inl t_behind_sets)), (a_p1_community, .inl (k 0, 12, .inl p1_community)), (a_p1_population, .inl (k 0, 12, .inl p1_population)), (a_p1_outer, .inl (k 0, 12, .inl p1_outer)), (a_p1_lengths, .inl (k 0, 144, .inl p1_lengths)), (a_p1_area, .inl (k 0, 12, .inl p1_area)), (a_t_tried, .inr (1, [.long t_tried_top, .long t_tried_bottom])), (a_t_best, .inr (1, [.long t_best_top, .long t_best_bottom])), (a_t_found, .inr (4, [.ref a_t_found_places, .ref a_t_found_sets])), (a_t_found_places, .inl (k 0, 12, .inl t_found_places)), (a_t_found_sets, .inl (k 0, 4, .inl t_found_sets))] [(a_t, .inr (6, [.ref a_t_found, .int r.2.2.2.2.2.2.2.2.2.1, .int t_measure, .ref a_t_behind, .ref a_t_best, .ref a_t_tried])), (a_p1, .inr (8, [.int p1_units, .ref a_p1_population, .ref a_p1_area, .ref a_p1_community, .ref a_p1_outer, .ref a_p1_neighbors, .ref a_p1_lengths, .int p1_cores, .int p1_districts, .int p1_tolerance, v_p1_hasPlan, .ref a_p1_plan])), (a_p1_plan, .inr (4, [.ref a_p1_plan_places, .ref a_p1_plan_sets])), (a_p1_plan_places, .inl (k 0, 12, .inl p1_plan_places)), (a_p2, .inr (3, [.int r.2.2.1, .int r.2.1])), (a_p1_neighbors, .inl (k 0, 12, .inl p1_neighbors)), (a_p1_plan_sets, .inl (k 0, 4, .inl p1_plan_sets)), (a_t_behind, .inr (4, [.ref a_t_behind_places, .ref a_t_behind_sets])), (a_t_behind_places, .inl (k 0, 12, .inl r.2.2.2.1)), (a_t_behind_sets, .inl (k 0, 4, .inl r.2.2.2.2.1)), (a_p1_community, .inl (k 0, 12, .inl p1_community)), (a_p1_population, .inl (k 0, 12, .inl p1_population)), (a_p1_outer, .inl (k 0, 12, .inl p1_outer)), (a_p1_lengths, .inl (k 0, 144, .inl p1_lengths)), (a_p1_area, .inl (k 0, 12, .inl p1_area)), (a_t_tried, .inr (1, [.long r.2.2.2.2.2.2.2.2.2.2.2, .long r.2.2.2.2.2.2.2.2.2.2.1])), (a_t_best, .inr (1, [.long r.2.2.2.2.2.2.1, .long r.2.2.2.2.2.1])), (a_t_found, .inr (4, [.ref a_t_found_places, .ref a_t_found_sets])), (a_t_found_places, .inl (k 0, 12, .inl r.2.2.2.2.2.2.2.1)), (a_t_found_sets, .inl (k 0, 4, .inl r.2.2.2.2.2.2.2.2.1))] s.heap.size) (List.toArray [.ref a_t, .ref a_p1, .ref a_p2]) s 0 0 A = Q
  clear hP hD hD0
  suffices K : ∀ (H : Heap) (locs : List Loc), HOK D A s.heap [(a_t, .inr (6, [.ref a_t_found, .int t_hasFound, .int t_measure, .ref a_t_behind, .ref a_t_best, .ref a_t_tried])), (a_p1, .inr (8, [.int p1_units, .ref a_p1_population, .ref a_p1_area, .ref a_p1_community, .ref a_p1_outer, .ref a_p1_neighbors, .ref a_p1_lengths, .int p1_cores, .int p1_districts, .int p1_tolerance, v_p1_hasPlan, .ref a_p1_plan])), (a_p1_plan, .inr (4, [.ref a_p1_plan_places, .ref a_p1_plan_sets])), (a_p1_plan_places, .inl (k 0, 12, .inl p1_plan_places)), (a_p2, .inr (3, [.int p2_reason, .int p2_detail])), (a_p1_neighbors, .inl (k 0, 12, .inl p1_neighbors)), (a_p1_plan_sets, .inl (k 0, 4, .inl p1_plan_sets)), (a_t_behind, .inr (4, [.ref a_t_behind_places, .ref a_t_behind_sets])), (a_t_behind_places, .inl (k 0, 12, .inl t_behind_places)), (a_t_behind_sets, .inl (k 0, 4, .inl t_behind_sets)), (a_p1_community, .inl (k 0, 12, .inl p1_community)), (a_p1_population, .inl (k 0, 12, .inl p1_population)), (a_p1_outer, .inl (k 0, 12, .inl p1_outer)), (a_p1_lengths, .inl (k 0, 144, .inl p1_lengths)), (a_p1_area, .inl (k 0, 12, .inl p1_area)), (a_t_tried, .inr (1, [.long t_tried_top, .long t_tried_bottom])), (a_t_best, .inr (1, [.long t_best_top, .long t_best_bottom])), (a_t_found, .inr (4, [.ref a_t_found_places, .ref a_t_found_sets])), (a_t_found_places, .inl (k 0, 12, .inl t_found_places)), (a_t_found_sets, .inl (k 0, 4, .inl t_found_sets))] H locs → W p l e ({ frames := 5, cells := 0, slots := 0, locals := 155 } : Room) s m (List.toArray [.ref a_t, .ref a_p1, .ref a_p2]) below meth c H locs 0 0 Q (F0 m 0 ls []) from K s.heap [] hH
  intro H locs hH
  have L20 : ∀ (y20_4 : Int32) (n : Nat), ∀ (kf : Int32 → Int32 → Int32 → (Nat → Int32) → (Nat → Int32) → Int64 → Int64 → (Nat → Int32) → (Nat → Int32) → Int32 → Int64 → Int64 → Option (Int32 × Int32 × Int32 × (Nat → Int32) × (Nat → Int32) × Int64 × Int64 × (Nat → Int32) × (Nat → Int32) × Int32 × Int64 × Int64)) (y20_3 : Int32) (y20_5 : Int32) (y20_p2_detail : Int32) (y20_p2_reason : Int32) (y20_t_behind_places : Nat → Int32) (y20_t_behind_sets : Nat → Int32) (y20_t_best_bottom : Int64) (y20_t_best_top : Int64) (y20_t_found_places : Nat → Int32) (y20_t_found_sets : Nat → Int32) (y20_t_hasFound : Int32) (y20_t_tried_bottom : Int64) (y20_t_tried_top : Int64), fX7_trySwaps_L20 p1_area p1_community p1_cores p1_districts p1_lengths p1_neighbors p1_outer p1_plan_places p1_plan_sets p1_population p1_tolerance p1_units t_measure y20_4 n kf y20_3 y20_5 y20_p2_detail y20_p2_reason y20_t_behind_places y20_t_behind_sets y20_t_best_bottom y20_t_best_top y20_t_found_places y20_t_found_sets y20_t_hasFound y20_t_tried_bottom y20_t_tried_top = some r → (∀ (z20_3 : Int32) (z20_p2_detail : Int32) (z20_p2_reason : Int32) (z20_t_behind_places : Nat → Int32) (z20_t_behind_sets : Nat → Int32) (z20_t_best_bottom : Int64) (z20_t_best_top : Int64) (z20_t_found_places : Nat → Int32) (z20_t_found_sets : Nat → Int32) (z20_t_hasFound : Int32) (z20_t_tried_bottom : Int64) (z20_t_tried_top : Int64) (H : Heap) (locs : List Loc) (ls : Array Slot), kf z20_3 z20_p2_detail z20_p2_reason z20_t_behind_places z20_t_behind_sets z20_t_best_bottom z20_t_best_top z20_t_found_places z20_t_found_sets z20_t_hasFound z20_t_tried_bottom z20_t_tried_top = some r → HOK D A s.heap [(a_t, .inr (6, [.ref a_t_found, .int z20_t_hasFound, .int t_measure, .ref a_t_behind, .ref a_t_best, .ref a_t_tried])), (a_p1, .inr (8, [.int p1_units, .ref a_p1_population, .ref a_p1_area, .ref a_p1_community, .ref a_p1_outer, .ref a_p1_neighbors, .ref a_p1_lengths, .int p1_cores, .int p1_districts, .int p1_tolerance, v_p1_hasPlan, .ref a_p1_plan])), (a_p1_plan, .inr (4, [.ref a_p1_plan_places, .ref a_p1_plan_sets])), (a_p1_plan_places, .inl (k 0, 12, .inl p1_plan_places)), (a_p2, .inr (3, [.int z20_p2_reason, .int z20_p2_detail])), (a_p1_neighbors, .inl (k 0, 12, .inl p1_neighbors)), (a_p1_plan_sets, .inl (k 0, 4, .inl p1_plan_sets)), (a_t_behind, .inr (4, [.ref a_t_behind_places, .ref a_t_behind_sets])), (a_t_behind_places, .inl (k 0, 12, .inl z20_t_behind_places)), (a_t_behind_sets, .inl (k 0, 4, .inl z20_t_behind_sets)), (a_p1_community, .inl (k 0, 12, .inl p1_community)), (a_p1_population, .inl (k 0, 12, .inl p1_population)), (a_p1_outer, .inl (k 0, 12, .inl p1_outer)), (a_p1_lengths, .inl (k 0, 144, .inl p1_lengths)), (a_p1_area, .inl (k 0, 12, .inl p1_area)), (a_t_tried, .inr (1, [.long z20_t_tried_top, .long z20_t_tried_bottom])), (a_t_best, .inr (1, [.long z20_t_best_top, .long z20_t_best_bottom])), (a_t_found, .inr (4, [.ref a_t_found_places, .ref a_t_found_sets])), (a_t_found_places, .inl (k 0, 12, .inl z20_t_found_places)), (a_t_found_sets, .inl (k 0, 4, .inl z20_t_found_sets))] H locs → lv_has ls 6 [(0, .ref a_t), (1, .ref a_p1), (2, .ref a_p2), (3, .int z20_3), (4, .int y20_4)] → W p l e ({ frames := 5, cells := 0, slots := 0, locals := 155 } : Room) s m (List.toArray [.ref a_t, .ref a_p1, .ref a_p2]) below meth c H locs 0 0 Q (F0 m 82 ls [])) → ∀ (H : Heap) (locs : List Loc) (ls : Array Slot), HOK D A s.heap [(a_t, .inr (6, [.ref a_t_found, .int y20_t_hasFound, .int t_measure, .ref a_t_behind, .ref a_t_best, .ref a_t_tried])), (a_p1, .inr (8, [.int p1_units, .ref a_p1_population, .ref a_p1_area, .ref a_p1_community, .ref a_p1_outer, .ref a_p1_neighbors, .ref a_p1_lengths, .int p1_cores, .int p1_districts, .int p1_tolerance, v_p1_hasPlan, .ref a_p1_plan])), (a_p1_plan, .inr (4, [.ref a_p1_plan_places, .ref a_p1_plan_sets])), (a_p1_plan_places, .inl (k 0, 12, .inl p1_plan_places)), (a_p2, .inr (3, [.int y20_p2_reason, .int y20_p2_detail])), (a_p1_neighbors, .inl (k 0, 12, .inl p1_neighbors)), (a_p1_plan_sets, .inl (k 0, 4, .inl p1_plan_sets)), (a_t_behind, .inr (4, [.ref a_t_behind_places, .ref a_t_behind_sets])), (a_t_behind_places, .inl (k 0, 12, .inl y20_t_behind_places)), (a_t_behind_sets, .inl (k 0, 4, .inl y20_t_behind_sets)), (a_p1_community, .inl (k 0, 12, .inl p1_community)), (a_p1_population, .inl (k 0, 12, .inl p1_population)), (a_p1_outer, .inl (k 0, 12, .inl p1_outer)), (a_p1_lengths, .inl (k 0, 144, .inl p1_lengths)), (a_p1_area, .inl (k 0, 12, .inl p1_area)), (a_t_tried, .inr (1, [.long y20_t_tried_top, .long y20_t_tried_bottom])), (a_t_best, .inr (1, [.long y20_t_best_top, .long y20_t_best_bottom])), (a_t_found, .inr (4, [.ref a_t_found_places, .ref a_t_found_sets])), (a_t_found_places, .inl (k 0, 12, .inl y20_t_found_places)), (a_t_found_sets, .inl (k 0, 4, .inl y20_t_found_sets))] H locs → lv_has ls 6 [(0, .ref a_t), (1, .ref a_p1), (2, .ref a_p2), (3, .int y20_3), (4, .int y20_4), (5, .int y20_5)] → W p l e ({ frames := 5, cells := 0, slots := 0, locals := 155 } : Room) s m (List.toArray [.ref a_t, .ref a_p1, .ref a_p2]) below meth c H locs 0 0 Q (F0 m 20 ls []) := by
    intro y20_4 n
    induction n with
    | zero =>
      intro kf y20_3 y20_5 y20_p2_detail y20_p2_reason y20_t_behind_places y20_t_behind_sets y20_t_best_bottom y20_t_best_top y20_t_found_places y20_t_found_sets y20_t_hasFound y20_t_tried_bottom y20_t_tried_top h
      exact absurd h (by rw [fX7_trySwaps_L20]; exact fun q => by cases q)
    | succ n ih =>
      intro kf y20_3 y20_5 y20_p2_detail y20_p2_reason y20_t_behind_places y20_t_behind_sets y20_t_best_bottom y20_t_best_top y20_t_found_places y20_t_found_sets y20_t_hasFound y20_t_tried_bottom y20_t_tried_top h kk H locs ls hH hl
      rw [fX7_trySwaps_L20] at h
      refine lv_iload hx hb dX7_trySwaps_20 (lv_at hl 5 rfl) ?_
      refine lv_aload_n hx hb dX7_trySwaps_22 rfl (lv_at hl 1 rfl) ?_
      refine gk_get (ci := 8) (C := RX9) (T := TX9) (N := 12) hx hb hts u_ws_X9 hown hK hH 1 rfl rfl 0 (by decide) u_fl_X7_50 rfl dX7_trySwaps_23 ?_
      refine lv_icmp_ge (tgt := 82) hx hb dX7_trySwaps_26 (by decide) (fun c2 => ?_) (fun c2 => ?_)
      · replace h := dc_pos c2 h
        exact kk y20_3 y20_p2_detail y20_p2_reason y20_t_behind_places y20_t_behind_sets y20_t_best_bottom y20_t_best_top y20_t_found_places y20_t_found_sets y20_t_hasFound y20_t_tried_bottom y20_t_tried_top H locs ls h hH (lv_sub hl [0, 1, 2, 3, 4] rfl)
      · replace h := dc_neg c2 h
        refine lv_aload_n hx hb dX7_trySwaps_29 rfl (lv_at hl 1 rfl) ?_
        refine gk_get (ci := 8) (C := RX9) (T := TX9) (N := 12) hx hb hts u_ws_X9 hown hK hH 1 rfl rfl 11 (by decide) u_fl_X7_39 rfl dX7_trySwaps_30 ?_
        refine gk_get (ci := 4) (C := RX4) (T := TX4) (N := 2) hx hb hts u_ws_X4 hown hK hH 2 rfl rfl 0 (by decide) u_fl_X7_56 rfl dX7_trySwaps_33 ?_
        refine lv_iload hx hb dX7_trySwaps_36 (lv_at hl 4 rfl) ?_
        obtain ⟨g3, h⟩ := dc_need h
        refine gk_iald hx hb hK hH 3 rfl (dk_in g3) dX7_trySwaps_38 ?_
        refine lv_aload_n hx hb dX7_trySwaps_39 rfl (lv_at hl 1 rfl) ?_
        refine gk_get (ci := 8) (C := RX9) (T := TX9) (N := 12) hx hb hts u_ws_X9 hown hK hH 1 rfl rfl 11 (by decide) u_fl_X7_39 rfl dX7_trySwaps_40 ?_
        refine gk_get (ci := 4) (C := RX4) (T := TX4) (N := 2) hx hb hts u_ws_X4 hown hK hH 2 rfl rfl 0 (by decide) u_fl_X7_56 rfl dX7_trySwaps_43 ?_
        refine lv_iload hx hb dX7_trySwaps_46 (lv_at hl 5 rfl) ?_
        obtain ⟨g4, h⟩ := dc_need h
        refine gk_iald hx hb hK hH 3 rfl (dk_in g4) dX7_trySwaps_48 ?_
        refine lv_icmp_eq (tgt := 76) hx hb dX7_trySwaps_49 (by decide) (fun c5 => ?_) (fun c5 => ?_)
        · replace h := dc_pos c5 h
          refine lv_iinc (v := (y20_5 + (1 : Int32))) (lv' := [(5, .int (y20_5 + (1 : Int32))), (0, .ref a_t), (1, .ref a_p1), (2, .ref a_p2), (3, .int y20_3), (4, .int y20_4)]) hx hb dX7_trySwaps_76 hl (k := 5) rfl rfl (by decide) rfl (fun ls hl => ?_)
          refine lv_goto (tgt := 20) hx hb dX7_trySwaps_79 (by decide) ?_
          exact ih kf y20_3 (y20_5 + (1 : Int32)) y20_p2_detail y20_p2_reason y20_t_behind_places y20_t_behind_sets y20_t_best_bottom y20_t_best_top y20_t_found_places y20_t_found_sets y20_t_hasFound y20_t_tried_bottom y20_t_tried_top h kk H locs ls hH (lv_sub hl [1, 2, 3, 4, 5, 0] rfl)
        · replace h := dc_neg c5 h
          refine lv_aload_n hx hb dX7_trySwaps_52 rfl (lv_at hl 2 rfl) ?_
          refine lv_aload_n hx hb dX7_trySwaps_53 rfl (lv_at hl 1 rfl) ?_
          refine lv_iload hx hb dX7_trySwaps_54 (lv_at hl 4 rfl) ?_
          refine lv_iload hx hb dX7_trySwaps_56 (lv_at hl 5 rfl) ?_
          refine lv_aload_n hx hb dX7_trySwaps_58 rfl (lv_at hl 0 rfl) ?_
          refine gk_get (ci := 6) (C := RX7) (T := TX7) (N := 6) hx hb hts u_ws_X7 hown hK hH 0 rfl rfl 3 (by decide) u_fl_X7_26 rfl dX7_trySwaps_59 ?_
          obtain ⟨q6, hqq6, h⟩ := dc_bind h
          refine gc_Vi (ws' := [(a_t, .inr (6, [.ref a_t_found, .int y20_t_hasFound, .int t_measure, .ref a_t_behind, .ref a_t_best, .ref a_t_tried])), (a_p1, .inr (8, [.int p1_units, .ref a_p1_population, .ref a_p1_area, .ref a_p1_community, .ref a_p1_outer, .ref a_p1_neighbors, .ref a_p1_lengths, .int p1_cores, .int p1_districts, .int p1_tolerance, v_p1_hasPlan, .ref a_p1_plan])), (a_p1_plan, .inr (4, [.ref a_p1_plan_places, .ref a_p1_plan_sets])), (a_p1_plan_places, .inl (k 0, 12, .inl p1_plan_places)), (a_p2, .inr (3, [.int q6.2.2.2.2, .int q6.2.2.2.1])), (a_p1_neighbors, .inl (k 0, 12, .inl p1_neighbors)), (a_p1_plan_sets, .inl (k 0, 4, .inl p1_plan_sets)), (a_t_behind, .inr (4, [.ref a_t_behind_places, .ref a_t_behind_sets])), (a_t_behind_places, .inl (k 0, 12, .inl q6.2.1)), (a_t_behind_sets, .inl (k 0, 4, .inl q6.2.2.1)), (a_p1_community, .inl (k 0, 12, .inl p1_community)), (a_p1_population, .inl (k 0, 12, .inl p1_population)), (a_p1_outer, .inl (k 0, 12, .inl p1_outer)), (a_p1_lengths, .inl (k 0, 144, .inl p1_lengths)), (a_p1_area, .inl (k 0, 12, .inl p1_area)), (a_t_tried, .inr (1, [.long y20_t_tried_top, .long y20_t_tried_bottom])), (a_t_best, .inr (1, [.long y20_t_best_top, .long y20_t_best_bottom])), (a_t_found, .inr (4, [.ref a_t_found_places, .ref a_t_found_sets])), (a_t_found_places, .inl (k 0, 12, .inl y20_t_found_places)), (a_t_found_sets, .inl (k 0, 4, .inl y20_t_found_sets))]) (As := [.ref a_p1, .int y20_4, .int y20_5, .ref a_t_behind]) (rest := []) (n := 4) (ci := 3) (cq := (RX3, TX3, 2)) hTs ⟨hx, hb, hml, hown, hts⟩ (mX3_judgeSwap l Ts hTs D k H.size a_p1 a_t_behind a_p2 a_p1_population a_p1_area a_p1_community a_p1_outer a_p1_neighbors a_p1_lengths a_p1_plan a_p1_plan_places a_p1_plan_sets a_t_behind_places a_t_behind_sets p1_community p1_cores p1_districts p1_neighbors p1_plan_places p1_plan_sets p1_population p1_tolerance p1_units y20_t_behind_places y20_t_behind_sets y20_p2_detail y20_p2_reason v_p1_hasPlan y20_4 y20_5 q6 hqq6) u_ml_X7_70 u_im_X3_judgeSwap u_se_X3_judgeSwap u_in_X3 u_co_X3_judgeSwap hd_X3_judgeSwap ⟨Nat.le_of_ble_eq_true rfl, Nat.le_of_ble_eq_true rfl⟩ ⟨rfl, rfl⟩ hK hH hA (cutM (isC := [4, 1, 2, 3, 5, 6, 7, 8, 9, 10, 11]) [none, some 1, some 2, some 3, some 0, some 4, some 5, some 6, some 7, some 8, some 9, some 10, none, none, none, none, none, none, none, none] 20 rfl rfl rfl rfl rfl rfl rfl) rfl rfl rfl rfl hl.1 (Nat.le_of_ble_eq_true rfl) dX7_trySwaps_62 ⟨Nat.le_of_ble_eq_true rfl, Nat.le_of_ble_eq_true rfl⟩ (fun H locs hH => ?_)
          refine lv_if_ne (tgt := 76) hx hb dX7_trySwaps_65 (by decide) (fun c7 => ?_) (fun c7 => ?_)
          · replace h := dc_neg c7 h
            refine lv_iinc (v := (y20_5 + (1 : Int32))) (lv' := [(5, .int (y20_5 + (1 : Int32))), (0, .ref a_t), (1, .ref a_p1), (2, .ref a_p2), (3, .int y20_3), (4, .int y20_4)]) hx hb dX7_trySwaps_76 hl (k := 5) rfl rfl (by decide) rfl (fun ls hl => ?_)
            refine lv_goto (tgt := 20) hx hb dX7_trySwaps_79 (by decide) ?_
            exact ih kf y20_3 (y20_5 + (1 : Int32)) q6.2.2.2.1 q6.2.2.2.2 q6.2.1 q6.2.2.1 y20_t_best_bottom y20_t_best_top y20_t_found_places y20_t_found_sets y20_t_hasFound y20_t_tried_bottom y20_t_tried_top h kk H locs ls hH (lv_sub hl [1, 2, 3, 4, 5, 0] rfl)
          · replace h := dc_pos c7 h
            refine lv_aload_n hx hb dX7_trySwaps_68 rfl (lv_at hl 0 rfl) ?_
            refine lv_aload_n hx hb dX7_trySwaps_69 rfl (lv_at hl 1 rfl) ?_
            obtain ⟨q8, hqq8, h⟩ := dc_bind h
            refine gc_Vv (ws' := [(a_t, .inr (6, [.ref a_t_found, .int q8.2.2.2.2.1, .int t_measure, .ref a_t_behind, .ref a_t_best, .ref a_t_tried])), (a_p1, .inr (8, [.int p1_units, .ref a_p1_population, .ref a_p1_area, .ref a_p1_community, .ref a_p1_outer, .ref a_p1_neighbors, .ref a_p1_lengths, .int p1_cores, .int p1_districts, .int p1_tolerance, v_p1_hasPlan, .ref a_p1_plan])), (a_p1_plan, .inr (4, [.ref a_p1_plan_places, .ref a_p1_plan_sets])), (a_p1_plan_places, .inl (k 0, 12, .inl p1_plan_places)), (a_p2, .inr (3, [.int q6.2.2.2.2, .int q6.2.2.2.1])), (a_p1_neighbors, .inl (k 0, 12, .inl p1_neighbors)), (a_p1_plan_sets, .inl (k 0, 4, .inl p1_plan_sets)), (a_t_behind, .inr (4, [.ref a_t_behind_places, .ref a_t_behind_sets])), (a_t_behind_places, .inl (k 0, 12, .inl q6.2.1)), (a_t_behind_sets, .inl (k 0, 4, .inl q6.2.2.1)), (a_p1_community, .inl (k 0, 12, .inl p1_community)), (a_p1_population, .inl (k 0, 12, .inl p1_population)), (a_p1_outer, .inl (k 0, 12, .inl p1_outer)), (a_p1_lengths, .inl (k 0, 144, .inl p1_lengths)), (a_p1_area, .inl (k 0, 12, .inl p1_area)), (a_t_tried, .inr (1, [.long q8.2.2.2.2.2.2, .long q8.2.2.2.2.2.1])), (a_t_best, .inr (1, [.long q8.2.1, .long q8.1])), (a_t_found, .inr (4, [.ref a_t_found_places, .ref a_t_found_sets])), (a_t_found_places, .inl (k 0, 12, .inl q8.2.2.1)), (a_t_found_sets, .inl (k 0, 4, .inl q8.2.2.2.1))]) (As := [.ref a_p1]) (rest := []) (n := 1) (ci := 6) (cq := (RX7, TX7, 6)) hTs ⟨hx, hb, hml, hown, hts⟩ (mX7_consider l Ts hTs D k H.size a_p1 a_t a_t_found a_t_behind a_t_best a_t_tried a_p1_population a_p1_area a_p1_community a_p1_outer a_p1_neighbors a_p1_lengths a_p1_plan a_t_behind_places a_t_behind_sets a_t_found_places a_t_found_sets p1_area p1_community p1_districts p1_lengths p1_outer p1_population p1_units q6.2.1 q6.2.2.1 y20_t_best_bottom y20_t_best_top y20_t_found_places y20_t_found_sets y20_t_hasFound t_measure y20_t_tried_bottom y20_t_tried_top (.int p1_cores) v_p1_hasPlan (.int p1_tolerance) q8 hqq8) u_ml_X7_66 u_im_X7_consider u_se_X7_consider u_in_X7 u_co_X7_consider hd_X7_consider ⟨Nat.le_of_ble_eq_true rfl, Nat.le_of_ble_eq_true rfl⟩ ⟨rfl, rfl⟩ hK hH hA (cutM (isC := [0, 1, 7, 9, 12, 13, 14, 15, 8, 10, 11, 16, 17, 18, 19]) [some 0, some 1, none, none, none, none, none, some 2, some 8, some 3, some 9, some 10, some 4, some 5, some 6, some 7, some 11, some 12, some 13, some 14] 20 rfl rfl rfl rfl rfl rfl rfl) rfl rfl rfl rfl hl.1 (Nat.le_of_ble_eq_true rfl) dX7_trySwaps_70 ⟨Nat.le_of_ble_eq_true rfl, Nat.le_of_ble_eq_true rfl⟩ (fun H locs hH => ?_)
            refine lv_iinc (v := (y20_3 + (1 : Int32))) (lv' := [(3, .int (y20_3 + (1 : Int32))), (0, .ref a_t), (1, .ref a_p1), (2, .ref a_p2), (4, .int y20_4), (5, .int y20_5)]) hx hb dX7_trySwaps_73 hl (k := 3) rfl rfl (by decide) rfl (fun ls hl => ?_)
            refine lv_iinc (v := (y20_5 + (1 : Int32))) (lv' := [(5, .int (y20_5 + (1 : Int32))), (3, .int (y20_3 + (1 : Int32))), (0, .ref a_t), (1, .ref a_p1), (2, .ref a_p2), (4, .int y20_4)]) hx hb dX7_trySwaps_76 hl (k := 5) rfl rfl (by decide) rfl (fun ls hl => ?_)
            refine lv_goto (tgt := 20) hx hb dX7_trySwaps_79 (by decide) ?_
            exact ih kf (y20_3 + (1 : Int32)) (y20_5 + (1 : Int32)) q6.2.2.2.1 q6.2.2.2.2 q6.2.1 q6.2.2.1 q8.1 q8.2.1 q8.2.2.1 q8.2.2.2.1 q8.2.2.2.2.1 q8.2.2.2.2.2.1 q8.2.2.2.2.2.2 h kk H locs ls hH (lv_sub hl [2, 3, 4, 1, 5, 0] rfl)
  have L5 : ∀ (n : Nat), ∀ (kf : Int32 → Int32 → Int32 → (Nat → Int32) → (Nat → Int32) → Int64 → Int64 → (Nat → Int32) → (Nat → Int32) → Int32 → Int64 → Int64 → Option (Int32 × Int32 × Int32 × (Nat → Int32) × (Nat → Int32) × Int64 × Int64 × (Nat → Int32) × (Nat → Int32) × Int32 × Int64 × Int64)) (y5_3 : Int32) (y5_4 : Int32) (y5_p2_detail : Int32) (y5_p2_reason : Int32) (y5_t_behind_places : Nat → Int32) (y5_t_behind_sets : Nat → Int32) (y5_t_best_bottom : Int64) (y5_t_best_top : Int64) (y5_t_found_places : Nat → Int32) (y5_t_found_sets : Nat → Int32) (y5_t_hasFound : Int32) (y5_t_tried_bottom : Int64) (y5_t_tried_top : Int64), fX7_trySwaps_L5 p1_area p1_community p1_cores p1_districts p1_lengths p1_neighbors p1_outer p1_plan_places p1_plan_sets p1_population p1_tolerance p1_units t_measure n kf y5_3 y5_4 y5_p2_detail y5_p2_reason y5_t_behind_places y5_t_behind_sets y5_t_best_bottom y5_t_best_top y5_t_found_places y5_t_found_sets y5_t_hasFound y5_t_tried_bottom y5_t_tried_top = some r → (∀ (z5_3 : Int32) (z5_p2_detail : Int32) (z5_p2_reason : Int32) (z5_t_behind_places : Nat → Int32) (z5_t_behind_sets : Nat → Int32) (z5_t_best_bottom : Int64) (z5_t_best_top : Int64) (z5_t_found_places : Nat → Int32) (z5_t_found_sets : Nat → Int32) (z5_t_hasFound : Int32) (z5_t_tried_bottom : Int64) (z5_t_tried_top : Int64) (H : Heap) (locs : List Loc) (ls : Array Slot), kf z5_3 z5_p2_detail z5_p2_reason z5_t_behind_places z5_t_behind_sets z5_t_best_bottom z5_t_best_top z5_t_found_places z5_t_found_sets z5_t_hasFound z5_t_tried_bottom z5_t_tried_top = some r → HOK D A s.heap [(a_t, .inr (6, [.ref a_t_found, .int z5_t_hasFound, .int t_measure, .ref a_t_behind, .ref a_t_best, .ref a_t_tried])), (a_p1, .inr (8, [.int p1_units, .ref a_p1_population, .ref a_p1_area, .ref a_p1_community, .ref a_p1_outer, .ref a_p1_neighbors, .ref a_p1_lengths, .int p1_cores, .int p1_districts, .int p1_tolerance, v_p1_hasPlan, .ref a_p1_plan])), (a_p1_plan, .inr (4, [.ref a_p1_plan_places, .ref a_p1_plan_sets])), (a_p1_plan_places, .inl (k 0, 12, .inl p1_plan_places)), (a_p2, .inr (3, [.int z5_p2_reason, .int z5_p2_detail])), (a_p1_neighbors, .inl (k 0, 12, .inl p1_neighbors)), (a_p1_plan_sets, .inl (k 0, 4, .inl p1_plan_sets)), (a_t_behind, .inr (4, [.ref a_t_behind_places, .ref a_t_behind_sets])), (a_t_behind_places, .inl (k 0, 12, .inl z5_t_behind_places)), (a_t_behind_sets, .inl (k 0, 4, .inl z5_t_behind_sets)), (a_p1_community, .inl (k 0, 12, .inl p1_community)), (a_p1_population, .inl (k 0, 12, .inl p1_population)), (a_p1_outer, .inl (k 0, 12, .inl p1_outer)), (a_p1_lengths, .inl (k 0, 144, .inl p1_lengths)), (a_p1_area, .inl (k 0, 12, .inl p1_area)), (a_t_tried, .inr (1, [.long z5_t_tried_top, .long z5_t_tried_bottom])), (a_t_best, .inr (1, [.long z5_t_best_top, .long z5_t_best_bottom])), (a_t_found, .inr (4, [.ref a_t_found_places, .ref a_t_found_sets])), (a_t_found_places, .inl (k 0, 12, .inl z5_t_found_places)), (a_t_found_sets, .inl (k 0, 4, .inl z5_t_found_sets))] H locs → lv_has ls 6 [(3, .int z5_3)] → W p l e ({ frames := 5, cells := 0, slots := 0, locals := 155 } : Room) s m (List.toArray [.ref a_t, .ref a_p1, .ref a_p2]) below meth c H locs 0 0 Q (F0 m 88 ls [])) → ∀ (H : Heap) (locs : List Loc) (ls : Array Slot), HOK D A s.heap [(a_t, .inr (6, [.ref a_t_found, .int y5_t_hasFound, .int t_measure, .ref a_t_behind, .ref a_t_best, .ref a_t_tried])), (a_p1, .inr (8, [.int p1_units, .ref a_p1_population, .ref a_p1_area, .ref a_p1_community, .ref a_p1_outer, .ref a_p1_neighbors, .ref a_p1_lengths, .int p1_cores, .int p1_districts, .int p1_tolerance, v_p1_hasPlan, .ref a_p1_plan])), (a_p1_plan, .inr (4, [.ref a_p1_plan_places, .ref a_p1_plan_sets])), (a_p1_plan_places, .inl (k 0, 12, .inl p1_plan_places)), (a_p2, .inr (3, [.int y5_p2_reason, .int y5_p2_detail])), (a_p1_neighbors, .inl (k 0, 12, .inl p1_neighbors)), (a_p1_plan_sets, .inl (k 0, 4, .inl p1_plan_sets)), (a_t_behind, .inr (4, [.ref a_t_behind_places, .ref a_t_behind_sets])), (a_t_behind_places, .inl (k 0, 12, .inl y5_t_behind_places)), (a_t_behind_sets, .inl (k 0, 4, .inl y5_t_behind_sets)), (a_p1_community, .inl (k 0, 12, .inl p1_community)), (a_p1_population, .inl (k 0, 12, .inl p1_population)), (a_p1_outer, .inl (k 0, 12, .inl p1_outer)), (a_p1_lengths, .inl (k 0, 144, .inl p1_lengths)), (a_p1_area, .inl (k 0, 12, .inl p1_area)), (a_t_tried, .inr (1, [.long y5_t_tried_top, .long y5_t_tried_bottom])), (a_t_best, .inr (1, [.long y5_t_best_top, .long y5_t_best_bottom])), (a_t_found, .inr (4, [.ref a_t_found_places, .ref a_t_found_sets])), (a_t_found_places, .inl (k 0, 12, .inl y5_t_found_places)), (a_t_found_sets, .inl (k 0, 4, .inl y5_t_found_sets))] H locs → lv_has ls 6 [(0, .ref a_t), (1, .ref a_p1), (2, .ref a_p2), (3, .int y5_3), (4, .int y5_4)] → W p l e ({ frames := 5, cells := 0, slots := 0, locals := 155 } : Room) s m (List.toArray [.ref a_t, .ref a_p1, .ref a_p2]) below meth c H locs 0 0 Q (F0 m 5 ls []) := by
    intro n
    induction n with
    | zero =>
      intro kf y5_3 y5_4 y5_p2_detail y5_p2_reason y5_t_behind_places y5_t_behind_sets y5_t_best_bottom y5_t_best_top y5_t_found_places y5_t_found_sets y5_t_hasFound y5_t_tried_bottom y5_t_tried_top h
      exact absurd h (by rw [fX7_trySwaps_L5]; exact fun q => by cases q)
    | succ n ih =>
      intro kf y5_3 y5_4 y5_p2_detail y5_p2_reason y5_t_behind_places y5_t_behind_sets y5_t_best_bottom y5_t_best_top y5_t_found_places y5_t_found_sets y5_t_hasFound y5_t_tried_bottom y5_t_tried_top h kk H locs ls hH hl
      rw [fX7_trySwaps_L5] at h
      refine lv_iload hx hb dX7_trySwaps_5 (lv_at hl 4 rfl) ?_
      refine lv_aload_n hx hb dX7_trySwaps_7 rfl (lv_at hl 1 rfl) ?_
      refine gk_get (ci := 8) (C := RX9) (T := TX9) (N := 12) hx hb hts u_ws_X9 hown hK hH 1 rfl rfl 0 (by decide) u_fl_X7_50 rfl dX7_trySwaps_8 ?_
      refine lv_icmp_ge (tgt := 88) hx hb dX7_trySwaps_11 (by decide) (fun c1 => ?_) (fun c1 => ?_)
      · replace h := dc_pos c1 h
        exact kk y5_3 y5_p2_detail y5_p2_reason y5_t_behind_places y5_t_behind_sets y5_t_best_bottom y5_t_best_top y5_t_found_places y5_t_found_sets y5_t_hasFound y5_t_tried_bottom y5_t_tried_top H locs ls h hH (lv_sub hl [3] rfl)
      · replace h := dc_neg c1 h
        refine lv_iload hx hb dX7_trySwaps_14 (lv_at hl 4 rfl) ?_
        refine lv_iconst (v := 1) hx hb dX7_trySwaps_16 (by decide) ?_
        refine lv_iadd hx hb dX7_trySwaps_17 ?_
        refine lv_istore (lv' := [(5, .int (y5_4 + (1 : Int32))), (0, .ref a_t), (1, .ref a_p1), (2, .ref a_p2), (3, .int y5_3), (4, .int y5_4)]) hx hb dX7_trySwaps_18 hl (by decide) rfl (fun ls hl => ?_)
        refine L20 y5_4 _ _ y5_3 (y5_4 + (1 : Int32)) y5_p2_detail y5_p2_reason y5_t_behind_places y5_t_behind_sets y5_t_best_bottom y5_t_best_top y5_t_found_places y5_t_found_sets y5_t_hasFound y5_t_tried_bottom y5_t_tried_top h (fun z20_3 z20_p2_detail z20_p2_reason z20_t_behind_places z20_t_behind_sets z20_t_best_bottom z20_t_best_top z20_t_found_places z20_t_found_sets z20_t_hasFound z20_t_tried_bottom z20_t_tried_top H locs ls h hH hl => ?_) H locs ls hH (lv_sub hl [1, 2, 3, 4, 5, 0] rfl)
        refine lv_iinc (v := (y5_4 + (1 : Int32))) (lv' := [(4, .int (y5_4 + (1 : Int32))), (0, .ref a_t), (1, .ref a_p1), (2, .ref a_p2), (3, .int z20_3)]) hx hb dX7_trySwaps_82 hl (k := 4) rfl rfl (by decide) rfl (fun ls hl => ?_)
        refine lv_goto (tgt := 5) hx hb dX7_trySwaps_85 (by decide) ?_
        exact ih kf z20_3 (y5_4 + (1 : Int32)) z20_p2_detail z20_p2_reason z20_t_behind_places z20_t_behind_sets z20_t_best_bottom z20_t_best_top z20_t_found_places z20_t_found_sets z20_t_hasFound z20_t_tried_bottom z20_t_tried_top h kk H locs ls hH (lv_sub hl [1, 2, 3, 4, 0] rfl)
  rw [fX7_trySwaps] at h
  refine lv_iconst (v := 0) hx hb dX7_trySwaps_0 (by decide) ?_
  refine lv_istore_n (lv' := [(3, .int (0 : Int32)), (0, .ref a_t), (1, .ref a_p1), (2, .ref a_p2)]) hx hb dX7_trySwaps_1 rfl hl (by decide) rfl (fun ls hl => ?_)
  refine lv_iconst (v := 0) hx hb dX7_trySwaps_2 (by decide) ?_
  refine lv_istore (lv' := [(4, .int (0 : Int32)), (3, .int (0 : Int32)), (0, .ref a_t), (1, .ref a_p1), (2, .ref a_p2)]) hx hb dX7_trySwaps_3 hl (by decide) rfl (fun ls hl => ?_)
  refine L5 _ _ (0 : Int32) (0 : Int32) p2_detail p2_reason t_behind_places t_behind_sets t_best_bottom t_best_top t_found_places t_found_sets t_hasFound t_tried_bottom t_tried_top h (fun z5_3 z5_p2_detail z5_p2_reason z5_t_behind_places z5_t_behind_sets z5_t_best_bottom z5_t_best_top z5_t_found_places z5_t_found_sets z5_t_hasFound z5_t_tried_bottom z5_t_tried_top H locs ls h hH hl => ?_) H locs ls hH (lv_sub hl [2, 3, 4, 1, 0] rfl)
  refine lv_iload_n hx hb dX7_trySwaps_88 rfl (lv_at hl 0 rfl) ?_
  have h := Option.some.inj h
  subst h
  exact ge_i hx hb hr hlocks hQ hK hH hAe rfl dX7_trySwaps_89
theorem hd_X8_begin : yX8_begin.cls = RX8 ∧ yX8_begin.cls ≠ "java/lang/invoke/MethodHandle" ∧ yX8_begin.cls ≠ "java/lang/invoke/VarHandle" ∧ (parseMethodDescriptor yX8_begin.desc).map (fun d => d.parameters.length) = some 2 := by decide +kernel
set_option maxHeartbeats 4000000 in
set_option maxRecDepth 100000 in
theorem mX8_begin (l : Launch) (Ts : List Cond) (hTs : ∀ w, w ∈ Ts ↔ w ∈ uT) (D : va_G) (k : Nat → ClassId) (sz : Nat) (a_p1 : Nat) (a_t : Nat) (a_t_text : Nat) (p1 : Nat → Int32) (v_t_at : Value) (v_t_first : Value) (v_t_isCore : Value) (v_t_kind : Value) (v_t_length : Value) (v_t_number : Value) (v_t_second : Value) (v_t_third : Value) (x2 : Int32) (r : Int32 × Int32) (h : fX8_begin x2 = some r) : Met l yX8_begin (Cond.code yX8_begin cX8_begin 3 none :: Ts) ({ frames := 1, cells := 0, slots := 0, locals := 64 } : Room) (preM D k [.ref a_t, .ref a_p1, .int x2] [(a_t, .inr (7, [.ref a_t_text, v_t_length, v_t_at, v_t_number, v_t_kind, v_t_first, v_t_second, v_t_third, v_t_isCore])), (a_p1, .inl (k 1, 80, .inl p1))] sz) (postV D k [(a_t, .inr (7, [.ref a_t_text, v_t_length, v_t_at, v_t_number, v_t_kind, v_t_first, v_t_second, v_t_third, v_t_isCore])), (a_p1, .inl (k 1, 80, .inl p1))] [(a_t, .inr (7, [.ref a_p1, .int r.2, .int r.1, v_t_number, v_t_kind, v_t_first, v_t_second, v_t_third, v_t_isCore])), (a_p1, .inl (k 1, 80, .inl p1))] sz) 0 0 (va_A [(a_t, .inr (7, [.ref a_t_text, v_t_length, v_t_at, v_t_number, v_t_kind, v_t_first, v_t_second, v_t_third, v_t_isCore])), (a_p1, .inl (k 1, 80, .inl p1))] sz) := by
  refine Met.ofW (cc := cX8_begin) (maxL := 3) (ret := none) (by decide) rfl ?_
  intro p e s m args below meth c s₁ B hml hv
  obtain ⟨rfl, hsz, hP, hK, hD0⟩ := hv
  have hx := B.exec
  have hb := B.bytes
  have hr := B.returns
  have hts0 := atoms_spec (ws := (Cond.code yX8_begin cX8_begin 3 none :: Ts)) B.pre
  have hts : ∀ w ∈ uT, w.before _ s = true := fun w h => hts0 w (List.mem_cons_of_mem _ ((hTs w).mpr h))
  clear hts0
  have hown : s.vm.findClass RX8 = some m.cls := findClass_of_methodNamed B.named
  have hlocks := B.notSynchronized
  subst hsz
  have hD := hD0.self (sz := s.heap.size)
  generalize hAe : va_A [(a_t, .inr (7, [.ref a_t_text, v_t_length, v_t_at, v_t_number, v_t_kind, v_t_first, v_t_second, v_t_third, v_t_isCore])), (a_p1, .inl (k 1, 80, .inl p1))] s.heap.size = A at hD ⊢
  have hA : ∀ q : Nat, s.heap.size ≤ q → A q := fun q h => by rw [← hAe]; exact Or.inr h
  have hH : HOK D A s.heap [(a_t, .inr (7, [.ref a_t_text, v_t_length, v_t_at, v_t_number, v_t_kind, v_t_first, v_t_second, v_t_third, v_t_isCore])), (a_p1, .inl (k 1, 80, .inl p1))] s.heap [] := ⟨hP, hD, va_S.rf⟩
  have hl := lv_entry ([.ref a_t, .ref a_p1, .int x2]) (n := 3) (Nat.le_of_ble_eq_true rfl)
  rw [lg_entry_eq]
  generalize (lg_sl ([.ref a_t, .ref a_p1, .int x2]) ++ List.replicate (3 - (lg_sl ([.ref a_t, .ref a_p1, .int x2])).length) Slot.unset).toArray = ls at hl ⊢
  have hl : lv_has ls 3 [(0, .ref a_t), (1, .ref a_p1), (2, .int x2)] := hl
  generalize hQ : MQ below (postV D k [(a_t, .inr (7, [.ref a_t_text, v_t_length, v_t_at, v_t_number, v_t_kind, v_t_first, v_t_second, v_t_third, v_t_isCore])), (a_p1, .inl (k 1, 80, .inl p1))] [(a_t, .inr (7, [.ref a_p1, .int r.2, .int r.1, v_t_number, v_t_kind, v_t_first, v_t_second, v_t_third, v_t_isCore])), (a_p1, .inl (k 1, 80, .inl p1))] s.heap.size) (List.toArray [.ref a_t, .ref a_p1, .int x2]) s 0 0 A = Q
  clear hP hD hD0
  suffices K : ∀ (H : Heap) (locs : List Loc), HOK D A s.heap [(a_t, .inr (7, [.ref a_t_text, v_t_length, v_t_at, v_t_number, v_t_kind, v_t_first, v_t_second, v_t_third, v_t_isCore])), (a_p1, .inl (k 1, 80, .inl p1))] H locs → W p l e ({ frames := 1, cells := 0, slots := 0, locals := 64 } : Room) s m (List.toArray [.ref a_t, .ref a_p1, .int x2]) below meth c H locs 0 0 Q (F0 m 0 ls []) from K s.heap [] hH
  intro H locs hH
  rw [fX8_begin] at h
  refine lv_aload_n hx hb dX8_begin_0 rfl (lv_at hl 0 rfl) ?_
  refine lv_aload_n hx hb dX8_begin_1 rfl (lv_at hl 1 rfl) ?_
  refine gk_put (ci := 7) (C := RX8) (T := TX8) (N := 9) hx hb hts u_ws_X8 tyX8_ok nmX8 hown hK hH 0 rfl rfl 0 (by decide) u_fl_X8_9 rfl rfl rfl (Nat.le_of_ble_eq_true rfl) dX8_begin_2 [(a_t, .inr (7, [.ref a_p1, v_t_length, v_t_at, v_t_number, v_t_kind, v_t_first, v_t_second, v_t_third, v_t_isCore])), (a_p1, .inl (k 1, 80, .inl p1))] rfl (fun H locs hH => ?_)
  refine lv_aload_n hx hb dX8_begin_5 rfl (lv_at hl 0 rfl) ?_
  refine lv_iload_n hx hb dX8_begin_6 rfl (lv_at hl 2 rfl) ?_
  refine lv_aload_n hx hb dX8_begin_7 rfl (lv_at hl 1 rfl) ?_
  refine gk_alen hx hb hK hH 1 1 (v := (80 : Int32)) rfl rfl rfl dX8_begin_8 ?_
  refine va_mmin hx hb (hml.trans hl.1.symm) hown (hts _ u_ml_X8_57) (hts _ u_st_J9_min_7cf53) (hts _ u_in_J9) (hts _ u_co_Math_min) (Nat.le_of_ble_eq_true rfl) (Nat.le_of_ble_eq_true rfl) (Nat.le_of_ble_eq_true rfl) (Nat.le_of_ble_eq_true rfl) dX8_begin_9 ?_
  refine gk_put (ci := 7) (C := RX8) (T := TX8) (N := 9) hx hb hts u_ws_X8 tyX8_ok nmX8 hown hK hH 0 rfl rfl 1 (by decide) u_fl_X8_15 rfl rfl rfl (Nat.le_of_ble_eq_true rfl) dX8_begin_12 [(a_t, .inr (7, [.ref a_p1, .int (if (80 : Int32) < x2 then (80 : Int32) else x2), v_t_at, v_t_number, v_t_kind, v_t_first, v_t_second, v_t_third, v_t_isCore])), (a_p1, .inl (k 1, 80, .inl p1))] rfl (fun H locs hH => ?_)
  refine lv_aload_n hx hb dX8_begin_15 rfl (lv_at hl 0 rfl) ?_
  refine lv_iconst (v := 0) hx hb dX8_begin_16 (by decide) ?_
  refine gk_put (ci := 7) (C := RX8) (T := TX8) (N := 9) hx hb hts u_ws_X8 tyX8_ok nmX8 hown hK hH 0 rfl rfl 2 (by decide) u_fl_X8_19 rfl rfl rfl (Nat.le_of_ble_eq_true rfl) dX8_begin_17 [(a_t, .inr (7, [.ref a_p1, .int (if (80 : Int32) < x2 then (80 : Int32) else x2), .int (0 : Int32), v_t_number, v_t_kind, v_t_first, v_t_second, v_t_third, v_t_isCore])), (a_p1, .inl (k 1, 80, .inl p1))] rfl (fun H locs hH => ?_)
  have h := Option.some.inj h
  subst h
  exact ge_v hx hb hr hlocks hQ hK hH hAe dX8_begin_20
theorem hd_X8_take : yX8_take.cls = RX8 ∧ yX8_take.cls ≠ "java/lang/invoke/MethodHandle" ∧ yX8_take.cls ≠ "java/lang/invoke/VarHandle" ∧ (parseMethodDescriptor yX8_take.desc).map (fun d => d.parameters.length) = some 1 := by decide +kernel
set_option maxHeartbeats 4000000 in
set_option maxRecDepth 100000 in
theorem mX8_take (l : Launch) (Ts : List Cond) (hTs : ∀ w, w ∈ Ts ↔ w ∈ uT) (D : va_G) (k : Nat → ClassId) (sz : Nat) (a_t : Nat) (a_t_text : Nat) (t_at : Int32) (t_length : Int32) (t_text : Nat → Int32) (v_t_first : Value) (v_t_isCore : Value) (v_t_kind : Value) (v_t_number : Value) (v_t_second : Value) (v_t_third : Value) (x1 : Int32) (r : Int32 × Int32) (h : fX8_take t_at t_length t_text x1 = some r) : Met l yX8_take (Cond.code yX8_take cX8_take 2 (some .boolean) :: Ts) ({ frames := 0, cells := 0, slots := 0, locals := 0 } : Room) (preM D k [.ref a_t, .int x1] [(a_t, .inr (7, [.ref a_t_text, .int t_length, .int t_at, v_t_number, v_t_kind, v_t_first, v_t_second, v_t_third, v_t_isCore])), (a_t_text, .inl (k 1, 80, .inl t_text))] sz) (postI D k r.1 [(a_t, .inr (7, [.ref a_t_text, .int t_length, .int t_at, v_t_number, v_t_kind, v_t_first, v_t_second, v_t_third, v_t_isCore])), (a_t_text, .inl (k 1, 80, .inl t_text))] [(a_t, .inr (7, [.ref a_t_text, .int t_length, .int r.2, v_t_number, v_t_kind, v_t_first, v_t_second, v_t_third, v_t_isCore])), (a_t_text, .inl (k 1, 80, .inl t_text))] sz) 0 0 (va_A [(a_t, .inr (7, [.ref a_t_text, .int t_length, .int t_at, v_t_number, v_t_kind, v_t_first, v_t_second, v_t_third, v_t_isCore])), (a_t_text, .inl (k 1, 80, .inl t_text))] sz) := by
  refine Met.ofW (cc := cX8_take) (maxL := 2) (ret := (some .boolean)) (by decide) rfl ?_
  intro p e s m args below meth c s₁ B hml hv
  obtain ⟨rfl, hsz, hP, hK, hD0⟩ := hv
  have hx := B.exec
  have hb := B.bytes
  have hr := B.returns
  have hts0 := atoms_spec (ws := (Cond.code yX8_take cX8_take 2 (some .boolean) :: Ts)) B.pre
  have hts : ∀ w ∈ uT, w.before _ s = true := fun w h => hts0 w (List.mem_cons_of_mem _ ((hTs w).mpr h))
  clear hts0
  have hown : s.vm.findClass RX8 = some m.cls := findClass_of_methodNamed B.named
  have hlocks := B.notSynchronized
  subst hsz
  have hD := hD0.self (sz := s.heap.size)
  generalize hAe : va_A [(a_t, .inr (7, [.ref a_t_text, .int t_length, .int t_at, v_t_number, v_t_kind, v_t_first, v_t_second, v_t_third, v_t_isCore])), (a_t_text, .inl (k 1, 80, .inl t_text))] s.heap.size = A at hD ⊢
  have hA : ∀ q : Nat, s.heap.size ≤ q → A q := fun q h => by rw [← hAe]; exact Or.inr h
  have hH : HOK D A s.heap [(a_t, .inr (7, [.ref a_t_text, .int t_length, .int t_at, v_t_number, v_t_kind, v_t_first, v_t_second, v_t_third, v_t_isCore])), (a_t_text, .inl (k 1, 80, .inl t_text))] s.heap [] := ⟨hP, hD, va_S.rf⟩
  have hl := lv_entry ([.ref a_t, .int x1]) (n := 2) (Nat.le_of_ble_eq_true rfl)
  rw [lg_entry_eq]
  generalize (lg_sl ([.ref a_t, .int x1]) ++ List.replicate (2 - (lg_sl ([.ref a_t, .int x1])).length) Slot.unset).toArray = ls at hl ⊢
  have hl : lv_has ls 2 [(0, .ref a_t), (1, .int x1)] := hl
  generalize hQ : MQ below (postI D k r.1 [(a_t, .inr (7, [.ref a_t_text, .int t_length, .int t_at, v_t_number, v_t_kind, v_t_first, v_t_second, v_t_third, v_t_isCore])), (a_t_text, .inl (k 1, 80, .inl t_text))] [(a_t, .inr (7, [.ref a_t_text, .int t_length, .int r.2, v_t_number, v_t_kind, v_t_first, v_t_second, v_t_third, v_t_isCore])), (a_t_text, .inl (k 1, 80, .inl t_text))] s.heap.size) (List.toArray [.ref a_t, .int x1]) s 0 0 A = Q
  clear hP hD hD0
  suffices K : ∀ (H : Heap) (locs : List Loc), HOK D A s.heap [(a_t, .inr (7, [.ref a_t_text, .int t_length, .int t_at, v_t_number, v_t_kind, v_t_first, v_t_second, v_t_third, v_t_isCore])), (a_t_text, .inl (k 1, 80, .inl t_text))] H locs → W p l e ({ frames := 0, cells := 0, slots := 0, locals := 0 } : Room) s m (List.toArray [.ref a_t, .int x1]) below meth c H locs 0 0 Q (F0 m 0 ls []) from K s.heap [] hH
  intro H locs hH
  rw [fX8_take] at h
  refine lv_aload_n hx hb dX8_take_0 rfl (lv_at hl 0 rfl) ?_
  refine gk_get (ci := 7) (C := RX8) (T := TX8) (N := 9) hx hb hts u_ws_X8 hown hK hH 0 rfl rfl 2 (by decide) u_fl_X8_19 rfl dX8_take_1 ?_
  refine lv_aload_n hx hb dX8_take_4 rfl (lv_at hl 0 rfl) ?_
  refine gk_get (ci := 7) (C := RX8) (T := TX8) (N := 9) hx hb hts u_ws_X8 hown hK hH 0 rfl rfl 1 (by decide) u_fl_X8_15 rfl dX8_take_5 ?_
  refine lv_icmp_ge (tgt := 24) hx hb dX8_take_8 (by decide) (fun c1 => ?_) (fun c1 => ?_)
  · replace h := dc_pos c1 h
    refine lv_iconst (v := 0) hx hb dX8_take_24 (by decide) ?_
    have h := Option.some.inj h
    subst h
    exact ge_z hx hb hr rfl hlocks hQ hK hH hAe rfl dX8_take_25
  · replace h := dc_neg c1 h
    refine lv_aload_n hx hb dX8_take_11 rfl (lv_at hl 0 rfl) ?_
    refine gk_get (ci := 7) (C := RX8) (T := TX8) (N := 9) hx hb hts u_ws_X8 hown hK hH 0 rfl rfl 0 (by decide) u_fl_X8_9 rfl dX8_take_12 ?_
    refine lv_aload_n hx hb dX8_take_15 rfl (lv_at hl 0 rfl) ?_
    refine gk_get (ci := 7) (C := RX8) (T := TX8) (N := 9) hx hb hts u_ws_X8 hown hK hH 0 rfl rfl 2 (by decide) u_fl_X8_19 rfl dX8_take_16 ?_
    obtain ⟨g2, h⟩ := dc_need h
    refine gk_cald hx hb hK hH 1 rfl (dk_in g2) dX8_take_19 ?_
    refine lv_iload_n hx hb dX8_take_20 rfl (lv_at hl 1 rfl) ?_
    refine lv_icmp_eq (tgt := 26) hx hb dX8_take_21 (by decide) (fun c3 => ?_) (fun c3 => ?_)
    · replace h := dc_pos c3 h
      refine lv_aload_n hx hb dX8_take_26 rfl (lv_at hl 0 rfl) ?_
      refine lv_dup hx hb dX8_take_27 rfl ?_
      refine gk_get (ci := 7) (C := RX8) (T := TX8) (N := 9) hx hb hts u_ws_X8 hown hK hH 0 rfl rfl 2 (by decide) u_fl_X8_19 rfl dX8_take_28 ?_
      refine lv_iconst (v := 1) hx hb dX8_take_31 (by decide) ?_
      refine lv_iadd hx hb dX8_take_32 ?_
      refine gk_put (ci := 7) (C := RX8) (T := TX8) (N := 9) hx hb hts u_ws_X8 tyX8_ok nmX8 hown hK hH 0 rfl rfl 2 (by decide) u_fl_X8_19 rfl rfl rfl (Nat.le_of_ble_eq_true rfl) dX8_take_33 [(a_t, .inr (7, [.ref a_t_text, .int t_length, .int (t_at + (1 : Int32)), v_t_number, v_t_kind, v_t_first, v_t_second, v_t_third, v_t_isCore])), (a_t_text, .inl (k 1, 80, .inl t_text))] rfl (fun H locs hH => ?_)
      refine lv_iconst (v := 1) hx hb dX8_take_36 (by decide) ?_
      have h := Option.some.inj h
      subst h
      exact ge_z hx hb hr rfl hlocks hQ hK hH hAe rfl dX8_take_37
    · replace h := dc_neg c3 h
      refine lv_iconst (v := 0) hx hb dX8_take_24 (by decide) ?_
      have h := Option.some.inj h
      subst h
      exact ge_z hx hb hr rfl hlocks hQ hK hH hAe rfl dX8_take_25
theorem hd_X8_readDigit : yX8_readDigit.cls = RX8 ∧ yX8_readDigit.cls ≠ "java/lang/invoke/MethodHandle" ∧ yX8_readDigit.cls ≠ "java/lang/invoke/VarHandle" ∧ (parseMethodDescriptor yX8_readDigit.desc).map (fun d => d.parameters.length) = some 0 := by decide +kernel
set_option maxHeartbeats 4000000 in
set_option maxRecDepth 100000 in
theorem mX8_readDigit (l : Launch) (Ts : List Cond) (hTs : ∀ w, w ∈ Ts ↔ w ∈ uT) (D : va_G) (k : Nat → ClassId) (sz : Nat) (a_t : Nat) (a_t_text : Nat) (t_at : Int32) (t_length : Int32) (t_number : Int32) (t_text : Nat → Int32) (v_t_first : Value) (v_t_isCore : Value) (v_t_kind : Value) (v_t_second : Value) (v_t_third : Value) (r : Int32 × Int32 × Int32) (h : fX8_readDigit t_at t_length t_number t_text = some r) : Met l yX8_readDigit (Cond.code yX8_readDigit cX8_readDigit 1 (some .boolean) :: Ts) ({ frames := 0, cells := 0, slots := 0, locals := 0 } : Room) (preM D k [.ref a_t] [(a_t, .inr (7, [.ref a_t_text, .int t_length, .int t_at, .int t_number, v_t_kind, v_t_first, v_t_second, v_t_third, v_t_isCore])), (a_t_text, .inl (k 1, 80, .inl t_text))] sz) (postI D k r.1 [(a_t, .inr (7, [.ref a_t_text, .int t_length, .int t_at, .int t_number, v_t_kind, v_t_first, v_t_second, v_t_third, v_t_isCore])), (a_t_text, .inl (k 1, 80, .inl t_text))] [(a_t, .inr (7, [.ref a_t_text, .int t_length, .int r.2.1, .int r.2.2, v_t_kind, v_t_first, v_t_second, v_t_third, v_t_isCore])), (a_t_text, .inl (k 1, 80, .inl t_text))] sz) 0 0 (va_A [(a_t, .inr (7, [.ref a_t_text, .int t_length, .int t_at, .int t_number, v_t_kind, v_t_first, v_t_second, v_t_third, v_t_isCore])), (a_t_text, .inl (k 1, 80, .inl t_text))] sz) := by
  refine Met.ofW (cc := cX8_readDigit) (maxL := 1) (ret := (some .boolean)) (by decide) rfl ?_
  intro p e s m args below meth c s₁ B hml hv
  obtain ⟨rfl, hsz, hP, hK, hD0⟩ := hv
  have hx := B.exec
  have hb := B.bytes
  have hr := B.returns
  have hts0 := atoms_spec (ws := (Cond.code yX8_readDigit cX8_readDigit 1 (some .boolean) :: Ts)) B.pre
  have hts : ∀ w ∈ uT, w.before _ s = true := fun w h => hts0 w (List.mem_cons_of_mem _ ((hTs w).mpr h))
  clear hts0
  have hown : s.vm.findClass RX8 = some m.cls := findClass_of_methodNamed B.named
  have hlocks := B.notSynchronized
  subst hsz
  have hD := hD0.self (sz := s.heap.size)
  generalize hAe : va_A [(a_t, .inr (7, [.ref a_t_text, .int t_length, .int t_at, .int t_number, v_t_kind, v_t_first, v_t_second, v_t_third, v_t_isCore])), (a_t_text, .inl (k 1, 80, .inl t_text))] s.heap.size = A at hD ⊢
  have hA : ∀ q : Nat, s.heap.size ≤ q → A q := fun q h => by rw [← hAe]; exact Or.inr h
  have hH : HOK D A s.heap [(a_t, .inr (7, [.ref a_t_text, .int t_length, .int t_at, .int t_number, v_t_kind, v_t_first, v_t_second, v_t_third, v_t_isCore])), (a_t_text, .inl (k 1, 80, .inl t_text))] s.heap [] := ⟨hP, hD, va_S.rf⟩
  have hl := lv_entry ([.ref a_t]) (n := 1) (Nat.le_of_ble_eq_true rfl)
  rw [lg_entry_eq]
  generalize (lg_sl ([.ref a_t]) ++ List.replicate (1 - (lg_sl ([.ref a_t])).length) Slot.unset).toArray = ls at hl ⊢
  have hl : lv_has ls 1 [(0, .ref a_t)] := hl
  generalize hQ : MQ below (postI D k r.1 [(a_t, .inr (7, [.ref a_t_text, .int t_length, .int t_at, .int t_number, v_t_kind, v_t_first, v_t_second, v_t_third, v_t_isCore])), (a_t_text, .inl (k 1, 80, .inl t_text))] [(a_t, .inr (7, [.ref a_t_text, .int t_length, .int r.2.1, .int r.2.2, v_t_kind, v_t_first, v_t_second, v_t_third, v_t_isCore])), (a_t_text, .inl (k 1, 80, .inl t_text))] s.heap.size) (List.toArray [.ref a_t]) s 0 0 A = Q
  clear hP hD hD0
  suffices K : ∀ (H : Heap) (locs : List Loc), HOK D A s.heap [(a_t, .inr (7, [.ref a_t_text, .int t_length, .int t_at, .int t_number, v_t_kind, v_t_first, v_t_second, v_t_third, v_t_isCore])), (a_t_text, .inl (k 1, 80, .inl t_text))] H locs → W p l e ({ frames := 0, cells := 0, slots := 0, locals := 0 } : Room) s m (List.toArray [.ref a_t]) below meth c H locs 0 0 Q (F0 m 0 ls []) from K s.heap [] hH
  intro H locs hH
  rw [fX8_readDigit] at h
  refine lv_aload_n hx hb dX8_readDigit_0 rfl (lv_at hl 0 rfl) ?_
  refine gk_get (ci := 7) (C := RX8) (T := TX8) (N := 9) hx hb hts u_ws_X8 hown hK hH 0 rfl rfl 2 (by decide) u_fl_X8_19 rfl dX8_readDigit_1 ?_
  refine lv_aload_n hx hb dX8_readDigit_4 rfl (lv_at hl 0 rfl) ?_
  refine gk_get (ci := 7) (C := RX8) (T := TX8) (N := 9) hx hb hts u_ws_X8 hown hK hH 0 rfl rfl 1 (by decide) u_fl_X8_15 rfl dX8_readDigit_5 ?_
  refine lv_icmp_ge (tgt := 39) hx hb dX8_readDigit_8 (by decide) (fun c1 => ?_) (fun c1 => ?_)
  · replace h := dc_pos c1 h
    refine lv_iconst (v := 0) hx hb dX8_readDigit_39 (by decide) ?_
    have h := Option.some.inj h
    subst h
    exact ge_z hx hb hr rfl hlocks hQ hK hH hAe rfl dX8_readDigit_40
  · replace h := dc_neg c1 h
    refine lv_aload_n hx hb dX8_readDigit_11 rfl (lv_at hl 0 rfl) ?_
    refine gk_get (ci := 7) (C := RX8) (T := TX8) (N := 9) hx hb hts u_ws_X8 hown hK hH 0 rfl rfl 0 (by decide) u_fl_X8_9 rfl dX8_readDigit_12 ?_
    refine lv_aload_n hx hb dX8_readDigit_15 rfl (lv_at hl 0 rfl) ?_
    refine gk_get (ci := 7) (C := RX8) (T := TX8) (N := 9) hx hb hts u_ws_X8 hown hK hH 0 rfl rfl 2 (by decide) u_fl_X8_19 rfl dX8_readDigit_16 ?_
    obtain ⟨g2, h⟩ := dc_need h
    refine gk_cald hx hb hK hH 1 rfl (dk_in g2) dX8_readDigit_19 ?_
    refine lv_bipush (v := 48) hx hb dX8_readDigit_20 (by decide) ?_
    refine lv_icmp_lt (tgt := 39) hx hb dX8_readDigit_22 (by decide) (fun c3 => ?_) (fun c3 => ?_)
    · replace h := dc_pos c3 h
      refine lv_iconst (v := 0) hx hb dX8_readDigit_39 (by decide) ?_
      have h := Option.some.inj h
      subst h
      exact ge_z hx hb hr rfl hlocks hQ hK hH hAe rfl dX8_readDigit_40
    · replace h := dc_neg c3 h
      refine lv_aload_n hx hb dX8_readDigit_25 rfl (lv_at hl 0 rfl) ?_
      refine gk_get (ci := 7) (C := RX8) (T := TX8) (N := 9) hx hb hts u_ws_X8 hown hK hH 0 rfl rfl 0 (by decide) u_fl_X8_9 rfl dX8_readDigit_26 ?_
      refine lv_aload_n hx hb dX8_readDigit_29 rfl (lv_at hl 0 rfl) ?_
      refine gk_get (ci := 7) (C := RX8) (T := TX8) (N := 9) hx hb hts u_ws_X8 hown hK hH 0 rfl rfl 2 (by decide) u_fl_X8_19 rfl dX8_readDigit_30 ?_
      obtain ⟨g4, h⟩ := dc_need h
      refine gk_cald hx hb hK hH 1 rfl (dk_in g4) dX8_readDigit_33 ?_
      refine lv_bipush (v := 57) hx hb dX8_readDigit_34 (by decide) ?_
      refine lv_icmp_le (tgt := 41) hx hb dX8_readDigit_36 (by decide) (fun c5 => ?_) (fun c5 => ?_)
      · replace h := dc_pos c5 h
        refine lv_aload_n hx hb dX8_readDigit_41 rfl (lv_at hl 0 rfl) ?_
        refine lv_aload_n hx hb dX8_readDigit_42 rfl (lv_at hl 0 rfl) ?_
        refine gk_get (ci := 7) (C := RX8) (T := TX8) (N := 9) hx hb hts u_ws_X8 hown hK hH 0 rfl rfl 0 (by decide) u_fl_X8_9 rfl dX8_readDigit_43 ?_
        refine lv_aload_n hx hb dX8_readDigit_46 rfl (lv_at hl 0 rfl) ?_
        refine gk_get (ci := 7) (C := RX8) (T := TX8) (N := 9) hx hb hts u_ws_X8 hown hK hH 0 rfl rfl 2 (by decide) u_fl_X8_19 rfl dX8_readDigit_47 ?_
        obtain ⟨g6, h⟩ := dc_need h
        refine gk_cald hx hb hK hH 1 rfl (dk_in g6) dX8_readDigit_50 ?_
        refine lv_bipush (v := 48) hx hb dX8_readDigit_51 (by decide) ?_
        refine lv_isub hx hb dX8_readDigit_53 ?_
        refine gk_put (ci := 7) (C := RX8) (T := TX8) (N := 9) hx hb hts u_ws_X8 tyX8_ok nmX8 hown hK hH 0 rfl rfl 3 (by decide) u_fl_X8_22 rfl rfl rfl (Nat.le_of_ble_eq_true rfl) dX8_readDigit_54 [(a_t, .inr (7, [.ref a_t_text, .int t_length, .int t_at, .int ((t_text t_at.toNatClampNeg) - (48 : Int32)), v_t_kind, v_t_first, v_t_second, v_t_third, v_t_isCore])), (a_t_text, .inl (k 1, 80, .inl t_text))] rfl (fun H locs hH => ?_)
        refine lv_aload_n hx hb dX8_readDigit_57 rfl (lv_at hl 0 rfl) ?_
        refine lv_dup hx hb dX8_readDigit_58 rfl ?_
        refine gk_get (ci := 7) (C := RX8) (T := TX8) (N := 9) hx hb hts u_ws_X8 hown hK hH 0 rfl rfl 2 (by decide) u_fl_X8_19 rfl dX8_readDigit_59 ?_
        refine lv_iconst (v := 1) hx hb dX8_readDigit_62 (by decide) ?_
        refine lv_iadd hx hb dX8_readDigit_63 ?_
        refine gk_put (ci := 7) (C := RX8) (T := TX8) (N := 9) hx hb hts u_ws_X8 tyX8_ok nmX8 hown hK hH 0 rfl rfl 2 (by decide) u_fl_X8_19 rfl rfl rfl (Nat.le_of_ble_eq_true rfl) dX8_readDigit_64 [(a_t, .inr (7, [.ref a_t_text, .int t_length, .int (t_at + (1 : Int32)), .int ((t_text t_at.toNatClampNeg) - (48 : Int32)), v_t_kind, v_t_first, v_t_second, v_t_third, v_t_isCore])), (a_t_text, .inl (k 1, 80, .inl t_text))] rfl (fun H locs hH => ?_)
        refine lv_iconst (v := 1) hx hb dX8_readDigit_67 (by decide) ?_
        have h := Option.some.inj h
        subst h
        exact ge_z hx hb hr rfl hlocks hQ hK hH hAe rfl dX8_readDigit_68
      · replace h := dc_neg c5 h
        refine lv_iconst (v := 0) hx hb dX8_readDigit_39 (by decide) ?_
        have h := Option.some.inj h
        subst h
        exact ge_z hx hb hr rfl hlocks hQ hK hH hAe rfl dX8_readDigit_40
theorem hd_X8_readNumber : yX8_readNumber.cls = RX8 ∧ yX8_readNumber.cls ≠ "java/lang/invoke/MethodHandle" ∧ yX8_readNumber.cls ≠ "java/lang/invoke/VarHandle" ∧ (parseMethodDescriptor yX8_readNumber.desc).map (fun d => d.parameters.length) = some 0 := by decide +kernel
set_option maxHeartbeats 4000000 in
set_option maxRecDepth 100000 in
theorem mX8_readNumber (l : Launch) (Ts : List Cond) (hTs : ∀ w, w ∈ Ts ↔ w ∈ uT) (D : va_G) (k : Nat → ClassId) (sz : Nat) (a_t : Nat) (a_t_text : Nat) (t_at : Int32) (t_length : Int32) (t_number : Int32) (t_text : Nat → Int32) (v_t_first : Value) (v_t_isCore : Value) (v_t_kind : Value) (v_t_second : Value) (v_t_third : Value) (r : Int32 × Int32 × Int32) (h : fX8_readNumber t_at t_length t_number t_text = some r) : Met l yX8_readNumber (Cond.code yX8_readNumber cX8_readNumber 2 (some .boolean) :: Ts) ({ frames := 1, cells := 0, slots := 0, locals := 20 } : Room) (preM D k [.ref a_t] [(a_t, .inr (7, [.ref a_t_text, .int t_length, .int t_at, .int t_number, v_t_kind, v_t_first, v_t_second, v_t_third, v_t_isCore])), (a_t_text, .inl (k 1, 80, .inl t_text))] sz) (postI D k r.1 [(a_t, .inr (7, [.ref a_t_text, .int t_length, .int t_at, .int t_number, v_t_kind, v_t_first, v_t_second, v_t_third, v_t_isCore])), (a_t_text, .inl (k 1, 80, .inl t_text))] [(a_t, .inr (7, [.ref a_t_text, .int t_length, .int r.2.1, .int r.2.2, v_t_kind, v_t_first, v_t_second, v_t_third, v_t_isCore])), (a_t_text, .inl (k 1, 80, .inl t_text))] sz) 0 0 (va_A [(a_t, .inr (7, [.ref a_t_text, .int t_length, .int t_at, .int t_number, v_t_kind, v_t_first, v_t_second, v_t_third, v_t_isCore])), (a_t_text, .inl (k 1, 80, .inl t_text))] sz) := by
  refine Met.ofW (cc := cX8_readNumber) (maxL := 2) (ret := (some .boolean)) (by decide) rfl ?_
  intro p e s m args below meth c s₁ B hml hv
  obtain ⟨rfl, hsz, hP, hK, hD0⟩ := hv
  have hx := B.exec
  have hb := B.bytes
  have hr := B.returns
  have hts0 := atoms_spec (ws := (Cond.code yX8_readNumber cX8_readNumber 2 (some .boolean) :: Ts)) B.pre
  have hts : ∀ w ∈ uT, w.before _ s = true := fun w h => hts0 w (List.mem_cons_of_mem _ ((hTs w).mpr h))
  clear hts0
  have hown : s.vm.findClass RX8 = some m.cls := findClass_of_methodNamed B.named
  have hlocks := B.notSynchronized
  subst hsz
  have hD := hD0.self (sz := s.heap.size)
  generalize hAe : va_A [(a_t, .inr (7, [.ref a_t_text, .int t_length, .int t_at, .int t_number, v_t_kind, v_t_first, v_t_second, v_t_third, v_t_isCore])), (a_t_text, .inl (k 1, 80, .inl t_text))] s.heap.size = A at hD ⊢
  have hA : ∀ q : Nat, s.heap.size ≤ q → A q := fun q h => by rw [← hAe]; exact Or.inr h
  have hH : HOK D A s.heap [(a_t, .inr (7, [.ref a_t_text, .int t_length, .int t_at, .int t_number, v_t_kind, v_t_first, v_t_second, v_t_third, v_t_isCore])), (a_t_text, .inl (k 1, 80, .inl t_text))] s.heap [] := ⟨hP, hD, va_S.rf⟩
  have hl := lv_entry ([.ref a_t]) (n := 2) (Nat.le_of_ble_eq_true rfl)
  rw [lg_entry_eq]
  generalize (lg_sl ([.ref a_t]) ++ List.replicate (2 - (lg_sl ([.ref a_t])).length) Slot.unset).toArray = ls at hl ⊢
  have hl : lv_has ls 2 [(0, .ref a_t)] := hl
  generalize hQ : MQ below (postI D k r.1 [(a_t, .inr (7, [.ref a_t_text, .int t_length, .int t_at, .int t_number, v_t_kind, v_t_first, v_t_second, v_t_third, v_t_isCore])), (a_t_text, .inl (k 1, 80, .inl t_text))] [(a_t, .inr (7, [.ref a_t_text, .int t_length, .int r.2.1, .int r.2.2, v_t_kind, v_t_first, v_t_second, v_t_third, v_t_isCore])), (a_t_text, .inl (k 1, 80, .inl t_text))] s.heap.size) (List.toArray [.ref a_t]) s 0 0 A = Q
  clear hP hD hD0
  suffices K : ∀ (H : Heap) (locs : List Loc), HOK D A s.heap [(a_t, .inr (7, [.ref a_t_text, .int t_length, .int t_at, .int t_number, v_t_kind, v_t_first, v_t_second, v_t_third, v_t_isCore])), (a_t_text, .inl (k 1, 80, .inl t_text))] H locs → W p l e ({ frames := 1, cells := 0, slots := 0, locals := 20 } : Room) s m (List.toArray [.ref a_t]) below meth c H locs 0 0 Q (F0 m 0 ls []) from K s.heap [] hH
  intro H locs hH
  rw [fX8_readNumber] at h
  refine lv_aload_n hx hb dX8_readNumber_0 rfl (lv_at hl 0 rfl) ?_
  obtain ⟨q1, hqq1, h⟩ := dc_bind h
  refine gc_Vi (ws' := [(a_t, .inr (7, [.ref a_t_text, .int t_length, .int q1.2.1, .int q1.2.2, v_t_kind, v_t_first, v_t_second, v_t_third, v_t_isCore])), (a_t_text, .inl (k 1, 80, .inl t_text))]) (As := []) (rest := []) (n := 0) (ci := 7) (cq := (RX8, TX8, 9)) hTs ⟨hx, hb, hml, hown, hts⟩ (mX8_readDigit l Ts hTs D k H.size a_t a_t_text t_at t_length t_number t_text v_t_first v_t_isCore v_t_kind v_t_second v_t_third q1 hqq1) u_ml_X8_89 u_im_X8_readDigit u_se_X8_readDigit u_in_X8 u_co_X8_readDigit hd_X8_readDigit ⟨Nat.le_of_ble_eq_true rfl, Nat.le_of_ble_eq_true rfl⟩ ⟨rfl, rfl⟩ hK hH hA (cutM (isC := [0, 1]) [some 0, some 1] 2 rfl rfl rfl rfl rfl rfl rfl) rfl rfl rfl rfl hl.1 (Nat.le_of_ble_eq_true rfl) dX8_readNumber_1 ⟨Nat.le_of_ble_eq_true rfl, Nat.le_of_ble_eq_true rfl⟩ (fun H locs hH => ?_)
  refine lv_if_ne (tgt := 9) hx hb dX8_readNumber_4 (by decide) (fun c2 => ?_) (fun c2 => ?_)
  · replace h := dc_neg c2 h
    refine lv_aload_n hx hb dX8_readNumber_9 rfl (lv_at hl 0 rfl) ?_
    refine gk_get (ci := 7) (C := RX8) (T := TX8) (N := 9) hx hb hts u_ws_X8 hown hK hH 0 rfl rfl 3 (by decide) u_fl_X8_22 rfl dX8_readNumber_10 ?_
    refine lv_istore_n (lv' := [(1, .int q1.2.2), (0, .ref a_t)]) hx hb dX8_readNumber_13 rfl hl (by decide) rfl (fun ls hl => ?_)
    refine lv_aload_n hx hb dX8_readNumber_14 rfl (lv_at hl 1 rfl) ?_
    obtain ⟨q3, hqq3, h⟩ := dc_bind h
    refine gc_Vi (ws' := [(a_t, .inr (7, [.ref a_t_text, .int t_length, .int q3.2.1, .int q3.2.2, v_t_kind, v_t_first, v_t_second, v_t_third, v_t_isCore])), (a_t_text, .inl (k 1, 80, .inl t_text))]) (As := []) (rest := []) (n := 0) (ci := 7) (cq := (RX8, TX8, 9)) hTs ⟨hx, hb, hml, hown, hts⟩ (mX8_readDigit l Ts hTs D k H.size a_t a_t_text q1.2.1 t_length q1.2.2 t_text v_t_first v_t_isCore v_t_kind v_t_second v_t_third q3 hqq3) u_ml_X8_89 u_im_X8_readDigit u_se_X8_readDigit u_in_X8 u_co_X8_readDigit hd_X8_readDigit ⟨Nat.le_of_ble_eq_true rfl, Nat.le_of_ble_eq_true rfl⟩ ⟨rfl, rfl⟩ hK hH hA (cutM (isC := [0, 1]) [some 0, some 1] 2 rfl rfl rfl rfl rfl rfl rfl) rfl rfl rfl rfl hl.1 (Nat.le_of_ble_eq_true rfl) dX8_readNumber_15 ⟨Nat.le_of_ble_eq_true rfl, Nat.le_of_ble_eq_true rfl⟩ (fun H locs hH => ?_)
    refine lv_if_eq (tgt := 34) hx hb dX8_readNumber_18 (by decide) (fun c4 => ?_) (fun c4 => ?_)
    · replace h := dc_pos c4 h
      refine lv_iconst (v := 1) hx hb dX8_readNumber_34 (by decide) ?_
      have h := Option.some.inj h
      subst h
      exact ge_z hx hb hr rfl hlocks hQ hK hH hAe rfl dX8_readNumber_35
    · replace h := dc_neg c4 h
      refine lv_aload_n hx hb dX8_readNumber_21 rfl (lv_at hl 1 rfl) ?_
      refine lv_dup hx hb dX8_readNumber_22 rfl ?_
      refine gk_get (ci := 7) (C := RX8) (T := TX8) (N := 9) hx hb hts u_ws_X8 hown hK hH 0 rfl rfl 3 (by decide) u_fl_X8_22 rfl dX8_readNumber_23 ?_
      refine lv_bipush (v := 10) hx hb dX8_readNumber_26 (by decide) ?_
      refine lv_iload_n hx hb dX8_readNumber_28 rfl (lv_at hl 0 rfl) ?_
      refine lv_imul hx hb dX8_readNumber_29 ?_
      refine lv_iadd hx hb dX8_readNumber_30 ?_
      refine gk_put (ci := 7) (C := RX8) (T := TX8) (N := 9) hx hb hts u_ws_X8 tyX8_ok nmX8 hown hK hH 0 rfl rfl 3 (by decide) u_fl_X8_22 rfl rfl rfl (Nat.le_of_ble_eq_true rfl) dX8_readNumber_31 [(a_t, .inr (7, [.ref a_t_text, .int t_length, .int q3.2.1, .int (q3.2.2 + ((10 : Int32) * q1.2.2)), v_t_kind, v_t_first, v_t_second, v_t_third, v_t_isCore])), (a_t_text, .inl (k 1, 80, .inl t_text))] rfl (fun H locs hH => ?_)
      refine lv_iconst (v := 1) hx hb dX8_readNumber_34 (by decide) ?_
      have h := Option.some.inj h
      subst h
      exact ge_z hx hb hr rfl hlocks hQ hK hH hAe rfl dX8_readNumber_35
  · replace h := dc_pos c2 h
    refine lv_iconst (v := 0) hx hb dX8_readNumber_7 (by decide) ?_
    have h := Option.some.inj h
    subst h
    exact ge_z hx hb hr rfl hlocks hQ hK hH hAe rfl dX8_readNumber_8
theorem hd_X8_readUnit : yX8_readUnit.cls = RX8 ∧ yX8_readUnit.cls ≠ "java/lang/invoke/MethodHandle" ∧ yX8_readUnit.cls ≠ "java/lang/invoke/VarHandle" ∧ (parseMethodDescriptor yX8_readUnit.desc).map (fun d => d.parameters.length) = some 0 := by decide +kernel
set_option maxHeartbeats 4000000 in
set_option maxRecDepth 100000 in
theorem mX8_readUnit (l : Launch) (Ts : List Cond) (hTs : ∀ w, w ∈ Ts ↔ w ∈ uT) (D : va_G) (k : Nat → ClassId) (sz : Nat) (a_t : Nat) (a_t_text : Nat) (t_at : Int32) (t_first : Int32) (t_length : Int32) (t_number : Int32) (t_second : Int32) (t_text : Nat → Int32) (v_t_isCore : Value) (v_t_kind : Value) (v_t_third : Value) (r : Int32 × Int32 × Int32 × Int32 × Int32 × Int32 × Int32) (h : fX8_readUnit t_at t_first t_length t_number t_second t_text = some r) : Met l yX8_readUnit (Cond.code yX8_readUnit cX8_readUnit 1 (some .boolean) :: Ts) ({ frames := 2, cells := 0, slots := 0, locals := 41 } : Room) (preM D k [.ref a_t] [(a_t, .inr (7, [.ref a_t_text, .int t_length, .int t_at, .int t_number, v_t_kind, .int t_first, .int t_second, v_t_third, v_t_isCore])), (a_t_text, .inl (k 1, 80, .inl t_text))] sz) (postI D k r.1 [(a_t, .inr (7, [.ref a_t_text, .int t_length, .int t_at, .int t_number, v_t_kind, .int t_first, .int t_second, v_t_third, v_t_isCore])), (a_t_text, .inl (k 1, 80, .inl t_text))] [(a_t, .inr (7, [.ref a_t_text, .int t_length, .int r.2.1, .int r.2.2.2.2.1, v_t_kind, .int r.2.2.1, .int r.2.2.2.2.2.1, .int r.2.2.2.2.2.2, .int r.2.2.2.1])), (a_t_text, .inl (k 1, 80, .inl t_text))] sz) 0 0 (va_A [(a_t, .inr (7, [.ref a_t_text, .int t_length, .int t_at, .int t_number, v_t_kind, .int t_first, .int t_second, v_t_third, v_t_isCore])), (a_t_text, .inl (k 1, 80, .inl t_text))] sz) := by
  refine Met.ofW (cc := cX8_readUnit) (maxL := 1) (ret := (some .boolean)) (by decide) rfl ?_
  intro p e s m args below meth c s₁ B hml hv
  obtain ⟨rfl, hsz, hP, hK, hD0⟩ := hv
  have hx := B.exec
  have hb := B.bytes
  have hr := B.returns
  have hts0 := atoms_spec (ws := (Cond.code yX8_readUnit cX8_readUnit 1 (some .boolean) :: Ts)) B.pre
  have hts : ∀ w ∈ uT, w.before _ s = true := fun w h => hts0 w (List.mem_cons_of_mem _ ((hTs w).mpr h))
  clear hts0
  have hown : s.vm.findClass RX8 = some m.cls := findClass_of_methodNamed B.named
  have hlocks := B.notSynchronized
  subst hsz
  have hD := hD0.self (sz := s.heap.size)
  generalize hAe : va_A [(a_t, .inr (7, [.ref a_t_text, .int t_length, .int t_at, .int t_number, v_t_kind, .int t_first, .int t_second, v_t_third, v_t_isCore])), (a_t_text, .inl (k 1, 80, .inl t_text))] s.heap.size = A at hD ⊢
  have hA : ∀ q : Nat, s.heap.size ≤ q → A q := fun q h => by rw [← hAe]; exact Or.inr h
  have hH : HOK D A s.heap [(a_t, .inr (7, [.ref a_t_text, .int t_length, .int t_at, .int t_number, v_t_kind, .int t_first, .int t_second, v_t_third, v_t_isCore])), (a_t_text, .inl (k 1, 80, .inl t_text))] s.heap [] := ⟨hP, hD, va_S.rf⟩
  have hl := lv_entry ([.ref a_t]) (n := 1) (Nat.le_of_ble_eq_true rfl)
  rw [lg_entry_eq]
  generalize (lg_sl ([.ref a_t]) ++ List.replicate (1 - (lg_sl ([.ref a_t])).length) Slot.unset).toArray = ls at hl ⊢
  have hl : lv_has ls 1 [(0, .ref a_t)] := hl
  generalize hQ : MQ below (postI D k r.1 [(a_t, .inr (7, [.ref a_t_text, .int t_length, .int t_at, .int t_number, v_t_kind, .int t_first, .int t_second, v_t_third, v_t_isCore])), (a_t_text, .inl (k 1, 80, .inl t_text))] [(a_t, .inr (7, [.ref a_t_text, .int t_length, .int r.2.1, .int r.2.2.2.2.1, v_t_kind, .int r.2.2.1, .int r.2.2.2.2.2.1, .int r.2.2.2.2.2.2, .int r.2.2.2.1])), (a_t_text, .inl (k 1, 80, .inl t_text))] s.heap.size) (List.toArray [.ref a_t]) s 0 0 A = Q
  clear hP hD hD0
  suffices K : ∀ (H : Heap) (locs : List Loc), HOK D A s.heap [(a_t, .inr (7, [.ref a_t_text, .int t_length, .int t_at, .int t_number, v_t_kind, .int t_first, .int t_second, v_t_third, v_t_isCore])), (a_t_text, .inl (k 1, 80, .inl t_text))] H locs → W p l e ({ frames := 2, cells := 0, slots := 0, locals := 41 } : Room) s m (List.toArray [.ref a_t]) below meth c H locs 0 0 Q (F0 m 0 ls []) from K s.heap [] hH
  intro H locs hH
  rw [fX8_readUnit] at h
  refine lv_aload_n hx hb dX8_readUnit_0 rfl (lv_at hl 0 rfl) ?_
  refine lv_iconst (v := -1) hx hb dX8_readUnit_1 (by decide) ?_
  refine gk_put (ci := 7) (C := RX8) (T := TX8) (N := 9) hx hb hts u_ws_X8 tyX8_ok nmX8 hown hK hH 0 rfl rfl 7 (by decide) u_fl_X8_34 rfl rfl rfl (Nat.le_of_ble_eq_true rfl) dX8_readUnit_2 [(a_t, .inr (7, [.ref a_t_text, .int t_length, .int t_at, .int t_number, v_t_kind, .int t_first, .int t_second, .int (-1 : Int32), v_t_isCore])), (a_t_text, .inl (k 1, 80, .inl t_text))] rfl (fun H locs hH => ?_)
  refine lv_aload_n hx hb dX8_readUnit_5 rfl (lv_at hl 0 rfl) ?_
  refine lv_iconst (v := 0) hx hb dX8_readUnit_6 (by decide) ?_
  refine gk_put (ci := 7) (C := RX8) (T := TX8) (N := 9) hx hb hts u_ws_X8 tyX8_ok nmX8 hown hK hH 0 rfl rfl 8 (by decide) u_fl_X8_37 rfl rfl rfl (Nat.le_of_ble_eq_true rfl) dX8_readUnit_7 [(a_t, .inr (7, [.ref a_t_text, .int t_length, .int t_at, .int t_number, v_t_kind, .int t_first, .int t_second, .int (-1 : Int32), .int (0 : Int32)])), (a_t_text, .inl (k 1, 80, .inl t_text))] rfl (fun H locs hH => ?_)
  refine lv_aload_n hx hb dX8_readUnit_10 rfl (lv_at hl 0 rfl) ?_
  obtain ⟨q1, hqq1, h⟩ := dc_bind h
  refine gc_Vi (ws' := [(a_t, .inr (7, [.ref a_t_text, .int t_length, .int q1.2.1, .int q1.2.2, v_t_kind, .int t_first, .int t_second, .int (-1 : Int32), .int (0 : Int32)])), (a_t_text, .inl (k 1, 80, .inl t_text))]) (As := []) (rest := []) (n := 0) (ci := 7) (cq := (RX8, TX8, 9)) hTs ⟨hx, hb, hml, hown, hts⟩ (mX8_readNumber l Ts hTs D k H.size a_t a_t_text t_at t_length t_number t_text (.int t_first) (.int (0 : Int32)) v_t_kind (.int t_second) (.int (-1 : Int32)) q1 hqq1) u_ml_X8_86 u_im_X8_readNumber u_se_X8_readNumber u_in_X8 u_co_X8_readNumber hd_X8_readNumber ⟨Nat.le_of_ble_eq_true rfl, Nat.le_of_ble_eq_true rfl⟩ ⟨rfl, rfl⟩ hK hH hA (cutM (isC := [0, 1]) [some 0, some 1] 2 rfl rfl rfl rfl rfl rfl rfl) rfl rfl rfl rfl hl.1 (Nat.le_of_ble_eq_true rfl) dX8_readUnit_11 ⟨Nat.le_of_ble_eq_true rfl, Nat.le_of_ble_eq_true rfl⟩ (fun H locs hH => ?_)
  refine lv_if_ne (tgt := 19) hx hb dX8_readUnit_14 (by decide) (fun c2 => ?_) (fun c2 => ?_)
  · replace h := dc_neg c2 h
    refine lv_aload_n hx hb dX8_readUnit_19 rfl (lv_at hl 0 rfl) ?_
    refine lv_aload_n hx hb dX8_readUnit_20 rfl (lv_at hl 0 rfl) ?_
    refine gk_get (ci := 7) (C := RX8) (T := TX8) (N := 9) hx hb hts u_ws_X8 hown hK hH 0 rfl rfl 3 (by decide) u_fl_X8_22 rfl dX8_readUnit_21 ?_
    refine gk_put (ci := 7) (C := RX8) (T := TX8) (N := 9) hx hb hts u_ws_X8 tyX8_ok nmX8 hown hK hH 0 rfl rfl 5 (by decide) u_fl_X8_28 rfl rfl rfl (Nat.le_of_ble_eq_true rfl) dX8_readUnit_24 [(a_t, .inr (7, [.ref a_t_text, .int t_length, .int q1.2.1, .int q1.2.2, v_t_kind, .int q1.2.2, .int t_second, .int (-1 : Int32), .int (0 : Int32)])), (a_t_text, .inl (k 1, 80, .inl t_text))] rfl (fun H locs hH => ?_)
    refine lv_aload_n hx hb dX8_readUnit_27 rfl (lv_at hl 0 rfl) ?_
    refine lv_bipush (v := 47) hx hb dX8_readUnit_28 (by decide) ?_
    obtain ⟨q3, hqq3, h⟩ := dc_bind h
    refine gc_Vi (ws' := [(a_t, .inr (7, [.ref a_t_text, .int t_length, .int q3.2, .int q1.2.2, v_t_kind, .int q1.2.2, .int t_second, .int (-1 : Int32), .int (0 : Int32)])), (a_t_text, .inl (k 1, 80, .inl t_text))]) (As := [.int (47 : Int32)]) (rest := []) (n := 1) (ci := 7) (cq := (RX8, TX8, 9)) hTs ⟨hx, hb, hml, hown, hts⟩ (mX8_take l Ts hTs D k H.size a_t a_t_text q1.2.1 t_length t_text (.int q1.2.2) (.int (0 : Int32)) v_t_kind (.int q1.2.2) (.int t_second) (.int (-1 : Int32)) (47 : Int32) q3 hqq3) u_ml_X8_49 u_im_X8_take u_se_X8_take u_in_X8 u_co_X8_take hd_X8_take ⟨Nat.le_of_ble_eq_true rfl, Nat.le_of_ble_eq_true rfl⟩ ⟨rfl, rfl⟩ hK hH hA (cutM (isC := [0, 1]) [some 0, some 1] 2 rfl rfl rfl rfl rfl rfl rfl) rfl rfl rfl rfl hl.1 (Nat.le_of_ble_eq_true rfl) dX8_readUnit_30 ⟨Nat.le_of_ble_eq_true rfl, Nat.le_of_ble_eq_true rfl⟩ (fun H locs hH => ?_)
    refine lv_if_eq (tgt := 43) hx hb dX8_readUnit_33 (by decide) (fun c4 => ?_) (fun c4 => ?_)
    · replace h := dc_pos c4 h
      refine lv_iconst (v := 0) hx hb dX8_readUnit_43 (by decide) ?_
      have h := Option.some.inj h
      subst h
      exact ge_z hx hb hr rfl hlocks hQ hK hH hAe rfl dX8_readUnit_44
    · replace h := dc_neg c4 h
      refine lv_aload_n hx hb dX8_readUnit_36 rfl (lv_at hl 0 rfl) ?_
      obtain ⟨q5, hqq5, h⟩ := dc_bind h
      refine gc_Vi (ws' := [(a_t, .inr (7, [.ref a_t_text, .int t_length, .int q5.2.1, .int q5.2.2, v_t_kind, .int q1.2.2, .int t_second, .int (-1 : Int32), .int (0 : Int32)])), (a_t_text, .inl (k 1, 80, .inl t_text))]) (As := []) (rest := []) (n := 0) (ci := 7) (cq := (RX8, TX8, 9)) hTs ⟨hx, hb, hml, hown, hts⟩ (mX8_readNumber l Ts hTs D k H.size a_t a_t_text q3.2 t_length q1.2.2 t_text (.int q1.2.2) (.int (0 : Int32)) v_t_kind (.int t_second) (.int (-1 : Int32)) q5 hqq5) u_ml_X8_86 u_im_X8_readNumber u_se_X8_readNumber u_in_X8 u_co_X8_readNumber hd_X8_readNumber ⟨Nat.le_of_ble_eq_true rfl, Nat.le_of_ble_eq_true rfl⟩ ⟨rfl, rfl⟩ hK hH hA (cutM (isC := [0, 1]) [some 0, some 1] 2 rfl rfl rfl rfl rfl rfl rfl) rfl rfl rfl rfl hl.1 (Nat.le_of_ble_eq_true rfl) dX8_readUnit_37 ⟨Nat.le_of_ble_eq_true rfl, Nat.le_of_ble_eq_true rfl⟩ (fun H locs hH => ?_)
      refine lv_if_ne (tgt := 45) hx hb dX8_readUnit_40 (by decide) (fun c6 => ?_) (fun c6 => ?_)
      · replace h := dc_neg c6 h
        refine lv_aload_n hx hb dX8_readUnit_45 rfl (lv_at hl 0 rfl) ?_
        refine lv_aload_n hx hb dX8_readUnit_46 rfl (lv_at hl 0 rfl) ?_
        refine gk_get (ci := 7) (C := RX8) (T := TX8) (N := 9) hx hb hts u_ws_X8 hown hK hH 0 rfl rfl 3 (by decide) u_fl_X8_22 rfl dX8_readUnit_47 ?_
        refine gk_put (ci := 7) (C := RX8) (T := TX8) (N := 9) hx hb hts u_ws_X8 tyX8_ok nmX8 hown hK hH 0 rfl rfl 6 (by decide) u_fl_X8_31 rfl rfl rfl (Nat.le_of_ble_eq_true rfl) dX8_readUnit_50 [(a_t, .inr (7, [.ref a_t_text, .int t_length, .int q5.2.1, .int q5.2.2, v_t_kind, .int q1.2.2, .int q5.2.2, .int (-1 : Int32), .int (0 : Int32)])), (a_t_text, .inl (k 1, 80, .inl t_text))] rfl (fun H locs hH => ?_)
        refine lv_aload_n hx hb dX8_readUnit_53 rfl (lv_at hl 0 rfl) ?_
        refine lv_bipush (v := 64) hx hb dX8_readUnit_54 (by decide) ?_
        obtain ⟨q7, hqq7, h⟩ := dc_bind h
        refine gc_Vi (ws' := [(a_t, .inr (7, [.ref a_t_text, .int t_length, .int q7.2, .int q5.2.2, v_t_kind, .int q1.2.2, .int q5.2.2, .int (-1 : Int32), .int (0 : Int32)])), (a_t_text, .inl (k 1, 80, .inl t_text))]) (As := [.int (64 : Int32)]) (rest := []) (n := 1) (ci := 7) (cq := (RX8, TX8, 9)) hTs ⟨hx, hb, hml, hown, hts⟩ (mX8_take l Ts hTs D k H.size a_t a_t_text q5.2.1 t_length t_text (.int q1.2.2) (.int (0 : Int32)) v_t_kind (.int q5.2.2) (.int q5.2.2) (.int (-1 : Int32)) (64 : Int32) q7 hqq7) u_ml_X8_49 u_im_X8_take u_se_X8_take u_in_X8 u_co_X8_take hd_X8_take ⟨Nat.le_of_ble_eq_true rfl, Nat.le_of_ble_eq_true rfl⟩ ⟨rfl, rfl⟩ hK hH hA (cutM (isC := [0, 1]) [some 0, some 1] 2 rfl rfl rfl rfl rfl rfl rfl) rfl rfl rfl rfl hl.1 (Nat.le_of_ble_eq_true rfl) dX8_readUnit_56 ⟨Nat.le_of_ble_eq_true rfl, Nat.le_of_ble_eq_true rfl⟩ (fun H locs hH => ?_)
        refine lv_if_ne (tgt := 64) hx hb dX8_readUnit_59 (by decide) (fun c8 => ?_) (fun c8 => ?_)
        · replace h := dc_neg c8 h
          refine lv_aload_n hx hb dX8_readUnit_64 rfl (lv_at hl 0 rfl) ?_
          obtain ⟨q9, hqq9, h⟩ := dc_bind h
          refine gc_Vi (ws' := [(a_t, .inr (7, [.ref a_t_text, .int t_length, .int q9.2.1, .int q9.2.2, v_t_kind, .int q1.2.2, .int q5.2.2, .int (-1 : Int32), .int (0 : Int32)])), (a_t_text, .inl (k 1, 80, .inl t_text))]) (As := []) (rest := []) (n := 0) (ci := 7) (cq := (RX8, TX8, 9)) hTs ⟨hx, hb, hml, hown, hts⟩ (mX8_readDigit l Ts hTs D k H.size a_t a_t_text q7.2 t_length q5.2.2 t_text (.int q1.2.2) (.int (0 : Int32)) v_t_kind (.int q5.2.2) (.int (-1 : Int32)) q9 hqq9) u_ml_X8_89 u_im_X8_readDigit u_se_X8_readDigit u_in_X8 u_co_X8_readDigit hd_X8_readDigit ⟨Nat.le_of_ble_eq_true rfl, Nat.le_of_ble_eq_true rfl⟩ ⟨rfl, rfl⟩ hK hH hA (cutM (isC := [0, 1]) [some 0, some 1] 2 rfl rfl rfl rfl rfl rfl rfl) rfl rfl rfl rfl hl.1 (Nat.le_of_ble_eq_true rfl) dX8_readUnit_65 ⟨Nat.le_of_ble_eq_true rfl, Nat.le_of_ble_eq_true rfl⟩ (fun H locs hH => ?_)
          refine lv_if_ne (tgt := 73) hx hb dX8_readUnit_68 (by decide) (fun c10 => ?_) (fun c10 => ?_)
          · replace h := dc_neg c10 h
            refine lv_aload_n hx hb dX8_readUnit_73 rfl (lv_at hl 0 rfl) ?_
            refine lv_aload_n hx hb dX8_readUnit_74 rfl (lv_at hl 0 rfl) ?_
            refine gk_get (ci := 7) (C := RX8) (T := TX8) (N := 9) hx hb hts u_ws_X8 hown hK hH 0 rfl rfl 3 (by decide) u_fl_X8_22 rfl dX8_readUnit_75 ?_
            refine gk_put (ci := 7) (C := RX8) (T := TX8) (N := 9) hx hb hts u_ws_X8 tyX8_ok nmX8 hown hK hH 0 rfl rfl 7 (by decide) u_fl_X8_34 rfl rfl rfl (Nat.le_of_ble_eq_true rfl) dX8_readUnit_78 [(a_t, .inr (7, [.ref a_t_text, .int t_length, .int q9.2.1, .int q9.2.2, v_t_kind, .int q1.2.2, .int q5.2.2, .int q9.2.2, .int (0 : Int32)])), (a_t_text, .inl (k 1, 80, .inl t_text))] rfl (fun H locs hH => ?_)
            refine lv_aload_n hx hb dX8_readUnit_81 rfl (lv_at hl 0 rfl) ?_
            refine lv_aload_n hx hb dX8_readUnit_82 rfl (lv_at hl 0 rfl) ?_
            refine lv_bipush (v := 33) hx hb dX8_readUnit_83 (by decide) ?_
            obtain ⟨q11, hqq11, h⟩ := dc_bind h
            refine gc_Vi (ws' := [(a_t, .inr (7, [.ref a_t_text, .int t_length, .int q11.2, .int q9.2.2, v_t_kind, .int q1.2.2, .int q5.2.2, .int q9.2.2, .int (0 : Int32)])), (a_t_text, .inl (k 1, 80, .inl t_text))]) (As := [.int (33 : Int32)]) (rest := [.ref a_t]) (n := 1) (ci := 7) (cq := (RX8, TX8, 9)) hTs ⟨hx, hb, hml, hown, hts⟩ (mX8_take l Ts hTs D k H.size a_t a_t_text q9.2.1 t_length t_text (.int q1.2.2) (.int (0 : Int32)) v_t_kind (.int q9.2.2) (.int q5.2.2) (.int q9.2.2) (33 : Int32) q11 hqq11) u_ml_X8_49 u_im_X8_take u_se_X8_take u_in_X8 u_co_X8_take hd_X8_take ⟨Nat.le_of_ble_eq_true rfl, Nat.le_of_ble_eq_true rfl⟩ ⟨rfl, rfl⟩ hK hH hA (cutM (isC := [0, 1]) [some 0, some 1] 2 rfl rfl rfl rfl rfl rfl rfl) rfl rfl rfl rfl hl.1 (Nat.le_of_ble_eq_true rfl) dX8_readUnit_85 ⟨Nat.le_of_ble_eq_true rfl, Nat.le_of_ble_eq_true rfl⟩ (fun H locs hH => ?_)
            obtain ⟨g12, h⟩ := dc_need h
            refine gk_put (ci := 7) (C := RX8) (T := TX8) (N := 9) hx hb hts u_ws_X8 tyX8_ok nmX8 hown hK hH 0 rfl rfl 8 (by decide) u_fl_X8_37 rfl (dk_bit g12).1 (dk_bit g12).2 (Nat.le_of_ble_eq_true rfl) dX8_readUnit_88 [(a_t, .inr (7, [.ref a_t_text, .int t_length, .int q11.2, .int q9.2.2, v_t_kind, .int q1.2.2, .int q5.2.2, .int q9.2.2, .int q11.1])), (a_t_text, .inl (k 1, 80, .inl t_text))] rfl (fun H locs hH => ?_)
            refine lv_iconst (v := 1) hx hb dX8_readUnit_91 (by decide) ?_
            have h := Option.some.inj h
            subst h
            exact ge_z hx hb hr rfl hlocks hQ hK hH hAe rfl dX8_readUnit_92
          · replace h := dc_pos c10 h
            refine lv_iconst (v := 0) hx hb dX8_readUnit_71 (by decide) ?_
            have h := Option.some.inj h
            subst h
            exact ge_z hx hb hr rfl hlocks hQ hK hH hAe rfl dX8_readUnit_72
        · replace h := dc_pos c8 h
          refine lv_iconst (v := 1) hx hb dX8_readUnit_62 (by decide) ?_
          have h := Option.some.inj h
          subst h
          exact ge_z hx hb hr rfl hlocks hQ hK hH hAe rfl dX8_readUnit_63
      · replace h := dc_pos c6 h
        refine lv_iconst (v := 0) hx hb dX8_readUnit_43 (by decide) ?_
        have h := Option.some.inj h
        subst h
        exact ge_z hx hb hr rfl hlocks hQ hK hH hAe rfl dX8_readUnit_44
  · replace h := dc_pos c2 h
    refine lv_iconst (v := 0) hx hb dX8_readUnit_17 (by decide) ?_
    have h := Option.some.inj h
    subst h
    exact ge_z hx hb hr rfl hlocks hQ hK hH hAe rfl dX8_readUnit_18
