theorem hd_X9_allUnits : yX9_allUnits.cls = RX9 ∧ yX9_allUnits.cls ≠ "java/lang/invoke/MethodHandle" ∧ yX9_allUnits.cls ≠ "java/lang/invoke/VarHandle" ∧ (parseMethodDescriptor yX9_allUnits.desc).map (fun d => d.parameters.length) = some 0 := by decide +kernel
set_option maxHeartbeats 4000000 in
set_option maxRecDepth 100000 in
theorem mX9_allUnits (l : Launch) (Ts : List Cond) (hTs : ∀ w, w ∈ Ts ↔ w ∈ uT) (D : va_G) (k : Nat → ClassId) (sz : Nat) (a_t : Nat) (a_t_population : Nat) (a_t_area : Nat) (a_t_community : Nat) (a_t_outer : Nat) (a_t_neighbors : Nat) (a_t_lengths : Nat) (a_t_plan : Nat) (t_units : Int32) (v_t_cores : Value) (v_t_districts : Value) (v_t_hasPlan : Value) (v_t_tolerance : Value) (r : Int32) (h : fX9_allUnits t_units = some r) : Met l yX9_allUnits (Cond.code yX9_allUnits cX9_allUnits 1 (some .int) :: Ts) ({ frames := 0, cells := 0, slots := 0, locals := 0 } : Room) (preM D k [.ref a_t] [(a_t, .inr (8, [.int t_units, .ref a_t_population, .ref a_t_area, .ref a_t_community, .ref a_t_outer, .ref a_t_neighbors, .ref a_t_lengths, v_t_cores, v_t_districts, v_t_tolerance, v_t_hasPlan, .ref a_t_plan]))] sz) (postI D k r [(a_t, .inr (8, [.int t_units, .ref a_t_population, .ref a_t_area, .ref a_t_community, .ref a_t_outer, .ref a_t_neighbors, .ref a_t_lengths, v_t_cores, v_t_districts, v_t_tolerance, v_t_hasPlan, .ref a_t_plan]))] [(a_t, .inr (8, [.int t_units, .ref a_t_population, .ref a_t_area, .ref a_t_community, .ref a_t_outer, .ref a_t_neighbors, .ref a_t_lengths, v_t_cores, v_t_districts, v_t_tolerance, v_t_hasPlan, .ref a_t_plan]))] sz) 0 0 (va_A [(a_t, .inr (8, [.int t_units, .ref a_t_population, .ref a_t_area, .ref a_t_community, .ref a_t_outer, .ref a_t_neighbors, .ref a_t_lengths, v_t_cores, v_t_districts, v_t_tolerance, v_t_hasPlan, .ref a_t_plan]))] sz) := by
  refine Met.ofW (cc := cX9_allUnits) (maxL := 1) (ret := (some .int)) (by decide) rfl ?_
  intro p e s m args below meth c s₁ B hml hv
  obtain ⟨rfl, hsz, hP, hK, hD0⟩ := hv
  have hx := B.exec
  have hb := B.bytes
  have hr := B.returns
  have hts0 := atoms_spec (ws := (Cond.code yX9_allUnits cX9_allUnits 1 (some .int) :: Ts)) B.pre
  have hts : ∀ w ∈ uT, w.before _ s = true := fun w h => hts0 w (List.mem_cons_of_mem _ ((hTs w).mpr h))
  clear hts0
  have hown : s.vm.findClass RX9 = some m.cls := findClass_of_methodNamed B.named
  have hlocks := B.notSynchronized
  subst hsz
  have hD := hD0.self (sz := s.heap.size)
  generalize hAe : va_A [(a_t, .inr (8, [.int t_units, .ref a_t_population, .ref a_t_area, .ref a_t_community, .ref a_t_outer, .ref a_t_neighbors, .ref a_t_lengths, v_t_cores, v_t_districts, v_t_tolerance, v_t_hasPlan, .ref a_t_plan]))] s.heap.size = A at hD ⊢
  have hA : ∀ q : Nat, s.heap.size ≤ q → A q := fun q h => by rw [← hAe]; exact Or.inr h
  have hH : HOK D A s.heap [(a_t, .inr (8, [.int t_units, .ref a_t_population, .ref a_t_area, .ref a_t_community, .ref a_t_outer, .ref a_t_neighbors, .ref a_t_lengths, v_t_cores, v_t_districts, v_t_tolerance, v_t_hasPlan, .ref a_t_plan]))] s.heap [] := ⟨hP, hD, va_S.rf⟩
  have hl := lv_entry ([.ref a_t]) (n := 1) (Nat.le_of_ble_eq_true rfl)
  rw [lg_entry_eq]
  generalize (lg_sl ([.ref a_t]) ++ List.replicate (1 - (lg_sl ([.ref a_t])).length) Slot.unset).toArray = ls at hl ⊢
  have hl : lv_has ls 1 [(0, .ref a_t)] := hl
  generalize hQ : MQ below (postI D k r [(a_t, .inr (8, [.int t_units, .ref a_t_population, .ref a_t_area, .ref a_t_community, .ref a_t_outer, .ref a_t_neighbors, .ref a_t_lengths, v_t_cores, v_t_districts, v_t_tolerance, v_t_hasPlan, .ref a_t_plan]))] [(a_t, .inr (8, [.int t_units, .ref a_t_population, .ref a_t_area, .ref a_t_community, .ref a_t_outer, .ref a_t_neighbors, .ref a_t_lengths, v_t_cores, v_t_districts, v_t_tolerance, v_t_hasPlan, .ref a_t_plan]))] s.heap.size) (List.toArray [.ref a_t]) s 0 0 A = Q
  clear hP hD hD0
  suffices K : ∀ (H : Heap) (locs : List Loc), HOK D A s.heap [(a_t, .inr (8, [.int t_units, .ref a_t_population, .ref a_t_area, .ref a_t_community, .ref a_t_outer, .ref a_t_neighbors, .ref a_t_lengths, v_t_cores, v_t_districts, v_t_tolerance, v_t_hasPlan, .ref a_t_plan]))] H locs → W p l e ({ frames := 0, cells := 0, slots := 0, locals := 0 } : Room) s m (List.toArray [.ref a_t]) below meth c H locs 0 0 Q (F0 m 0 ls []) from K s.heap [] hH
  intro H locs hH
  rw [fX9_allUnits] at h
  refine lv_iconst (v := 1) hx hb dX9_allUnits_0 (by decide) ?_
  refine lv_aload_n hx hb dX9_allUnits_1 rfl (lv_at hl 0 rfl) ?_
  refine gk_get (ci := 8) (C := RX9) (T := TX9) (N := 12) hx hb hts u_ws_X9 hown hK hH 0 rfl rfl 0 (by decide) u_fl_X9_9 rfl dX9_allUnits_2 ?_
  refine lv_ishl hx hb dX9_allUnits_5 ?_
  refine lv_iconst (v := 1) hx hb dX9_allUnits_6 (by decide) ?_
  refine lv_isub hx hb dX9_allUnits_7 ?_
  have h := Option.some.inj h
  subst h
  exact ge_i hx hb hr hlocks hQ hK hH hAe rfl dX9_allUnits_8
theorem hd_X9_populationOf : yX9_populationOf.cls = RX9 ∧ yX9_populationOf.cls ≠ "java/lang/invoke/MethodHandle" ∧ yX9_populationOf.cls ≠ "java/lang/invoke/VarHandle" ∧ (parseMethodDescriptor yX9_populationOf.desc).map (fun d => d.parameters.length) = some 1 := by decide +kernel
set_option maxHeartbeats 4000000 in
set_option maxRecDepth 100000 in
theorem mX9_populationOf (l : Launch) (Ts : List Cond) (hTs : ∀ w, w ∈ Ts ↔ w ∈ uT) (D : va_G) (k : Nat → ClassId) (sz : Nat) (a_t : Nat) (a_t_population : Nat) (a_t_area : Nat) (a_t_community : Nat) (a_t_outer : Nat) (a_t_neighbors : Nat) (a_t_lengths : Nat) (a_t_plan : Nat) (t_population : Nat → Int32) (t_units : Int32) (v_t_cores : Value) (v_t_districts : Value) (v_t_hasPlan : Value) (v_t_tolerance : Value) (x1 : Int32) (r : Int32) (h : fX9_populationOf t_population t_units x1 = some r) : Met l yX9_populationOf (Cond.code yX9_populationOf cX9_populationOf 4 (some .int) :: Ts) ({ frames := 0, cells := 0, slots := 0, locals := 0 } : Room) (preM D k [.ref a_t, .int x1] [(a_t, .inr (8, [.int t_units, .ref a_t_population, .ref a_t_area, .ref a_t_community, .ref a_t_outer, .ref a_t_neighbors, .ref a_t_lengths, v_t_cores, v_t_districts, v_t_tolerance, v_t_hasPlan, .ref a_t_plan])), (a_t_population, .inl (k 0, 12, .inl t_population))] sz) (postI D k r [(a_t, .inr (8, [.int t_units, .ref a_t_population, .ref a_t_area, .ref a_t_community, .ref a_t_outer, .ref a_t_neighbors, .ref a_t_lengths, v_t_cores, v_t_districts, v_t_tolerance, v_t_hasPlan, .ref a_t_plan])), (a_t_population, .inl (k 0, 12, .inl t_population))] [(a_t, .inr (8, [.int t_units, .ref a_t_population, .ref a_t_area, .ref a_t_community, .ref a_t_outer, .ref a_t_neighbors, .ref a_t_lengths, v_t_cores, v_t_districts, v_t_tolerance, v_t_hasPlan, .ref a_t_plan])), (a_t_population, .inl (k 0, 12, .inl t_population))] sz) 0 0 (va_A [(a_t, .inr (8, [.int t_units, .ref a_t_population, .ref a_t_area, .ref a_t_community, .ref a_t_outer, .ref a_t_neighbors, .ref a_t_lengths, v_t_cores, v_t_districts, v_t_tolerance, v_t_hasPlan, .ref a_t_plan])), (a_t_population, .inl (k 0, 12, .inl t_population))] sz) := by
  refine Met.ofW (cc := cX9_populationOf) (maxL := 4) (ret := (some .int)) (by decide) rfl ?_
  intro p e s m args below meth c s₁ B hml hv
  obtain ⟨rfl, hsz, hP, hK, hD0⟩ := hv
  have hx := B.exec
  have hb := B.bytes
  have hr := B.returns
  have hts0 := atoms_spec (ws := (Cond.code yX9_populationOf cX9_populationOf 4 (some .int) :: Ts)) B.pre
  have hts : ∀ w ∈ uT, w.before _ s = true := fun w h => hts0 w (List.mem_cons_of_mem _ ((hTs w).mpr h))
  clear hts0
  have hown : s.vm.findClass RX9 = some m.cls := findClass_of_methodNamed B.named
  have hlocks := B.notSynchronized
  subst hsz
  have hD := hD0.self (sz := s.heap.size)
  generalize hAe : va_A [(a_t, .inr (8, [.int t_units, .ref a_t_population, .ref a_t_area, .ref a_t_community, .ref a_t_outer, .ref a_t_neighbors, .ref a_t_lengths, v_t_cores, v_t_districts, v_t_tolerance, v_t_hasPlan, .ref a_t_plan])), (a_t_population, .inl (k 0, 12, .inl t_population))] s.heap.size = A at hD ⊢
  have hA : ∀ q : Nat, s.heap.size ≤ q → A q := fun q h => by rw [← hAe]; exact Or.inr h
  have hH : HOK D A s.heap [(a_t, .inr (8, [.int t_units, .ref a_t_population, .ref a_t_area, .ref a_t_community, .ref a_t_outer, .ref a_t_neighbors, .ref a_t_lengths, v_t_cores, v_t_districts, v_t_tolerance, v_t_hasPlan, .ref a_t_plan])), (a_t_population, .inl (k 0, 12, .inl t_population))] s.heap [] := ⟨hP, hD, va_S.rf⟩
  have hl := lv_entry ([.ref a_t, .int x1]) (n := 4) (Nat.le_of_ble_eq_true rfl)
  rw [lg_entry_eq]
  generalize (lg_sl ([.ref a_t, .int x1]) ++ List.replicate (4 - (lg_sl ([.ref a_t, .int x1])).length) Slot.unset).toArray = ls at hl ⊢
  have hl : lv_has ls 4 [(0, .ref a_t), (1, .int x1)] := hl
  generalize hQ : MQ below (postI D k r [(a_t, .inr (8, [.int t_units, .ref a_t_population, .ref a_t_area, .ref a_t_community, .ref a_t_outer, .ref a_t_neighbors, .ref a_t_lengths, v_t_cores, v_t_districts, v_t_tolerance, v_t_hasPlan, .ref a_t_plan])), (a_t_population, .inl (k 0, 12, .inl t_population))] [(a_t, .inr (8, [.int t_units, .ref a_t_population, .ref a_t_area, .ref a_t_community, .ref a_t_outer, .ref a_t_neighbors, .ref a_t_lengths, v_t_cores, v_t_districts, v_t_tolerance, v_t_hasPlan, .ref a_t_plan])), (a_t_population, .inl (k 0, 12, .inl t_population))] s.heap.size) (List.toArray [.ref a_t, .int x1]) s 0 0 A = Q
  clear hP hD hD0
  suffices K : ∀ (H : Heap) (locs : List Loc), HOK D A s.heap [(a_t, .inr (8, [.int t_units, .ref a_t_population, .ref a_t_area, .ref a_t_community, .ref a_t_outer, .ref a_t_neighbors, .ref a_t_lengths, v_t_cores, v_t_districts, v_t_tolerance, v_t_hasPlan, .ref a_t_plan])), (a_t_population, .inl (k 0, 12, .inl t_population))] H locs → W p l e ({ frames := 0, cells := 0, slots := 0, locals := 0 } : Room) s m (List.toArray [.ref a_t, .int x1]) below meth c H locs 0 0 Q (F0 m 0 ls []) from K s.heap [] hH
  intro H locs hH
  have L4 : ∀ (n : Nat), ∀ (kf : Int32 → Option (Int32)) (y4_2 : Int32) (y4_3 : Int32), fX9_populationOf_L4 t_population t_units x1 n kf y4_2 y4_3 = some r → (∀ (z4_2 : Int32) (H : Heap) (locs : List Loc) (ls : Array Slot), kf z4_2 = some r → HOK D A s.heap [(a_t, .inr (8, [.int t_units, .ref a_t_population, .ref a_t_area, .ref a_t_community, .ref a_t_outer, .ref a_t_neighbors, .ref a_t_lengths, v_t_cores, v_t_districts, v_t_tolerance, v_t_hasPlan, .ref a_t_plan])), (a_t_population, .inl (k 0, 12, .inl t_population))] H locs → lv_has ls 4 [(2, .int z4_2)] → W p l e ({ frames := 0, cells := 0, slots := 0, locals := 0 } : Room) s m (List.toArray [.ref a_t, .int x1]) below meth c H locs 0 0 Q (F0 m 35 ls [])) → ∀ (H : Heap) (locs : List Loc) (ls : Array Slot), HOK D A s.heap [(a_t, .inr (8, [.int t_units, .ref a_t_population, .ref a_t_area, .ref a_t_community, .ref a_t_outer, .ref a_t_neighbors, .ref a_t_lengths, v_t_cores, v_t_districts, v_t_tolerance, v_t_hasPlan, .ref a_t_plan])), (a_t_population, .inl (k 0, 12, .inl t_population))] H locs → lv_has ls 4 [(0, .ref a_t), (1, .int x1), (2, .int y4_2), (3, .int y4_3)] → W p l e ({ frames := 0, cells := 0, slots := 0, locals := 0 } : Room) s m (List.toArray [.ref a_t, .int x1]) below meth c H locs 0 0 Q (F0 m 4 ls []) := by
    intro n
    induction n with
    | zero =>
      intro kf y4_2 y4_3 h
      exact absurd h (by rw [fX9_populationOf_L4]; exact fun q => by cases q)
    | succ n ih =>
      intro kf y4_2 y4_3 h kk H locs ls hH hl
      rw [fX9_populationOf_L4] at h
      refine lv_iload_n hx hb dX9_populationOf_4 rfl (lv_at hl 3 rfl) ?_
      refine lv_aload_n hx hb dX9_populationOf_5 rfl (lv_at hl 0 rfl) ?_
      refine gk_get (ci := 8) (C := RX9) (T := TX9) (N := 12) hx hb hts u_ws_X9 hown hK hH 0 rfl rfl 0 (by decide) u_fl_X9_9 rfl dX9_populationOf_6 ?_
      refine lv_icmp_ge (tgt := 35) hx hb dX9_populationOf_9 (by decide) (fun c1 => ?_) (fun c1 => ?_)
      · replace h := dc_pos c1 h
        exact kk y4_2 H locs ls h hH (lv_sub hl [2] rfl)
      · replace h := dc_neg c1 h
        refine lv_iload_n hx hb dX9_populationOf_12 rfl (lv_at hl 1 rfl) ?_
        refine lv_iload_n hx hb dX9_populationOf_13 rfl (lv_at hl 3 rfl) ?_
        refine lv_ishr hx hb dX9_populationOf_14 ?_
        refine lv_iconst (v := 1) hx hb dX9_populationOf_15 (by decide) ?_
        refine lv_iand hx hb dX9_populationOf_16 ?_
        refine lv_if_eq (tgt := 29) hx hb dX9_populationOf_17 (by decide) (fun c2 => ?_) (fun c2 => ?_)
        · replace h := dc_pos c2 h
          refine lv_iinc (v := (y4_3 + (1 : Int32))) (lv' := [(3, .int (y4_3 + (1 : Int32))), (0, .ref a_t), (1, .int x1), (2, .int y4_2)]) hx hb dX9_populationOf_29 hl (k := 3) rfl rfl (by decide) rfl (fun ls hl => ?_)
          refine lv_goto (tgt := 4) hx hb dX9_populationOf_32 (by decide) ?_
          exact ih kf y4_2 (y4_3 + (1 : Int32)) h kk H locs ls hH (lv_sub hl [1, 2, 3, 0] rfl)
        · replace h := dc_neg c2 h
          refine lv_iload_n hx hb dX9_populationOf_20 rfl (lv_at hl 2 rfl) ?_
          refine lv_aload_n hx hb dX9_populationOf_21 rfl (lv_at hl 0 rfl) ?_
          refine gk_get (ci := 8) (C := RX9) (T := TX9) (N := 12) hx hb hts u_ws_X9 hown hK hH 0 rfl rfl 1 (by decide) u_fl_X9_15 rfl dX9_populationOf_22 ?_
          refine lv_iload_n hx hb dX9_populationOf_25 rfl (lv_at hl 3 rfl) ?_
          obtain ⟨g3, h⟩ := dc_need h
          refine gk_iald hx hb hK hH 1 rfl (dk_in g3) dX9_populationOf_26 ?_
          refine lv_iadd hx hb dX9_populationOf_27 ?_
          refine lv_istore_n (lv' := [(2, .int (y4_2 + (t_population y4_3.toNatClampNeg))), (0, .ref a_t), (1, .int x1), (3, .int y4_3)]) hx hb dX9_populationOf_28 rfl hl (by decide) rfl (fun ls hl => ?_)
          refine lv_iinc (v := (y4_3 + (1 : Int32))) (lv' := [(3, .int (y4_3 + (1 : Int32))), (2, .int (y4_2 + (t_population y4_3.toNatClampNeg))), (0, .ref a_t), (1, .int x1)]) hx hb dX9_populationOf_29 hl (k := 3) rfl rfl (by decide) rfl (fun ls hl => ?_)
          refine lv_goto (tgt := 4) hx hb dX9_populationOf_32 (by decide) ?_
          exact ih kf (y4_2 + (t_population y4_3.toNatClampNeg)) (y4_3 + (1 : Int32)) h kk H locs ls hH (lv_sub hl [2, 3, 1, 0] rfl)
  rw [fX9_populationOf] at h
  refine lv_iconst (v := 0) hx hb dX9_populationOf_0 (by decide) ?_
  refine lv_istore_n (lv' := [(2, .int (0 : Int32)), (0, .ref a_t), (1, .int x1)]) hx hb dX9_populationOf_1 rfl hl (by decide) rfl (fun ls hl => ?_)
  refine lv_iconst (v := 0) hx hb dX9_populationOf_2 (by decide) ?_
  refine lv_istore_n (lv' := [(3, .int (0 : Int32)), (2, .int (0 : Int32)), (0, .ref a_t), (1, .int x1)]) hx hb dX9_populationOf_3 rfl hl (by decide) rfl (fun ls hl => ?_)
  refine L4 _ _ (0 : Int32) (0 : Int32) h (fun z4_2 H locs ls h hH hl => ?_) H locs ls hH (lv_sub hl [2, 3, 1, 0] rfl)
  refine lv_iload_n hx hb dX9_populationOf_35 rfl (lv_at hl 0 rfl) ?_
  have h := Option.some.inj h
  subst h
  exact ge_i hx hb hr hlocks hQ hK hH hAe rfl dX9_populationOf_36
theorem hd_X9_imbalanceOf : yX9_imbalanceOf.cls = RX9 ∧ yX9_imbalanceOf.cls ≠ "java/lang/invoke/MethodHandle" ∧ yX9_imbalanceOf.cls ≠ "java/lang/invoke/VarHandle" ∧ (parseMethodDescriptor yX9_imbalanceOf.desc).map (fun d => d.parameters.length) = some 1 := by decide +kernel
set_option maxHeartbeats 4000000 in
set_option maxRecDepth 100000 in
theorem mX9_imbalanceOf (l : Launch) (Ts : List Cond) (hTs : ∀ w, w ∈ Ts ↔ w ∈ uT) (D : va_G) (k : Nat → ClassId) (sz : Nat) (a_t : Nat) (a_t_population : Nat) (a_t_area : Nat) (a_t_community : Nat) (a_t_outer : Nat) (a_t_neighbors : Nat) (a_t_lengths : Nat) (a_t_plan : Nat) (t_districts : Int32) (t_population : Nat → Int32) (t_units : Int32) (v_t_cores : Value) (v_t_hasPlan : Value) (v_t_tolerance : Value) (x1 : Int32) (r : Int32) (h : fX9_imbalanceOf t_districts t_population t_units x1 = some r) : Met l yX9_imbalanceOf (Cond.code yX9_imbalanceOf cX9_imbalanceOf 2 (some .int) :: Ts) ({ frames := 1, cells := 0, slots := 0, locals := 64 } : Room) (preM D k [.ref a_t, .int x1] [(a_t, .inr (8, [.int t_units, .ref a_t_population, .ref a_t_area, .ref a_t_community, .ref a_t_outer, .ref a_t_neighbors, .ref a_t_lengths, v_t_cores, .int t_districts, v_t_tolerance, v_t_hasPlan, .ref a_t_plan])), (a_t_population, .inl (k 0, 12, .inl t_population))] sz) (postI D k r [(a_t, .inr (8, [.int t_units, .ref a_t_population, .ref a_t_area, .ref a_t_community, .ref a_t_outer, .ref a_t_neighbors, .ref a_t_lengths, v_t_cores, .int t_districts, v_t_tolerance, v_t_hasPlan, .ref a_t_plan])), (a_t_population, .inl (k 0, 12, .inl t_population))] [(a_t, .inr (8, [.int t_units, .ref a_t_population, .ref a_t_area, .ref a_t_community, .ref a_t_outer, .ref a_t_neighbors, .ref a_t_lengths, v_t_cores, .int t_districts, v_t_tolerance, v_t_hasPlan, .ref a_t_plan])), (a_t_population, .inl (k 0, 12, .inl t_population))] sz) 0 0 (va_A [(a_t, .inr (8, [.int t_units, .ref a_t_population, .ref a_t_area, .ref a_t_community, .ref a_t_outer, .ref a_t_neighbors, .ref a_t_lengths, v_t_cores, .int t_districts, v_t_tolerance, v_t_hasPlan, .ref a_t_plan])), (a_t_population, .inl (k 0, 12, .inl t_population))] sz) := by
  refine Met.ofW (cc := cX9_imbalanceOf) (maxL := 2) (ret := (some .int)) (by decide) rfl ?_
  intro p e s m args below meth c s₁ B hml hv
  obtain ⟨rfl, hsz, hP, hK, hD0⟩ := hv
  have hx := B.exec
  have hb := B.bytes
  have hr := B.returns
  have hts0 := atoms_spec (ws := (Cond.code yX9_imbalanceOf cX9_imbalanceOf 2 (some .int) :: Ts)) B.pre
  have hts : ∀ w ∈ uT, w.before _ s = true := fun w h => hts0 w (List.mem_cons_of_mem _ ((hTs w).mpr h))
  clear hts0
  have hown : s.vm.findClass RX9 = some m.cls := findClass_of_methodNamed B.named
  have hlocks := B.notSynchronized
  subst hsz
  have hD := hD0.self (sz := s.heap.size)
  generalize hAe : va_A [(a_t, .inr (8, [.int t_units, .ref a_t_population, .ref a_t_area, .ref a_t_community, .ref a_t_outer, .ref a_t_neighbors, .ref a_t_lengths, v_t_cores, .int t_districts, v_t_tolerance, v_t_hasPlan, .ref a_t_plan])), (a_t_population, .inl (k 0, 12, .inl t_population))] s.heap.size = A at hD ⊢
  have hA : ∀ q : Nat, s.heap.size ≤ q → A q := fun q h => by rw [← hAe]; exact Or.inr h
  have hH : HOK D A s.heap [(a_t, .inr (8, [.int t_units, .ref a_t_population, .ref a_t_area, .ref a_t_community, .ref a_t_outer, .ref a_t_neighbors, .ref a_t_lengths, v_t_cores, .int t_districts, v_t_tolerance, v_t_hasPlan, .ref a_t_plan])), (a_t_population, .inl (k 0, 12, .inl t_population))] s.heap [] := ⟨hP, hD, va_S.rf⟩
  have hl := lv_entry ([.ref a_t, .int x1]) (n := 2) (Nat.le_of_ble_eq_true rfl)
  rw [lg_entry_eq]
  generalize (lg_sl ([.ref a_t, .int x1]) ++ List.replicate (2 - (lg_sl ([.ref a_t, .int x1])).length) Slot.unset).toArray = ls at hl ⊢
  have hl : lv_has ls 2 [(0, .ref a_t), (1, .int x1)] := hl
  generalize hQ : MQ below (postI D k r [(a_t, .inr (8, [.int t_units, .ref a_t_population, .ref a_t_area, .ref a_t_community, .ref a_t_outer, .ref a_t_neighbors, .ref a_t_lengths, v_t_cores, .int t_districts, v_t_tolerance, v_t_hasPlan, .ref a_t_plan])), (a_t_population, .inl (k 0, 12, .inl t_population))] [(a_t, .inr (8, [.int t_units, .ref a_t_population, .ref a_t_area, .ref a_t_community, .ref a_t_outer, .ref a_t_neighbors, .ref a_t_lengths, v_t_cores, .int t_districts, v_t_tolerance, v_t_hasPlan, .ref a_t_plan])), (a_t_population, .inl (k 0, 12, .inl t_population))] s.heap.size) (List.toArray [.ref a_t, .int x1]) s 0 0 A = Q
  clear hP hD hD0
  suffices K : ∀ (H : Heap) (locs : List Loc), HOK D A s.heap [(a_t, .inr (8, [.int t_units, .ref a_t_population, .ref a_t_area, .ref a_t_community, .ref a_t_outer, .ref a_t_neighbors, .ref a_t_lengths, v_t_cores, .int t_districts, v_t_tolerance, v_t_hasPlan, .ref a_t_plan])), (a_t_population, .inl (k 0, 12, .inl t_population))] H locs → W p l e ({ frames := 1, cells := 0, slots := 0, locals := 64 } : Room) s m (List.toArray [.ref a_t, .int x1]) below meth c H locs 0 0 Q (F0 m 0 ls []) from K s.heap [] hH
  intro H locs hH
  rw [fX9_imbalanceOf] at h
  refine lv_aload_n hx hb dX9_imbalanceOf_0 rfl (lv_at hl 0 rfl) ?_
  refine lv_iload_n hx hb dX9_imbalanceOf_1 rfl (lv_at hl 1 rfl) ?_
  obtain ⟨q1, hqq1, h⟩ := dc_bind h
  refine gc_Vi (ws' := [(a_t, .inr (8, [.int t_units, .ref a_t_population, .ref a_t_area, .ref a_t_community, .ref a_t_outer, .ref a_t_neighbors, .ref a_t_lengths, v_t_cores, .int t_districts, v_t_tolerance, v_t_hasPlan, .ref a_t_plan])), (a_t_population, .inl (k 0, 12, .inl t_population))]) (isC := [0, 1]) (isR := []) (As := [.int x1]) (rest := []) (n := 1) (ci := 8) (cq := (RX9, TX9, 12)) hTs ⟨hx, hb, hml, hown, hts⟩ (mX9_populationOf l Ts hTs D k H.size a_t a_t_population a_t_area a_t_community a_t_outer a_t_neighbors a_t_lengths a_t_plan t_population t_units v_t_cores (.int t_districts) v_t_hasPlan v_t_tolerance x1 q1 hqq1) u_ml_X9_102 u_im_X9_populationOf u_se_X9_populationOf u_in_X9 u_co_X9_populationOf hd_X9_populationOf ⟨Nat.le_of_ble_eq_true rfl, Nat.le_of_ble_eq_true rfl⟩ ⟨rfl, rfl⟩ hK hH hA ⟨rfl, rfl, rfl, rfl, rfl, rfl⟩ rfl rfl rfl rfl hl.1 (by decide) dX9_imbalanceOf_2 ⟨Nat.le_of_ble_eq_true rfl, Nat.le_of_ble_eq_true rfl⟩ (fun H locs hH => ?_)
  refine lv_aload_n hx hb dX9_imbalanceOf_5 rfl (lv_at hl 0 rfl) ?_
  refine gk_get (ci := 8) (C := RX9) (T := TX9) (N := 12) hx hb hts u_ws_X9 hown hK hH 0 rfl rfl 8 (by decide) u_fl_X9_37 rfl dX9_imbalanceOf_6 ?_
  refine lv_imul hx hb dX9_imbalanceOf_9 ?_
  refine lv_aload_n hx hb dX9_imbalanceOf_10 rfl (lv_at hl 0 rfl) ?_
  refine lv_aload_n hx hb dX9_imbalanceOf_11 rfl (lv_at hl 0 rfl) ?_
  obtain ⟨q2, hqq2, h⟩ := dc_bind h
  refine gc_Vi (ws' := [(a_t, .inr (8, [.int t_units, .ref a_t_population, .ref a_t_area, .ref a_t_community, .ref a_t_outer, .ref a_t_neighbors, .ref a_t_lengths, v_t_cores, .int t_districts, v_t_tolerance, v_t_hasPlan, .ref a_t_plan])), (a_t_population, .inl (k 0, 12, .inl t_population))]) (isC := [0]) (isR := [1]) (As := []) (rest := [.ref a_t, .int (q1 * t_districts)]) (n := 0) (ci := 8) (cq := (RX9, TX9, 12)) hTs ⟨hx, hb, hml, hown, hts⟩ (mX9_allUnits l Ts hTs D k H.size a_t a_t_population a_t_area a_t_community a_t_outer a_t_neighbors a_t_lengths a_t_plan t_units v_t_cores (.int t_districts) v_t_hasPlan v_t_tolerance q2 hqq2) u_ml_X9_95 u_im_X9_allUnits u_se_X9_allUnits u_in_X9 u_co_X9_allUnits hd_X9_allUnits ⟨Nat.le_of_ble_eq_true rfl, Nat.le_of_ble_eq_true rfl⟩ ⟨rfl, rfl⟩ hK hH hA ⟨rfl, rfl, rfl, rfl, rfl, rfl⟩ rfl rfl rfl rfl hl.1 (by decide) dX9_imbalanceOf_12 ⟨Nat.le_of_ble_eq_true rfl, Nat.le_of_ble_eq_true rfl⟩ (fun H locs hH => ?_)
  obtain ⟨q3, hqq3, h⟩ := dc_bind h
  refine gc_Vi (ws' := [(a_t, .inr (8, [.int t_units, .ref a_t_population, .ref a_t_area, .ref a_t_community, .ref a_t_outer, .ref a_t_neighbors, .ref a_t_lengths, v_t_cores, .int t_districts, v_t_tolerance, v_t_hasPlan, .ref a_t_plan])), (a_t_population, .inl (k 0, 12, .inl t_population))]) (isC := [0, 1]) (isR := []) (As := [.int q2]) (rest := [.int (q1 * t_districts)]) (n := 1) (ci := 8) (cq := (RX9, TX9, 12)) hTs ⟨hx, hb, hml, hown, hts⟩ (mX9_populationOf l Ts hTs D k H.size a_t a_t_population a_t_area a_t_community a_t_outer a_t_neighbors a_t_lengths a_t_plan t_population t_units v_t_cores (.int t_districts) v_t_hasPlan v_t_tolerance q2 q3 hqq3) u_ml_X9_102 u_im_X9_populationOf u_se_X9_populationOf u_in_X9 u_co_X9_populationOf hd_X9_populationOf ⟨Nat.le_of_ble_eq_true rfl, Nat.le_of_ble_eq_true rfl⟩ ⟨rfl, rfl⟩ hK hH hA ⟨rfl, rfl, rfl, rfl, rfl, rfl⟩ rfl rfl rfl rfl hl.1 (by decide) dX9_imbalanceOf_15 ⟨Nat.le_of_ble_eq_true rfl, Nat.le_of_ble_eq_true rfl⟩ (fun H locs hH => ?_)
  refine lv_isub hx hb dX9_imbalanceOf_18 ?_
  refine va_mabs hx hb (hml.trans hl.1.symm) hown (hts _ u_ml_X9_105) (hts _ u_st_J9_abs_0f7a4) (hts _ u_in_J9) (hts _ u_co_Math_abs) (Nat.le_of_ble_eq_true rfl) (Nat.le_of_ble_eq_true rfl) (Nat.le_of_ble_eq_true rfl) (Nat.le_of_ble_eq_true rfl) dX9_imbalanceOf_19 ?_
  have h := Option.some.inj h
  subst h
  exact ge_i hx hb hr hlocks hQ hK hH hAe rfl dX9_imbalanceOf_22
theorem hd_X9_isBalanced : yX9_isBalanced.cls = RX9 ∧ yX9_isBalanced.cls ≠ "java/lang/invoke/MethodHandle" ∧ yX9_isBalanced.cls ≠ "java/lang/invoke/VarHandle" ∧ (parseMethodDescriptor yX9_isBalanced.desc).map (fun d => d.parameters.length) = some 1 := by decide +kernel
set_option maxHeartbeats 4000000 in
set_option maxRecDepth 100000 in
theorem mX9_isBalanced (l : Launch) (Ts : List Cond) (hTs : ∀ w, w ∈ Ts ↔ w ∈ uT) (D : va_G) (k : Nat → ClassId) (sz : Nat) (a_t : Nat) (a_t_population : Nat) (a_t_area : Nat) (a_t_community : Nat) (a_t_outer : Nat) (a_t_neighbors : Nat) (a_t_lengths : Nat) (a_t_plan : Nat) (t_districts : Int32) (t_population : Nat → Int32) (t_tolerance : Int32) (t_units : Int32) (v_t_cores : Value) (v_t_hasPlan : Value) (x1 : Int32) (r : Int32) (h : fX9_isBalanced t_districts t_population t_tolerance t_units x1 = some r) : Met l yX9_isBalanced (Cond.code yX9_isBalanced cX9_isBalanced 2 (some .boolean) :: Ts) ({ frames := 2, cells := 0, slots := 0, locals := 85 } : Room) (preM D k [.ref a_t, .int x1] [(a_t, .inr (8, [.int t_units, .ref a_t_population, .ref a_t_area, .ref a_t_community, .ref a_t_outer, .ref a_t_neighbors, .ref a_t_lengths, v_t_cores, .int t_districts, .int t_tolerance, v_t_hasPlan, .ref a_t_plan])), (a_t_population, .inl (k 0, 12, .inl t_population))] sz) (postI D k r [(a_t, .inr (8, [.int t_units, .ref a_t_population, .ref a_t_area, .ref a_t_community, .ref a_t_outer, .ref a_t_neighbors, .ref a_t_lengths, v_t_cores, .int t_districts, .int t_tolerance, v_t_hasPlan, .ref a_t_plan])), (a_t_population, .inl (k 0, 12, .inl t_population))] [(a_t, .inr (8, [.int t_units, .ref a_t_population, .ref a_t_area, .ref a_t_community, .ref a_t_outer, .ref a_t_neighbors, .ref a_t_lengths, v_t_cores, .int t_districts, .int t_tolerance, v_t_hasPlan, .ref a_t_plan])), (a_t_population, .inl (k 0, 12, .inl t_population))] sz) 0 0 (va_A [(a_t, .inr (8, [.int t_units, .ref a_t_population, .ref a_t_area, .ref a_t_community, .ref a_t_outer, .ref a_t_neighbors, .ref a_t_lengths, v_t_cores, .int t_districts, .int t_tolerance, v_t_hasPlan, .ref a_t_plan])), (a_t_population, .inl (k 0, 12, .inl t_population))] sz) := by
  refine Met.ofW (cc := cX9_isBalanced) (maxL := 2) (ret := (some .boolean)) (by decide) rfl ?_
  intro p e s m args below meth c s₁ B hml hv
  obtain ⟨rfl, hsz, hP, hK, hD0⟩ := hv
  have hx := B.exec
  have hb := B.bytes
  have hr := B.returns
  have hts0 := atoms_spec (ws := (Cond.code yX9_isBalanced cX9_isBalanced 2 (some .boolean) :: Ts)) B.pre
  have hts : ∀ w ∈ uT, w.before _ s = true := fun w h => hts0 w (List.mem_cons_of_mem _ ((hTs w).mpr h))
  clear hts0
  have hown : s.vm.findClass RX9 = some m.cls := findClass_of_methodNamed B.named
  have hlocks := B.notSynchronized
  subst hsz
  have hD := hD0.self (sz := s.heap.size)
  generalize hAe : va_A [(a_t, .inr (8, [.int t_units, .ref a_t_population, .ref a_t_area, .ref a_t_community, .ref a_t_outer, .ref a_t_neighbors, .ref a_t_lengths, v_t_cores, .int t_districts, .int t_tolerance, v_t_hasPlan, .ref a_t_plan])), (a_t_population, .inl (k 0, 12, .inl t_population))] s.heap.size = A at hD ⊢
  have hA : ∀ q : Nat, s.heap.size ≤ q → A q := fun q h => by rw [← hAe]; exact Or.inr h
  have hH : HOK D A s.heap [(a_t, .inr (8, [.int t_units, .ref a_t_population, .ref a_t_area, .ref a_t_community, .ref a_t_outer, .ref a_t_neighbors, .ref a_t_lengths, v_t_cores, .int t_districts, .int t_tolerance, v_t_hasPlan, .ref a_t_plan])), (a_t_population, .inl (k 0, 12, .inl t_population))] s.heap [] := ⟨hP, hD, va_S.rf⟩
  have hl := lv_entry ([.ref a_t, .int x1]) (n := 2) (Nat.le_of_ble_eq_true rfl)
  rw [lg_entry_eq]
  generalize (lg_sl ([.ref a_t, .int x1]) ++ List.replicate (2 - (lg_sl ([.ref a_t, .int x1])).length) Slot.unset).toArray = ls at hl ⊢
  have hl : lv_has ls 2 [(0, .ref a_t), (1, .int x1)] := hl
  generalize hQ : MQ below (postI D k r [(a_t, .inr (8, [.int t_units, .ref a_t_population, .ref a_t_area, .ref a_t_community, .ref a_t_outer, .ref a_t_neighbors, .ref a_t_lengths, v_t_cores, .int t_districts, .int t_tolerance, v_t_hasPlan, .ref a_t_plan])), (a_t_population, .inl (k 0, 12, .inl t_population))] [(a_t, .inr (8, [.int t_units, .ref a_t_population, .ref a_t_area, .ref a_t_community, .ref a_t_outer, .ref a_t_neighbors, .ref a_t_lengths, v_t_cores, .int t_districts, .int t_tolerance, v_t_hasPlan, .ref a_t_plan])), (a_t_population, .inl (k 0, 12, .inl t_population))] s.heap.size) (List.toArray [.ref a_t, .int x1]) s 0 0 A = Q
  clear hP hD hD0
  suffices K : ∀ (H : Heap) (locs : List Loc), HOK D A s.heap [(a_t, .inr (8, [.int t_units, .ref a_t_population, .ref a_t_area, .ref a_t_community, .ref a_t_outer, .ref a_t_neighbors, .ref a_t_lengths, v_t_cores, .int t_districts, .int t_tolerance, v_t_hasPlan, .ref a_t_plan])), (a_t_population, .inl (k 0, 12, .inl t_population))] H locs → W p l e ({ frames := 2, cells := 0, slots := 0, locals := 85 } : Room) s m (List.toArray [.ref a_t, .int x1]) below meth c H locs 0 0 Q (F0 m 0 ls []) from K s.heap [] hH
  intro H locs hH
  rw [fX9_isBalanced] at h
  refine lv_bipush (v := 100) hx hb dX9_isBalanced_0 (by decide) ?_
  refine lv_aload_n hx hb dX9_isBalanced_2 rfl (lv_at hl 0 rfl) ?_
  refine lv_iload_n hx hb dX9_isBalanced_3 rfl (lv_at hl 1 rfl) ?_
  obtain ⟨q1, hqq1, h⟩ := dc_bind h
  refine gc_Vi (ws' := [(a_t, .inr (8, [.int t_units, .ref a_t_population, .ref a_t_area, .ref a_t_community, .ref a_t_outer, .ref a_t_neighbors, .ref a_t_lengths, v_t_cores, .int t_districts, .int t_tolerance, v_t_hasPlan, .ref a_t_plan])), (a_t_population, .inl (k 0, 12, .inl t_population))]) (isC := [0, 1]) (isR := []) (As := [.int x1]) (rest := [.int (100 : Int32)]) (n := 1) (ci := 8) (cq := (RX9, TX9, 12)) hTs ⟨hx, hb, hml, hown, hts⟩ (mX9_imbalanceOf l Ts hTs D k H.size a_t a_t_population a_t_area a_t_community a_t_outer a_t_neighbors a_t_lengths a_t_plan t_districts t_population t_units v_t_cores v_t_hasPlan (.int t_tolerance) x1 q1 hqq1) u_ml_X9_110 u_im_X9_imbalanceOf u_se_X9_imbalanceOf u_in_X9 u_co_X9_imbalanceOf hd_X9_imbalanceOf ⟨Nat.le_of_ble_eq_true rfl, Nat.le_of_ble_eq_true rfl⟩ ⟨rfl, rfl⟩ hK hH hA ⟨rfl, rfl, rfl, rfl, rfl, rfl⟩ rfl rfl rfl rfl hl.1 (by decide) dX9_isBalanced_4 ⟨Nat.le_of_ble_eq_true rfl, Nat.le_of_ble_eq_true rfl⟩ (fun H locs hH => ?_)
  refine lv_imul hx hb dX9_isBalanced_7 ?_
  refine lv_aload_n hx hb dX9_isBalanced_8 rfl (lv_at hl 0 rfl) ?_
  refine gk_get (ci := 8) (C := RX9) (T := TX9) (N := 12) hx hb hts u_ws_X9 hown hK hH 0 rfl rfl 9 (by decide) u_fl_X9_40 rfl dX9_isBalanced_9 ?_
  refine lv_aload_n hx hb dX9_isBalanced_12 rfl (lv_at hl 0 rfl) ?_
  refine lv_aload_n hx hb dX9_isBalanced_13 rfl (lv_at hl 0 rfl) ?_
  obtain ⟨q2, hqq2, h⟩ := dc_bind h
  refine gc_Vi (ws' := [(a_t, .inr (8, [.int t_units, .ref a_t_population, .ref a_t_area, .ref a_t_community, .ref a_t_outer, .ref a_t_neighbors, .ref a_t_lengths, v_t_cores, .int t_districts, .int t_tolerance, v_t_hasPlan, .ref a_t_plan])), (a_t_population, .inl (k 0, 12, .inl t_population))]) (isC := [0]) (isR := [1]) (As := []) (rest := [.ref a_t, .int t_tolerance, .int ((100 : Int32) * q1)]) (n := 0) (ci := 8) (cq := (RX9, TX9, 12)) hTs ⟨hx, hb, hml, hown, hts⟩ (mX9_allUnits l Ts hTs D k H.size a_t a_t_population a_t_area a_t_community a_t_outer a_t_neighbors a_t_lengths a_t_plan t_units v_t_cores (.int t_districts) v_t_hasPlan (.int t_tolerance) q2 hqq2) u_ml_X9_95 u_im_X9_allUnits u_se_X9_allUnits u_in_X9 u_co_X9_allUnits hd_X9_allUnits ⟨Nat.le_of_ble_eq_true rfl, Nat.le_of_ble_eq_true rfl⟩ ⟨rfl, rfl⟩ hK hH hA ⟨rfl, rfl, rfl, rfl, rfl, rfl⟩ rfl rfl rfl rfl hl.1 (by decide) dX9_isBalanced_14 ⟨Nat.le_of_ble_eq_true rfl, Nat.le_of_ble_eq_true rfl⟩ (fun H locs hH => ?_)
  obtain ⟨q3, hqq3, h⟩ := dc_bind h
  refine gc_Vi (ws' := [(a_t, .inr (8, [.int t_units, .ref a_t_population, .ref a_t_area, .ref a_t_community, .ref a_t_outer, .ref a_t_neighbors, .ref a_t_lengths, v_t_cores, .int t_districts, .int t_tolerance, v_t_hasPlan, .ref a_t_plan])), (a_t_population, .inl (k 0, 12, .inl t_population))]) (isC := [0, 1]) (isR := []) (As := [.int q2]) (rest := [.int t_tolerance, .int ((100 : Int32) * q1)]) (n := 1) (ci := 8) (cq := (RX9, TX9, 12)) hTs ⟨hx, hb, hml, hown, hts⟩ (mX9_populationOf l Ts hTs D k H.size a_t a_t_population a_t_area a_t_community a_t_outer a_t_neighbors a_t_lengths a_t_plan t_population t_units v_t_cores (.int t_districts) v_t_hasPlan (.int t_tolerance) q2 q3 hqq3) u_ml_X9_102 u_im_X9_populationOf u_se_X9_populationOf u_in_X9 u_co_X9_populationOf hd_X9_populationOf ⟨Nat.le_of_ble_eq_true rfl, Nat.le_of_ble_eq_true rfl⟩ ⟨rfl, rfl⟩ hK hH hA ⟨rfl, rfl, rfl, rfl, rfl, rfl⟩ rfl rfl rfl rfl hl.1 (by decide) dX9_isBalanced_17 ⟨Nat.le_of_ble_eq_true rfl, Nat.le_of_ble_eq_true rfl⟩ (fun H locs hH => ?_)
  refine lv_imul hx hb dX9_isBalanced_20 ?_
  refine lv_icmp_gt (tgt := 28) hx hb dX9_isBalanced_21 (by decide) (fun c4 => ?_) (fun c4 => ?_)
  · replace h := dc_pos c4 h
    refine lv_iconst (v := 0) hx hb dX9_isBalanced_28 (by decide) ?_
    have h := Option.some.inj h
    subst h
    exact ge_z hx hb hr rfl hlocks hQ hK hH hAe rfl dX9_isBalanced_29
  · replace h := dc_neg c4 h
    refine lv_iconst (v := 1) hx hb dX9_isBalanced_24 (by decide) ?_
    refine lv_goto (tgt := 29) hx hb dX9_isBalanced_25 (by decide) ?_
    have h := Option.some.inj h
    subst h
    exact ge_z hx hb hr rfl hlocks hQ hK hH hAe rfl dX9_isBalanced_29
theorem hd_X9_membersOf : yX9_membersOf.cls = RX9 ∧ yX9_membersOf.cls ≠ "java/lang/invoke/MethodHandle" ∧ yX9_membersOf.cls ≠ "java/lang/invoke/VarHandle" ∧ (parseMethodDescriptor yX9_membersOf.desc).map (fun d => d.parameters.length) = some 1 := by decide +kernel
set_option maxHeartbeats 4000000 in
set_option maxRecDepth 100000 in
theorem mX9_membersOf (l : Launch) (Ts : List Cond) (hTs : ∀ w, w ∈ Ts ↔ w ∈ uT) (D : va_G) (k : Nat → ClassId) (sz : Nat) (a_t : Nat) (a_t_population : Nat) (a_t_area : Nat) (a_t_community : Nat) (a_t_outer : Nat) (a_t_neighbors : Nat) (a_t_lengths : Nat) (a_t_plan : Nat) (t_community : Nat → Int32) (t_units : Int32) (v_t_cores : Value) (v_t_districts : Value) (v_t_hasPlan : Value) (v_t_tolerance : Value) (x1 : Int32) (r : Int32) (h : fX9_membersOf t_community t_units x1 = some r) : Met l yX9_membersOf (Cond.code yX9_membersOf cX9_membersOf 4 (some .int) :: Ts) ({ frames := 0, cells := 0, slots := 0, locals := 0 } : Room) (preM D k [.ref a_t, .int x1] [(a_t, .inr (8, [.int t_units, .ref a_t_population, .ref a_t_area, .ref a_t_community, .ref a_t_outer, .ref a_t_neighbors, .ref a_t_lengths, v_t_cores, v_t_districts, v_t_tolerance, v_t_hasPlan, .ref a_t_plan])), (a_t_community, .inl (k 0, 12, .inl t_community))] sz) (postI D k r [(a_t, .inr (8, [.int t_units, .ref a_t_population, .ref a_t_area, .ref a_t_community, .ref a_t_outer, .ref a_t_neighbors, .ref a_t_lengths, v_t_cores, v_t_districts, v_t_tolerance, v_t_hasPlan, .ref a_t_plan])), (a_t_community, .inl (k 0, 12, .inl t_community))] [(a_t, .inr (8, [.int t_units, .ref a_t_population, .ref a_t_area, .ref a_t_community, .ref a_t_outer, .ref a_t_neighbors, .ref a_t_lengths, v_t_cores, v_t_districts, v_t_tolerance, v_t_hasPlan, .ref a_t_plan])), (a_t_community, .inl (k 0, 12, .inl t_community))] sz) 0 0 (va_A [(a_t, .inr (8, [.int t_units, .ref a_t_population, .ref a_t_area, .ref a_t_community, .ref a_t_outer, .ref a_t_neighbors, .ref a_t_lengths, v_t_cores, v_t_districts, v_t_tolerance, v_t_hasPlan, .ref a_t_plan])), (a_t_community, .inl (k 0, 12, .inl t_community))] sz) := by
  refine Met.ofW (cc := cX9_membersOf) (maxL := 4) (ret := (some .int)) (by decide) rfl ?_
  intro p e s m args below meth c s₁ B hml hv
  obtain ⟨rfl, hsz, hP, hK, hD0⟩ := hv
  have hx := B.exec
  have hb := B.bytes
  have hr := B.returns
  have hts0 := atoms_spec (ws := (Cond.code yX9_membersOf cX9_membersOf 4 (some .int) :: Ts)) B.pre
  have hts : ∀ w ∈ uT, w.before _ s = true := fun w h => hts0 w (List.mem_cons_of_mem _ ((hTs w).mpr h))
  clear hts0
  have hown : s.vm.findClass RX9 = some m.cls := findClass_of_methodNamed B.named
  have hlocks := B.notSynchronized
  subst hsz
  have hD := hD0.self (sz := s.heap.size)
  generalize hAe : va_A [(a_t, .inr (8, [.int t_units, .ref a_t_population, .ref a_t_area, .ref a_t_community, .ref a_t_outer, .ref a_t_neighbors, .ref a_t_lengths, v_t_cores, v_t_districts, v_t_tolerance, v_t_hasPlan, .ref a_t_plan])), (a_t_community, .inl (k 0, 12, .inl t_community))] s.heap.size = A at hD ⊢
  have hA : ∀ q : Nat, s.heap.size ≤ q → A q := fun q h => by rw [← hAe]; exact Or.inr h
  have hH : HOK D A s.heap [(a_t, .inr (8, [.int t_units, .ref a_t_population, .ref a_t_area, .ref a_t_community, .ref a_t_outer, .ref a_t_neighbors, .ref a_t_lengths, v_t_cores, v_t_districts, v_t_tolerance, v_t_hasPlan, .ref a_t_plan])), (a_t_community, .inl (k 0, 12, .inl t_community))] s.heap [] := ⟨hP, hD, va_S.rf⟩
  have hl := lv_entry ([.ref a_t, .int x1]) (n := 4) (Nat.le_of_ble_eq_true rfl)
  rw [lg_entry_eq]
  generalize (lg_sl ([.ref a_t, .int x1]) ++ List.replicate (4 - (lg_sl ([.ref a_t, .int x1])).length) Slot.unset).toArray = ls at hl ⊢
  have hl : lv_has ls 4 [(0, .ref a_t), (1, .int x1)] := hl
  generalize hQ : MQ below (postI D k r [(a_t, .inr (8, [.int t_units, .ref a_t_population, .ref a_t_area, .ref a_t_community, .ref a_t_outer, .ref a_t_neighbors, .ref a_t_lengths, v_t_cores, v_t_districts, v_t_tolerance, v_t_hasPlan, .ref a_t_plan])), (a_t_community, .inl (k 0, 12, .inl t_community))] [(a_t, .inr (8, [.int t_units, .ref a_t_population, .ref a_t_area, .ref a_t_community, .ref a_t_outer, .ref a_t_neighbors, .ref a_t_lengths, v_t_cores, v_t_districts, v_t_tolerance, v_t_hasPlan, .ref a_t_plan])), (a_t_community, .inl (k 0, 12, .inl t_community))] s.heap.size) (List.toArray [.ref a_t, .int x1]) s 0 0 A = Q
  clear hP hD hD0
  suffices K : ∀ (H : Heap) (locs : List Loc), HOK D A s.heap [(a_t, .inr (8, [.int t_units, .ref a_t_population, .ref a_t_area, .ref a_t_community, .ref a_t_outer, .ref a_t_neighbors, .ref a_t_lengths, v_t_cores, v_t_districts, v_t_tolerance, v_t_hasPlan, .ref a_t_plan])), (a_t_community, .inl (k 0, 12, .inl t_community))] H locs → W p l e ({ frames := 0, cells := 0, slots := 0, locals := 0 } : Room) s m (List.toArray [.ref a_t, .int x1]) below meth c H locs 0 0 Q (F0 m 0 ls []) from K s.heap [] hH
  intro H locs hH
  have L4 : ∀ (n : Nat), ∀ (kf : Int32 → Option (Int32)) (y4_2 : Int32) (y4_3 : Int32), fX9_membersOf_L4 t_community t_units x1 n kf y4_2 y4_3 = some r → (∀ (z4_2 : Int32) (H : Heap) (locs : List Loc) (ls : Array Slot), kf z4_2 = some r → HOK D A s.heap [(a_t, .inr (8, [.int t_units, .ref a_t_population, .ref a_t_area, .ref a_t_community, .ref a_t_outer, .ref a_t_neighbors, .ref a_t_lengths, v_t_cores, v_t_districts, v_t_tolerance, v_t_hasPlan, .ref a_t_plan])), (a_t_community, .inl (k 0, 12, .inl t_community))] H locs → lv_has ls 4 [(2, .int z4_2)] → W p l e ({ frames := 0, cells := 0, slots := 0, locals := 0 } : Room) s m (List.toArray [.ref a_t, .int x1]) below meth c H locs 0 0 Q (F0 m 34 ls [])) → ∀ (H : Heap) (locs : List Loc) (ls : Array Slot), HOK D A s.heap [(a_t, .inr (8, [.int t_units, .ref a_t_population, .ref a_t_area, .ref a_t_community, .ref a_t_outer, .ref a_t_neighbors, .ref a_t_lengths, v_t_cores, v_t_districts, v_t_tolerance, v_t_hasPlan, .ref a_t_plan])), (a_t_community, .inl (k 0, 12, .inl t_community))] H locs → lv_has ls 4 [(0, .ref a_t), (1, .int x1), (2, .int y4_2), (3, .int y4_3)] → W p l e ({ frames := 0, cells := 0, slots := 0, locals := 0 } : Room) s m (List.toArray [.ref a_t, .int x1]) below meth c H locs 0 0 Q (F0 m 4 ls []) := by
    intro n
    induction n with
    | zero =>
      intro kf y4_2 y4_3 h
      exact absurd h (by rw [fX9_membersOf_L4]; exact fun q => by cases q)
    | succ n ih =>
      intro kf y4_2 y4_3 h kk H locs ls hH hl
      rw [fX9_membersOf_L4] at h
      refine lv_iload_n hx hb dX9_membersOf_4 rfl (lv_at hl 3 rfl) ?_
      refine lv_aload_n hx hb dX9_membersOf_5 rfl (lv_at hl 0 rfl) ?_
      refine gk_get (ci := 8) (C := RX9) (T := TX9) (N := 12) hx hb hts u_ws_X9 hown hK hH 0 rfl rfl 0 (by decide) u_fl_X9_9 rfl dX9_membersOf_6 ?_
      refine lv_icmp_ge (tgt := 34) hx hb dX9_membersOf_9 (by decide) (fun c1 => ?_) (fun c1 => ?_)
      · replace h := dc_pos c1 h
        exact kk y4_2 H locs ls h hH (lv_sub hl [2] rfl)
      · replace h := dc_neg c1 h
        refine lv_aload_n hx hb dX9_membersOf_12 rfl (lv_at hl 0 rfl) ?_
        refine gk_get (ci := 8) (C := RX9) (T := TX9) (N := 12) hx hb hts u_ws_X9 hown hK hH 0 rfl rfl 3 (by decide) u_fl_X9_22 rfl dX9_membersOf_13 ?_
        refine lv_iload_n hx hb dX9_membersOf_16 rfl (lv_at hl 3 rfl) ?_
        obtain ⟨g2, h⟩ := dc_need h
        refine gk_iald hx hb hK hH 1 rfl (dk_in g2) dX9_membersOf_17 ?_
        refine lv_iload_n hx hb dX9_membersOf_18 rfl (lv_at hl 1 rfl) ?_
        refine lv_icmp_ne (tgt := 28) hx hb dX9_membersOf_19 (by decide) (fun c3 => ?_) (fun c3 => ?_)
        · replace h := dc_neg c3 h
          refine lv_iinc (v := (y4_3 + (1 : Int32))) (lv' := [(3, .int (y4_3 + (1 : Int32))), (0, .ref a_t), (1, .int x1), (2, .int y4_2)]) hx hb dX9_membersOf_28 hl (k := 3) rfl rfl (by decide) rfl (fun ls hl => ?_)
          refine lv_goto (tgt := 4) hx hb dX9_membersOf_31 (by decide) ?_
          exact ih kf y4_2 (y4_3 + (1 : Int32)) h kk H locs ls hH (lv_sub hl [1, 2, 3, 0] rfl)
        · replace h := dc_pos c3 h
          refine lv_iload_n hx hb dX9_membersOf_22 rfl (lv_at hl 2 rfl) ?_
          refine lv_iconst (v := 1) hx hb dX9_membersOf_23 (by decide) ?_
          refine lv_iload_n hx hb dX9_membersOf_24 rfl (lv_at hl 3 rfl) ?_
          refine lv_ishl hx hb dX9_membersOf_25 ?_
          refine lv_ior hx hb dX9_membersOf_26 ?_
          refine lv_istore_n (lv' := [(2, .int (y4_2 ||| ((1 : Int32) <<< (y4_3 &&& 31)))), (0, .ref a_t), (1, .int x1), (3, .int y4_3)]) hx hb dX9_membersOf_27 rfl hl (by decide) rfl (fun ls hl => ?_)
          refine lv_iinc (v := (y4_3 + (1 : Int32))) (lv' := [(3, .int (y4_3 + (1 : Int32))), (2, .int (y4_2 ||| ((1 : Int32) <<< (y4_3 &&& 31)))), (0, .ref a_t), (1, .int x1)]) hx hb dX9_membersOf_28 hl (k := 3) rfl rfl (by decide) rfl (fun ls hl => ?_)
          refine lv_goto (tgt := 4) hx hb dX9_membersOf_31 (by decide) ?_
          exact ih kf (y4_2 ||| ((1 : Int32) <<< (y4_3 &&& 31))) (y4_3 + (1 : Int32)) h kk H locs ls hH (lv_sub hl [2, 3, 1, 0] rfl)
  rw [fX9_membersOf] at h
  refine lv_iconst (v := 0) hx hb dX9_membersOf_0 (by decide) ?_
  refine lv_istore_n (lv' := [(2, .int (0 : Int32)), (0, .ref a_t), (1, .int x1)]) hx hb dX9_membersOf_1 rfl hl (by decide) rfl (fun ls hl => ?_)
  refine lv_iconst (v := 0) hx hb dX9_membersOf_2 (by decide) ?_
  refine lv_istore_n (lv' := [(3, .int (0 : Int32)), (2, .int (0 : Int32)), (0, .ref a_t), (1, .int x1)]) hx hb dX9_membersOf_3 rfl hl (by decide) rfl (fun ls hl => ?_)
  refine L4 _ _ (0 : Int32) (0 : Int32) h (fun z4_2 H locs ls h hH hl => ?_) H locs ls hH (lv_sub hl [2, 3, 1, 0] rfl)
  refine lv_iload_n hx hb dX9_membersOf_34 rfl (lv_at hl 0 rfl) ?_
  have h := Option.some.inj h
  subst h
  exact ge_i hx hb hr hlocks hQ hK hH hAe rfl dX9_membersOf_35
theorem hd_X9_coresOf : yX9_coresOf.cls = RX9 ∧ yX9_coresOf.cls ≠ "java/lang/invoke/MethodHandle" ∧ yX9_coresOf.cls ≠ "java/lang/invoke/VarHandle" ∧ (parseMethodDescriptor yX9_coresOf.desc).map (fun d => d.parameters.length) = some 1 := by decide +kernel
set_option maxHeartbeats 4000000 in
set_option maxRecDepth 100000 in
theorem mX9_coresOf (l : Launch) (Ts : List Cond) (hTs : ∀ w, w ∈ Ts ↔ w ∈ uT) (D : va_G) (k : Nat → ClassId) (sz : Nat) (a_t : Nat) (a_t_population : Nat) (a_t_area : Nat) (a_t_community : Nat) (a_t_outer : Nat) (a_t_neighbors : Nat) (a_t_lengths : Nat) (a_t_plan : Nat) (t_community : Nat → Int32) (t_cores : Int32) (t_units : Int32) (v_t_districts : Value) (v_t_hasPlan : Value) (v_t_tolerance : Value) (x1 : Int32) (r : Int32) (h : fX9_coresOf t_community t_cores t_units x1 = some r) : Met l yX9_coresOf (Cond.code yX9_coresOf cX9_coresOf 2 (some .int) :: Ts) ({ frames := 1, cells := 0, slots := 0, locals := 23 } : Room) (preM D k [.ref a_t, .int x1] [(a_t, .inr (8, [.int t_units, .ref a_t_population, .ref a_t_area, .ref a_t_community, .ref a_t_outer, .ref a_t_neighbors, .ref a_t_lengths, .int t_cores, v_t_districts, v_t_tolerance, v_t_hasPlan, .ref a_t_plan])), (a_t_community, .inl (k 0, 12, .inl t_community))] sz) (postI D k r [(a_t, .inr (8, [.int t_units, .ref a_t_population, .ref a_t_area, .ref a_t_community, .ref a_t_outer, .ref a_t_neighbors, .ref a_t_lengths, .int t_cores, v_t_districts, v_t_tolerance, v_t_hasPlan, .ref a_t_plan])), (a_t_community, .inl (k 0, 12, .inl t_community))] [(a_t, .inr (8, [.int t_units, .ref a_t_population, .ref a_t_area, .ref a_t_community, .ref a_t_outer, .ref a_t_neighbors, .ref a_t_lengths, .int t_cores, v_t_districts, v_t_tolerance, v_t_hasPlan, .ref a_t_plan])), (a_t_community, .inl (k 0, 12, .inl t_community))] sz) 0 0 (va_A [(a_t, .inr (8, [.int t_units, .ref a_t_population, .ref a_t_area, .ref a_t_community, .ref a_t_outer, .ref a_t_neighbors, .ref a_t_lengths, .int t_cores, v_t_districts, v_t_tolerance, v_t_hasPlan, .ref a_t_plan])), (a_t_community, .inl (k 0, 12, .inl t_community))] sz) := by
  refine Met.ofW (cc := cX9_coresOf) (maxL := 2) (ret := (some .int)) (by decide) rfl ?_
  intro p e s m args below meth c s₁ B hml hv
  obtain ⟨rfl, hsz, hP, hK, hD0⟩ := hv
  have hx := B.exec
  have hb := B.bytes
  have hr := B.returns
  have hts0 := atoms_spec (ws := (Cond.code yX9_coresOf cX9_coresOf 2 (some .int) :: Ts)) B.pre
  have hts : ∀ w ∈ uT, w.before _ s = true := fun w h => hts0 w (List.mem_cons_of_mem _ ((hTs w).mpr h))
  clear hts0
  have hown : s.vm.findClass RX9 = some m.cls := findClass_of_methodNamed B.named
  have hlocks := B.notSynchronized
  subst hsz
  have hD := hD0.self (sz := s.heap.size)
  generalize hAe : va_A [(a_t, .inr (8, [.int t_units, .ref a_t_population, .ref a_t_area, .ref a_t_community, .ref a_t_outer, .ref a_t_neighbors, .ref a_t_lengths, .int t_cores, v_t_districts, v_t_tolerance, v_t_hasPlan, .ref a_t_plan])), (a_t_community, .inl (k 0, 12, .inl t_community))] s.heap.size = A at hD ⊢
  have hA : ∀ q : Nat, s.heap.size ≤ q → A q := fun q h => by rw [← hAe]; exact Or.inr h
  have hH : HOK D A s.heap [(a_t, .inr (8, [.int t_units, .ref a_t_population, .ref a_t_area, .ref a_t_community, .ref a_t_outer, .ref a_t_neighbors, .ref a_t_lengths, .int t_cores, v_t_districts, v_t_tolerance, v_t_hasPlan, .ref a_t_plan])), (a_t_community, .inl (k 0, 12, .inl t_community))] s.heap [] := ⟨hP, hD, va_S.rf⟩
  have hl := lv_entry ([.ref a_t, .int x1]) (n := 2) (Nat.le_of_ble_eq_true rfl)
  rw [lg_entry_eq]
  generalize (lg_sl ([.ref a_t, .int x1]) ++ List.replicate (2 - (lg_sl ([.ref a_t, .int x1])).length) Slot.unset).toArray = ls at hl ⊢
  have hl : lv_has ls 2 [(0, .ref a_t), (1, .int x1)] := hl
  generalize hQ : MQ below (postI D k r [(a_t, .inr (8, [.int t_units, .ref a_t_population, .ref a_t_area, .ref a_t_community, .ref a_t_outer, .ref a_t_neighbors, .ref a_t_lengths, .int t_cores, v_t_districts, v_t_tolerance, v_t_hasPlan, .ref a_t_plan])), (a_t_community, .inl (k 0, 12, .inl t_community))] [(a_t, .inr (8, [.int t_units, .ref a_t_population, .ref a_t_area, .ref a_t_community, .ref a_t_outer, .ref a_t_neighbors, .ref a_t_lengths, .int t_cores, v_t_districts, v_t_tolerance, v_t_hasPlan, .ref a_t_plan])), (a_t_community, .inl (k 0, 12, .inl t_community))] s.heap.size) (List.toArray [.ref a_t, .int x1]) s 0 0 A = Q
  clear hP hD hD0
  suffices K : ∀ (H : Heap) (locs : List Loc), HOK D A s.heap [(a_t, .inr (8, [.int t_units, .ref a_t_population, .ref a_t_area, .ref a_t_community, .ref a_t_outer, .ref a_t_neighbors, .ref a_t_lengths, .int t_cores, v_t_districts, v_t_tolerance, v_t_hasPlan, .ref a_t_plan])), (a_t_community, .inl (k 0, 12, .inl t_community))] H locs → W p l e ({ frames := 1, cells := 0, slots := 0, locals := 23 } : Room) s m (List.toArray [.ref a_t, .int x1]) below meth c H locs 0 0 Q (F0 m 0 ls []) from K s.heap [] hH
  intro H locs hH
  rw [fX9_coresOf] at h
  refine lv_aload_n hx hb dX9_coresOf_0 rfl (lv_at hl 0 rfl) ?_
  refine lv_iload_n hx hb dX9_coresOf_1 rfl (lv_at hl 1 rfl) ?_
  obtain ⟨q1, hqq1, h⟩ := dc_bind h
  refine gc_Vi (ws' := [(a_t, .inr (8, [.int t_units, .ref a_t_population, .ref a_t_area, .ref a_t_community, .ref a_t_outer, .ref a_t_neighbors, .ref a_t_lengths, .int t_cores, v_t_districts, v_t_tolerance, v_t_hasPlan, .ref a_t_plan])), (a_t_community, .inl (k 0, 12, .inl t_community))]) (isC := [0, 1]) (isR := []) (As := [.int x1]) (rest := []) (n := 1) (ci := 8) (cq := (RX9, TX9, 12)) hTs ⟨hx, hb, hml, hown, hts⟩ (mX9_membersOf l Ts hTs D k H.size a_t a_t_population a_t_area a_t_community a_t_outer a_t_neighbors a_t_lengths a_t_plan t_community t_units (.int t_cores) v_t_districts v_t_hasPlan v_t_tolerance x1 q1 hqq1) u_ml_X9_92 u_im_X9_membersOf u_se_X9_membersOf u_in_X9 u_co_X9_membersOf hd_X9_membersOf ⟨Nat.le_of_ble_eq_true rfl, Nat.le_of_ble_eq_true rfl⟩ ⟨rfl, rfl⟩ hK hH hA ⟨rfl, rfl, rfl, rfl, rfl, rfl⟩ rfl rfl rfl rfl hl.1 (by decide) dX9_coresOf_2 ⟨Nat.le_of_ble_eq_true rfl, Nat.le_of_ble_eq_true rfl⟩ (fun H locs hH => ?_)
  refine lv_aload_n hx hb dX9_coresOf_5 rfl (lv_at hl 0 rfl) ?_
  refine gk_get (ci := 8) (C := RX9) (T := TX9) (N := 12) hx hb hts u_ws_X9 hown hK hH 0 rfl rfl 7 (by decide) u_fl_X9_34 rfl dX9_coresOf_6 ?_
  refine lv_iand hx hb dX9_coresOf_9 ?_
  have h := Option.some.inj h
  subst h
  exact ge_i hx hb hr hlocks hQ hK hH hAe rfl dX9_coresOf_10
theorem hd_X9_splitsCores : yX9_splitsCores.cls = RX9 ∧ yX9_splitsCores.cls ≠ "java/lang/invoke/MethodHandle" ∧ yX9_splitsCores.cls ≠ "java/lang/invoke/VarHandle" ∧ (parseMethodDescriptor yX9_splitsCores.desc).map (fun d => d.parameters.length) = some 1 := by decide +kernel
set_option maxHeartbeats 4000000 in
set_option maxRecDepth 100000 in
theorem mX9_splitsCores (l : Launch) (Ts : List Cond) (hTs : ∀ w, w ∈ Ts ↔ w ∈ uT) (D : va_G) (k : Nat → ClassId) (sz : Nat) (a_t : Nat) (a_t_population : Nat) (a_t_area : Nat) (a_t_community : Nat) (a_t_outer : Nat) (a_t_neighbors : Nat) (a_t_lengths : Nat) (a_t_plan : Nat) (t_community : Nat → Int32) (t_cores : Int32) (t_units : Int32) (v_t_districts : Value) (v_t_hasPlan : Value) (v_t_tolerance : Value) (x1 : Int32) (r : Int32) (h : fX9_splitsCores t_community t_cores t_units x1 = some r) : Met l yX9_splitsCores (Cond.code yX9_splitsCores cX9_splitsCores 5 (some .boolean) :: Ts) ({ frames := 2, cells := 0, slots := 0, locals := 44 } : Room) (preM D k [.ref a_t, .int x1] [(a_t, .inr (8, [.int t_units, .ref a_t_population, .ref a_t_area, .ref a_t_community, .ref a_t_outer, .ref a_t_neighbors, .ref a_t_lengths, .int t_cores, v_t_districts, v_t_tolerance, v_t_hasPlan, .ref a_t_plan])), (a_t_community, .inl (k 0, 12, .inl t_community))] sz) (postI D k r [(a_t, .inr (8, [.int t_units, .ref a_t_population, .ref a_t_area, .ref a_t_community, .ref a_t_outer, .ref a_t_neighbors, .ref a_t_lengths, .int t_cores, v_t_districts, v_t_tolerance, v_t_hasPlan, .ref a_t_plan])), (a_t_community, .inl (k 0, 12, .inl t_community))] [(a_t, .inr (8, [.int t_units, .ref a_t_population, .ref a_t_area, .ref a_t_community, .ref a_t_outer, .ref a_t_neighbors, .ref a_t_lengths, .int t_cores, v_t_districts, v_t_tolerance, v_t_hasPlan, .ref a_t_plan])), (a_t_community, .inl (k 0, 12, .inl t_community))] sz) 0 0 (va_A [(a_t, .inr (8, [.int t_units, .ref a_t_population, .ref a_t_area, .ref a_t_community, .ref a_t_outer, .ref a_t_neighbors, .ref a_t_lengths, .int t_cores, v_t_districts, v_t_tolerance, v_t_hasPlan, .ref a_t_plan])), (a_t_community, .inl (k 0, 12, .inl t_community))] sz) := by
  refine Met.ofW (cc := cX9_splitsCores) (maxL := 5) (ret := (some .boolean)) (by decide) rfl ?_
  intro p e s m args below meth c s₁ B hml hv
  obtain ⟨rfl, hsz, hP, hK, hD0⟩ := hv
  have hx := B.exec
  have hb := B.bytes
  have hr := B.returns
  have hts0 := atoms_spec (ws := (Cond.code yX9_splitsCores cX9_splitsCores 5 (some .boolean) :: Ts)) B.pre
  have hts : ∀ w ∈ uT, w.before _ s = true := fun w h => hts0 w (List.mem_cons_of_mem _ ((hTs w).mpr h))
  clear hts0
  have hown : s.vm.findClass RX9 = some m.cls := findClass_of_methodNamed B.named
  have hlocks := B.notSynchronized
  subst hsz
  have hD := hD0.self (sz := s.heap.size)
  generalize hAe : va_A [(a_t, .inr (8, [.int t_units, .ref a_t_population, .ref a_t_area, .ref a_t_community, .ref a_t_outer, .ref a_t_neighbors, .ref a_t_lengths, .int t_cores, v_t_districts, v_t_tolerance, v_t_hasPlan, .ref a_t_plan])), (a_t_community, .inl (k 0, 12, .inl t_community))] s.heap.size = A at hD ⊢
  have hA : ∀ q : Nat, s.heap.size ≤ q → A q := fun q h => by rw [← hAe]; exact Or.inr h
  have hH : HOK D A s.heap [(a_t, .inr (8, [.int t_units, .ref a_t_population, .ref a_t_area, .ref a_t_community, .ref a_t_outer, .ref a_t_neighbors, .ref a_t_lengths, .int t_cores, v_t_districts, v_t_tolerance, v_t_hasPlan, .ref a_t_plan])), (a_t_community, .inl (k 0, 12, .inl t_community))] s.heap [] := ⟨hP, hD, va_S.rf⟩
  have hl := lv_entry ([.ref a_t, .int x1]) (n := 5) (Nat.le_of_ble_eq_true rfl)
  rw [lg_entry_eq]
  generalize (lg_sl ([.ref a_t, .int x1]) ++ List.replicate (5 - (lg_sl ([.ref a_t, .int x1])).length) Slot.unset).toArray = ls at hl ⊢
  have hl : lv_has ls 5 [(0, .ref a_t), (1, .int x1)] := hl
  generalize hQ : MQ below (postI D k r [(a_t, .inr (8, [.int t_units, .ref a_t_population, .ref a_t_area, .ref a_t_community, .ref a_t_outer, .ref a_t_neighbors, .ref a_t_lengths, .int t_cores, v_t_districts, v_t_tolerance, v_t_hasPlan, .ref a_t_plan])), (a_t_community, .inl (k 0, 12, .inl t_community))] [(a_t, .inr (8, [.int t_units, .ref a_t_population, .ref a_t_area, .ref a_t_community, .ref a_t_outer, .ref a_t_neighbors, .ref a_t_lengths, .int t_cores, v_t_districts, v_t_tolerance, v_t_hasPlan, .ref a_t_plan])), (a_t_community, .inl (k 0, 12, .inl t_community))] s.heap.size) (List.toArray [.ref a_t, .int x1]) s 0 0 A = Q
  clear hP hD hD0
  suffices K : ∀ (H : Heap) (locs : List Loc), HOK D A s.heap [(a_t, .inr (8, [.int t_units, .ref a_t_population, .ref a_t_area, .ref a_t_community, .ref a_t_outer, .ref a_t_neighbors, .ref a_t_lengths, .int t_cores, v_t_districts, v_t_tolerance, v_t_hasPlan, .ref a_t_plan])), (a_t_community, .inl (k 0, 12, .inl t_community))] H locs → W p l e ({ frames := 2, cells := 0, slots := 0, locals := 44 } : Room) s m (List.toArray [.ref a_t, .int x1]) below meth c H locs 0 0 Q (F0 m 0 ls []) from K s.heap [] hH
  intro H locs hH
  have L2 : ∀ (n : Nat), ∀ (kf : Option (Int32)) (y2_2 : Int32), fX9_splitsCores_L2 t_community t_cores t_units x1 n kf y2_2 = some r → (∀ (H : Heap) (locs : List Loc) (ls : Array Slot), kf = some r → HOK D A s.heap [(a_t, .inr (8, [.int t_units, .ref a_t_population, .ref a_t_area, .ref a_t_community, .ref a_t_outer, .ref a_t_neighbors, .ref a_t_lengths, .int t_cores, v_t_districts, v_t_tolerance, v_t_hasPlan, .ref a_t_plan])), (a_t_community, .inl (k 0, 12, .inl t_community))] H locs → lv_has ls 5 [] → W p l e ({ frames := 2, cells := 0, slots := 0, locals := 44 } : Room) s m (List.toArray [.ref a_t, .int x1]) below meth c H locs 0 0 Q (F0 m 37 ls [])) → ∀ (H : Heap) (locs : List Loc) (ls : Array Slot), HOK D A s.heap [(a_t, .inr (8, [.int t_units, .ref a_t_population, .ref a_t_area, .ref a_t_community, .ref a_t_outer, .ref a_t_neighbors, .ref a_t_lengths, .int t_cores, v_t_districts, v_t_tolerance, v_t_hasPlan, .ref a_t_plan])), (a_t_community, .inl (k 0, 12, .inl t_community))] H locs → lv_has ls 5 [(0, .ref a_t), (1, .int x1), (2, .int y2_2)] → W p l e ({ frames := 2, cells := 0, slots := 0, locals := 44 } : Room) s m (List.toArray [.ref a_t, .int x1]) below meth c H locs 0 0 Q (F0 m 2 ls []) := by
    intro n
    induction n with
    | zero =>
      intro kf y2_2 h
      exact absurd h (by rw [fX9_splitsCores_L2]; exact fun q => by cases q)
    | succ n ih =>
      intro kf y2_2 h kk H locs ls hH hl
      rw [fX9_splitsCores_L2] at h
      refine lv_iload_n hx hb dX9_splitsCores_2 rfl (lv_at hl 2 rfl) ?_
      refine lv_iconst (v := 4) hx hb dX9_splitsCores_3 (by decide) ?_
      refine lv_icmp_ge (tgt := 37) hx hb dX9_splitsCores_4 (by decide) (fun c1 => ?_) (fun c1 => ?_)
      · replace h := dc_pos c1 h
        exact kk  H locs ls h hH (lv_sub hl [] rfl)
      · replace h := dc_neg c1 h
        refine lv_aload_n hx hb dX9_splitsCores_7 rfl (lv_at hl 0 rfl) ?_
        refine lv_iload_n hx hb dX9_splitsCores_8 rfl (lv_at hl 2 rfl) ?_
        obtain ⟨q2, hqq2, h⟩ := dc_bind h
        refine gc_Vi (ws' := [(a_t, .inr (8, [.int t_units, .ref a_t_population, .ref a_t_area, .ref a_t_community, .ref a_t_outer, .ref a_t_neighbors, .ref a_t_lengths, .int t_cores, v_t_districts, v_t_tolerance, v_t_hasPlan, .ref a_t_plan])), (a_t_community, .inl (k 0, 12, .inl t_community))]) (isC := [0, 1]) (isR := []) (As := [.int y2_2]) (rest := []) (n := 1) (ci := 8) (cq := (RX9, TX9, 12)) hTs ⟨hx, hb, hml, hown, hts⟩ (mX9_coresOf l Ts hTs D k H.size a_t a_t_population a_t_area a_t_community a_t_outer a_t_neighbors a_t_lengths a_t_plan t_community t_cores t_units v_t_districts v_t_hasPlan v_t_tolerance y2_2 q2 hqq2) u_ml_X9_113 u_im_X9_coresOf u_se_X9_coresOf u_in_X9 u_co_X9_coresOf hd_X9_coresOf ⟨Nat.le_of_ble_eq_true rfl, Nat.le_of_ble_eq_true rfl⟩ ⟨rfl, rfl⟩ hK hH hA ⟨rfl, rfl, rfl, rfl, rfl, rfl⟩ rfl rfl rfl rfl hl.1 (by decide) dX9_splitsCores_9 ⟨Nat.le_of_ble_eq_true rfl, Nat.le_of_ble_eq_true rfl⟩ (fun H locs hH => ?_)
        refine lv_istore_n (lv' := [(3, .int q2), (0, .ref a_t), (1, .int x1), (2, .int y2_2)]) hx hb dX9_splitsCores_12 rfl hl (by decide) rfl (fun ls hl => ?_)
        refine lv_iload_n hx hb dX9_splitsCores_13 rfl (lv_at hl 0 rfl) ?_
        refine lv_iload_n hx hb dX9_splitsCores_14 rfl (lv_at hl 2 rfl) ?_
        refine lv_iand hx hb dX9_splitsCores_15 ?_
        refine lv_istore (lv' := [(4, .int (q2 &&& x1)), (3, .int q2), (0, .ref a_t), (1, .int x1), (2, .int y2_2)]) hx hb dX9_splitsCores_16 hl (by decide) rfl (fun ls hl => ?_)
        refine lv_iload hx hb dX9_splitsCores_18 (lv_at hl 0 rfl) ?_
        refine lv_if_eq (tgt := 31) hx hb dX9_splitsCores_20 (by decide) (fun c3 => ?_) (fun c3 => ?_)
        · replace h := dc_pos c3 h
          refine lv_iinc (v := (y2_2 + (1 : Int32))) (lv' := [(2, .int (y2_2 + (1 : Int32))), (4, .int (q2 &&& x1)), (3, .int q2), (0, .ref a_t), (1, .int x1)]) hx hb dX9_splitsCores_31 hl (k := 4) rfl rfl (by decide) rfl (fun ls hl => ?_)
          refine lv_goto (tgt := 2) hx hb dX9_splitsCores_34 (by decide) ?_
          exact ih kf (y2_2 + (1 : Int32)) h kk H locs ls hH (lv_sub hl [3, 4, 0] rfl)
        · replace h := dc_neg c3 h
          refine lv_iload hx hb dX9_splitsCores_23 (lv_at hl 0 rfl) ?_
          refine lv_iload_n hx hb dX9_splitsCores_25 rfl (lv_at hl 1 rfl) ?_
          refine lv_icmp_eq (tgt := 31) hx hb dX9_splitsCores_26 (by decide) (fun c4 => ?_) (fun c4 => ?_)
          · replace h := dc_pos c4 h
            refine lv_iinc (v := (y2_2 + (1 : Int32))) (lv' := [(2, .int (y2_2 + (1 : Int32))), (4, .int (q2 &&& x1)), (3, .int q2), (0, .ref a_t), (1, .int x1)]) hx hb dX9_splitsCores_31 hl (k := 4) rfl rfl (by decide) rfl (fun ls hl => ?_)
            refine lv_goto (tgt := 2) hx hb dX9_splitsCores_34 (by decide) ?_
            exact ih kf (y2_2 + (1 : Int32)) h kk H locs ls hH (lv_sub hl [3, 4, 0] rfl)
          · replace h := dc_neg c4 h
            refine lv_iconst (v := 1) hx hb dX9_splitsCores_29 (by decide) ?_
            have h := Option.some.inj h
            subst h
            exact ge_z hx hb hr rfl hlocks hQ hK hH hAe rfl dX9_splitsCores_30
  rw [fX9_splitsCores] at h
  refine lv_iconst (v := 0) hx hb dX9_splitsCores_0 (by decide) ?_
  refine lv_istore_n (lv' := [(2, .int (0 : Int32)), (0, .ref a_t), (1, .int x1)]) hx hb dX9_splitsCores_1 rfl hl (by decide) rfl (fun ls hl => ?_)
  refine L2 _ _ (0 : Int32) h (fun  H locs ls h hH hl => ?_) H locs ls hH (lv_sub hl [1, 2, 0] rfl)
  refine lv_iconst (v := 0) hx hb dX9_splitsCores_37 (by decide) ?_
  have h := Option.some.inj h
  subst h
  exact ge_z hx hb hr rfl hlocks hQ hK hH hAe rfl dX9_splitsCores_38
theorem hd_X9_reach : yX9_reach.cls = RX9 ∧ yX9_reach.cls ≠ "java/lang/invoke/MethodHandle" ∧ yX9_reach.cls ≠ "java/lang/invoke/VarHandle" ∧ (parseMethodDescriptor yX9_reach.desc).map (fun d => d.parameters.length) = some 1 := by decide +kernel
set_option maxHeartbeats 4000000 in
set_option maxRecDepth 100000 in
theorem mX9_reach (l : Launch) (Ts : List Cond) (hTs : ∀ w, w ∈ Ts ↔ w ∈ uT) (D : va_G) (k : Nat → ClassId) (sz : Nat) (a_t : Nat) (a_t_population : Nat) (a_t_area : Nat) (a_t_community : Nat) (a_t_outer : Nat) (a_t_neighbors : Nat) (a_t_lengths : Nat) (a_t_plan : Nat) (t_neighbors : Nat → Int32) (t_units : Int32) (v_t_cores : Value) (v_t_districts : Value) (v_t_hasPlan : Value) (v_t_tolerance : Value) (x1 : Int32) (r : Int32) (h : fX9_reach t_neighbors t_units x1 = some r) : Met l yX9_reach (Cond.code yX9_reach cX9_reach 6 (some .int) :: Ts) ({ frames := 0, cells := 0, slots := 0, locals := 0 } : Room) (preM D k [.ref a_t, .int x1] [(a_t, .inr (8, [.int t_units, .ref a_t_population, .ref a_t_area, .ref a_t_community, .ref a_t_outer, .ref a_t_neighbors, .ref a_t_lengths, v_t_cores, v_t_districts, v_t_tolerance, v_t_hasPlan, .ref a_t_plan])), (a_t_neighbors, .inl (k 0, 12, .inl t_neighbors))] sz) (postI D k r [(a_t, .inr (8, [.int t_units, .ref a_t_population, .ref a_t_area, .ref a_t_community, .ref a_t_outer, .ref a_t_neighbors, .ref a_t_lengths, v_t_cores, v_t_districts, v_t_tolerance, v_t_hasPlan, .ref a_t_plan])), (a_t_neighbors, .inl (k 0, 12, .inl t_neighbors))] [(a_t, .inr (8, [.int t_units, .ref a_t_population, .ref a_t_area, .ref a_t_community, .ref a_t_outer, .ref a_t_neighbors, .ref a_t_lengths, v_t_cores, v_t_districts, v_t_tolerance, v_t_hasPlan, .ref a_t_plan])), (a_t_neighbors, .inl (k 0, 12, .inl t_neighbors))] sz) 0 0 (va_A [(a_t, .inr (8, [.int t_units, .ref a_t_population, .ref a_t_area, .ref a_t_community, .ref a_t_outer, .ref a_t_neighbors, .ref a_t_lengths, v_t_cores, v_t_districts, v_t_tolerance, v_t_hasPlan, .ref a_t_plan])), (a_t_neighbors, .inl (k 0, 12, .inl t_neighbors))] sz) := by
  refine Met.ofW (cc := cX9_reach) (maxL := 6) (ret := (some .int)) (by decide) rfl ?_
  intro p e s m args below meth c s₁ B hml hv
  obtain ⟨rfl, hsz, hP, hK, hD0⟩ := hv
  have hx := B.exec
  have hb := B.bytes
  have hr := B.returns
  have hts0 := atoms_spec (ws := (Cond.code yX9_reach cX9_reach 6 (some .int) :: Ts)) B.pre
  have hts : ∀ w ∈ uT, w.before _ s = true := fun w h => hts0 w (List.mem_cons_of_mem _ ((hTs w).mpr h))
  clear hts0
  have hown : s.vm.findClass RX9 = some m.cls := findClass_of_methodNamed B.named
  have hlocks := B.notSynchronized
  subst hsz
  have hD := hD0.self (sz := s.heap.size)
  generalize hAe : va_A [(a_t, .inr (8, [.int t_units, .ref a_t_population, .ref a_t_area, .ref a_t_community, .ref a_t_outer, .ref a_t_neighbors, .ref a_t_lengths, v_t_cores, v_t_districts, v_t_tolerance, v_t_hasPlan, .ref a_t_plan])), (a_t_neighbors, .inl (k 0, 12, .inl t_neighbors))] s.heap.size = A at hD ⊢
  have hA : ∀ q : Nat, s.heap.size ≤ q → A q := fun q h => by rw [← hAe]; exact Or.inr h
  have hH : HOK D A s.heap [(a_t, .inr (8, [.int t_units, .ref a_t_population, .ref a_t_area, .ref a_t_community, .ref a_t_outer, .ref a_t_neighbors, .ref a_t_lengths, v_t_cores, v_t_districts, v_t_tolerance, v_t_hasPlan, .ref a_t_plan])), (a_t_neighbors, .inl (k 0, 12, .inl t_neighbors))] s.heap [] := ⟨hP, hD, va_S.rf⟩
  have hl := lv_entry ([.ref a_t, .int x1]) (n := 6) (Nat.le_of_ble_eq_true rfl)
  rw [lg_entry_eq]
  generalize (lg_sl ([.ref a_t, .int x1]) ++ List.replicate (6 - (lg_sl ([.ref a_t, .int x1])).length) Slot.unset).toArray = ls at hl ⊢
  have hl : lv_has ls 6 [(0, .ref a_t), (1, .int x1)] := hl
  generalize hQ : MQ below (postI D k r [(a_t, .inr (8, [.int t_units, .ref a_t_population, .ref a_t_area, .ref a_t_community, .ref a_t_outer, .ref a_t_neighbors, .ref a_t_lengths, v_t_cores, v_t_districts, v_t_tolerance, v_t_hasPlan, .ref a_t_plan])), (a_t_neighbors, .inl (k 0, 12, .inl t_neighbors))] [(a_t, .inr (8, [.int t_units, .ref a_t_population, .ref a_t_area, .ref a_t_community, .ref a_t_outer, .ref a_t_neighbors, .ref a_t_lengths, v_t_cores, v_t_districts, v_t_tolerance, v_t_hasPlan, .ref a_t_plan])), (a_t_neighbors, .inl (k 0, 12, .inl t_neighbors))] s.heap.size) (List.toArray [.ref a_t, .int x1]) s 0 0 A = Q
  clear hP hD hD0
  suffices K : ∀ (H : Heap) (locs : List Loc), HOK D A s.heap [(a_t, .inr (8, [.int t_units, .ref a_t_population, .ref a_t_area, .ref a_t_community, .ref a_t_outer, .ref a_t_neighbors, .ref a_t_lengths, v_t_cores, v_t_districts, v_t_tolerance, v_t_hasPlan, .ref a_t_plan])), (a_t_neighbors, .inl (k 0, 12, .inl t_neighbors))] H locs → W p l e ({ frames := 0, cells := 0, slots := 0, locals := 0 } : Room) s m (List.toArray [.ref a_t, .int x1]) below meth c H locs 0 0 Q (F0 m 0 ls []) from K s.heap [] hH
  intro H locs hH
  have L19 : ∀ (y19_3 : Int32) (y19_4 : Int32) (n : Nat), ∀ (kf : Int32 → Option (Int32)) (y19_2 : Int32) (y19_5 : Int32), fX9_reach_L19 t_neighbors t_units x1 y19_3 y19_4 n kf y19_2 y19_5 = some r → (∀ (z19_2 : Int32) (H : Heap) (locs : List Loc) (ls : Array Slot), kf z19_2 = some r → HOK D A s.heap [(a_t, .inr (8, [.int t_units, .ref a_t_population, .ref a_t_area, .ref a_t_community, .ref a_t_outer, .ref a_t_neighbors, .ref a_t_lengths, v_t_cores, v_t_districts, v_t_tolerance, v_t_hasPlan, .ref a_t_plan])), (a_t_neighbors, .inl (k 0, 12, .inl t_neighbors))] H locs → lv_has ls 6 [(0, .ref a_t), (1, .int x1), (2, .int z19_2), (3, .int y19_3), (4, .int y19_4)] → W p l e ({ frames := 0, cells := 0, slots := 0, locals := 0 } : Room) s m (List.toArray [.ref a_t, .int x1]) below meth c H locs 0 0 Q (F0 m 55 ls [])) → ∀ (H : Heap) (locs : List Loc) (ls : Array Slot), HOK D A s.heap [(a_t, .inr (8, [.int t_units, .ref a_t_population, .ref a_t_area, .ref a_t_community, .ref a_t_outer, .ref a_t_neighbors, .ref a_t_lengths, v_t_cores, v_t_districts, v_t_tolerance, v_t_hasPlan, .ref a_t_plan])), (a_t_neighbors, .inl (k 0, 12, .inl t_neighbors))] H locs → lv_has ls 6 [(0, .ref a_t), (1, .int x1), (2, .int y19_2), (3, .int y19_3), (4, .int y19_4), (5, .int y19_5)] → W p l e ({ frames := 0, cells := 0, slots := 0, locals := 0 } : Room) s m (List.toArray [.ref a_t, .int x1]) below meth c H locs 0 0 Q (F0 m 19 ls []) := by
    intro y19_3 y19_4 n
    induction n with
    | zero =>
      intro kf y19_2 y19_5 h
      exact absurd h (by rw [fX9_reach_L19]; exact fun q => by cases q)
    | succ n ih =>
      intro kf y19_2 y19_5 h kk H locs ls hH hl
      rw [fX9_reach_L19] at h
      refine lv_iload hx hb dX9_reach_19 (lv_at hl 5 rfl) ?_
      refine lv_aload_n hx hb dX9_reach_21 rfl (lv_at hl 0 rfl) ?_
      refine gk_get (ci := 8) (C := RX9) (T := TX9) (N := 12) hx hb hts u_ws_X9 hown hK hH 0 rfl rfl 0 (by decide) u_fl_X9_9 rfl dX9_reach_22 ?_
      refine lv_icmp_ge (tgt := 55) hx hb dX9_reach_25 (by decide) (fun c2 => ?_) (fun c2 => ?_)
      · replace h := dc_pos c2 h
        exact kk y19_2 H locs ls h hH (lv_sub hl [0, 1, 2, 3, 4] rfl)
      · replace h := dc_neg c2 h
        refine lv_iload_n hx hb dX9_reach_28 rfl (lv_at hl 2 rfl) ?_
        refine lv_iload hx hb dX9_reach_29 (lv_at hl 5 rfl) ?_
        refine lv_ishr hx hb dX9_reach_31 ?_
        refine lv_iconst (v := 1) hx hb dX9_reach_32 (by decide) ?_
        refine lv_iand hx hb dX9_reach_33 ?_
        refine lv_if_eq (tgt := 49) hx hb dX9_reach_34 (by decide) (fun c3 => ?_) (fun c3 => ?_)
        · replace h := dc_pos c3 h
          refine lv_iinc (v := (y19_5 + (1 : Int32))) (lv' := [(5, .int (y19_5 + (1 : Int32))), (0, .ref a_t), (1, .int x1), (2, .int y19_2), (3, .int y19_3), (4, .int y19_4)]) hx hb dX9_reach_49 hl (k := 5) rfl rfl (by decide) rfl (fun ls hl => ?_)
          refine lv_goto (tgt := 19) hx hb dX9_reach_52 (by decide) ?_
          exact ih kf y19_2 (y19_5 + (1 : Int32)) h kk H locs ls hH (lv_sub hl [1, 2, 3, 4, 5, 0] rfl)
        · replace h := dc_neg c3 h
          refine lv_iload_n hx hb dX9_reach_37 rfl (lv_at hl 2 rfl) ?_
          refine lv_aload_n hx hb dX9_reach_38 rfl (lv_at hl 0 rfl) ?_
          refine gk_get (ci := 8) (C := RX9) (T := TX9) (N := 12) hx hb hts u_ws_X9 hown hK hH 0 rfl rfl 5 (by decide) u_fl_X9_28 rfl dX9_reach_39 ?_
          refine lv_iload hx hb dX9_reach_42 (lv_at hl 5 rfl) ?_
          obtain ⟨g4, h⟩ := dc_need h
          refine gk_iald hx hb hK hH 1 rfl (dk_in g4) dX9_reach_44 ?_
          refine lv_iload_n hx hb dX9_reach_45 rfl (lv_at hl 1 rfl) ?_
          refine lv_iand hx hb dX9_reach_46 ?_
          refine lv_ior hx hb dX9_reach_47 ?_
          refine lv_istore_n (lv' := [(2, .int (y19_2 ||| ((t_neighbors y19_5.toNatClampNeg) &&& x1))), (0, .ref a_t), (1, .int x1), (3, .int y19_3), (4, .int y19_4), (5, .int y19_5)]) hx hb dX9_reach_48 rfl hl (by decide) rfl (fun ls hl => ?_)
          refine lv_iinc (v := (y19_5 + (1 : Int32))) (lv' := [(5, .int (y19_5 + (1 : Int32))), (2, .int (y19_2 ||| ((t_neighbors y19_5.toNatClampNeg) &&& x1))), (0, .ref a_t), (1, .int x1), (3, .int y19_3), (4, .int y19_4)]) hx hb dX9_reach_49 hl (k := 5) rfl rfl (by decide) rfl (fun ls hl => ?_)
          refine lv_goto (tgt := 19) hx hb dX9_reach_52 (by decide) ?_
          exact ih kf (y19_2 ||| ((t_neighbors y19_5.toNatClampNeg) &&& x1)) (y19_5 + (1 : Int32)) h kk H locs ls hH (lv_sub hl [2, 3, 1, 4, 5, 0] rfl)
  have L7 : ∀ (n : Nat), ∀ (kf : Int32 → Option (Int32)) (y7_2 : Int32) (y7_3 : Int32), fX9_reach_L7 t_neighbors t_units x1 n kf y7_2 y7_3 = some r → (∀ (z7_2 : Int32) (H : Heap) (locs : List Loc) (ls : Array Slot), kf z7_2 = some r → HOK D A s.heap [(a_t, .inr (8, [.int t_units, .ref a_t_population, .ref a_t_area, .ref a_t_community, .ref a_t_outer, .ref a_t_neighbors, .ref a_t_lengths, v_t_cores, v_t_districts, v_t_tolerance, v_t_hasPlan, .ref a_t_plan])), (a_t_neighbors, .inl (k 0, 12, .inl t_neighbors))] H locs → lv_has ls 6 [(2, .int z7_2)] → W p l e ({ frames := 0, cells := 0, slots := 0, locals := 0 } : Room) s m (List.toArray [.ref a_t, .int x1]) below meth c H locs 0 0 Q (F0 m 70 ls [])) → ∀ (H : Heap) (locs : List Loc) (ls : Array Slot), HOK D A s.heap [(a_t, .inr (8, [.int t_units, .ref a_t_population, .ref a_t_area, .ref a_t_community, .ref a_t_outer, .ref a_t_neighbors, .ref a_t_lengths, v_t_cores, v_t_districts, v_t_tolerance, v_t_hasPlan, .ref a_t_plan])), (a_t_neighbors, .inl (k 0, 12, .inl t_neighbors))] H locs → lv_has ls 6 [(0, .ref a_t), (1, .int x1), (2, .int y7_2), (3, .int y7_3)] → W p l e ({ frames := 0, cells := 0, slots := 0, locals := 0 } : Room) s m (List.toArray [.ref a_t, .int x1]) below meth c H locs 0 0 Q (F0 m 7 ls []) := by
    intro n
    induction n with
    | zero =>
      intro kf y7_2 y7_3 h
      exact absurd h (by rw [fX9_reach_L7]; exact fun q => by cases q)
    | succ n ih =>
      intro kf y7_2 y7_3 h kk H locs ls hH hl
      rw [fX9_reach_L7] at h
      refine lv_iload_n hx hb dX9_reach_7 rfl (lv_at hl 3 rfl) ?_
      refine lv_bipush (v := 12) hx hb dX9_reach_8 (by decide) ?_
      refine lv_icmp_ge (tgt := 70) hx hb dX9_reach_10 (by decide) (fun c1 => ?_) (fun c1 => ?_)
      · replace h := dc_pos c1 h
        exact kk y7_2 H locs ls h hH (lv_sub hl [2] rfl)
      · replace h := dc_neg c1 h
        refine lv_iload_n hx hb dX9_reach_13 rfl (lv_at hl 2 rfl) ?_
        refine lv_istore (lv' := [(4, .int y7_2), (0, .ref a_t), (1, .int x1), (2, .int y7_2), (3, .int y7_3)]) hx hb dX9_reach_14 hl (by decide) rfl (fun ls hl => ?_)
        refine lv_iconst (v := 0) hx hb dX9_reach_16 (by decide) ?_
        refine lv_istore (lv' := [(5, .int (0 : Int32)), (4, .int y7_2), (0, .ref a_t), (1, .int x1), (2, .int y7_2), (3, .int y7_3)]) hx hb dX9_reach_17 hl (by decide) rfl (fun ls hl => ?_)
        refine L19 y7_3 y7_2 _ _ y7_2 (0 : Int32) h (fun z19_2 H locs ls h hH hl => ?_) H locs ls hH (lv_sub hl [2, 3, 4, 5, 1, 0] rfl)
        refine lv_iload_n hx hb dX9_reach_55 rfl (lv_at hl 2 rfl) ?_
        refine lv_iload hx hb dX9_reach_56 (lv_at hl 4 rfl) ?_
        refine lv_icmp_ne (tgt := 64) hx hb dX9_reach_58 (by decide) (fun c5 => ?_) (fun c5 => ?_)
        · replace h := dc_neg c5 h
          refine lv_iinc (v := (y7_3 + (1 : Int32))) (lv' := [(3, .int (y7_3 + (1 : Int32))), (0, .ref a_t), (1, .int x1), (2, .int z19_2), (4, .int y7_2)]) hx hb dX9_reach_64 hl (k := 3) rfl rfl (by decide) rfl (fun ls hl => ?_)
          refine lv_goto (tgt := 7) hx hb dX9_reach_67 (by decide) ?_
          exact ih kf z19_2 (y7_3 + (1 : Int32)) h kk H locs ls hH (lv_sub hl [1, 2, 3, 0] rfl)
        · replace h := dc_pos c5 h
          refine lv_goto (tgt := 70) hx hb dX9_reach_61 (by decide) ?_
          exact kk z19_2 H locs ls h hH (lv_sub hl [2] rfl)
  rw [fX9_reach] at h
  refine lv_iload_n hx hb dX9_reach_0 rfl (lv_at hl 1 rfl) ?_
  refine lv_iload_n hx hb dX9_reach_1 rfl (lv_at hl 1 rfl) ?_
  refine lv_ineg hx hb dX9_reach_2 ?_
  refine lv_iand hx hb dX9_reach_3 ?_
  refine lv_istore_n (lv' := [(2, .int (x1 &&& (-x1))), (0, .ref a_t), (1, .int x1)]) hx hb dX9_reach_4 rfl hl (by decide) rfl (fun ls hl => ?_)
  refine lv_iconst (v := 0) hx hb dX9_reach_5 (by decide) ?_
  refine lv_istore_n (lv' := [(3, .int (0 : Int32)), (2, .int (x1 &&& (-x1))), (0, .ref a_t), (1, .int x1)]) hx hb dX9_reach_6 rfl hl (by decide) rfl (fun ls hl => ?_)
  refine L7 _ _ (x1 &&& (-x1)) (0 : Int32) h (fun z7_2 H locs ls h hH hl => ?_) H locs ls hH (lv_sub hl [2, 3, 1, 0] rfl)
  refine lv_iload_n hx hb dX9_reach_70 rfl (lv_at hl 0 rfl) ?_
  have h := Option.some.inj h
  subst h
  exact ge_i hx hb hr hlocks hQ hK hH hAe rfl dX9_reach_71
theorem hd_X9_isContiguous : yX9_isContiguous.cls = RX9 ∧ yX9_isContiguous.cls ≠ "java/lang/invoke/MethodHandle" ∧ yX9_isContiguous.cls ≠ "java/lang/invoke/VarHandle" ∧ (parseMethodDescriptor yX9_isContiguous.desc).map (fun d => d.parameters.length) = some 1 := by decide +kernel
set_option maxHeartbeats 4000000 in
set_option maxRecDepth 100000 in
theorem mX9_isContiguous (l : Launch) (Ts : List Cond) (hTs : ∀ w, w ∈ Ts ↔ w ∈ uT) (D : va_G) (k : Nat → ClassId) (sz : Nat) (a_t : Nat) (a_t_population : Nat) (a_t_area : Nat) (a_t_community : Nat) (a_t_outer : Nat) (a_t_neighbors : Nat) (a_t_lengths : Nat) (a_t_plan : Nat) (t_neighbors : Nat → Int32) (t_units : Int32) (v_t_cores : Value) (v_t_districts : Value) (v_t_hasPlan : Value) (v_t_tolerance : Value) (x1 : Int32) (r : Int32) (h : fX9_isContiguous t_neighbors t_units x1 = some r) : Met l yX9_isContiguous (Cond.code yX9_isContiguous cX9_isContiguous 2 (some .boolean) :: Ts) ({ frames := 1, cells := 0, slots := 0, locals := 25 } : Room) (preM D k [.ref a_t, .int x1] [(a_t, .inr (8, [.int t_units, .ref a_t_population, .ref a_t_area, .ref a_t_community, .ref a_t_outer, .ref a_t_neighbors, .ref a_t_lengths, v_t_cores, v_t_districts, v_t_tolerance, v_t_hasPlan, .ref a_t_plan])), (a_t_neighbors, .inl (k 0, 12, .inl t_neighbors))] sz) (postI D k r [(a_t, .inr (8, [.int t_units, .ref a_t_population, .ref a_t_area, .ref a_t_community, .ref a_t_outer, .ref a_t_neighbors, .ref a_t_lengths, v_t_cores, v_t_districts, v_t_tolerance, v_t_hasPlan, .ref a_t_plan])), (a_t_neighbors, .inl (k 0, 12, .inl t_neighbors))] [(a_t, .inr (8, [.int t_units, .ref a_t_population, .ref a_t_area, .ref a_t_community, .ref a_t_outer, .ref a_t_neighbors, .ref a_t_lengths, v_t_cores, v_t_districts, v_t_tolerance, v_t_hasPlan, .ref a_t_plan])), (a_t_neighbors, .inl (k 0, 12, .inl t_neighbors))] sz) 0 0 (va_A [(a_t, .inr (8, [.int t_units, .ref a_t_population, .ref a_t_area, .ref a_t_community, .ref a_t_outer, .ref a_t_neighbors, .ref a_t_lengths, v_t_cores, v_t_districts, v_t_tolerance, v_t_hasPlan, .ref a_t_plan])), (a_t_neighbors, .inl (k 0, 12, .inl t_neighbors))] sz) := by
  refine Met.ofW (cc := cX9_isContiguous) (maxL := 2) (ret := (some .boolean)) (by decide) rfl ?_
  intro p e s m args below meth c s₁ B hml hv
  obtain ⟨rfl, hsz, hP, hK, hD0⟩ := hv
  have hx := B.exec
  have hb := B.bytes
  have hr := B.returns
  have hts0 := atoms_spec (ws := (Cond.code yX9_isContiguous cX9_isContiguous 2 (some .boolean) :: Ts)) B.pre
  have hts : ∀ w ∈ uT, w.before _ s = true := fun w h => hts0 w (List.mem_cons_of_mem _ ((hTs w).mpr h))
  clear hts0
  have hown : s.vm.findClass RX9 = some m.cls := findClass_of_methodNamed B.named
  have hlocks := B.notSynchronized
  subst hsz
  have hD := hD0.self (sz := s.heap.size)
  generalize hAe : va_A [(a_t, .inr (8, [.int t_units, .ref a_t_population, .ref a_t_area, .ref a_t_community, .ref a_t_outer, .ref a_t_neighbors, .ref a_t_lengths, v_t_cores, v_t_districts, v_t_tolerance, v_t_hasPlan, .ref a_t_plan])), (a_t_neighbors, .inl (k 0, 12, .inl t_neighbors))] s.heap.size = A at hD ⊢
  have hA : ∀ q : Nat, s.heap.size ≤ q → A q := fun q h => by rw [← hAe]; exact Or.inr h
  have hH : HOK D A s.heap [(a_t, .inr (8, [.int t_units, .ref a_t_population, .ref a_t_area, .ref a_t_community, .ref a_t_outer, .ref a_t_neighbors, .ref a_t_lengths, v_t_cores, v_t_districts, v_t_tolerance, v_t_hasPlan, .ref a_t_plan])), (a_t_neighbors, .inl (k 0, 12, .inl t_neighbors))] s.heap [] := ⟨hP, hD, va_S.rf⟩
  have hl := lv_entry ([.ref a_t, .int x1]) (n := 2) (Nat.le_of_ble_eq_true rfl)
  rw [lg_entry_eq]
  generalize (lg_sl ([.ref a_t, .int x1]) ++ List.replicate (2 - (lg_sl ([.ref a_t, .int x1])).length) Slot.unset).toArray = ls at hl ⊢
  have hl : lv_has ls 2 [(0, .ref a_t), (1, .int x1)] := hl
  generalize hQ : MQ below (postI D k r [(a_t, .inr (8, [.int t_units, .ref a_t_population, .ref a_t_area, .ref a_t_community, .ref a_t_outer, .ref a_t_neighbors, .ref a_t_lengths, v_t_cores, v_t_districts, v_t_tolerance, v_t_hasPlan, .ref a_t_plan])), (a_t_neighbors, .inl (k 0, 12, .inl t_neighbors))] [(a_t, .inr (8, [.int t_units, .ref a_t_population, .ref a_t_area, .ref a_t_community, .ref a_t_outer, .ref a_t_neighbors, .ref a_t_lengths, v_t_cores, v_t_districts, v_t_tolerance, v_t_hasPlan, .ref a_t_plan])), (a_t_neighbors, .inl (k 0, 12, .inl t_neighbors))] s.heap.size) (List.toArray [.ref a_t, .int x1]) s 0 0 A = Q
  clear hP hD hD0
  suffices K : ∀ (H : Heap) (locs : List Loc), HOK D A s.heap [(a_t, .inr (8, [.int t_units, .ref a_t_population, .ref a_t_area, .ref a_t_community, .ref a_t_outer, .ref a_t_neighbors, .ref a_t_lengths, v_t_cores, v_t_districts, v_t_tolerance, v_t_hasPlan, .ref a_t_plan])), (a_t_neighbors, .inl (k 0, 12, .inl t_neighbors))] H locs → W p l e ({ frames := 1, cells := 0, slots := 0, locals := 25 } : Room) s m (List.toArray [.ref a_t, .int x1]) below meth c H locs 0 0 Q (F0 m 0 ls []) from K s.heap [] hH
  intro H locs hH
  rw [fX9_isContiguous] at h
  refine lv_aload_n hx hb dX9_isContiguous_0 rfl (lv_at hl 0 rfl) ?_
  refine lv_iload_n hx hb dX9_isContiguous_1 rfl (lv_at hl 1 rfl) ?_
  obtain ⟨q1, hqq1, h⟩ := dc_bind h
  refine gc_Vi (ws' := [(a_t, .inr (8, [.int t_units, .ref a_t_population, .ref a_t_area, .ref a_t_community, .ref a_t_outer, .ref a_t_neighbors, .ref a_t_lengths, v_t_cores, v_t_districts, v_t_tolerance, v_t_hasPlan, .ref a_t_plan])), (a_t_neighbors, .inl (k 0, 12, .inl t_neighbors))]) (isC := [0, 1]) (isR := []) (As := [.int x1]) (rest := []) (n := 1) (ci := 8) (cq := (RX9, TX9, 12)) hTs ⟨hx, hb, hml, hown, hts⟩ (mX9_reach l Ts hTs D k H.size a_t a_t_population a_t_area a_t_community a_t_outer a_t_neighbors a_t_lengths a_t_plan t_neighbors t_units v_t_cores v_t_districts v_t_hasPlan v_t_tolerance x1 q1 hqq1) u_ml_X9_99 u_im_X9_reach u_se_X9_reach u_in_X9 u_co_X9_reach hd_X9_reach ⟨Nat.le_of_ble_eq_true rfl, Nat.le_of_ble_eq_true rfl⟩ ⟨rfl, rfl⟩ hK hH hA ⟨rfl, rfl, rfl, rfl, rfl, rfl⟩ rfl rfl rfl rfl hl.1 (by decide) dX9_isContiguous_2 ⟨Nat.le_of_ble_eq_true rfl, Nat.le_of_ble_eq_true rfl⟩ (fun H locs hH => ?_)
  refine lv_iload_n hx hb dX9_isContiguous_5 rfl (lv_at hl 1 rfl) ?_
  refine lv_icmp_ne (tgt := 13) hx hb dX9_isContiguous_6 (by decide) (fun c2 => ?_) (fun c2 => ?_)
  · replace h := dc_neg c2 h
    refine lv_iconst (v := 0) hx hb dX9_isContiguous_13 (by decide) ?_
    have h := Option.some.inj h
    subst h
    exact ge_z hx hb hr rfl hlocks hQ hK hH hAe rfl dX9_isContiguous_14
  · replace h := dc_pos c2 h
    refine lv_iconst (v := 1) hx hb dX9_isContiguous_9 (by decide) ?_
    refine lv_goto (tgt := 14) hx hb dX9_isContiguous_10 (by decide) ?_
    have h := Option.some.inj h
    subst h
    exact ge_z hx hb hr rfl hlocks hQ hK hH hAe rfl dX9_isContiguous_14
theorem hd_J7_fill_53178 : yJ7_fill_53178.cls ≠ "java/lang/invoke/MethodHandle" ∧ yJ7_fill_53178.cls ≠ "java/lang/invoke/VarHandle" ∧ (parseMethodDescriptor yJ7_fill_53178.desc).map (fun d => d.parameters.length) = some 2 := by decide +kernel
set_option maxHeartbeats 4000000 in
set_option maxRecDepth 100000 in
theorem mJ7_fill_53178 (l : Launch) (Ts : List Cond) (hTs : ∀ w, w ∈ Ts ↔ w ∈ uT) (D : va_G) (k : Nat → ClassId) (sz : Nat) (len0 : Nat) (a_p0 : Nat) (p0 : Nat → Int32) (x1 : Int32) (r : (Nat → Int32)) (h : fJ7_fill_53178 len0 p0 x1 = some r) : Met l yJ7_fill_53178 (Cond.code yJ7_fill_53178 cJ7_fill_53178 4 none :: Ts) ({ frames := 0, cells := 0, slots := 0, locals := 0 } : Room) (preM D k [.ref a_p0, .int x1] [(a_p0, .inl (k 0, len0, .inl p0))] sz) (postV D k [(a_p0, .inl (k 0, len0, .inl p0))] [(a_p0, .inl (k 0, len0, .inl r))] sz) 0 0 (va_A [(a_p0, .inl (k 0, len0, .inl p0))] sz) := by
  refine Met.ofW (cc := cJ7_fill_53178) (maxL := 4) (ret := none) (by decide) rfl ?_
  intro p e s m args below meth c s₁ B hml hv
  obtain ⟨rfl, hsz, hP, hK, hD0⟩ := hv
  have hx := B.exec
  have hb := B.bytes
  have hr := B.returns
  have hts0 := atoms_spec (ws := (Cond.code yJ7_fill_53178 cJ7_fill_53178 4 none :: Ts)) B.pre
  have hts : ∀ w ∈ uT, w.before _ s = true := fun w h => hts0 w (List.mem_cons_of_mem _ ((hTs w).mpr h))
  clear hts0
  have hown : s.vm.findClass RJ7 = some m.cls := findClass_of_methodNamed B.named
  have hlocks := B.notSynchronized
  subst hsz
  have hD := hD0.self (sz := s.heap.size)
  generalize hAe : va_A [(a_p0, .inl (k 0, len0, .inl p0))] s.heap.size = A at hD ⊢
  have hA : ∀ q : Nat, s.heap.size ≤ q → A q := fun q h => by rw [← hAe]; exact Or.inr h
  have hH : HOK D A s.heap [(a_p0, .inl (k 0, len0, .inl p0))] s.heap [] := ⟨hP, hD, va_S.rf⟩
  have hl := lv_entry ([.ref a_p0, .int x1]) (n := 4) (Nat.le_of_ble_eq_true rfl)
  rw [lg_entry_eq]
  generalize (lg_sl ([.ref a_p0, .int x1]) ++ List.replicate (4 - (lg_sl ([.ref a_p0, .int x1])).length) Slot.unset).toArray = ls at hl ⊢
  have hl : lv_has ls 4 [(0, .ref a_p0), (1, .int x1)] := hl
  generalize hQ : MQ below (postV D k [(a_p0, .inl (k 0, len0, .inl p0))] [(a_p0, .inl (k 0, len0, .inl r))] s.heap.size) (List.toArray [.ref a_p0, .int x1]) s 0 0 A = Q
  clear hP hD hD0
  suffices K : ∀ (H : Heap) (locs : List Loc), HOK D A s.heap [(a_p0, .inl (k 0, len0, .inl p0))] H locs → W p l e ({ frames := 0, cells := 0, slots := 0, locals := 0 } : Room) s m (List.toArray [.ref a_p0, .int x1]) below meth c H locs 0 0 Q (F0 m 0 ls []) from K s.heap [] hH
  intro H locs hH
  have L5 : ∀ (y5_3 : Int32) (n : Nat), ∀ (kf : (Nat → Int32) → Option ((Nat → Int32))) (y5_2 : Int32) (y5_p0 : Nat → Int32), fJ7_fill_53178_L5 len0 x1 y5_3 n kf y5_2 y5_p0 = some r → (∀ (z5_p0 : Nat → Int32) (H : Heap) (locs : List Loc) (ls : Array Slot), kf z5_p0 = some r → HOK D A s.heap [(a_p0, .inl (k 0, len0, .inl z5_p0))] H locs → lv_has ls 4 [] → W p l e ({ frames := 0, cells := 0, slots := 0, locals := 0 } : Room) s m (List.toArray [.ref a_p0, .int x1]) below meth c H locs 0 0 Q (F0 m 20 ls [])) → ∀ (H : Heap) (locs : List Loc) (ls : Array Slot), HOK D A s.heap [(a_p0, .inl (k 0, len0, .inl y5_p0))] H locs → lv_has ls 4 [(0, .ref a_p0), (1, .int x1), (2, .int y5_2), (3, .int y5_3)] → W p l e ({ frames := 0, cells := 0, slots := 0, locals := 0 } : Room) s m (List.toArray [.ref a_p0, .int x1]) below meth c H locs 0 0 Q (F0 m 5 ls []) := by
    intro y5_3 n
    induction n with
    | zero =>
      intro kf y5_2 y5_p0 h
      exact absurd h (by rw [fJ7_fill_53178_L5]; exact fun q => by cases q)
    | succ n ih =>
      intro kf y5_2 y5_p0 h kk H locs ls hH hl
      rw [fJ7_fill_53178_L5] at h
      refine lv_iload_n hx hb dJ7_fill_53178_5 rfl (lv_at hl 2 rfl) ?_
      refine lv_iload_n hx hb dJ7_fill_53178_6 rfl (lv_at hl 3 rfl) ?_
      refine lv_icmp_ge (tgt := 20) hx hb dJ7_fill_53178_7 (by decide) (fun c1 => ?_) (fun c1 => ?_)
      · replace h := dc_pos c1 h
        exact kk y5_p0 H locs ls h hH (lv_sub hl [] rfl)
      · replace h := dc_neg c1 h
        refine lv_aload_n hx hb dJ7_fill_53178_10 rfl (lv_at hl 0 rfl) ?_
        refine lv_iload_n hx hb dJ7_fill_53178_11 rfl (lv_at hl 2 rfl) ?_
        refine lv_iload_n hx hb dJ7_fill_53178_12 rfl (lv_at hl 1 rfl) ?_
        obtain ⟨g2, h⟩ := dc_need h
        refine gk_iast hx hb hK hH 0 rfl (dk_in g2) dJ7_fill_53178_13 [(a_p0, .inl (k 0, len0, .inl (upd y5_p0 y5_2.toNatClampNeg x1)))] rfl (fun H locs hH => ?_)
        refine lv_iinc (v := (y5_2 + (1 : Int32))) (lv' := [(2, .int (y5_2 + (1 : Int32))), (0, .ref a_p0), (1, .int x1), (3, .int y5_3)]) hx hb dJ7_fill_53178_14 hl (k := 2) rfl rfl (by decide) rfl (fun ls hl => ?_)
        refine lv_goto (tgt := 5) hx hb dJ7_fill_53178_17 (by decide) ?_
        exact ih kf (y5_2 + (1 : Int32)) (upd y5_p0 y5_2.toNatClampNeg x1) h kk H locs ls hH (lv_sub hl [1, 2, 0, 3] rfl)
  rw [fJ7_fill_53178] at h
  refine lv_iconst (v := 0) hx hb dJ7_fill_53178_0 (by decide) ?_
  refine lv_istore_n (lv' := [(2, .int (0 : Int32)), (0, .ref a_p0), (1, .int x1)]) hx hb dJ7_fill_53178_1 rfl hl (by decide) rfl (fun ls hl => ?_)
  refine lv_aload_n hx hb dJ7_fill_53178_2 rfl (lv_at hl 1 rfl) ?_
  refine gk_alen hx hb hK hH 0 0 (v := (Int32.ofNat len0)) rfl rfl rfl dJ7_fill_53178_3 ?_
  refine lv_istore_n (lv' := [(3, .int (Int32.ofNat len0)), (2, .int (0 : Int32)), (0, .ref a_p0), (1, .int x1)]) hx hb dJ7_fill_53178_4 rfl hl (by decide) rfl (fun ls hl => ?_)
  refine L5 (Int32.ofNat len0) _ _ (0 : Int32) p0 h (fun z5_p0 H locs ls h hH hl => ?_) H locs ls hH (lv_sub hl [2, 3, 1, 0] rfl)
  have h := Option.some.inj h
  subst h
  exact ge_v hx hb hr hlocks hQ hK hH hAe dJ7_fill_53178_20
theorem hd_X4_clear : yX4_clear.cls = RX4 ∧ yX4_clear.cls ≠ "java/lang/invoke/MethodHandle" ∧ yX4_clear.cls ≠ "java/lang/invoke/VarHandle" ∧ (parseMethodDescriptor yX4_clear.desc).map (fun d => d.parameters.length) = some 0 := by decide +kernel
set_option maxHeartbeats 4000000 in
set_option maxRecDepth 100000 in
theorem mX4_clear (l : Launch) (Ts : List Cond) (hTs : ∀ w, w ∈ Ts ↔ w ∈ uT) (D : va_G) (k : Nat → ClassId) (sz : Nat) (a_t : Nat) (a_t_places : Nat) (a_t_sets : Nat) (t_places : Nat → Int32) (t_sets : Nat → Int32) (r : (Nat → Int32) × (Nat → Int32)) (h : fX4_clear t_places t_sets = some r) : Met l yX4_clear (Cond.code yX4_clear cX4_clear 1 none :: Ts) ({ frames := 1, cells := 0, slots := 0, locals := 23 } : Room) (preM D k [.ref a_t] [(a_t, .inr (4, [.ref a_t_places, .ref a_t_sets])), (a_t_places, .inl (k 0, 12, .inl t_places)), (a_t_sets, .inl (k 0, 4, .inl t_sets))] sz) (postV D k [(a_t, .inr (4, [.ref a_t_places, .ref a_t_sets])), (a_t_places, .inl (k 0, 12, .inl t_places)), (a_t_sets, .inl (k 0, 4, .inl t_sets))] [(a_t, .inr (4, [.ref a_t_places, .ref a_t_sets])), (a_t_places, .inl (k 0, 12, .inl r.1)), (a_t_sets, .inl (k 0, 4, .inl r.2))] sz) 0 0 (va_A [(a_t, .inr (4, [.ref a_t_places, .ref a_t_sets])), (a_t_places, .inl (k 0, 12, .inl t_places)), (a_t_sets, .inl (k 0, 4, .inl t_sets))] sz) := by
  refine Met.ofW (cc := cX4_clear) (maxL := 1) (ret := none) (by decide) rfl ?_
  intro p e s m args below meth c s₁ B hml hv
  obtain ⟨rfl, hsz, hP, hK, hD0⟩ := hv
  have hx := B.exec
  have hb := B.bytes
  have hr := B.returns
  have hts0 := atoms_spec (ws := (Cond.code yX4_clear cX4_clear 1 none :: Ts)) B.pre
  have hts : ∀ w ∈ uT, w.before _ s = true := fun w h => hts0 w (List.mem_cons_of_mem _ ((hTs w).mpr h))
  clear hts0
  have hown : s.vm.findClass RX4 = some m.cls := findClass_of_methodNamed B.named
  have hlocks := B.notSynchronized
  subst hsz
  have hD := hD0.self (sz := s.heap.size)
  generalize hAe : va_A [(a_t, .inr (4, [.ref a_t_places, .ref a_t_sets])), (a_t_places, .inl (k 0, 12, .inl t_places)), (a_t_sets, .inl (k 0, 4, .inl t_sets))] s.heap.size = A at hD ⊢
  have hA : ∀ q : Nat, s.heap.size ≤ q → A q := fun q h => by rw [← hAe]; exact Or.inr h
  have hH : HOK D A s.heap [(a_t, .inr (4, [.ref a_t_places, .ref a_t_sets])), (a_t_places, .inl (k 0, 12, .inl t_places)), (a_t_sets, .inl (k 0, 4, .inl t_sets))] s.heap [] := ⟨hP, hD, va_S.rf⟩
  have hl := lv_entry ([.ref a_t]) (n := 1) (Nat.le_of_ble_eq_true rfl)
  rw [lg_entry_eq]
  generalize (lg_sl ([.ref a_t]) ++ List.replicate (1 - (lg_sl ([.ref a_t])).length) Slot.unset).toArray = ls at hl ⊢
  have hl : lv_has ls 1 [(0, .ref a_t)] := hl
  generalize hQ : MQ below (postV D k [(a_t, .inr (4, [.ref a_t_places, .ref a_t_sets])), (a_t_places, .inl (k 0, 12, .inl t_places)), (a_t_sets, .inl (k 0, 4, .inl t_sets))] [(a_t, .inr (4, [.ref a_t_places, .ref a_t_sets])), (a_t_places, .inl (k 0, 12, .inl r.1)), (a_t_sets, .inl (k 0, 4, .inl r.2))] s.heap.size) (List.toArray [.ref a_t]) s 0 0 A = Q
  clear hP hD hD0
  suffices K : ∀ (H : Heap) (locs : List Loc), HOK D A s.heap [(a_t, .inr (4, [.ref a_t_places, .ref a_t_sets])), (a_t_places, .inl (k 0, 12, .inl t_places)), (a_t_sets, .inl (k 0, 4, .inl t_sets))] H locs → W p l e ({ frames := 1, cells := 0, slots := 0, locals := 23 } : Room) s m (List.toArray [.ref a_t]) below meth c H locs 0 0 Q (F0 m 0 ls []) from K s.heap [] hH
  intro H locs hH
  rw [fX4_clear] at h
  refine lv_aload_n hx hb dX4_clear_0 rfl (lv_at hl 0 rfl) ?_
  refine gk_get (ci := 4) (C := RX4) (T := TX4) (N := 2) hx hb hts u_ws_X4 hown hK hH 0 rfl rfl 0 (by decide) u_fl_X4_9 rfl dX4_clear_1 ?_
  refine lv_iconst (v := 0) hx hb dX4_clear_4 (by decide) ?_
  obtain ⟨q1, hqq1, h⟩ := dc_bind h
  refine gc_Sv (ws' := [(a_t, .inr (4, [.ref a_t_places, .ref a_t_sets])), (a_t_places, .inl (k 0, 12, .inl q1)), (a_t_sets, .inl (k 0, 4, .inl t_sets))]) (isC := [1]) (isR := [0, 2]) (As := [.ref a_t_places, .int (0 : Int32)]) (rest := []) (n := 2) hTs ⟨hx, hb, hml, hown, hts⟩ (mJ7_fill_53178 l Ts hTs D k H.size 12 a_t_places t_places (0 : Int32) q1 hqq1) u_ml_X4_18 u_st_J7_fill_53178 u_in_J7 u_co_J7_fill_53178 hd_J7_fill_53178 ⟨Nat.le_of_ble_eq_true rfl, Nat.le_of_ble_eq_true rfl⟩ ⟨rfl, rfl⟩ hK hH hA ⟨rfl, rfl, rfl, rfl, rfl, rfl⟩ rfl rfl hl.1 (by decide) dX4_clear_5 ⟨Nat.le_of_ble_eq_true rfl, Nat.le_of_ble_eq_true rfl⟩ (fun H locs hH => ?_)
  refine lv_aload_n hx hb dX4_clear_8 rfl (lv_at hl 0 rfl) ?_
  refine gk_get (ci := 4) (C := RX4) (T := TX4) (N := 2) hx hb hts u_ws_X4 hown hK hH 0 rfl rfl 1 (by decide) u_fl_X4_15 rfl dX4_clear_9 ?_
  refine lv_iconst (v := 0) hx hb dX4_clear_12 (by decide) ?_
  obtain ⟨q2, hqq2, h⟩ := dc_bind h
  refine gc_Sv (ws' := [(a_t, .inr (4, [.ref a_t_places, .ref a_t_sets])), (a_t_places, .inl (k 0, 12, .inl q1)), (a_t_sets, .inl (k 0, 4, .inl q2))]) (isC := [2]) (isR := [0, 1]) (As := [.ref a_t_sets, .int (0 : Int32)]) (rest := []) (n := 2) hTs ⟨hx, hb, hml, hown, hts⟩ (mJ7_fill_53178 l Ts hTs D k H.size 4 a_t_sets t_sets (0 : Int32) q2 hqq2) u_ml_X4_18 u_st_J7_fill_53178 u_in_J7 u_co_J7_fill_53178 hd_J7_fill_53178 ⟨Nat.le_of_ble_eq_true rfl, Nat.le_of_ble_eq_true rfl⟩ ⟨rfl, rfl⟩ hK hH hA ⟨rfl, rfl, rfl, rfl, rfl, rfl⟩ rfl rfl hl.1 (by decide) dX4_clear_13 ⟨Nat.le_of_ble_eq_true rfl, Nat.le_of_ble_eq_true rfl⟩ (fun H locs hH => ?_)
  have h := Option.some.inj h
  subst h
  exact ge_v hx hb hr hlocks hQ hK hH hAe dX4_clear_16
theorem hd_X4_give : yX4_give.cls = RX4 ∧ yX4_give.cls ≠ "java/lang/invoke/MethodHandle" ∧ yX4_give.cls ≠ "java/lang/invoke/VarHandle" ∧ (parseMethodDescriptor yX4_give.desc).map (fun d => d.parameters.length) = some 2 := by decide +kernel
set_option maxHeartbeats 4000000 in
set_option maxRecDepth 100000 in
theorem mX4_give (l : Launch) (Ts : List Cond) (hTs : ∀ w, w ∈ Ts ↔ w ∈ uT) (D : va_G) (k : Nat → ClassId) (sz : Nat) (a_t : Nat) (a_t_places : Nat) (a_t_sets : Nat) (t_places : Nat → Int32) (t_sets : Nat → Int32) (x1 : Int32) (x2 : Int32) (r : (Nat → Int32) × (Nat → Int32)) (h : fX4_give t_places t_sets x1 x2 = some r) : Met l yX4_give (Cond.code yX4_give cX4_give 3 none :: Ts) ({ frames := 0, cells := 0, slots := 0, locals := 0 } : Room) (preM D k [.ref a_t, .int x1, .int x2] [(a_t, .inr (4, [.ref a_t_places, .ref a_t_sets])), (a_t_places, .inl (k 0, 12, .inl t_places)), (a_t_sets, .inl (k 0, 4, .inl t_sets))] sz) (postV D k [(a_t, .inr (4, [.ref a_t_places, .ref a_t_sets])), (a_t_places, .inl (k 0, 12, .inl t_places)), (a_t_sets, .inl (k 0, 4, .inl t_sets))] [(a_t, .inr (4, [.ref a_t_places, .ref a_t_sets])), (a_t_places, .inl (k 0, 12, .inl r.1)), (a_t_sets, .inl (k 0, 4, .inl r.2))] sz) 0 0 (va_A [(a_t, .inr (4, [.ref a_t_places, .ref a_t_sets])), (a_t_places, .inl (k 0, 12, .inl t_places)), (a_t_sets, .inl (k 0, 4, .inl t_sets))] sz) := by
  refine Met.ofW (cc := cX4_give) (maxL := 3) (ret := none) (by decide) rfl ?_
  intro p e s m args below meth c s₁ B hml hv
  obtain ⟨rfl, hsz, hP, hK, hD0⟩ := hv
  have hx := B.exec
  have hb := B.bytes
  have hr := B.returns
  have hts0 := atoms_spec (ws := (Cond.code yX4_give cX4_give 3 none :: Ts)) B.pre
  have hts : ∀ w ∈ uT, w.before _ s = true := fun w h => hts0 w (List.mem_cons_of_mem _ ((hTs w).mpr h))
  clear hts0
  have hown : s.vm.findClass RX4 = some m.cls := findClass_of_methodNamed B.named
  have hlocks := B.notSynchronized
  subst hsz
  have hD := hD0.self (sz := s.heap.size)
  generalize hAe : va_A [(a_t, .inr (4, [.ref a_t_places, .ref a_t_sets])), (a_t_places, .inl (k 0, 12, .inl t_places)), (a_t_sets, .inl (k 0, 4, .inl t_sets))] s.heap.size = A at hD ⊢
  have hA : ∀ q : Nat, s.heap.size ≤ q → A q := fun q h => by rw [← hAe]; exact Or.inr h
  have hH : HOK D A s.heap [(a_t, .inr (4, [.ref a_t_places, .ref a_t_sets])), (a_t_places, .inl (k 0, 12, .inl t_places)), (a_t_sets, .inl (k 0, 4, .inl t_sets))] s.heap [] := ⟨hP, hD, va_S.rf⟩
  have hl := lv_entry ([.ref a_t, .int x1, .int x2]) (n := 3) (Nat.le_of_ble_eq_true rfl)
  rw [lg_entry_eq]
  generalize (lg_sl ([.ref a_t, .int x1, .int x2]) ++ List.replicate (3 - (lg_sl ([.ref a_t, .int x1, .int x2])).length) Slot.unset).toArray = ls at hl ⊢
  have hl : lv_has ls 3 [(0, .ref a_t), (1, .int x1), (2, .int x2)] := hl
  generalize hQ : MQ below (postV D k [(a_t, .inr (4, [.ref a_t_places, .ref a_t_sets])), (a_t_places, .inl (k 0, 12, .inl t_places)), (a_t_sets, .inl (k 0, 4, .inl t_sets))] [(a_t, .inr (4, [.ref a_t_places, .ref a_t_sets])), (a_t_places, .inl (k 0, 12, .inl r.1)), (a_t_sets, .inl (k 0, 4, .inl r.2))] s.heap.size) (List.toArray [.ref a_t, .int x1, .int x2]) s 0 0 A = Q
  clear hP hD hD0
  suffices K : ∀ (H : Heap) (locs : List Loc), HOK D A s.heap [(a_t, .inr (4, [.ref a_t_places, .ref a_t_sets])), (a_t_places, .inl (k 0, 12, .inl t_places)), (a_t_sets, .inl (k 0, 4, .inl t_sets))] H locs → W p l e ({ frames := 0, cells := 0, slots := 0, locals := 0 } : Room) s m (List.toArray [.ref a_t, .int x1, .int x2]) below meth c H locs 0 0 Q (F0 m 0 ls []) from K s.heap [] hH
  intro H locs hH
  rw [fX4_give] at h
  refine lv_aload_n hx hb dX4_give_0 rfl (lv_at hl 0 rfl) ?_
  refine gk_get (ci := 4) (C := RX4) (T := TX4) (N := 2) hx hb hts u_ws_X4 hown hK hH 0 rfl rfl 1 (by decide) u_fl_X4_15 rfl dX4_give_1 ?_
  refine lv_aload_n hx hb dX4_give_4 rfl (lv_at hl 0 rfl) ?_
  refine gk_get (ci := 4) (C := RX4) (T := TX4) (N := 2) hx hb hts u_ws_X4 hown hK hH 0 rfl rfl 0 (by decide) u_fl_X4_9 rfl dX4_give_5 ?_
  refine lv_iload_n hx hb dX4_give_8 rfl (lv_at hl 1 rfl) ?_
  obtain ⟨g1, h⟩ := dc_need h
  refine gk_iald hx hb hK hH 1 rfl (dk_in g1) dX4_give_9 ?_
  refine lv_dup2_11 hx hb dX4_give_10 rfl rfl ?_
  obtain ⟨g2, h⟩ := dc_need h
  refine gk_iald hx hb hK hH 2 rfl (dk_in g2) dX4_give_11 ?_
  refine lv_iconst (v := 1) hx hb dX4_give_12 (by decide) ?_
  refine lv_iload_n hx hb dX4_give_13 rfl (lv_at hl 1 rfl) ?_
  refine lv_ishl hx hb dX4_give_14 ?_
  refine lv_iconst (v := -1) hx hb dX4_give_15 (by decide) ?_
  refine lv_ixor hx hb dX4_give_16 ?_
  refine lv_iand hx hb dX4_give_17 ?_
  obtain ⟨g3, h⟩ := dc_need h
  refine gk_iast hx hb hK hH 2 rfl (dk_in g3) dX4_give_18 [(a_t, .inr (4, [.ref a_t_places, .ref a_t_sets])), (a_t_places, .inl (k 0, 12, .inl t_places)), (a_t_sets, .inl (k 0, 4, .inl (upd t_sets (t_places x1.toNatClampNeg).toNatClampNeg ((t_sets (t_places x1.toNatClampNeg).toNatClampNeg) &&& (((1 : Int32) <<< (x1 &&& 31)) ^^^ (-1 : Int32))))))] rfl (fun H locs hH => ?_)
  refine lv_aload_n hx hb dX4_give_19 rfl (lv_at hl 0 rfl) ?_
  refine gk_get (ci := 4) (C := RX4) (T := TX4) (N := 2) hx hb hts u_ws_X4 hown hK hH 0 rfl rfl 0 (by decide) u_fl_X4_9 rfl dX4_give_20 ?_
  refine lv_iload_n hx hb dX4_give_23 rfl (lv_at hl 1 rfl) ?_
  refine lv_iload_n hx hb dX4_give_24 rfl (lv_at hl 2 rfl) ?_
  obtain ⟨g4, h⟩ := dc_need h
  refine gk_iast hx hb hK hH 1 rfl (dk_in g4) dX4_give_25 [(a_t, .inr (4, [.ref a_t_places, .ref a_t_sets])), (a_t_places, .inl (k 0, 12, .inl (upd t_places x1.toNatClampNeg x2))), (a_t_sets, .inl (k 0, 4, .inl (upd t_sets (t_places x1.toNatClampNeg).toNatClampNeg ((t_sets (t_places x1.toNatClampNeg).toNatClampNeg) &&& (((1 : Int32) <<< (x1 &&& 31)) ^^^ (-1 : Int32))))))] rfl (fun H locs hH => ?_)
  refine lv_aload_n hx hb dX4_give_26 rfl (lv_at hl 0 rfl) ?_
  refine gk_get (ci := 4) (C := RX4) (T := TX4) (N := 2) hx hb hts u_ws_X4 hown hK hH 0 rfl rfl 1 (by decide) u_fl_X4_15 rfl dX4_give_27 ?_
  refine lv_iload_n hx hb dX4_give_30 rfl (lv_at hl 2 rfl) ?_
  refine lv_dup2_11 hx hb dX4_give_31 rfl rfl ?_
  obtain ⟨g5, h⟩ := dc_need h
  refine gk_iald hx hb hK hH 2 rfl (dk_in g5) dX4_give_32 ?_
  refine lv_iconst (v := 1) hx hb dX4_give_33 (by decide) ?_
  refine lv_iload_n hx hb dX4_give_34 rfl (lv_at hl 1 rfl) ?_
  refine lv_ishl hx hb dX4_give_35 ?_
  refine lv_ior hx hb dX4_give_36 ?_
  obtain ⟨g6, h⟩ := dc_need h
  refine gk_iast hx hb hK hH 2 rfl (dk_in g6) dX4_give_37 [(a_t, .inr (4, [.ref a_t_places, .ref a_t_sets])), (a_t_places, .inl (k 0, 12, .inl (upd t_places x1.toNatClampNeg x2))), (a_t_sets, .inl (k 0, 4, .inl (upd (upd t_sets (t_places x1.toNatClampNeg).toNatClampNeg ((t_sets (t_places x1.toNatClampNeg).toNatClampNeg) &&& (((1 : Int32) <<< (x1 &&& 31)) ^^^ (-1 : Int32)))) x2.toNatClampNeg (((upd t_sets (t_places x1.toNatClampNeg).toNatClampNeg ((t_sets (t_places x1.toNatClampNeg).toNatClampNeg) &&& (((1 : Int32) <<< (x1 &&& 31)) ^^^ (-1 : Int32)))) x2.toNatClampNeg) ||| ((1 : Int32) <<< (x1 &&& 31))))))] rfl (fun H locs hH => ?_)
  have h := Option.some.inj h
  subst h
  exact ge_v hx hb hr hlocks hQ hK hH hAe dX4_give_38
theorem hd_X9_lengthToOutside : yX9_lengthToOutside.cls = RX9 ∧ yX9_lengthToOutside.cls ≠ "java/lang/invoke/MethodHandle" ∧ yX9_lengthToOutside.cls ≠ "java/lang/invoke/VarHandle" ∧ (parseMethodDescriptor yX9_lengthToOutside.desc).map (fun d => d.parameters.length) = some 2 := by decide +kernel
set_option maxHeartbeats 4000000 in
set_option maxRecDepth 100000 in
theorem mX9_lengthToOutside (l : Launch) (Ts : List Cond) (hTs : ∀ w, w ∈ Ts ↔ w ∈ uT) (D : va_G) (k : Nat → ClassId) (sz : Nat) (a_t : Nat) (a_t_population : Nat) (a_t_area : Nat) (a_t_community : Nat) (a_t_outer : Nat) (a_t_neighbors : Nat) (a_t_lengths : Nat) (a_t_plan : Nat) (t_lengths : Nat → Int32) (t_units : Int32) (v_t_cores : Value) (v_t_districts : Value) (v_t_hasPlan : Value) (v_t_tolerance : Value) (x1 : Int32) (x2 : Int32) (r : Int32) (h : fX9_lengthToOutside t_lengths t_units x1 x2 = some r) : Met l yX9_lengthToOutside (Cond.code yX9_lengthToOutside cX9_lengthToOutside 5 (some .int) :: Ts) ({ frames := 0, cells := 0, slots := 0, locals := 0 } : Room) (preM D k [.ref a_t, .int x1, .int x2] [(a_t, .inr (8, [.int t_units, .ref a_t_population, .ref a_t_area, .ref a_t_community, .ref a_t_outer, .ref a_t_neighbors, .ref a_t_lengths, v_t_cores, v_t_districts, v_t_tolerance, v_t_hasPlan, .ref a_t_plan])), (a_t_lengths, .inl (k 0, 144, .inl t_lengths))] sz) (postI D k r [(a_t, .inr (8, [.int t_units, .ref a_t_population, .ref a_t_area, .ref a_t_community, .ref a_t_outer, .ref a_t_neighbors, .ref a_t_lengths, v_t_cores, v_t_districts, v_t_tolerance, v_t_hasPlan, .ref a_t_plan])), (a_t_lengths, .inl (k 0, 144, .inl t_lengths))] [(a_t, .inr (8, [.int t_units, .ref a_t_population, .ref a_t_area, .ref a_t_community, .ref a_t_outer, .ref a_t_neighbors, .ref a_t_lengths, v_t_cores, v_t_districts, v_t_tolerance, v_t_hasPlan, .ref a_t_plan])), (a_t_lengths, .inl (k 0, 144, .inl t_lengths))] sz) 0 0 (va_A [(a_t, .inr (8, [.int t_units, .ref a_t_population, .ref a_t_area, .ref a_t_community, .ref a_t_outer, .ref a_t_neighbors, .ref a_t_lengths, v_t_cores, v_t_districts, v_t_tolerance, v_t_hasPlan, .ref a_t_plan])), (a_t_lengths, .inl (k 0, 144, .inl t_lengths))] sz) := by
  refine Met.ofW (cc := cX9_lengthToOutside) (maxL := 5) (ret := (some .int)) (by decide) rfl ?_
  intro p e s m args below meth c s₁ B hml hv
  obtain ⟨rfl, hsz, hP, hK, hD0⟩ := hv
  have hx := B.exec
  have hb := B.bytes
  have hr := B.returns
  have hts0 := atoms_spec (ws := (Cond.code yX9_lengthToOutside cX9_lengthToOutside 5 (some .int) :: Ts)) B.pre
  have hts : ∀ w ∈ uT, w.before _ s = true := fun w h => hts0 w (List.mem_cons_of_mem _ ((hTs w).mpr h))
  clear hts0
  have hown : s.vm.findClass RX9 = some m.cls := findClass_of_methodNamed B.named
  have hlocks := B.notSynchronized
  subst hsz
  have hD := hD0.self (sz := s.heap.size)
  generalize hAe : va_A [(a_t, .inr (8, [.int t_units, .ref a_t_population, .ref a_t_area, .ref a_t_community, .ref a_t_outer, .ref a_t_neighbors, .ref a_t_lengths, v_t_cores, v_t_districts, v_t_tolerance, v_t_hasPlan, .ref a_t_plan])), (a_t_lengths, .inl (k 0, 144, .inl t_lengths))] s.heap.size = A at hD ⊢
  have hA : ∀ q : Nat, s.heap.size ≤ q → A q := fun q h => by rw [← hAe]; exact Or.inr h
  have hH : HOK D A s.heap [(a_t, .inr (8, [.int t_units, .ref a_t_population, .ref a_t_area, .ref a_t_community, .ref a_t_outer, .ref a_t_neighbors, .ref a_t_lengths, v_t_cores, v_t_districts, v_t_tolerance, v_t_hasPlan, .ref a_t_plan])), (a_t_lengths, .inl (k 0, 144, .inl t_lengths))] s.heap [] := ⟨hP, hD, va_S.rf⟩
  have hl := lv_entry ([.ref a_t, .int x1, .int x2]) (n := 5) (Nat.le_of_ble_eq_true rfl)
  rw [lg_entry_eq]
  generalize (lg_sl ([.ref a_t, .int x1, .int x2]) ++ List.replicate (5 - (lg_sl ([.ref a_t, .int x1, .int x2])).length) Slot.unset).toArray = ls at hl ⊢
  have hl : lv_has ls 5 [(0, .ref a_t), (1, .int x1), (2, .int x2)] := hl
  generalize hQ : MQ below (postI D k r [(a_t, .inr (8, [.int t_units, .ref a_t_population, .ref a_t_area, .ref a_t_community, .ref a_t_outer, .ref a_t_neighbors, .ref a_t_lengths, v_t_cores, v_t_districts, v_t_tolerance, v_t_hasPlan, .ref a_t_plan])), (a_t_lengths, .inl (k 0, 144, .inl t_lengths))] [(a_t, .inr (8, [.int t_units, .ref a_t_population, .ref a_t_area, .ref a_t_community, .ref a_t_outer, .ref a_t_neighbors, .ref a_t_lengths, v_t_cores, v_t_districts, v_t_tolerance, v_t_hasPlan, .ref a_t_plan])), (a_t_lengths, .inl (k 0, 144, .inl t_lengths))] s.heap.size) (List.toArray [.ref a_t, .int x1, .int x2]) s 0 0 A = Q
  clear hP hD hD0
  suffices K : ∀ (H : Heap) (locs : List Loc), HOK D A s.heap [(a_t, .inr (8, [.int t_units, .ref a_t_population, .ref a_t_area, .ref a_t_community, .ref a_t_outer, .ref a_t_neighbors, .ref a_t_lengths, v_t_cores, v_t_districts, v_t_tolerance, v_t_hasPlan, .ref a_t_plan])), (a_t_lengths, .inl (k 0, 144, .inl t_lengths))] H locs → W p l e ({ frames := 0, cells := 0, slots := 0, locals := 0 } : Room) s m (List.toArray [.ref a_t, .int x1, .int x2]) below meth c H locs 0 0 Q (F0 m 0 ls []) from K s.heap [] hH
  intro H locs hH
  have L5 : ∀ (n : Nat), ∀ (kf : Int32 → Option (Int32)) (y5_3 : Int32) (y5_4 : Int32), fX9_lengthToOutside_L5 t_lengths t_units x1 x2 n kf y5_3 y5_4 = some r → (∀ (z5_3 : Int32) (H : Heap) (locs : List Loc) (ls : Array Slot), kf z5_3 = some r → HOK D A s.heap [(a_t, .inr (8, [.int t_units, .ref a_t_population, .ref a_t_area, .ref a_t_community, .ref a_t_outer, .ref a_t_neighbors, .ref a_t_lengths, v_t_cores, v_t_districts, v_t_tolerance, v_t_hasPlan, .ref a_t_plan])), (a_t_lengths, .inl (k 0, 144, .inl t_lengths))] H locs → lv_has ls 5 [(3, .int z5_3)] → W p l e ({ frames := 0, cells := 0, slots := 0, locals := 0 } : Room) s m (List.toArray [.ref a_t, .int x1, .int x2]) below meth c H locs 0 0 Q (F0 m 44 ls [])) → ∀ (H : Heap) (locs : List Loc) (ls : Array Slot), HOK D A s.heap [(a_t, .inr (8, [.int t_units, .ref a_t_population, .ref a_t_area, .ref a_t_community, .ref a_t_outer, .ref a_t_neighbors, .ref a_t_lengths, v_t_cores, v_t_districts, v_t_tolerance, v_t_hasPlan, .ref a_t_plan])), (a_t_lengths, .inl (k 0, 144, .inl t_lengths))] H locs → lv_has ls 5 [(0, .ref a_t), (1, .int x1), (2, .int x2), (3, .int y5_3), (4, .int y5_4)] → W p l e ({ frames := 0, cells := 0, slots := 0, locals := 0 } : Room) s m (List.toArray [.ref a_t, .int x1, .int x2]) below meth c H locs 0 0 Q (F0 m 5 ls []) := by
    intro n
    induction n with
    | zero =>
      intro kf y5_3 y5_4 h
      exact absurd h (by rw [fX9_lengthToOutside_L5]; exact fun q => by cases q)
    | succ n ih =>
      intro kf y5_3 y5_4 h kk H locs ls hH hl
      rw [fX9_lengthToOutside_L5] at h
      refine lv_iload hx hb dX9_lengthToOutside_5 (lv_at hl 4 rfl) ?_
      refine lv_aload_n hx hb dX9_lengthToOutside_7 rfl (lv_at hl 0 rfl) ?_
      refine gk_get (ci := 8) (C := RX9) (T := TX9) (N := 12) hx hb hts u_ws_X9 hown hK hH 0 rfl rfl 0 (by decide) u_fl_X9_9 rfl dX9_lengthToOutside_8 ?_
      refine lv_icmp_ge (tgt := 44) hx hb dX9_lengthToOutside_11 (by decide) (fun c1 => ?_) (fun c1 => ?_)
      · replace h := dc_pos c1 h
        exact kk y5_3 H locs ls h hH (lv_sub hl [3] rfl)
      · replace h := dc_neg c1 h
        refine lv_iload_n hx hb dX9_lengthToOutside_14 rfl (lv_at hl 2 rfl) ?_
        refine lv_iload hx hb dX9_lengthToOutside_15 (lv_at hl 4 rfl) ?_
        refine lv_ishr hx hb dX9_lengthToOutside_17 ?_
        refine lv_iconst (v := 1) hx hb dX9_lengthToOutside_18 (by decide) ?_
        refine lv_iand hx hb dX9_lengthToOutside_19 ?_
        refine lv_if_ne (tgt := 38) hx hb dX9_lengthToOutside_20 (by decide) (fun c2 => ?_) (fun c2 => ?_)
        · replace h := dc_neg c2 h
          refine lv_iinc (v := (y5_4 + (1 : Int32))) (lv' := [(4, .int (y5_4 + (1 : Int32))), (0, .ref a_t), (1, .int x1), (2, .int x2), (3, .int y5_3)]) hx hb dX9_lengthToOutside_38 hl (k := 4) rfl rfl (by decide) rfl (fun ls hl => ?_)
          refine lv_goto (tgt := 5) hx hb dX9_lengthToOutside_41 (by decide) ?_
          exact ih kf y5_3 (y5_4 + (1 : Int32)) h kk H locs ls hH (lv_sub hl [1, 2, 3, 4, 0] rfl)
        · replace h := dc_pos c2 h
          refine lv_iload_n hx hb dX9_lengthToOutside_23 rfl (lv_at hl 3 rfl) ?_
          refine lv_aload_n hx hb dX9_lengthToOutside_24 rfl (lv_at hl 0 rfl) ?_
          refine gk_get (ci := 8) (C := RX9) (T := TX9) (N := 12) hx hb hts u_ws_X9 hown hK hH 0 rfl rfl 6 (by decide) u_fl_X9_31 rfl dX9_lengthToOutside_25 ?_
          refine lv_iload_n hx hb dX9_lengthToOutside_28 rfl (lv_at hl 1 rfl) ?_
          refine lv_bipush (v := 12) hx hb dX9_lengthToOutside_29 (by decide) ?_
          refine lv_imul hx hb dX9_lengthToOutside_31 ?_
          refine lv_iload hx hb dX9_lengthToOutside_32 (lv_at hl 4 rfl) ?_
          refine lv_iadd hx hb dX9_lengthToOutside_34 ?_
          obtain ⟨g3, h⟩ := dc_need h
          refine gk_iald hx hb hK hH 1 rfl (dk_in g3) dX9_lengthToOutside_35 ?_
          refine lv_iadd hx hb dX9_lengthToOutside_36 ?_
          refine lv_topi (fun n4 en4 => ?_)
          replace h := dc_at en4 h
          refine lv_istore_n (lv' := [(3, .int n4), (0, .ref a_t), (1, .int x1), (2, .int x2), (4, .int y5_4)]) hx hb dX9_lengthToOutside_37 rfl hl (by decide) rfl (fun ls hl => ?_)
          refine lv_iinc (v := (y5_4 + (1 : Int32))) (lv' := [(4, .int (y5_4 + (1 : Int32))), (3, .int n4), (0, .ref a_t), (1, .int x1), (2, .int x2)]) hx hb dX9_lengthToOutside_38 hl (k := 4) rfl rfl (by decide) rfl (fun ls hl => ?_)
          refine lv_goto (tgt := 5) hx hb dX9_lengthToOutside_41 (by decide) ?_
          exact ih kf n4 (y5_4 + (1 : Int32)) h kk H locs ls hH (lv_sub hl [2, 3, 4, 1, 0] rfl)
  rw [fX9_lengthToOutside] at h
  refine lv_iconst (v := 0) hx hb dX9_lengthToOutside_0 (by decide) ?_
  refine lv_istore_n (lv' := [(3, .int (0 : Int32)), (0, .ref a_t), (1, .int x1), (2, .int x2)]) hx hb dX9_lengthToOutside_1 rfl hl (by decide) rfl (fun ls hl => ?_)
  refine lv_iconst (v := 0) hx hb dX9_lengthToOutside_2 (by decide) ?_
  refine lv_istore (lv' := [(4, .int (0 : Int32)), (3, .int (0 : Int32)), (0, .ref a_t), (1, .int x1), (2, .int x2)]) hx hb dX9_lengthToOutside_3 hl (by decide) rfl (fun ls hl => ?_)
  refine L5 _ _ (0 : Int32) (0 : Int32) h (fun z5_3 H locs ls h hH hl => ?_) H locs ls hH (lv_sub hl [2, 3, 4, 1, 0] rfl)
  refine lv_iload_n hx hb dX9_lengthToOutside_44 rfl (lv_at hl 0 rfl) ?_
  have h := Option.some.inj h
  subst h
  exact ge_i hx hb hr hlocks hQ hK hH hAe rfl dX9_lengthToOutside_45
theorem hd_X9_perimeterOf : yX9_perimeterOf.cls = RX9 ∧ yX9_perimeterOf.cls ≠ "java/lang/invoke/MethodHandle" ∧ yX9_perimeterOf.cls ≠ "java/lang/invoke/VarHandle" ∧ (parseMethodDescriptor yX9_perimeterOf.desc).map (fun d => d.parameters.length) = some 1 := by decide +kernel
set_option maxHeartbeats 4000000 in
set_option maxRecDepth 100000 in
theorem mX9_perimeterOf (l : Launch) (Ts : List Cond) (hTs : ∀ w, w ∈ Ts ↔ w ∈ uT) (D : va_G) (k : Nat → ClassId) (sz : Nat) (a_t : Nat) (a_t_population : Nat) (a_t_area : Nat) (a_t_community : Nat) (a_t_outer : Nat) (a_t_neighbors : Nat) (a_t_lengths : Nat) (a_t_plan : Nat) (t_lengths : Nat → Int32) (t_outer : Nat → Int32) (t_units : Int32) (v_t_cores : Value) (v_t_districts : Value) (v_t_hasPlan : Value) (v_t_tolerance : Value) (x1 : Int32) (r : Int32) (h : fX9_perimeterOf t_lengths t_outer t_units x1 = some r) : Met l yX9_perimeterOf (Cond.code yX9_perimeterOf cX9_perimeterOf 4 (some .int) :: Ts) ({ frames := 1, cells := 0, slots := 0, locals := 24 } : Room) (preM D k [.ref a_t, .int x1] [(a_t, .inr (8, [.int t_units, .ref a_t_population, .ref a_t_area, .ref a_t_community, .ref a_t_outer, .ref a_t_neighbors, .ref a_t_lengths, v_t_cores, v_t_districts, v_t_tolerance, v_t_hasPlan, .ref a_t_plan])), (a_t_outer, .inl (k 0, 12, .inl t_outer)), (a_t_lengths, .inl (k 0, 144, .inl t_lengths))] sz) (postI D k r [(a_t, .inr (8, [.int t_units, .ref a_t_population, .ref a_t_area, .ref a_t_community, .ref a_t_outer, .ref a_t_neighbors, .ref a_t_lengths, v_t_cores, v_t_districts, v_t_tolerance, v_t_hasPlan, .ref a_t_plan])), (a_t_outer, .inl (k 0, 12, .inl t_outer)), (a_t_lengths, .inl (k 0, 144, .inl t_lengths))] [(a_t, .inr (8, [.int t_units, .ref a_t_population, .ref a_t_area, .ref a_t_community, .ref a_t_outer, .ref a_t_neighbors, .ref a_t_lengths, v_t_cores, v_t_districts, v_t_tolerance, v_t_hasPlan, .ref a_t_plan])), (a_t_outer, .inl (k 0, 12, .inl t_outer)), (a_t_lengths, .inl (k 0, 144, .inl t_lengths))] sz) 0 0 (va_A [(a_t, .inr (8, [.int t_units, .ref a_t_population, .ref a_t_area, .ref a_t_community, .ref a_t_outer, .ref a_t_neighbors, .ref a_t_lengths, v_t_cores, v_t_districts, v_t_tolerance, v_t_hasPlan, .ref a_t_plan])), (a_t_outer, .inl (k 0, 12, .inl t_outer)), (a_t_lengths, .inl (k 0, 144, .inl t_lengths))] sz) := by
  refine Met.ofW (cc := cX9_perimeterOf) (maxL := 4) (ret := (some .int)) (by decide) rfl ?_
  intro p e s m args below meth c s₁ B hml hv
  obtain ⟨rfl, hsz, hP, hK, hD0⟩ := hv
  have hx := B.exec
  have hb := B.bytes
  have hr := B.returns
  have hts0 := atoms_spec (ws := (Cond.code yX9_perimeterOf cX9_perimeterOf 4 (some .int) :: Ts)) B.pre
  have hts : ∀ w ∈ uT, w.before _ s = true := fun w h => hts0 w (List.mem_cons_of_mem _ ((hTs w).mpr h))
  clear hts0
  have hown : s.vm.findClass RX9 = some m.cls := findClass_of_methodNamed B.named
  have hlocks := B.notSynchronized
  subst hsz
  have hD := hD0.self (sz := s.heap.size)
  generalize hAe : va_A [(a_t, .inr (8, [.int t_units, .ref a_t_population, .ref a_t_area, .ref a_t_community, .ref a_t_outer, .ref a_t_neighbors, .ref a_t_lengths, v_t_cores, v_t_districts, v_t_tolerance, v_t_hasPlan, .ref a_t_plan])), (a_t_outer, .inl (k 0, 12, .inl t_outer)), (a_t_lengths, .inl (k 0, 144, .inl t_lengths))] s.heap.size = A at hD ⊢
  have hA : ∀ q : Nat, s.heap.size ≤ q → A q := fun q h => by rw [← hAe]; exact Or.inr h
  have hH : HOK D A s.heap [(a_t, .inr (8, [.int t_units, .ref a_t_population, .ref a_t_area, .ref a_t_community, .ref a_t_outer, .ref a_t_neighbors, .ref a_t_lengths, v_t_cores, v_t_districts, v_t_tolerance, v_t_hasPlan, .ref a_t_plan])), (a_t_outer, .inl (k 0, 12, .inl t_outer)), (a_t_lengths, .inl (k 0, 144, .inl t_lengths))] s.heap [] := ⟨hP, hD, va_S.rf⟩
  have hl := lv_entry ([.ref a_t, .int x1]) (n := 4) (Nat.le_of_ble_eq_true rfl)
  rw [lg_entry_eq]
  generalize (lg_sl ([.ref a_t, .int x1]) ++ List.replicate (4 - (lg_sl ([.ref a_t, .int x1])).length) Slot.unset).toArray = ls at hl ⊢
  have hl : lv_has ls 4 [(0, .ref a_t), (1, .int x1)] := hl
  generalize hQ : MQ below (postI D k r [(a_t, .inr (8, [.int t_units, .ref a_t_population, .ref a_t_area, .ref a_t_community, .ref a_t_outer, .ref a_t_neighbors, .ref a_t_lengths, v_t_cores, v_t_districts, v_t_tolerance, v_t_hasPlan, .ref a_t_plan])), (a_t_outer, .inl (k 0, 12, .inl t_outer)), (a_t_lengths, .inl (k 0, 144, .inl t_lengths))] [(a_t, .inr (8, [.int t_units, .ref a_t_population, .ref a_t_area, .ref a_t_community, .ref a_t_outer, .ref a_t_neighbors, .ref a_t_lengths, v_t_cores, v_t_districts, v_t_tolerance, v_t_hasPlan, .ref a_t_plan])), (a_t_outer, .inl (k 0, 12, .inl t_outer)), (a_t_lengths, .inl (k 0, 144, .inl t_lengths))] s.heap.size) (List.toArray [.ref a_t, .int x1]) s 0 0 A = Q
  clear hP hD hD0
  suffices K : ∀ (H : Heap) (locs : List Loc), HOK D A s.heap [(a_t, .inr (8, [.int t_units, .ref a_t_population, .ref a_t_area, .ref a_t_community, .ref a_t_outer, .ref a_t_neighbors, .ref a_t_lengths, v_t_cores, v_t_districts, v_t_tolerance, v_t_hasPlan, .ref a_t_plan])), (a_t_outer, .inl (k 0, 12, .inl t_outer)), (a_t_lengths, .inl (k 0, 144, .inl t_lengths))] H locs → W p l e ({ frames := 1, cells := 0, slots := 0, locals := 24 } : Room) s m (List.toArray [.ref a_t, .int x1]) below meth c H locs 0 0 Q (F0 m 0 ls []) from K s.heap [] hH
  intro H locs hH
  have L4 : ∀ (n : Nat), ∀ (kf : Int32 → Option (Int32)) (y4_2 : Int32) (y4_3 : Int32), fX9_perimeterOf_L4 t_lengths t_outer t_units x1 n kf y4_2 y4_3 = some r → (∀ (z4_2 : Int32) (H : Heap) (locs : List Loc) (ls : Array Slot), kf z4_2 = some r → HOK D A s.heap [(a_t, .inr (8, [.int t_units, .ref a_t_population, .ref a_t_area, .ref a_t_community, .ref a_t_outer, .ref a_t_neighbors, .ref a_t_lengths, v_t_cores, v_t_districts, v_t_tolerance, v_t_hasPlan, .ref a_t_plan])), (a_t_outer, .inl (k 0, 12, .inl t_outer)), (a_t_lengths, .inl (k 0, 144, .inl t_lengths))] H locs → lv_has ls 4 [(2, .int z4_2)] → W p l e ({ frames := 1, cells := 0, slots := 0, locals := 24 } : Room) s m (List.toArray [.ref a_t, .int x1]) below meth c H locs 0 0 Q (F0 m 42 ls [])) → ∀ (H : Heap) (locs : List Loc) (ls : Array Slot), HOK D A s.heap [(a_t, .inr (8, [.int t_units, .ref a_t_population, .ref a_t_area, .ref a_t_community, .ref a_t_outer, .ref a_t_neighbors, .ref a_t_lengths, v_t_cores, v_t_districts, v_t_tolerance, v_t_hasPlan, .ref a_t_plan])), (a_t_outer, .inl (k 0, 12, .inl t_outer)), (a_t_lengths, .inl (k 0, 144, .inl t_lengths))] H locs → lv_has ls 4 [(0, .ref a_t), (1, .int x1), (2, .int y4_2), (3, .int y4_3)] → W p l e ({ frames := 1, cells := 0, slots := 0, locals := 24 } : Room) s m (List.toArray [.ref a_t, .int x1]) below meth c H locs 0 0 Q (F0 m 4 ls []) := by
    intro n
    induction n with
    | zero =>
      intro kf y4_2 y4_3 h
      exact absurd h (by rw [fX9_perimeterOf_L4]; exact fun q => by cases q)
    | succ n ih =>
      intro kf y4_2 y4_3 h kk H locs ls hH hl
      rw [fX9_perimeterOf_L4] at h
      refine lv_iload_n hx hb dX9_perimeterOf_4 rfl (lv_at hl 3 rfl) ?_
      refine lv_aload_n hx hb dX9_perimeterOf_5 rfl (lv_at hl 0 rfl) ?_
      refine gk_get (ci := 8) (C := RX9) (T := TX9) (N := 12) hx hb hts u_ws_X9 hown hK hH 0 rfl rfl 0 (by decide) u_fl_X9_9 rfl dX9_perimeterOf_6 ?_
      refine lv_icmp_ge (tgt := 42) hx hb dX9_perimeterOf_9 (by decide) (fun c1 => ?_) (fun c1 => ?_)
      · replace h := dc_pos c1 h
        exact kk y4_2 H locs ls h hH (lv_sub hl [2] rfl)
      · replace h := dc_neg c1 h
        refine lv_iload_n hx hb dX9_perimeterOf_12 rfl (lv_at hl 1 rfl) ?_
        refine lv_iload_n hx hb dX9_perimeterOf_13 rfl (lv_at hl 3 rfl) ?_
        refine lv_ishr hx hb dX9_perimeterOf_14 ?_
        refine lv_iconst (v := 1) hx hb dX9_perimeterOf_15 (by decide) ?_
        refine lv_iand hx hb dX9_perimeterOf_16 ?_
        refine lv_if_eq (tgt := 36) hx hb dX9_perimeterOf_17 (by decide) (fun c2 => ?_) (fun c2 => ?_)
        · replace h := dc_pos c2 h
          refine lv_iinc (v := (y4_3 + (1 : Int32))) (lv' := [(3, .int (y4_3 + (1 : Int32))), (0, .ref a_t), (1, .int x1), (2, .int y4_2)]) hx hb dX9_perimeterOf_36 hl (k := 3) rfl rfl (by decide) rfl (fun ls hl => ?_)
          refine lv_goto (tgt := 4) hx hb dX9_perimeterOf_39 (by decide) ?_
          exact ih kf y4_2 (y4_3 + (1 : Int32)) h kk H locs ls hH (lv_sub hl [1, 2, 3, 0] rfl)
        · replace h := dc_neg c2 h
          refine lv_iload_n hx hb dX9_perimeterOf_20 rfl (lv_at hl 2 rfl) ?_
          refine lv_aload_n hx hb dX9_perimeterOf_21 rfl (lv_at hl 0 rfl) ?_
          refine gk_get (ci := 8) (C := RX9) (T := TX9) (N := 12) hx hb hts u_ws_X9 hown hK hH 0 rfl rfl 4 (by decide) u_fl_X9_25 rfl dX9_perimeterOf_22 ?_
          refine lv_iload_n hx hb dX9_perimeterOf_25 rfl (lv_at hl 3 rfl) ?_
          obtain ⟨g3, h⟩ := dc_need h
          refine gk_iald hx hb hK hH 1 rfl (dk_in g3) dX9_perimeterOf_26 ?_
          refine lv_aload_n hx hb dX9_perimeterOf_27 rfl (lv_at hl 0 rfl) ?_
          refine lv_iload_n hx hb dX9_perimeterOf_28 rfl (lv_at hl 3 rfl) ?_
          refine lv_iload_n hx hb dX9_perimeterOf_29 rfl (lv_at hl 1 rfl) ?_
          obtain ⟨q4, hqq4, h⟩ := dc_bind h
          refine gc_Vi (ws' := [(a_t, .inr (8, [.int t_units, .ref a_t_population, .ref a_t_area, .ref a_t_community, .ref a_t_outer, .ref a_t_neighbors, .ref a_t_lengths, v_t_cores, v_t_districts, v_t_tolerance, v_t_hasPlan, .ref a_t_plan])), (a_t_outer, .inl (k 0, 12, .inl t_outer)), (a_t_lengths, .inl (k 0, 144, .inl t_lengths))]) (isC := [0, 2]) (isR := [1]) (As := [.int y4_3, .int x1]) (rest := [.int (t_outer y4_3.toNatClampNeg), .int y4_2]) (n := 2) (ci := 8) (cq := (RX9, TX9, 12)) hTs ⟨hx, hb, hml, hown, hts⟩ (mX9_lengthToOutside l Ts hTs D k H.size a_t a_t_population a_t_area a_t_community a_t_outer a_t_neighbors a_t_lengths a_t_plan t_lengths t_units v_t_cores v_t_districts v_t_hasPlan v_t_tolerance y4_3 x1 q4 hqq4) u_ml_X9_89 u_im_X9_lengthToOutside u_se_X9_lengthToOutside u_in_X9 u_co_X9_lengthToOutside hd_X9_lengthToOutside ⟨Nat.le_of_ble_eq_true rfl, Nat.le_of_ble_eq_true rfl⟩ ⟨rfl, rfl⟩ hK hH hA ⟨rfl, rfl, rfl, rfl, rfl, rfl⟩ rfl rfl rfl rfl hl.1 (by decide) dX9_perimeterOf_30 ⟨Nat.le_of_ble_eq_true rfl, Nat.le_of_ble_eq_true rfl⟩ (fun H locs hH => ?_)
          refine lv_iadd hx hb dX9_perimeterOf_33 ?_
          refine lv_iadd hx hb dX9_perimeterOf_34 ?_
          refine lv_istore_n (lv' := [(2, .int (y4_2 + ((t_outer y4_3.toNatClampNeg) + q4))), (0, .ref a_t), (1, .int x1), (3, .int y4_3)]) hx hb dX9_perimeterOf_35 rfl hl (by decide) rfl (fun ls hl => ?_)
          refine lv_iinc (v := (y4_3 + (1 : Int32))) (lv' := [(3, .int (y4_3 + (1 : Int32))), (2, .int (y4_2 + ((t_outer y4_3.toNatClampNeg) + q4))), (0, .ref a_t), (1, .int x1)]) hx hb dX9_perimeterOf_36 hl (k := 3) rfl rfl (by decide) rfl (fun ls hl => ?_)
          refine lv_goto (tgt := 4) hx hb dX9_perimeterOf_39 (by decide) ?_
          exact ih kf (y4_2 + ((t_outer y4_3.toNatClampNeg) + q4)) (y4_3 + (1 : Int32)) h kk H locs ls hH (lv_sub hl [2, 3, 1, 0] rfl)
  rw [fX9_perimeterOf] at h
  refine lv_iconst (v := 0) hx hb dX9_perimeterOf_0 (by decide) ?_
  refine lv_istore_n (lv' := [(2, .int (0 : Int32)), (0, .ref a_t), (1, .int x1)]) hx hb dX9_perimeterOf_1 rfl hl (by decide) rfl (fun ls hl => ?_)
  refine lv_iconst (v := 0) hx hb dX9_perimeterOf_2 (by decide) ?_
  refine lv_istore_n (lv' := [(3, .int (0 : Int32)), (2, .int (0 : Int32)), (0, .ref a_t), (1, .int x1)]) hx hb dX9_perimeterOf_3 rfl hl (by decide) rfl (fun ls hl => ?_)
  refine L4 _ _ (0 : Int32) (0 : Int32) h (fun z4_2 H locs ls h hH hl => ?_) H locs ls hH (lv_sub hl [2, 3, 1, 0] rfl)
  refine lv_iload_n hx hb dX9_perimeterOf_42 rfl (lv_at hl 0 rfl) ?_
  have h := Option.some.inj h
  subst h
  exact ge_i hx hb hr hlocks hQ hK hH hAe rfl dX9_perimeterOf_43
theorem hd_X9_areaOf : yX9_areaOf.cls = RX9 ∧ yX9_areaOf.cls ≠ "java/lang/invoke/MethodHandle" ∧ yX9_areaOf.cls ≠ "java/lang/invoke/VarHandle" ∧ (parseMethodDescriptor yX9_areaOf.desc).map (fun d => d.parameters.length) = some 1 := by decide +kernel
set_option maxHeartbeats 4000000 in
set_option maxRecDepth 100000 in
theorem mX9_areaOf (l : Launch) (Ts : List Cond) (hTs : ∀ w, w ∈ Ts ↔ w ∈ uT) (D : va_G) (k : Nat → ClassId) (sz : Nat) (a_t : Nat) (a_t_population : Nat) (a_t_area : Nat) (a_t_community : Nat) (a_t_outer : Nat) (a_t_neighbors : Nat) (a_t_lengths : Nat) (a_t_plan : Nat) (t_area : Nat → Int32) (t_units : Int32) (v_t_cores : Value) (v_t_districts : Value) (v_t_hasPlan : Value) (v_t_tolerance : Value) (x1 : Int32) (r : Int32) (h : fX9_areaOf t_area t_units x1 = some r) : Met l yX9_areaOf (Cond.code yX9_areaOf cX9_areaOf 4 (some .int) :: Ts) ({ frames := 0, cells := 0, slots := 0, locals := 0 } : Room) (preM D k [.ref a_t, .int x1] [(a_t, .inr (8, [.int t_units, .ref a_t_population, .ref a_t_area, .ref a_t_community, .ref a_t_outer, .ref a_t_neighbors, .ref a_t_lengths, v_t_cores, v_t_districts, v_t_tolerance, v_t_hasPlan, .ref a_t_plan])), (a_t_area, .inl (k 0, 12, .inl t_area))] sz) (postI D k r [(a_t, .inr (8, [.int t_units, .ref a_t_population, .ref a_t_area, .ref a_t_community, .ref a_t_outer, .ref a_t_neighbors, .ref a_t_lengths, v_t_cores, v_t_districts, v_t_tolerance, v_t_hasPlan, .ref a_t_plan])), (a_t_area, .inl (k 0, 12, .inl t_area))] [(a_t, .inr (8, [.int t_units, .ref a_t_population, .ref a_t_area, .ref a_t_community, .ref a_t_outer, .ref a_t_neighbors, .ref a_t_lengths, v_t_cores, v_t_districts, v_t_tolerance, v_t_hasPlan, .ref a_t_plan])), (a_t_area, .inl (k 0, 12, .inl t_area))] sz) 0 0 (va_A [(a_t, .inr (8, [.int t_units, .ref a_t_population, .ref a_t_area, .ref a_t_community, .ref a_t_outer, .ref a_t_neighbors, .ref a_t_lengths, v_t_cores, v_t_districts, v_t_tolerance, v_t_hasPlan, .ref a_t_plan])), (a_t_area, .inl (k 0, 12, .inl t_area))] sz) := by
  refine Met.ofW (cc := cX9_areaOf) (maxL := 4) (ret := (some .int)) (by decide) rfl ?_
  intro p e s m args below meth c s₁ B hml hv
  obtain ⟨rfl, hsz, hP, hK, hD0⟩ := hv
  have hx := B.exec
  have hb := B.bytes
  have hr := B.returns
  have hts0 := atoms_spec (ws := (Cond.code yX9_areaOf cX9_areaOf 4 (some .int) :: Ts)) B.pre
  have hts : ∀ w ∈ uT, w.before _ s = true := fun w h => hts0 w (List.mem_cons_of_mem _ ((hTs w).mpr h))
  clear hts0
  have hown : s.vm.findClass RX9 = some m.cls := findClass_of_methodNamed B.named
  have hlocks := B.notSynchronized
  subst hsz
  have hD := hD0.self (sz := s.heap.size)
  generalize hAe : va_A [(a_t, .inr (8, [.int t_units, .ref a_t_population, .ref a_t_area, .ref a_t_community, .ref a_t_outer, .ref a_t_neighbors, .ref a_t_lengths, v_t_cores, v_t_districts, v_t_tolerance, v_t_hasPlan, .ref a_t_plan])), (a_t_area, .inl (k 0, 12, .inl t_area))] s.heap.size = A at hD ⊢
  have hA : ∀ q : Nat, s.heap.size ≤ q → A q := fun q h => by rw [← hAe]; exact Or.inr h
  have hH : HOK D A s.heap [(a_t, .inr (8, [.int t_units, .ref a_t_population, .ref a_t_area, .ref a_t_community, .ref a_t_outer, .ref a_t_neighbors, .ref a_t_lengths, v_t_cores, v_t_districts, v_t_tolerance, v_t_hasPlan, .ref a_t_plan])), (a_t_area, .inl (k 0, 12, .inl t_area))] s.heap [] := ⟨hP, hD, va_S.rf⟩
  have hl := lv_entry ([.ref a_t, .int x1]) (n := 4) (Nat.le_of_ble_eq_true rfl)
  rw [lg_entry_eq]
  generalize (lg_sl ([.ref a_t, .int x1]) ++ List.replicate (4 - (lg_sl ([.ref a_t, .int x1])).length) Slot.unset).toArray = ls at hl ⊢
  have hl : lv_has ls 4 [(0, .ref a_t), (1, .int x1)] := hl
  generalize hQ : MQ below (postI D k r [(a_t, .inr (8, [.int t_units, .ref a_t_population, .ref a_t_area, .ref a_t_community, .ref a_t_outer, .ref a_t_neighbors, .ref a_t_lengths, v_t_cores, v_t_districts, v_t_tolerance, v_t_hasPlan, .ref a_t_plan])), (a_t_area, .inl (k 0, 12, .inl t_area))] [(a_t, .inr (8, [.int t_units, .ref a_t_population, .ref a_t_area, .ref a_t_community, .ref a_t_outer, .ref a_t_neighbors, .ref a_t_lengths, v_t_cores, v_t_districts, v_t_tolerance, v_t_hasPlan, .ref a_t_plan])), (a_t_area, .inl (k 0, 12, .inl t_area))] s.heap.size) (List.toArray [.ref a_t, .int x1]) s 0 0 A = Q
  clear hP hD hD0
  suffices K : ∀ (H : Heap) (locs : List Loc), HOK D A s.heap [(a_t, .inr (8, [.int t_units, .ref a_t_population, .ref a_t_area, .ref a_t_community, .ref a_t_outer, .ref a_t_neighbors, .ref a_t_lengths, v_t_cores, v_t_districts, v_t_tolerance, v_t_hasPlan, .ref a_t_plan])), (a_t_area, .inl (k 0, 12, .inl t_area))] H locs → W p l e ({ frames := 0, cells := 0, slots := 0, locals := 0 } : Room) s m (List.toArray [.ref a_t, .int x1]) below meth c H locs 0 0 Q (F0 m 0 ls []) from K s.heap [] hH
  intro H locs hH
  have L4 : ∀ (n : Nat), ∀ (kf : Int32 → Option (Int32)) (y4_2 : Int32) (y4_3 : Int32), fX9_areaOf_L4 t_area t_units x1 n kf y4_2 y4_3 = some r → (∀ (z4_2 : Int32) (H : Heap) (locs : List Loc) (ls : Array Slot), kf z4_2 = some r → HOK D A s.heap [(a_t, .inr (8, [.int t_units, .ref a_t_population, .ref a_t_area, .ref a_t_community, .ref a_t_outer, .ref a_t_neighbors, .ref a_t_lengths, v_t_cores, v_t_districts, v_t_tolerance, v_t_hasPlan, .ref a_t_plan])), (a_t_area, .inl (k 0, 12, .inl t_area))] H locs → lv_has ls 4 [(2, .int z4_2)] → W p l e ({ frames := 0, cells := 0, slots := 0, locals := 0 } : Room) s m (List.toArray [.ref a_t, .int x1]) below meth c H locs 0 0 Q (F0 m 35 ls [])) → ∀ (H : Heap) (locs : List Loc) (ls : Array Slot), HOK D A s.heap [(a_t, .inr (8, [.int t_units, .ref a_t_population, .ref a_t_area, .ref a_t_community, .ref a_t_outer, .ref a_t_neighbors, .ref a_t_lengths, v_t_cores, v_t_districts, v_t_tolerance, v_t_hasPlan, .ref a_t_plan])), (a_t_area, .inl (k 0, 12, .inl t_area))] H locs → lv_has ls 4 [(0, .ref a_t), (1, .int x1), (2, .int y4_2), (3, .int y4_3)] → W p l e ({ frames := 0, cells := 0, slots := 0, locals := 0 } : Room) s m (List.toArray [.ref a_t, .int x1]) below meth c H locs 0 0 Q (F0 m 4 ls []) := by
    intro n
    induction n with
    | zero =>
      intro kf y4_2 y4_3 h
      exact absurd h (by rw [fX9_areaOf_L4]; exact fun q => by cases q)
    | succ n ih =>
      intro kf y4_2 y4_3 h kk H locs ls hH hl
      rw [fX9_areaOf_L4] at h
      refine lv_iload_n hx hb dX9_areaOf_4 rfl (lv_at hl 3 rfl) ?_
      refine lv_aload_n hx hb dX9_areaOf_5 rfl (lv_at hl 0 rfl) ?_
      refine gk_get (ci := 8) (C := RX9) (T := TX9) (N := 12) hx hb hts u_ws_X9 hown hK hH 0 rfl rfl 0 (by decide) u_fl_X9_9 rfl dX9_areaOf_6 ?_
      refine lv_icmp_ge (tgt := 35) hx hb dX9_areaOf_9 (by decide) (fun c1 => ?_) (fun c1 => ?_)
      · replace h := dc_pos c1 h
        exact kk y4_2 H locs ls h hH (lv_sub hl [2] rfl)
      · replace h := dc_neg c1 h
        refine lv_iload_n hx hb dX9_areaOf_12 rfl (lv_at hl 1 rfl) ?_
        refine lv_iload_n hx hb dX9_areaOf_13 rfl (lv_at hl 3 rfl) ?_
        refine lv_ishr hx hb dX9_areaOf_14 ?_
        refine lv_iconst (v := 1) hx hb dX9_areaOf_15 (by decide) ?_
        refine lv_iand hx hb dX9_areaOf_16 ?_
        refine lv_if_eq (tgt := 29) hx hb dX9_areaOf_17 (by decide) (fun c2 => ?_) (fun c2 => ?_)
        · replace h := dc_pos c2 h
          refine lv_iinc (v := (y4_3 + (1 : Int32))) (lv' := [(3, .int (y4_3 + (1 : Int32))), (0, .ref a_t), (1, .int x1), (2, .int y4_2)]) hx hb dX9_areaOf_29 hl (k := 3) rfl rfl (by decide) rfl (fun ls hl => ?_)
          refine lv_goto (tgt := 4) hx hb dX9_areaOf_32 (by decide) ?_
          exact ih kf y4_2 (y4_3 + (1 : Int32)) h kk H locs ls hH (lv_sub hl [1, 2, 3, 0] rfl)
        · replace h := dc_neg c2 h
          refine lv_iload_n hx hb dX9_areaOf_20 rfl (lv_at hl 2 rfl) ?_
          refine lv_aload_n hx hb dX9_areaOf_21 rfl (lv_at hl 0 rfl) ?_
          refine gk_get (ci := 8) (C := RX9) (T := TX9) (N := 12) hx hb hts u_ws_X9 hown hK hH 0 rfl rfl 2 (by decide) u_fl_X9_19 rfl dX9_areaOf_22 ?_
          refine lv_iload_n hx hb dX9_areaOf_25 rfl (lv_at hl 3 rfl) ?_
          obtain ⟨g3, h⟩ := dc_need h
          refine gk_iald hx hb hK hH 1 rfl (dk_in g3) dX9_areaOf_26 ?_
          refine lv_iadd hx hb dX9_areaOf_27 ?_
          refine lv_istore_n (lv' := [(2, .int (y4_2 + (t_area y4_3.toNatClampNeg))), (0, .ref a_t), (1, .int x1), (3, .int y4_3)]) hx hb dX9_areaOf_28 rfl hl (by decide) rfl (fun ls hl => ?_)
          refine lv_iinc (v := (y4_3 + (1 : Int32))) (lv' := [(3, .int (y4_3 + (1 : Int32))), (2, .int (y4_2 + (t_area y4_3.toNatClampNeg))), (0, .ref a_t), (1, .int x1)]) hx hb dX9_areaOf_29 hl (k := 3) rfl rfl (by decide) rfl (fun ls hl => ?_)
          refine lv_goto (tgt := 4) hx hb dX9_areaOf_32 (by decide) ?_
          exact ih kf (y4_2 + (t_area y4_3.toNatClampNeg)) (y4_3 + (1 : Int32)) h kk H locs ls hH (lv_sub hl [2, 3, 1, 0] rfl)
  rw [fX9_areaOf] at h
  refine lv_iconst (v := 0) hx hb dX9_areaOf_0 (by decide) ?_
  refine lv_istore_n (lv' := [(2, .int (0 : Int32)), (0, .ref a_t), (1, .int x1)]) hx hb dX9_areaOf_1 rfl hl (by decide) rfl (fun ls hl => ?_)
  refine lv_iconst (v := 0) hx hb dX9_areaOf_2 (by decide) ?_
  refine lv_istore_n (lv' := [(3, .int (0 : Int32)), (2, .int (0 : Int32)), (0, .ref a_t), (1, .int x1)]) hx hb dX9_areaOf_3 rfl hl (by decide) rfl (fun ls hl => ?_)
  refine L4 _ _ (0 : Int32) (0 : Int32) h (fun z4_2 H locs ls h hH hl => ?_) H locs ls hH (lv_sub hl [2, 3, 1, 0] rfl)
  refine lv_iload_n hx hb dX9_areaOf_35 rfl (lv_at hl 0 rfl) ?_
  have h := Option.some.inj h
  subst h
  exact ge_i hx hb hr hlocks hQ hK hH hAe rfl dX9_areaOf_36
theorem hd_X1_commonDivisor : yX1_commonDivisor.cls ≠ "java/lang/invoke/MethodHandle" ∧ yX1_commonDivisor.cls ≠ "java/lang/invoke/VarHandle" ∧ (parseMethodDescriptor yX1_commonDivisor.desc).map (fun d => d.parameters.length) = some 2 := by decide +kernel
set_option maxHeartbeats 4000000 in
set_option maxRecDepth 100000 in
theorem mX1_commonDivisor (l : Launch) (Ts : List Cond) (hTs : ∀ w, w ∈ Ts ↔ w ∈ uT) (D : va_G) (k : Nat → ClassId) (sz : Nat) (x0 : Int64) (x2 : Int64) (r : Int64) (h : fX1_commonDivisor x0 x2 = some r) : Met l yX1_commonDivisor (Cond.code yX1_commonDivisor cX1_commonDivisor 11 (some .long) :: Ts) ({ frames := 0, cells := 0, slots := 0, locals := 0 } : Room) (preM D k [.long x0, .long x2] [] sz) (postL D k r [] [] sz) 0 0 (va_A [] sz) := by
  refine Met.ofW (cc := cX1_commonDivisor) (maxL := 11) (ret := (some .long)) (by decide) rfl ?_
  intro p e s m args below meth c s₁ B hml hv
  obtain ⟨rfl, hsz, hP, hK, hD0⟩ := hv
  have hx := B.exec
  have hb := B.bytes
  have hr := B.returns
  have hts0 := atoms_spec (ws := (Cond.code yX1_commonDivisor cX1_commonDivisor 11 (some .long) :: Ts)) B.pre
  have hts : ∀ w ∈ uT, w.before _ s = true := fun w h => hts0 w (List.mem_cons_of_mem _ ((hTs w).mpr h))
  clear hts0
  have hown : s.vm.findClass RX1 = some m.cls := findClass_of_methodNamed B.named
  have hlocks := B.notSynchronized
  subst hsz
  have hD := hD0.self (sz := s.heap.size)
  generalize hAe : va_A [] s.heap.size = A at hD ⊢
  have hA : ∀ q : Nat, s.heap.size ≤ q → A q := fun q h => by rw [← hAe]; exact Or.inr h
  have hH : HOK D A s.heap [] s.heap [] := ⟨hP, hD, va_S.rf⟩
  have hl := lv_entry ([.long x0, .long x2]) (n := 11) (Nat.le_of_ble_eq_true rfl)
  rw [lg_entry_eq]
  generalize (lg_sl ([.long x0, .long x2]) ++ List.replicate (11 - (lg_sl ([.long x0, .long x2])).length) Slot.unset).toArray = ls at hl ⊢
  have hl : lv_has ls 11 [(0, .long x0), (2, .long x2)] := hl
  generalize hQ : MQ below (postL D k r [] [] s.heap.size) (List.toArray [.long x0, .long x2]) s 0 0 A = Q
  clear hP hD hD0
  suffices K : ∀ (H : Heap) (locs : List Loc), HOK D A s.heap [] H locs → W p l e ({ frames := 0, cells := 0, slots := 0, locals := 0 } : Room) s m (List.toArray [.long x0, .long x2]) below meth c H locs 0 0 Q (F0 m 0 ls []) from K s.heap [] hH
  intro H locs hH
  have L9 : ∀ (n : Nat), ∀ (kf : Int64 → Option (Int64)) (y9_4 : Int64) (y9_6 : Int64) (y9_8 : Int32), fX1_commonDivisor_L9 n kf y9_4 y9_6 y9_8 = some r → (∀ (z9_4 : Int64) (H : Heap) (locs : List Loc) (ls : Array Slot), kf z9_4 = some r → HOK D A s.heap [] H locs → lv_has ls 11 [(4, .long z9_4)] → W p l e ({ frames := 0, cells := 0, slots := 0, locals := 0 } : Room) s m (List.toArray [.long x0, .long x2]) below meth c H locs 0 0 Q (F0 m 44 ls [])) → ∀ (H : Heap) (locs : List Loc) (ls : Array Slot), HOK D A s.heap [] H locs → lv_has ls 11 [(4, .long y9_4), (6, .long y9_6), (8, .int y9_8)] → W p l e ({ frames := 0, cells := 0, slots := 0, locals := 0 } : Room) s m (List.toArray [.long x0, .long x2]) below meth c H locs 0 0 Q (F0 m 9 ls []) := by
    intro n
    induction n with
    | zero =>
      intro kf y9_4 y9_6 y9_8 h
      exact absurd h (by rw [fX1_commonDivisor_L9]; exact fun q => by cases q)
    | succ n ih =>
      intro kf y9_4 y9_6 y9_8 h kk H locs ls hH hl
      rw [fX1_commonDivisor_L9] at h
      refine lv_iload hx hb dX1_commonDivisor_9 (lv_at hl 2 rfl) ?_
      refine lv_bipush (v := 100) hx hb dX1_commonDivisor_11 (by decide) ?_
      refine lv_icmp_ge (tgt := 44) hx hb dX1_commonDivisor_13 (by decide) (fun c1 => ?_) (fun c1 => ?_)
      · replace h := dc_pos c1 h
        exact kk y9_4 H locs ls h hH (lv_sub hl [0] rfl)
      · replace h := dc_neg c1 h
        refine lv_lload hx hb dX1_commonDivisor_16 (lv_at hl 1 rfl) ?_
        refine lv_lconst (v := 0) hx hb dX1_commonDivisor_18 (by decide) ?_
        refine W.lcmp hx hb dX1_commonDivisor_19 ?_
        refine lv_if_eq (tgt := 44) hx hb dX1_commonDivisor_20 (by decide) (fun c2 => ?_) (fun c2 => ?_)
        · replace h := dc_pos c2 h
          exact kk y9_4 H locs ls h hH (lv_sub hl [0] rfl)
        · replace h := dc_neg c2 h
          refine lv_lload hx hb dX1_commonDivisor_23 (lv_at hl 0 rfl) ?_
          refine lv_lload hx hb dX1_commonDivisor_25 (lv_at hl 1 rfl) ?_
          obtain ⟨g3, h⟩ := dc_neL h
          refine lv_lrem hx hb dX1_commonDivisor_27 g3 ?_
          refine lv_lstore (lv' := [(9, .long (y9_4 - y9_4 / y9_6 * y9_6)), (4, .long y9_4), (6, .long y9_6), (8, .int y9_8)]) hx hb dX1_commonDivisor_28 hl (by decide) rfl (fun ls hl => ?_)
          refine lv_lload hx hb dX1_commonDivisor_30 (lv_at hl 2 rfl) ?_
          refine lv_lstore (lv' := [(4, .long y9_6), (9, .long (y9_4 - y9_4 / y9_6 * y9_6)), (6, .long y9_6), (8, .int y9_8)]) hx hb dX1_commonDivisor_32 hl (by decide) rfl (fun ls hl => ?_)
          refine lv_lload hx hb dX1_commonDivisor_34 (lv_at hl 1 rfl) ?_
          refine lv_lstore (lv' := [(6, .long (y9_4 - y9_4 / y9_6 * y9_6)), (4, .long y9_6), (9, .long (y9_4 - y9_4 / y9_6 * y9_6)), (8, .int y9_8)]) hx hb dX1_commonDivisor_36 hl (by decide) rfl (fun ls hl => ?_)
          refine lv_iinc (v := (y9_8 + (1 : Int32))) (lv' := [(8, .int (y9_8 + (1 : Int32))), (6, .long (y9_4 - y9_4 / y9_6 * y9_6)), (4, .long y9_6), (9, .long (y9_4 - y9_4 / y9_6 * y9_6))]) hx hb dX1_commonDivisor_38 hl (k := 3) rfl rfl (by decide) rfl (fun ls hl => ?_)
          refine lv_goto (tgt := 9) hx hb dX1_commonDivisor_41 (by decide) ?_
          exact ih kf y9_6 (y9_4 - y9_4 / y9_6 * y9_6) (y9_8 + (1 : Int32)) h kk H locs ls hH (lv_sub hl [2, 1, 0] rfl)
  rw [fX1_commonDivisor] at h
  refine lv_lload_n hx hb dX1_commonDivisor_0 rfl (lv_at hl 0 rfl) ?_
  refine lv_lstore (lv' := [(4, .long x0), (0, .long x0), (2, .long x2)]) hx hb dX1_commonDivisor_1 hl (by decide) rfl (fun ls hl => ?_)
  refine lv_lload_n hx hb dX1_commonDivisor_3 rfl (lv_at hl 2 rfl) ?_
  refine lv_lstore (lv' := [(6, .long x2), (4, .long x0), (0, .long x0), (2, .long x2)]) hx hb dX1_commonDivisor_4 hl (by decide) rfl (fun ls hl => ?_)
  refine lv_iconst (v := 0) hx hb dX1_commonDivisor_6 (by decide) ?_
  refine lv_istore (lv' := [(8, .int (0 : Int32)), (6, .long x2), (4, .long x0), (0, .long x0), (2, .long x2)]) hx hb dX1_commonDivisor_7 hl (by decide) rfl (fun ls hl => ?_)
  refine L9 _ _ x0 x2 (0 : Int32) h (fun z9_4 H locs ls h hH hl => ?_) H locs ls hH (lv_sub hl [2, 1, 0] rfl)
  refine lv_lload hx hb dX1_commonDivisor_44 (lv_at hl 0 rfl) ?_
  have h := Option.some.inj h
  subst h
  exact ge_l hx hb hr hlocks hQ hK hH hAe rfl dX1_commonDivisor_46
theorem hd_X1_become : yX1_become.cls = RX1 ∧ yX1_become.cls ≠ "java/lang/invoke/MethodHandle" ∧ yX1_become.cls ≠ "java/lang/invoke/VarHandle" ∧ (parseMethodDescriptor yX1_become.desc).map (fun d => d.parameters.length) = some 2 := by decide +kernel
set_option maxHeartbeats 4000000 in
set_option maxRecDepth 100000 in
theorem mX1_become (l : Launch) (Ts : List Cond) (hTs : ∀ w, w ∈ Ts ↔ w ∈ uT) (D : va_G) (k : Nat → ClassId) (sz : Nat) (a_t : Nat) (v_t_bottom : Value) (v_t_top : Value) (x1 : Int64) (x3 : Int64) (r : Int64 × Int64) (h : fX1_become x1 x3 = some r) : Met l yX1_become (Cond.code yX1_become cX1_become 7 none :: Ts) ({ frames := 1, cells := 0, slots := 0, locals := 30 } : Room) (preM D k [.ref a_t, .long x1, .long x3] [(a_t, .inr (1, [v_t_top, v_t_bottom]))] sz) (postV D k [(a_t, .inr (1, [v_t_top, v_t_bottom]))] [(a_t, .inr (1, [.long r.2, .long r.1]))] sz) 0 0 (va_A [(a_t, .inr (1, [v_t_top, v_t_bottom]))] sz) := by
  refine Met.ofW (cc := cX1_become) (maxL := 7) (ret := none) (by decide) rfl ?_
  intro p e s m args below meth c s₁ B hml hv
  obtain ⟨rfl, hsz, hP, hK, hD0⟩ := hv
  have hx := B.exec
  have hb := B.bytes
  have hr := B.returns
  have hts0 := atoms_spec (ws := (Cond.code yX1_become cX1_become 7 none :: Ts)) B.pre
  have hts : ∀ w ∈ uT, w.before _ s = true := fun w h => hts0 w (List.mem_cons_of_mem _ ((hTs w).mpr h))
  clear hts0
  have hown : s.vm.findClass RX1 = some m.cls := findClass_of_methodNamed B.named
  have hlocks := B.notSynchronized
  subst hsz
  have hD := hD0.self (sz := s.heap.size)
  generalize hAe : va_A [(a_t, .inr (1, [v_t_top, v_t_bottom]))] s.heap.size = A at hD ⊢
  have hA : ∀ q : Nat, s.heap.size ≤ q → A q := fun q h => by rw [← hAe]; exact Or.inr h
  have hH : HOK D A s.heap [(a_t, .inr (1, [v_t_top, v_t_bottom]))] s.heap [] := ⟨hP, hD, va_S.rf⟩
  have hl := lv_entry ([.ref a_t, .long x1, .long x3]) (n := 7) (Nat.le_of_ble_eq_true rfl)
  rw [lg_entry_eq]
  generalize (lg_sl ([.ref a_t, .long x1, .long x3]) ++ List.replicate (7 - (lg_sl ([.ref a_t, .long x1, .long x3])).length) Slot.unset).toArray = ls at hl ⊢
  have hl : lv_has ls 7 [(0, .ref a_t), (1, .long x1), (3, .long x3)] := hl
  generalize hQ : MQ below (postV D k [(a_t, .inr (1, [v_t_top, v_t_bottom]))] [(a_t, .inr (1, [.long r.2, .long r.1]))] s.heap.size) (List.toArray [.ref a_t, .long x1, .long x3]) s 0 0 A = Q
  clear hP hD hD0
  suffices K : ∀ (H : Heap) (locs : List Loc), HOK D A s.heap [(a_t, .inr (1, [v_t_top, v_t_bottom]))] H locs → W p l e ({ frames := 1, cells := 0, slots := 0, locals := 30 } : Room) s m (List.toArray [.ref a_t, .long x1, .long x3]) below meth c H locs 0 0 Q (F0 m 0 ls []) from K s.heap [] hH
  intro H locs hH
  rw [fX1_become] at h
  refine lv_lload_n hx hb dX1_become_0 rfl (lv_at hl 1 rfl) ?_
  refine lv_lload_n hx hb dX1_become_1 rfl (lv_at hl 2 rfl) ?_
  obtain ⟨q1, hqq1, h⟩ := dc_bind h
  refine gc_Sl (ws' := [(a_t, .inr (1, [v_t_top, v_t_bottom]))]) (isC := []) (isR := [0]) (As := [.long x1, .long x3]) (rest := []) (n := 2) hTs ⟨hx, hb, hml, hown, hts⟩ (mX1_commonDivisor l Ts hTs D k H.size x1 x3 q1 hqq1) u_ml_X1_16 u_st_X1_commonDivisor u_in_X1 u_co_X1_commonDivisor hd_X1_commonDivisor ⟨Nat.le_of_ble_eq_true rfl, Nat.le_of_ble_eq_true rfl⟩ ⟨rfl, rfl⟩ hK hH hA ⟨rfl, rfl, rfl, rfl, rfl, rfl⟩ rfl rfl hl.1 (by decide) dX1_become_2 ⟨Nat.le_of_ble_eq_true rfl, Nat.le_of_ble_eq_true rfl⟩ (fun H locs hH => ?_)
  refine lv_lstore (lv' := [(5, .long q1), (0, .ref a_t), (1, .long x1), (3, .long x3)]) hx hb dX1_become_5 hl (by decide) rfl (fun ls hl => ?_)
  refine lv_lload_n hx hb dX1_become_7 rfl (lv_at hl 2 rfl) ?_
  refine lv_lconst (v := 0) hx hb dX1_become_8 (by decide) ?_
  refine W.lcmp hx hb dX1_become_9 ?_
  refine lv_if_eq (tgt := 26) hx hb dX1_become_10 (by decide) (fun c2 => ?_) (fun c2 => ?_)
  · replace h := dc_pos c2 h
    refine lv_aload_n hx hb dX1_become_26 rfl (lv_at hl 1 rfl) ?_
    refine lv_lconst (v := 0) hx hb dX1_become_27 (by decide) ?_
    refine gk_put (ci := 1) (C := RX1) (T := TX1) (N := 2) hx hb hts u_ws_X1 tyX1_ok nmX1 hown hK hH 0 rfl rfl 0 (by decide) u_fl_X1_7 rfl rfl rfl (by decide) dX1_become_28 [(a_t, .inr (1, [.long (0 : Int64), v_t_bottom]))] rfl (fun H locs hH => ?_)
    refine lv_aload_n hx hb dX1_become_31 rfl (lv_at hl 1 rfl) ?_
    refine lv_lconst (v := 1) hx hb dX1_become_32 (by decide) ?_
    refine gk_put (ci := 1) (C := RX1) (T := TX1) (N := 2) hx hb hts u_ws_X1 tyX1_ok nmX1 hown hK hH 0 rfl rfl 1 (by decide) u_fl_X1_13 rfl rfl rfl (by decide) dX1_become_33 [(a_t, .inr (1, [.long (0 : Int64), .long (1 : Int64)]))] rfl (fun H locs hH => ?_)
    have h := Option.some.inj h
    subst h
    exact ge_v hx hb hr hlocks hQ hK hH hAe dX1_become_36
  · replace h := dc_neg c2 h
    refine lv_lload_n hx hb dX1_become_13 rfl (lv_at hl 3 rfl) ?_
    refine lv_lconst (v := 0) hx hb dX1_become_14 (by decide) ?_
    refine W.lcmp hx hb dX1_become_15 ?_
    refine lv_if_eq (tgt := 26) hx hb dX1_become_16 (by decide) (fun c3 => ?_) (fun c3 => ?_)
    · replace h := dc_pos c3 h
      refine lv_aload_n hx hb dX1_become_26 rfl (lv_at hl 1 rfl) ?_
      refine lv_lconst (v := 0) hx hb dX1_become_27 (by decide) ?_
      refine gk_put (ci := 1) (C := RX1) (T := TX1) (N := 2) hx hb hts u_ws_X1 tyX1_ok nmX1 hown hK hH 0 rfl rfl 0 (by decide) u_fl_X1_7 rfl rfl rfl (by decide) dX1_become_28 [(a_t, .inr (1, [.long (0 : Int64), v_t_bottom]))] rfl (fun H locs hH => ?_)
      refine lv_aload_n hx hb dX1_become_31 rfl (lv_at hl 1 rfl) ?_
      refine lv_lconst (v := 1) hx hb dX1_become_32 (by decide) ?_
      refine gk_put (ci := 1) (C := RX1) (T := TX1) (N := 2) hx hb hts u_ws_X1 tyX1_ok nmX1 hown hK hH 0 rfl rfl 1 (by decide) u_fl_X1_13 rfl rfl rfl (by decide) dX1_become_33 [(a_t, .inr (1, [.long (0 : Int64), .long (1 : Int64)]))] rfl (fun H locs hH => ?_)
      have h := Option.some.inj h
      subst h
      exact ge_v hx hb hr hlocks hQ hK hH hAe dX1_become_36
    · replace h := dc_neg c3 h
      refine lv_lload hx hb dX1_become_19 (lv_at hl 0 rfl) ?_
      refine lv_lconst (v := 0) hx hb dX1_become_21 (by decide) ?_
      refine W.lcmp hx hb dX1_become_22 ?_
      refine lv_if_ne (tgt := 37) hx hb dX1_become_23 (by decide) (fun c4 => ?_) (fun c4 => ?_)
      · replace h := dc_neg c4 h
        refine lv_aload_n hx hb dX1_become_37 rfl (lv_at hl 1 rfl) ?_
        refine lv_lload_n hx hb dX1_become_38 rfl (lv_at hl 2 rfl) ?_
        refine lv_lload hx hb dX1_become_39 (lv_at hl 0 rfl) ?_
        obtain ⟨g5, h⟩ := dc_neL h
        refine lv_ldiv hx hb dX1_become_41 g5 ?_
        refine gk_put (ci := 1) (C := RX1) (T := TX1) (N := 2) hx hb hts u_ws_X1 tyX1_ok nmX1 hown hK hH 0 rfl rfl 0 (by decide) u_fl_X1_7 rfl rfl rfl (by decide) dX1_become_42 [(a_t, .inr (1, [.long (x1 / q1), v_t_bottom]))] rfl (fun H locs hH => ?_)
        refine lv_aload_n hx hb dX1_become_45 rfl (lv_at hl 1 rfl) ?_
        refine lv_lload_n hx hb dX1_become_46 rfl (lv_at hl 3 rfl) ?_
        refine lv_lload hx hb dX1_become_47 (lv_at hl 0 rfl) ?_
        obtain ⟨g6, h⟩ := dc_neL h
        refine lv_ldiv hx hb dX1_become_49 g6 ?_
        refine gk_put (ci := 1) (C := RX1) (T := TX1) (N := 2) hx hb hts u_ws_X1 tyX1_ok nmX1 hown hK hH 0 rfl rfl 1 (by decide) u_fl_X1_13 rfl rfl rfl (by decide) dX1_become_50 [(a_t, .inr (1, [.long (x1 / q1), .long (x3 / q1)]))] rfl (fun H locs hH => ?_)
        have h := Option.some.inj h
        subst h
        exact ge_v hx hb hr hlocks hQ hK hH hAe dX1_become_53
      · replace h := dc_pos c4 h
        refine lv_aload_n hx hb dX1_become_26 rfl (lv_at hl 1 rfl) ?_
        refine lv_lconst (v := 0) hx hb dX1_become_27 (by decide) ?_
        refine gk_put (ci := 1) (C := RX1) (T := TX1) (N := 2) hx hb hts u_ws_X1 tyX1_ok nmX1 hown hK hH 0 rfl rfl 0 (by decide) u_fl_X1_7 rfl rfl rfl (by decide) dX1_become_28 [(a_t, .inr (1, [.long (0 : Int64), v_t_bottom]))] rfl (fun H locs hH => ?_)
        refine lv_aload_n hx hb dX1_become_31 rfl (lv_at hl 1 rfl) ?_
        refine lv_lconst (v := 1) hx hb dX1_become_32 (by decide) ?_
        refine gk_put (ci := 1) (C := RX1) (T := TX1) (N := 2) hx hb hts u_ws_X1 tyX1_ok nmX1 hown hK hH 0 rfl rfl 1 (by decide) u_fl_X1_13 rfl rfl rfl (by decide) dX1_become_33 [(a_t, .inr (1, [.long (0 : Int64), .long (1 : Int64)]))] rfl (fun H locs hH => ?_)
        have h := Option.some.inj h
        subst h
        exact ge_v hx hb hr hlocks hQ hK hH hAe dX1_become_36
theorem hd_X9_lengthBetween : yX9_lengthBetween.cls = RX9 ∧ yX9_lengthBetween.cls ≠ "java/lang/invoke/MethodHandle" ∧ yX9_lengthBetween.cls ≠ "java/lang/invoke/VarHandle" ∧ (parseMethodDescriptor yX9_lengthBetween.desc).map (fun d => d.parameters.length) = some 2 := by decide +kernel
set_option maxHeartbeats 4000000 in
set_option maxRecDepth 100000 in
theorem mX9_lengthBetween (l : Launch) (Ts : List Cond) (hTs : ∀ w, w ∈ Ts ↔ w ∈ uT) (D : va_G) (k : Nat → ClassId) (sz : Nat) (a_t : Nat) (a_t_population : Nat) (a_t_area : Nat) (a_t_community : Nat) (a_t_outer : Nat) (a_t_neighbors : Nat) (a_t_lengths : Nat) (a_t_plan : Nat) (t_lengths : Nat → Int32) (v_t_cores : Value) (v_t_districts : Value) (v_t_hasPlan : Value) (v_t_tolerance : Value) (v_t_units : Value) (x1 : Int32) (x2 : Int32) (r : Int32) (h : fX9_lengthBetween t_lengths x1 x2 = some r) : Met l yX9_lengthBetween (Cond.code yX9_lengthBetween cX9_lengthBetween 3 (some .int) :: Ts) ({ frames := 0, cells := 0, slots := 0, locals := 0 } : Room) (preM D k [.ref a_t, .int x1, .int x2] [(a_t, .inr (8, [v_t_units, .ref a_t_population, .ref a_t_area, .ref a_t_community, .ref a_t_outer, .ref a_t_neighbors, .ref a_t_lengths, v_t_cores, v_t_districts, v_t_tolerance, v_t_hasPlan, .ref a_t_plan])), (a_t_lengths, .inl (k 0, 144, .inl t_lengths))] sz) (postI D k r [(a_t, .inr (8, [v_t_units, .ref a_t_population, .ref a_t_area, .ref a_t_community, .ref a_t_outer, .ref a_t_neighbors, .ref a_t_lengths, v_t_cores, v_t_districts, v_t_tolerance, v_t_hasPlan, .ref a_t_plan])), (a_t_lengths, .inl (k 0, 144, .inl t_lengths))] [(a_t, .inr (8, [v_t_units, .ref a_t_population, .ref a_t_area, .ref a_t_community, .ref a_t_outer, .ref a_t_neighbors, .ref a_t_lengths, v_t_cores, v_t_districts, v_t_tolerance, v_t_hasPlan, .ref a_t_plan])), (a_t_lengths, .inl (k 0, 144, .inl t_lengths))] sz) 0 0 (va_A [(a_t, .inr (8, [v_t_units, .ref a_t_population, .ref a_t_area, .ref a_t_community, .ref a_t_outer, .ref a_t_neighbors, .ref a_t_lengths, v_t_cores, v_t_districts, v_t_tolerance, v_t_hasPlan, .ref a_t_plan])), (a_t_lengths, .inl (k 0, 144, .inl t_lengths))] sz) := by
  refine Met.ofW (cc := cX9_lengthBetween) (maxL := 3) (ret := (some .int)) (by decide) rfl ?_
  intro p e s m args below meth c s₁ B hml hv
  obtain ⟨rfl, hsz, hP, hK, hD0⟩ := hv
  have hx := B.exec
  have hb := B.bytes
  have hr := B.returns
  have hts0 := atoms_spec (ws := (Cond.code yX9_lengthBetween cX9_lengthBetween 3 (some .int) :: Ts)) B.pre
  have hts : ∀ w ∈ uT, w.before _ s = true := fun w h => hts0 w (List.mem_cons_of_mem _ ((hTs w).mpr h))
  clear hts0
  have hown : s.vm.findClass RX9 = some m.cls := findClass_of_methodNamed B.named
  have hlocks := B.notSynchronized
  subst hsz
  have hD := hD0.self (sz := s.heap.size)
  generalize hAe : va_A [(a_t, .inr (8, [v_t_units, .ref a_t_population, .ref a_t_area, .ref a_t_community, .ref a_t_outer, .ref a_t_neighbors, .ref a_t_lengths, v_t_cores, v_t_districts, v_t_tolerance, v_t_hasPlan, .ref a_t_plan])), (a_t_lengths, .inl (k 0, 144, .inl t_lengths))] s.heap.size = A at hD ⊢
  have hA : ∀ q : Nat, s.heap.size ≤ q → A q := fun q h => by rw [← hAe]; exact Or.inr h
  have hH : HOK D A s.heap [(a_t, .inr (8, [v_t_units, .ref a_t_population, .ref a_t_area, .ref a_t_community, .ref a_t_outer, .ref a_t_neighbors, .ref a_t_lengths, v_t_cores, v_t_districts, v_t_tolerance, v_t_hasPlan, .ref a_t_plan])), (a_t_lengths, .inl (k 0, 144, .inl t_lengths))] s.heap [] := ⟨hP, hD, va_S.rf⟩
  have hl := lv_entry ([.ref a_t, .int x1, .int x2]) (n := 3) (Nat.le_of_ble_eq_true rfl)
  rw [lg_entry_eq]
  generalize (lg_sl ([.ref a_t, .int x1, .int x2]) ++ List.replicate (3 - (lg_sl ([.ref a_t, .int x1, .int x2])).length) Slot.unset).toArray = ls at hl ⊢
  have hl : lv_has ls 3 [(0, .ref a_t), (1, .int x1), (2, .int x2)] := hl
  generalize hQ : MQ below (postI D k r [(a_t, .inr (8, [v_t_units, .ref a_t_population, .ref a_t_area, .ref a_t_community, .ref a_t_outer, .ref a_t_neighbors, .ref a_t_lengths, v_t_cores, v_t_districts, v_t_tolerance, v_t_hasPlan, .ref a_t_plan])), (a_t_lengths, .inl (k 0, 144, .inl t_lengths))] [(a_t, .inr (8, [v_t_units, .ref a_t_population, .ref a_t_area, .ref a_t_community, .ref a_t_outer, .ref a_t_neighbors, .ref a_t_lengths, v_t_cores, v_t_districts, v_t_tolerance, v_t_hasPlan, .ref a_t_plan])), (a_t_lengths, .inl (k 0, 144, .inl t_lengths))] s.heap.size) (List.toArray [.ref a_t, .int x1, .int x2]) s 0 0 A = Q
  clear hP hD hD0
  suffices K : ∀ (H : Heap) (locs : List Loc), HOK D A s.heap [(a_t, .inr (8, [v_t_units, .ref a_t_population, .ref a_t_area, .ref a_t_community, .ref a_t_outer, .ref a_t_neighbors, .ref a_t_lengths, v_t_cores, v_t_districts, v_t_tolerance, v_t_hasPlan, .ref a_t_plan])), (a_t_lengths, .inl (k 0, 144, .inl t_lengths))] H locs → W p l e ({ frames := 0, cells := 0, slots := 0, locals := 0 } : Room) s m (List.toArray [.ref a_t, .int x1, .int x2]) below meth c H locs 0 0 Q (F0 m 0 ls []) from K s.heap [] hH
  intro H locs hH
  rw [fX9_lengthBetween] at h
  refine lv_aload_n hx hb dX9_lengthBetween_0 rfl (lv_at hl 0 rfl) ?_
  refine gk_get (ci := 8) (C := RX9) (T := TX9) (N := 12) hx hb hts u_ws_X9 hown hK hH 0 rfl rfl 6 (by decide) u_fl_X9_31 rfl dX9_lengthBetween_1 ?_
  refine lv_iload_n hx hb dX9_lengthBetween_4 rfl (lv_at hl 1 rfl) ?_
  refine lv_bipush (v := 12) hx hb dX9_lengthBetween_5 (by decide) ?_
  refine lv_imul hx hb dX9_lengthBetween_7 ?_
  refine lv_iload_n hx hb dX9_lengthBetween_8 rfl (lv_at hl 2 rfl) ?_
  refine lv_iadd hx hb dX9_lengthBetween_9 ?_
  obtain ⟨g1, h⟩ := dc_need h
  refine gk_iald hx hb hK hH 1 rfl (dk_in g1) dX9_lengthBetween_10 ?_
  have h := Option.some.inj h
  subst h
  exact ge_i hx hb hr hlocks hQ hK hH hAe rfl dX9_lengthBetween_11
theorem hd_X4_splits : yX4_splits.cls = RX4 ∧ yX4_splits.cls ≠ "java/lang/invoke/MethodHandle" ∧ yX4_splits.cls ≠ "java/lang/invoke/VarHandle" ∧ (parseMethodDescriptor yX4_splits.desc).map (fun d => d.parameters.length) = some 1 := by decide +kernel
set_option maxHeartbeats 4000000 in
set_option maxRecDepth 100000 in
theorem mX4_splits (l : Launch) (Ts : List Cond) (hTs : ∀ w, w ∈ Ts ↔ w ∈ uT) (D : va_G) (k : Nat → ClassId) (sz : Nat) (a_t : Nat) (a_t_places : Nat) (a_t_sets : Nat) (t_sets : Nat → Int32) (x1 : Int32) (r : Int32) (h : fX4_splits t_sets x1 = some r) : Met l yX4_splits (Cond.code yX4_splits cX4_splits 4 (some .boolean) :: Ts) ({ frames := 0, cells := 0, slots := 0, locals := 0 } : Room) (preM D k [.ref a_t, .int x1] [(a_t, .inr (4, [.ref a_t_places, .ref a_t_sets])), (a_t_sets, .inl (k 0, 4, .inl t_sets))] sz) (postI D k r [(a_t, .inr (4, [.ref a_t_places, .ref a_t_sets])), (a_t_sets, .inl (k 0, 4, .inl t_sets))] [(a_t, .inr (4, [.ref a_t_places, .ref a_t_sets])), (a_t_sets, .inl (k 0, 4, .inl t_sets))] sz) 0 0 (va_A [(a_t, .inr (4, [.ref a_t_places, .ref a_t_sets])), (a_t_sets, .inl (k 0, 4, .inl t_sets))] sz) := by
  refine Met.ofW (cc := cX4_splits) (maxL := 4) (ret := (some .boolean)) (by decide) rfl ?_
  intro p e s m args below meth c s₁ B hml hv
  obtain ⟨rfl, hsz, hP, hK, hD0⟩ := hv
  have hx := B.exec
  have hb := B.bytes
  have hr := B.returns
  have hts0 := atoms_spec (ws := (Cond.code yX4_splits cX4_splits 4 (some .boolean) :: Ts)) B.pre
  have hts : ∀ w ∈ uT, w.before _ s = true := fun w h => hts0 w (List.mem_cons_of_mem _ ((hTs w).mpr h))
  clear hts0
  have hown : s.vm.findClass RX4 = some m.cls := findClass_of_methodNamed B.named
  have hlocks := B.notSynchronized
  subst hsz
  have hD := hD0.self (sz := s.heap.size)
  generalize hAe : va_A [(a_t, .inr (4, [.ref a_t_places, .ref a_t_sets])), (a_t_sets, .inl (k 0, 4, .inl t_sets))] s.heap.size = A at hD ⊢
  have hA : ∀ q : Nat, s.heap.size ≤ q → A q := fun q h => by rw [← hAe]; exact Or.inr h
  have hH : HOK D A s.heap [(a_t, .inr (4, [.ref a_t_places, .ref a_t_sets])), (a_t_sets, .inl (k 0, 4, .inl t_sets))] s.heap [] := ⟨hP, hD, va_S.rf⟩
  have hl := lv_entry ([.ref a_t, .int x1]) (n := 4) (Nat.le_of_ble_eq_true rfl)
  rw [lg_entry_eq]
  generalize (lg_sl ([.ref a_t, .int x1]) ++ List.replicate (4 - (lg_sl ([.ref a_t, .int x1])).length) Slot.unset).toArray = ls at hl ⊢
  have hl : lv_has ls 4 [(0, .ref a_t), (1, .int x1)] := hl
  generalize hQ : MQ below (postI D k r [(a_t, .inr (4, [.ref a_t_places, .ref a_t_sets])), (a_t_sets, .inl (k 0, 4, .inl t_sets))] [(a_t, .inr (4, [.ref a_t_places, .ref a_t_sets])), (a_t_sets, .inl (k 0, 4, .inl t_sets))] s.heap.size) (List.toArray [.ref a_t, .int x1]) s 0 0 A = Q
  clear hP hD hD0
  suffices K : ∀ (H : Heap) (locs : List Loc), HOK D A s.heap [(a_t, .inr (4, [.ref a_t_places, .ref a_t_sets])), (a_t_sets, .inl (k 0, 4, .inl t_sets))] H locs → W p l e ({ frames := 0, cells := 0, slots := 0, locals := 0 } : Room) s m (List.toArray [.ref a_t, .int x1]) below meth c H locs 0 0 Q (F0 m 0 ls []) from K s.heap [] hH
  intro H locs hH
  have L2 : ∀ (n : Nat), ∀ (kf : Option (Int32)) (y2_2 : Int32), fX4_splits_L2 t_sets x1 n kf y2_2 = some r → (∀ (H : Heap) (locs : List Loc) (ls : Array Slot), kf = some r → HOK D A s.heap [(a_t, .inr (4, [.ref a_t_places, .ref a_t_sets])), (a_t_sets, .inl (k 0, 4, .inl t_sets))] H locs → lv_has ls 4 [] → W p l e ({ frames := 0, cells := 0, slots := 0, locals := 0 } : Room) s m (List.toArray [.ref a_t, .int x1]) below meth c H locs 0 0 Q (F0 m 33 ls [])) → ∀ (H : Heap) (locs : List Loc) (ls : Array Slot), HOK D A s.heap [(a_t, .inr (4, [.ref a_t_places, .ref a_t_sets])), (a_t_sets, .inl (k 0, 4, .inl t_sets))] H locs → lv_has ls 4 [(0, .ref a_t), (1, .int x1), (2, .int y2_2)] → W p l e ({ frames := 0, cells := 0, slots := 0, locals := 0 } : Room) s m (List.toArray [.ref a_t, .int x1]) below meth c H locs 0 0 Q (F0 m 2 ls []) := by
    intro n
    induction n with
    | zero =>
      intro kf y2_2 h
      exact absurd h (by rw [fX4_splits_L2]; exact fun q => by cases q)
    | succ n ih =>
      intro kf y2_2 h kk H locs ls hH hl
      rw [fX4_splits_L2] at h
      refine lv_iload_n hx hb dX4_splits_2 rfl (lv_at hl 2 rfl) ?_
      refine lv_iconst (v := 4) hx hb dX4_splits_3 (by decide) ?_
      refine lv_icmp_ge (tgt := 33) hx hb dX4_splits_4 (by decide) (fun c1 => ?_) (fun c1 => ?_)
      · replace h := dc_pos c1 h
        exact kk  H locs ls h hH (lv_sub hl [] rfl)
      · replace h := dc_neg c1 h
        refine lv_aload_n hx hb dX4_splits_7 rfl (lv_at hl 0 rfl) ?_
        refine gk_get (ci := 4) (C := RX4) (T := TX4) (N := 2) hx hb hts u_ws_X4 hown hK hH 0 rfl rfl 1 (by decide) u_fl_X4_15 rfl dX4_splits_8 ?_
        refine lv_iload_n hx hb dX4_splits_11 rfl (lv_at hl 2 rfl) ?_
        obtain ⟨g2, h⟩ := dc_need h
        refine gk_iald hx hb hK hH 1 rfl (dk_in g2) dX4_splits_12 ?_
        refine lv_iload_n hx hb dX4_splits_13 rfl (lv_at hl 1 rfl) ?_
        refine lv_iand hx hb dX4_splits_14 ?_
        refine lv_istore_n (lv' := [(3, .int ((t_sets y2_2.toNatClampNeg) &&& x1)), (0, .ref a_t), (1, .int x1), (2, .int y2_2)]) hx hb dX4_splits_15 rfl hl (by decide) rfl (fun ls hl => ?_)
        refine lv_iload_n hx hb dX4_splits_16 rfl (lv_at hl 0 rfl) ?_
        refine lv_if_eq (tgt := 27) hx hb dX4_splits_17 (by decide) (fun c3 => ?_) (fun c3 => ?_)
        · replace h := dc_pos c3 h
          refine lv_iinc (v := (y2_2 + (1 : Int32))) (lv' := [(2, .int (y2_2 + (1 : Int32))), (3, .int ((t_sets y2_2.toNatClampNeg) &&& x1)), (0, .ref a_t), (1, .int x1)]) hx hb dX4_splits_27 hl (k := 3) rfl rfl (by decide) rfl (fun ls hl => ?_)
          refine lv_goto (tgt := 2) hx hb dX4_splits_30 (by decide) ?_
          exact ih kf (y2_2 + (1 : Int32)) h kk H locs ls hH (lv_sub hl [2, 3, 0] rfl)
        · replace h := dc_neg c3 h
          refine lv_iload_n hx hb dX4_splits_20 rfl (lv_at hl 0 rfl) ?_
          refine lv_iload_n hx hb dX4_splits_21 rfl (lv_at hl 2 rfl) ?_
          refine lv_icmp_eq (tgt := 27) hx hb dX4_splits_22 (by decide) (fun c4 => ?_) (fun c4 => ?_)
          · replace h := dc_pos c4 h
            refine lv_iinc (v := (y2_2 + (1 : Int32))) (lv' := [(2, .int (y2_2 + (1 : Int32))), (3, .int ((t_sets y2_2.toNatClampNeg) &&& x1)), (0, .ref a_t), (1, .int x1)]) hx hb dX4_splits_27 hl (k := 3) rfl rfl (by decide) rfl (fun ls hl => ?_)
            refine lv_goto (tgt := 2) hx hb dX4_splits_30 (by decide) ?_
            exact ih kf (y2_2 + (1 : Int32)) h kk H locs ls hH (lv_sub hl [2, 3, 0] rfl)
          · replace h := dc_neg c4 h
            refine lv_iconst (v := 1) hx hb dX4_splits_25 (by decide) ?_
            have h := Option.some.inj h
            subst h
            exact ge_z hx hb hr rfl hlocks hQ hK hH hAe rfl dX4_splits_26
  rw [fX4_splits] at h
  refine lv_iconst (v := 0) hx hb dX4_splits_0 (by decide) ?_
  refine lv_istore_n (lv' := [(2, .int (0 : Int32)), (0, .ref a_t), (1, .int x1)]) hx hb dX4_splits_1 rfl hl (by decide) rfl (fun ls hl => ?_)
  refine L2 _ _ (0 : Int32) h (fun  H locs ls h hH hl => ?_) H locs ls hH (lv_sub hl [1, 2, 0] rfl)
  refine lv_iconst (v := 0) hx hb dX4_splits_33 (by decide) ?_
  have h := Option.some.inj h
  subst h
  exact ge_z hx hb hr rfl hlocks hQ hK hH hAe rfl dX4_splits_34
theorem hd_J13_compare_74951 : yJ13_compare_74951.cls ≠ "java/lang/invoke/MethodHandle" ∧ yJ13_compare_74951.cls ≠ "java/lang/invoke/VarHandle" ∧ (parseMethodDescriptor yJ13_compare_74951.desc).map (fun d => d.parameters.length) = some 2 := by decide +kernel
set_option maxHeartbeats 4000000 in
set_option maxRecDepth 100000 in
theorem mJ13_compare_74951 (l : Launch) (Ts : List Cond) (hTs : ∀ w, w ∈ Ts ↔ w ∈ uT) (D : va_G) (k : Nat → ClassId) (sz : Nat) (x0 : Int64) (x2 : Int64) (r : Int32) (h : fJ13_compare_74951 x0 x2 = some r) : Met l yJ13_compare_74951 (Cond.code yJ13_compare_74951 cJ13_compare_74951 4 (some .int) :: Ts) ({ frames := 0, cells := 0, slots := 0, locals := 0 } : Room) (preM D k [.long x0, .long x2] [] sz) (postI D k r [] [] sz) 0 0 (va_A [] sz) := by
  refine Met.ofW (cc := cJ13_compare_74951) (maxL := 4) (ret := (some .int)) (by decide) rfl ?_
  intro p e s m args below meth c s₁ B hml hv
  obtain ⟨rfl, hsz, hP, hK, hD0⟩ := hv
  have hx := B.exec
  have hb := B.bytes
  have hr := B.returns
  have hts0 := atoms_spec (ws := (Cond.code yJ13_compare_74951 cJ13_compare_74951 4 (some .int) :: Ts)) B.pre
  have hts : ∀ w ∈ uT, w.before _ s = true := fun w h => hts0 w (List.mem_cons_of_mem _ ((hTs w).mpr h))
  clear hts0
  have hown : s.vm.findClass RJ13 = some m.cls := findClass_of_methodNamed B.named
  have hlocks := B.notSynchronized
  subst hsz
  have hD := hD0.self (sz := s.heap.size)
  generalize hAe : va_A [] s.heap.size = A at hD ⊢
  have hA : ∀ q : Nat, s.heap.size ≤ q → A q := fun q h => by rw [← hAe]; exact Or.inr h
  have hH : HOK D A s.heap [] s.heap [] := ⟨hP, hD, va_S.rf⟩
  have hl := lv_entry ([.long x0, .long x2]) (n := 4) (Nat.le_of_ble_eq_true rfl)
  rw [lg_entry_eq]
  generalize (lg_sl ([.long x0, .long x2]) ++ List.replicate (4 - (lg_sl ([.long x0, .long x2])).length) Slot.unset).toArray = ls at hl ⊢
  have hl : lv_has ls 4 [(0, .long x0), (2, .long x2)] := hl
  generalize hQ : MQ below (postI D k r [] [] s.heap.size) (List.toArray [.long x0, .long x2]) s 0 0 A = Q
  clear hP hD hD0
  suffices K : ∀ (H : Heap) (locs : List Loc), HOK D A s.heap [] H locs → W p l e ({ frames := 0, cells := 0, slots := 0, locals := 0 } : Room) s m (List.toArray [.long x0, .long x2]) below meth c H locs 0 0 Q (F0 m 0 ls []) from K s.heap [] hH
  intro H locs hH
  rw [fJ13_compare_74951] at h
  refine lv_lload_n hx hb dJ13_compare_74951_0 rfl (lv_at hl 0 rfl) ?_
  refine lv_lload_n hx hb dJ13_compare_74951_1 rfl (lv_at hl 1 rfl) ?_
  refine W.lcmp hx hb dJ13_compare_74951_2 ?_
  refine lv_if_ge (tgt := 10) hx hb dJ13_compare_74951_3 (by decide) (fun c1 => ?_) (fun c1 => ?_)
  · replace h := dc_pos c1 h
    refine lv_lload_n hx hb dJ13_compare_74951_10 rfl (lv_at hl 0 rfl) ?_
    refine lv_lload_n hx hb dJ13_compare_74951_11 rfl (lv_at hl 1 rfl) ?_
    refine W.lcmp hx hb dJ13_compare_74951_12 ?_
    refine lv_if_ne (tgt := 20) hx hb dJ13_compare_74951_13 (by decide) (fun c2 => ?_) (fun c2 => ?_)
    · replace h := dc_neg c2 h
      refine lv_iconst (v := 1) hx hb dJ13_compare_74951_20 (by decide) ?_
      have h := Option.some.inj h
      subst h
      exact ge_i hx hb hr hlocks hQ hK hH hAe rfl dJ13_compare_74951_21
    · replace h := dc_pos c2 h
      refine lv_iconst (v := 0) hx hb dJ13_compare_74951_16 (by decide) ?_
      refine lv_goto (tgt := 21) hx hb dJ13_compare_74951_17 (by decide) ?_
      have h := Option.some.inj h
      subst h
      exact ge_i hx hb hr hlocks hQ hK hH hAe rfl dJ13_compare_74951_21
  · replace h := dc_neg c1 h
    refine lv_iconst (v := -1) hx hb dJ13_compare_74951_6 (by decide) ?_
    refine lv_goto (tgt := 21) hx hb dJ13_compare_74951_7 (by decide) ?_
    have h := Option.some.inj h
    subst h
    exact ge_i hx hb hr hlocks hQ hK hH hAe rfl dJ13_compare_74951_21
theorem hd_X1_compareWith : yX1_compareWith.cls = RX1 ∧ yX1_compareWith.cls ≠ "java/lang/invoke/MethodHandle" ∧ yX1_compareWith.cls ≠ "java/lang/invoke/VarHandle" ∧ (parseMethodDescriptor yX1_compareWith.desc).map (fun d => d.parameters.length) = some 1 := by decide +kernel
set_option maxHeartbeats 4000000 in
set_option maxRecDepth 100000 in
theorem mX1_compareWith (l : Launch) (Ts : List Cond) (hTs : ∀ w, w ∈ Ts ↔ w ∈ uT) (D : va_G) (k : Nat → ClassId) (sz : Nat) (a_p1 : Nat) (a_t : Nat) (p1_bottom : Int64) (p1_top : Int64) (t_bottom : Int64) (t_top : Int64) (r : Int32) (h : fX1_compareWith p1_bottom p1_top t_bottom t_top = some r) : Met l yX1_compareWith (Cond.code yX1_compareWith cX1_compareWith 2 (some .int) :: Ts) ({ frames := 1, cells := 0, slots := 0, locals := 23 } : Room) (preM D k [.ref a_t, .ref a_p1] [(a_t, .inr (1, [.long t_top, .long t_bottom])), (a_p1, .inr (1, [.long p1_top, .long p1_bottom]))] sz) (postI D k r [(a_t, .inr (1, [.long t_top, .long t_bottom])), (a_p1, .inr (1, [.long p1_top, .long p1_bottom]))] [(a_t, .inr (1, [.long t_top, .long t_bottom])), (a_p1, .inr (1, [.long p1_top, .long p1_bottom]))] sz) 0 0 (va_A [(a_t, .inr (1, [.long t_top, .long t_bottom])), (a_p1, .inr (1, [.long p1_top, .long p1_bottom]))] sz) := by
  refine Met.ofW (cc := cX1_compareWith) (maxL := 2) (ret := (some .int)) (by decide) rfl ?_
  intro p e s m args below meth c s₁ B hml hv
  obtain ⟨rfl, hsz, hP, hK, hD0⟩ := hv
  have hx := B.exec
  have hb := B.bytes
  have hr := B.returns
  have hts0 := atoms_spec (ws := (Cond.code yX1_compareWith cX1_compareWith 2 (some .int) :: Ts)) B.pre
  have hts : ∀ w ∈ uT, w.before _ s = true := fun w h => hts0 w (List.mem_cons_of_mem _ ((hTs w).mpr h))
  clear hts0
  have hown : s.vm.findClass RX1 = some m.cls := findClass_of_methodNamed B.named
  have hlocks := B.notSynchronized
  subst hsz
  have hD := hD0.self (sz := s.heap.size)
  generalize hAe : va_A [(a_t, .inr (1, [.long t_top, .long t_bottom])), (a_p1, .inr (1, [.long p1_top, .long p1_bottom]))] s.heap.size = A at hD ⊢
  have hA : ∀ q : Nat, s.heap.size ≤ q → A q := fun q h => by rw [← hAe]; exact Or.inr h
  have hH : HOK D A s.heap [(a_t, .inr (1, [.long t_top, .long t_bottom])), (a_p1, .inr (1, [.long p1_top, .long p1_bottom]))] s.heap [] := ⟨hP, hD, va_S.rf⟩
  have hl := lv_entry ([.ref a_t, .ref a_p1]) (n := 2) (Nat.le_of_ble_eq_true rfl)
  rw [lg_entry_eq]
  generalize (lg_sl ([.ref a_t, .ref a_p1]) ++ List.replicate (2 - (lg_sl ([.ref a_t, .ref a_p1])).length) Slot.unset).toArray = ls at hl ⊢
  have hl : lv_has ls 2 [(0, .ref a_t), (1, .ref a_p1)] := hl
  generalize hQ : MQ below (postI D k r [(a_t, .inr (1, [.long t_top, .long t_bottom])), (a_p1, .inr (1, [.long p1_top, .long p1_bottom]))] [(a_t, .inr (1, [.long t_top, .long t_bottom])), (a_p1, .inr (1, [.long p1_top, .long p1_bottom]))] s.heap.size) (List.toArray [.ref a_t, .ref a_p1]) s 0 0 A = Q
  clear hP hD hD0
  suffices K : ∀ (H : Heap) (locs : List Loc), HOK D A s.heap [(a_t, .inr (1, [.long t_top, .long t_bottom])), (a_p1, .inr (1, [.long p1_top, .long p1_bottom]))] H locs → W p l e ({ frames := 1, cells := 0, slots := 0, locals := 23 } : Room) s m (List.toArray [.ref a_t, .ref a_p1]) below meth c H locs 0 0 Q (F0 m 0 ls []) from K s.heap [] hH
  intro H locs hH
  rw [fX1_compareWith] at h
  refine lv_aload_n hx hb dX1_compareWith_0 rfl (lv_at hl 0 rfl) ?_
  refine gk_get (ci := 1) (C := RX1) (T := TX1) (N := 2) hx hb hts u_ws_X1 hown hK hH 0 rfl rfl 0 (by decide) u_fl_X1_7 rfl dX1_compareWith_1 ?_
  refine lv_aload_n hx hb dX1_compareWith_4 rfl (lv_at hl 1 rfl) ?_
  refine gk_get (ci := 1) (C := RX1) (T := TX1) (N := 2) hx hb hts u_ws_X1 hown hK hH 1 rfl rfl 1 (by decide) u_fl_X1_13 rfl dX1_compareWith_5 ?_
  refine lv_lmul hx hb dX1_compareWith_8 ?_
  refine lv_aload_n hx hb dX1_compareWith_9 rfl (lv_at hl 1 rfl) ?_
  refine gk_get (ci := 1) (C := RX1) (T := TX1) (N := 2) hx hb hts u_ws_X1 hown hK hH 1 rfl rfl 0 (by decide) u_fl_X1_7 rfl dX1_compareWith_10 ?_
  refine lv_aload_n hx hb dX1_compareWith_13 rfl (lv_at hl 0 rfl) ?_
  refine gk_get (ci := 1) (C := RX1) (T := TX1) (N := 2) hx hb hts u_ws_X1 hown hK hH 0 rfl rfl 1 (by decide) u_fl_X1_13 rfl dX1_compareWith_14 ?_
  refine lv_lmul hx hb dX1_compareWith_17 ?_
  obtain ⟨q1, hqq1, h⟩ := dc_bind h
  refine gc_Si (ws' := [(a_t, .inr (1, [.long t_top, .long t_bottom])), (a_p1, .inr (1, [.long p1_top, .long p1_bottom]))]) (isC := []) (isR := [0, 1]) (As := [.long (t_top * p1_bottom), .long (p1_top * t_bottom)]) (rest := []) (n := 2) hTs ⟨hx, hb, hml, hown, hts⟩ (mJ13_compare_74951 l Ts hTs D k H.size (t_top * p1_bottom) (p1_top * t_bottom) q1 hqq1) u_ml_X1_20 u_st_J13_compare_74951 u_in_J13 u_co_J13_compare_74951 hd_J13_compare_74951 ⟨Nat.le_of_ble_eq_true rfl, Nat.le_of_ble_eq_true rfl⟩ ⟨rfl, rfl⟩ hK hH hA ⟨rfl, rfl, rfl, rfl, rfl, rfl⟩ rfl rfl hl.1 (by decide) dX1_compareWith_18 ⟨Nat.le_of_ble_eq_true rfl, Nat.le_of_ble_eq_true rfl⟩ (fun H locs hH => ?_)
  have h := Option.some.inj h
  subst h
  exact ge_i hx hb hr hlocks hQ hK hH hAe rfl dX1_compareWith_21
theorem hd_X1_copyFrom : yX1_copyFrom.cls = RX1 ∧ yX1_copyFrom.cls ≠ "java/lang/invoke/MethodHandle" ∧ yX1_copyFrom.cls ≠ "java/lang/invoke/VarHandle" ∧ (parseMethodDescriptor yX1_copyFrom.desc).map (fun d => d.parameters.length) = some 1 := by decide +kernel
set_option maxHeartbeats 4000000 in
set_option maxRecDepth 100000 in
theorem mX1_copyFrom (l : Launch) (Ts : List Cond) (hTs : ∀ w, w ∈ Ts ↔ w ∈ uT) (D : va_G) (k : Nat → ClassId) (sz : Nat) (a_p1 : Nat) (a_t : Nat) (p1_bottom : Int64) (p1_top : Int64) (v_t_bottom : Value) (v_t_top : Value) (r : Int64 × Int64) (h : fX1_copyFrom p1_bottom p1_top = some r) : Met l yX1_copyFrom (Cond.code yX1_copyFrom cX1_copyFrom 2 none :: Ts) ({ frames := 0, cells := 0, slots := 0, locals := 0 } : Room) (preM D k [.ref a_t, .ref a_p1] [(a_t, .inr (1, [v_t_top, v_t_bottom])), (a_p1, .inr (1, [.long p1_top, .long p1_bottom]))] sz) (postV D k [(a_t, .inr (1, [v_t_top, v_t_bottom])), (a_p1, .inr (1, [.long p1_top, .long p1_bottom]))] [(a_t, .inr (1, [.long r.2, .long r.1])), (a_p1, .inr (1, [.long p1_top, .long p1_bottom]))] sz) 0 0 (va_A [(a_t, .inr (1, [v_t_top, v_t_bottom])), (a_p1, .inr (1, [.long p1_top, .long p1_bottom]))] sz) := by
  refine Met.ofW (cc := cX1_copyFrom) (maxL := 2) (ret := none) (by decide) rfl ?_
  intro p e s m args below meth c s₁ B hml hv
  obtain ⟨rfl, hsz, hP, hK, hD0⟩ := hv
  have hx := B.exec
  have hb := B.bytes
  have hr := B.returns
  have hts0 := atoms_spec (ws := (Cond.code yX1_copyFrom cX1_copyFrom 2 none :: Ts)) B.pre
  have hts : ∀ w ∈ uT, w.before _ s = true := fun w h => hts0 w (List.mem_cons_of_mem _ ((hTs w).mpr h))
  clear hts0
  have hown : s.vm.findClass RX1 = some m.cls := findClass_of_methodNamed B.named
  have hlocks := B.notSynchronized
  subst hsz
  have hD := hD0.self (sz := s.heap.size)
  generalize hAe : va_A [(a_t, .inr (1, [v_t_top, v_t_bottom])), (a_p1, .inr (1, [.long p1_top, .long p1_bottom]))] s.heap.size = A at hD ⊢
  have hA : ∀ q : Nat, s.heap.size ≤ q → A q := fun q h => by rw [← hAe]; exact Or.inr h
  have hH : HOK D A s.heap [(a_t, .inr (1, [v_t_top, v_t_bottom])), (a_p1, .inr (1, [.long p1_top, .long p1_bottom]))] s.heap [] := ⟨hP, hD, va_S.rf⟩
  have hl := lv_entry ([.ref a_t, .ref a_p1]) (n := 2) (Nat.le_of_ble_eq_true rfl)
  rw [lg_entry_eq]
  generalize (lg_sl ([.ref a_t, .ref a_p1]) ++ List.replicate (2 - (lg_sl ([.ref a_t, .ref a_p1])).length) Slot.unset).toArray = ls at hl ⊢
  have hl : lv_has ls 2 [(0, .ref a_t), (1, .ref a_p1)] := hl
  generalize hQ : MQ below (postV D k [(a_t, .inr (1, [v_t_top, v_t_bottom])), (a_p1, .inr (1, [.long p1_top, .long p1_bottom]))] [(a_t, .inr (1, [.long r.2, .long r.1])), (a_p1, .inr (1, [.long p1_top, .long p1_bottom]))] s.heap.size) (List.toArray [.ref a_t, .ref a_p1]) s 0 0 A = Q
  clear hP hD hD0
  suffices K : ∀ (H : Heap) (locs : List Loc), HOK D A s.heap [(a_t, .inr (1, [v_t_top, v_t_bottom])), (a_p1, .inr (1, [.long p1_top, .long p1_bottom]))] H locs → W p l e ({ frames := 0, cells := 0, slots := 0, locals := 0 } : Room) s m (List.toArray [.ref a_t, .ref a_p1]) below meth c H locs 0 0 Q (F0 m 0 ls []) from K s.heap [] hH
  intro H locs hH
  rw [fX1_copyFrom] at h
  refine lv_aload_n hx hb dX1_copyFrom_0 rfl (lv_at hl 0 rfl) ?_
  refine lv_aload_n hx hb dX1_copyFrom_1 rfl (lv_at hl 1 rfl) ?_
  refine gk_get (ci := 1) (C := RX1) (T := TX1) (N := 2) hx hb hts u_ws_X1 hown hK hH 1 rfl rfl 0 (by decide) u_fl_X1_7 rfl dX1_copyFrom_2 ?_
  refine gk_put (ci := 1) (C := RX1) (T := TX1) (N := 2) hx hb hts u_ws_X1 tyX1_ok nmX1 hown hK hH 0 rfl rfl 0 (by decide) u_fl_X1_7 rfl rfl rfl (by decide) dX1_copyFrom_5 [(a_t, .inr (1, [.long p1_top, v_t_bottom])), (a_p1, .inr (1, [.long p1_top, .long p1_bottom]))] rfl (fun H locs hH => ?_)
  refine lv_aload_n hx hb dX1_copyFrom_8 rfl (lv_at hl 0 rfl) ?_
  refine lv_aload_n hx hb dX1_copyFrom_9 rfl (lv_at hl 1 rfl) ?_
  refine gk_get (ci := 1) (C := RX1) (T := TX1) (N := 2) hx hb hts u_ws_X1 hown hK hH 1 rfl rfl 1 (by decide) u_fl_X1_13 rfl dX1_copyFrom_10 ?_
  refine gk_put (ci := 1) (C := RX1) (T := TX1) (N := 2) hx hb hts u_ws_X1 tyX1_ok nmX1 hown hK hH 0 rfl rfl 1 (by decide) u_fl_X1_13 rfl rfl rfl (by decide) dX1_copyFrom_13 [(a_t, .inr (1, [.long p1_top, .long p1_bottom])), (a_p1, .inr (1, [.long p1_top, .long p1_bottom]))] rfl (fun H locs hH => ?_)
  have h := Option.some.inj h
  subst h
  exact ge_v hx hb hr hlocks hQ hK hH hAe dX1_copyFrom_16
theorem hd_X4_copyFrom : yX4_copyFrom.cls = RX4 ∧ yX4_copyFrom.cls ≠ "java/lang/invoke/MethodHandle" ∧ yX4_copyFrom.cls ≠ "java/lang/invoke/VarHandle" ∧ (parseMethodDescriptor yX4_copyFrom.desc).map (fun d => d.parameters.length) = some 1 := by decide +kernel
set_option maxHeartbeats 4000000 in
set_option maxRecDepth 100000 in
theorem mX4_copyFrom (l : Launch) (Ts : List Cond) (hTs : ∀ w, w ∈ Ts ↔ w ∈ uT) (D : va_G) (k : Nat → ClassId) (sz : Nat) (a_p1 : Nat) (a_t : Nat) (a_t_places : Nat) (a_t_sets : Nat) (a_p1_places : Nat) (a_p1_sets : Nat) (p1_places : Nat → Int32) (p1_sets : Nat → Int32) (t_places : Nat → Int32) (t_sets : Nat → Int32) (r : (Nat → Int32) × (Nat → Int32)) (h : fX4_copyFrom p1_places p1_sets t_places t_sets = some r) : Met l yX4_copyFrom (Cond.code yX4_copyFrom cX4_copyFrom 2 none :: Ts) ({ frames := 1, cells := 0, slots := 0, locals := 96 } : Room) (preM D k [.ref a_t, .ref a_p1] [(a_t, .inr (4, [.ref a_t_places, .ref a_t_sets])), (a_p1, .inr (4, [.ref a_p1_places, .ref a_p1_sets])), (a_p1_places, .inl (k 0, 12, .inl p1_places)), (a_t_places, .inl (k 0, 12, .inl t_places)), (a_p1_sets, .inl (k 0, 4, .inl p1_sets)), (a_t_sets, .inl (k 0, 4, .inl t_sets))] sz) (postV D k [(a_t, .inr (4, [.ref a_t_places, .ref a_t_sets])), (a_p1, .inr (4, [.ref a_p1_places, .ref a_p1_sets])), (a_p1_places, .inl (k 0, 12, .inl p1_places)), (a_t_places, .inl (k 0, 12, .inl t_places)), (a_p1_sets, .inl (k 0, 4, .inl p1_sets)), (a_t_sets, .inl (k 0, 4, .inl t_sets))] [(a_t, .inr (4, [.ref a_t_places, .ref a_t_sets])), (a_p1, .inr (4, [.ref a_p1_places, .ref a_p1_sets])), (a_p1_places, .inl (k 0, 12, .inl p1_places)), (a_t_places, .inl (k 0, 12, .inl r.1)), (a_p1_sets, .inl (k 0, 4, .inl p1_sets)), (a_t_sets, .inl (k 0, 4, .inl r.2))] sz) 0 0 (va_A [(a_t, .inr (4, [.ref a_t_places, .ref a_t_sets])), (a_p1, .inr (4, [.ref a_p1_places, .ref a_p1_sets])), (a_p1_places, .inl (k 0, 12, .inl p1_places)), (a_t_places, .inl (k 0, 12, .inl t_places)), (a_p1_sets, .inl (k 0, 4, .inl p1_sets)), (a_t_sets, .inl (k 0, 4, .inl t_sets))] sz) := by
  refine Met.ofW (cc := cX4_copyFrom) (maxL := 2) (ret := none) (by decide) rfl ?_
  intro p e s m args below meth c s₁ B hml hv
  obtain ⟨rfl, hsz, hP, hK, hD0⟩ := hv
  have hx := B.exec
  have hb := B.bytes
  have hr := B.returns
  have hts0 := atoms_spec (ws := (Cond.code yX4_copyFrom cX4_copyFrom 2 none :: Ts)) B.pre
  have hts : ∀ w ∈ uT, w.before _ s = true := fun w h => hts0 w (List.mem_cons_of_mem _ ((hTs w).mpr h))
  clear hts0
  have hown : s.vm.findClass RX4 = some m.cls := findClass_of_methodNamed B.named
  have hlocks := B.notSynchronized
  subst hsz
  have hD := hD0.self (sz := s.heap.size)
  generalize hAe : va_A [(a_t, .inr (4, [.ref a_t_places, .ref a_t_sets])), (a_p1, .inr (4, [.ref a_p1_places, .ref a_p1_sets])), (a_p1_places, .inl (k 0, 12, .inl p1_places)), (a_t_places, .inl (k 0, 12, .inl t_places)), (a_p1_sets, .inl (k 0, 4, .inl p1_sets)), (a_t_sets, .inl (k 0, 4, .inl t_sets))] s.heap.size = A at hD ⊢
  have hA : ∀ q : Nat, s.heap.size ≤ q → A q := fun q h => by rw [← hAe]; exact Or.inr h
  have hH : HOK D A s.heap [(a_t, .inr (4, [.ref a_t_places, .ref a_t_sets])), (a_p1, .inr (4, [.ref a_p1_places, .ref a_p1_sets])), (a_p1_places, .inl (k 0, 12, .inl p1_places)), (a_t_places, .inl (k 0, 12, .inl t_places)), (a_p1_sets, .inl (k 0, 4, .inl p1_sets)), (a_t_sets, .inl (k 0, 4, .inl t_sets))] s.heap [] := ⟨hP, hD, va_S.rf⟩
  have hl := lv_entry ([.ref a_t, .ref a_p1]) (n := 2) (Nat.le_of_ble_eq_true rfl)
  rw [lg_entry_eq]
  generalize (lg_sl ([.ref a_t, .ref a_p1]) ++ List.replicate (2 - (lg_sl ([.ref a_t, .ref a_p1])).length) Slot.unset).toArray = ls at hl ⊢
  have hl : lv_has ls 2 [(0, .ref a_t), (1, .ref a_p1)] := hl
  generalize hQ : MQ below (postV D k [(a_t, .inr (4, [.ref a_t_places, .ref a_t_sets])), (a_p1, .inr (4, [.ref a_p1_places, .ref a_p1_sets])), (a_p1_places, .inl (k 0, 12, .inl p1_places)), (a_t_places, .inl (k 0, 12, .inl t_places)), (a_p1_sets, .inl (k 0, 4, .inl p1_sets)), (a_t_sets, .inl (k 0, 4, .inl t_sets))] [(a_t, .inr (4, [.ref a_t_places, .ref a_t_sets])), (a_p1, .inr (4, [.ref a_p1_places, .ref a_p1_sets])), (a_p1_places, .inl (k 0, 12, .inl p1_places)), (a_t_places, .inl (k 0, 12, .inl r.1)), (a_p1_sets, .inl (k 0, 4, .inl p1_sets)), (a_t_sets, .inl (k 0, 4, .inl r.2))] s.heap.size) (List.toArray [.ref a_t, .ref a_p1]) s 0 0 A = Q
  clear hP hD hD0
  suffices K : ∀ (H : Heap) (locs : List Loc), HOK D A s.heap [(a_t, .inr (4, [.ref a_t_places, .ref a_t_sets])), (a_p1, .inr (4, [.ref a_p1_places, .ref a_p1_sets])), (a_p1_places, .inl (k 0, 12, .inl p1_places)), (a_t_places, .inl (k 0, 12, .inl t_places)), (a_p1_sets, .inl (k 0, 4, .inl p1_sets)), (a_t_sets, .inl (k 0, 4, .inl t_sets))] H locs → W p l e ({ frames := 1, cells := 0, slots := 0, locals := 96 } : Room) s m (List.toArray [.ref a_t, .ref a_p1]) below meth c H locs 0 0 Q (F0 m 0 ls []) from K s.heap [] hH
  intro H locs hH
  rw [fX4_copyFrom] at h
  refine lv_aload_n hx hb dX4_copyFrom_0 rfl (lv_at hl 1 rfl) ?_
  refine gk_get (ci := 4) (C := RX4) (T := TX4) (N := 2) hx hb hts u_ws_X4 hown hK hH 1 rfl rfl 0 (by decide) u_fl_X4_9 rfl dX4_copyFrom_1 ?_
  refine lv_iconst (v := 0) hx hb dX4_copyFrom_4 (by decide) ?_
  refine lv_aload_n hx hb dX4_copyFrom_5 rfl (lv_at hl 0 rfl) ?_
  refine gk_get (ci := 4) (C := RX4) (T := TX4) (N := 2) hx hb hts u_ws_X4 hown hK hH 0 rfl rfl 0 (by decide) u_fl_X4_9 rfl dX4_copyFrom_6 ?_
  refine lv_iconst (v := 0) hx hb dX4_copyFrom_9 (by decide) ?_
  refine lv_bipush (v := 12) hx hb dX4_copyFrom_10 (by decide) ?_
  refine gk_copyi (n0 := 12) (n1 := 12) (ws' := [(a_t, .inr (4, [.ref a_t_places, .ref a_t_sets])), (a_p1, .inr (4, [.ref a_p1_places, .ref a_p1_sets])), (a_p1_places, .inl (k 0, 12, .inl p1_places)), (a_t_places, .inl (k 0, 12, .inl (va_cpy p1_places t_places 0 0 (12 : Int32).toNatClampNeg))), (a_p1_sets, .inl (k 0, 4, .inl p1_sets)), (a_t_sets, .inl (k 0, 4, .inl t_sets))]) hx hb (hml.trans hl.1.symm) hown (hts _ u_ml_X4_24) (hts _ u_na_System_arraycopy) (hts _ u_st_System_arraycopy) (hts _ u_in_J10) hK hH 2 3 rfl rfl (by decide) (by decide) (by decide) (Nat.le_of_ble_eq_true rfl) (Nat.le_of_ble_eq_true rfl) dX4_copyFrom_12 rfl (fun H locs hH => ?_)
  refine lv_aload_n hx hb dX4_copyFrom_15 rfl (lv_at hl 1 rfl) ?_
  refine gk_get (ci := 4) (C := RX4) (T := TX4) (N := 2) hx hb hts u_ws_X4 hown hK hH 1 rfl rfl 1 (by decide) u_fl_X4_15 rfl dX4_copyFrom_16 ?_
  refine lv_iconst (v := 0) hx hb dX4_copyFrom_19 (by decide) ?_
  refine lv_aload_n hx hb dX4_copyFrom_20 rfl (lv_at hl 0 rfl) ?_
  refine gk_get (ci := 4) (C := RX4) (T := TX4) (N := 2) hx hb hts u_ws_X4 hown hK hH 0 rfl rfl 1 (by decide) u_fl_X4_15 rfl dX4_copyFrom_21 ?_
  refine lv_iconst (v := 0) hx hb dX4_copyFrom_24 (by decide) ?_
  refine lv_iconst (v := 4) hx hb dX4_copyFrom_25 (by decide) ?_
  refine gk_copyi (n0 := 4) (n1 := 4) (ws' := [(a_t, .inr (4, [.ref a_t_places, .ref a_t_sets])), (a_p1, .inr (4, [.ref a_p1_places, .ref a_p1_sets])), (a_p1_places, .inl (k 0, 12, .inl p1_places)), (a_t_places, .inl (k 0, 12, .inl (va_cpy p1_places t_places 0 0 (12 : Int32).toNatClampNeg))), (a_p1_sets, .inl (k 0, 4, .inl p1_sets)), (a_t_sets, .inl (k 0, 4, .inl (va_cpy p1_sets t_sets 0 0 (4 : Int32).toNatClampNeg)))]) hx hb (hml.trans hl.1.symm) hown (hts _ u_ml_X4_24) (hts _ u_na_System_arraycopy) (hts _ u_st_System_arraycopy) (hts _ u_in_J10) hK hH 4 5 rfl rfl (by decide) (by decide) (by decide) (Nat.le_of_ble_eq_true rfl) (Nat.le_of_ble_eq_true rfl) dX4_copyFrom_26 rfl (fun H locs hH => ?_)
  have h := Option.some.inj h
  subst h
  exact ge_v hx hb hr hlocks hQ hK hH hAe dX4_copyFrom_29
theorem hd_X9_copyFrom : yX9_copyFrom.cls = RX9 ∧ yX9_copyFrom.cls ≠ "java/lang/invoke/MethodHandle" ∧ yX9_copyFrom.cls ≠ "java/lang/invoke/VarHandle" ∧ (parseMethodDescriptor yX9_copyFrom.desc).map (fun d => d.parameters.length) = some 1 := by decide +kernel
set_option maxHeartbeats 4000000 in
set_option maxRecDepth 100000 in
theorem mX9_copyFrom (l : Launch) (Ts : List Cond) (hTs : ∀ w, w ∈ Ts ↔ w ∈ uT) (D : va_G) (k : Nat → ClassId) (sz : Nat) (a_p1 : Nat) (a_t : Nat) (a_t_population : Nat) (a_t_area : Nat) (a_t_community : Nat) (a_t_outer : Nat) (a_t_neighbors : Nat) (a_t_lengths : Nat) (a_t_plan : Nat) (a_p1_population : Nat) (a_p1_area : Nat) (a_p1_community : Nat) (a_p1_outer : Nat) (a_p1_neighbors : Nat) (a_p1_lengths : Nat) (a_p1_plan : Nat) (a_t_plan_places : Nat) (a_t_plan_sets : Nat) (a_p1_plan_places : Nat) (a_p1_plan_sets : Nat) (p1_area : Nat → Int32) (p1_community : Nat → Int32) (p1_cores : Int32) (p1_districts : Int32) (p1_hasPlan : Int32) (p1_lengths : Nat → Int32) (p1_neighbors : Nat → Int32) (p1_outer : Nat → Int32) (p1_plan_places : Nat → Int32) (p1_plan_sets : Nat → Int32) (p1_population : Nat → Int32) (p1_tolerance : Int32) (p1_units : Int32) (t_area : Nat → Int32) (t_community : Nat → Int32) (t_lengths : Nat → Int32) (t_neighbors : Nat → Int32) (t_outer : Nat → Int32) (t_plan_places : Nat → Int32) (t_plan_sets : Nat → Int32) (t_population : Nat → Int32) (v_t_cores : Value) (v_t_districts : Value) (v_t_hasPlan : Value) (v_t_tolerance : Value) (v_t_units : Value) (r : (Nat → Int32) × (Nat → Int32) × Int32 × Int32 × Int32 × (Nat → Int32) × (Nat → Int32) × (Nat → Int32) × (Nat → Int32) × (Nat → Int32) × (Nat → Int32) × Int32 × Int32) (h : fX9_copyFrom p1_area p1_community p1_cores p1_districts p1_hasPlan p1_lengths p1_neighbors p1_outer p1_plan_places p1_plan_sets p1_population p1_tolerance p1_units t_area t_community t_lengths t_neighbors t_outer t_plan_places t_plan_sets t_population = some r) : Met l yX9_copyFrom (Cond.code yX9_copyFrom cX9_copyFrom 2 none :: Ts) ({ frames := 2, cells := 0, slots := 0, locals := 117 } : Room) (preM D k [.ref a_t, .ref a_p1] [(a_t, .inr (8, [v_t_units, .ref a_t_population, .ref a_t_area, .ref a_t_community, .ref a_t_outer, .ref a_t_neighbors, .ref a_t_lengths, v_t_cores, v_t_districts, v_t_tolerance, v_t_hasPlan, .ref a_t_plan])), (a_p1, .inr (8, [.int p1_units, .ref a_p1_population, .ref a_p1_area, .ref a_p1_community, .ref a_p1_outer, .ref a_p1_neighbors, .ref a_p1_lengths, .int p1_cores, .int p1_districts, .int p1_tolerance, .int p1_hasPlan, .ref a_p1_plan])), (a_p1_population, .inl (k 0, 12, .inl p1_population)), (a_t_population, .inl (k 0, 12, .inl t_population)), (a_p1_area, .inl (k 0, 12, .inl p1_area)), (a_t_area, .inl (k 0, 12, .inl t_area)), (a_p1_community, .inl (k 0, 12, .inl p1_community)), (a_t_community, .inl (k 0, 12, .inl t_community)), (a_p1_outer, .inl (k 0, 12, .inl p1_outer)), (a_t_outer, .inl (k 0, 12, .inl t_outer)), (a_p1_neighbors, .inl (k 0, 12, .inl p1_neighbors)), (a_t_neighbors, .inl (k 0, 12, .inl t_neighbors)), (a_p1_lengths, .inl (k 0, 144, .inl p1_lengths)), (a_t_lengths, .inl (k 0, 144, .inl t_lengths)), (a_t_plan, .inr (4, [.ref a_t_plan_places, .ref a_t_plan_sets])), (a_p1_plan, .inr (4, [.ref a_p1_plan_places, .ref a_p1_plan_sets])), (a_p1_plan_places, .inl (k 0, 12, .inl p1_plan_places)), (a_t_plan_places, .inl (k 0, 12, .inl t_plan_places)), (a_p1_plan_sets, .inl (k 0, 4, .inl p1_plan_sets)), (a_t_plan_sets, .inl (k 0, 4, .inl t_plan_sets))] sz) (postV D k [(a_t, .inr (8, [v_t_units, .ref a_t_population, .ref a_t_area, .ref a_t_community, .ref a_t_outer, .ref a_t_neighbors, .ref a_t_lengths, v_t_cores, v_t_districts, v_t_tolerance, v_t_hasPlan, .ref a_t_plan])), (a_p1, .inr (8, [.int p1_units, .ref a_p1_population, .ref a_p1_area, .ref a_p1_community, .ref a_p1_outer, .ref a_p1_neighbors, .ref a_p1_lengths, .int p1_cores, .int p1_districts, .int p1_tolerance, .int p1_hasPlan, .ref a_p1_plan])), (a_p1_population, .inl (k 0, 12, .inl p1_population)), (a_t_population, .inl (k 0, 12, .inl t_population)), (a_p1_area, .inl (k 0, 12, .inl p1_area)), (a_t_area, .inl (k 0, 12, .inl t_area)), (a_p1_community, .inl (k 0, 12, .inl p1_community)), (a_t_community, .inl (k 0, 12, .inl t_community)), (a_p1_outer, .inl (k 0, 12, .inl p1_outer)), (a_t_outer, .inl (k 0, 12, .inl t_outer)), (a_p1_neighbors, .inl (k 0, 12, .inl p1_neighbors)), (a_t_neighbors, .inl (k 0, 12, .inl t_neighbors)), (a_p1_lengths, .inl (k 0, 144, .inl p1_lengths)), (a_t_lengths, .inl (k 0, 144, .inl t_lengths)), (a_t_plan, .inr (4, [.ref a_t_plan_places, .ref a_t_plan_sets])), (a_p1_plan, .inr (4, [.ref a_p1_plan_places, .ref a_p1_plan_sets])), (a_p1_plan_places, .inl (k 0, 12, .inl p1_plan_places)), (a_t_plan_places, .inl (k 0, 12, .inl t_plan_places)), (a_p1_plan_sets, .inl (k 0, 4, .inl p1_plan_sets)), (a_t_plan_sets, .inl (k 0, 4, .inl t_plan_sets))] [(a_t, .inr (8, [.int r.2.2.2.2.2.2.2.2.2.2.2.2, .ref a_t_population, .ref a_t_area, .ref a_t_community, .ref a_t_outer, .ref a_t_neighbors, .ref a_t_lengths, .int r.2.2.1, .int r.2.2.2.1, .int r.2.2.2.2.2.2.2.2.2.2.2.1, .int r.2.2.2.2.1, .ref a_t_plan])), (a_p1, .inr (8, [.int p1_units, .ref a_p1_population, .ref a_p1_area, .ref a_p1_community, .ref a_p1_outer, .ref a_p1_neighbors, .ref a_p1_lengths, .int p1_cores, .int p1_districts, .int p1_tolerance, .int p1_hasPlan, .ref a_p1_plan])), (a_p1_population, .inl (k 0, 12, .inl p1_population)), (a_t_population, .inl (k 0, 12, .inl r.2.2.2.2.2.2.2.2.2.2.1)), (a_p1_area, .inl (k 0, 12, .inl p1_area)), (a_t_area, .inl (k 0, 12, .inl r.1)), (a_p1_community, .inl (k 0, 12, .inl p1_community)), (a_t_community, .inl (k 0, 12, .inl r.2.1)), (a_p1_outer, .inl (k 0, 12, .inl p1_outer)), (a_t_outer, .inl (k 0, 12, .inl r.2.2.2.2.2.2.2.1)), (a_p1_neighbors, .inl (k 0, 12, .inl p1_neighbors)), (a_t_neighbors, .inl (k 0, 12, .inl r.2.2.2.2.2.2.1)), (a_p1_lengths, .inl (k 0, 144, .inl p1_lengths)), (a_t_lengths, .inl (k 0, 144, .inl r.2.2.2.2.2.1)), (a_t_plan, .inr (4, [.ref a_t_plan_places, .ref a_t_plan_sets])), (a_p1_plan, .inr (4, [.ref a_p1_plan_places, .ref a_p1_plan_sets])), (a_p1_plan_places, .inl (k 0, 12, .inl p1_plan_places)), (a_t_plan_places, .inl (k 0, 12, .inl r.2.2.2.2.2.2.2.2.1)), (a_p1_plan_sets, .inl (k 0, 4, .inl p1_plan_sets)), (a_t_plan_sets, .inl (k 0, 4, .inl r.2.2.2.2.2.2.2.2.2.1))] sz) 0 0 (va_A [(a_t, .inr (8, [v_t_units, .ref a_t_population, .ref a_t_area, .ref a_t_community, .ref a_t_outer, .ref a_t_neighbors, .ref a_t_lengths, v_t_cores, v_t_districts, v_t_tolerance, v_t_hasPlan, .ref a_t_plan])), (a_p1, .inr (8, [.int p1_units, .ref a_p1_population, .ref a_p1_area, .ref a_p1_community, .ref a_p1_outer, .ref a_p1_neighbors, .ref a_p1_lengths, .int p1_cores, .int p1_districts, .int p1_tolerance, .int p1_hasPlan, .ref a_p1_plan])), (a_p1_population, .inl (k 0, 12, .inl p1_population)), (a_t_population, .inl (k 0, 12, .inl t_population)), (a_p1_area, .inl (k 0, 12, .inl p1_area)), (a_t_area, .inl (k 0, 12, .inl t_area)), (a_p1_community, .inl (k 0, 12, .inl p1_community)), (a_t_community, .inl (k 0, 12, .inl t_community)), (a_p1_outer, .inl (k 0, 12, .inl p1_outer)), (a_t_outer, .inl (k 0, 12, .inl t_outer)), (a_p1_neighbors, .inl (k 0, 12, .inl p1_neighbors)), (a_t_neighbors, .inl (k 0, 12, .inl t_neighbors)), (a_p1_lengths, .inl (k 0, 144, .inl p1_lengths)), (a_t_lengths, .inl (k 0, 144, .inl t_lengths)), (a_t_plan, .inr (4, [.ref a_t_plan_places, .ref a_t_plan_sets])), (a_p1_plan, .inr (4, [.ref a_p1_plan_places, .ref a_p1_plan_sets])), (a_p1_plan_places, .inl (k 0, 12, .inl p1_plan_places)), (a_t_plan_places, .inl (k 0, 12, .inl t_plan_places)), (a_p1_plan_sets, .inl (k 0, 4, .inl p1_plan_sets)), (a_t_plan_sets, .inl (k 0, 4, .inl t_plan_sets))] sz) := by
  refine Met.ofW (cc := cX9_copyFrom) (maxL := 2) (ret := none) (by decide) rfl ?_
  intro p e s m args below meth c s₁ B hml hv
  obtain ⟨rfl, hsz, hP, hK, hD0⟩ := hv
  have hx := B.exec
  have hb := B.bytes
  have hr := B.returns
  have hts0 := atoms_spec (ws := (Cond.code yX9_copyFrom cX9_copyFrom 2 none :: Ts)) B.pre
  have hts : ∀ w ∈ uT, w.before _ s = true := fun w h => hts0 w (List.mem_cons_of_mem _ ((hTs w).mpr h))
  clear hts0
  have hown : s.vm.findClass RX9 = some m.cls := findClass_of_methodNamed B.named
  have hlocks := B.notSynchronized
  subst hsz
  have hD := hD0.self (sz := s.heap.size)
  generalize hAe : va_A [(a_t, .inr (8, [v_t_units, .ref a_t_population, .ref a_t_area, .ref a_t_community, .ref a_t_outer, .ref a_t_neighbors, .ref a_t_lengths, v_t_cores, v_t_districts, v_t_tolerance, v_t_hasPlan, .ref a_t_plan])), (a_p1, .inr (8, [.int p1_units, .ref a_p1_population, .ref a_p1_area, .ref a_p1_community, .ref a_p1_outer, .ref a_p1_neighbors, .ref a_p1_lengths, .int p1_cores, .int p1_districts, .int p1_tolerance, .int p1_hasPlan, .ref a_p1_plan])), (a_p1_population, .inl (k 0, 12, .inl p1_population)), (a_t_population, .inl (k 0, 12, .inl t_population)), (a_p1_area, .inl (k 0, 12, .inl p1_area)), (a_t_area, .inl (k 0, 12, .inl t_area)), (a_p1_community, .inl (k 0, 12, .inl p1_community)), (a_t_community, .inl (k 0, 12, .inl t_community)), (a_p1_outer, .inl (k 0, 12, .inl p1_outer)), (a_t_outer, .inl (k 0, 12, .inl t_outer)), (a_p1_neighbors, .inl (k 0, 12, .inl p1_neighbors)), (a_t_neighbors, .inl (k 0, 12, .inl t_neighbors)), (a_p1_lengths, .inl (k 0, 144, .inl p1_lengths)), (a_t_lengths, .inl (k 0, 144, .inl t_lengths)), (a_t_plan, .inr (4, [.ref a_t_plan_places, .ref a_t_plan_sets])), (a_p1_plan, .inr (4, [.ref a_p1_plan_places, .ref a_p1_plan_sets])), (a_p1_plan_places, .inl (k 0, 12, .inl p1_plan_places)), (a_t_plan_places, .inl (k 0, 12, .inl t_plan_places)), (a_p1_plan_sets, .inl (k 0, 4, .inl p1_plan_sets)), (a_t_plan_sets, .inl (k 0, 4, .inl t_plan_sets))] s.heap.size = A at hD ⊢
  have hA : ∀ q : Nat, s.heap.size ≤ q → A q := fun q h => by rw [← hAe]; exact Or.inr h
  have hH : HOK D A s.heap [(a_t, .inr (8, [v_t_units, .ref a_t_population, .ref a_t_area, .ref a_t_community, .ref a_t_outer, .ref a_t_neighbors, .ref a_t_lengths, v_t_cores, v_t_districts, v_t_tolerance, v_t_hasPlan, .ref a_t_plan])), (a_p1, .inr (8, [.int p1_units, .ref a_p1_population, .ref a_p1_area, .ref a_p1_community, .ref a_p1_outer, .ref a_p1_neighbors, .ref a_p1_lengths, .int p1_cores, .int p1_districts, .int p1_tolerance, .int p1_hasPlan, .ref a_p1_plan])), (a_p1_population, .inl (k 0, 12, .inl p1_population)), (a_t_population, .inl (k 0, 12, .inl t_population)), (a_p1_area, .inl (k 0, 12, .inl p1_area)), (a_t_area, .inl (k 0, 12, .inl t_area)), (a_p1_community, .inl (k 0, 12, .inl p1_community)), (a_t_community, .inl (k 0, 12, .inl t_community)), (a_p1_outer, .inl (k 0, 12, .inl p1_outer)), (a_t_outer, .inl (k 0, 12, .inl t_outer)), (a_p1_neighbors, .inl (k 0, 12, .inl p1_neighbors)), (a_t_neighbors, .inl (k 0, 12, .inl t_neighbors)), (a_p1_lengths, .inl (k 0, 144, .inl p1_lengths)), (a_t_lengths, .inl (k 0, 144, .inl t_lengths)), (a_t_plan, .inr (4, [.ref a_t_plan_places, .ref a_t_plan_sets])), (a_p1_plan, .inr (4, [.ref a_p1_plan_places, .ref a_p1_plan_sets])), (a_p1_plan_places, .inl (k 0, 12, .inl p1_plan_places)), (a_t_plan_places, .inl (k 0, 12, .inl t_plan_places)), (a_p1_plan_sets, .inl (k 0, 4, .inl p1_plan_sets)), (a_t_plan_sets, .inl (k 0, 4, .inl t_plan_sets))] s.heap [] := ⟨hP, hD, va_S.rf⟩
  have hl := lv_entry ([.ref a_t, .ref a_p1]) (n := 2) (Nat.le_of_ble_eq_true rfl)
  rw [lg_entry_eq]
  generalize (lg_sl ([.ref a_t, .ref a_p1]) ++ List.replicate (2 - (lg_sl ([.ref a_t, .ref a_p1])).length) Slot.unset).toArray = ls at hl ⊢
  have hl : lv_has ls 2 [(0, .ref a_t), (1, .ref a_p1)] := hl
  generalize hQ : MQ below (postV D k [(a_t, .inr (8, [v_t_units, .ref a_t_population, .ref a_t_area, .ref a_t_community, .ref a_t_outer, .ref a_t_neighbors, .ref a_t_lengths, v_t_cores, v_t_districts, v_t_tolerance, v_t_hasPlan, .ref a_t_plan])), (a_p1, .inr (8, [.int p1_units, .ref a_p1_population, .ref a_p1_area, .ref a_p1_community, .ref a_p1_outer, .ref a_p1_neighbors, .ref a_p1_lengths, .int p1_cores, .int p1_districts, .int p1_tolerance, .int p1_hasPlan, .ref a_p1_plan])), (a_p1_population, .inl (k 0, 12, .inl p1_population)), (a_t_population, .inl (k 0, 12, .inl t_population)), (a_p1_area, .inl (k 0, 12, .inl p1_area)), (a_t_area, .inl (k 0, 12, .inl t_area)), (a_p1_community, .inl (k 0, 12, .inl p1_community)), (a_t_community, .inl (k 0, 12, .inl t_community)), (a_p1_outer, .inl (k 0, 12, .inl p1_outer)), (a_t_outer, .inl (k 0, 12, .inl t_outer)), (a_p1_neighbors, .inl (k 0, 12, .inl p1_neighbors)), (a_t_neighbors, .inl (k 0, 12, .inl t_neighbors)), (a_p1_lengths, .inl (k 0, 144, .inl p1_lengths)), (a_t_lengths, .inl (k 0, 144, .inl t_lengths)), (a_t_plan, .inr (4, [.ref a_t_plan_places, .ref a_t_plan_sets])), (a_p1_plan, .inr (4, [.ref a_p1_plan_places, .ref a_p1_plan_sets])), (a_p1_plan_places, .inl (k 0, 12, .inl p1_plan_places)), (a_t_plan_places, .inl (k 0, 12, .inl t_plan_places)), (a_p1_plan_sets, .inl (k 0, 4, .inl p1_plan_sets)), (a_t_plan_sets, .inl (k 0, 4, .inl t_plan_sets))] [(a_t, .inr (8, [.int r.2.2.2.2.2.2.2.2.2.2.2.2, .ref a_t_population, .ref a_t_area, .ref a_t_community, .ref a_t_outer, .ref a_t_neighbors, .ref a_t_lengths, .int r.2.2.1, .int r.2.2.2.1, .int r.2.2.2.2.2.2.2.2.2.2.2.1, .int r.2.2.2.2.1, .ref a_t_plan])), (a_p1, .inr (8, [.int p1_units, .ref a_p1_population, .ref a_p1_area, .ref a_p1_community, .ref a_p1_outer, .ref a_p1_neighbors, .ref a_p1_lengths, .int p1_cores, .int p1_districts, .int p1_tolerance, .int p1_hasPlan, .ref a_p1_plan])), (a_p1_population, .inl (k 0, 12, .inl p1_population)), (a_t_population, .inl (k 0, 12, .inl r.2.2.2.2.2.2.2.2.2.2.1)), (a_p1_area, .inl (k 0, 12, .inl p1_area)), (a_t_area, .inl (k 0, 12, .inl r.1)), (a_p1_community, .inl (k 0, 12, .inl p1_community)), (a_t_community, .inl (k 0, 12, .inl r.2.1)), (a_p1_outer, .inl (k 0, 12, .inl p1_outer)), (a_t_outer, .inl (k 0, 12, .inl r.2.2.2.2.2.2.2.1)), (a_p1_neighbors, .inl (k 0, 12, .inl p1_neighbors)), (a_t_neighbors, .inl (k 0, 12, .inl r.2.2.2.2.2.2.1)), (a_p1_lengths, .inl (k 0, 144, .inl p1_lengths)), (a_t_lengths, .inl (k 0, 144, .inl r.2.2.2.2.2.1)), (a_t_plan, .inr (4, [.ref a_t_plan_places, .ref a_t_plan_sets])), (a_p1_plan, .inr (4, [.ref a_p1_plan_places, .ref a_p1_plan_sets])), (a_p1_plan_places, .inl (k 0, 12, .inl p1_plan_places)), (a_t_plan_places, .inl (k 0, 12, .inl r.2.2.2.2.2.2.2.2.1)), (a_p1_plan_sets, .inl (k 0, 4, .inl p1_plan_sets)), (a_t_plan_sets, .inl (k 0, 4, .inl r.2.2.2.2.2.2.2.2.2.1))] s.heap.size) (List.toArray [.ref a_t, .ref a_p1]) s 0 0 A = Q
  clear hP hD hD0
  suffices K : ∀ (H : Heap) (locs : List Loc), HOK D A s.heap [(a_t, .inr (8, [v_t_units, .ref a_t_population, .ref a_t_area, .ref a_t_community, .ref a_t_outer, .ref a_t_neighbors, .ref a_t_lengths, v_t_cores, v_t_districts, v_t_tolerance, v_t_hasPlan, .ref a_t_plan])), (a_p1, .inr (8, [.int p1_units, .ref a_p1_population, .ref a_p1_area, .ref a_p1_community, .ref a_p1_outer, .ref a_p1_neighbors, .ref a_p1_lengths, .int p1_cores, .int p1_districts, .int p1_tolerance, .int p1_hasPlan, .ref a_p1_plan])), (a_p1_population, .inl (k 0, 12, .inl p1_population)), (a_t_population, .inl (k 0, 12, .inl t_population)), (a_p1_area, .inl (k 0, 12, .inl p1_area)), (a_t_area, .inl (k 0, 12, .inl t_area)), (a_p1_community, .inl (k 0, 12, .inl p1_community)), (a_t_community, .inl (k 0, 12, .inl t_community)), (a_p1_outer, .inl (k 0, 12, .inl p1_outer)), (a_t_outer, .inl (k 0, 12, .inl t_outer)), (a_p1_neighbors, .inl (k 0, 12, .inl p1_neighbors)), (a_t_neighbors, .inl (k 0, 12, .inl t_neighbors)), (a_p1_lengths, .inl (k 0, 144, .inl p1_lengths)), (a_t_lengths, .inl (k 0, 144, .inl t_lengths)), (a_t_plan, .inr (4, [.ref a_t_plan_places, .ref a_t_plan_sets])), (a_p1_plan, .inr (4, [.ref a_p1_plan_places, .ref a_p1_plan_sets])), (a_p1_plan_places, .inl (k 0, 12, .inl p1_plan_places)), (a_t_plan_places, .inl (k 0, 12, .inl t_plan_places)), (a_p1_plan_sets, .inl (k 0, 4, .inl p1_plan_sets)), (a_t_plan_sets, .inl (k 0, 4, .inl t_plan_sets))] H locs → W p l e ({ frames := 2, cells := 0, slots := 0, locals := 117 } : Room) s m (List.toArray [.ref a_t, .ref a_p1]) below meth c H locs 0 0 Q (F0 m 0 ls []) from K s.heap [] hH
  intro H locs hH
  rw [fX9_copyFrom] at h
  refine lv_aload_n hx hb dX9_copyFrom_0 rfl (lv_at hl 0 rfl) ?_
  refine lv_aload_n hx hb dX9_copyFrom_1 rfl (lv_at hl 1 rfl) ?_
  refine gk_get (ci := 8) (C := RX9) (T := TX9) (N := 12) hx hb hts u_ws_X9 hown hK hH 1 rfl rfl 0 (by decide) u_fl_X9_9 rfl dX9_copyFrom_2 ?_
  refine gk_put (ci := 8) (C := RX9) (T := TX9) (N := 12) hx hb hts u_ws_X9 tyX9_ok nmX9 hown hK hH 0 rfl rfl 0 (by decide) u_fl_X9_9 rfl rfl rfl (by decide) dX9_copyFrom_5 [(a_t, .inr (8, [.int p1_units, .ref a_t_population, .ref a_t_area, .ref a_t_community, .ref a_t_outer, .ref a_t_neighbors, .ref a_t_lengths, v_t_cores, v_t_districts, v_t_tolerance, v_t_hasPlan, .ref a_t_plan])), (a_p1, .inr (8, [.int p1_units, .ref a_p1_population, .ref a_p1_area, .ref a_p1_community, .ref a_p1_outer, .ref a_p1_neighbors, .ref a_p1_lengths, .int p1_cores, .int p1_districts, .int p1_tolerance, .int p1_hasPlan, .ref a_p1_plan])), (a_p1_population, .inl (k 0, 12, .inl p1_population)), (a_t_population, .inl (k 0, 12, .inl t_population)), (a_p1_area, .inl (k 0, 12, .inl p1_area)), (a_t_area, .inl (k 0, 12, .inl t_area)), (a_p1_community, .inl (k 0, 12, .inl p1_community)), (a_t_community, .inl (k 0, 12, .inl t_community)), (a_p1_outer, .inl (k 0, 12, .inl p1_outer)), (a_t_outer, .inl (k 0, 12, .inl t_outer)), (a_p1_neighbors, .inl (k 0, 12, .inl p1_neighbors)), (a_t_neighbors, .inl (k 0, 12, .inl t_neighbors)), (a_p1_lengths, .inl (k 0, 144, .inl p1_lengths)), (a_t_lengths, .inl (k 0, 144, .inl t_lengths)), (a_t_plan, .inr (4, [.ref a_t_plan_places, .ref a_t_plan_sets])), (a_p1_plan, .inr (4, [.ref a_p1_plan_places, .ref a_p1_plan_sets])), (a_p1_plan_places, .inl (k 0, 12, .inl p1_plan_places)), (a_t_plan_places, .inl (k 0, 12, .inl t_plan_places)), (a_p1_plan_sets, .inl (k 0, 4, .inl p1_plan_sets)), (a_t_plan_sets, .inl (k 0, 4, .inl t_plan_sets))] rfl (fun H locs hH => ?_)
  refine lv_aload_n hx hb dX9_copyFrom_8 rfl (lv_at hl 1 rfl) ?_
  refine gk_get (ci := 8) (C := RX9) (T := TX9) (N := 12) hx hb hts u_ws_X9 hown hK hH 1 rfl rfl 1 (by decide) u_fl_X9_15 rfl dX9_copyFrom_9 ?_
  refine lv_iconst (v := 0) hx hb dX9_copyFrom_12 (by decide) ?_
  refine lv_aload_n hx hb dX9_copyFrom_13 rfl (lv_at hl 0 rfl) ?_
  refine gk_get (ci := 8) (C := RX9) (T := TX9) (N := 12) hx hb hts u_ws_X9 hown hK hH 0 rfl rfl 1 (by decide) u_fl_X9_15 rfl dX9_copyFrom_14 ?_
  refine lv_iconst (v := 0) hx hb dX9_copyFrom_17 (by decide) ?_
  refine lv_bipush (v := 12) hx hb dX9_copyFrom_18 (by decide) ?_
  refine gk_copyi (n0 := 12) (n1 := 12) (ws' := [(a_t, .inr (8, [.int p1_units, .ref a_t_population, .ref a_t_area, .ref a_t_community, .ref a_t_outer, .ref a_t_neighbors, .ref a_t_lengths, v_t_cores, v_t_districts, v_t_tolerance, v_t_hasPlan, .ref a_t_plan])), (a_p1, .inr (8, [.int p1_units, .ref a_p1_population, .ref a_p1_area, .ref a_p1_community, .ref a_p1_outer, .ref a_p1_neighbors, .ref a_p1_lengths, .int p1_cores, .int p1_districts, .int p1_tolerance, .int p1_hasPlan, .ref a_p1_plan])), (a_p1_population, .inl (k 0, 12, .inl p1_population)), (a_t_population, .inl (k 0, 12, .inl (va_cpy p1_population t_population 0 0 (12 : Int32).toNatClampNeg))), (a_p1_area, .inl (k 0, 12, .inl p1_area)), (a_t_area, .inl (k 0, 12, .inl t_area)), (a_p1_community, .inl (k 0, 12, .inl p1_community)), (a_t_community, .inl (k 0, 12, .inl t_community)), (a_p1_outer, .inl (k 0, 12, .inl p1_outer)), (a_t_outer, .inl (k 0, 12, .inl t_outer)), (a_p1_neighbors, .inl (k 0, 12, .inl p1_neighbors)), (a_t_neighbors, .inl (k 0, 12, .inl t_neighbors)), (a_p1_lengths, .inl (k 0, 144, .inl p1_lengths)), (a_t_lengths, .inl (k 0, 144, .inl t_lengths)), (a_t_plan, .inr (4, [.ref a_t_plan_places, .ref a_t_plan_sets])), (a_p1_plan, .inr (4, [.ref a_p1_plan_places, .ref a_p1_plan_sets])), (a_p1_plan_places, .inl (k 0, 12, .inl p1_plan_places)), (a_t_plan_places, .inl (k 0, 12, .inl t_plan_places)), (a_p1_plan_sets, .inl (k 0, 4, .inl p1_plan_sets)), (a_t_plan_sets, .inl (k 0, 4, .inl t_plan_sets))]) hx hb (hml.trans hl.1.symm) hown (hts _ u_ml_X9_54) (hts _ u_na_System_arraycopy) (hts _ u_st_System_arraycopy) (hts _ u_in_J10) hK hH 2 3 rfl rfl (by decide) (by decide) (by decide) (Nat.le_of_ble_eq_true rfl) (Nat.le_of_ble_eq_true rfl) dX9_copyFrom_20 rfl (fun H locs hH => ?_)
  refine lv_aload_n hx hb dX9_copyFrom_23 rfl (lv_at hl 1 rfl) ?_
  refine gk_get (ci := 8) (C := RX9) (T := TX9) (N := 12) hx hb hts u_ws_X9 hown hK hH 1 rfl rfl 2 (by decide) u_fl_X9_19 rfl dX9_copyFrom_24 ?_
  refine lv_iconst (v := 0) hx hb dX9_copyFrom_27 (by decide) ?_
  refine lv_aload_n hx hb dX9_copyFrom_28 rfl (lv_at hl 0 rfl) ?_
  refine gk_get (ci := 8) (C := RX9) (T := TX9) (N := 12) hx hb hts u_ws_X9 hown hK hH 0 rfl rfl 2 (by decide) u_fl_X9_19 rfl dX9_copyFrom_29 ?_
  refine lv_iconst (v := 0) hx hb dX9_copyFrom_32 (by decide) ?_
  refine lv_bipush (v := 12) hx hb dX9_copyFrom_33 (by decide) ?_
  refine gk_copyi (n0 := 12) (n1 := 12) (ws' := [(a_t, .inr (8, [.int p1_units, .ref a_t_population, .ref a_t_area, .ref a_t_community, .ref a_t_outer, .ref a_t_neighbors, .ref a_t_lengths, v_t_cores, v_t_districts, v_t_tolerance, v_t_hasPlan, .ref a_t_plan])), (a_p1, .inr (8, [.int p1_units, .ref a_p1_population, .ref a_p1_area, .ref a_p1_community, .ref a_p1_outer, .ref a_p1_neighbors, .ref a_p1_lengths, .int p1_cores, .int p1_districts, .int p1_tolerance, .int p1_hasPlan, .ref a_p1_plan])), (a_p1_population, .inl (k 0, 12, .inl p1_population)), (a_t_population, .inl (k 0, 12, .inl (va_cpy p1_population t_population 0 0 (12 : Int32).toNatClampNeg))), (a_p1_area, .inl (k 0, 12, .inl p1_area)), (a_t_area, .inl (k 0, 12, .inl (va_cpy p1_area t_area 0 0 (12 : Int32).toNatClampNeg))), (a_p1_community, .inl (k 0, 12, .inl p1_community)), (a_t_community, .inl (k 0, 12, .inl t_community)), (a_p1_outer, .inl (k 0, 12, .inl p1_outer)), (a_t_outer, .inl (k 0, 12, .inl t_outer)), (a_p1_neighbors, .inl (k 0, 12, .inl p1_neighbors)), (a_t_neighbors, .inl (k 0, 12, .inl t_neighbors)), (a_p1_lengths, .inl (k 0, 144, .inl p1_lengths)), (a_t_lengths, .inl (k 0, 144, .inl t_lengths)), (a_t_plan, .inr (4, [.ref a_t_plan_places, .ref a_t_plan_sets])), (a_p1_plan, .inr (4, [.ref a_p1_plan_places, .ref a_p1_plan_sets])), (a_p1_plan_places, .inl (k 0, 12, .inl p1_plan_places)), (a_t_plan_places, .inl (k 0, 12, .inl t_plan_places)), (a_p1_plan_sets, .inl (k 0, 4, .inl p1_plan_sets)), (a_t_plan_sets, .inl (k 0, 4, .inl t_plan_sets))]) hx hb (hml.trans hl.1.symm) hown (hts _ u_ml_X9_54) (hts _ u_na_System_arraycopy) (hts _ u_st_System_arraycopy) (hts _ u_in_J10) hK hH 4 5 rfl rfl (by decide) (by decide) (by decide) (Nat.le_of_ble_eq_true rfl) (Nat.le_of_ble_eq_true rfl) dX9_copyFrom_35 rfl (fun H locs hH => ?_)
  refine lv_aload_n hx hb dX9_copyFrom_38 rfl (lv_at hl 1 rfl) ?_
  refine gk_get (ci := 8) (C := RX9) (T := TX9) (N := 12) hx hb hts u_ws_X9 hown hK hH 1 rfl rfl 3 (by decide) u_fl_X9_22 rfl dX9_copyFrom_39 ?_
  refine lv_iconst (v := 0) hx hb dX9_copyFrom_42 (by decide) ?_
  refine lv_aload_n hx hb dX9_copyFrom_43 rfl (lv_at hl 0 rfl) ?_
  refine gk_get (ci := 8) (C := RX9) (T := TX9) (N := 12) hx hb hts u_ws_X9 hown hK hH 0 rfl rfl 3 (by decide) u_fl_X9_22 rfl dX9_copyFrom_44 ?_
  refine lv_iconst (v := 0) hx hb dX9_copyFrom_47 (by decide) ?_
  refine lv_bipush (v := 12) hx hb dX9_copyFrom_48 (by decide) ?_
  refine gk_copyi (n0 := 12) (n1 := 12) (ws' := [(a_t, .inr (8, [.int p1_units, .ref a_t_population, .ref a_t_area, .ref a_t_community, .ref a_t_outer, .ref a_t_neighbors, .ref a_t_lengths, v_t_cores, v_t_districts, v_t_tolerance, v_t_hasPlan, .ref a_t_plan])), (a_p1, .inr (8, [.int p1_units, .ref a_p1_population, .ref a_p1_area, .ref a_p1_community, .ref a_p1_outer, .ref a_p1_neighbors, .ref a_p1_lengths, .int p1_cores, .int p1_districts, .int p1_tolerance, .int p1_hasPlan, .ref a_p1_plan])), (a_p1_population, .inl (k 0, 12, .inl p1_population)), (a_t_population, .inl (k 0, 12, .inl (va_cpy p1_population t_population 0 0 (12 : Int32).toNatClampNeg))), (a_p1_area, .inl (k 0, 12, .inl p1_area)), (a_t_area, .inl (k 0, 12, .inl (va_cpy p1_area t_area 0 0 (12 : Int32).toNatClampNeg))), (a_p1_community, .inl (k 0, 12, .inl p1_community)), (a_t_community, .inl (k 0, 12, .inl (va_cpy p1_community t_community 0 0 (12 : Int32).toNatClampNeg))), (a_p1_outer, .inl (k 0, 12, .inl p1_outer)), (a_t_outer, .inl (k 0, 12, .inl t_outer)), (a_p1_neighbors, .inl (k 0, 12, .inl p1_neighbors)), (a_t_neighbors, .inl (k 0, 12, .inl t_neighbors)), (a_p1_lengths, .inl (k 0, 144, .inl p1_lengths)), (a_t_lengths, .inl (k 0, 144, .inl t_lengths)), (a_t_plan, .inr (4, [.ref a_t_plan_places, .ref a_t_plan_sets])), (a_p1_plan, .inr (4, [.ref a_p1_plan_places, .ref a_p1_plan_sets])), (a_p1_plan_places, .inl (k 0, 12, .inl p1_plan_places)), (a_t_plan_places, .inl (k 0, 12, .inl t_plan_places)), (a_p1_plan_sets, .inl (k 0, 4, .inl p1_plan_sets)), (a_t_plan_sets, .inl (k 0, 4, .inl t_plan_sets))]) hx hb (hml.trans hl.1.symm) hown (hts _ u_ml_X9_54) (hts _ u_na_System_arraycopy) (hts _ u_st_System_arraycopy) (hts _ u_in_J10) hK hH 6 7 rfl rfl (by decide) (by decide) (by decide) (Nat.le_of_ble_eq_true rfl) (Nat.le_of_ble_eq_true rfl) dX9_copyFrom_50 rfl (fun H locs hH => ?_)
  refine lv_aload_n hx hb dX9_copyFrom_53 rfl (lv_at hl 1 rfl) ?_
  refine gk_get (ci := 8) (C := RX9) (T := TX9) (N := 12) hx hb hts u_ws_X9 hown hK hH 1 rfl rfl 4 (by decide) u_fl_X9_25 rfl dX9_copyFrom_54 ?_
  refine lv_iconst (v := 0) hx hb dX9_copyFrom_57 (by decide) ?_
  refine lv_aload_n hx hb dX9_copyFrom_58 rfl (lv_at hl 0 rfl) ?_
  refine gk_get (ci := 8) (C := RX9) (T := TX9) (N := 12) hx hb hts u_ws_X9 hown hK hH 0 rfl rfl 4 (by decide) u_fl_X9_25 rfl dX9_copyFrom_59 ?_
  refine lv_iconst (v := 0) hx hb dX9_copyFrom_62 (by decide) ?_
  refine lv_bipush (v := 12) hx hb dX9_copyFrom_63 (by decide) ?_
  refine gk_copyi (n0 := 12) (n1 := 12) (ws' := [(a_t, .inr (8, [.int p1_units, .ref a_t_population, .ref a_t_area, .ref a_t_community, .ref a_t_outer, .ref a_t_neighbors, .ref a_t_lengths, v_t_cores, v_t_districts, v_t_tolerance, v_t_hasPlan, .ref a_t_plan])), (a_p1, .inr (8, [.int p1_units, .ref a_p1_population, .ref a_p1_area, .ref a_p1_community, .ref a_p1_outer, .ref a_p1_neighbors, .ref a_p1_lengths, .int p1_cores, .int p1_districts, .int p1_tolerance, .int p1_hasPlan, .ref a_p1_plan])), (a_p1_population, .inl (k 0, 12, .inl p1_population)), (a_t_population, .inl (k 0, 12, .inl (va_cpy p1_population t_population 0 0 (12 : Int32).toNatClampNeg))), (a_p1_area, .inl (k 0, 12, .inl p1_area)), (a_t_area, .inl (k 0, 12, .inl (va_cpy p1_area t_area 0 0 (12 : Int32).toNatClampNeg))), (a_p1_community, .inl (k 0, 12, .inl p1_community)), (a_t_community, .inl (k 0, 12, .inl (va_cpy p1_community t_community 0 0 (12 : Int32).toNatClampNeg))), (a_p1_outer, .inl (k 0, 12, .inl p1_outer)), (a_t_outer, .inl (k 0, 12, .inl (va_cpy p1_outer t_outer 0 0 (12 : Int32).toNatClampNeg))), (a_p1_neighbors, .inl (k 0, 12, .inl p1_neighbors)), (a_t_neighbors, .inl (k 0, 12, .inl t_neighbors)), (a_p1_lengths, .inl (k 0, 144, .inl p1_lengths)), (a_t_lengths, .inl (k 0, 144, .inl t_lengths)), (a_t_plan, .inr (4, [.ref a_t_plan_places, .ref a_t_plan_sets])), (a_p1_plan, .inr (4, [.ref a_p1_plan_places, .ref a_p1_plan_sets])), (a_p1_plan_places, .inl (k 0, 12, .inl p1_plan_places)), (a_t_plan_places, .inl (k 0, 12, .inl t_plan_places)), (a_p1_plan_sets, .inl (k 0, 4, .inl p1_plan_sets)), (a_t_plan_sets, .inl (k 0, 4, .inl t_plan_sets))]) hx hb (hml.trans hl.1.symm) hown (hts _ u_ml_X9_54) (hts _ u_na_System_arraycopy) (hts _ u_st_System_arraycopy) (hts _ u_in_J10) hK hH 8 9 rfl rfl (by decide) (by decide) (by decide) (Nat.le_of_ble_eq_true rfl) (Nat.le_of_ble_eq_true rfl) dX9_copyFrom_65 rfl (fun H locs hH => ?_)
  refine lv_aload_n hx hb dX9_copyFrom_68 rfl (lv_at hl 1 rfl) ?_
  refine gk_get (ci := 8) (C := RX9) (T := TX9) (N := 12) hx hb hts u_ws_X9 hown hK hH 1 rfl rfl 5 (by decide) u_fl_X9_28 rfl dX9_copyFrom_69 ?_
  refine lv_iconst (v := 0) hx hb dX9_copyFrom_72 (by decide) ?_
  refine lv_aload_n hx hb dX9_copyFrom_73 rfl (lv_at hl 0 rfl) ?_
  refine gk_get (ci := 8) (C := RX9) (T := TX9) (N := 12) hx hb hts u_ws_X9 hown hK hH 0 rfl rfl 5 (by decide) u_fl_X9_28 rfl dX9_copyFrom_74 ?_
  refine lv_iconst (v := 0) hx hb dX9_copyFrom_77 (by decide) ?_
  refine lv_bipush (v := 12) hx hb dX9_copyFrom_78 (by decide) ?_
  refine gk_copyi (n0 := 12) (n1 := 12) (ws' := [(a_t, .inr (8, [.int p1_units, .ref a_t_population, .ref a_t_area, .ref a_t_community, .ref a_t_outer, .ref a_t_neighbors, .ref a_t_lengths, v_t_cores, v_t_districts, v_t_tolerance, v_t_hasPlan, .ref a_t_plan])), (a_p1, .inr (8, [.int p1_units, .ref a_p1_population, .ref a_p1_area, .ref a_p1_community, .ref a_p1_outer, .ref a_p1_neighbors, .ref a_p1_lengths, .int p1_cores, .int p1_districts, .int p1_tolerance, .int p1_hasPlan, .ref a_p1_plan])), (a_p1_population, .inl (k 0, 12, .inl p1_population)), (a_t_population, .inl (k 0, 12, .inl (va_cpy p1_population t_population 0 0 (12 : Int32).toNatClampNeg))), (a_p1_area, .inl (k 0, 12, .inl p1_area)), (a_t_area, .inl (k 0, 12, .inl (va_cpy p1_area t_area 0 0 (12 : Int32).toNatClampNeg))), (a_p1_community, .inl (k 0, 12, .inl p1_community)), (a_t_community, .inl (k 0, 12, .inl (va_cpy p1_community t_community 0 0 (12 : Int32).toNatClampNeg))), (a_p1_outer, .inl (k 0, 12, .inl p1_outer)), (a_t_outer, .inl (k 0, 12, .inl (va_cpy p1_outer t_outer 0 0 (12 : Int32).toNatClampNeg))), (a_p1_neighbors, .inl (k 0, 12, .inl p1_neighbors)), (a_t_neighbors, .inl (k 0, 12, .inl (va_cpy p1_neighbors t_neighbors 0 0 (12 : Int32).toNatClampNeg))), (a_p1_lengths, .inl (k 0, 144, .inl p1_lengths)), (a_t_lengths, .inl (k 0, 144, .inl t_lengths)), (a_t_plan, .inr (4, [.ref a_t_plan_places, .ref a_t_plan_sets])), (a_p1_plan, .inr (4, [.ref a_p1_plan_places, .ref a_p1_plan_sets])), (a_p1_plan_places, .inl (k 0, 12, .inl p1_plan_places)), (a_t_plan_places, .inl (k 0, 12, .inl t_plan_places)), (a_p1_plan_sets, .inl (k 0, 4, .inl p1_plan_sets)), (a_t_plan_sets, .inl (k 0, 4, .inl t_plan_sets))]) hx hb (hml.trans hl.1.symm) hown (hts _ u_ml_X9_54) (hts _ u_na_System_arraycopy) (hts _ u_st_System_arraycopy) (hts _ u_in_J10) hK hH 10 11 rfl rfl (by decide) (by decide) (by decide) (Nat.le_of_ble_eq_true rfl) (Nat.le_of_ble_eq_true rfl) dX9_copyFrom_80 rfl (fun H locs hH => ?_)
  refine lv_aload_n hx hb dX9_copyFrom_83 rfl (lv_at hl 1 rfl) ?_
  refine gk_get (ci := 8) (C := RX9) (T := TX9) (N := 12) hx hb hts u_ws_X9 hown hK hH 1 rfl rfl 6 (by decide) u_fl_X9_31 rfl dX9_copyFrom_84 ?_
  refine lv_iconst (v := 0) hx hb dX9_copyFrom_87 (by decide) ?_
  refine lv_aload_n hx hb dX9_copyFrom_88 rfl (lv_at hl 0 rfl) ?_
  refine gk_get (ci := 8) (C := RX9) (T := TX9) (N := 12) hx hb hts u_ws_X9 hown hK hH 0 rfl rfl 6 (by decide) u_fl_X9_31 rfl dX9_copyFrom_89 ?_
  refine lv_iconst (v := 0) hx hb dX9_copyFrom_92 (by decide) ?_
  refine lv_sipush (v := 144) hx hb dX9_copyFrom_93 (by decide) ?_
  refine gk_copyi (n0 := 144) (n1 := 144) (ws' := [(a_t, .inr (8, [.int p1_units, .ref a_t_population, .ref a_t_area, .ref a_t_community, .ref a_t_outer, .ref a_t_neighbors, .ref a_t_lengths, v_t_cores, v_t_districts, v_t_tolerance, v_t_hasPlan, .ref a_t_plan])), (a_p1, .inr (8, [.int p1_units, .ref a_p1_population, .ref a_p1_area, .ref a_p1_community, .ref a_p1_outer, .ref a_p1_neighbors, .ref a_p1_lengths, .int p1_cores, .int p1_districts, .int p1_tolerance, .int p1_hasPlan, .ref a_p1_plan])), (a_p1_population, .inl (k 0, 12, .inl p1_population)), (a_t_population, .inl (k 0, 12, .inl (va_cpy p1_population t_population 0 0 (12 : Int32).toNatClampNeg))), (a_p1_area, .inl (k 0, 12, .inl p1_area)), (a_t_area, .inl (k 0, 12, .inl (va_cpy p1_area t_area 0 0 (12 : Int32).toNatClampNeg))), (a_p1_community, .inl (k 0, 12, .inl p1_community)), (a_t_community, .inl (k 0, 12, .inl (va_cpy p1_community t_community 0 0 (12 : Int32).toNatClampNeg))), (a_p1_outer, .inl (k 0, 12, .inl p1_outer)), (a_t_outer, .inl (k 0, 12, .inl (va_cpy p1_outer t_outer 0 0 (12 : Int32).toNatClampNeg))), (a_p1_neighbors, .inl (k 0, 12, .inl p1_neighbors)), (a_t_neighbors, .inl (k 0, 12, .inl (va_cpy p1_neighbors t_neighbors 0 0 (12 : Int32).toNatClampNeg))), (a_p1_lengths, .inl (k 0, 144, .inl p1_lengths)), (a_t_lengths, .inl (k 0, 144, .inl (va_cpy p1_lengths t_lengths 0 0 (144 : Int32).toNatClampNeg))), (a_t_plan, .inr (4, [.ref a_t_plan_places, .ref a_t_plan_sets])), (a_p1_plan, .inr (4, [.ref a_p1_plan_places, .ref a_p1_plan_sets])), (a_p1_plan_places, .inl (k 0, 12, .inl p1_plan_places)), (a_t_plan_places, .inl (k 0, 12, .inl t_plan_places)), (a_p1_plan_sets, .inl (k 0, 4, .inl p1_plan_sets)), (a_t_plan_sets, .inl (k 0, 4, .inl t_plan_sets))]) hx hb (hml.trans hl.1.symm) hown (hts _ u_ml_X9_54) (hts _ u_na_System_arraycopy) (hts _ u_st_System_arraycopy) (hts _ u_in_J10) hK hH 12 13 rfl rfl (by decide) (by decide) (by decide) (Nat.le_of_ble_eq_true rfl) (Nat.le_of_ble_eq_true rfl) dX9_copyFrom_96 rfl (fun H locs hH => ?_)
  refine lv_aload_n hx hb dX9_copyFrom_99 rfl (lv_at hl 0 rfl) ?_
  refine lv_aload_n hx hb dX9_copyFrom_100 rfl (lv_at hl 1 rfl) ?_
  refine gk_get (ci := 8) (C := RX9) (T := TX9) (N := 12) hx hb hts u_ws_X9 hown hK hH 1 rfl rfl 7 (by decide) u_fl_X9_34 rfl dX9_copyFrom_101 ?_
  refine gk_put (ci := 8) (C := RX9) (T := TX9) (N := 12) hx hb hts u_ws_X9 tyX9_ok nmX9 hown hK hH 0 rfl rfl 7 (by decide) u_fl_X9_34 rfl rfl rfl (by decide) dX9_copyFrom_104 [(a_t, .inr (8, [.int p1_units, .ref a_t_population, .ref a_t_area, .ref a_t_community, .ref a_t_outer, .ref a_t_neighbors, .ref a_t_lengths, .int p1_cores, v_t_districts, v_t_tolerance, v_t_hasPlan, .ref a_t_plan])), (a_p1, .inr (8, [.int p1_units, .ref a_p1_population, .ref a_p1_area, .ref a_p1_community, .ref a_p1_outer, .ref a_p1_neighbors, .ref a_p1_lengths, .int p1_cores, .int p1_districts, .int p1_tolerance, .int p1_hasPlan, .ref a_p1_plan])), (a_p1_population, .inl (k 0, 12, .inl p1_population)), (a_t_population, .inl (k 0, 12, .inl (va_cpy p1_population t_population 0 0 (12 : Int32).toNatClampNeg))), (a_p1_area, .inl (k 0, 12, .inl p1_area)), (a_t_area, .inl (k 0, 12, .inl (va_cpy p1_area t_area 0 0 (12 : Int32).toNatClampNeg))), (a_p1_community, .inl (k 0, 12, .inl p1_community)), (a_t_community, .inl (k 0, 12, .inl (va_cpy p1_community t_community 0 0 (12 : Int32).toNatClampNeg))), (a_p1_outer, .inl (k 0, 12, .inl p1_outer)), (a_t_outer, .inl (k 0, 12, .inl (va_cpy p1_outer t_outer 0 0 (12 : Int32).toNatClampNeg))), (a_p1_neighbors, .inl (k 0, 12, .inl p1_neighbors)), (a_t_neighbors, .inl (k 0, 12, .inl (va_cpy p1_neighbors t_neighbors 0 0 (12 : Int32).toNatClampNeg))), (a_p1_lengths, .inl (k 0, 144, .inl p1_lengths)), (a_t_lengths, .inl (k 0, 144, .inl (va_cpy p1_lengths t_lengths 0 0 (144 : Int32).toNatClampNeg))), (a_t_plan, .inr (4, [.ref a_t_plan_places, .ref a_t_plan_sets])), (a_p1_plan, .inr (4, [.ref a_p1_plan_places, .ref a_p1_plan_sets])), (a_p1_plan_places, .inl (k 0, 12, .inl p1_plan_places)), (a_t_plan_places, .inl (k 0, 12, .inl t_plan_places)), (a_p1_plan_sets, .inl (k 0, 4, .inl p1_plan_sets)), (a_t_plan_sets, .inl (k 0, 4, .inl t_plan_sets))] rfl (fun H locs hH => ?_)
  refine lv_aload_n hx hb dX9_copyFrom_107 rfl (lv_at hl 0 rfl) ?_
  refine lv_aload_n hx hb dX9_copyFrom_108 rfl (lv_at hl 1 rfl) ?_
  refine gk_get (ci := 8) (C := RX9) (T := TX9) (N := 12) hx hb hts u_ws_X9 hown hK hH 1 rfl rfl 8 (by decide) u_fl_X9_37 rfl dX9_copyFrom_109 ?_
  refine gk_put (ci := 8) (C := RX9) (T := TX9) (N := 12) hx hb hts u_ws_X9 tyX9_ok nmX9 hown hK hH 0 rfl rfl 8 (by decide) u_fl_X9_37 rfl rfl rfl (by decide) dX9_copyFrom_112 [(a_t, .inr (8, [.int p1_units, .ref a_t_population, .ref a_t_area, .ref a_t_community, .ref a_t_outer, .ref a_t_neighbors, .ref a_t_lengths, .int p1_cores, .int p1_districts, v_t_tolerance, v_t_hasPlan, .ref a_t_plan])), (a_p1, .inr (8, [.int p1_units, .ref a_p1_population, .ref a_p1_area, .ref a_p1_community, .ref a_p1_outer, .ref a_p1_neighbors, .ref a_p1_lengths, .int p1_cores, .int p1_districts, .int p1_tolerance, .int p1_hasPlan, .ref a_p1_plan])), (a_p1_population, .inl (k 0, 12, .inl p1_population)), (a_t_population, .inl (k 0, 12, .inl (va_cpy p1_population t_population 0 0 (12 : Int32).toNatClampNeg))), (a_p1_area, .inl (k 0, 12, .inl p1_area)), (a_t_area, .inl (k 0, 12, .inl (va_cpy p1_area t_area 0 0 (12 : Int32).toNatClampNeg))), (a_p1_community, .inl (k 0, 12, .inl p1_community)), (a_t_community, .inl (k 0, 12, .inl (va_cpy p1_community t_community 0 0 (12 : Int32).toNatClampNeg))), (a_p1_outer, .inl (k 0, 12, .inl p1_outer)), (a_t_outer, .inl (k 0, 12, .inl (va_cpy p1_outer t_outer 0 0 (12 : Int32).toNatClampNeg))), (a_p1_neighbors, .inl (k 0, 12, .inl p1_neighbors)), (a_t_neighbors, .inl (k 0, 12, .inl (va_cpy p1_neighbors t_neighbors 0 0 (12 : Int32).toNatClampNeg))), (a_p1_lengths, .inl (k 0, 144, .inl p1_lengths)), (a_t_lengths, .inl (k 0, 144, .inl (va_cpy p1_lengths t_lengths 0 0 (144 : Int32).toNatClampNeg))), (a_t_plan, .inr (4, [.ref a_t_plan_places, .ref a_t_plan_sets])), (a_p1_plan, .inr (4, [.ref a_p1_plan_places, .ref a_p1_plan_sets])), (a_p1_plan_places, .inl (k 0, 12, .inl p1_plan_places)), (a_t_plan_places, .inl (k 0, 12, .inl t_plan_places)), (a_p1_plan_sets, .inl (k 0, 4, .inl p1_plan_sets)), (a_t_plan_sets, .inl (k 0, 4, .inl t_plan_sets))] rfl (fun H locs hH => ?_)
  refine lv_aload_n hx hb dX9_copyFrom_115 rfl (lv_at hl 0 rfl) ?_
  refine lv_aload_n hx hb dX9_copyFrom_116 rfl (lv_at hl 1 rfl) ?_
  refine gk_get (ci := 8) (C := RX9) (T := TX9) (N := 12) hx hb hts u_ws_X9 hown hK hH 1 rfl rfl 9 (by decide) u_fl_X9_40 rfl dX9_copyFrom_117 ?_
  refine gk_put (ci := 8) (C := RX9) (T := TX9) (N := 12) hx hb hts u_ws_X9 tyX9_ok nmX9 hown hK hH 0 rfl rfl 9 (by decide) u_fl_X9_40 rfl rfl rfl (by decide) dX9_copyFrom_120 [(a_t, .inr (8, [.int p1_units, .ref a_t_population, .ref a_t_area, .ref a_t_community, .ref a_t_outer, .ref a_t_neighbors, .ref a_t_lengths, .int p1_cores, .int p1_districts, .int p1_tolerance, v_t_hasPlan, .ref a_t_plan])), (a_p1, .inr (8, [.int p1_units, .ref a_p1_population, .ref a_p1_area, .ref a_p1_community, .ref a_p1_outer, .ref a_p1_neighbors, .ref a_p1_lengths, .int p1_cores, .int p1_districts, .int p1_tolerance, .int p1_hasPlan, .ref a_p1_plan])), (a_p1_population, .inl (k 0, 12, .inl p1_population)), (a_t_population, .inl (k 0, 12, .inl (va_cpy p1_population t_population 0 0 (12 : Int32).toNatClampNeg))), (a_p1_area, .inl (k 0, 12, .inl p1_area)), (a_t_area, .inl (k 0, 12, .inl (va_cpy p1_area t_area 0 0 (12 : Int32).toNatClampNeg))), (a_p1_community, .inl (k 0, 12, .inl p1_community)), (a_t_community, .inl (k 0, 12, .inl (va_cpy p1_community t_community 0 0 (12 : Int32).toNatClampNeg))), (a_p1_outer, .inl (k 0, 12, .inl p1_outer)), (a_t_outer, .inl (k 0, 12, .inl (va_cpy p1_outer t_outer 0 0 (12 : Int32).toNatClampNeg))), (a_p1_neighbors, .inl (k 0, 12, .inl p1_neighbors)), (a_t_neighbors, .inl (k 0, 12, .inl (va_cpy p1_neighbors t_neighbors 0 0 (12 : Int32).toNatClampNeg))), (a_p1_lengths, .inl (k 0, 144, .inl p1_lengths)), (a_t_lengths, .inl (k 0, 144, .inl (va_cpy p1_lengths t_lengths 0 0 (144 : Int32).toNatClampNeg))), (a_t_plan, .inr (4, [.ref a_t_plan_places, .ref a_t_plan_sets])), (a_p1_plan, .inr (4, [.ref a_p1_plan_places, .ref a_p1_plan_sets])), (a_p1_plan_places, .inl (k 0, 12, .inl p1_plan_places)), (a_t_plan_places, .inl (k 0, 12, .inl t_plan_places)), (a_p1_plan_sets, .inl (k 0, 4, .inl p1_plan_sets)), (a_t_plan_sets, .inl (k 0, 4, .inl t_plan_sets))] rfl (fun H locs hH => ?_)
  refine lv_aload_n hx hb dX9_copyFrom_123 rfl (lv_at hl 0 rfl) ?_
  refine lv_aload_n hx hb dX9_copyFrom_124 rfl (lv_at hl 1 rfl) ?_
  refine gk_get (ci := 8) (C := RX9) (T := TX9) (N := 12) hx hb hts u_ws_X9 hown hK hH 1 rfl rfl 10 (by decide) u_fl_X9_43 rfl dX9_copyFrom_125 ?_
  obtain ⟨g1, h⟩ := dc_need h
  refine gk_put (ci := 8) (C := RX9) (T := TX9) (N := 12) hx hb hts u_ws_X9 tyX9_ok nmX9 hown hK hH 0 rfl rfl 10 (by decide) u_fl_X9_43 rfl (dk_bit g1).1 (dk_bit g1).2 (by decide) dX9_copyFrom_128 [(a_t, .inr (8, [.int p1_units, .ref a_t_population, .ref a_t_area, .ref a_t_community, .ref a_t_outer, .ref a_t_neighbors, .ref a_t_lengths, .int p1_cores, .int p1_districts, .int p1_tolerance, .int p1_hasPlan, .ref a_t_plan])), (a_p1, .inr (8, [.int p1_units, .ref a_p1_population, .ref a_p1_area, .ref a_p1_community, .ref a_p1_outer, .ref a_p1_neighbors, .ref a_p1_lengths, .int p1_cores, .int p1_districts, .int p1_tolerance, .int p1_hasPlan, .ref a_p1_plan])), (a_p1_population, .inl (k 0, 12, .inl p1_population)), (a_t_population, .inl (k 0, 12, .inl (va_cpy p1_population t_population 0 0 (12 : Int32).toNatClampNeg))), (a_p1_area, .inl (k 0, 12, .inl p1_area)), (a_t_area, .inl (k 0, 12, .inl (va_cpy p1_area t_area 0 0 (12 : Int32).toNatClampNeg))), (a_p1_community, .inl (k 0, 12, .inl p1_community)), (a_t_community, .inl (k 0, 12, .inl (va_cpy p1_community t_community 0 0 (12 : Int32).toNatClampNeg))), (a_p1_outer, .inl (k 0, 12, .inl p1_outer)), (a_t_outer, .inl (k 0, 12, .inl (va_cpy p1_outer t_outer 0 0 (12 : Int32).toNatClampNeg))), (a_p1_neighbors, .inl (k 0, 12, .inl p1_neighbors)), (a_t_neighbors, .inl (k 0, 12, .inl (va_cpy p1_neighbors t_neighbors 0 0 (12 : Int32).toNatClampNeg))), (a_p1_lengths, .inl (k 0, 144, .inl p1_lengths)), (a_t_lengths, .inl (k 0, 144, .inl (va_cpy p1_lengths t_lengths 0 0 (144 : Int32).toNatClampNeg))), (a_t_plan, .inr (4, [.ref a_t_plan_places, .ref a_t_plan_sets])), (a_p1_plan, .inr (4, [.ref a_p1_plan_places, .ref a_p1_plan_sets])), (a_p1_plan_places, .inl (k 0, 12, .inl p1_plan_places)), (a_t_plan_places, .inl (k 0, 12, .inl t_plan_places)), (a_p1_plan_sets, .inl (k 0, 4, .inl p1_plan_sets)), (a_t_plan_sets, .inl (k 0, 4, .inl t_plan_sets))] rfl (fun H locs hH => ?_)
  refine lv_aload_n hx hb dX9_copyFrom_131 rfl (lv_at hl 0 rfl) ?_
  refine gk_get (ci := 8) (C := RX9) (T := TX9) (N := 12) hx hb hts u_ws_X9 hown hK hH 0 rfl rfl 11 (by decide) u_fl_X9_50 rfl dX9_copyFrom_132 ?_
  refine lv_aload_n hx hb dX9_copyFrom_135 rfl (lv_at hl 1 rfl) ?_
  refine gk_get (ci := 8) (C := RX9) (T := TX9) (N := 12) hx hb hts u_ws_X9 hown hK hH 1 rfl rfl 11 (by decide) u_fl_X9_50 rfl dX9_copyFrom_136 ?_
  obtain ⟨q2, hqq2, h⟩ := dc_bind h
  refine gc_Vv (ws' := [(a_t, .inr (8, [.int p1_units, .ref a_t_population, .ref a_t_area, .ref a_t_community, .ref a_t_outer, .ref a_t_neighbors, .ref a_t_lengths, .int p1_cores, .int p1_districts, .int p1_tolerance, .int p1_hasPlan, .ref a_t_plan])), (a_p1, .inr (8, [.int p1_units, .ref a_p1_population, .ref a_p1_area, .ref a_p1_community, .ref a_p1_outer, .ref a_p1_neighbors, .ref a_p1_lengths, .int p1_cores, .int p1_districts, .int p1_tolerance, .int p1_hasPlan, .ref a_p1_plan])), (a_p1_population, .inl (k 0, 12, .inl p1_population)), (a_t_population, .inl (k 0, 12, .inl (va_cpy p1_population t_population 0 0 (12 : Int32).toNatClampNeg))), (a_p1_area, .inl (k 0, 12, .inl p1_area)), (a_t_area, .inl (k 0, 12, .inl (va_cpy p1_area t_area 0 0 (12 : Int32).toNatClampNeg))), (a_p1_community, .inl (k 0, 12, .inl p1_community)), (a_t_community, .inl (k 0, 12, .inl (va_cpy p1_community t_community 0 0 (12 : Int32).toNatClampNeg))), (a_p1_outer, .inl (k 0, 12, .inl p1_outer)), (a_t_outer, .inl (k 0, 12, .inl (va_cpy p1_outer t_outer 0 0 (12 : Int32).toNatClampNeg))), (a_p1_neighbors, .inl (k 0, 12, .inl p1_neighbors)), (a_t_neighbors, .inl (k 0, 12, .inl (va_cpy p1_neighbors t_neighbors 0 0 (12 : Int32).toNatClampNeg))), (a_p1_lengths, .inl (k 0, 144, .inl p1_lengths)), (a_t_lengths, .inl (k 0, 144, .inl (va_cpy p1_lengths t_lengths 0 0 (144 : Int32).toNatClampNeg))), (a_t_plan, .inr (4, [.ref a_t_plan_places, .ref a_t_plan_sets])), (a_p1_plan, .inr (4, [.ref a_p1_plan_places, .ref a_p1_plan_sets])), (a_p1_plan_places, .inl (k 0, 12, .inl p1_plan_places)), (a_t_plan_places, .inl (k 0, 12, .inl q2.1)), (a_p1_plan_sets, .inl (k 0, 4, .inl p1_plan_sets)), (a_t_plan_sets, .inl (k 0, 4, .inl q2.2))]) (isC := [14, 15, 16, 17, 18, 19]) (isR := [0, 1, 2, 3, 4, 5, 6, 7, 8, 9, 10, 11, 12, 13]) (As := [.ref a_p1_plan]) (rest := []) (n := 1) (ci := 4) (cq := (RX4, TX4, 2)) hTs ⟨hx, hb, hml, hown, hts⟩ (mX4_copyFrom l Ts hTs D k H.size a_p1_plan a_t_plan a_t_plan_places a_t_plan_sets a_p1_plan_places a_p1_plan_sets p1_plan_places p1_plan_sets t_plan_places t_plan_sets q2 hqq2) u_ml_X9_60 u_im_X4_copyFrom u_se_X4_copyFrom u_in_X4 u_co_X4_copyFrom hd_X4_copyFrom ⟨Nat.le_of_ble_eq_true rfl, Nat.le_of_ble_eq_true rfl⟩ ⟨rfl, rfl⟩ hK hH hA ⟨rfl, rfl, rfl, rfl, rfl, rfl⟩ rfl rfl rfl rfl hl.1 (by decide) dX9_copyFrom_139 ⟨Nat.le_of_ble_eq_true rfl, Nat.le_of_ble_eq_true rfl⟩ (fun H locs hH => ?_)
  have h := Option.some.inj h
  subst h
  exact ge_v hx hb hr hlocks hQ hK hH hAe dX9_copyFrom_142
theorem hd_X5_isMissing : yX5_isMissing.cls = RX5 ∧ yX5_isMissing.cls ≠ "java/lang/invoke/MethodHandle" ∧ yX5_isMissing.cls ≠ "java/lang/invoke/VarHandle" ∧ (parseMethodDescriptor yX5_isMissing.desc).map (fun d => d.parameters.length) = some 0 := by decide +kernel
set_option maxHeartbeats 4000000 in
set_option maxRecDepth 100000 in
theorem mX5_isMissing (l : Launch) (Ts : List Cond) (hTs : ∀ w, w ∈ Ts ↔ w ∈ uT) (D : va_G) (k : Nat → ClassId) (sz : Nat) (a_t : Nat) (a_t_whole : Nat) (a_t_rough : Nat) (t_size : Int32) (v_t_isExact : Value) (r : Int32) (h : fX5_isMissing t_size = some r) : Met l yX5_isMissing (Cond.code yX5_isMissing cX5_isMissing 1 (some .boolean) :: Ts) ({ frames := 0, cells := 0, slots := 0, locals := 0 } : Room) (preM D k [.ref a_t] [(a_t, .inr (5, [.ref a_t_whole, .ref a_t_rough, .int t_size, v_t_isExact]))] sz) (postI D k r [(a_t, .inr (5, [.ref a_t_whole, .ref a_t_rough, .int t_size, v_t_isExact]))] [(a_t, .inr (5, [.ref a_t_whole, .ref a_t_rough, .int t_size, v_t_isExact]))] sz) 0 0 (va_A [(a_t, .inr (5, [.ref a_t_whole, .ref a_t_rough, .int t_size, v_t_isExact]))] sz) := by
  refine Met.ofW (cc := cX5_isMissing) (maxL := 1) (ret := (some .boolean)) (by decide) rfl ?_
  intro p e s m args below meth c s₁ B hml hv
  obtain ⟨rfl, hsz, hP, hK, hD0⟩ := hv
  have hx := B.exec
  have hb := B.bytes
  have hr := B.returns
  have hts0 := atoms_spec (ws := (Cond.code yX5_isMissing cX5_isMissing 1 (some .boolean) :: Ts)) B.pre
  have hts : ∀ w ∈ uT, w.before _ s = true := fun w h => hts0 w (List.mem_cons_of_mem _ ((hTs w).mpr h))
  clear hts0
  have hown : s.vm.findClass RX5 = some m.cls := findClass_of_methodNamed B.named
  have hlocks := B.notSynchronized
  subst hsz
  have hD := hD0.self (sz := s.heap.size)
  generalize hAe : va_A [(a_t, .inr (5, [.ref a_t_whole, .ref a_t_rough, .int t_size, v_t_isExact]))] s.heap.size = A at hD ⊢
  have hA : ∀ q : Nat, s.heap.size ≤ q → A q := fun q h => by rw [← hAe]; exact Or.inr h
  have hH : HOK D A s.heap [(a_t, .inr (5, [.ref a_t_whole, .ref a_t_rough, .int t_size, v_t_isExact]))] s.heap [] := ⟨hP, hD, va_S.rf⟩
  have hl := lv_entry ([.ref a_t]) (n := 1) (Nat.le_of_ble_eq_true rfl)
  rw [lg_entry_eq]
  generalize (lg_sl ([.ref a_t]) ++ List.replicate (1 - (lg_sl ([.ref a_t])).length) Slot.unset).toArray = ls at hl ⊢
  have hl : lv_has ls 1 [(0, .ref a_t)] := hl
  generalize hQ : MQ below (postI D k r [(a_t, .inr (5, [.ref a_t_whole, .ref a_t_rough, .int t_size, v_t_isExact]))] [(a_t, .inr (5, [.ref a_t_whole, .ref a_t_rough, .int t_size, v_t_isExact]))] s.heap.size) (List.toArray [.ref a_t]) s 0 0 A = Q
  clear hP hD hD0
  suffices K : ∀ (H : Heap) (locs : List Loc), HOK D A s.heap [(a_t, .inr (5, [.ref a_t_whole, .ref a_t_rough, .int t_size, v_t_isExact]))] H locs → W p l e ({ frames := 0, cells := 0, slots := 0, locals := 0 } : Room) s m (List.toArray [.ref a_t]) below meth c H locs 0 0 Q (F0 m 0 ls []) from K s.heap [] hH
  intro H locs hH
  rw [fX5_isMissing] at h
  refine lv_aload_n hx hb dX5_isMissing_0 rfl (lv_at hl 0 rfl) ?_
  refine gk_get (ci := 5) (C := RX5) (T := TX5) (N := 4) hx hb hts u_ws_X5 hown hK hH 0 rfl rfl 2 (by decide) u_fl_X5_19 rfl dX5_isMissing_1 ?_
  refine lv_if_ne (tgt := 11) hx hb dX5_isMissing_4 (by decide) (fun c1 => ?_) (fun c1 => ?_)
  · replace h := dc_neg c1 h
    refine lv_iconst (v := 0) hx hb dX5_isMissing_11 (by decide) ?_
    have h := Option.some.inj h
    subst h
    exact ge_z hx hb hr rfl hlocks hQ hK hH hAe rfl dX5_isMissing_12
  · replace h := dc_pos c1 h
    refine lv_iconst (v := 1) hx hb dX5_isMissing_7 (by decide) ?_
    refine lv_goto (tgt := 12) hx hb dX5_isMissing_8 (by decide) ?_
    have h := Option.some.inj h
    subst h
    exact ge_z hx hb hr rfl hlocks hQ hK hH hAe rfl dX5_isMissing_12
theorem hd_X5_takeFrom : yX5_takeFrom.cls = RX5 ∧ yX5_takeFrom.cls ≠ "java/lang/invoke/MethodHandle" ∧ yX5_takeFrom.cls ≠ "java/lang/invoke/VarHandle" ∧ (parseMethodDescriptor yX5_takeFrom.desc).map (fun d => d.parameters.length) = some 2 := by decide +kernel
set_option maxHeartbeats 4000000 in
set_option maxRecDepth 100000 in
theorem mX5_takeFrom (l : Launch) (Ts : List Cond) (hTs : ∀ w, w ∈ Ts ↔ w ∈ uT) (D : va_G) (k : Nat → ClassId) (sz : Nat) (a_p1 : Nat) (a_t : Nat) (a_t_whole : Nat) (a_t_rough : Nat) (a_p1_population : Nat) (a_p1_area : Nat) (a_p1_community : Nat) (a_p1_outer : Nat) (a_p1_neighbors : Nat) (a_p1_lengths : Nat) (a_p1_plan : Nat) (a_p1_plan_places : Nat) (a_p1_plan_sets : Nat) (p1_area : Nat → Int32) (p1_districts : Int32) (p1_lengths : Nat → Int32) (p1_outer : Nat → Int32) (p1_plan_sets : Nat → Int32) (p1_population : Nat → Int32) (p1_units : Int32) (t_rough : Nat → UInt32) (t_whole : Nat → Int32) (v_p1_cores : Value) (v_p1_hasPlan : Value) (v_p1_tolerance : Value) (v_t_isExact : Value) (v_t_size : Value) (x2 : Int32) (r : Int32 × (Nat → UInt32) × Int32 × (Nat → Int32)) (h : fX5_takeFrom p1_area p1_districts p1_lengths p1_outer p1_plan_sets p1_population p1_units t_rough t_whole x2 = some r) : Met l yX5_takeFrom (Cond.code yX5_takeFrom cX5_takeFrom 5 none :: Ts) ({ frames := 3, cells := 0, slots := 0, locals := 69 } : Room) (preM D k [.ref a_t, .ref a_p1, .int x2] [(a_t, .inr (5, [.ref a_t_whole, .ref a_t_rough, v_t_size, v_t_isExact])), (a_p1, .inr (8, [.int p1_units, .ref a_p1_population, .ref a_p1_area, .ref a_p1_community, .ref a_p1_outer, .ref a_p1_neighbors, .ref a_p1_lengths, v_p1_cores, .int p1_districts, v_p1_tolerance, v_p1_hasPlan, .ref a_p1_plan])), (a_p1_plan, .inr (4, [.ref a_p1_plan_places, .ref a_p1_plan_sets])), (a_p1_plan_sets, .inl (k 0, 4, .inl p1_plan_sets)), (a_p1_outer, .inl (k 0, 12, .inl p1_outer)), (a_p1_lengths, .inl (k 0, 144, .inl p1_lengths)), (a_p1_area, .inl (k 0, 12, .inl p1_area)), (a_t_rough, .inl (k 3, 4, .inr (.inr (.inl t_rough)))), (a_p1_population, .inl (k 0, 12, .inl p1_population)), (a_t_whole, .inl (k 0, 4, .inl t_whole))] sz) (postV D k [(a_t, .inr (5, [.ref a_t_whole, .ref a_t_rough, v_t_size, v_t_isExact])), (a_p1, .inr (8, [.int p1_units, .ref a_p1_population, .ref a_p1_area, .ref a_p1_community, .ref a_p1_outer, .ref a_p1_neighbors, .ref a_p1_lengths, v_p1_cores, .int p1_districts, v_p1_tolerance, v_p1_hasPlan, .ref a_p1_plan])), (a_p1_plan, .inr (4, [.ref a_p1_plan_places, .ref a_p1_plan_sets])), (a_p1_plan_sets, .inl (k 0, 4, .inl p1_plan_sets)), (a_p1_outer, .inl (k 0, 12, .inl p1_outer)), (a_p1_lengths, .inl (k 0, 144, .inl p1_lengths)), (a_p1_area, .inl (k 0, 12, .inl p1_area)), (a_t_rough, .inl (k 3, 4, .inr (.inr (.inl t_rough)))), (a_p1_population, .inl (k 0, 12, .inl p1_population)), (a_t_whole, .inl (k 0, 4, .inl t_whole))] [(a_t, .inr (5, [.ref a_t_whole, .ref a_t_rough, .int r.2.2.1, .int r.1])), (a_p1, .inr (8, [.int p1_units, .ref a_p1_population, .ref a_p1_area, .ref a_p1_community, .ref a_p1_outer, .ref a_p1_neighbors, .ref a_p1_lengths, v_p1_cores, .int p1_districts, v_p1_tolerance, v_p1_hasPlan, .ref a_p1_plan])), (a_p1_plan, .inr (4, [.ref a_p1_plan_places, .ref a_p1_plan_sets])), (a_p1_plan_sets, .inl (k 0, 4, .inl p1_plan_sets)), (a_p1_outer, .inl (k 0, 12, .inl p1_outer)), (a_p1_lengths, .inl (k 0, 144, .inl p1_lengths)), (a_p1_area, .inl (k 0, 12, .inl p1_area)), (a_t_rough, .inl (k 3, 4, .inr (.inr (.inl r.2.1)))), (a_p1_population, .inl (k 0, 12, .inl p1_population)), (a_t_whole, .inl (k 0, 4, .inl r.2.2.2))] sz) 0 0 (va_A [(a_t, .inr (5, [.ref a_t_whole, .ref a_t_rough, v_t_size, v_t_isExact])), (a_p1, .inr (8, [.int p1_units, .ref a_p1_population, .ref a_p1_area, .ref a_p1_community, .ref a_p1_outer, .ref a_p1_neighbors, .ref a_p1_lengths, v_p1_cores, .int p1_districts, v_p1_tolerance, v_p1_hasPlan, .ref a_p1_plan])), (a_p1_plan, .inr (4, [.ref a_p1_plan_places, .ref a_p1_plan_sets])), (a_p1_plan_sets, .inl (k 0, 4, .inl p1_plan_sets)), (a_p1_outer, .inl (k 0, 12, .inl p1_outer)), (a_p1_lengths, .inl (k 0, 144, .inl p1_lengths)), (a_p1_area, .inl (k 0, 12, .inl p1_area)), (a_t_rough, .inl (k 3, 4, .inr (.inr (.inl t_rough)))), (a_p1_population, .inl (k 0, 12, .inl p1_population)), (a_t_whole, .inl (k 0, 4, .inl t_whole))] sz) := by
  refine Met.ofW (cc := cX5_takeFrom) (maxL := 5) (ret := none) (by decide) rfl ?_
  intro p e s m args below meth c s₁ B hml hv
  obtain ⟨rfl, hsz, hP, hK, hD0⟩ := hv
  have hx := B.exec
  have hb := B.bytes
  have hr := B.returns
  have hts0 := atoms_spec (ws := (Cond.code yX5_takeFrom cX5_takeFrom 5 none :: Ts)) B.pre
  have hts : ∀ w ∈ uT, w.before _ s = true := fun w h => hts0 w (List.mem_cons_of_mem _ ((hTs w).mpr h))
  clear hts0
  have hown : s.vm.findClass RX5 = some m.cls := findClass_of_methodNamed B.named
  have hlocks := B.notSynchronized
  subst hsz
  have hD := hD0.self (sz := s.heap.size)
  generalize hAe : va_A [(a_t, .inr (5, [.ref a_t_whole, .ref a_t_rough, v_t_size, v_t_isExact])), (a_p1, .inr (8, [.int p1_units, .ref a_p1_population, .ref a_p1_area, .ref a_p1_community, .ref a_p1_outer, .ref a_p1_neighbors, .ref a_p1_lengths, v_p1_cores, .int p1_districts, v_p1_tolerance, v_p1_hasPlan, .ref a_p1_plan])), (a_p1_plan, .inr (4, [.ref a_p1_plan_places, .ref a_p1_plan_sets])), (a_p1_plan_sets, .inl (k 0, 4, .inl p1_plan_sets)), (a_p1_outer, .inl (k 0, 12, .inl p1_outer)), (a_p1_lengths, .inl (k 0, 144, .inl p1_lengths)), (a_p1_area, .inl (k 0, 12, .inl p1_area)), (a_t_rough, .inl (k 3, 4, .inr (.inr (.inl t_rough)))), (a_p1_population, .inl (k 0, 12, .inl p1_population)), (a_t_whole, .inl (k 0, 4, .inl t_whole))] s.heap.size = A at hD ⊢
  have hA : ∀ q : Nat, s.heap.size ≤ q → A q := fun q h => by rw [← hAe]; exact Or.inr h
  have hH : HOK D A s.heap [(a_t, .inr (5, [.ref a_t_whole, .ref a_t_rough, v_t_size, v_t_isExact])), (a_p1, .inr (8, [.int p1_units, .ref a_p1_population, .ref a_p1_area, .ref a_p1_community, .ref a_p1_outer, .ref a_p1_neighbors, .ref a_p1_lengths, v_p1_cores, .int p1_districts, v_p1_tolerance, v_p1_hasPlan, .ref a_p1_plan])), (a_p1_plan, .inr (4, [.ref a_p1_plan_places, .ref a_p1_plan_sets])), (a_p1_plan_sets, .inl (k 0, 4, .inl p1_plan_sets)), (a_p1_outer, .inl (k 0, 12, .inl p1_outer)), (a_p1_lengths, .inl (k 0, 144, .inl p1_lengths)), (a_p1_area, .inl (k 0, 12, .inl p1_area)), (a_t_rough, .inl (k 3, 4, .inr (.inr (.inl t_rough)))), (a_p1_population, .inl (k 0, 12, .inl p1_population)), (a_t_whole, .inl (k 0, 4, .inl t_whole))] s.heap [] := ⟨hP, hD, va_S.rf⟩
  have hl := lv_entry ([.ref a_t, .ref a_p1, .int x2]) (n := 5) (Nat.le_of_ble_eq_true rfl)
  rw [lg_entry_eq]
  generalize (lg_sl ([.ref a_t, .ref a_p1, .int x2]) ++ List.replicate (5 - (lg_sl ([.ref a_t, .ref a_p1, .int x2])).length) Slot.unset).toArray = ls at hl ⊢
  have hl : lv_has ls 5 [(0, .ref a_t), (1, .ref a_p1), (2, .int x2)] := hl
  generalize hQ : MQ below (postV D k [(a_t, .inr (5, [.ref a_t_whole, .ref a_t_rough, v_t_size, v_t_isExact])), (a_p1, .inr (8, [.int p1_units, .ref a_p1_population, .ref a_p1_area, .ref a_p1_community, .ref a_p1_outer, .ref a_p1_neighbors, .ref a_p1_lengths, v_p1_cores, .int p1_districts, v_p1_tolerance, v_p1_hasPlan, .ref a_p1_plan])), (a_p1_plan, .inr (4, [.ref a_p1_plan_places, .ref a_p1_plan_sets])), (a_p1_plan_sets, .inl (k 0, 4, .inl p1_plan_sets)), (a_p1_outer, .inl (k 0, 12, .inl p1_outer)), (a_p1_lengths, .inl (k 0, 144, .inl p1_lengths)), (a_p1_area, .inl (k 0, 12, .inl p1_area)), (a_t_rough, .inl (k 3, 4, .inr (.inr (.inl t_rough)))), (a_p1_population, .inl (k 0, 12, .inl p1_population)), (a_t_whole, .inl (k 0, 4, .inl t_whole))] [(a_t, .inr (5, [.ref a_t_whole, .ref a_t_rough, .int r.2.2.1, .int r.1])), (a_p1, .inr (8, [.int p1_units, .ref a_p1_population, .ref a_p1_area, .ref a_p1_community, .ref a_p1_outer, .ref a_p1_neighbors, .ref a_p1_lengths, v_p1_cores, .int p1_districts, v_p1_tolerance, v_p1_hasPlan, .ref a_p1_plan])), (a_p1_plan, .inr (4, [.ref a_p1_plan_places, .ref a_p1_plan_sets])), (a_p1_plan_sets, .inl (k 0, 4, .inl p1_plan_sets)), (a_p1_outer, .inl (k 0, 12, .inl p1_outer)), (a_p1_lengths, .inl (k 0, 144, .inl p1_lengths)), (a_p1_area, .inl (k 0, 12, .inl p1_area)), (a_t_rough, .inl (k 3, 4, .inr (.inr (.inl r.2.1)))), (a_p1_population, .inl (k 0, 12, .inl p1_population)), (a_t_whole, .inl (k 0, 4, .inl r.2.2.2))] s.heap.size) (List.toArray [.ref a_t, .ref a_p1, .int x2]) s 0 0 A = Q
  clear hP hD hD0
  suffices K : ∀ (H : Heap) (locs : List Loc), HOK D A s.heap [(a_t, .inr (5, [.ref a_t_whole, .ref a_t_rough, v_t_size, v_t_isExact])), (a_p1, .inr (8, [.int p1_units, .ref a_p1_population, .ref a_p1_area, .ref a_p1_community, .ref a_p1_outer, .ref a_p1_neighbors, .ref a_p1_lengths, v_p1_cores, .int p1_districts, v_p1_tolerance, v_p1_hasPlan, .ref a_p1_plan])), (a_p1_plan, .inr (4, [.ref a_p1_plan_places, .ref a_p1_plan_sets])), (a_p1_plan_sets, .inl (k 0, 4, .inl p1_plan_sets)), (a_p1_outer, .inl (k 0, 12, .inl p1_outer)), (a_p1_lengths, .inl (k 0, 144, .inl p1_lengths)), (a_p1_area, .inl (k 0, 12, .inl p1_area)), (a_t_rough, .inl (k 3, 4, .inr (.inr (.inl t_rough)))), (a_p1_population, .inl (k 0, 12, .inl p1_population)), (a_t_whole, .inl (k 0, 4, .inl t_whole))] H locs → W p l e ({ frames := 3, cells := 0, slots := 0, locals := 69 } : Room) s m (List.toArray [.ref a_t, .ref a_p1, .int x2]) below meth c H locs 0 0 Q (F0 m 0 ls []) from K s.heap [] hH
  intro H locs hH
  have L15 : ∀ (y15_t_isExact : Int32) (y15_t_size : Int32) (n : Nat), ∀ (kf : (Nat → UInt32) → (Nat → Int32) → Option (Int32 × (Nat → UInt32) × Int32 × (Nat → Int32))) (y15_3 : Int32) (y15_t_rough : Nat → UInt32) (y15_t_whole : Nat → Int32), fX5_takeFrom_L15 p1_area p1_lengths p1_outer p1_plan_sets p1_population p1_units x2 y15_t_isExact y15_t_size n kf y15_3 y15_t_rough y15_t_whole = some r → (∀ (z15_t_rough : Nat → UInt32) (z15_t_whole : Nat → Int32) (H : Heap) (locs : List Loc) (ls : Array Slot), kf z15_t_rough z15_t_whole = some r → HOK D A s.heap [(a_t, .inr (5, [.ref a_t_whole, .ref a_t_rough, .int y15_t_size, .int y15_t_isExact])), (a_p1, .inr (8, [.int p1_units, .ref a_p1_population, .ref a_p1_area, .ref a_p1_community, .ref a_p1_outer, .ref a_p1_neighbors, .ref a_p1_lengths, v_p1_cores, .int p1_districts, v_p1_tolerance, v_p1_hasPlan, .ref a_p1_plan])), (a_p1_plan, .inr (4, [.ref a_p1_plan_places, .ref a_p1_plan_sets])), (a_p1_plan_sets, .inl (k 0, 4, .inl p1_plan_sets)), (a_p1_outer, .inl (k 0, 12, .inl p1_outer)), (a_p1_lengths, .inl (k 0, 144, .inl p1_lengths)), (a_p1_area, .inl (k 0, 12, .inl p1_area)), (a_t_rough, .inl (k 3, 4, .inr (.inr (.inl z15_t_rough)))), (a_p1_population, .inl (k 0, 12, .inl p1_population)), (a_t_whole, .inl (k 0, 4, .inl z15_t_whole))] H locs → lv_has ls 5 [] → W p l e ({ frames := 3, cells := 0, slots := 0, locals := 69 } : Room) s m (List.toArray [.ref a_t, .ref a_p1, .int x2]) below meth c H locs 0 0 Q (F0 m 71 ls [])) → ∀ (H : Heap) (locs : List Loc) (ls : Array Slot), HOK D A s.heap [(a_t, .inr (5, [.ref a_t_whole, .ref a_t_rough, .int y15_t_size, .int y15_t_isExact])), (a_p1, .inr (8, [.int p1_units, .ref a_p1_population, .ref a_p1_area, .ref a_p1_community, .ref a_p1_outer, .ref a_p1_neighbors, .ref a_p1_lengths, v_p1_cores, .int p1_districts, v_p1_tolerance, v_p1_hasPlan, .ref a_p1_plan])), (a_p1_plan, .inr (4, [.ref a_p1_plan_places, .ref a_p1_plan_sets])), (a_p1_plan_sets, .inl (k 0, 4, .inl p1_plan_sets)), (a_p1_outer, .inl (k 0, 12, .inl p1_outer)), (a_p1_lengths, .inl (k 0, 144, .inl p1_lengths)), (a_p1_area, .inl (k 0, 12, .inl p1_area)), (a_t_rough, .inl (k 3, 4, .inr (.inr (.inl y15_t_rough)))), (a_p1_population, .inl (k 0, 12, .inl p1_population)), (a_t_whole, .inl (k 0, 4, .inl y15_t_whole))] H locs → lv_has ls 5 [(0, .ref a_t), (1, .ref a_p1), (2, .int x2), (3, .int y15_3)] → W p l e ({ frames := 3, cells := 0, slots := 0, locals := 69 } : Room) s m (List.toArray [.ref a_t, .ref a_p1, .int x2]) below meth c H locs 0 0 Q (F0 m 15 ls []) := by
    intro y15_t_isExact y15_t_size n
    induction n with
    | zero =>
      intro kf y15_3 y15_t_rough y15_t_whole h
      exact absurd h (by rw [fX5_takeFrom_L15]; exact fun q => by cases q)
    | succ n ih =>
      intro kf y15_3 y15_t_rough y15_t_whole h kk H locs ls hH hl
      rw [fX5_takeFrom_L15] at h
      refine lv_iload_n hx hb dX5_takeFrom_15 rfl (lv_at hl 3 rfl) ?_
      refine lv_aload_n hx hb dX5_takeFrom_16 rfl (lv_at hl 0 rfl) ?_
      refine gk_get (ci := 5) (C := RX5) (T := TX5) (N := 4) hx hb hts u_ws_X5 hown hK hH 0 rfl rfl 2 (by decide) u_fl_X5_19 rfl dX5_takeFrom_17 ?_
      refine lv_icmp_ge (tgt := 71) hx hb dX5_takeFrom_20 (by decide) (fun c2 => ?_) (fun c2 => ?_)
      · replace h := dc_pos c2 h
        exact kk y15_t_rough y15_t_whole H locs ls h hH (lv_sub hl [] rfl)
      · replace h := dc_neg c2 h
        refine lv_aload_n hx hb dX5_takeFrom_23 rfl (lv_at hl 1 rfl) ?_
        refine gk_get (ci := 8) (C := RX9) (T := TX9) (N := 12) hx hb hts u_ws_X9 hown hK hH 1 rfl rfl 11 (by decide) u_fl_X5_32 rfl dX5_takeFrom_24 ?_
        refine gk_get (ci := 4) (C := RX4) (T := TX4) (N := 2) hx hb hts u_ws_X4 hown hK hH 2 rfl rfl 1 (by decide) u_fl_X5_36 rfl dX5_takeFrom_27 ?_
        refine lv_iload_n hx hb dX5_takeFrom_30 rfl (lv_at hl 3 rfl) ?_
        obtain ⟨g3, h⟩ := dc_need h
        refine gk_iald hx hb hK hH 3 rfl (dk_in g3) dX5_takeFrom_31 ?_
        refine lv_istore (lv' := [(4, .int (p1_plan_sets y15_3.toNatClampNeg)), (0, .ref a_t), (1, .ref a_p1), (2, .int x2), (3, .int y15_3)]) hx hb dX5_takeFrom_32 hl (by decide) rfl (fun ls hl => ?_)
        refine lv_iload_n hx hb dX5_takeFrom_34 rfl (lv_at hl 3 rfl) ?_
        refine lv_if_eq (tgt := 53) hx hb dX5_takeFrom_35 (by decide) (fun c4 => ?_) (fun c4 => ?_)
        · replace h := dc_pos c4 h
          refine lv_aload_n hx hb dX5_takeFrom_53 rfl (lv_at hl 1 rfl) ?_
          refine gk_get (ci := 5) (C := RX5) (T := TX5) (N := 4) hx hb hts u_ws_X5 hown hK hH 0 rfl rfl 1 (by decide) u_fl_X5_15 rfl dX5_takeFrom_54 ?_
          refine lv_iload_n hx hb dX5_takeFrom_57 rfl (lv_at hl 4 rfl) ?_
          refine lv_aload_n hx hb dX5_takeFrom_58 rfl (lv_at hl 2 rfl) ?_
          refine lv_iload hx hb dX5_takeFrom_59 (lv_at hl 0 rfl) ?_
          obtain ⟨q5, hqq5, h⟩ := dc_bind h
          refine gc_Sf (ws' := [(a_t, .inr (5, [.ref a_t_whole, .ref a_t_rough, .int y15_t_size, .int y15_t_isExact])), (a_p1, .inr (8, [.int p1_units, .ref a_p1_population, .ref a_p1_area, .ref a_p1_community, .ref a_p1_outer, .ref a_p1_neighbors, .ref a_p1_lengths, v_p1_cores, .int p1_districts, v_p1_tolerance, v_p1_hasPlan, .ref a_p1_plan])), (a_p1_plan, .inr (4, [.ref a_p1_plan_places, .ref a_p1_plan_sets])), (a_p1_plan_sets, .inl (k 0, 4, .inl p1_plan_sets)), (a_p1_outer, .inl (k 0, 12, .inl p1_outer)), (a_p1_lengths, .inl (k 0, 144, .inl p1_lengths)), (a_p1_area, .inl (k 0, 12, .inl p1_area)), (a_t_rough, .inl (k 3, 4, .inr (.inr (.inl y15_t_rough)))), (a_p1_population, .inl (k 0, 12, .inl p1_population)), (a_t_whole, .inl (k 0, 4, .inl y15_t_whole))]) (isC := [1, 4, 5, 6]) (isR := [0, 2, 3, 7, 8, 9]) (As := [.ref a_p1, .int (p1_plan_sets y15_3.toNatClampNeg)]) (rest := [.int y15_3, .ref a_t_rough]) (n := 2) hTs ⟨hx, hb, hml, hown, hts⟩ (mX6_roughCompactness l Ts hTs D k H.size a_p1 a_p1_population a_p1_area a_p1_community a_p1_outer a_p1_neighbors a_p1_lengths a_p1_plan p1_area p1_lengths p1_outer p1_units v_p1_cores (.int p1_districts) v_p1_hasPlan v_p1_tolerance (p1_plan_sets y15_3.toNatClampNeg) q5 hqq5) u_ml_X5_45 u_st_X6_roughCompactness u_in_X6 u_co_X6_roughCompactness hd_X6_roughCompactness ⟨Nat.le_of_ble_eq_true rfl, Nat.le_of_ble_eq_true rfl⟩ ⟨rfl, rfl⟩ hK hH hA ⟨rfl, rfl, rfl, rfl, rfl, rfl⟩ rfl rfl hl.1 (by decide) dX5_takeFrom_61 ⟨Nat.le_of_ble_eq_true rfl, Nat.le_of_ble_eq_true rfl⟩ (fun H locs hH => ?_)
          obtain ⟨g6, h⟩ := dc_need h
          refine gk_fast hx hb hK hH 7 rfl (dk_in g6) dX5_takeFrom_64 [(a_t, .inr (5, [.ref a_t_whole, .ref a_t_rough, .int y15_t_size, .int y15_t_isExact])), (a_p1, .inr (8, [.int p1_units, .ref a_p1_population, .ref a_p1_area, .ref a_p1_community, .ref a_p1_outer, .ref a_p1_neighbors, .ref a_p1_lengths, v_p1_cores, .int p1_districts, v_p1_tolerance, v_p1_hasPlan, .ref a_p1_plan])), (a_p1_plan, .inr (4, [.ref a_p1_plan_places, .ref a_p1_plan_sets])), (a_p1_plan_sets, .inl (k 0, 4, .inl p1_plan_sets)), (a_p1_outer, .inl (k 0, 12, .inl p1_outer)), (a_p1_lengths, .inl (k 0, 144, .inl p1_lengths)), (a_p1_area, .inl (k 0, 12, .inl p1_area)), (a_t_rough, .inl (k 3, 4, .inr (.inr (.inl (vf_upd y15_t_rough y15_3.toNatClampNeg q5))))), (a_p1_population, .inl (k 0, 12, .inl p1_population)), (a_t_whole, .inl (k 0, 4, .inl y15_t_whole))] rfl (fun H locs hH => ?_)
          refine lv_iinc (v := (y15_3 + (1 : Int32))) (lv' := [(3, .int (y15_3 + (1 : Int32))), (4, .int (p1_plan_sets y15_3.toNatClampNeg)), (0, .ref a_t), (1, .ref a_p1), (2, .int x2)]) hx hb dX5_takeFrom_65 hl (k := 4) rfl rfl (by decide) rfl (fun ls hl => ?_)
          refine lv_goto (tgt := 15) hx hb dX5_takeFrom_68 (by decide) ?_
          exact ih kf (y15_3 + (1 : Int32)) (vf_upd y15_t_rough y15_3.toNatClampNeg q5) y15_t_whole h kk H locs ls hH (lv_sub hl [2, 3, 4, 0] rfl)
        · replace h := dc_neg c4 h
          refine lv_aload_n hx hb dX5_takeFrom_38 rfl (lv_at hl 1 rfl) ?_
          refine gk_get (ci := 5) (C := RX5) (T := TX5) (N := 4) hx hb hts u_ws_X5 hown hK hH 0 rfl rfl 0 (by decide) u_fl_X5_9 rfl dX5_takeFrom_39 ?_
          refine lv_iload_n hx hb dX5_takeFrom_42 rfl (lv_at hl 4 rfl) ?_
          refine lv_aload_n hx hb dX5_takeFrom_43 rfl (lv_at hl 2 rfl) ?_
          refine lv_iload hx hb dX5_takeFrom_44 (lv_at hl 0 rfl) ?_
          obtain ⟨q7, hqq7, h⟩ := dc_bind h
          refine gc_Vi (ws' := [(a_t, .inr (5, [.ref a_t_whole, .ref a_t_rough, .int y15_t_size, .int y15_t_isExact])), (a_p1, .inr (8, [.int p1_units, .ref a_p1_population, .ref a_p1_area, .ref a_p1_community, .ref a_p1_outer, .ref a_p1_neighbors, .ref a_p1_lengths, v_p1_cores, .int p1_districts, v_p1_tolerance, v_p1_hasPlan, .ref a_p1_plan])), (a_p1_plan, .inr (4, [.ref a_p1_plan_places, .ref a_p1_plan_sets])), (a_p1_plan_sets, .inl (k 0, 4, .inl p1_plan_sets)), (a_p1_outer, .inl (k 0, 12, .inl p1_outer)), (a_p1_lengths, .inl (k 0, 144, .inl p1_lengths)), (a_p1_area, .inl (k 0, 12, .inl p1_area)), (a_t_rough, .inl (k 3, 4, .inr (.inr (.inl y15_t_rough)))), (a_p1_population, .inl (k 0, 12, .inl p1_population)), (a_t_whole, .inl (k 0, 4, .inl y15_t_whole))]) (isC := [1, 8]) (isR := [0, 2, 3, 4, 5, 6, 7, 9]) (As := [.int (p1_plan_sets y15_3.toNatClampNeg)]) (rest := [.int y15_3, .ref a_t_whole]) (n := 1) (ci := 8) (cq := (RX9, TX9, 12)) hTs ⟨hx, hb, hml, hown, hts⟩ (mX9_populationOf l Ts hTs D k H.size a_p1 a_p1_population a_p1_area a_p1_community a_p1_outer a_p1_neighbors a_p1_lengths a_p1_plan p1_population p1_units v_p1_cores (.int p1_districts) v_p1_hasPlan v_p1_tolerance (p1_plan_sets y15_3.toNatClampNeg) q7 hqq7) u_ml_X5_41 u_im_X9_populationOf u_se_X9_populationOf u_in_X9 u_co_X9_populationOf hd_X9_populationOf ⟨Nat.le_of_ble_eq_true rfl, Nat.le_of_ble_eq_true rfl⟩ ⟨rfl, rfl⟩ hK hH hA ⟨rfl, rfl, rfl, rfl, rfl, rfl⟩ rfl rfl rfl rfl hl.1 (by decide) dX5_takeFrom_46 ⟨Nat.le_of_ble_eq_true rfl, Nat.le_of_ble_eq_true rfl⟩ (fun H locs hH => ?_)
          obtain ⟨g8, h⟩ := dc_need h
          refine gk_iast hx hb hK hH 9 rfl (dk_in g8) dX5_takeFrom_49 [(a_t, .inr (5, [.ref a_t_whole, .ref a_t_rough, .int y15_t_size, .int y15_t_isExact])), (a_p1, .inr (8, [.int p1_units, .ref a_p1_population, .ref a_p1_area, .ref a_p1_community, .ref a_p1_outer, .ref a_p1_neighbors, .ref a_p1_lengths, v_p1_cores, .int p1_districts, v_p1_tolerance, v_p1_hasPlan, .ref a_p1_plan])), (a_p1_plan, .inr (4, [.ref a_p1_plan_places, .ref a_p1_plan_sets])), (a_p1_plan_sets, .inl (k 0, 4, .inl p1_plan_sets)), (a_p1_outer, .inl (k 0, 12, .inl p1_outer)), (a_p1_lengths, .inl (k 0, 144, .inl p1_lengths)), (a_p1_area, .inl (k 0, 12, .inl p1_area)), (a_t_rough, .inl (k 3, 4, .inr (.inr (.inl y15_t_rough)))), (a_p1_population, .inl (k 0, 12, .inl p1_population)), (a_t_whole, .inl (k 0, 4, .inl (upd y15_t_whole y15_3.toNatClampNeg q7)))] rfl (fun H locs hH => ?_)
          refine lv_goto (tgt := 65) hx hb dX5_takeFrom_50 (by decide) ?_
          refine lv_iinc (v := (y15_3 + (1 : Int32))) (lv' := [(3, .int (y15_3 + (1 : Int32))), (4, .int (p1_plan_sets y15_3.toNatClampNeg)), (0, .ref a_t), (1, .ref a_p1), (2, .int x2)]) hx hb dX5_takeFrom_65 hl (k := 4) rfl rfl (by decide) rfl (fun ls hl => ?_)
          refine lv_goto (tgt := 15) hx hb dX5_takeFrom_68 (by decide) ?_
          exact ih kf (y15_3 + (1 : Int32)) y15_t_rough (upd y15_t_whole y15_3.toNatClampNeg q7) h kk H locs ls hH (lv_sub hl [2, 3, 4, 0] rfl)
  rw [fX5_takeFrom] at h
  refine lv_aload_n hx hb dX5_takeFrom_0 rfl (lv_at hl 0 rfl) ?_
  refine lv_aload_n hx hb dX5_takeFrom_1 rfl (lv_at hl 1 rfl) ?_
  refine gk_get (ci := 8) (C := RX9) (T := TX9) (N := 12) hx hb hts u_ws_X9 hown hK hH 1 rfl rfl 8 (by decide) u_fl_X5_27 rfl dX5_takeFrom_2 ?_
  refine gk_put (ci := 5) (C := RX5) (T := TX5) (N := 4) hx hb hts u_ws_X5 tyX5_ok nmX5 hown hK hH 0 rfl rfl 2 (by decide) u_fl_X5_19 rfl rfl rfl (by decide) dX5_takeFrom_5 [(a_t, .inr (5, [.ref a_t_whole, .ref a_t_rough, .int p1_districts, v_t_isExact])), (a_p1, .inr (8, [.int p1_units, .ref a_p1_population, .ref a_p1_area, .ref a_p1_community, .ref a_p1_outer, .ref a_p1_neighbors, .ref a_p1_lengths, v_p1_cores, .int p1_districts, v_p1_tolerance, v_p1_hasPlan, .ref a_p1_plan])), (a_p1_plan, .inr (4, [.ref a_p1_plan_places, .ref a_p1_plan_sets])), (a_p1_plan_sets, .inl (k 0, 4, .inl p1_plan_sets)), (a_p1_outer, .inl (k 0, 12, .inl p1_outer)), (a_p1_lengths, .inl (k 0, 144, .inl p1_lengths)), (a_p1_area, .inl (k 0, 12, .inl p1_area)), (a_t_rough, .inl (k 3, 4, .inr (.inr (.inl t_rough)))), (a_p1_population, .inl (k 0, 12, .inl p1_population)), (a_t_whole, .inl (k 0, 4, .inl t_whole))] rfl (fun H locs hH => ?_)
  refine lv_aload_n hx hb dX5_takeFrom_8 rfl (lv_at hl 0 rfl) ?_
  refine lv_iload_n hx hb dX5_takeFrom_9 rfl (lv_at hl 2 rfl) ?_
  obtain ⟨g1, h⟩ := dc_need h
  refine gk_put (ci := 5) (C := RX5) (T := TX5) (N := 4) hx hb hts u_ws_X5 tyX5_ok nmX5 hown hK hH 0 rfl rfl 3 (by decide) u_fl_X5_23 rfl (dk_bit g1).1 (dk_bit g1).2 (by decide) dX5_takeFrom_10 [(a_t, .inr (5, [.ref a_t_whole, .ref a_t_rough, .int p1_districts, .int x2])), (a_p1, .inr (8, [.int p1_units, .ref a_p1_population, .ref a_p1_area, .ref a_p1_community, .ref a_p1_outer, .ref a_p1_neighbors, .ref a_p1_lengths, v_p1_cores, .int p1_districts, v_p1_tolerance, v_p1_hasPlan, .ref a_p1_plan])), (a_p1_plan, .inr (4, [.ref a_p1_plan_places, .ref a_p1_plan_sets])), (a_p1_plan_sets, .inl (k 0, 4, .inl p1_plan_sets)), (a_p1_outer, .inl (k 0, 12, .inl p1_outer)), (a_p1_lengths, .inl (k 0, 144, .inl p1_lengths)), (a_p1_area, .inl (k 0, 12, .inl p1_area)), (a_t_rough, .inl (k 3, 4, .inr (.inr (.inl t_rough)))), (a_p1_population, .inl (k 0, 12, .inl p1_population)), (a_t_whole, .inl (k 0, 4, .inl t_whole))] rfl (fun H locs hH => ?_)
  refine lv_iconst (v := 0) hx hb dX5_takeFrom_13 (by decide) ?_
  refine lv_istore_n (lv' := [(3, .int (0 : Int32)), (0, .ref a_t), (1, .ref a_p1), (2, .int x2)]) hx hb dX5_takeFrom_14 rfl hl (by decide) rfl (fun ls hl => ?_)
  refine L15 x2 p1_districts _ _ (0 : Int32) t_rough t_whole h (fun z15_t_rough z15_t_whole H locs ls h hH hl => ?_) H locs ls hH (lv_sub hl [1, 2, 3, 0] rfl)
  have h := Option.some.inj h
  subst h
  exact ge_v hx hb hr hlocks hQ hK hH hAe dX5_takeFrom_71
theorem hd_X5_takeElements : yX5_takeElements.cls = RX5 ∧ yX5_takeElements.cls ≠ "java/lang/invoke/MethodHandle" ∧ yX5_takeElements.cls ≠ "java/lang/invoke/VarHandle" ∧ (parseMethodDescriptor yX5_takeElements.desc).map (fun d => d.parameters.length) = some 2 := by decide +kernel
set_option maxHeartbeats 4000000 in
set_option maxRecDepth 100000 in
theorem mX5_takeElements (l : Launch) (Ts : List Cond) (hTs : ∀ w, w ∈ Ts ↔ w ∈ uT) (D : va_G) (k : Nat → ClassId) (sz : Nat) (a_p1 : Nat) (a_t : Nat) (a_t_whole : Nat) (a_t_rough : Nat) (a_p1_whole : Nat) (a_p1_rough : Nat) (p1_rough : Nat → UInt32) (p1_whole : Nat → Int32) (t_isExact : Int32) (t_rough : Nat → UInt32) (t_whole : Nat → Int32) (v_p1_isExact : Value) (v_p1_size : Value) (v_t_size : Value) (x2 : Int32) (r : (Nat → UInt32) × (Nat → Int32)) (h : fX5_takeElements p1_rough p1_whole t_isExact t_rough t_whole x2 = some r) : Met l yX5_takeElements (Cond.code yX5_takeElements cX5_takeElements 3 none :: Ts) ({ frames := 1, cells := 0, slots := 0, locals := 96 } : Room) (preM D k [.ref a_t, .ref a_p1, .int x2] [(a_t, .inr (5, [.ref a_t_whole, .ref a_t_rough, v_t_size, .int t_isExact])), (a_p1, .inr (5, [.ref a_p1_whole, .ref a_p1_rough, v_p1_size, v_p1_isExact])), (a_p1_rough, .inl (k 3, 4, .inr (.inr (.inl p1_rough)))), (a_t_rough, .inl (k 3, 4, .inr (.inr (.inl t_rough)))), (a_p1_whole, .inl (k 0, 4, .inl p1_whole)), (a_t_whole, .inl (k 0, 4, .inl t_whole))] sz) (postV D k [(a_t, .inr (5, [.ref a_t_whole, .ref a_t_rough, v_t_size, .int t_isExact])), (a_p1, .inr (5, [.ref a_p1_whole, .ref a_p1_rough, v_p1_size, v_p1_isExact])), (a_p1_rough, .inl (k 3, 4, .inr (.inr (.inl p1_rough)))), (a_t_rough, .inl (k 3, 4, .inr (.inr (.inl t_rough)))), (a_p1_whole, .inl (k 0, 4, .inl p1_whole)), (a_t_whole, .inl (k 0, 4, .inl t_whole))] [(a_t, .inr (5, [.ref a_t_whole, .ref a_t_rough, v_t_size, .int t_isExact])), (a_p1, .inr (5, [.ref a_p1_whole, .ref a_p1_rough, v_p1_size, v_p1_isExact])), (a_p1_rough, .inl (k 3, 4, .inr (.inr (.inl p1_rough)))), (a_t_rough, .inl (k 3, 4, .inr (.inr (.inl r.1)))), (a_p1_whole, .inl (k 0, 4, .inl p1_whole)), (a_t_whole, .inl (k 0, 4, .inl r.2))] sz) 0 0 (va_A [(a_t, .inr (5, [.ref a_t_whole, .ref a_t_rough, v_t_size, .int t_isExact])), (a_p1, .inr (5, [.ref a_p1_whole, .ref a_p1_rough, v_p1_size, v_p1_isExact])), (a_p1_rough, .inl (k 3, 4, .inr (.inr (.inl p1_rough)))), (a_t_rough, .inl (k 3, 4, .inr (.inr (.inl t_rough)))), (a_p1_whole, .inl (k 0, 4, .inl p1_whole)), (a_t_whole, .inl (k 0, 4, .inl t_whole))] sz) := by
  refine Met.ofW (cc := cX5_takeElements) (maxL := 3) (ret := none) (by decide) rfl ?_
  intro p e s m args below meth c s₁ B hml hv
  obtain ⟨rfl, hsz, hP, hK, hD0⟩ := hv
  have hx := B.exec
  have hb := B.bytes
  have hr := B.returns
  have hts0 := atoms_spec (ws := (Cond.code yX5_takeElements cX5_takeElements 3 none :: Ts)) B.pre
  have hts : ∀ w ∈ uT, w.before _ s = true := fun w h => hts0 w (List.mem_cons_of_mem _ ((hTs w).mpr h))
  clear hts0
  have hown : s.vm.findClass RX5 = some m.cls := findClass_of_methodNamed B.named
  have hlocks := B.notSynchronized
  subst hsz
  have hD := hD0.self (sz := s.heap.size)
  generalize hAe : va_A [(a_t, .inr (5, [.ref a_t_whole, .ref a_t_rough, v_t_size, .int t_isExact])), (a_p1, .inr (5, [.ref a_p1_whole, .ref a_p1_rough, v_p1_size, v_p1_isExact])), (a_p1_rough, .inl (k 3, 4, .inr (.inr (.inl p1_rough)))), (a_t_rough, .inl (k 3, 4, .inr (.inr (.inl t_rough)))), (a_p1_whole, .inl (k 0, 4, .inl p1_whole)), (a_t_whole, .inl (k 0, 4, .inl t_whole))] s.heap.size = A at hD ⊢
  have hA : ∀ q : Nat, s.heap.size ≤ q → A q := fun q h => by rw [← hAe]; exact Or.inr h
  have hH : HOK D A s.heap [(a_t, .inr (5, [.ref a_t_whole, .ref a_t_rough, v_t_size, .int t_isExact])), (a_p1, .inr (5, [.ref a_p1_whole, .ref a_p1_rough, v_p1_size, v_p1_isExact])), (a_p1_rough, .inl (k 3, 4, .inr (.inr (.inl p1_rough)))), (a_t_rough, .inl (k 3, 4, .inr (.inr (.inl t_rough)))), (a_p1_whole, .inl (k 0, 4, .inl p1_whole)), (a_t_whole, .inl (k 0, 4, .inl t_whole))] s.heap [] := ⟨hP, hD, va_S.rf⟩
  have hl := lv_entry ([.ref a_t, .ref a_p1, .int x2]) (n := 3) (Nat.le_of_ble_eq_true rfl)
  rw [lg_entry_eq]
  generalize (lg_sl ([.ref a_t, .ref a_p1, .int x2]) ++ List.replicate (3 - (lg_sl ([.ref a_t, .ref a_p1, .int x2])).length) Slot.unset).toArray = ls at hl ⊢
  have hl : lv_has ls 3 [(0, .ref a_t), (1, .ref a_p1), (2, .int x2)] := hl
  generalize hQ : MQ below (postV D k [(a_t, .inr (5, [.ref a_t_whole, .ref a_t_rough, v_t_size, .int t_isExact])), (a_p1, .inr (5, [.ref a_p1_whole, .ref a_p1_rough, v_p1_size, v_p1_isExact])), (a_p1_rough, .inl (k 3, 4, .inr (.inr (.inl p1_rough)))), (a_t_rough, .inl (k 3, 4, .inr (.inr (.inl t_rough)))), (a_p1_whole, .inl (k 0, 4, .inl p1_whole)), (a_t_whole, .inl (k 0, 4, .inl t_whole))] [(a_t, .inr (5, [.ref a_t_whole, .ref a_t_rough, v_t_size, .int t_isExact])), (a_p1, .inr (5, [.ref a_p1_whole, .ref a_p1_rough, v_p1_size, v_p1_isExact])), (a_p1_rough, .inl (k 3, 4, .inr (.inr (.inl p1_rough)))), (a_t_rough, .inl (k 3, 4, .inr (.inr (.inl r.1)))), (a_p1_whole, .inl (k 0, 4, .inl p1_whole)), (a_t_whole, .inl (k 0, 4, .inl r.2))] s.heap.size) (List.toArray [.ref a_t, .ref a_p1, .int x2]) s 0 0 A = Q
  clear hP hD hD0
  suffices K : ∀ (H : Heap) (locs : List Loc), HOK D A s.heap [(a_t, .inr (5, [.ref a_t_whole, .ref a_t_rough, v_t_size, .int t_isExact])), (a_p1, .inr (5, [.ref a_p1_whole, .ref a_p1_rough, v_p1_size, v_p1_isExact])), (a_p1_rough, .inl (k 3, 4, .inr (.inr (.inl p1_rough)))), (a_t_rough, .inl (k 3, 4, .inr (.inr (.inl t_rough)))), (a_p1_whole, .inl (k 0, 4, .inl p1_whole)), (a_t_whole, .inl (k 0, 4, .inl t_whole))] H locs → W p l e ({ frames := 1, cells := 0, slots := 0, locals := 96 } : Room) s m (List.toArray [.ref a_t, .ref a_p1, .int x2]) below meth c H locs 0 0 Q (F0 m 0 ls []) from K s.heap [] hH
  intro H locs hH
  rw [fX5_takeElements] at h
  refine lv_aload_n hx hb dX5_takeElements_0 rfl (lv_at hl 0 rfl) ?_
  refine gk_get (ci := 5) (C := RX5) (T := TX5) (N := 4) hx hb hts u_ws_X5 hown hK hH 0 rfl rfl 3 (by decide) u_fl_X5_23 rfl dX5_takeElements_1 ?_
  refine lv_if_eq (tgt := 24) hx hb dX5_takeElements_4 (by decide) (fun c1 => ?_) (fun c1 => ?_)
  · replace h := dc_pos c1 h
    refine lv_aload_n hx hb dX5_takeElements_24 rfl (lv_at hl 1 rfl) ?_
    refine gk_get (ci := 5) (C := RX5) (T := TX5) (N := 4) hx hb hts u_ws_X5 hown hK hH 1 rfl rfl 1 (by decide) u_fl_X5_15 rfl dX5_takeElements_25 ?_
    refine lv_iconst (v := 0) hx hb dX5_takeElements_28 (by decide) ?_
    refine lv_aload_n hx hb dX5_takeElements_29 rfl (lv_at hl 0 rfl) ?_
    refine gk_get (ci := 5) (C := RX5) (T := TX5) (N := 4) hx hb hts u_ws_X5 hown hK hH 0 rfl rfl 1 (by decide) u_fl_X5_15 rfl dX5_takeElements_30 ?_
    refine lv_iconst (v := 0) hx hb dX5_takeElements_33 (by decide) ?_
    refine lv_iload_n hx hb dX5_takeElements_34 rfl (lv_at hl 2 rfl) ?_
    obtain ⟨g2, h⟩ := dc_need h
    refine gk_copyf (n0 := 4) (n1 := 4) (ws' := [(a_t, .inr (5, [.ref a_t_whole, .ref a_t_rough, v_t_size, .int t_isExact])), (a_p1, .inr (5, [.ref a_p1_whole, .ref a_p1_rough, v_p1_size, v_p1_isExact])), (a_p1_rough, .inl (k 3, 4, .inr (.inr (.inl p1_rough)))), (a_t_rough, .inl (k 3, 4, .inr (.inr (.inl (va_cpy p1_rough t_rough 0 0 x2.toNatClampNeg))))), (a_p1_whole, .inl (k 0, 4, .inl p1_whole)), (a_t_whole, .inl (k 0, 4, .inl t_whole))]) hx hb (hml.trans hl.1.symm) hown (hts _ u_ml_X5_51) (hts _ u_na_System_arraycopy) (hts _ u_st_System_arraycopy) (hts _ u_in_J10) hK hH 2 3 rfl rfl g2 (by decide) (by decide) (Nat.le_of_ble_eq_true rfl) (Nat.le_of_ble_eq_true rfl) dX5_takeElements_35 rfl (fun H locs hH => ?_)
    have h := Option.some.inj h
    subst h
    exact ge_v hx hb hr hlocks hQ hK hH hAe dX5_takeElements_38
  · replace h := dc_neg c1 h
    refine lv_aload_n hx hb dX5_takeElements_7 rfl (lv_at hl 1 rfl) ?_
    refine gk_get (ci := 5) (C := RX5) (T := TX5) (N := 4) hx hb hts u_ws_X5 hown hK hH 1 rfl rfl 0 (by decide) u_fl_X5_9 rfl dX5_takeElements_8 ?_
    refine lv_iconst (v := 0) hx hb dX5_takeElements_11 (by decide) ?_
    refine lv_aload_n hx hb dX5_takeElements_12 rfl (lv_at hl 0 rfl) ?_
    refine gk_get (ci := 5) (C := RX5) (T := TX5) (N := 4) hx hb hts u_ws_X5 hown hK hH 0 rfl rfl 0 (by decide) u_fl_X5_9 rfl dX5_takeElements_13 ?_
    refine lv_iconst (v := 0) hx hb dX5_takeElements_16 (by decide) ?_
    refine lv_iload_n hx hb dX5_takeElements_17 rfl (lv_at hl 2 rfl) ?_
    obtain ⟨g3, h⟩ := dc_need h
    refine gk_copyi (n0 := 4) (n1 := 4) (ws' := [(a_t, .inr (5, [.ref a_t_whole, .ref a_t_rough, v_t_size, .int t_isExact])), (a_p1, .inr (5, [.ref a_p1_whole, .ref a_p1_rough, v_p1_size, v_p1_isExact])), (a_p1_rough, .inl (k 3, 4, .inr (.inr (.inl p1_rough)))), (a_t_rough, .inl (k 3, 4, .inr (.inr (.inl t_rough)))), (a_p1_whole, .inl (k 0, 4, .inl p1_whole)), (a_t_whole, .inl (k 0, 4, .inl (va_cpy p1_whole t_whole 0 0 x2.toNatClampNeg)))]) hx hb (hml.trans hl.1.symm) hown (hts _ u_ml_X5_51) (hts _ u_na_System_arraycopy) (hts _ u_st_System_arraycopy) (hts _ u_in_J10) hK hH 4 5 rfl rfl g3 (by decide) (by decide) (Nat.le_of_ble_eq_true rfl) (Nat.le_of_ble_eq_true rfl) dX5_takeElements_18 rfl (fun H locs hH => ?_)
    refine lv_goto (tgt := 38) hx hb dX5_takeElements_21 (by decide) ?_
    have h := Option.some.inj h
    subst h
    exact ge_v hx hb hr hlocks hQ hK hH hAe dX5_takeElements_38
theorem hd_X5_sum : yX5_sum.cls = RX5 ∧ yX5_sum.cls ≠ "java/lang/invoke/MethodHandle" ∧ yX5_sum.cls ≠ "java/lang/invoke/VarHandle" ∧ (parseMethodDescriptor yX5_sum.desc).map (fun d => d.parameters.length) = some 0 := by decide +kernel
set_option maxHeartbeats 4000000 in
set_option maxRecDepth 100000 in
theorem mX5_sum (l : Launch) (Ts : List Cond) (hTs : ∀ w, w ∈ Ts ↔ w ∈ uT) (D : va_G) (k : Nat → ClassId) (sz : Nat) (a_t : Nat) (a_t_whole : Nat) (a_t_rough : Nat) (t_isExact : Int32) (t_rough : Nat → UInt32) (t_size : Int32) (t_whole : Nat → Int32) (r : Int32) (h : fX5_sum t_isExact t_rough t_size t_whole = some r) : Met l yX5_sum (Cond.code yX5_sum cX5_sum 3 (some .int) :: Ts) ({ frames := 0, cells := 0, slots := 0, locals := 0 } : Room) (preM D k [.ref a_t] [(a_t, .inr (5, [.ref a_t_whole, .ref a_t_rough, .int t_size, .int t_isExact])), (a_t_rough, .inl (k 3, 4, .inr (.inr (.inl t_rough)))), (a_t_whole, .inl (k 0, 4, .inl t_whole))] sz) (postI D k r [(a_t, .inr (5, [.ref a_t_whole, .ref a_t_rough, .int t_size, .int t_isExact])), (a_t_rough, .inl (k 3, 4, .inr (.inr (.inl t_rough)))), (a_t_whole, .inl (k 0, 4, .inl t_whole))] [(a_t, .inr (5, [.ref a_t_whole, .ref a_t_rough, .int t_size, .int t_isExact])), (a_t_rough, .inl (k 3, 4, .inr (.inr (.inl t_rough)))), (a_t_whole, .inl (k 0, 4, .inl t_whole))] sz) 0 0 (va_A [(a_t, .inr (5, [.ref a_t_whole, .ref a_t_rough, .int t_size, .int t_isExact])), (a_t_rough, .inl (k 3, 4, .inr (.inr (.inl t_rough)))), (a_t_whole, .inl (k 0, 4, .inl t_whole))] sz) := by
  refine Met.ofW (cc := cX5_sum) (maxL := 3) (ret := (some .int)) (by decide) rfl ?_
  intro p e s m args below meth c s₁ B hml hv
  obtain ⟨rfl, hsz, hP, hK, hD0⟩ := hv
  have hx := B.exec
  have hb := B.bytes
  have hr := B.returns
  have hts0 := atoms_spec (ws := (Cond.code yX5_sum cX5_sum 3 (some .int) :: Ts)) B.pre
  have hts : ∀ w ∈ uT, w.before _ s = true := fun w h => hts0 w (List.mem_cons_of_mem _ ((hTs w).mpr h))
  clear hts0
  have hown : s.vm.findClass RX5 = some m.cls := findClass_of_methodNamed B.named
  have hlocks := B.notSynchronized
  subst hsz
  have hD := hD0.self (sz := s.heap.size)
  generalize hAe : va_A [(a_t, .inr (5, [.ref a_t_whole, .ref a_t_rough, .int t_size, .int t_isExact])), (a_t_rough, .inl (k 3, 4, .inr (.inr (.inl t_rough)))), (a_t_whole, .inl (k 0, 4, .inl t_whole))] s.heap.size = A at hD ⊢
  have hA : ∀ q : Nat, s.heap.size ≤ q → A q := fun q h => by rw [← hAe]; exact Or.inr h
  have hH : HOK D A s.heap [(a_t, .inr (5, [.ref a_t_whole, .ref a_t_rough, .int t_size, .int t_isExact])), (a_t_rough, .inl (k 3, 4, .inr (.inr (.inl t_rough)))), (a_t_whole, .inl (k 0, 4, .inl t_whole))] s.heap [] := ⟨hP, hD, va_S.rf⟩
  have hl := lv_entry ([.ref a_t]) (n := 3) (Nat.le_of_ble_eq_true rfl)
  rw [lg_entry_eq]
  generalize (lg_sl ([.ref a_t]) ++ List.replicate (3 - (lg_sl ([.ref a_t])).length) Slot.unset).toArray = ls at hl ⊢
  have hl : lv_has ls 3 [(0, .ref a_t)] := hl
  generalize hQ : MQ below (postI D k r [(a_t, .inr (5, [.ref a_t_whole, .ref a_t_rough, .int t_size, .int t_isExact])), (a_t_rough, .inl (k 3, 4, .inr (.inr (.inl t_rough)))), (a_t_whole, .inl (k 0, 4, .inl t_whole))] [(a_t, .inr (5, [.ref a_t_whole, .ref a_t_rough, .int t_size, .int t_isExact])), (a_t_rough, .inl (k 3, 4, .inr (.inr (.inl t_rough)))), (a_t_whole, .inl (k 0, 4, .inl t_whole))] s.heap.size) (List.toArray [.ref a_t]) s 0 0 A = Q
  clear hP hD hD0
  suffices K : ∀ (H : Heap) (locs : List Loc), HOK D A s.heap [(a_t, .inr (5, [.ref a_t_whole, .ref a_t_rough, .int t_size, .int t_isExact])), (a_t_rough, .inl (k 3, 4, .inr (.inr (.inl t_rough)))), (a_t_whole, .inl (k 0, 4, .inl t_whole))] H locs → W p l e ({ frames := 0, cells := 0, slots := 0, locals := 0 } : Room) s m (List.toArray [.ref a_t]) below meth c H locs 0 0 Q (F0 m 0 ls []) from K s.heap [] hH
  intro H locs hH
  have L4 : ∀ (n : Nat), ∀ (kf : Int32 → Option (Int32)) (y4_1 : Int32) (y4_2 : Int32), fX5_sum_L4 t_isExact t_rough t_size t_whole n kf y4_1 y4_2 = some r → (∀ (z4_1 : Int32) (H : Heap) (locs : List Loc) (ls : Array Slot), kf z4_1 = some r → HOK D A s.heap [(a_t, .inr (5, [.ref a_t_whole, .ref a_t_rough, .int t_size, .int t_isExact])), (a_t_rough, .inl (k 3, 4, .inr (.inr (.inl t_rough)))), (a_t_whole, .inl (k 0, 4, .inl t_whole))] H locs → lv_has ls 3 [(1, .int z4_1)] → W p l e ({ frames := 0, cells := 0, slots := 0, locals := 0 } : Room) s m (List.toArray [.ref a_t]) below meth c H locs 0 0 Q (F0 m 44 ls [])) → ∀ (H : Heap) (locs : List Loc) (ls : Array Slot), HOK D A s.heap [(a_t, .inr (5, [.ref a_t_whole, .ref a_t_rough, .int t_size, .int t_isExact])), (a_t_rough, .inl (k 3, 4, .inr (.inr (.inl t_rough)))), (a_t_whole, .inl (k 0, 4, .inl t_whole))] H locs → lv_has ls 3 [(0, .ref a_t), (1, .int y4_1), (2, .int y4_2)] → W p l e ({ frames := 0, cells := 0, slots := 0, locals := 0 } : Room) s m (List.toArray [.ref a_t]) below meth c H locs 0 0 Q (F0 m 4 ls []) := by
    intro n
    induction n with
    | zero =>
      intro kf y4_1 y4_2 h
      exact absurd h (by rw [fX5_sum_L4]; exact fun q => by cases q)
    | succ n ih =>
      intro kf y4_1 y4_2 h kk H locs ls hH hl
      rw [fX5_sum_L4] at h
      refine lv_iload_n hx hb dX5_sum_4 rfl (lv_at hl 2 rfl) ?_
      refine lv_aload_n hx hb dX5_sum_5 rfl (lv_at hl 0 rfl) ?_
      refine gk_get (ci := 5) (C := RX5) (T := TX5) (N := 4) hx hb hts u_ws_X5 hown hK hH 0 rfl rfl 2 (by decide) u_fl_X5_19 rfl dX5_sum_6 ?_
      refine lv_icmp_ge (tgt := 44) hx hb dX5_sum_9 (by decide) (fun c1 => ?_) (fun c1 => ?_)
      · replace h := dc_pos c1 h
        exact kk y4_1 H locs ls h hH (lv_sub hl [1] rfl)
      · replace h := dc_neg c1 h
        refine lv_iload_n hx hb dX5_sum_12 rfl (lv_at hl 1 rfl) ?_
        refine lv_aload_n hx hb dX5_sum_13 rfl (lv_at hl 0 rfl) ?_
        refine gk_get (ci := 5) (C := RX5) (T := TX5) (N := 4) hx hb hts u_ws_X5 hown hK hH 0 rfl rfl 3 (by decide) u_fl_X5_23 rfl dX5_sum_14 ?_
        refine lv_if_eq (tgt := 29) hx hb dX5_sum_17 (by decide) (fun c2 => ?_) (fun c2 => ?_)
        · replace h := dc_pos c2 h
          refine lv_aload_n hx hb dX5_sum_29 rfl (lv_at hl 0 rfl) ?_
          refine gk_get (ci := 5) (C := RX5) (T := TX5) (N := 4) hx hb hts u_ws_X5 hown hK hH 0 rfl rfl 1 (by decide) u_fl_X5_15 rfl dX5_sum_30 ?_
          refine lv_iload_n hx hb dX5_sum_33 rfl (lv_at hl 2 rfl) ?_
          obtain ⟨g3, h⟩ := dc_need h
          refine gk_fald hx hb hK hH 1 rfl (dk_in g3) dX5_sum_34 ?_
          refine lv_f2i hx hb dX5_sum_35 ?_
          refine lv_iadd hx hb dX5_sum_36 ?_
          refine lv_istore_n (lv' := [(1, .int (y4_1 + (FP.f2i (t_rough y4_2.toNatClampNeg)))), (0, .ref a_t), (2, .int y4_2)]) hx hb dX5_sum_37 rfl hl (by decide) rfl (fun ls hl => ?_)
          refine lv_iinc (v := (y4_2 + (1 : Int32))) (lv' := [(2, .int (y4_2 + (1 : Int32))), (1, .int (y4_1 + (FP.f2i (t_rough y4_2.toNatClampNeg)))), (0, .ref a_t)]) hx hb dX5_sum_38 hl (k := 2) rfl rfl (by decide) rfl (fun ls hl => ?_)
          refine lv_goto (tgt := 4) hx hb dX5_sum_41 (by decide) ?_
          exact ih kf (y4_1 + (FP.f2i (t_rough y4_2.toNatClampNeg))) (y4_2 + (1 : Int32)) h kk H locs ls hH (lv_sub hl [2, 1, 0] rfl)
        · replace h := dc_neg c2 h
          refine lv_aload_n hx hb dX5_sum_20 rfl (lv_at hl 0 rfl) ?_
          refine gk_get (ci := 5) (C := RX5) (T := TX5) (N := 4) hx hb hts u_ws_X5 hown hK hH 0 rfl rfl 0 (by decide) u_fl_X5_9 rfl dX5_sum_21 ?_
          refine lv_iload_n hx hb dX5_sum_24 rfl (lv_at hl 2 rfl) ?_
          obtain ⟨g4, h⟩ := dc_need h
          refine gk_iald hx hb hK hH 2 rfl (dk_in g4) dX5_sum_25 ?_
          refine lv_goto (tgt := 36) hx hb dX5_sum_26 (by decide) ?_
          refine lv_iadd hx hb dX5_sum_36 ?_
          refine lv_istore_n (lv' := [(1, .int (y4_1 + (t_whole y4_2.toNatClampNeg))), (0, .ref a_t), (2, .int y4_2)]) hx hb dX5_sum_37 rfl hl (by decide) rfl (fun ls hl => ?_)
          refine lv_iinc (v := (y4_2 + (1 : Int32))) (lv' := [(2, .int (y4_2 + (1 : Int32))), (1, .int (y4_1 + (t_whole y4_2.toNatClampNeg))), (0, .ref a_t)]) hx hb dX5_sum_38 hl (k := 2) rfl rfl (by decide) rfl (fun ls hl => ?_)
          refine lv_goto (tgt := 4) hx hb dX5_sum_41 (by decide) ?_
          exact ih kf (y4_1 + (t_whole y4_2.toNatClampNeg)) (y4_2 + (1 : Int32)) h kk H locs ls hH (lv_sub hl [2, 1, 0] rfl)
  rw [fX5_sum] at h
  refine lv_iconst (v := 0) hx hb dX5_sum_0 (by decide) ?_
  refine lv_istore_n (lv' := [(1, .int (0 : Int32)), (0, .ref a_t)]) hx hb dX5_sum_1 rfl hl (by decide) rfl (fun ls hl => ?_)
  refine lv_iconst (v := 0) hx hb dX5_sum_2 (by decide) ?_
  refine lv_istore_n (lv' := [(2, .int (0 : Int32)), (1, .int (0 : Int32)), (0, .ref a_t)]) hx hb dX5_sum_3 rfl hl (by decide) rfl (fun ls hl => ?_)
  refine L4 _ _ (0 : Int32) (0 : Int32) h (fun z4_1 H locs ls h hH hl => ?_) H locs ls hH (lv_sub hl [2, 1, 0] rfl)
  refine lv_iload_n hx hb dX5_sum_44 rfl (lv_at hl 0 rfl) ?_
  have h := Option.some.inj h
  subst h
  exact ge_i hx hb hr hlocks hQ hK hH hAe rfl dX5_sum_45
theorem hd_X5_element : yX5_element.cls = RX5 ∧ yX5_element.cls ≠ "java/lang/invoke/MethodHandle" ∧ yX5_element.cls ≠ "java/lang/invoke/VarHandle" ∧ (parseMethodDescriptor yX5_element.desc).map (fun d => d.parameters.length) = some 1 := by decide +kernel
set_option maxHeartbeats 4000000 in
set_option maxRecDepth 100000 in
theorem mX5_element (l : Launch) (Ts : List Cond) (hTs : ∀ w, w ∈ Ts ↔ w ∈ uT) (D : va_G) (k : Nat → ClassId) (sz : Nat) (a_t : Nat) (a_t_whole : Nat) (a_t_rough : Nat) (t_isExact : Int32) (t_rough : Nat → UInt32) (t_whole : Nat → Int32) (v_t_size : Value) (x1 : Int32) (r : UInt32) (h : fX5_element t_isExact t_rough t_whole x1 = some r) : Met l yX5_element (Cond.code yX5_element cX5_element 2 (some .float) :: Ts) ({ frames := 0, cells := 0, slots := 0, locals := 0 } : Room) (preM D k [.ref a_t, .int x1] [(a_t, .inr (5, [.ref a_t_whole, .ref a_t_rough, v_t_size, .int t_isExact])), (a_t_rough, .inl (k 3, 4, .inr (.inr (.inl t_rough)))), (a_t_whole, .inl (k 0, 4, .inl t_whole))] sz) (postF D k r [(a_t, .inr (5, [.ref a_t_whole, .ref a_t_rough, v_t_size, .int t_isExact])), (a_t_rough, .inl (k 3, 4, .inr (.inr (.inl t_rough)))), (a_t_whole, .inl (k 0, 4, .inl t_whole))] [(a_t, .inr (5, [.ref a_t_whole, .ref a_t_rough, v_t_size, .int t_isExact])), (a_t_rough, .inl (k 3, 4, .inr (.inr (.inl t_rough)))), (a_t_whole, .inl (k 0, 4, .inl t_whole))] sz) 0 0 (va_A [(a_t, .inr (5, [.ref a_t_whole, .ref a_t_rough, v_t_size, .int t_isExact])), (a_t_rough, .inl (k 3, 4, .inr (.inr (.inl t_rough)))), (a_t_whole, .inl (k 0, 4, .inl t_whole))] sz) := by
  refine Met.ofW (cc := cX5_element) (maxL := 2) (ret := (some .float)) (by decide) rfl ?_
  intro p e s m args below meth c s₁ B hml hv
  obtain ⟨rfl, hsz, hP, hK, hD0⟩ := hv
  have hx := B.exec
  have hb := B.bytes
  have hr := B.returns
  have hts0 := atoms_spec (ws := (Cond.code yX5_element cX5_element 2 (some .float) :: Ts)) B.pre
  have hts : ∀ w ∈ uT, w.before _ s = true := fun w h => hts0 w (List.mem_cons_of_mem _ ((hTs w).mpr h))
  clear hts0
  have hown : s.vm.findClass RX5 = some m.cls := findClass_of_methodNamed B.named
  have hlocks := B.notSynchronized
  subst hsz
  have hD := hD0.self (sz := s.heap.size)
  generalize hAe : va_A [(a_t, .inr (5, [.ref a_t_whole, .ref a_t_rough, v_t_size, .int t_isExact])), (a_t_rough, .inl (k 3, 4, .inr (.inr (.inl t_rough)))), (a_t_whole, .inl (k 0, 4, .inl t_whole))] s.heap.size = A at hD ⊢
  have hA : ∀ q : Nat, s.heap.size ≤ q → A q := fun q h => by rw [← hAe]; exact Or.inr h
  have hH : HOK D A s.heap [(a_t, .inr (5, [.ref a_t_whole, .ref a_t_rough, v_t_size, .int t_isExact])), (a_t_rough, .inl (k 3, 4, .inr (.inr (.inl t_rough)))), (a_t_whole, .inl (k 0, 4, .inl t_whole))] s.heap [] := ⟨hP, hD, va_S.rf⟩
  have hl := lv_entry ([.ref a_t, .int x1]) (n := 2) (Nat.le_of_ble_eq_true rfl)
  rw [lg_entry_eq]
  generalize (lg_sl ([.ref a_t, .int x1]) ++ List.replicate (2 - (lg_sl ([.ref a_t, .int x1])).length) Slot.unset).toArray = ls at hl ⊢
  have hl : lv_has ls 2 [(0, .ref a_t), (1, .int x1)] := hl
  generalize hQ : MQ below (postF D k r [(a_t, .inr (5, [.ref a_t_whole, .ref a_t_rough, v_t_size, .int t_isExact])), (a_t_rough, .inl (k 3, 4, .inr (.inr (.inl t_rough)))), (a_t_whole, .inl (k 0, 4, .inl t_whole))] [(a_t, .inr (5, [.ref a_t_whole, .ref a_t_rough, v_t_size, .int t_isExact])), (a_t_rough, .inl (k 3, 4, .inr (.inr (.inl t_rough)))), (a_t_whole, .inl (k 0, 4, .inl t_whole))] s.heap.size) (List.toArray [.ref a_t, .int x1]) s 0 0 A = Q
  clear hP hD hD0
  suffices K : ∀ (H : Heap) (locs : List Loc), HOK D A s.heap [(a_t, .inr (5, [.ref a_t_whole, .ref a_t_rough, v_t_size, .int t_isExact])), (a_t_rough, .inl (k 3, 4, .inr (.inr (.inl t_rough)))), (a_t_whole, .inl (k 0, 4, .inl t_whole))] H locs → W p l e ({ frames := 0, cells := 0, slots := 0, locals := 0 } : Room) s m (List.toArray [.ref a_t, .int x1]) below meth c H locs 0 0 Q (F0 m 0 ls []) from K s.heap [] hH
  intro H locs hH
  rw [fX5_element] at h
  refine lv_aload_n hx hb dX5_element_0 rfl (lv_at hl 0 rfl) ?_
  refine gk_get (ci := 5) (C := RX5) (T := TX5) (N := 4) hx hb hts u_ws_X5 hown hK hH 0 rfl rfl 3 (by decide) u_fl_X5_23 rfl dX5_element_1 ?_
  refine lv_if_eq (tgt := 17) hx hb dX5_element_4 (by decide) (fun c1 => ?_) (fun c1 => ?_)
  · replace h := dc_pos c1 h
    refine lv_aload_n hx hb dX5_element_17 rfl (lv_at hl 0 rfl) ?_
    refine gk_get (ci := 5) (C := RX5) (T := TX5) (N := 4) hx hb hts u_ws_X5 hown hK hH 0 rfl rfl 1 (by decide) u_fl_X5_15 rfl dX5_element_18 ?_
    refine lv_iload_n hx hb dX5_element_21 rfl (lv_at hl 1 rfl) ?_
    obtain ⟨g2, h⟩ := dc_need h
    refine gk_fald hx hb hK hH 1 rfl (dk_in g2) dX5_element_22 ?_
    have h := Option.some.inj h
    subst h
    exact ge_f hx hb hr hlocks hQ hK hH hAe rfl dX5_element_23
  · replace h := dc_neg c1 h
    refine lv_aload_n hx hb dX5_element_7 rfl (lv_at hl 0 rfl) ?_
    refine gk_get (ci := 5) (C := RX5) (T := TX5) (N := 4) hx hb hts u_ws_X5 hown hK hH 0 rfl rfl 0 (by decide) u_fl_X5_9 rfl dX5_element_8 ?_
    refine lv_iload_n hx hb dX5_element_11 rfl (lv_at hl 1 rfl) ?_
    obtain ⟨g3, h⟩ := dc_need h
    refine gk_iald hx hb hK hH 2 rfl (dk_in g3) dX5_element_12 ?_
    refine lv_i2f hx hb dX5_element_13 ?_
    refine lv_goto (tgt := 23) hx hb dX5_element_14 (by decide) ?_
    have h := Option.some.inj h
    subst h
    exact ge_f hx hb hr hlocks hQ hK hH hAe rfl dX5_element_23
theorem hd_X5_bitsOf : yX5_bitsOf.cls ≠ "java/lang/invoke/MethodHandle" ∧ yX5_bitsOf.cls ≠ "java/lang/invoke/VarHandle" ∧ (parseMethodDescriptor yX5_bitsOf.desc).map (fun d => d.parameters.length) = some 1 := by decide +kernel
set_option maxHeartbeats 4000000 in
set_option maxRecDepth 100000 in
theorem mX5_bitsOf (l : Launch) (Ts : List Cond) (hTs : ∀ w, w ∈ Ts ↔ w ∈ uT) (D : va_G) (k : Nat → ClassId) (sz : Nat) (x0 : UInt32) (r : Int32) (h : fX5_bitsOf x0 = some r) : Met l yX5_bitsOf (Cond.code yX5_bitsOf cX5_bitsOf 4 (some .int) :: Ts) ({ frames := 0, cells := 0, slots := 0, locals := 0 } : Room) (preM D k [.float x0] [] sz) (postI D k r [] [] sz) 0 0 (va_A [] sz) := by
  refine Met.ofW (cc := cX5_bitsOf) (maxL := 4) (ret := (some .int)) (by decide) rfl ?_
  intro p e s m args below meth c s₁ B hml hv
  obtain ⟨rfl, hsz, hP, hK, hD0⟩ := hv
  have hx := B.exec
  have hb := B.bytes
  have hr := B.returns
  have hts0 := atoms_spec (ws := (Cond.code yX5_bitsOf cX5_bitsOf 4 (some .int) :: Ts)) B.pre
  have hts : ∀ w ∈ uT, w.before _ s = true := fun w h => hts0 w (List.mem_cons_of_mem _ ((hTs w).mpr h))
  clear hts0
  have hown : s.vm.findClass RX5 = some m.cls := findClass_of_methodNamed B.named
  have hlocks := B.notSynchronized
  subst hsz
  have hD := hD0.self (sz := s.heap.size)
  generalize hAe : va_A [] s.heap.size = A at hD ⊢
  have hA : ∀ q : Nat, s.heap.size ≤ q → A q := fun q h => by rw [← hAe]; exact Or.inr h
  have hH : HOK D A s.heap [] s.heap [] := ⟨hP, hD, va_S.rf⟩
  have hl := lv_entry ([.float x0]) (n := 4) (Nat.le_of_ble_eq_true rfl)
  rw [lg_entry_eq]
  generalize (lg_sl ([.float x0]) ++ List.replicate (4 - (lg_sl ([.float x0])).length) Slot.unset).toArray = ls at hl ⊢
  have hl : lv_has ls 4 [(0, .float x0)] := hl
  generalize hQ : MQ below (postI D k r [] [] s.heap.size) (List.toArray [.float x0]) s 0 0 A = Q
  clear hP hD hD0
  suffices K : ∀ (H : Heap) (locs : List Loc), HOK D A s.heap [] H locs → W p l e ({ frames := 0, cells := 0, slots := 0, locals := 0 } : Room) s m (List.toArray [.float x0]) below meth c H locs 0 0 Q (F0 m 0 ls []) from K s.heap [] hH
  intro H locs hH
  have L15 : ∀ (n : Nat), ∀ (kf : UInt32 → Int32 → Option (Int32)) (y15_1 : UInt32) (y15_2 : Int32) (y15_3 : Int32), fX5_bitsOf_L15 n kf y15_1 y15_2 y15_3 = some r → (∀ (z15_1 : UInt32) (z15_2 : Int32) (H : Heap) (locs : List Loc) (ls : Array Slot), kf z15_1 z15_2 = some r → HOK D A s.heap [] H locs → lv_has ls 4 [(1, .float z15_1), (2, .int z15_2)] → W p l e ({ frames := 0, cells := 0, slots := 0, locals := 0 } : Room) s m (List.toArray [.float x0]) below meth c H locs 0 0 Q (F0 m 40 ls [])) → ∀ (H : Heap) (locs : List Loc) (ls : Array Slot), HOK D A s.heap [] H locs → lv_has ls 4 [(1, .float y15_1), (2, .int y15_2), (3, .int y15_3)] → W p l e ({ frames := 0, cells := 0, slots := 0, locals := 0 } : Room) s m (List.toArray [.float x0]) below meth c H locs 0 0 Q (F0 m 15 ls []) := by
    intro n
    induction n with
    | zero =>
      intro kf y15_1 y15_2 y15_3 h
      exact absurd h (by rw [fX5_bitsOf_L15]; exact fun q => by cases q)
    | succ n ih =>
      intro kf y15_1 y15_2 y15_3 h kk H locs ls hH hl
      rw [fX5_bitsOf_L15] at h
      refine lv_iload_n hx hb dX5_bitsOf_15 rfl (lv_at hl 2 rfl) ?_
      refine lv_bipush (v := 126) hx hb dX5_bitsOf_16 (by decide) ?_
      refine lv_icmp_ge (tgt := 40) hx hb dX5_bitsOf_18 (by decide) (fun c2 => ?_) (fun c2 => ?_)
      · replace h := dc_pos c2 h
        exact kk y15_1 y15_2 H locs ls h hH (lv_sub hl [0, 1] rfl)
      · replace h := dc_neg c2 h
        refine lv_fload_n hx hb dX5_bitsOf_21 rfl (lv_at hl 0 rfl) ?_
        refine lv_fconst2 hx hb dX5_bitsOf_22 ?_
        refine lv_fcmp hx hb dX5_bitsOf_23 ?_
        refine lv_if_lt (tgt := 40) hx hb dX5_bitsOf_24 (by decide) (fun c3 => ?_) (fun c3 => ?_)
        · replace h := dc_pos c3 h
          exact kk y15_1 y15_2 H locs ls h hH (lv_sub hl [0, 1] rfl)
        · replace h := dc_neg c3 h
          refine lv_fload_n hx hb dX5_bitsOf_27 rfl (lv_at hl 0 rfl) ?_
          refine lv_fconst2 hx hb dX5_bitsOf_28 ?_
          obtain ⟨g4, h⟩ := dc_need h
          refine lv_fdiv hx hb dX5_bitsOf_29 g4 ?_
          refine lv_fstore_n (lv' := [(1, .float (FP.fdiv y15_1 FP.fconst2)), (2, .int y15_2), (3, .int y15_3)]) hx hb dX5_bitsOf_30 rfl hl (by decide) rfl (fun ls hl => ?_)
          refine lv_iinc (v := (y15_2 + (1 : Int32))) (lv' := [(2, .int (y15_2 + (1 : Int32))), (1, .float (FP.fdiv y15_1 FP.fconst2)), (3, .int y15_3)]) hx hb dX5_bitsOf_31 hl (k := 1) rfl rfl (by decide) rfl (fun ls hl => ?_)
          refine lv_iinc (v := (y15_3 + (1 : Int32))) (lv' := [(3, .int (y15_3 + (1 : Int32))), (2, .int (y15_2 + (1 : Int32))), (1, .float (FP.fdiv y15_1 FP.fconst2))]) hx hb dX5_bitsOf_34 hl (k := 2) rfl rfl (by decide) rfl (fun ls hl => ?_)
          refine lv_goto (tgt := 15) hx hb dX5_bitsOf_37 (by decide) ?_
          exact ih kf (FP.fdiv y15_1 FP.fconst2) (y15_2 + (1 : Int32)) (y15_3 + (1 : Int32)) h kk H locs ls hH (lv_sub hl [2, 1, 0] rfl)
  have L42 : ∀ (n : Nat), ∀ (kf : UInt32 → Int32 → Option (Int32)) (y42_1 : UInt32) (y42_2 : Int32) (y42_3 : Int32), fX5_bitsOf_L42 n kf y42_1 y42_2 y42_3 = some r → (∀ (z42_1 : UInt32) (z42_2 : Int32) (H : Heap) (locs : List Loc) (ls : Array Slot), kf z42_1 z42_2 = some r → HOK D A s.heap [] H locs → lv_has ls 4 [(1, .float z42_1), (2, .int z42_2)] → W p l e ({ frames := 0, cells := 0, slots := 0, locals := 0 } : Room) s m (List.toArray [.float x0]) below meth c H locs 0 0 Q (F0 m 67 ls [])) → ∀ (H : Heap) (locs : List Loc) (ls : Array Slot), HOK D A s.heap [] H locs → lv_has ls 4 [(1, .float y42_1), (2, .int y42_2), (3, .int y42_3)] → W p l e ({ frames := 0, cells := 0, slots := 0, locals := 0 } : Room) s m (List.toArray [.float x0]) below meth c H locs 0 0 Q (F0 m 42 ls []) := by
    intro n
    induction n with
    | zero =>
      intro kf y42_1 y42_2 y42_3 h
      exact absurd h (by rw [fX5_bitsOf_L42]; exact fun q => by cases q)
    | succ n ih =>
      intro kf y42_1 y42_2 y42_3 h kk H locs ls hH hl
      rw [fX5_bitsOf_L42] at h
      refine lv_iload_n hx hb dX5_bitsOf_42 rfl (lv_at hl 2 rfl) ?_
      refine lv_bipush (v := 126) hx hb dX5_bitsOf_43 (by decide) ?_
      refine lv_icmp_ge (tgt := 67) hx hb dX5_bitsOf_45 (by decide) (fun c5 => ?_) (fun c5 => ?_)
      · replace h := dc_pos c5 h
        exact kk y42_1 y42_2 H locs ls h hH (lv_sub hl [0, 1] rfl)
      · replace h := dc_neg c5 h
        refine lv_fload_n hx hb dX5_bitsOf_48 rfl (lv_at hl 0 rfl) ?_
        refine lv_fconst1 hx hb dX5_bitsOf_49 ?_
        refine lv_fcmp hx hb dX5_bitsOf_50 ?_
        refine lv_if_ge (tgt := 67) hx hb dX5_bitsOf_51 (by decide) (fun c6 => ?_) (fun c6 => ?_)
        · replace h := dc_pos c6 h
          exact kk y42_1 y42_2 H locs ls h hH (lv_sub hl [0, 1] rfl)
        · replace h := dc_neg c6 h
          refine lv_fload_n hx hb dX5_bitsOf_54 rfl (lv_at hl 0 rfl) ?_
          refine lv_fconst2 hx hb dX5_bitsOf_55 ?_
          obtain ⟨g7, h⟩ := dc_need h
          refine lv_fmul hx hb dX5_bitsOf_56 g7 ?_
          refine lv_fstore_n (lv' := [(1, .float (FP.fmul y42_1 FP.fconst2)), (2, .int y42_2), (3, .int y42_3)]) hx hb dX5_bitsOf_57 rfl hl (by decide) rfl (fun ls hl => ?_)
          refine lv_iinc (v := (y42_2 + (-1 : Int32))) (lv' := [(2, .int (y42_2 + (-1 : Int32))), (1, .float (FP.fmul y42_1 FP.fconst2)), (3, .int y42_3)]) hx hb dX5_bitsOf_58 hl (k := 1) rfl rfl (by decide) rfl (fun ls hl => ?_)
          refine lv_iinc (v := (y42_3 + (1 : Int32))) (lv' := [(3, .int (y42_3 + (1 : Int32))), (2, .int (y42_2 + (-1 : Int32))), (1, .float (FP.fmul y42_1 FP.fconst2))]) hx hb dX5_bitsOf_61 hl (k := 2) rfl rfl (by decide) rfl (fun ls hl => ?_)
          refine lv_goto (tgt := 42) hx hb dX5_bitsOf_64 (by decide) ?_
          exact ih kf (FP.fmul y42_1 FP.fconst2) (y42_2 + (-1 : Int32)) (y42_3 + (1 : Int32)) h kk H locs ls hH (lv_sub hl [2, 1, 0] rfl)
  rw [fX5_bitsOf] at h
  refine lv_fload_n hx hb dX5_bitsOf_0 rfl (lv_at hl 0 rfl) ?_
  refine lv_fconst0 hx hb dX5_bitsOf_1 ?_
  refine lv_fcmp hx hb dX5_bitsOf_2 ?_
  refine lv_if_gt (tgt := 8) hx hb dX5_bitsOf_3 (by decide) (fun c1 => ?_) (fun c1 => ?_)
  · replace h := dc_pos c1 h
    refine lv_fload_n hx hb dX5_bitsOf_8 rfl (lv_at hl 0 rfl) ?_
    refine lv_fstore_n (lv' := [(1, .float x0), (0, .float x0)]) hx hb dX5_bitsOf_9 rfl hl (by decide) rfl (fun ls hl => ?_)
    refine lv_bipush (v := 127) hx hb dX5_bitsOf_10 (by decide) ?_
    refine lv_istore_n (lv' := [(2, .int (127 : Int32)), (1, .float x0), (0, .float x0)]) hx hb dX5_bitsOf_12 rfl hl (by decide) rfl (fun ls hl => ?_)
    refine lv_iconst (v := 0) hx hb dX5_bitsOf_13 (by decide) ?_
    refine lv_istore_n (lv' := [(3, .int (0 : Int32)), (2, .int (127 : Int32)), (1, .float x0), (0, .float x0)]) hx hb dX5_bitsOf_14 rfl hl (by decide) rfl (fun ls hl => ?_)
    refine L15 _ _ x0 (127 : Int32) (0 : Int32) h (fun z15_1 z15_2 H locs ls h hH hl => ?_) H locs ls hH (lv_sub hl [2, 1, 0] rfl)
    refine lv_iconst (v := 0) hx hb dX5_bitsOf_40 (by decide) ?_
    refine lv_istore_n (lv' := [(3, .int (0 : Int32)), (1, .float z15_1), (2, .int z15_2)]) hx hb dX5_bitsOf_41 rfl hl (by decide) rfl (fun ls hl => ?_)
    refine L42 _ _ z15_1 z15_2 (0 : Int32) h (fun z42_1 z42_2 H locs ls h hH hl => ?_) H locs ls hH (lv_sub hl [1, 2, 0] rfl)
    refine lv_iload_n hx hb dX5_bitsOf_67 rfl (lv_at hl 1 rfl) ?_
    refine lv_bipush (v := 23) hx hb dX5_bitsOf_68 (by decide) ?_
    refine lv_ishl hx hb dX5_bitsOf_70 ?_
    refine lv_fload_n hx hb dX5_bitsOf_71 rfl (lv_at hl 0 rfl) ?_
    refine lv_ldcf hx hb hown (hts _ u_k_X5_57) dX5_bitsOf_72 ?_
    obtain ⟨g8, h⟩ := dc_need h
    refine lv_fmul hx hb dX5_bitsOf_74 g8 ?_
    refine lv_f2i hx hb dX5_bitsOf_75 ?_
    refine lv_iadd hx hb dX5_bitsOf_76 ?_
    refine lv_ldc hx hb hown (hts _ u_k_X5_58) dX5_bitsOf_77 ?_
    refine lv_isub hx hb dX5_bitsOf_79 ?_
    have h := Option.some.inj h
    subst h
    exact ge_i hx hb hr hlocks hQ hK hH hAe rfl dX5_bitsOf_80
  · replace h := dc_neg c1 h
    refine lv_iconst (v := 0) hx hb dX5_bitsOf_6 (by decide) ?_
    have h := Option.some.inj h
    subst h
    exact ge_i hx hb hr hlocks hQ hK hH hAe rfl dX5_bitsOf_7
theorem hd_X9_addUnit : yX9_addUnit.cls = RX9 ∧ yX9_addUnit.cls ≠ "java/lang/invoke/MethodHandle" ∧ yX9_addUnit.cls ≠ "java/lang/invoke/VarHandle" ∧ (parseMethodDescriptor yX9_addUnit.desc).map (fun d => d.parameters.length) = some 4 := by decide +kernel
set_option maxHeartbeats 4000000 in
set_option maxRecDepth 100000 in
theorem mX9_addUnit (l : Launch) (Ts : List Cond) (hTs : ∀ w, w ∈ Ts ↔ w ∈ uT) (D : va_G) (k : Nat → ClassId) (sz : Nat) (a_t : Nat) (a_t_population : Nat) (a_t_area : Nat) (a_t_community : Nat) (a_t_outer : Nat) (a_t_neighbors : Nat) (a_t_lengths : Nat) (a_t_plan : Nat) (t_area : Nat → Int32) (t_community : Nat → Int32) (t_cores : Int32) (t_outer : Nat → Int32) (t_population : Nat → Int32) (t_units : Int32) (v_t_districts : Value) (v_t_hasPlan : Value) (v_t_tolerance : Value) (x1 : Int32) (x2 : Int32) (x3 : Int32) (x4 : Int32) (r : Int32 × (Nat → Int32) × (Nat → Int32) × Int32 × (Nat → Int32) × (Nat → Int32) × Int32) (h : fX9_addUnit t_area t_community t_cores t_outer t_population t_units x1 x2 x3 x4 = some r) : Met l yX9_addUnit (Cond.code yX9_addUnit cX9_addUnit 5 (some .boolean) :: Ts) ({ frames := 0, cells := 0, slots := 0, locals := 0 } : Room) (preM D k [.ref a_t, .int x1, .int x2, .int x3, .int x4] [(a_t, .inr (8, [.int t_units, .ref a_t_population, .ref a_t_area, .ref a_t_community, .ref a_t_outer, .ref a_t_neighbors, .ref a_t_lengths, .int t_cores, v_t_districts, v_t_tolerance, v_t_hasPlan, .ref a_t_plan])), (a_t_population, .inl (k 0, 12, .inl t_population)), (a_t_area, .inl (k 0, 12, .inl t_area)), (a_t_community, .inl (k 0, 12, .inl t_community)), (a_t_outer, .inl (k 0, 12, .inl t_outer))] sz) (postI D k r.1 [(a_t, .inr (8, [.int t_units, .ref a_t_population, .ref a_t_area, .ref a_t_community, .ref a_t_outer, .ref a_t_neighbors, .ref a_t_lengths, .int t_cores, v_t_districts, v_t_tolerance, v_t_hasPlan, .ref a_t_plan])), (a_t_population, .inl (k 0, 12, .inl t_population)), (a_t_area, .inl (k 0, 12, .inl t_area)), (a_t_community, .inl (k 0, 12, .inl t_community)), (a_t_outer, .inl (k 0, 12, .inl t_outer))] [(a_t, .inr (8, [.int r.2.2.2.2.2.2, .ref a_t_population, .ref a_t_area, .ref a_t_community, .ref a_t_outer, .ref a_t_neighbors, .ref a_t_lengths, .int r.2.2.2.1, v_t_districts, v_t_tolerance, v_t_hasPlan, .ref a_t_plan])), (a_t_population, .inl (k 0, 12, .inl r.2.2.2.2.2.1)), (a_t_area, .inl (k 0, 12, .inl r.2.1)), (a_t_community, .inl (k 0, 12, .inl r.2.2.1)), (a_t_outer, .inl (k 0, 12, .inl r.2.2.2.2.1))] sz) 0 0 (va_A [(a_t, .inr (8, [.int t_units, .ref a_t_population, .ref a_t_area, .ref a_t_community, .ref a_t_outer, .ref a_t_neighbors, .ref a_t_lengths, .int t_cores, v_t_districts, v_t_tolerance, v_t_hasPlan, .ref a_t_plan])), (a_t_population, .inl (k 0, 12, .inl t_population)), (a_t_area, .inl (k 0, 12, .inl t_area)), (a_t_community, .inl (k 0, 12, .inl t_community)), (a_t_outer, .inl (k 0, 12, .inl t_outer))] sz) := by
  refine Met.ofW (cc := cX9_addUnit) (maxL := 5) (ret := (some .boolean)) (by decide) rfl ?_
  intro p e s m args below meth c s₁ B hml hv
  obtain ⟨rfl, hsz, hP, hK, hD0⟩ := hv
  have hx := B.exec
  have hb := B.bytes
  have hr := B.returns
  have hts0 := atoms_spec (ws := (Cond.code yX9_addUnit cX9_addUnit 5 (some .boolean) :: Ts)) B.pre
  have hts : ∀ w ∈ uT, w.before _ s = true := fun w h => hts0 w (List.mem_cons_of_mem _ ((hTs w).mpr h))
  clear hts0
  have hown : s.vm.findClass RX9 = some m.cls := findClass_of_methodNamed B.named
  have hlocks := B.notSynchronized
  subst hsz
  have hD := hD0.self (sz := s.heap.size)
  generalize hAe : va_A [(a_t, .inr (8, [.int t_units, .ref a_t_population, .ref a_t_area, .ref a_t_community, .ref a_t_outer, .ref a_t_neighbors, .ref a_t_lengths, .int t_cores, v_t_districts, v_t_tolerance, v_t_hasPlan, .ref a_t_plan])), (a_t_population, .inl (k 0, 12, .inl t_population)), (a_t_area, .inl (k 0, 12, .inl t_area)), (a_t_community, .inl (k 0, 12, .inl t_community)), (a_t_outer, .inl (k 0, 12, .inl t_outer))] s.heap.size = A at hD ⊢
  have hA : ∀ q : Nat, s.heap.size ≤ q → A q := fun q h => by rw [← hAe]; exact Or.inr h
  have hH : HOK D A s.heap [(a_t, .inr (8, [.int t_units, .ref a_t_population, .ref a_t_area, .ref a_t_community, .ref a_t_outer, .ref a_t_neighbors, .ref a_t_lengths, .int t_cores, v_t_districts, v_t_tolerance, v_t_hasPlan, .ref a_t_plan])), (a_t_population, .inl (k 0, 12, .inl t_population)), (a_t_area, .inl (k 0, 12, .inl t_area)), (a_t_community, .inl (k 0, 12, .inl t_community)), (a_t_outer, .inl (k 0, 12, .inl t_outer))] s.heap [] := ⟨hP, hD, va_S.rf⟩
  have hl := lv_entry ([.ref a_t, .int x1, .int x2, .int x3, .int x4]) (n := 5) (Nat.le_of_ble_eq_true rfl)
  rw [lg_entry_eq]
  generalize (lg_sl ([.ref a_t, .int x1, .int x2, .int x3, .int x4]) ++ List.replicate (5 - (lg_sl ([.ref a_t, .int x1, .int x2, .int x3, .int x4])).length) Slot.unset).toArray = ls at hl ⊢
  have hl : lv_has ls 5 [(0, .ref a_t), (1, .int x1), (2, .int x2), (3, .int x3), (4, .int x4)] := hl
  generalize hQ : MQ below (postI D k r.1 [(a_t, .inr (8, [.int t_units, .ref a_t_population, .ref a_t_area, .ref a_t_community, .ref a_t_outer, .ref a_t_neighbors, .ref a_t_lengths, .int t_cores, v_t_districts, v_t_tolerance, v_t_hasPlan, .ref a_t_plan])), (a_t_population, .inl (k 0, 12, .inl t_population)), (a_t_area, .inl (k 0, 12, .inl t_area)), (a_t_community, .inl (k 0, 12, .inl t_community)), (a_t_outer, .inl (k 0, 12, .inl t_outer))] [(a_t, .inr (8, [.int r.2.2.2.2.2.2, .ref a_t_population, .ref a_t_area, .ref a_t_community, .ref a_t_outer, .ref a_t_neighbors, .ref a_t_lengths, .int r.2.2.2.1, v_t_districts, v_t_tolerance, v_t_hasPlan, .ref a_t_plan])), (a_t_population, .inl (k 0, 12, .inl r.2.2.2.2.2.1)), (a_t_area, .inl (k 0, 12, .inl r.2.1)), (a_t_community, .inl (k 0, 12, .inl r.2.2.1)), (a_t_outer, .inl (k 0, 12, .inl r.2.2.2.2.1))] s.heap.size) (List.toArray [.ref a_t, .int x1, .int x2, .int x3, .int x4]) s 0 0 A = Q
  clear hP hD hD0
  suffices K : ∀ (H : Heap) (locs : List Loc), HOK D A s.heap [(a_t, .inr (8, [.int t_units, .ref a_t_population, .ref a_t_area, .ref a_t_community, .ref a_t_outer, .ref a_t_neighbors, .ref a_t_lengths, .int t_cores, v_t_districts, v_t_tolerance, v_t_hasPlan, .ref a_t_plan])), (a_t_population, .inl (k 0, 12, .inl t_population)), (a_t_area, .inl (k 0, 12, .inl t_area)), (a_t_community, .inl (k 0, 12, .inl t_community)), (a_t_outer, .inl (k 0, 12, .inl t_outer))] H locs → W p l e ({ frames := 0, cells := 0, slots := 0, locals := 0 } : Room) s m (List.toArray [.ref a_t, .int x1, .int x2, .int x3, .int x4]) below meth c H locs 0 0 Q (F0 m 0 ls []) from K s.heap [] hH
  intro H locs hH
  rw [fX9_addUnit] at h
  refine lv_aload_n hx hb dX9_addUnit_0 rfl (lv_at hl 0 rfl) ?_
  refine gk_get (ci := 8) (C := RX9) (T := TX9) (N := 12) hx hb hts u_ws_X9 hown hK hH 0 rfl rfl 0 (by decide) u_fl_X9_9 rfl dX9_addUnit_1 ?_
  refine lv_bipush (v := 12) hx hb dX9_addUnit_4 (by decide) ?_
  refine lv_icmp_ge (tgt := 22) hx hb dX9_addUnit_6 (by decide) (fun c1 => ?_) (fun c1 => ?_)
  · replace h := dc_pos c1 h
    refine lv_iconst (v := 0) hx hb dX9_addUnit_22 (by decide) ?_
    have h := Option.some.inj h
    subst h
    exact ge_z hx hb hr rfl hlocks hQ hK hH hAe rfl dX9_addUnit_23
  · replace h := dc_neg c1 h
    refine lv_iload_n hx hb dX9_addUnit_9 rfl (lv_at hl 1 rfl) ?_
    refine lv_if_eq (tgt := 22) hx hb dX9_addUnit_10 (by decide) (fun c2 => ?_) (fun c2 => ?_)
    · replace h := dc_pos c2 h
      refine lv_iconst (v := 0) hx hb dX9_addUnit_22 (by decide) ?_
      have h := Option.some.inj h
      subst h
      exact ge_z hx hb hr rfl hlocks hQ hK hH hAe rfl dX9_addUnit_23
    · replace h := dc_neg c2 h
      refine lv_iload_n hx hb dX9_addUnit_13 rfl (lv_at hl 2 rfl) ?_
      refine lv_if_eq (tgt := 22) hx hb dX9_addUnit_14 (by decide) (fun c3 => ?_) (fun c3 => ?_)
      · replace h := dc_pos c3 h
        refine lv_iconst (v := 0) hx hb dX9_addUnit_22 (by decide) ?_
        have h := Option.some.inj h
        subst h
        exact ge_z hx hb hr rfl hlocks hQ hK hH hAe rfl dX9_addUnit_23
      · replace h := dc_neg c3 h
        refine lv_iload_n hx hb dX9_addUnit_17 rfl (lv_at hl 3 rfl) ?_
        refine lv_iconst (v := 4) hx hb dX9_addUnit_18 (by decide) ?_
        refine lv_icmp_lt (tgt := 24) hx hb dX9_addUnit_19 (by decide) (fun c4 => ?_) (fun c4 => ?_)
        · replace h := dc_pos c4 h
          refine lv_aload_n hx hb dX9_addUnit_24 rfl (lv_at hl 0 rfl) ?_
          refine gk_get (ci := 8) (C := RX9) (T := TX9) (N := 12) hx hb hts u_ws_X9 hown hK hH 0 rfl rfl 1 (by decide) u_fl_X9_15 rfl dX9_addUnit_25 ?_
          refine lv_aload_n hx hb dX9_addUnit_28 rfl (lv_at hl 0 rfl) ?_
          refine gk_get (ci := 8) (C := RX9) (T := TX9) (N := 12) hx hb hts u_ws_X9 hown hK hH 0 rfl rfl 0 (by decide) u_fl_X9_9 rfl dX9_addUnit_29 ?_
          refine lv_iload_n hx hb dX9_addUnit_32 rfl (lv_at hl 1 rfl) ?_
          obtain ⟨g5, h⟩ := dc_need h
          refine gk_iast hx hb hK hH 1 rfl (dk_in g5) dX9_addUnit_33 [(a_t, .inr (8, [.int t_units, .ref a_t_population, .ref a_t_area, .ref a_t_community, .ref a_t_outer, .ref a_t_neighbors, .ref a_t_lengths, .int t_cores, v_t_districts, v_t_tolerance, v_t_hasPlan, .ref a_t_plan])), (a_t_population, .inl (k 0, 12, .inl (upd t_population t_units.toNatClampNeg x1))), (a_t_area, .inl (k 0, 12, .inl t_area)), (a_t_community, .inl (k 0, 12, .inl t_community)), (a_t_outer, .inl (k 0, 12, .inl t_outer))] rfl (fun H locs hH => ?_)
          refine lv_aload_n hx hb dX9_addUnit_34 rfl (lv_at hl 0 rfl) ?_
          refine gk_get (ci := 8) (C := RX9) (T := TX9) (N := 12) hx hb hts u_ws_X9 hown hK hH 0 rfl rfl 2 (by decide) u_fl_X9_19 rfl dX9_addUnit_35 ?_
          refine lv_aload_n hx hb dX9_addUnit_38 rfl (lv_at hl 0 rfl) ?_
          refine gk_get (ci := 8) (C := RX9) (T := TX9) (N := 12) hx hb hts u_ws_X9 hown hK hH 0 rfl rfl 0 (by decide) u_fl_X9_9 rfl dX9_addUnit_39 ?_
          refine lv_iload_n hx hb dX9_addUnit_42 rfl (lv_at hl 2 rfl) ?_
          obtain ⟨g6, h⟩ := dc_need h
          refine gk_iast hx hb hK hH 2 rfl (dk_in g6) dX9_addUnit_43 [(a_t, .inr (8, [.int t_units, .ref a_t_population, .ref a_t_area, .ref a_t_community, .ref a_t_outer, .ref a_t_neighbors, .ref a_t_lengths, .int t_cores, v_t_districts, v_t_tolerance, v_t_hasPlan, .ref a_t_plan])), (a_t_population, .inl (k 0, 12, .inl (upd t_population t_units.toNatClampNeg x1))), (a_t_area, .inl (k 0, 12, .inl (upd t_area t_units.toNatClampNeg x2))), (a_t_community, .inl (k 0, 12, .inl t_community)), (a_t_outer, .inl (k 0, 12, .inl t_outer))] rfl (fun H locs hH => ?_)
          refine lv_aload_n hx hb dX9_addUnit_44 rfl (lv_at hl 0 rfl) ?_
          refine gk_get (ci := 8) (C := RX9) (T := TX9) (N := 12) hx hb hts u_ws_X9 hown hK hH 0 rfl rfl 3 (by decide) u_fl_X9_22 rfl dX9_addUnit_45 ?_
          refine lv_aload_n hx hb dX9_addUnit_48 rfl (lv_at hl 0 rfl) ?_
          refine gk_get (ci := 8) (C := RX9) (T := TX9) (N := 12) hx hb hts u_ws_X9 hown hK hH 0 rfl rfl 0 (by decide) u_fl_X9_9 rfl dX9_addUnit_49 ?_
          refine lv_iload_n hx hb dX9_addUnit_52 rfl (lv_at hl 3 rfl) ?_
          obtain ⟨g7, h⟩ := dc_need h
          refine gk_iast hx hb hK hH 3 rfl (dk_in g7) dX9_addUnit_53 [(a_t, .inr (8, [.int t_units, .ref a_t_population, .ref a_t_area, .ref a_t_community, .ref a_t_outer, .ref a_t_neighbors, .ref a_t_lengths, .int t_cores, v_t_districts, v_t_tolerance, v_t_hasPlan, .ref a_t_plan])), (a_t_population, .inl (k 0, 12, .inl (upd t_population t_units.toNatClampNeg x1))), (a_t_area, .inl (k 0, 12, .inl (upd t_area t_units.toNatClampNeg x2))), (a_t_community, .inl (k 0, 12, .inl (upd t_community t_units.toNatClampNeg x3))), (a_t_outer, .inl (k 0, 12, .inl t_outer))] rfl (fun H locs hH => ?_)
          refine lv_aload_n hx hb dX9_addUnit_54 rfl (lv_at hl 0 rfl) ?_
          refine gk_get (ci := 8) (C := RX9) (T := TX9) (N := 12) hx hb hts u_ws_X9 hown hK hH 0 rfl rfl 4 (by decide) u_fl_X9_25 rfl dX9_addUnit_55 ?_
          refine lv_aload_n hx hb dX9_addUnit_58 rfl (lv_at hl 0 rfl) ?_
          refine gk_get (ci := 8) (C := RX9) (T := TX9) (N := 12) hx hb hts u_ws_X9 hown hK hH 0 rfl rfl 0 (by decide) u_fl_X9_9 rfl dX9_addUnit_59 ?_
          refine lv_iconst (v := 0) hx hb dX9_addUnit_62 (by decide) ?_
          obtain ⟨g8, h⟩ := dc_need h
          refine gk_iast hx hb hK hH 4 rfl (dk_in g8) dX9_addUnit_63 [(a_t, .inr (8, [.int t_units, .ref a_t_population, .ref a_t_area, .ref a_t_community, .ref a_t_outer, .ref a_t_neighbors, .ref a_t_lengths, .int t_cores, v_t_districts, v_t_tolerance, v_t_hasPlan, .ref a_t_plan])), (a_t_population, .inl (k 0, 12, .inl (upd t_population t_units.toNatClampNeg x1))), (a_t_area, .inl (k 0, 12, .inl (upd t_area t_units.toNatClampNeg x2))), (a_t_community, .inl (k 0, 12, .inl (upd t_community t_units.toNatClampNeg x3))), (a_t_outer, .inl (k 0, 12, .inl (upd t_outer t_units.toNatClampNeg (0 : Int32))))] rfl (fun H locs hH => ?_)
          refine lv_iload hx hb dX9_addUnit_64 (lv_at hl 4 rfl) ?_
          refine lv_if_eq (tgt := 84) hx hb dX9_addUnit_66 (by decide) (fun c9 => ?_) (fun c9 => ?_)
          · replace h := dc_pos c9 h
            refine lv_aload_n hx hb dX9_addUnit_84 rfl (lv_at hl 0 rfl) ?_
            refine lv_dup hx hb dX9_addUnit_85 rfl ?_
            refine gk_get (ci := 8) (C := RX9) (T := TX9) (N := 12) hx hb hts u_ws_X9 hown hK hH 0 rfl rfl 0 (by decide) u_fl_X9_9 rfl dX9_addUnit_86 ?_
            refine lv_iconst (v := 1) hx hb dX9_addUnit_89 (by decide) ?_
            refine lv_iadd hx hb dX9_addUnit_90 ?_
            refine gk_put (ci := 8) (C := RX9) (T := TX9) (N := 12) hx hb hts u_ws_X9 tyX9_ok nmX9 hown hK hH 0 rfl rfl 0 (by decide) u_fl_X9_9 rfl rfl rfl (by decide) dX9_addUnit_91 [(a_t, .inr (8, [.int (t_units + (1 : Int32)), .ref a_t_population, .ref a_t_area, .ref a_t_community, .ref a_t_outer, .ref a_t_neighbors, .ref a_t_lengths, .int t_cores, v_t_districts, v_t_tolerance, v_t_hasPlan, .ref a_t_plan])), (a_t_population, .inl (k 0, 12, .inl (upd t_population t_units.toNatClampNeg x1))), (a_t_area, .inl (k 0, 12, .inl (upd t_area t_units.toNatClampNeg x2))), (a_t_community, .inl (k 0, 12, .inl (upd t_community t_units.toNatClampNeg x3))), (a_t_outer, .inl (k 0, 12, .inl (upd t_outer t_units.toNatClampNeg (0 : Int32))))] rfl (fun H locs hH => ?_)
            refine lv_iconst (v := 1) hx hb dX9_addUnit_94 (by decide) ?_
            have h := Option.some.inj h
            subst h
            exact ge_z hx hb hr rfl hlocks hQ hK hH hAe rfl dX9_addUnit_95
          · replace h := dc_neg c9 h
            refine lv_aload_n hx hb dX9_addUnit_69 rfl (lv_at hl 0 rfl) ?_
            refine lv_dup hx hb dX9_addUnit_70 rfl ?_
            refine gk_get (ci := 8) (C := RX9) (T := TX9) (N := 12) hx hb hts u_ws_X9 hown hK hH 0 rfl rfl 7 (by decide) u_fl_X9_34 rfl dX9_addUnit_71 ?_
            refine lv_iconst (v := 1) hx hb dX9_addUnit_74 (by decide) ?_
            refine lv_aload_n hx hb dX9_addUnit_75 rfl (lv_at hl 0 rfl) ?_
            refine gk_get (ci := 8) (C := RX9) (T := TX9) (N := 12) hx hb hts u_ws_X9 hown hK hH 0 rfl rfl 0 (by decide) u_fl_X9_9 rfl dX9_addUnit_76 ?_
            refine lv_ishl hx hb dX9_addUnit_79 ?_
            refine lv_ior hx hb dX9_addUnit_80 ?_
            refine gk_put (ci := 8) (C := RX9) (T := TX9) (N := 12) hx hb hts u_ws_X9 tyX9_ok nmX9 hown hK hH 0 rfl rfl 7 (by decide) u_fl_X9_34 rfl rfl rfl (by decide) dX9_addUnit_81 [(a_t, .inr (8, [.int t_units, .ref a_t_population, .ref a_t_area, .ref a_t_community, .ref a_t_outer, .ref a_t_neighbors, .ref a_t_lengths, .int (t_cores ||| ((1 : Int32) <<< (t_units &&& 31))), v_t_districts, v_t_tolerance, v_t_hasPlan, .ref a_t_plan])), (a_t_population, .inl (k 0, 12, .inl (upd t_population t_units.toNatClampNeg x1))), (a_t_area, .inl (k 0, 12, .inl (upd t_area t_units.toNatClampNeg x2))), (a_t_community, .inl (k 0, 12, .inl (upd t_community t_units.toNatClampNeg x3))), (a_t_outer, .inl (k 0, 12, .inl (upd t_outer t_units.toNatClampNeg (0 : Int32))))] rfl (fun H locs hH => ?_)
            refine lv_aload_n hx hb dX9_addUnit_84 rfl (lv_at hl 0 rfl) ?_
            refine lv_dup hx hb dX9_addUnit_85 rfl ?_
            refine gk_get (ci := 8) (C := RX9) (T := TX9) (N := 12) hx hb hts u_ws_X9 hown hK hH 0 rfl rfl 0 (by decide) u_fl_X9_9 rfl dX9_addUnit_86 ?_
            refine lv_iconst (v := 1) hx hb dX9_addUnit_89 (by decide) ?_
            refine lv_iadd hx hb dX9_addUnit_90 ?_
            refine gk_put (ci := 8) (C := RX9) (T := TX9) (N := 12) hx hb hts u_ws_X9 tyX9_ok nmX9 hown hK hH 0 rfl rfl 0 (by decide) u_fl_X9_9 rfl rfl rfl (by decide) dX9_addUnit_91 [(a_t, .inr (8, [.int (t_units + (1 : Int32)), .ref a_t_population, .ref a_t_area, .ref a_t_community, .ref a_t_outer, .ref a_t_neighbors, .ref a_t_lengths, .int (t_cores ||| ((1 : Int32) <<< (t_units &&& 31))), v_t_districts, v_t_tolerance, v_t_hasPlan, .ref a_t_plan])), (a_t_population, .inl (k 0, 12, .inl (upd t_population t_units.toNatClampNeg x1))), (a_t_area, .inl (k 0, 12, .inl (upd t_area t_units.toNatClampNeg x2))), (a_t_community, .inl (k 0, 12, .inl (upd t_community t_units.toNatClampNeg x3))), (a_t_outer, .inl (k 0, 12, .inl (upd t_outer t_units.toNatClampNeg (0 : Int32))))] rfl (fun H locs hH => ?_)
            refine lv_iconst (v := 1) hx hb dX9_addUnit_94 (by decide) ?_
            have h := Option.some.inj h
            subst h
            exact ge_z hx hb hr rfl hlocks hQ hK hH hAe rfl dX9_addUnit_95
        · replace h := dc_neg c4 h
          refine lv_iconst (v := 0) hx hb dX9_addUnit_22 (by decide) ?_
          have h := Option.some.inj h
          subst h
          exact ge_z hx hb hr rfl hlocks hQ hK hH hAe rfl dX9_addUnit_23
theorem hd_X9_setLength : yX9_setLength.cls = RX9 ∧ yX9_setLength.cls ≠ "java/lang/invoke/MethodHandle" ∧ yX9_setLength.cls ≠ "java/lang/invoke/VarHandle" ∧ (parseMethodDescriptor yX9_setLength.desc).map (fun d => d.parameters.length) = some 3 := by decide +kernel
set_option maxHeartbeats 4000000 in
set_option maxRecDepth 100000 in
theorem mX9_setLength (l : Launch) (Ts : List Cond) (hTs : ∀ w, w ∈ Ts ↔ w ∈ uT) (D : va_G) (k : Nat → ClassId) (sz : Nat) (a_t : Nat) (a_t_population : Nat) (a_t_area : Nat) (a_t_community : Nat) (a_t_outer : Nat) (a_t_neighbors : Nat) (a_t_lengths : Nat) (a_t_plan : Nat) (t_lengths : Nat → Int32) (t_neighbors : Nat → Int32) (t_units : Int32) (v_t_cores : Value) (v_t_districts : Value) (v_t_hasPlan : Value) (v_t_tolerance : Value) (x1 : Int32) (x2 : Int32) (x3 : Int32) (r : Int32 × (Nat → Int32) × (Nat → Int32)) (h : fX9_setLength t_lengths t_neighbors t_units x1 x2 x3 = some r) : Met l yX9_setLength (Cond.code yX9_setLength cX9_setLength 4 (some .boolean) :: Ts) ({ frames := 1, cells := 0, slots := 0, locals := 22 } : Room) (preM D k [.ref a_t, .int x1, .int x2, .int x3] [(a_t, .inr (8, [.int t_units, .ref a_t_population, .ref a_t_area, .ref a_t_community, .ref a_t_outer, .ref a_t_neighbors, .ref a_t_lengths, v_t_cores, v_t_districts, v_t_tolerance, v_t_hasPlan, .ref a_t_plan])), (a_t_lengths, .inl (k 0, 144, .inl t_lengths)), (a_t_neighbors, .inl (k 0, 12, .inl t_neighbors))] sz) (postI D k r.1 [(a_t, .inr (8, [.int t_units, .ref a_t_population, .ref a_t_area, .ref a_t_community, .ref a_t_outer, .ref a_t_neighbors, .ref a_t_lengths, v_t_cores, v_t_districts, v_t_tolerance, v_t_hasPlan, .ref a_t_plan])), (a_t_lengths, .inl (k 0, 144, .inl t_lengths)), (a_t_neighbors, .inl (k 0, 12, .inl t_neighbors))] [(a_t, .inr (8, [.int t_units, .ref a_t_population, .ref a_t_area, .ref a_t_community, .ref a_t_outer, .ref a_t_neighbors, .ref a_t_lengths, v_t_cores, v_t_districts, v_t_tolerance, v_t_hasPlan, .ref a_t_plan])), (a_t_lengths, .inl (k 0, 144, .inl r.2.1)), (a_t_neighbors, .inl (k 0, 12, .inl r.2.2))] sz) 0 0 (va_A [(a_t, .inr (8, [.int t_units, .ref a_t_population, .ref a_t_area, .ref a_t_community, .ref a_t_outer, .ref a_t_neighbors, .ref a_t_lengths, v_t_cores, v_t_districts, v_t_tolerance, v_t_hasPlan, .ref a_t_plan])), (a_t_lengths, .inl (k 0, 144, .inl t_lengths)), (a_t_neighbors, .inl (k 0, 12, .inl t_neighbors))] sz) := by
  refine Met.ofW (cc := cX9_setLength) (maxL := 4) (ret := (some .boolean)) (by decide) rfl ?_
  intro p e s m args below meth c s₁ B hml hv
  obtain ⟨rfl, hsz, hP, hK, hD0⟩ := hv
  have hx := B.exec
  have hb := B.bytes
  have hr := B.returns
  have hts0 := atoms_spec (ws := (Cond.code yX9_setLength cX9_setLength 4 (some .boolean) :: Ts)) B.pre
  have hts : ∀ w ∈ uT, w.before _ s = true := fun w h => hts0 w (List.mem_cons_of_mem _ ((hTs w).mpr h))
  clear hts0
  have hown : s.vm.findClass RX9 = some m.cls := findClass_of_methodNamed B.named
  have hlocks := B.notSynchronized
  subst hsz
  have hD := hD0.self (sz := s.heap.size)
  generalize hAe : va_A [(a_t, .inr (8, [.int t_units, .ref a_t_population, .ref a_t_area, .ref a_t_community, .ref a_t_outer, .ref a_t_neighbors, .ref a_t_lengths, v_t_cores, v_t_districts, v_t_tolerance, v_t_hasPlan, .ref a_t_plan])), (a_t_lengths, .inl (k 0, 144, .inl t_lengths)), (a_t_neighbors, .inl (k 0, 12, .inl t_neighbors))] s.heap.size = A at hD ⊢
  have hA : ∀ q : Nat, s.heap.size ≤ q → A q := fun q h => by rw [← hAe]; exact Or.inr h
  have hH : HOK D A s.heap [(a_t, .inr (8, [.int t_units, .ref a_t_population, .ref a_t_area, .ref a_t_community, .ref a_t_outer, .ref a_t_neighbors, .ref a_t_lengths, v_t_cores, v_t_districts, v_t_tolerance, v_t_hasPlan, .ref a_t_plan])), (a_t_lengths, .inl (k 0, 144, .inl t_lengths)), (a_t_neighbors, .inl (k 0, 12, .inl t_neighbors))] s.heap [] := ⟨hP, hD, va_S.rf⟩
  have hl := lv_entry ([.ref a_t, .int x1, .int x2, .int x3]) (n := 4) (Nat.le_of_ble_eq_true rfl)
  rw [lg_entry_eq]
  generalize (lg_sl ([.ref a_t, .int x1, .int x2, .int x3]) ++ List.replicate (4 - (lg_sl ([.ref a_t, .int x1, .int x2, .int x3])).length) Slot.unset).toArray = ls at hl ⊢
  have hl : lv_has ls 4 [(0, .ref a_t), (1, .int x1), (2, .int x2), (3, .int x3)] := hl
  generalize hQ : MQ below (postI D k r.1 [(a_t, .inr (8, [.int t_units, .ref a_t_population, .ref a_t_area, .ref a_t_community, .ref a_t_outer, .ref a_t_neighbors, .ref a_t_lengths, v_t_cores, v_t_districts, v_t_tolerance, v_t_hasPlan, .ref a_t_plan])), (a_t_lengths, .inl (k 0, 144, .inl t_lengths)), (a_t_neighbors, .inl (k 0, 12, .inl t_neighbors))] [(a_t, .inr (8, [.int t_units, .ref a_t_population, .ref a_t_area, .ref a_t_community, .ref a_t_outer, .ref a_t_neighbors, .ref a_t_lengths, v_t_cores, v_t_districts, v_t_tolerance, v_t_hasPlan, .ref a_t_plan])), (a_t_lengths, .inl (k 0, 144, .inl r.2.1)), (a_t_neighbors, .inl (k 0, 12, .inl r.2.2))] s.heap.size) (List.toArray [.ref a_t, .int x1, .int x2, .int x3]) s 0 0 A = Q
  clear hP hD hD0
  suffices K : ∀ (H : Heap) (locs : List Loc), HOK D A s.heap [(a_t, .inr (8, [.int t_units, .ref a_t_population, .ref a_t_area, .ref a_t_community, .ref a_t_outer, .ref a_t_neighbors, .ref a_t_lengths, v_t_cores, v_t_districts, v_t_tolerance, v_t_hasPlan, .ref a_t_plan])), (a_t_lengths, .inl (k 0, 144, .inl t_lengths)), (a_t_neighbors, .inl (k 0, 12, .inl t_neighbors))] H locs → W p l e ({ frames := 1, cells := 0, slots := 0, locals := 22 } : Room) s m (List.toArray [.ref a_t, .int x1, .int x2, .int x3]) below meth c H locs 0 0 Q (F0 m 0 ls []) from K s.heap [] hH
  intro H locs hH
  rw [fX9_setLength] at h
  refine lv_iload_n hx hb dX9_setLength_0 rfl (lv_at hl 1 rfl) ?_
  refine lv_aload_n hx hb dX9_setLength_1 rfl (lv_at hl 0 rfl) ?_
  refine gk_get (ci := 8) (C := RX9) (T := TX9) (N := 12) hx hb hts u_ws_X9 hown hK hH 0 rfl rfl 0 (by decide) u_fl_X9_9 rfl dX9_setLength_2 ?_
  refine lv_icmp_ge (tgt := 21) hx hb dX9_setLength_5 (by decide) (fun c1 => ?_) (fun c1 => ?_)
  · replace h := dc_pos c1 h
    refine lv_iconst (v := 0) hx hb dX9_setLength_21 (by decide) ?_
    have h := Option.some.inj h
    subst h
    exact ge_z hx hb hr rfl hlocks hQ hK hH hAe rfl dX9_setLength_22
  · replace h := dc_neg c1 h
    refine lv_iload_n hx hb dX9_setLength_8 rfl (lv_at hl 2 rfl) ?_
    refine lv_aload_n hx hb dX9_setLength_9 rfl (lv_at hl 0 rfl) ?_
    refine gk_get (ci := 8) (C := RX9) (T := TX9) (N := 12) hx hb hts u_ws_X9 hown hK hH 0 rfl rfl 0 (by decide) u_fl_X9_9 rfl dX9_setLength_10 ?_
    refine lv_icmp_ge (tgt := 21) hx hb dX9_setLength_13 (by decide) (fun c2 => ?_) (fun c2 => ?_)
    · replace h := dc_pos c2 h
      refine lv_iconst (v := 0) hx hb dX9_setLength_21 (by decide) ?_
      have h := Option.some.inj h
      subst h
      exact ge_z hx hb hr rfl hlocks hQ hK hH hAe rfl dX9_setLength_22
    · replace h := dc_neg c2 h
      refine lv_iload_n hx hb dX9_setLength_16 rfl (lv_at hl 1 rfl) ?_
      refine lv_iload_n hx hb dX9_setLength_17 rfl (lv_at hl 2 rfl) ?_
      refine lv_icmp_ne (tgt := 23) hx hb dX9_setLength_18 (by decide) (fun c3 => ?_) (fun c3 => ?_)
      · replace h := dc_neg c3 h
        refine lv_iload_n hx hb dX9_setLength_23 rfl (lv_at hl 3 rfl) ?_
        refine lv_if_ne (tgt := 38) hx hb dX9_setLength_24 (by decide) (fun c4 => ?_) (fun c4 => ?_)
        · replace h := dc_neg c4 h
          refine lv_aload_n hx hb dX9_setLength_38 rfl (lv_at hl 0 rfl) ?_
          refine gk_get (ci := 8) (C := RX9) (T := TX9) (N := 12) hx hb hts u_ws_X9 hown hK hH 0 rfl rfl 6 (by decide) u_fl_X9_31 rfl dX9_setLength_39 ?_
          refine lv_iload_n hx hb dX9_setLength_42 rfl (lv_at hl 1 rfl) ?_
          refine lv_bipush (v := 12) hx hb dX9_setLength_43 (by decide) ?_
          refine lv_imul hx hb dX9_setLength_45 ?_
          refine lv_iload_n hx hb dX9_setLength_46 rfl (lv_at hl 2 rfl) ?_
          refine lv_iadd hx hb dX9_setLength_47 ?_
          refine lv_iload_n hx hb dX9_setLength_48 rfl (lv_at hl 3 rfl) ?_
          obtain ⟨g18, h⟩ := dc_need h
          refine gk_iast hx hb hK hH 1 rfl (dk_in g18) dX9_setLength_49 [(a_t, .inr (8, [.int t_units, .ref a_t_population, .ref a_t_area, .ref a_t_community, .ref a_t_outer, .ref a_t_neighbors, .ref a_t_lengths, v_t_cores, v_t_districts, v_t_tolerance, v_t_hasPlan, .ref a_t_plan])), (a_t_lengths, .inl (k 0, 144, .inl (upd t_lengths ((x1 * (12 : Int32)) + x2).toNatClampNeg x3))), (a_t_neighbors, .inl (k 0, 12, .inl t_neighbors))] rfl (fun H locs hH => ?_)
          refine lv_aload_n hx hb dX9_setLength_50 rfl (lv_at hl 0 rfl) ?_
          refine gk_get (ci := 8) (C := RX9) (T := TX9) (N := 12) hx hb hts u_ws_X9 hown hK hH 0 rfl rfl 6 (by decide) u_fl_X9_31 rfl dX9_setLength_51 ?_
          refine lv_iload_n hx hb dX9_setLength_54 rfl (lv_at hl 2 rfl) ?_
          refine lv_bipush (v := 12) hx hb dX9_setLength_55 (by decide) ?_
          refine lv_imul hx hb dX9_setLength_57 ?_
          refine lv_iload_n hx hb dX9_setLength_58 rfl (lv_at hl 1 rfl) ?_
          refine lv_iadd hx hb dX9_setLength_59 ?_
          refine lv_iload_n hx hb dX9_setLength_60 rfl (lv_at hl 3 rfl) ?_
          obtain ⟨g19, h⟩ := dc_need h
          refine gk_iast hx hb hK hH 1 rfl (dk_in g19) dX9_setLength_61 [(a_t, .inr (8, [.int t_units, .ref a_t_population, .ref a_t_area, .ref a_t_community, .ref a_t_outer, .ref a_t_neighbors, .ref a_t_lengths, v_t_cores, v_t_districts, v_t_tolerance, v_t_hasPlan, .ref a_t_plan])), (a_t_lengths, .inl (k 0, 144, .inl (upd (upd t_lengths ((x1 * (12 : Int32)) + x2).toNatClampNeg x3) ((x2 * (12 : Int32)) + x1).toNatClampNeg x3))), (a_t_neighbors, .inl (k 0, 12, .inl t_neighbors))] rfl (fun H locs hH => ?_)
          refine lv_aload_n hx hb dX9_setLength_62 rfl (lv_at hl 0 rfl) ?_
          refine gk_get (ci := 8) (C := RX9) (T := TX9) (N := 12) hx hb hts u_ws_X9 hown hK hH 0 rfl rfl 5 (by decide) u_fl_X9_28 rfl dX9_setLength_63 ?_
          refine lv_iload_n hx hb dX9_setLength_66 rfl (lv_at hl 1 rfl) ?_
          refine lv_dup2_11 hx hb dX9_setLength_67 rfl rfl ?_
          obtain ⟨g20, h⟩ := dc_need h
          refine gk_iald hx hb hK hH 2 rfl (dk_in g20) dX9_setLength_68 ?_
          refine lv_iconst (v := 1) hx hb dX9_setLength_69 (by decide) ?_
          refine lv_iload_n hx hb dX9_setLength_70 rfl (lv_at hl 2 rfl) ?_
          refine lv_ishl hx hb dX9_setLength_71 ?_
          refine lv_iconst (v := -1) hx hb dX9_setLength_72 (by decide) ?_
          refine lv_ixor hx hb dX9_setLength_73 ?_
          refine lv_iand hx hb dX9_setLength_74 ?_
          obtain ⟨g21, h⟩ := dc_need h
          refine gk_iast hx hb hK hH 2 rfl (dk_in g21) dX9_setLength_75 [(a_t, .inr (8, [.int t_units, .ref a_t_population, .ref a_t_area, .ref a_t_community, .ref a_t_outer, .ref a_t_neighbors, .ref a_t_lengths, v_t_cores, v_t_districts, v_t_tolerance, v_t_hasPlan, .ref a_t_plan])), (a_t_lengths, .inl (k 0, 144, .inl (upd (upd t_lengths ((x1 * (12 : Int32)) + x2).toNatClampNeg x3) ((x2 * (12 : Int32)) + x1).toNatClampNeg x3))), (a_t_neighbors, .inl (k 0, 12, .inl (upd t_neighbors x1.toNatClampNeg ((t_neighbors x1.toNatClampNeg) &&& (((1 : Int32) <<< (x2 &&& 31)) ^^^ (-1 : Int32))))))] rfl (fun H locs hH => ?_)
          refine lv_aload_n hx hb dX9_setLength_76 rfl (lv_at hl 0 rfl) ?_
          refine gk_get (ci := 8) (C := RX9) (T := TX9) (N := 12) hx hb hts u_ws_X9 hown hK hH 0 rfl rfl 5 (by decide) u_fl_X9_28 rfl dX9_setLength_77 ?_
          refine lv_iload_n hx hb dX9_setLength_80 rfl (lv_at hl 2 rfl) ?_
          refine lv_dup2_11 hx hb dX9_setLength_81 rfl rfl ?_
          obtain ⟨g22, h⟩ := dc_need h
          refine gk_iald hx hb hK hH 2 rfl (dk_in g22) dX9_setLength_82 ?_
          refine lv_iconst (v := 1) hx hb dX9_setLength_83 (by decide) ?_
          refine lv_iload_n hx hb dX9_setLength_84 rfl (lv_at hl 1 rfl) ?_
          refine lv_ishl hx hb dX9_setLength_85 ?_
          refine lv_iconst (v := -1) hx hb dX9_setLength_86 (by decide) ?_
          refine lv_ixor hx hb dX9_setLength_87 ?_
          refine lv_iand hx hb dX9_setLength_88 ?_
          obtain ⟨g23, h⟩ := dc_need h
          refine gk_iast hx hb hK hH 2 rfl (dk_in g23) dX9_setLength_89 [(a_t, .inr (8, [.int t_units, .ref a_t_population, .ref a_t_area, .ref a_t_community, .ref a_t_outer, .ref a_t_neighbors, .ref a_t_lengths, v_t_cores, v_t_districts, v_t_tolerance, v_t_hasPlan, .ref a_t_plan])), (a_t_lengths, .inl (k 0, 144, .inl (upd (upd t_lengths ((x1 * (12 : Int32)) + x2).toNatClampNeg x3) ((x2 * (12 : Int32)) + x1).toNatClampNeg x3))), (a_t_neighbors, .inl (k 0, 12, .inl (upd (upd t_neighbors x1.toNatClampNeg ((t_neighbors x1.toNatClampNeg) &&& (((1 : Int32) <<< (x2 &&& 31)) ^^^ (-1 : Int32)))) x2.toNatClampNeg (((upd t_neighbors x1.toNatClampNeg ((t_neighbors x1.toNatClampNeg) &&& (((1 : Int32) <<< (x2 &&& 31)) ^^^ (-1 : Int32)))) x2.toNatClampNeg) &&& (((1 : Int32) <<< (x1 &&& 31)) ^^^ (-1 : Int32))))))] rfl (fun H locs hH => ?_)
          refine lv_iload_n hx hb dX9_setLength_90 rfl (lv_at hl 3 rfl) ?_
          refine lv_if_le (tgt := 118) hx hb dX9_setLength_91 (by decide) (fun c24 => ?_) (fun c24 => ?_)
          · replace h := dc_pos c24 h
            refine lv_iconst (v := 1) hx hb dX9_setLength_118 (by decide) ?_
            have h := Option.some.inj h
            subst h
            exact ge_z hx hb hr rfl hlocks hQ hK hH hAe rfl dX9_setLength_119
          · replace h := dc_neg c24 h
            refine lv_aload_n hx hb dX9_setLength_94 rfl (lv_at hl 0 rfl) ?_
            refine gk_get (ci := 8) (C := RX9) (T := TX9) (N := 12) hx hb hts u_ws_X9 hown hK hH 0 rfl rfl 5 (by decide) u_fl_X9_28 rfl dX9_setLength_95 ?_
            refine lv_iload_n hx hb dX9_setLength_98 rfl (lv_at hl 1 rfl) ?_
            refine lv_dup2_11 hx hb dX9_setLength_99 rfl rfl ?_
            obtain ⟨g25, h⟩ := dc_need h
            refine gk_iald hx hb hK hH 2 rfl (dk_in g25) dX9_setLength_100 ?_
            refine lv_iconst (v := 1) hx hb dX9_setLength_101 (by decide) ?_
            refine lv_iload_n hx hb dX9_setLength_102 rfl (lv_at hl 2 rfl) ?_
            refine lv_ishl hx hb dX9_setLength_103 ?_
            refine lv_ior hx hb dX9_setLength_104 ?_
            obtain ⟨g26, h⟩ := dc_need h
            refine gk_iast hx hb hK hH 2 rfl (dk_in g26) dX9_setLength_105 [(a_t, .inr (8, [.int t_units, .ref a_t_population, .ref a_t_area, .ref a_t_community, .ref a_t_outer, .ref a_t_neighbors, .ref a_t_lengths, v_t_cores, v_t_districts, v_t_tolerance, v_t_hasPlan, .ref a_t_plan])), (a_t_lengths, .inl (k 0, 144, .inl (upd (upd t_lengths ((x1 * (12 : Int32)) + x2).toNatClampNeg x3) ((x2 * (12 : Int32)) + x1).toNatClampNeg x3))), (a_t_neighbors, .inl (k 0, 12, .inl (upd (upd (upd t_neighbors x1.toNatClampNeg ((t_neighbors x1.toNatClampNeg) &&& (((1 : Int32) <<< (x2 &&& 31)) ^^^ (-1 : Int32)))) x2.toNatClampNeg (((upd t_neighbors x1.toNatClampNeg ((t_neighbors x1.toNatClampNeg) &&& (((1 : Int32) <<< (x2 &&& 31)) ^^^ (-1 : Int32)))) x2.toNatClampNeg) &&& (((1 : Int32) <<< (x1 &&& 31)) ^^^ (-1 : Int32)))) x1.toNatClampNeg (((upd (upd t_neighbors x1.toNatClampNeg ((t_neighbors x1.toNatClampNeg) &&& (((1 : Int32) <<< (x2 &&& 31)) ^^^ (-1 : Int32)))) x2.toNatClampNeg (((upd t_neighbors x1.toNatClampNeg ((t_neighbors x1.toNatClampNeg) &&& (((1 : Int32) <<< (x2 &&& 31)) ^^^ (-1 : Int32)))) x2.toNatClampNeg) &&& (((1 : Int32) <<< (x1 &&& 31)) ^^^ (-1 : Int32)))) x1.toNatClampNeg) ||| ((1 : Int32) <<< (x2 &&& 31))))))] rfl (fun H locs hH => ?_)
            refine lv_aload_n hx hb dX9_setLength_106 rfl (lv_at hl 0 rfl) ?_
            refine gk_get (ci := 8) (C := RX9) (T := TX9) (N := 12) hx hb hts u_ws_X9 hown hK hH 0 rfl rfl 5 (by decide) u_fl_X9_28 rfl dX9_setLength_107 ?_
            refine lv_iload_n hx hb dX9_setLength_110 rfl (lv_at hl 2 rfl) ?_
            refine lv_dup2_11 hx hb dX9_setLength_111 rfl rfl ?_
            obtain ⟨g27, h⟩ := dc_need h
            refine gk_iald hx hb hK hH 2 rfl (dk_in g27) dX9_setLength_112 ?_
            refine lv_iconst (v := 1) hx hb dX9_setLength_113 (by decide) ?_
            refine lv_iload_n hx hb dX9_setLength_114 rfl (lv_at hl 1 rfl) ?_
            refine lv_ishl hx hb dX9_setLength_115 ?_
            refine lv_ior hx hb dX9_setLength_116 ?_
            obtain ⟨g28, h⟩ := dc_need h
            refine gk_iast hx hb hK hH 2 rfl (dk_in g28) dX9_setLength_117 [(a_t, .inr (8, [.int t_units, .ref a_t_population, .ref a_t_area, .ref a_t_community, .ref a_t_outer, .ref a_t_neighbors, .ref a_t_lengths, v_t_cores, v_t_districts, v_t_tolerance, v_t_hasPlan, .ref a_t_plan])), (a_t_lengths, .inl (k 0, 144, .inl (upd (upd t_lengths ((x1 * (12 : Int32)) + x2).toNatClampNeg x3) ((x2 * (12 : Int32)) + x1).toNatClampNeg x3))), (a_t_neighbors, .inl (k 0, 12, .inl (upd (upd (upd (upd t_neighbors x1.toNatClampNeg ((t_neighbors x1.toNatClampNeg) &&& (((1 : Int32) <<< (x2 &&& 31)) ^^^ (-1 : Int32)))) x2.toNatClampNeg (((upd t_neighbors x1.toNatClampNeg ((t_neighbors x1.toNatClampNeg) &&& (((1 : Int32) <<< (x2 &&& 31)) ^^^ (-1 : Int32)))) x2.toNatClampNeg) &&& (((1 : Int32) <<< (x1 &&& 31)) ^^^ (-1 : Int32)))) x1.toNatClampNeg (((upd (upd t_neighbors x1.toNatClampNeg ((t_neighbors x1.toNatClampNeg) &&& (((1 : Int32) <<< (x2 &&& 31)) ^^^ (-1 : Int32)))) x2.toNatClampNeg (((upd t_neighbors x1.toNatClampNeg ((t_neighbors x1.toNatClampNeg) &&& (((1 : Int32) <<< (x2 &&& 31)) ^^^ (-1 : Int32)))) x2.toNatClampNeg) &&& (((1 : Int32) <<< (x1 &&& 31)) ^^^ (-1 : Int32)))) x1.toNatClampNeg) ||| ((1 : Int32) <<< (x2 &&& 31)))) x2.toNatClampNeg (((upd (upd (upd t_neighbors x1.toNatClampNeg ((t_neighbors x1.toNatClampNeg) &&& (((1 : Int32) <<< (x2 &&& 31)) ^^^ (-1 : Int32)))) x2.toNatClampNeg (((upd t_neighbors x1.toNatClampNeg ((t_neighbors x1.toNatClampNeg) &&& (((1 : Int32) <<< (x2 &&& 31)) ^^^ (-1 : Int32)))) x2.toNatClampNeg) &&& (((1 : Int32) <<< (x1 &&& 31)) ^^^ (-1 : Int32)))) x1.toNatClampNeg (((upd (upd t_neighbors x1.toNatClampNeg ((t_neighbors x1.toNatClampNeg) &&& (((1 : Int32) <<< (x2 &&& 31)) ^^^ (-1 : Int32)))) x2.toNatClampNeg (((upd t_neighbors x1.toNatClampNeg ((t_neighbors x1.toNatClampNeg) &&& (((1 : Int32) <<< (x2 &&& 31)) ^^^ (-1 : Int32)))) x2.toNatClampNeg) &&& (((1 : Int32) <<< (x1 &&& 31)) ^^^ (-1 : Int32)))) x1.toNatClampNeg) ||| ((1 : Int32) <<< (x2 &&& 31)))) x2.toNatClampNeg) ||| ((1 : Int32) <<< (x1 &&& 31))))))] rfl (fun H locs hH => ?_)
            refine lv_iconst (v := 1) hx hb dX9_setLength_118 (by decide) ?_
            have h := Option.some.inj h
            subst h
            exact ge_z hx hb hr rfl hlocks hQ hK hH hAe rfl dX9_setLength_119
        · replace h := dc_pos c4 h
          refine lv_aload_n hx hb dX9_setLength_27 rfl (lv_at hl 0 rfl) ?_
          refine lv_iload_n hx hb dX9_setLength_28 rfl (lv_at hl 1 rfl) ?_
          refine lv_iload_n hx hb dX9_setLength_29 rfl (lv_at hl 2 rfl) ?_
          obtain ⟨q5, hqq5, h⟩ := dc_bind h
          refine gc_Vi (ws' := [(a_t, .inr (8, [.int t_units, .ref a_t_population, .ref a_t_area, .ref a_t_community, .ref a_t_outer, .ref a_t_neighbors, .ref a_t_lengths, v_t_cores, v_t_districts, v_t_tolerance, v_t_hasPlan, .ref a_t_plan])), (a_t_lengths, .inl (k 0, 144, .inl t_lengths)), (a_t_neighbors, .inl (k 0, 12, .inl t_neighbors))]) (isC := [0, 1]) (isR := [2]) (As := [.int x1, .int x2]) (rest := []) (n := 2) (ci := 8) (cq := (RX9, TX9, 12)) hTs ⟨hx, hb, hml, hown, hts⟩ (mX9_lengthBetween l Ts hTs D k H.size a_t a_t_population a_t_area a_t_community a_t_outer a_t_neighbors a_t_lengths a_t_plan t_lengths v_t_cores v_t_districts v_t_hasPlan v_t_tolerance (.int t_units) x1 x2 q5 hqq5) u_ml_X9_73 u_im_X9_lengthBetween u_se_X9_lengthBetween u_in_X9 u_co_X9_lengthBetween hd_X9_lengthBetween ⟨Nat.le_of_ble_eq_true rfl, Nat.le_of_ble_eq_true rfl⟩ ⟨rfl, rfl⟩ hK hH hA ⟨rfl, rfl, rfl, rfl, rfl, rfl⟩ rfl rfl rfl rfl hl.1 (by decide) dX9_setLength_30 ⟨Nat.le_of_ble_eq_true rfl, Nat.le_of_ble_eq_true rfl⟩ (fun H locs hH => ?_)
          refine lv_if_ne (tgt := 38) hx hb dX9_setLength_33 (by decide) (fun c6 => ?_) (fun c6 => ?_)
          · replace h := dc_neg c6 h
            refine lv_aload_n hx hb dX9_setLength_38 rfl (lv_at hl 0 rfl) ?_
            refine gk_get (ci := 8) (C := RX9) (T := TX9) (N := 12) hx hb hts u_ws_X9 hown hK hH 0 rfl rfl 6 (by decide) u_fl_X9_31 rfl dX9_setLength_39 ?_
            refine lv_iload_n hx hb dX9_setLength_42 rfl (lv_at hl 1 rfl) ?_
            refine lv_bipush (v := 12) hx hb dX9_setLength_43 (by decide) ?_
            refine lv_imul hx hb dX9_setLength_45 ?_
            refine lv_iload_n hx hb dX9_setLength_46 rfl (lv_at hl 2 rfl) ?_
            refine lv_iadd hx hb dX9_setLength_47 ?_
            refine lv_iload_n hx hb dX9_setLength_48 rfl (lv_at hl 3 rfl) ?_
            obtain ⟨g7, h⟩ := dc_need h
            refine gk_iast hx hb hK hH 1 rfl (dk_in g7) dX9_setLength_49 [(a_t, .inr (8, [.int t_units, .ref a_t_population, .ref a_t_area, .ref a_t_community, .ref a_t_outer, .ref a_t_neighbors, .ref a_t_lengths, v_t_cores, v_t_districts, v_t_tolerance, v_t_hasPlan, .ref a_t_plan])), (a_t_lengths, .inl (k 0, 144, .inl (upd t_lengths ((x1 * (12 : Int32)) + x2).toNatClampNeg x3))), (a_t_neighbors, .inl (k 0, 12, .inl t_neighbors))] rfl (fun H locs hH => ?_)
            refine lv_aload_n hx hb dX9_setLength_50 rfl (lv_at hl 0 rfl) ?_
            refine gk_get (ci := 8) (C := RX9) (T := TX9) (N := 12) hx hb hts u_ws_X9 hown hK hH 0 rfl rfl 6 (by decide) u_fl_X9_31 rfl dX9_setLength_51 ?_
            refine lv_iload_n hx hb dX9_setLength_54 rfl (lv_at hl 2 rfl) ?_
            refine lv_bipush (v := 12) hx hb dX9_setLength_55 (by decide) ?_
            refine lv_imul hx hb dX9_setLength_57 ?_
            refine lv_iload_n hx hb dX9_setLength_58 rfl (lv_at hl 1 rfl) ?_
            refine lv_iadd hx hb dX9_setLength_59 ?_
            refine lv_iload_n hx hb dX9_setLength_60 rfl (lv_at hl 3 rfl) ?_
            obtain ⟨g8, h⟩ := dc_need h
            refine gk_iast hx hb hK hH 1 rfl (dk_in g8) dX9_setLength_61 [(a_t, .inr (8, [.int t_units, .ref a_t_population, .ref a_t_area, .ref a_t_community, .ref a_t_outer, .ref a_t_neighbors, .ref a_t_lengths, v_t_cores, v_t_districts, v_t_tolerance, v_t_hasPlan, .ref a_t_plan])), (a_t_lengths, .inl (k 0, 144, .inl (upd (upd t_lengths ((x1 * (12 : Int32)) + x2).toNatClampNeg x3) ((x2 * (12 : Int32)) + x1).toNatClampNeg x3))), (a_t_neighbors, .inl (k 0, 12, .inl t_neighbors))] rfl (fun H locs hH => ?_)
            refine lv_aload_n hx hb dX9_setLength_62 rfl (lv_at hl 0 rfl) ?_
            refine gk_get (ci := 8) (C := RX9) (T := TX9) (N := 12) hx hb hts u_ws_X9 hown hK hH 0 rfl rfl 5 (by decide) u_fl_X9_28 rfl dX9_setLength_63 ?_
            refine lv_iload_n hx hb dX9_setLength_66 rfl (lv_at hl 1 rfl) ?_
            refine lv_dup2_11 hx hb dX9_setLength_67 rfl rfl ?_
            obtain ⟨g9, h⟩ := dc_need h
            refine gk_iald hx hb hK hH 2 rfl (dk_in g9) dX9_setLength_68 ?_
            refine lv_iconst (v := 1) hx hb dX9_setLength_69 (by decide) ?_
            refine lv_iload_n hx hb dX9_setLength_70 rfl (lv_at hl 2 rfl) ?_
            refine lv_ishl hx hb dX9_setLength_71 ?_
            refine lv_iconst (v := -1) hx hb dX9_setLength_72 (by decide) ?_
            refine lv_ixor hx hb dX9_setLength_73 ?_
            refine lv_iand hx hb dX9_setLength_74 ?_
            obtain ⟨g10, h⟩ := dc_need h
            refine gk_iast hx hb hK hH 2 rfl (dk_in g10) dX9_setLength_75 [(a_t, .inr (8, [.int t_units, .ref a_t_population, .ref a_t_area, .ref a_t_community, .ref a_t_outer, .ref a_t_neighbors, .ref a_t_lengths, v_t_cores, v_t_districts, v_t_tolerance, v_t_hasPlan, .ref a_t_plan])), (a_t_lengths, .inl (k 0, 144, .inl (upd (upd t_lengths ((x1 * (12 : Int32)) + x2).toNatClampNeg x3) ((x2 * (12 : Int32)) + x1).toNatClampNeg x3))), (a_t_neighbors, .inl (k 0, 12, .inl (upd t_neighbors x1.toNatClampNeg ((t_neighbors x1.toNatClampNeg) &&& (((1 : Int32) <<< (x2 &&& 31)) ^^^ (-1 : Int32))))))] rfl (fun H locs hH => ?_)
            refine lv_aload_n hx hb dX9_setLength_76 rfl (lv_at hl 0 rfl) ?_
            refine gk_get (ci := 8) (C := RX9) (T := TX9) (N := 12) hx hb hts u_ws_X9 hown hK hH 0 rfl rfl 5 (by decide) u_fl_X9_28 rfl dX9_setLength_77 ?_
            refine lv_iload_n hx hb dX9_setLength_80 rfl (lv_at hl 2 rfl) ?_
            refine lv_dup2_11 hx hb dX9_setLength_81 rfl rfl ?_
            obtain ⟨g11, h⟩ := dc_need h
            refine gk_iald hx hb hK hH 2 rfl (dk_in g11) dX9_setLength_82 ?_
            refine lv_iconst (v := 1) hx hb dX9_setLength_83 (by decide) ?_
            refine lv_iload_n hx hb dX9_setLength_84 rfl (lv_at hl 1 rfl) ?_
            refine lv_ishl hx hb dX9_setLength_85 ?_
            refine lv_iconst (v := -1) hx hb dX9_setLength_86 (by decide) ?_
            refine lv_ixor hx hb dX9_setLength_87 ?_
            refine lv_iand hx hb dX9_setLength_88 ?_
            obtain ⟨g12, h⟩ := dc_need h
            refine gk_iast hx hb hK hH 2 rfl (dk_in g12) dX9_setLength_89 [(a_t, .inr (8, [.int t_units, .ref a_t_population, .ref a_t_area, .ref a_t_community, .ref a_t_outer, .ref a_t_neighbors, .ref a_t_lengths, v_t_cores, v_t_districts, v_t_tolerance, v_t_hasPlan, .ref a_t_plan])), (a_t_lengths, .inl (k 0, 144, .inl (upd (upd t_lengths ((x1 * (12 : Int32)) + x2).toNatClampNeg x3) ((x2 * (12 : Int32)) + x1).toNatClampNeg x3))), (a_t_neighbors, .inl (k 0, 12, .inl (upd (upd t_neighbors x1.toNatClampNeg ((t_neighbors x1.toNatClampNeg) &&& (((1 : Int32) <<< (x2 &&& 31)) ^^^ (-1 : Int32)))) x2.toNatClampNeg (((upd t_neighbors x1.toNatClampNeg ((t_neighbors x1.toNatClampNeg) &&& (((1 : Int32) <<< (x2 &&& 31)) ^^^ (-1 : Int32)))) x2.toNatClampNeg) &&& (((1 : Int32) <<< (x1 &&& 31)) ^^^ (-1 : Int32))))))] rfl (fun H locs hH => ?_)
            refine lv_iload_n hx hb dX9_setLength_90 rfl (lv_at hl 3 rfl) ?_
            refine lv_if_le (tgt := 118) hx hb dX9_setLength_91 (by decide) (fun c13 => ?_) (fun c13 => ?_)
            · replace h := dc_pos c13 h
              refine lv_iconst (v := 1) hx hb dX9_setLength_118 (by decide) ?_
              have h := Option.some.inj h
              subst h
              exact ge_z hx hb hr rfl hlocks hQ hK hH hAe rfl dX9_setLength_119
            · replace h := dc_neg c13 h
              refine lv_aload_n hx hb dX9_setLength_94 rfl (lv_at hl 0 rfl) ?_
              refine gk_get (ci := 8) (C := RX9) (T := TX9) (N := 12) hx hb hts u_ws_X9 hown hK hH 0 rfl rfl 5 (by decide) u_fl_X9_28 rfl dX9_setLength_95 ?_
              refine lv_iload_n hx hb dX9_setLength_98 rfl (lv_at hl 1 rfl) ?_
              refine lv_dup2_11 hx hb dX9_setLength_99 rfl rfl ?_
              obtain ⟨g14, h⟩ := dc_need h
              refine gk_iald hx hb hK hH 2 rfl (dk_in g14) dX9_setLength_100 ?_
              refine lv_iconst (v := 1) hx hb dX9_setLength_101 (by decide) ?_
              refine lv_iload_n hx hb dX9_setLength_102 rfl (lv_at hl 2 rfl) ?_
              refine lv_ishl hx hb dX9_setLength_103 ?_
              refine lv_ior hx hb dX9_setLength_104 ?_
              obtain ⟨g15, h⟩ := dc_need h
              refine gk_iast hx hb hK hH 2 rfl (dk_in g15) dX9_setLength_105 [(a_t, .inr (8, [.int t_units, .ref a_t_population, .ref a_t_area, .ref a_t_community, .ref a_t_outer, .ref a_t_neighbors, .ref a_t_lengths, v_t_cores, v_t_districts, v_t_tolerance, v_t_hasPlan, .ref a_t_plan])), (a_t_lengths, .inl (k 0, 144, .inl (upd (upd t_lengths ((x1 * (12 : Int32)) + x2).toNatClampNeg x3) ((x2 * (12 : Int32)) + x1).toNatClampNeg x3))), (a_t_neighbors, .inl (k 0, 12, .inl (upd (upd (upd t_neighbors x1.toNatClampNeg ((t_neighbors x1.toNatClampNeg) &&& (((1 : Int32) <<< (x2 &&& 31)) ^^^ (-1 : Int32)))) x2.toNatClampNeg (((upd t_neighbors x1.toNatClampNeg ((t_neighbors x1.toNatClampNeg) &&& (((1 : Int32) <<< (x2 &&& 31)) ^^^ (-1 : Int32)))) x2.toNatClampNeg) &&& (((1 : Int32) <<< (x1 &&& 31)) ^^^ (-1 : Int32)))) x1.toNatClampNeg (((upd (upd t_neighbors x1.toNatClampNeg ((t_neighbors x1.toNatClampNeg) &&& (((1 : Int32) <<< (x2 &&& 31)) ^^^ (-1 : Int32)))) x2.toNatClampNeg (((upd t_neighbors x1.toNatClampNeg ((t_neighbors x1.toNatClampNeg) &&& (((1 : Int32) <<< (x2 &&& 31)) ^^^ (-1 : Int32)))) x2.toNatClampNeg) &&& (((1 : Int32) <<< (x1 &&& 31)) ^^^ (-1 : Int32)))) x1.toNatClampNeg) ||| ((1 : Int32) <<< (x2 &&& 31))))))] rfl (fun H locs hH => ?_)
              refine lv_aload_n hx hb dX9_setLength_106 rfl (lv_at hl 0 rfl) ?_
              refine gk_get (ci := 8) (C := RX9) (T := TX9) (N := 12) hx hb hts u_ws_X9 hown hK hH 0 rfl rfl 5 (by decide) u_fl_X9_28 rfl dX9_setLength_107 ?_
              refine lv_iload_n hx hb dX9_setLength_110 rfl (lv_at hl 2 rfl) ?_
              refine lv_dup2_11 hx hb dX9_setLength_111 rfl rfl ?_
              obtain ⟨g16, h⟩ := dc_need h
              refine gk_iald hx hb hK hH 2 rfl (dk_in g16) dX9_setLength_112 ?_
              refine lv_iconst (v := 1) hx hb dX9_setLength_113 (by decide) ?_
              refine lv_iload_n hx hb dX9_setLength_114 rfl (lv_at hl 1 rfl) ?_
              refine lv_ishl hx hb dX9_setLength_115 ?_
              refine lv_ior hx hb dX9_setLength_116 ?_
              obtain ⟨g17, h⟩ := dc_need h
              refine gk_iast hx hb hK hH 2 rfl (dk_in g17) dX9_setLength_117 [(a_t, .inr (8, [.int t_units, .ref a_t_population, .ref a_t_area, .ref a_t_community, .ref a_t_outer, .ref a_t_neighbors, .ref a_t_lengths, v_t_cores, v_t_districts, v_t_tolerance, v_t_hasPlan, .ref a_t_plan])), (a_t_lengths, .inl (k 0, 144, .inl (upd (upd t_lengths ((x1 * (12 : Int32)) + x2).toNatClampNeg x3) ((x2 * (12 : Int32)) + x1).toNatClampNeg x3))), (a_t_neighbors, .inl (k 0, 12, .inl (upd (upd (upd (upd t_neighbors x1.toNatClampNeg ((t_neighbors x1.toNatClampNeg) &&& (((1 : Int32) <<< (x2 &&& 31)) ^^^ (-1 : Int32)))) x2.toNatClampNeg (((upd t_neighbors x1.toNatClampNeg ((t_neighbors x1.toNatClampNeg) &&& (((1 : Int32) <<< (x2 &&& 31)) ^^^ (-1 : Int32)))) x2.toNatClampNeg) &&& (((1 : Int32) <<< (x1 &&& 31)) ^^^ (-1 : Int32)))) x1.toNatClampNeg (((upd (upd t_neighbors x1.toNatClampNeg ((t_neighbors x1.toNatClampNeg) &&& (((1 : Int32) <<< (x2 &&& 31)) ^^^ (-1 : Int32)))) x2.toNatClampNeg (((upd t_neighbors x1.toNatClampNeg ((t_neighbors x1.toNatClampNeg) &&& (((1 : Int32) <<< (x2 &&& 31)) ^^^ (-1 : Int32)))) x2.toNatClampNeg) &&& (((1 : Int32) <<< (x1 &&& 31)) ^^^ (-1 : Int32)))) x1.toNatClampNeg) ||| ((1 : Int32) <<< (x2 &&& 31)))) x2.toNatClampNeg (((upd (upd (upd t_neighbors x1.toNatClampNeg ((t_neighbors x1.toNatClampNeg) &&& (((1 : Int32) <<< (x2 &&& 31)) ^^^ (-1 : Int32)))) x2.toNatClampNeg (((upd t_neighbors x1.toNatClampNeg ((t_neighbors x1.toNatClampNeg) &&& (((1 : Int32) <<< (x2 &&& 31)) ^^^ (-1 : Int32)))) x2.toNatClampNeg) &&& (((1 : Int32) <<< (x1 &&& 31)) ^^^ (-1 : Int32)))) x1.toNatClampNeg (((upd (upd t_neighbors x1.toNatClampNeg ((t_neighbors x1.toNatClampNeg) &&& (((1 : Int32) <<< (x2 &&& 31)) ^^^ (-1 : Int32)))) x2.toNatClampNeg (((upd t_neighbors x1.toNatClampNeg ((t_neighbors x1.toNatClampNeg) &&& (((1 : Int32) <<< (x2 &&& 31)) ^^^ (-1 : Int32)))) x2.toNatClampNeg) &&& (((1 : Int32) <<< (x1 &&& 31)) ^^^ (-1 : Int32)))) x1.toNatClampNeg) ||| ((1 : Int32) <<< (x2 &&& 31)))) x2.toNatClampNeg) ||| ((1 : Int32) <<< (x1 &&& 31))))))] rfl (fun H locs hH => ?_)
              refine lv_iconst (v := 1) hx hb dX9_setLength_118 (by decide) ?_
              have h := Option.some.inj h
              subst h
              exact ge_z hx hb hr rfl hlocks hQ hK hH hAe rfl dX9_setLength_119
          · replace h := dc_pos c6 h
            refine lv_iconst (v := 0) hx hb dX9_setLength_36 (by decide) ?_
            have h := Option.some.inj h
            subst h
            exact ge_z hx hb hr rfl hlocks hQ hK hH hAe rfl dX9_setLength_37
      · replace h := dc_pos c3 h
        refine lv_iconst (v := 0) hx hb dX9_setLength_21 (by decide) ?_
        have h := Option.some.inj h
        subst h
        exact ge_z hx hb hr rfl hlocks hQ hK hH hAe rfl dX9_setLength_22
theorem hd_X9_setOuter : yX9_setOuter.cls = RX9 ∧ yX9_setOuter.cls ≠ "java/lang/invoke/MethodHandle" ∧ yX9_setOuter.cls ≠ "java/lang/invoke/VarHandle" ∧ (parseMethodDescriptor yX9_setOuter.desc).map (fun d => d.parameters.length) = some 2 := by decide +kernel
set_option maxHeartbeats 4000000 in
set_option maxRecDepth 100000 in
theorem mX9_setOuter (l : Launch) (Ts : List Cond) (hTs : ∀ w, w ∈ Ts ↔ w ∈ uT) (D : va_G) (k : Nat → ClassId) (sz : Nat) (a_t : Nat) (a_t_population : Nat) (a_t_area : Nat) (a_t_community : Nat) (a_t_outer : Nat) (a_t_neighbors : Nat) (a_t_lengths : Nat) (a_t_plan : Nat) (t_outer : Nat → Int32) (t_units : Int32) (v_t_cores : Value) (v_t_districts : Value) (v_t_hasPlan : Value) (v_t_tolerance : Value) (x1 : Int32) (x2 : Int32) (r : Int32 × (Nat → Int32)) (h : fX9_setOuter t_outer t_units x1 x2 = some r) : Met l yX9_setOuter (Cond.code yX9_setOuter cX9_setOuter 3 (some .boolean) :: Ts) ({ frames := 0, cells := 0, slots := 0, locals := 0 } : Room) (preM D k [.ref a_t, .int x1, .int x2] [(a_t, .inr (8, [.int t_units, .ref a_t_population, .ref a_t_area, .ref a_t_community, .ref a_t_outer, .ref a_t_neighbors, .ref a_t_lengths, v_t_cores, v_t_districts, v_t_tolerance, v_t_hasPlan, .ref a_t_plan])), (a_t_outer, .inl (k 0, 12, .inl t_outer))] sz) (postI D k r.1 [(a_t, .inr (8, [.int t_units, .ref a_t_population, .ref a_t_area, .ref a_t_community, .ref a_t_outer, .ref a_t_neighbors, .ref a_t_lengths, v_t_cores, v_t_districts, v_t_tolerance, v_t_hasPlan, .ref a_t_plan])), (a_t_outer, .inl (k 0, 12, .inl t_outer))] [(a_t, .inr (8, [.int t_units, .ref a_t_population, .ref a_t_area, .ref a_t_community, .ref a_t_outer, .ref a_t_neighbors, .ref a_t_lengths, v_t_cores, v_t_districts, v_t_tolerance, v_t_hasPlan, .ref a_t_plan])), (a_t_outer, .inl (k 0, 12, .inl r.2))] sz) 0 0 (va_A [(a_t, .inr (8, [.int t_units, .ref a_t_population, .ref a_t_area, .ref a_t_community, .ref a_t_outer, .ref a_t_neighbors, .ref a_t_lengths, v_t_cores, v_t_districts, v_t_tolerance, v_t_hasPlan, .ref a_t_plan])), (a_t_outer, .inl (k 0, 12, .inl t_outer))] sz) := by
  refine Met.ofW (cc := cX9_setOuter) (maxL := 3) (ret := (some .boolean)) (by decide) rfl ?_
  intro p e s m args below meth c s₁ B hml hv
  obtain ⟨rfl, hsz, hP, hK, hD0⟩ := hv
  have hx := B.exec
  have hb := B.bytes
  have hr := B.returns
  have hts0 := atoms_spec (ws := (Cond.code yX9_setOuter cX9_setOuter 3 (some .boolean) :: Ts)) B.pre
  have hts : ∀ w ∈ uT, w.before _ s = true := fun w h => hts0 w (List.mem_cons_of_mem _ ((hTs w).mpr h))
  clear hts0
  have hown : s.vm.findClass RX9 = some m.cls := findClass_of_methodNamed B.named
  have hlocks := B.notSynchronized
  subst hsz
  have hD := hD0.self (sz := s.heap.size)
  generalize hAe : va_A [(a_t, .inr (8, [.int t_units, .ref a_t_population, .ref a_t_area, .ref a_t_community, .ref a_t_outer, .ref a_t_neighbors, .ref a_t_lengths, v_t_cores, v_t_districts, v_t_tolerance, v_t_hasPlan, .ref a_t_plan])), (a_t_outer, .inl (k 0, 12, .inl t_outer))] s.heap.size = A at hD ⊢
  have hA : ∀ q : Nat, s.heap.size ≤ q → A q := fun q h => by rw [← hAe]; exact Or.inr h
  have hH : HOK D A s.heap [(a_t, .inr (8, [.int t_units, .ref a_t_population, .ref a_t_area, .ref a_t_community, .ref a_t_outer, .ref a_t_neighbors, .ref a_t_lengths, v_t_cores, v_t_districts, v_t_tolerance, v_t_hasPlan, .ref a_t_plan])), (a_t_outer, .inl (k 0, 12, .inl t_outer))] s.heap [] := ⟨hP, hD, va_S.rf⟩
  have hl := lv_entry ([.ref a_t, .int x1, .int x2]) (n := 3) (Nat.le_of_ble_eq_true rfl)
  rw [lg_entry_eq]
  generalize (lg_sl ([.ref a_t, .int x1, .int x2]) ++ List.replicate (3 - (lg_sl ([.ref a_t, .int x1, .int x2])).length) Slot.unset).toArray = ls at hl ⊢
  have hl : lv_has ls 3 [(0, .ref a_t), (1, .int x1), (2, .int x2)] := hl
  generalize hQ : MQ below (postI D k r.1 [(a_t, .inr (8, [.int t_units, .ref a_t_population, .ref a_t_area, .ref a_t_community, .ref a_t_outer, .ref a_t_neighbors, .ref a_t_lengths, v_t_cores, v_t_districts, v_t_tolerance, v_t_hasPlan, .ref a_t_plan])), (a_t_outer, .inl (k 0, 12, .inl t_outer))] [(a_t, .inr (8, [.int t_units, .ref a_t_population, .ref a_t_area, .ref a_t_community, .ref a_t_outer, .ref a_t_neighbors, .ref a_t_lengths, v_t_cores, v_t_districts, v_t_tolerance, v_t_hasPlan, .ref a_t_plan])), (a_t_outer, .inl (k 0, 12, .inl r.2))] s.heap.size) (List.toArray [.ref a_t, .int x1, .int x2]) s 0 0 A = Q
  clear hP hD hD0
  suffices K : ∀ (H : Heap) (locs : List Loc), HOK D A s.heap [(a_t, .inr (8, [.int t_units, .ref a_t_population, .ref a_t_area, .ref a_t_community, .ref a_t_outer, .ref a_t_neighbors, .ref a_t_lengths, v_t_cores, v_t_districts, v_t_tolerance, v_t_hasPlan, .ref a_t_plan])), (a_t_outer, .inl (k 0, 12, .inl t_outer))] H locs → W p l e ({ frames := 0, cells := 0, slots := 0, locals := 0 } : Room) s m (List.toArray [.ref a_t, .int x1, .int x2]) below meth c H locs 0 0 Q (F0 m 0 ls []) from K s.heap [] hH
  intro H locs hH
  rw [fX9_setOuter] at h
  refine lv_iload_n hx hb dX9_setOuter_0 rfl (lv_at hl 1 rfl) ?_
  refine lv_aload_n hx hb dX9_setOuter_1 rfl (lv_at hl 0 rfl) ?_
  refine gk_get (ci := 8) (C := RX9) (T := TX9) (N := 12) hx hb hts u_ws_X9 hown hK hH 0 rfl rfl 0 (by decide) u_fl_X9_9 rfl dX9_setOuter_2 ?_
  refine lv_icmp_lt (tgt := 10) hx hb dX9_setOuter_5 (by decide) (fun c1 => ?_) (fun c1 => ?_)
  · replace h := dc_pos c1 h
    refine lv_aload_n hx hb dX9_setOuter_10 rfl (lv_at hl 0 rfl) ?_
    refine gk_get (ci := 8) (C := RX9) (T := TX9) (N := 12) hx hb hts u_ws_X9 hown hK hH 0 rfl rfl 4 (by decide) u_fl_X9_25 rfl dX9_setOuter_11 ?_
    refine lv_iload_n hx hb dX9_setOuter_14 rfl (lv_at hl 1 rfl) ?_
    refine lv_iload_n hx hb dX9_setOuter_15 rfl (lv_at hl 2 rfl) ?_
    obtain ⟨g2, h⟩ := dc_need h
    refine gk_iast hx hb hK hH 1 rfl (dk_in g2) dX9_setOuter_16 [(a_t, .inr (8, [.int t_units, .ref a_t_population, .ref a_t_area, .ref a_t_community, .ref a_t_outer, .ref a_t_neighbors, .ref a_t_lengths, v_t_cores, v_t_districts, v_t_tolerance, v_t_hasPlan, .ref a_t_plan])), (a_t_outer, .inl (k 0, 12, .inl (upd t_outer x1.toNatClampNeg x2)))] rfl (fun H locs hH => ?_)
    refine lv_iconst (v := 1) hx hb dX9_setOuter_17 (by decide) ?_
    have h := Option.some.inj h
    subst h
    exact ge_z hx hb hr rfl hlocks hQ hK hH hAe rfl dX9_setOuter_18
  · replace h := dc_neg c1 h
    refine lv_iconst (v := 0) hx hb dX9_setOuter_8 (by decide) ?_
    have h := Option.some.inj h
    subst h
    exact ge_z hx hb hr rfl hlocks hQ hK hH hAe rfl dX9_setOuter_9
theorem hd_X9_removeUnits : yX9_removeUnits.cls = RX9 ∧ yX9_removeUnits.cls ≠ "java/lang/invoke/MethodHandle" ∧ yX9_removeUnits.cls ≠ "java/lang/invoke/VarHandle" ∧ (parseMethodDescriptor yX9_removeUnits.desc).map (fun d => d.parameters.length) = some 0 := by decide +kernel
set_option maxHeartbeats 4000000 in
set_option maxRecDepth 100000 in
theorem mX9_removeUnits (l : Launch) (Ts : List Cond) (hTs : ∀ w, w ∈ Ts ↔ w ∈ uT) (D : va_G) (k : Nat → ClassId) (sz : Nat) (a_t : Nat) (a_t_population : Nat) (a_t_area : Nat) (a_t_community : Nat) (a_t_outer : Nat) (a_t_neighbors : Nat) (a_t_lengths : Nat) (a_t_plan : Nat) (t_lengths : Nat → Int32) (t_neighbors : Nat → Int32) (v_t_cores : Value) (v_t_districts : Value) (v_t_hasPlan : Value) (v_t_tolerance : Value) (v_t_units : Value) (r : Int32 × (Nat → Int32) × (Nat → Int32) × Int32) (h : fX9_removeUnits t_lengths t_neighbors = some r) : Met l yX9_removeUnits (Cond.code yX9_removeUnits cX9_removeUnits 1 none :: Ts) ({ frames := 1, cells := 0, slots := 0, locals := 23 } : Room) (preM D k [.ref a_t] [(a_t, .inr (8, [v_t_units, .ref a_t_population, .ref a_t_area, .ref a_t_community, .ref a_t_outer, .ref a_t_neighbors, .ref a_t_lengths, v_t_cores, v_t_districts, v_t_tolerance, v_t_hasPlan, .ref a_t_plan])), (a_t_neighbors, .inl (k 0, 12, .inl t_neighbors)), (a_t_lengths, .inl (k 0, 144, .inl t_lengths))] sz) (postV D k [(a_t, .inr (8, [v_t_units, .ref a_t_population, .ref a_t_area, .ref a_t_community, .ref a_t_outer, .ref a_t_neighbors, .ref a_t_lengths, v_t_cores, v_t_districts, v_t_tolerance, v_t_hasPlan, .ref a_t_plan])), (a_t_neighbors, .inl (k 0, 12, .inl t_neighbors)), (a_t_lengths, .inl (k 0, 144, .inl t_lengths))] [(a_t, .inr (8, [.int r.2.2.2, .ref a_t_population, .ref a_t_area, .ref a_t_community, .ref a_t_outer, .ref a_t_neighbors, .ref a_t_lengths, .int r.1, v_t_districts, v_t_tolerance, v_t_hasPlan, .ref a_t_plan])), (a_t_neighbors, .inl (k 0, 12, .inl r.2.2.1)), (a_t_lengths, .inl (k 0, 144, .inl r.2.1))] sz) 0 0 (va_A [(a_t, .inr (8, [v_t_units, .ref a_t_population, .ref a_t_area, .ref a_t_community, .ref a_t_outer, .ref a_t_neighbors, .ref a_t_lengths, v_t_cores, v_t_districts, v_t_tolerance, v_t_hasPlan, .ref a_t_plan])), (a_t_neighbors, .inl (k 0, 12, .inl t_neighbors)), (a_t_lengths, .inl (k 0, 144, .inl t_lengths))] sz) := by
  refine Met.ofW (cc := cX9_removeUnits) (maxL := 1) (ret := none) (by decide) rfl ?_
  intro p e s m args below meth c s₁ B hml hv
  obtain ⟨rfl, hsz, hP, hK, hD0⟩ := hv
  have hx := B.exec
  have hb := B.bytes
  have hr := B.returns
  have hts0 := atoms_spec (ws := (Cond.code yX9_removeUnits cX9_removeUnits 1 none :: Ts)) B.pre
  have hts : ∀ w ∈ uT, w.before _ s = true := fun w h => hts0 w (List.mem_cons_of_mem _ ((hTs w).mpr h))
  clear hts0
  have hown : s.vm.findClass RX9 = some m.cls := findClass_of_methodNamed B.named
  have hlocks := B.notSynchronized
  subst hsz
  have hD := hD0.self (sz := s.heap.size)
  generalize hAe : va_A [(a_t, .inr (8, [v_t_units, .ref a_t_population, .ref a_t_area, .ref a_t_community, .ref a_t_outer, .ref a_t_neighbors, .ref a_t_lengths, v_t_cores, v_t_districts, v_t_tolerance, v_t_hasPlan, .ref a_t_plan])), (a_t_neighbors, .inl (k 0, 12, .inl t_neighbors)), (a_t_lengths, .inl (k 0, 144, .inl t_lengths))] s.heap.size = A at hD ⊢
  have hA : ∀ q : Nat, s.heap.size ≤ q → A q := fun q h => by rw [← hAe]; exact Or.inr h
  have hH : HOK D A s.heap [(a_t, .inr (8, [v_t_units, .ref a_t_population, .ref a_t_area, .ref a_t_community, .ref a_t_outer, .ref a_t_neighbors, .ref a_t_lengths, v_t_cores, v_t_districts, v_t_tolerance, v_t_hasPlan, .ref a_t_plan])), (a_t_neighbors, .inl (k 0, 12, .inl t_neighbors)), (a_t_lengths, .inl (k 0, 144, .inl t_lengths))] s.heap [] := ⟨hP, hD, va_S.rf⟩
  have hl := lv_entry ([.ref a_t]) (n := 1) (Nat.le_of_ble_eq_true rfl)
  rw [lg_entry_eq]
  generalize (lg_sl ([.ref a_t]) ++ List.replicate (1 - (lg_sl ([.ref a_t])).length) Slot.unset).toArray = ls at hl ⊢
  have hl : lv_has ls 1 [(0, .ref a_t)] := hl
  generalize hQ : MQ below (postV D k [(a_t, .inr (8, [v_t_units, .ref a_t_population, .ref a_t_area, .ref a_t_community, .ref a_t_outer, .ref a_t_neighbors, .ref a_t_lengths, v_t_cores, v_t_districts, v_t_tolerance, v_t_hasPlan, .ref a_t_plan])), (a_t_neighbors, .inl (k 0, 12, .inl t_neighbors)), (a_t_lengths, .inl (k 0, 144, .inl t_lengths))] [(a_t, .inr (8, [.int r.2.2.2, .ref a_t_population, .ref a_t_area, .ref a_t_community, .ref a_t_outer, .ref a_t_neighbors, .ref a_t_lengths, .int r.1, v_t_districts, v_t_tolerance, v_t_hasPlan, .ref a_t_plan])), (a_t_neighbors, .inl (k 0, 12, .inl r.2.2.1)), (a_t_lengths, .inl (k 0, 144, .inl r.2.1))] s.heap.size) (List.toArray [.ref a_t]) s 0 0 A = Q
  clear hP hD hD0
  suffices K : ∀ (H : Heap) (locs : List Loc), HOK D A s.heap [(a_t, .inr (8, [v_t_units, .ref a_t_population, .ref a_t_area, .ref a_t_community, .ref a_t_outer, .ref a_t_neighbors, .ref a_t_lengths, v_t_cores, v_t_districts, v_t_tolerance, v_t_hasPlan, .ref a_t_plan])), (a_t_neighbors, .inl (k 0, 12, .inl t_neighbors)), (a_t_lengths, .inl (k 0, 144, .inl t_lengths))] H locs → W p l e ({ frames := 1, cells := 0, slots := 0, locals := 23 } : Room) s m (List.toArray [.ref a_t]) below meth c H locs 0 0 Q (F0 m 0 ls []) from K s.heap [] hH
  intro H locs hH
  rw [fX9_removeUnits] at h
  refine lv_aload_n hx hb dX9_removeUnits_0 rfl (lv_at hl 0 rfl) ?_
  refine lv_iconst (v := 0) hx hb dX9_removeUnits_1 (by decide) ?_
  refine gk_put (ci := 8) (C := RX9) (T := TX9) (N := 12) hx hb hts u_ws_X9 tyX9_ok nmX9 hown hK hH 0 rfl rfl 0 (by decide) u_fl_X9_9 rfl rfl rfl (by decide) dX9_removeUnits_2 [(a_t, .inr (8, [.int (0 : Int32), .ref a_t_population, .ref a_t_area, .ref a_t_community, .ref a_t_outer, .ref a_t_neighbors, .ref a_t_lengths, v_t_cores, v_t_districts, v_t_tolerance, v_t_hasPlan, .ref a_t_plan])), (a_t_neighbors, .inl (k 0, 12, .inl t_neighbors)), (a_t_lengths, .inl (k 0, 144, .inl t_lengths))] rfl (fun H locs hH => ?_)
  refine lv_aload_n hx hb dX9_removeUnits_5 rfl (lv_at hl 0 rfl) ?_
  refine lv_iconst (v := 0) hx hb dX9_removeUnits_6 (by decide) ?_
  refine gk_put (ci := 8) (C := RX9) (T := TX9) (N := 12) hx hb hts u_ws_X9 tyX9_ok nmX9 hown hK hH 0 rfl rfl 7 (by decide) u_fl_X9_34 rfl rfl rfl (by decide) dX9_removeUnits_7 [(a_t, .inr (8, [.int (0 : Int32), .ref a_t_population, .ref a_t_area, .ref a_t_community, .ref a_t_outer, .ref a_t_neighbors, .ref a_t_lengths, .int (0 : Int32), v_t_districts, v_t_tolerance, v_t_hasPlan, .ref a_t_plan])), (a_t_neighbors, .inl (k 0, 12, .inl t_neighbors)), (a_t_lengths, .inl (k 0, 144, .inl t_lengths))] rfl (fun H locs hH => ?_)
  refine lv_aload_n hx hb dX9_removeUnits_10 rfl (lv_at hl 0 rfl) ?_
  refine gk_get (ci := 8) (C := RX9) (T := TX9) (N := 12) hx hb hts u_ws_X9 hown hK hH 0 rfl rfl 5 (by decide) u_fl_X9_28 rfl dX9_removeUnits_11 ?_
  refine lv_iconst (v := 0) hx hb dX9_removeUnits_14 (by decide) ?_
  obtain ⟨q1, hqq1, h⟩ := dc_bind h
  refine gc_Sv (ws' := [(a_t, .inr (8, [.int (0 : Int32), .ref a_t_population, .ref a_t_area, .ref a_t_community, .ref a_t_outer, .ref a_t_neighbors, .ref a_t_lengths, .int (0 : Int32), v_t_districts, v_t_tolerance, v_t_hasPlan, .ref a_t_plan])), (a_t_neighbors, .inl (k 0, 12, .inl q1)), (a_t_lengths, .inl (k 0, 144, .inl t_lengths))]) (isC := [1]) (isR := [0, 2]) (As := [.ref a_t_neighbors, .int (0 : Int32)]) (rest := []) (n := 2) hTs ⟨hx, hb, hml, hown, hts⟩ (mJ7_fill_53178 l Ts hTs D k H.size 12 a_t_neighbors t_neighbors (0 : Int32) q1 hqq1) u_ml_X9_64 u_st_J7_fill_53178 u_in_J7 u_co_J7_fill_53178 hd_J7_fill_53178 ⟨Nat.le_of_ble_eq_true rfl, Nat.le_of_ble_eq_true rfl⟩ ⟨rfl, rfl⟩ hK hH hA ⟨rfl, rfl, rfl, rfl, rfl, rfl⟩ rfl rfl hl.1 (by decide) dX9_removeUnits_15 ⟨Nat.le_of_ble_eq_true rfl, Nat.le_of_ble_eq_true rfl⟩ (fun H locs hH => ?_)
  refine lv_aload_n hx hb dX9_removeUnits_18 rfl (lv_at hl 0 rfl) ?_
  refine gk_get (ci := 8) (C := RX9) (T := TX9) (N := 12) hx hb hts u_ws_X9 hown hK hH 0 rfl rfl 6 (by decide) u_fl_X9_31 rfl dX9_removeUnits_19 ?_
  refine lv_iconst (v := 0) hx hb dX9_removeUnits_22 (by decide) ?_
  obtain ⟨q2, hqq2, h⟩ := dc_bind h
  refine gc_Sv (ws' := [(a_t, .inr (8, [.int (0 : Int32), .ref a_t_population, .ref a_t_area, .ref a_t_community, .ref a_t_outer, .ref a_t_neighbors, .ref a_t_lengths, .int (0 : Int32), v_t_districts, v_t_tolerance, v_t_hasPlan, .ref a_t_plan])), (a_t_neighbors, .inl (k 0, 12, .inl q1)), (a_t_lengths, .inl (k 0, 144, .inl q2))]) (isC := [2]) (isR := [0, 1]) (As := [.ref a_t_lengths, .int (0 : Int32)]) (rest := []) (n := 2) hTs ⟨hx, hb, hml, hown, hts⟩ (mJ7_fill_53178 l Ts hTs D k H.size 144 a_t_lengths t_lengths (0 : Int32) q2 hqq2) u_ml_X9_64 u_st_J7_fill_53178 u_in_J7 u_co_J7_fill_53178 hd_J7_fill_53178 ⟨Nat.le_of_ble_eq_true rfl, Nat.le_of_ble_eq_true rfl⟩ ⟨rfl, rfl⟩ hK hH hA ⟨rfl, rfl, rfl, rfl, rfl, rfl⟩ rfl rfl hl.1 (by decide) dX9_removeUnits_23 ⟨Nat.le_of_ble_eq_true rfl, Nat.le_of_ble_eq_true rfl⟩ (fun H locs hH => ?_)
  have h := Option.some.inj h
  subst h
  exact ge_v hx hb hr hlocks hQ hK hH hAe dX9_removeUnits_26
theorem hd_X9_dropPlan : yX9_dropPlan.cls = RX9 ∧ yX9_dropPlan.cls ≠ "java/lang/invoke/MethodHandle" ∧ yX9_dropPlan.cls ≠ "java/lang/invoke/VarHandle" ∧ (parseMethodDescriptor yX9_dropPlan.desc).map (fun d => d.parameters.length) = some 0 := by decide +kernel
set_option maxHeartbeats 4000000 in
set_option maxRecDepth 100000 in
theorem mX9_dropPlan (l : Launch) (Ts : List Cond) (hTs : ∀ w, w ∈ Ts ↔ w ∈ uT) (D : va_G) (k : Nat → ClassId) (sz : Nat) (a_t : Nat) (a_t_population : Nat) (a_t_area : Nat) (a_t_community : Nat) (a_t_outer : Nat) (a_t_neighbors : Nat) (a_t_lengths : Nat) (a_t_plan : Nat) (a_t_plan_places : Nat) (a_t_plan_sets : Nat) (t_plan_places : Nat → Int32) (t_plan_sets : Nat → Int32) (v_t_cores : Value) (v_t_districts : Value) (v_t_hasPlan : Value) (v_t_tolerance : Value) (v_t_units : Value) (r : Int32 × (Nat → Int32) × (Nat → Int32)) (h : fX9_dropPlan t_plan_places t_plan_sets = some r) : Met l yX9_dropPlan (Cond.code yX9_dropPlan cX9_dropPlan 1 none :: Ts) ({ frames := 2, cells := 0, slots := 0, locals := 43 } : Room) (preM D k [.ref a_t] [(a_t, .inr (8, [v_t_units, .ref a_t_population, .ref a_t_area, .ref a_t_community, .ref a_t_outer, .ref a_t_neighbors, .ref a_t_lengths, v_t_cores, v_t_districts, v_t_tolerance, v_t_hasPlan, .ref a_t_plan])), (a_t_plan, .inr (4, [.ref a_t_plan_places, .ref a_t_plan_sets])), (a_t_plan_places, .inl (k 0, 12, .inl t_plan_places)), (a_t_plan_sets, .inl (k 0, 4, .inl t_plan_sets))] sz) (postV D k [(a_t, .inr (8, [v_t_units, .ref a_t_population, .ref a_t_area, .ref a_t_community, .ref a_t_outer, .ref a_t_neighbors, .ref a_t_lengths, v_t_cores, v_t_districts, v_t_tolerance, v_t_hasPlan, .ref a_t_plan])), (a_t_plan, .inr (4, [.ref a_t_plan_places, .ref a_t_plan_sets])), (a_t_plan_places, .inl (k 0, 12, .inl t_plan_places)), (a_t_plan_sets, .inl (k 0, 4, .inl t_plan_sets))] [(a_t, .inr (8, [v_t_units, .ref a_t_population, .ref a_t_area, .ref a_t_community, .ref a_t_outer, .ref a_t_neighbors, .ref a_t_lengths, v_t_cores, v_t_districts, v_t_tolerance, .int r.1, .ref a_t_plan])), (a_t_plan, .inr (4, [.ref a_t_plan_places, .ref a_t_plan_sets])), (a_t_plan_places, .inl (k 0, 12, .inl r.2.1)), (a_t_plan_sets, .inl (k 0, 4, .inl r.2.2))] sz) 0 0 (va_A [(a_t, .inr (8, [v_t_units, .ref a_t_population, .ref a_t_area, .ref a_t_community, .ref a_t_outer, .ref a_t_neighbors, .ref a_t_lengths, v_t_cores, v_t_districts, v_t_tolerance, v_t_hasPlan, .ref a_t_plan])), (a_t_plan, .inr (4, [.ref a_t_plan_places, .ref a_t_plan_sets])), (a_t_plan_places, .inl (k 0, 12, .inl t_plan_places)), (a_t_plan_sets, .inl (k 0, 4, .inl t_plan_sets))] sz) := by
  refine Met.ofW (cc := cX9_dropPlan) (maxL := 1) (ret := none) (by decide) rfl ?_
  intro p e s m args below meth c s₁ B hml hv
  obtain ⟨rfl, hsz, hP, hK, hD0⟩ := hv
  have hx := B.exec
  have hb := B.bytes
  have hr := B.returns
  have hts0 := atoms_spec (ws := (Cond.code yX9_dropPlan cX9_dropPlan 1 none :: Ts)) B.pre
  have hts : ∀ w ∈ uT, w.before _ s = true := fun w h => hts0 w (List.mem_cons_of_mem _ ((hTs w).mpr h))
  clear hts0
  have hown : s.vm.findClass RX9 = some m.cls := findClass_of_methodNamed B.named
  have hlocks := B.notSynchronized
  subst hsz
  have hD := hD0.self (sz := s.heap.size)
  generalize hAe : va_A [(a_t, .inr (8, [v_t_units, .ref a_t_population, .ref a_t_area, .ref a_t_community, .ref a_t_outer, .ref a_t_neighbors, .ref a_t_lengths, v_t_cores, v_t_districts, v_t_tolerance, v_t_hasPlan, .ref a_t_plan])), (a_t_plan, .inr (4, [.ref a_t_plan_places, .ref a_t_plan_sets])), (a_t_plan_places, .inl (k 0, 12, .inl t_plan_places)), (a_t_plan_sets, .inl (k 0, 4, .inl t_plan_sets))] s.heap.size = A at hD ⊢
  have hA : ∀ q : Nat, s.heap.size ≤ q → A q := fun q h => by rw [← hAe]; exact Or.inr h
  have hH : HOK D A s.heap [(a_t, .inr (8, [v_t_units, .ref a_t_population, .ref a_t_area, .ref a_t_community, .ref a_t_outer, .ref a_t_neighbors, .ref a_t_lengths, v_t_cores, v_t_districts, v_t_tolerance, v_t_hasPlan, .ref a_t_plan])), (a_t_plan, .inr (4, [.ref a_t_plan_places, .ref a_t_plan_sets])), (a_t_plan_places, .inl (k 0, 12, .inl t_plan_places)), (a_t_plan_sets, .inl (k 0, 4, .inl t_plan_sets))] s.heap [] := ⟨hP, hD, va_S.rf⟩
  have hl := lv_entry ([.ref a_t]) (n := 1) (Nat.le_of_ble_eq_true rfl)
  rw [lg_entry_eq]
  generalize (lg_sl ([.ref a_t]) ++ List.replicate (1 - (lg_sl ([.ref a_t])).length) Slot.unset).toArray = ls at hl ⊢
  have hl : lv_has ls 1 [(0, .ref a_t)] := hl
  generalize hQ : MQ below (postV D k [(a_t, .inr (8, [v_t_units, .ref a_t_population, .ref a_t_area, .ref a_t_community, .ref a_t_outer, .ref a_t_neighbors, .ref a_t_lengths, v_t_cores, v_t_districts, v_t_tolerance, v_t_hasPlan, .ref a_t_plan])), (a_t_plan, .inr (4, [.ref a_t_plan_places, .ref a_t_plan_sets])), (a_t_plan_places, .inl (k 0, 12, .inl t_plan_places)), (a_t_plan_sets, .inl (k 0, 4, .inl t_plan_sets))] [(a_t, .inr (8, [v_t_units, .ref a_t_population, .ref a_t_area, .ref a_t_community, .ref a_t_outer, .ref a_t_neighbors, .ref a_t_lengths, v_t_cores, v_t_districts, v_t_tolerance, .int r.1, .ref a_t_plan])), (a_t_plan, .inr (4, [.ref a_t_plan_places, .ref a_t_plan_sets])), (a_t_plan_places, .inl (k 0, 12, .inl r.2.1)), (a_t_plan_sets, .inl (k 0, 4, .inl r.2.2))] s.heap.size) (List.toArray [.ref a_t]) s 0 0 A = Q
  clear hP hD hD0
  suffices K : ∀ (H : Heap) (locs : List Loc), HOK D A s.heap [(a_t, .inr (8, [v_t_units, .ref a_t_population, .ref a_t_area, .ref a_t_community, .ref a_t_outer, .ref a_t_neighbors, .ref a_t_lengths, v_t_cores, v_t_districts, v_t_tolerance, v_t_hasPlan, .ref a_t_plan])), (a_t_plan, .inr (4, [.ref a_t_plan_places, .ref a_t_plan_sets])), (a_t_plan_places, .inl (k 0, 12, .inl t_plan_places)), (a_t_plan_sets, .inl (k 0, 4, .inl t_plan_sets))] H locs → W p l e ({ frames := 2, cells := 0, slots := 0, locals := 43 } : Room) s m (List.toArray [.ref a_t]) below meth c H locs 0 0 Q (F0 m 0 ls []) from K s.heap [] hH
  intro H locs hH
  rw [fX9_dropPlan] at h
  refine lv_aload_n hx hb dX9_dropPlan_0 rfl (lv_at hl 0 rfl) ?_
  refine lv_iconst (v := 0) hx hb dX9_dropPlan_1 (by decide) ?_
  refine gk_put (ci := 8) (C := RX9) (T := TX9) (N := 12) hx hb hts u_ws_X9 tyX9_ok nmX9 hown hK hH 0 rfl rfl 10 (by decide) u_fl_X9_43 rfl rfl rfl (by decide) dX9_dropPlan_2 [(a_t, .inr (8, [v_t_units, .ref a_t_population, .ref a_t_area, .ref a_t_community, .ref a_t_outer, .ref a_t_neighbors, .ref a_t_lengths, v_t_cores, v_t_districts, v_t_tolerance, .int (0 : Int32), .ref a_t_plan])), (a_t_plan, .inr (4, [.ref a_t_plan_places, .ref a_t_plan_sets])), (a_t_plan_places, .inl (k 0, 12, .inl t_plan_places)), (a_t_plan_sets, .inl (k 0, 4, .inl t_plan_sets))] rfl (fun H locs hH => ?_)
  refine lv_aload_n hx hb dX9_dropPlan_5 rfl (lv_at hl 0 rfl) ?_
  refine gk_get (ci := 8) (C := RX9) (T := TX9) (N := 12) hx hb hts u_ws_X9 hown hK hH 0 rfl rfl 11 (by decide) u_fl_X9_50 rfl dX9_dropPlan_6 ?_
  obtain ⟨q1, hqq1, h⟩ := dc_bind h
  refine gc_Vv (ws' := [(a_t, .inr (8, [v_t_units, .ref a_t_population, .ref a_t_area, .ref a_t_community, .ref a_t_outer, .ref a_t_neighbors, .ref a_t_lengths, v_t_cores, v_t_districts, v_t_tolerance, .int (0 : Int32), .ref a_t_plan])), (a_t_plan, .inr (4, [.ref a_t_plan_places, .ref a_t_plan_sets])), (a_t_plan_places, .inl (k 0, 12, .inl q1.1)), (a_t_plan_sets, .inl (k 0, 4, .inl q1.2))]) (isC := [1, 2, 3]) (isR := [0]) (As := []) (rest := []) (n := 0) (ci := 4) (cq := (RX4, TX4, 2)) hTs ⟨hx, hb, hml, hown, hts⟩ (mX4_clear l Ts hTs D k H.size a_t_plan a_t_plan_places a_t_plan_sets t_plan_places t_plan_sets q1 hqq1) u_ml_X9_70 u_im_X4_clear u_se_X4_clear u_in_X4 u_co_X4_clear hd_X4_clear ⟨Nat.le_of_ble_eq_true rfl, Nat.le_of_ble_eq_true rfl⟩ ⟨rfl, rfl⟩ hK hH hA ⟨rfl, rfl, rfl, rfl, rfl, rfl⟩ rfl rfl rfl rfl hl.1 (by decide) dX9_dropPlan_9 ⟨Nat.le_of_ble_eq_true rfl, Nat.le_of_ble_eq_true rfl⟩ (fun H locs hH => ?_)
  have h := Option.some.inj h
  subst h
  exact ge_v hx hb hr hlocks hQ hK hH hAe dX9_dropPlan_12
theorem hd_X9_isAtEdge : yX9_isAtEdge.cls = RX9 ∧ yX9_isAtEdge.cls ≠ "java/lang/invoke/MethodHandle" ∧ yX9_isAtEdge.cls ≠ "java/lang/invoke/VarHandle" ∧ (parseMethodDescriptor yX9_isAtEdge.desc).map (fun d => d.parameters.length) = some 1 := by decide +kernel
set_option maxHeartbeats 4000000 in
set_option maxRecDepth 100000 in
theorem mX9_isAtEdge (l : Launch) (Ts : List Cond) (hTs : ∀ w, w ∈ Ts ↔ w ∈ uT) (D : va_G) (k : Nat → ClassId) (sz : Nat) (a_t : Nat) (a_t_population : Nat) (a_t_area : Nat) (a_t_community : Nat) (a_t_outer : Nat) (a_t_neighbors : Nat) (a_t_lengths : Nat) (a_t_plan : Nat) (a_t_plan_places : Nat) (a_t_plan_sets : Nat) (t_hasPlan : Int32) (t_neighbors : Nat → Int32) (t_plan_places : Nat → Int32) (t_plan_sets : Nat → Int32) (v_t_cores : Value) (v_t_districts : Value) (v_t_tolerance : Value) (v_t_units : Value) (x1 : Int32) (r : Int32) (h : fX9_isAtEdge t_hasPlan t_neighbors t_plan_places t_plan_sets x1 = some r) : Met l yX9_isAtEdge (Cond.code yX9_isAtEdge cX9_isAtEdge 2 (some .boolean) :: Ts) ({ frames := 0, cells := 0, slots := 0, locals := 0 } : Room) (preM D k [.ref a_t, .int x1] [(a_t, .inr (8, [v_t_units, .ref a_t_population, .ref a_t_area, .ref a_t_community, .ref a_t_outer, .ref a_t_neighbors, .ref a_t_lengths, v_t_cores, v_t_districts, v_t_tolerance, .int t_hasPlan, .ref a_t_plan])), (a_t_neighbors, .inl (k 0, 12, .inl t_neighbors)), (a_t_plan, .inr (4, [.ref a_t_plan_places, .ref a_t_plan_sets])), (a_t_plan_places, .inl (k 0, 12, .inl t_plan_places)), (a_t_plan_sets, .inl (k 0, 4, .inl t_plan_sets))] sz) (postI D k r [(a_t, .inr (8, [v_t_units, .ref a_t_population, .ref a_t_area, .ref a_t_community, .ref a_t_outer, .ref a_t_neighbors, .ref a_t_lengths, v_t_cores, v_t_districts, v_t_tolerance, .int t_hasPlan, .ref a_t_plan])), (a_t_neighbors, .inl (k 0, 12, .inl t_neighbors)), (a_t_plan, .inr (4, [.ref a_t_plan_places, .ref a_t_plan_sets])), (a_t_plan_places, .inl (k 0, 12, .inl t_plan_places)), (a_t_plan_sets, .inl (k 0, 4, .inl t_plan_sets))] [(a_t, .inr (8, [v_t_units, .ref a_t_population, .ref a_t_area, .ref a_t_community, .ref a_t_outer, .ref a_t_neighbors, .ref a_t_lengths, v_t_cores, v_t_districts, v_t_tolerance, .int t_hasPlan, .ref a_t_plan])), (a_t_neighbors, .inl (k 0, 12, .inl t_neighbors)), (a_t_plan, .inr (4, [.ref a_t_plan_places, .ref a_t_plan_sets])), (a_t_plan_places, .inl (k 0, 12, .inl t_plan_places)), (a_t_plan_sets, .inl (k 0, 4, .inl t_plan_sets))] sz) 0 0 (va_A [(a_t, .inr (8, [v_t_units, .ref a_t_population, .ref a_t_area, .ref a_t_community, .ref a_t_outer, .ref a_t_neighbors, .ref a_t_lengths, v_t_cores, v_t_districts, v_t_tolerance, .int t_hasPlan, .ref a_t_plan])), (a_t_neighbors, .inl (k 0, 12, .inl t_neighbors)), (a_t_plan, .inr (4, [.ref a_t_plan_places, .ref a_t_plan_sets])), (a_t_plan_places, .inl (k 0, 12, .inl t_plan_places)), (a_t_plan_sets, .inl (k 0, 4, .inl t_plan_sets))] sz) := by
  refine Met.ofW (cc := cX9_isAtEdge) (maxL := 2) (ret := (some .boolean)) (by decide) rfl ?_
  intro p e s m args below meth c s₁ B hml hv
  obtain ⟨rfl, hsz, hP, hK, hD0⟩ := hv
  have hx := B.exec
  have hb := B.bytes
  have hr := B.returns
  have hts0 := atoms_spec (ws := (Cond.code yX9_isAtEdge cX9_isAtEdge 2 (some .boolean) :: Ts)) B.pre
  have hts : ∀ w ∈ uT, w.before _ s = true := fun w h => hts0 w (List.mem_cons_of_mem _ ((hTs w).mpr h))
  clear hts0
  have hown : s.vm.findClass RX9 = some m.cls := findClass_of_methodNamed B.named
  have hlocks := B.notSynchronized
  subst hsz
  have hD := hD0.self (sz := s.heap.size)
  generalize hAe : va_A [(a_t, .inr (8, [v_t_units, .ref a_t_population, .ref a_t_area, .ref a_t_community, .ref a_t_outer, .ref a_t_neighbors, .ref a_t_lengths, v_t_cores, v_t_districts, v_t_tolerance, .int t_hasPlan, .ref a_t_plan])), (a_t_neighbors, .inl (k 0, 12, .inl t_neighbors)), (a_t_plan, .inr (4, [.ref a_t_plan_places, .ref a_t_plan_sets])), (a_t_plan_places, .inl (k 0, 12, .inl t_plan_places)), (a_t_plan_sets, .inl (k 0, 4, .inl t_plan_sets))] s.heap.size = A at hD ⊢
  have hA : ∀ q : Nat, s.heap.size ≤ q → A q := fun q h => by rw [← hAe]; exact Or.inr h
  have hH : HOK D A s.heap [(a_t, .inr (8, [v_t_units, .ref a_t_population, .ref a_t_area, .ref a_t_community, .ref a_t_outer, .ref a_t_neighbors, .ref a_t_lengths, v_t_cores, v_t_districts, v_t_tolerance, .int t_hasPlan, .ref a_t_plan])), (a_t_neighbors, .inl (k 0, 12, .inl t_neighbors)), (a_t_plan, .inr (4, [.ref a_t_plan_places, .ref a_t_plan_sets])), (a_t_plan_places, .inl (k 0, 12, .inl t_plan_places)), (a_t_plan_sets, .inl (k 0, 4, .inl t_plan_sets))] s.heap [] := ⟨hP, hD, va_S.rf⟩
  have hl := lv_entry ([.ref a_t, .int x1]) (n := 2) (Nat.le_of_ble_eq_true rfl)
  rw [lg_entry_eq]
  generalize (lg_sl ([.ref a_t, .int x1]) ++ List.replicate (2 - (lg_sl ([.ref a_t, .int x1])).length) Slot.unset).toArray = ls at hl ⊢
  have hl : lv_has ls 2 [(0, .ref a_t), (1, .int x1)] := hl
  generalize hQ : MQ below (postI D k r [(a_t, .inr (8, [v_t_units, .ref a_t_population, .ref a_t_area, .ref a_t_community, .ref a_t_outer, .ref a_t_neighbors, .ref a_t_lengths, v_t_cores, v_t_districts, v_t_tolerance, .int t_hasPlan, .ref a_t_plan])), (a_t_neighbors, .inl (k 0, 12, .inl t_neighbors)), (a_t_plan, .inr (4, [.ref a_t_plan_places, .ref a_t_plan_sets])), (a_t_plan_places, .inl (k 0, 12, .inl t_plan_places)), (a_t_plan_sets, .inl (k 0, 4, .inl t_plan_sets))] [(a_t, .inr (8, [v_t_units, .ref a_t_population, .ref a_t_area, .ref a_t_community, .ref a_t_outer, .ref a_t_neighbors, .ref a_t_lengths, v_t_cores, v_t_districts, v_t_tolerance, .int t_hasPlan, .ref a_t_plan])), (a_t_neighbors, .inl (k 0, 12, .inl t_neighbors)), (a_t_plan, .inr (4, [.ref a_t_plan_places, .ref a_t_plan_sets])), (a_t_plan_places, .inl (k 0, 12, .inl t_plan_places)), (a_t_plan_sets, .inl (k 0, 4, .inl t_plan_sets))] s.heap.size) (List.toArray [.ref a_t, .int x1]) s 0 0 A = Q
  clear hP hD hD0
  suffices K : ∀ (H : Heap) (locs : List Loc), HOK D A s.heap [(a_t, .inr (8, [v_t_units, .ref a_t_population, .ref a_t_area, .ref a_t_community, .ref a_t_outer, .ref a_t_neighbors, .ref a_t_lengths, v_t_cores, v_t_districts, v_t_tolerance, .int t_hasPlan, .ref a_t_plan])), (a_t_neighbors, .inl (k 0, 12, .inl t_neighbors)), (a_t_plan, .inr (4, [.ref a_t_plan_places, .ref a_t_plan_sets])), (a_t_plan_places, .inl (k 0, 12, .inl t_plan_places)), (a_t_plan_sets, .inl (k 0, 4, .inl t_plan_sets))] H locs → W p l e ({ frames := 0, cells := 0, slots := 0, locals := 0 } : Room) s m (List.toArray [.ref a_t, .int x1]) below meth c H locs 0 0 Q (F0 m 0 ls []) from K s.heap [] hH
  intro H locs hH
  rw [fX9_isAtEdge] at h
  refine lv_aload_n hx hb dX9_isAtEdge_0 rfl (lv_at hl 0 rfl) ?_
  refine gk_get (ci := 8) (C := RX9) (T := TX9) (N := 12) hx hb hts u_ws_X9 hown hK hH 0 rfl rfl 10 (by decide) u_fl_X9_43 rfl dX9_isAtEdge_1 ?_
  refine lv_if_eq (tgt := 40) hx hb dX9_isAtEdge_4 (by decide) (fun c1 => ?_) (fun c1 => ?_)
  · replace h := dc_pos c1 h
    refine lv_iconst (v := 0) hx hb dX9_isAtEdge_40 (by decide) ?_
    have h := Option.some.inj h
    subst h
    exact ge_z hx hb hr rfl hlocks hQ hK hH hAe rfl dX9_isAtEdge_41
  · replace h := dc_neg c1 h
    refine lv_aload_n hx hb dX9_isAtEdge_7 rfl (lv_at hl 0 rfl) ?_
    refine gk_get (ci := 8) (C := RX9) (T := TX9) (N := 12) hx hb hts u_ws_X9 hown hK hH 0 rfl rfl 5 (by decide) u_fl_X9_28 rfl dX9_isAtEdge_8 ?_
    refine lv_iload_n hx hb dX9_isAtEdge_11 rfl (lv_at hl 1 rfl) ?_
    obtain ⟨g2, h⟩ := dc_need h
    refine gk_iald hx hb hK hH 1 rfl (dk_in g2) dX9_isAtEdge_12 ?_
    refine lv_aload_n hx hb dX9_isAtEdge_13 rfl (lv_at hl 0 rfl) ?_
    refine gk_get (ci := 8) (C := RX9) (T := TX9) (N := 12) hx hb hts u_ws_X9 hown hK hH 0 rfl rfl 11 (by decide) u_fl_X9_50 rfl dX9_isAtEdge_14 ?_
    refine gk_get (ci := 4) (C := RX4) (T := TX4) (N := 2) hx hb hts u_ws_X4 hown hK hH 2 rfl rfl 1 (by decide) u_fl_X9_77 rfl dX9_isAtEdge_17 ?_
    refine lv_aload_n hx hb dX9_isAtEdge_20 rfl (lv_at hl 0 rfl) ?_
    refine gk_get (ci := 8) (C := RX9) (T := TX9) (N := 12) hx hb hts u_ws_X9 hown hK hH 0 rfl rfl 11 (by decide) u_fl_X9_50 rfl dX9_isAtEdge_21 ?_
    refine gk_get (ci := 4) (C := RX4) (T := TX4) (N := 2) hx hb hts u_ws_X4 hown hK hH 2 rfl rfl 0 (by decide) u_fl_X9_80 rfl dX9_isAtEdge_24 ?_
    refine lv_iload_n hx hb dX9_isAtEdge_27 rfl (lv_at hl 1 rfl) ?_
    obtain ⟨g3, h⟩ := dc_need h
    refine gk_iald hx hb hK hH 3 rfl (dk_in g3) dX9_isAtEdge_28 ?_
    obtain ⟨g4, h⟩ := dc_need h
    refine gk_iald hx hb hK hH 4 rfl (dk_in g4) dX9_isAtEdge_29 ?_
    refine lv_iconst (v := -1) hx hb dX9_isAtEdge_30 (by decide) ?_
    refine lv_ixor hx hb dX9_isAtEdge_31 ?_
    refine lv_iand hx hb dX9_isAtEdge_32 ?_
    refine lv_if_eq (tgt := 40) hx hb dX9_isAtEdge_33 (by decide) (fun c5 => ?_) (fun c5 => ?_)
    · replace h := dc_pos c5 h
      refine lv_iconst (v := 0) hx hb dX9_isAtEdge_40 (by decide) ?_
      have h := Option.some.inj h
      subst h
      exact ge_z hx hb hr rfl hlocks hQ hK hH hAe rfl dX9_isAtEdge_41
    · replace h := dc_neg c5 h
      refine lv_iconst (v := 1) hx hb dX9_isAtEdge_36 (by decide) ?_
      refine lv_goto (tgt := 41) hx hb dX9_isAtEdge_37 (by decide) ?_
      have h := Option.some.inj h
      subst h
      exact ge_z hx hb hr rfl hlocks hQ hK hH hAe rfl dX9_isAtEdge_41
theorem hd_J6_bitCount_0f7a4 : yJ6_bitCount_0f7a4.cls ≠ "java/lang/invoke/MethodHandle" ∧ yJ6_bitCount_0f7a4.cls ≠ "java/lang/invoke/VarHandle" ∧ (parseMethodDescriptor yJ6_bitCount_0f7a4.desc).map (fun d => d.parameters.length) = some 1 := by decide +kernel
set_option maxHeartbeats 4000000 in
set_option maxRecDepth 100000 in
theorem mJ6_bitCount_0f7a4 (l : Launch) (Ts : List Cond) (hTs : ∀ w, w ∈ Ts ↔ w ∈ uT) (D : va_G) (k : Nat → ClassId) (sz : Nat) (x0 : Int32) (r : Int32) (h : fJ6_bitCount_0f7a4 x0 = some r) : Met l yJ6_bitCount_0f7a4 (Cond.code yJ6_bitCount_0f7a4 cJ6_bitCount_0f7a4 1 (some .int) :: Ts) ({ frames := 0, cells := 0, slots := 0, locals := 0 } : Room) (preM D k [.int x0] [] sz) (postI D k r [] [] sz) 0 0 (va_A [] sz) := by
  refine Met.ofW (cc := cJ6_bitCount_0f7a4) (maxL := 1) (ret := (some .int)) (by decide) rfl ?_
  intro p e s m args below meth c s₁ B hml hv
  obtain ⟨rfl, hsz, hP, hK, hD0⟩ := hv
  have hx := B.exec
  have hb := B.bytes
  have hr := B.returns
  have hts0 := atoms_spec (ws := (Cond.code yJ6_bitCount_0f7a4 cJ6_bitCount_0f7a4 1 (some .int) :: Ts)) B.pre
  have hts : ∀ w ∈ uT, w.before _ s = true := fun w h => hts0 w (List.mem_cons_of_mem _ ((hTs w).mpr h))
  clear hts0
  have hown : s.vm.findClass RJ6 = some m.cls := findClass_of_methodNamed B.named
  have hlocks := B.notSynchronized
  subst hsz
  have hD := hD0.self (sz := s.heap.size)
  generalize hAe : va_A [] s.heap.size = A at hD ⊢
  have hA : ∀ q : Nat, s.heap.size ≤ q → A q := fun q h => by rw [← hAe]; exact Or.inr h
  have hH : HOK D A s.heap [] s.heap [] := ⟨hP, hD, va_S.rf⟩
  have hl := lv_entry ([.int x0]) (n := 1) (Nat.le_of_ble_eq_true rfl)
  rw [lg_entry_eq]
  generalize (lg_sl ([.int x0]) ++ List.replicate (1 - (lg_sl ([.int x0])).length) Slot.unset).toArray = ls at hl ⊢
  have hl : lv_has ls 1 [(0, .int x0)] := hl
  generalize hQ : MQ below (postI D k r [] [] s.heap.size) (List.toArray [.int x0]) s 0 0 A = Q
  clear hP hD hD0
  suffices K : ∀ (H : Heap) (locs : List Loc), HOK D A s.heap [] H locs → W p l e ({ frames := 0, cells := 0, slots := 0, locals := 0 } : Room) s m (List.toArray [.int x0]) below meth c H locs 0 0 Q (F0 m 0 ls []) from K s.heap [] hH
  intro H locs hH
  rw [fJ6_bitCount_0f7a4] at h
  refine lv_iload_n hx hb dJ6_bitCount_0f7a4_0 rfl (lv_at hl 0 rfl) ?_
  refine lv_iload_n hx hb dJ6_bitCount_0f7a4_1 rfl (lv_at hl 0 rfl) ?_
  refine lv_iconst (v := 1) hx hb dJ6_bitCount_0f7a4_2 (by decide) ?_
  refine lv_iushr (v := ((Int32.toUInt32 x0) >>> ((Int32.toUInt32 (1 : Int32)) &&& Int32.toUInt32 31)).toInt32) hx hb dJ6_bitCount_0f7a4_3 rfl ?_
  refine lv_ldcw hx hb hown (hts _ u_k_J6_265) dJ6_bitCount_0f7a4_4 ?_
  refine lv_iand hx hb dJ6_bitCount_0f7a4_7 ?_
  refine lv_isub hx hb dJ6_bitCount_0f7a4_8 ?_
  refine lv_topi (fun n1 en1 => ?_)
  replace h := dc_at en1 h
  refine lv_istore_n (lv' := [(0, .int n1)]) hx hb dJ6_bitCount_0f7a4_9 rfl hl (by decide) rfl (fun ls hl => ?_)
  refine lv_iload_n hx hb dJ6_bitCount_0f7a4_10 rfl (lv_at hl 0 rfl) ?_
  refine lv_ldcw hx hb hown (hts _ u_k_J6_266) dJ6_bitCount_0f7a4_11 ?_
  refine lv_iand hx hb dJ6_bitCount_0f7a4_14 ?_
  refine lv_iload_n hx hb dJ6_bitCount_0f7a4_15 rfl (lv_at hl 0 rfl) ?_
  refine lv_iconst (v := 2) hx hb dJ6_bitCount_0f7a4_16 (by decide) ?_
  refine lv_iushr (v := ((Int32.toUInt32 n1) >>> ((Int32.toUInt32 (2 : Int32)) &&& Int32.toUInt32 31)).toInt32) hx hb dJ6_bitCount_0f7a4_17 rfl ?_
  refine lv_ldcw hx hb hown (hts _ u_k_J6_266) dJ6_bitCount_0f7a4_18 ?_
  refine lv_iand hx hb dJ6_bitCount_0f7a4_21 ?_
  refine lv_iadd hx hb dJ6_bitCount_0f7a4_22 ?_
  refine lv_topi (fun n2 en2 => ?_)
  replace h := dc_at en2 h
  refine lv_istore_n (lv' := [(0, .int n2)]) hx hb dJ6_bitCount_0f7a4_23 rfl hl (by decide) rfl (fun ls hl => ?_)
  refine lv_iload_n hx hb dJ6_bitCount_0f7a4_24 rfl (lv_at hl 0 rfl) ?_
  refine lv_iload_n hx hb dJ6_bitCount_0f7a4_25 rfl (lv_at hl 0 rfl) ?_
  refine lv_iconst (v := 4) hx hb dJ6_bitCount_0f7a4_26 (by decide) ?_
  refine lv_iushr (v := ((Int32.toUInt32 n2) >>> ((Int32.toUInt32 (4 : Int32)) &&& Int32.toUInt32 31)).toInt32) hx hb dJ6_bitCount_0f7a4_27 rfl ?_
  refine lv_iadd hx hb dJ6_bitCount_0f7a4_28 ?_
  refine lv_ldcw hx hb hown (hts _ u_k_J6_267) dJ6_bitCount_0f7a4_29 ?_
  refine lv_iand hx hb dJ6_bitCount_0f7a4_32 ?_
  refine lv_topi (fun n3 en3 => ?_)
  replace h := dc_at en3 h
  refine lv_istore_n (lv' := [(0, .int n3)]) hx hb dJ6_bitCount_0f7a4_33 rfl hl (by decide) rfl (fun ls hl => ?_)
  refine lv_iload_n hx hb dJ6_bitCount_0f7a4_34 rfl (lv_at hl 0 rfl) ?_
  refine lv_iload_n hx hb dJ6_bitCount_0f7a4_35 rfl (lv_at hl 0 rfl) ?_
  refine lv_bipush (v := 8) hx hb dJ6_bitCount_0f7a4_36 (by decide) ?_
  refine lv_iushr (v := ((Int32.toUInt32 n3) >>> ((Int32.toUInt32 (8 : Int32)) &&& Int32.toUInt32 31)).toInt32) hx hb dJ6_bitCount_0f7a4_38 rfl ?_
  refine lv_iadd hx hb dJ6_bitCount_0f7a4_39 ?_
  refine lv_topi (fun n4 en4 => ?_)
  replace h := dc_at en4 h
  refine lv_istore_n (lv' := [(0, .int n4)]) hx hb dJ6_bitCount_0f7a4_40 rfl hl (by decide) rfl (fun ls hl => ?_)
  refine lv_iload_n hx hb dJ6_bitCount_0f7a4_41 rfl (lv_at hl 0 rfl) ?_
  refine lv_iload_n hx hb dJ6_bitCount_0f7a4_42 rfl (lv_at hl 0 rfl) ?_
  refine lv_bipush (v := 16) hx hb dJ6_bitCount_0f7a4_43 (by decide) ?_
  refine lv_iushr (v := ((Int32.toUInt32 n4) >>> ((Int32.toUInt32 (16 : Int32)) &&& Int32.toUInt32 31)).toInt32) hx hb dJ6_bitCount_0f7a4_45 rfl ?_
  refine lv_iadd hx hb dJ6_bitCount_0f7a4_46 ?_
  refine lv_topi (fun n5 en5 => ?_)
  replace h := dc_at en5 h
  refine lv_istore_n (lv' := [(0, .int n5)]) hx hb dJ6_bitCount_0f7a4_47 rfl hl (by decide) rfl (fun ls hl => ?_)
  refine lv_iload_n hx hb dJ6_bitCount_0f7a4_48 rfl (lv_at hl 0 rfl) ?_
  refine lv_bipush (v := 63) hx hb dJ6_bitCount_0f7a4_49 (by decide) ?_
  refine lv_iand hx hb dJ6_bitCount_0f7a4_51 ?_
  have h := Option.some.inj h
  subst h
  exact ge_i hx hb hr hlocks hQ hK hH hAe rfl dJ6_bitCount_0f7a4_52
theorem hd_X9_countBorders : yX9_countBorders.cls = RX9 ∧ yX9_countBorders.cls ≠ "java/lang/invoke/MethodHandle" ∧ yX9_countBorders.cls ≠ "java/lang/invoke/VarHandle" ∧ (parseMethodDescriptor yX9_countBorders.desc).map (fun d => d.parameters.length) = some 0 := by decide +kernel
set_option maxHeartbeats 4000000 in
set_option maxRecDepth 100000 in
theorem mX9_countBorders (l : Launch) (Ts : List Cond) (hTs : ∀ w, w ∈ Ts ↔ w ∈ uT) (D : va_G) (k : Nat → ClassId) (sz : Nat) (a_t : Nat) (a_t_population : Nat) (a_t_area : Nat) (a_t_community : Nat) (a_t_outer : Nat) (a_t_neighbors : Nat) (a_t_lengths : Nat) (a_t_plan : Nat) (t_neighbors : Nat → Int32) (t_units : Int32) (v_t_cores : Value) (v_t_districts : Value) (v_t_hasPlan : Value) (v_t_tolerance : Value) (r : Int32) (h : fX9_countBorders t_neighbors t_units = some r) : Met l yX9_countBorders (Cond.code yX9_countBorders cX9_countBorders 3 (some .int) :: Ts) ({ frames := 1, cells := 0, slots := 0, locals := 20 } : Room) (preM D k [.ref a_t] [(a_t, .inr (8, [.int t_units, .ref a_t_population, .ref a_t_area, .ref a_t_community, .ref a_t_outer, .ref a_t_neighbors, .ref a_t_lengths, v_t_cores, v_t_districts, v_t_tolerance, v_t_hasPlan, .ref a_t_plan])), (a_t_neighbors, .inl (k 0, 12, .inl t_neighbors))] sz) (postI D k r [(a_t, .inr (8, [.int t_units, .ref a_t_population, .ref a_t_area, .ref a_t_community, .ref a_t_outer, .ref a_t_neighbors, .ref a_t_lengths, v_t_cores, v_t_districts, v_t_tolerance, v_t_hasPlan, .ref a_t_plan])), (a_t_neighbors, .inl (k 0, 12, .inl t_neighbors))] [(a_t, .inr (8, [.int t_units, .ref a_t_population, .ref a_t_area, .ref a_t_community, .ref a_t_outer, .ref a_t_neighbors, .ref a_t_lengths, v_t_cores, v_t_districts, v_t_tolerance, v_t_hasPlan, .ref a_t_plan])), (a_t_neighbors, .inl (k 0, 12, .inl t_neighbors))] sz) 0 0 (va_A [(a_t, .inr (8, [.int t_units, .ref a_t_population, .ref a_t_area, .ref a_t_community, .ref a_t_outer, .ref a_t_neighbors, .ref a_t_lengths, v_t_cores, v_t_districts, v_t_tolerance, v_t_hasPlan, .ref a_t_plan])), (a_t_neighbors, .inl (k 0, 12, .inl t_neighbors))] sz) := by
  refine Met.ofW (cc := cX9_countBorders) (maxL := 3) (ret := (some .int)) (by decide) rfl ?_
  intro p e s m args below meth c s₁ B hml hv
  obtain ⟨rfl, hsz, hP, hK, hD0⟩ := hv
  have hx := B.exec
  have hb := B.bytes
  have hr := B.returns
  have hts0 := atoms_spec (ws := (Cond.code yX9_countBorders cX9_countBorders 3 (some .int) :: Ts)) B.pre
  have hts : ∀ w ∈ uT, w.before _ s = true := fun w h => hts0 w (List.mem_cons_of_mem _ ((hTs w).mpr h))
  clear hts0
  have hown : s.vm.findClass RX9 = some m.cls := findClass_of_methodNamed B.named
  have hlocks := B.notSynchronized
  subst hsz
  have hD := hD0.self (sz := s.heap.size)
  generalize hAe : va_A [(a_t, .inr (8, [.int t_units, .ref a_t_population, .ref a_t_area, .ref a_t_community, .ref a_t_outer, .ref a_t_neighbors, .ref a_t_lengths, v_t_cores, v_t_districts, v_t_tolerance, v_t_hasPlan, .ref a_t_plan])), (a_t_neighbors, .inl (k 0, 12, .inl t_neighbors))] s.heap.size = A at hD ⊢
  have hA : ∀ q : Nat, s.heap.size ≤ q → A q := fun q h => by rw [← hAe]; exact Or.inr h
  have hH : HOK D A s.heap [(a_t, .inr (8, [.int t_units, .ref a_t_population, .ref a_t_area, .ref a_t_community, .ref a_t_outer, .ref a_t_neighbors, .ref a_t_lengths, v_t_cores, v_t_districts, v_t_tolerance, v_t_hasPlan, .ref a_t_plan])), (a_t_neighbors, .inl (k 0, 12, .inl t_neighbors))] s.heap [] := ⟨hP, hD, va_S.rf⟩
  have hl := lv_entry ([.ref a_t]) (n := 3) (Nat.le_of_ble_eq_true rfl)
  rw [lg_entry_eq]
  generalize (lg_sl ([.ref a_t]) ++ List.replicate (3 - (lg_sl ([.ref a_t])).length) Slot.unset).toArray = ls at hl ⊢
  have hl : lv_has ls 3 [(0, .ref a_t)] := hl
  generalize hQ : MQ below (postI D k r [(a_t, .inr (8, [.int t_units, .ref a_t_population, .ref a_t_area, .ref a_t_community, .ref a_t_outer, .ref a_t_neighbors, .ref a_t_lengths, v_t_cores, v_t_districts, v_t_tolerance, v_t_hasPlan, .ref a_t_plan])), (a_t_neighbors, .inl (k 0, 12, .inl t_neighbors))] [(a_t, .inr (8, [.int t_units, .ref a_t_population, .ref a_t_area, .ref a_t_community, .ref a_t_outer, .ref a_t_neighbors, .ref a_t_lengths, v_t_cores, v_t_districts, v_t_tolerance, v_t_hasPlan, .ref a_t_plan])), (a_t_neighbors, .inl (k 0, 12, .inl t_neighbors))] s.heap.size) (List.toArray [.ref a_t]) s 0 0 A = Q
  clear hP hD hD0
  suffices K : ∀ (H : Heap) (locs : List Loc), HOK D A s.heap [(a_t, .inr (8, [.int t_units, .ref a_t_population, .ref a_t_area, .ref a_t_community, .ref a_t_outer, .ref a_t_neighbors, .ref a_t_lengths, v_t_cores, v_t_districts, v_t_tolerance, v_t_hasPlan, .ref a_t_plan])), (a_t_neighbors, .inl (k 0, 12, .inl t_neighbors))] H locs → W p l e ({ frames := 1, cells := 0, slots := 0, locals := 20 } : Room) s m (List.toArray [.ref a_t]) below meth c H locs 0 0 Q (F0 m 0 ls []) from K s.heap [] hH
  intro H locs hH
  have L4 : ∀ (n : Nat), ∀ (kf : Int32 → Option (Int32)) (y4_1 : Int32) (y4_2 : Int32), fX9_countBorders_L4 t_neighbors t_units n kf y4_1 y4_2 = some r → (∀ (z4_1 : Int32) (H : Heap) (locs : List Loc) (ls : Array Slot), kf z4_1 = some r → HOK D A s.heap [(a_t, .inr (8, [.int t_units, .ref a_t_population, .ref a_t_area, .ref a_t_community, .ref a_t_outer, .ref a_t_neighbors, .ref a_t_lengths, v_t_cores, v_t_districts, v_t_tolerance, v_t_hasPlan, .ref a_t_plan])), (a_t_neighbors, .inl (k 0, 12, .inl t_neighbors))] H locs → lv_has ls 3 [(1, .int z4_1)] → W p l e ({ frames := 1, cells := 0, slots := 0, locals := 20 } : Room) s m (List.toArray [.ref a_t]) below meth c H locs 0 0 Q (F0 m 30 ls [])) → ∀ (H : Heap) (locs : List Loc) (ls : Array Slot), HOK D A s.heap [(a_t, .inr (8, [.int t_units, .ref a_t_population, .ref a_t_area, .ref a_t_community, .ref a_t_outer, .ref a_t_neighbors, .ref a_t_lengths, v_t_cores, v_t_districts, v_t_tolerance, v_t_hasPlan, .ref a_t_plan])), (a_t_neighbors, .inl (k 0, 12, .inl t_neighbors))] H locs → lv_has ls 3 [(0, .ref a_t), (1, .int y4_1), (2, .int y4_2)] → W p l e ({ frames := 1, cells := 0, slots := 0, locals := 20 } : Room) s m (List.toArray [.ref a_t]) below meth c H locs 0 0 Q (F0 m 4 ls []) := by
    intro n
    induction n with
    | zero =>
      intro kf y4_1 y4_2 h
      exact absurd h (by rw [fX9_countBorders_L4]; exact fun q => by cases q)
    | succ n ih =>
      intro kf y4_1 y4_2 h kk H locs ls hH hl
      rw [fX9_countBorders_L4] at h
      refine lv_iload_n hx hb dX9_countBorders_4 rfl (lv_at hl 2 rfl) ?_
      refine lv_aload_n hx hb dX9_countBorders_5 rfl (lv_at hl 0 rfl) ?_
      refine gk_get (ci := 8) (C := RX9) (T := TX9) (N := 12) hx hb hts u_ws_X9 hown hK hH 0 rfl rfl 0 (by decide) u_fl_X9_9 rfl dX9_countBorders_6 ?_
      refine lv_icmp_ge (tgt := 30) hx hb dX9_countBorders_9 (by decide) (fun c1 => ?_) (fun c1 => ?_)
      · replace h := dc_pos c1 h
        exact kk y4_1 H locs ls h hH (lv_sub hl [1] rfl)
      · replace h := dc_neg c1 h
        refine lv_iload_n hx hb dX9_countBorders_12 rfl (lv_at hl 1 rfl) ?_
        refine lv_aload_n hx hb dX9_countBorders_13 rfl (lv_at hl 0 rfl) ?_
        refine gk_get (ci := 8) (C := RX9) (T := TX9) (N := 12) hx hb hts u_ws_X9 hown hK hH 0 rfl rfl 5 (by decide) u_fl_X9_28 rfl dX9_countBorders_14 ?_
        refine lv_iload_n hx hb dX9_countBorders_17 rfl (lv_at hl 2 rfl) ?_
        obtain ⟨g2, h⟩ := dc_need h
        refine gk_iald hx hb hK hH 1 rfl (dk_in g2) dX9_countBorders_18 ?_
        obtain ⟨q3, hqq3, h⟩ := dc_bind h
        refine gc_Si (ws' := [(a_t, .inr (8, [.int t_units, .ref a_t_population, .ref a_t_area, .ref a_t_community, .ref a_t_outer, .ref a_t_neighbors, .ref a_t_lengths, v_t_cores, v_t_districts, v_t_tolerance, v_t_hasPlan, .ref a_t_plan])), (a_t_neighbors, .inl (k 0, 12, .inl t_neighbors))]) (isC := []) (isR := [0, 1]) (As := [.int (t_neighbors y4_2.toNatClampNeg)]) (rest := [.int y4_1]) (n := 1) hTs ⟨hx, hb, hml, hown, hts⟩ (mJ6_bitCount_0f7a4 l Ts hTs D k H.size (t_neighbors y4_2.toNatClampNeg) q3 hqq3) u_ml_X9_83 u_st_J6_bitCount_0f7a4 u_in_J6 u_co_J6_bitCount_0f7a4 hd_J6_bitCount_0f7a4 ⟨Nat.le_of_ble_eq_true rfl, Nat.le_of_ble_eq_true rfl⟩ ⟨rfl, rfl⟩ hK hH hA ⟨rfl, rfl, rfl, rfl, rfl, rfl⟩ rfl rfl hl.1 (by decide) dX9_countBorders_19 ⟨Nat.le_of_ble_eq_true rfl, Nat.le_of_ble_eq_true rfl⟩ (fun H locs hH => ?_)
        refine lv_iadd hx hb dX9_countBorders_22 ?_
        refine lv_istore_n (lv' := [(1, .int (y4_1 + q3)), (0, .ref a_t), (2, .int y4_2)]) hx hb dX9_countBorders_23 rfl hl (by decide) rfl (fun ls hl => ?_)
        refine lv_iinc (v := (y4_2 + (1 : Int32))) (lv' := [(2, .int (y4_2 + (1 : Int32))), (1, .int (y4_1 + q3)), (0, .ref a_t)]) hx hb dX9_countBorders_24 hl (k := 2) rfl rfl (by decide) rfl (fun ls hl => ?_)
        refine lv_goto (tgt := 4) hx hb dX9_countBorders_27 (by decide) ?_
        exact ih kf (y4_1 + q3) (y4_2 + (1 : Int32)) h kk H locs ls hH (lv_sub hl [2, 1, 0] rfl)
  rw [fX9_countBorders] at h
  refine lv_iconst (v := 0) hx hb dX9_countBorders_0 (by decide) ?_
  refine lv_istore_n (lv' := [(1, .int (0 : Int32)), (0, .ref a_t)]) hx hb dX9_countBorders_1 rfl hl (by decide) rfl (fun ls hl => ?_)
  refine lv_iconst (v := 0) hx hb dX9_countBorders_2 (by decide) ?_
  refine lv_istore_n (lv' := [(2, .int (0 : Int32)), (1, .int (0 : Int32)), (0, .ref a_t)]) hx hb dX9_countBorders_3 rfl hl (by decide) rfl (fun ls hl => ?_)
  refine L4 _ _ (0 : Int32) (0 : Int32) h (fun z4_1 H locs ls h hH hl => ?_) H locs ls hH (lv_sub hl [2, 1, 0] rfl)
  refine lv_iload_n hx hb dX9_countBorders_30 rfl (lv_at hl 0 rfl) ?_
  refine lv_iconst (v := 2) hx hb dX9_countBorders_31 (by decide) ?_
  refine lv_idiv hx hb dX9_countBorders_32 (by decide) ?_
  have h := Option.some.inj h
  subst h
  exact ge_i hx hb hr hlocks hQ hK hH hAe rfl dX9_countBorders_33
theorem hd_X9_districtsAround : yX9_districtsAround.cls = RX9 ∧ yX9_districtsAround.cls ≠ "java/lang/invoke/MethodHandle" ∧ yX9_districtsAround.cls ≠ "java/lang/invoke/VarHandle" ∧ (parseMethodDescriptor yX9_districtsAround.desc).map (fun d => d.parameters.length) = some 1 := by decide +kernel
set_option maxHeartbeats 4000000 in
set_option maxRecDepth 100000 in
theorem mX9_districtsAround (l : Launch) (Ts : List Cond) (hTs : ∀ w, w ∈ Ts ↔ w ∈ uT) (D : va_G) (k : Nat → ClassId) (sz : Nat) (a_t : Nat) (a_t_population : Nat) (a_t_area : Nat) (a_t_community : Nat) (a_t_outer : Nat) (a_t_neighbors : Nat) (a_t_lengths : Nat) (a_t_plan : Nat) (a_t_plan_places : Nat) (a_t_plan_sets : Nat) (t_districts : Int32) (t_neighbors : Nat → Int32) (t_plan_places : Nat → Int32) (t_plan_sets : Nat → Int32) (t_units : Int32) (v_t_cores : Value) (v_t_hasPlan : Value) (v_t_tolerance : Value) (x1 : Int32) (r : Int32) (h : fX9_districtsAround t_districts t_neighbors t_plan_places t_plan_sets t_units x1 = some r) : Met l yX9_districtsAround (Cond.code yX9_districtsAround cX9_districtsAround 5 (some .int) :: Ts) ({ frames := 0, cells := 0, slots := 0, locals := 0 } : Room) (preM D k [.ref a_t, .int x1] [(a_t, .inr (8, [.int t_units, .ref a_t_population, .ref a_t_area, .ref a_t_community, .ref a_t_outer, .ref a_t_neighbors, .ref a_t_lengths, v_t_cores, .int t_districts, v_t_tolerance, v_t_hasPlan, .ref a_t_plan])), (a_t_plan, .inr (4, [.ref a_t_plan_places, .ref a_t_plan_sets])), (a_t_plan_places, .inl (k 0, 12, .inl t_plan_places)), (a_t_neighbors, .inl (k 0, 12, .inl t_neighbors)), (a_t_plan_sets, .inl (k 0, 4, .inl t_plan_sets))] sz) (postI D k r [(a_t, .inr (8, [.int t_units, .ref a_t_population, .ref a_t_area, .ref a_t_community, .ref a_t_outer, .ref a_t_neighbors, .ref a_t_lengths, v_t_cores, .int t_districts, v_t_tolerance, v_t_hasPlan, .ref a_t_plan])), (a_t_plan, .inr (4, [.ref a_t_plan_places, .ref a_t_plan_sets])), (a_t_plan_places, .inl (k 0, 12, .inl t_plan_places)), (a_t_neighbors, .inl (k 0, 12, .inl t_neighbors)), (a_t_plan_sets, .inl (k 0, 4, .inl t_plan_sets))] [(a_t, .inr (8, [.int t_units, .ref a_t_population, .ref a_t_area, .ref a_t_community, .ref a_t_outer, .ref a_t_neighbors, .ref a_t_lengths, v_t_cores, .int t_districts, v_t_tolerance, v_t_hasPlan, .ref a_t_plan])), (a_t_plan, .inr (4, [.ref a_t_plan_places, .ref a_t_plan_sets])), (a_t_plan_places, .inl (k 0, 12, .inl t_plan_places)), (a_t_neighbors, .inl (k 0, 12, .inl t_neighbors)), (a_t_plan_sets, .inl (k 0, 4, .inl t_plan_sets))] sz) 0 0 (va_A [(a_t, .inr (8, [.int t_units, .ref a_t_population, .ref a_t_area, .ref a_t_community, .ref a_t_outer, .ref a_t_neighbors, .ref a_t_lengths, v_t_cores, .int t_districts, v_t_tolerance, v_t_hasPlan, .ref a_t_plan])), (a_t_plan, .inr (4, [.ref a_t_plan_places, .ref a_t_plan_sets])), (a_t_plan_places, .inl (k 0, 12, .inl t_plan_places)), (a_t_neighbors, .inl (k 0, 12, .inl t_neighbors)), (a_t_plan_sets, .inl (k 0, 4, .inl t_plan_sets))] sz) := by
  refine Met.ofW (cc := cX9_districtsAround) (maxL := 5) (ret := (some .int)) (by decide) rfl ?_
  intro p e s m args below meth c s₁ B hml hv
  obtain ⟨rfl, hsz, hP, hK, hD0⟩ := hv
  have hx := B.exec
  have hb := B.bytes
  have hr := B.returns
  have hts0 := atoms_spec (ws := (Cond.code yX9_districtsAround cX9_districtsAround 5 (some .int) :: Ts)) B.pre
  have hts : ∀ w ∈ uT, w.before _ s = true := fun w h => hts0 w (List.mem_cons_of_mem _ ((hTs w).mpr h))
  clear hts0
  have hown : s.vm.findClass RX9 = some m.cls := findClass_of_methodNamed B.named
  have hlocks := B.notSynchronized
  subst hsz
  have hD := hD0.self (sz := s.heap.size)
  generalize hAe : va_A [(a_t, .inr (8, [.int t_units, .ref a_t_population, .ref a_t_area, .ref a_t_community, .ref a_t_outer, .ref a_t_neighbors, .ref a_t_lengths, v_t_cores, .int t_districts, v_t_tolerance, v_t_hasPlan, .ref a_t_plan])), (a_t_plan, .inr (4, [.ref a_t_plan_places, .ref a_t_plan_sets])), (a_t_plan_places, .inl (k 0, 12, .inl t_plan_places)), (a_t_neighbors, .inl (k 0, 12, .inl t_neighbors)), (a_t_plan_sets, .inl (k 0, 4, .inl t_plan_sets))] s.heap.size = A at hD ⊢
  have hA : ∀ q : Nat, s.heap.size ≤ q → A q := fun q h => by rw [← hAe]; exact Or.inr h
  have hH : HOK D A s.heap [(a_t, .inr (8, [.int t_units, .ref a_t_population, .ref a_t_area, .ref a_t_community, .ref a_t_outer, .ref a_t_neighbors, .ref a_t_lengths, v_t_cores, .int t_districts, v_t_tolerance, v_t_hasPlan, .ref a_t_plan])), (a_t_plan, .inr (4, [.ref a_t_plan_places, .ref a_t_plan_sets])), (a_t_plan_places, .inl (k 0, 12, .inl t_plan_places)), (a_t_neighbors, .inl (k 0, 12, .inl t_neighbors)), (a_t_plan_sets, .inl (k 0, 4, .inl t_plan_sets))] s.heap [] := ⟨hP, hD, va_S.rf⟩
  have hl := lv_entry ([.ref a_t, .int x1]) (n := 5) (Nat.le_of_ble_eq_true rfl)
  rw [lg_entry_eq]
  generalize (lg_sl ([.ref a_t, .int x1]) ++ List.replicate (5 - (lg_sl ([.ref a_t, .int x1])).length) Slot.unset).toArray = ls at hl ⊢
  have hl : lv_has ls 5 [(0, .ref a_t), (1, .int x1)] := hl
  generalize hQ : MQ below (postI D k r [(a_t, .inr (8, [.int t_units, .ref a_t_population, .ref a_t_area, .ref a_t_community, .ref a_t_outer, .ref a_t_neighbors, .ref a_t_lengths, v_t_cores, .int t_districts, v_t_tolerance, v_t_hasPlan, .ref a_t_plan])), (a_t_plan, .inr (4, [.ref a_t_plan_places, .ref a_t_plan_sets])), (a_t_plan_places, .inl (k 0, 12, .inl t_plan_places)), (a_t_neighbors, .inl (k 0, 12, .inl t_neighbors)), (a_t_plan_sets, .inl (k 0, 4, .inl t_plan_sets))] [(a_t, .inr (8, [.int t_units, .ref a_t_population, .ref a_t_area, .ref a_t_community, .ref a_t_outer, .ref a_t_neighbors, .ref a_t_lengths, v_t_cores, .int t_districts, v_t_tolerance, v_t_hasPlan, .ref a_t_plan])), (a_t_plan, .inr (4, [.ref a_t_plan_places, .ref a_t_plan_sets])), (a_t_plan_places, .inl (k 0, 12, .inl t_plan_places)), (a_t_neighbors, .inl (k 0, 12, .inl t_neighbors)), (a_t_plan_sets, .inl (k 0, 4, .inl t_plan_sets))] s.heap.size) (List.toArray [.ref a_t, .int x1]) s 0 0 A = Q
  clear hP hD hD0
  suffices K : ∀ (H : Heap) (locs : List Loc), HOK D A s.heap [(a_t, .inr (8, [.int t_units, .ref a_t_population, .ref a_t_area, .ref a_t_community, .ref a_t_outer, .ref a_t_neighbors, .ref a_t_lengths, v_t_cores, .int t_districts, v_t_tolerance, v_t_hasPlan, .ref a_t_plan])), (a_t_plan, .inr (4, [.ref a_t_plan_places, .ref a_t_plan_sets])), (a_t_plan_places, .inl (k 0, 12, .inl t_plan_places)), (a_t_neighbors, .inl (k 0, 12, .inl t_neighbors)), (a_t_plan_sets, .inl (k 0, 4, .inl t_plan_sets))] H locs → W p l e ({ frames := 0, cells := 0, slots := 0, locals := 0 } : Room) s m (List.toArray [.ref a_t, .int x1]) below meth c H locs 0 0 Q (F0 m 0 ls []) from K s.heap [] hH
  intro H locs hH
  have L4 : ∀ (n : Nat), ∀ (kf : Int32 → Option (Int32)) (y4_2 : Int32) (y4_3 : Int32), fX9_districtsAround_L4 t_neighbors t_plan_places t_units x1 n kf y4_2 y4_3 = some r → (∀ (z4_2 : Int32) (H : Heap) (locs : List Loc) (ls : Array Slot), kf z4_2 = some r → HOK D A s.heap [(a_t, .inr (8, [.int t_units, .ref a_t_population, .ref a_t_area, .ref a_t_community, .ref a_t_outer, .ref a_t_neighbors, .ref a_t_lengths, v_t_cores, .int t_districts, v_t_tolerance, v_t_hasPlan, .ref a_t_plan])), (a_t_plan, .inr (4, [.ref a_t_plan_places, .ref a_t_plan_sets])), (a_t_plan_places, .inl (k 0, 12, .inl t_plan_places)), (a_t_neighbors, .inl (k 0, 12, .inl t_neighbors)), (a_t_plan_sets, .inl (k 0, 4, .inl t_plan_sets))] H locs → lv_has ls 5 [(0, .ref a_t), (1, .int x1), (2, .int z4_2)] → W p l e ({ frames := 0, cells := 0, slots := 0, locals := 0 } : Room) s m (List.toArray [.ref a_t, .int x1]) below meth c H locs 0 0 Q (F0 m 40 ls [])) → ∀ (H : Heap) (locs : List Loc) (ls : Array Slot), HOK D A s.heap [(a_t, .inr (8, [.int t_units, .ref a_t_population, .ref a_t_area, .ref a_t_community, .ref a_t_outer, .ref a_t_neighbors, .ref a_t_lengths, v_t_cores, .int t_districts, v_t_tolerance, v_t_hasPlan, .ref a_t_plan])), (a_t_plan, .inr (4, [.ref a_t_plan_places, .ref a_t_plan_sets])), (a_t_plan_places, .inl (k 0, 12, .inl t_plan_places)), (a_t_neighbors, .inl (k 0, 12, .inl t_neighbors)), (a_t_plan_sets, .inl (k 0, 4, .inl t_plan_sets))] H locs → lv_has ls 5 [(0, .ref a_t), (1, .int x1), (2, .int y4_2), (3, .int y4_3)] → W p l e ({ frames := 0, cells := 0, slots := 0, locals := 0 } : Room) s m (List.toArray [.ref a_t, .int x1]) below meth c H locs 0 0 Q (F0 m 4 ls []) := by
    intro n
    induction n with
    | zero =>
      intro kf y4_2 y4_3 h
      exact absurd h (by rw [fX9_districtsAround_L4]; exact fun q => by cases q)
    | succ n ih =>
      intro kf y4_2 y4_3 h kk H locs ls hH hl
      rw [fX9_districtsAround_L4] at h
      refine lv_iload_n hx hb dX9_districtsAround_4 rfl (lv_at hl 3 rfl) ?_
      refine lv_aload_n hx hb dX9_districtsAround_5 rfl (lv_at hl 0 rfl) ?_
      refine gk_get (ci := 8) (C := RX9) (T := TX9) (N := 12) hx hb hts u_ws_X9 hown hK hH 0 rfl rfl 0 (by decide) u_fl_X9_9 rfl dX9_districtsAround_6 ?_
      refine lv_icmp_ge (tgt := 40) hx hb dX9_districtsAround_9 (by decide) (fun c1 => ?_) (fun c1 => ?_)
      · replace h := dc_pos c1 h
        exact kk y4_2 H locs ls h hH (lv_sub hl [0, 1, 2] rfl)
      · replace h := dc_neg c1 h
        refine lv_aload_n hx hb dX9_districtsAround_12 rfl (lv_at hl 0 rfl) ?_
        refine gk_get (ci := 8) (C := RX9) (T := TX9) (N := 12) hx hb hts u_ws_X9 hown hK hH 0 rfl rfl 11 (by decide) u_fl_X9_50 rfl dX9_districtsAround_13 ?_
        refine gk_get (ci := 4) (C := RX4) (T := TX4) (N := 2) hx hb hts u_ws_X4 hown hK hH 1 rfl rfl 0 (by decide) u_fl_X9_80 rfl dX9_districtsAround_16 ?_
        refine lv_iload_n hx hb dX9_districtsAround_19 rfl (lv_at hl 3 rfl) ?_
        obtain ⟨g2, h⟩ := dc_need h
        refine gk_iald hx hb hK hH 2 rfl (dk_in g2) dX9_districtsAround_20 ?_
        refine lv_iload_n hx hb dX9_districtsAround_21 rfl (lv_at hl 1 rfl) ?_
        refine lv_icmp_ne (tgt := 34) hx hb dX9_districtsAround_22 (by decide) (fun c3 => ?_) (fun c3 => ?_)
        · replace h := dc_neg c3 h
          refine lv_iinc (v := (y4_3 + (1 : Int32))) (lv' := [(3, .int (y4_3 + (1 : Int32))), (0, .ref a_t), (1, .int x1), (2, .int y4_2)]) hx hb dX9_districtsAround_34 hl (k := 3) rfl rfl (by decide) rfl (fun ls hl => ?_)
          refine lv_goto (tgt := 4) hx hb dX9_districtsAround_37 (by decide) ?_
          exact ih kf y4_2 (y4_3 + (1 : Int32)) h kk H locs ls hH (lv_sub hl [1, 2, 3, 0] rfl)
        · replace h := dc_pos c3 h
          refine lv_iload_n hx hb dX9_districtsAround_25 rfl (lv_at hl 2 rfl) ?_
          refine lv_aload_n hx hb dX9_districtsAround_26 rfl (lv_at hl 0 rfl) ?_
          refine gk_get (ci := 8) (C := RX9) (T := TX9) (N := 12) hx hb hts u_ws_X9 hown hK hH 0 rfl rfl 5 (by decide) u_fl_X9_28 rfl dX9_districtsAround_27 ?_
          refine lv_iload_n hx hb dX9_districtsAround_30 rfl (lv_at hl 3 rfl) ?_
          obtain ⟨g4, h⟩ := dc_need h
          refine gk_iald hx hb hK hH 3 rfl (dk_in g4) dX9_districtsAround_31 ?_
          refine lv_ior hx hb dX9_districtsAround_32 ?_
          refine lv_istore_n (lv' := [(2, .int (y4_2 ||| (t_neighbors y4_3.toNatClampNeg))), (0, .ref a_t), (1, .int x1), (3, .int y4_3)]) hx hb dX9_districtsAround_33 rfl hl (by decide) rfl (fun ls hl => ?_)
          refine lv_iinc (v := (y4_3 + (1 : Int32))) (lv' := [(3, .int (y4_3 + (1 : Int32))), (2, .int (y4_2 ||| (t_neighbors y4_3.toNatClampNeg))), (0, .ref a_t), (1, .int x1)]) hx hb dX9_districtsAround_34 hl (k := 3) rfl rfl (by decide) rfl (fun ls hl => ?_)
          refine lv_goto (tgt := 4) hx hb dX9_districtsAround_37 (by decide) ?_
          exact ih kf (y4_2 ||| (t_neighbors y4_3.toNatClampNeg)) (y4_3 + (1 : Int32)) h kk H locs ls hH (lv_sub hl [2, 3, 1, 0] rfl)
  have L45 : ∀ (y45_2 : Int32) (n : Nat), ∀ (kf : Int32 → Option (Int32)) (y45_3 : Int32) (y45_4 : Int32), fX9_districtsAround_L45 t_districts t_plan_sets x1 y45_2 n kf y45_3 y45_4 = some r → (∀ (z45_3 : Int32) (H : Heap) (locs : List Loc) (ls : Array Slot), kf z45_3 = some r → HOK D A s.heap [(a_t, .inr (8, [.int t_units, .ref a_t_population, .ref a_t_area, .ref a_t_community, .ref a_t_outer, .ref a_t_neighbors, .ref a_t_lengths, v_t_cores, .int t_districts, v_t_tolerance, v_t_hasPlan, .ref a_t_plan])), (a_t_plan, .inr (4, [.ref a_t_plan_places, .ref a_t_plan_sets])), (a_t_plan_places, .inl (k 0, 12, .inl t_plan_places)), (a_t_neighbors, .inl (k 0, 12, .inl t_neighbors)), (a_t_plan_sets, .inl (k 0, 4, .inl t_plan_sets))] H locs → lv_has ls 5 [(3, .int z45_3)] → W p l e ({ frames := 0, cells := 0, slots := 0, locals := 0 } : Room) s m (List.toArray [.ref a_t, .int x1]) below meth c H locs 0 0 Q (F0 m 88 ls [])) → ∀ (H : Heap) (locs : List Loc) (ls : Array Slot), HOK D A s.heap [(a_t, .inr (8, [.int t_units, .ref a_t_population, .ref a_t_area, .ref a_t_community, .ref a_t_outer, .ref a_t_neighbors, .ref a_t_lengths, v_t_cores, .int t_districts, v_t_tolerance, v_t_hasPlan, .ref a_t_plan])), (a_t_plan, .inr (4, [.ref a_t_plan_places, .ref a_t_plan_sets])), (a_t_plan_places, .inl (k 0, 12, .inl t_plan_places)), (a_t_neighbors, .inl (k 0, 12, .inl t_neighbors)), (a_t_plan_sets, .inl (k 0, 4, .inl t_plan_sets))] H locs → lv_has ls 5 [(0, .ref a_t), (1, .int x1), (2, .int y45_2), (3, .int y45_3), (4, .int y45_4)] → W p l e ({ frames := 0, cells := 0, slots := 0, locals := 0 } : Room) s m (List.toArray [.ref a_t, .int x1]) below meth c H locs 0 0 Q (F0 m 45 ls []) := by
    intro y45_2 n
    induction n with
    | zero =>
      intro kf y45_3 y45_4 h
      exact absurd h (by rw [fX9_districtsAround_L45]; exact fun q => by cases q)
    | succ n ih =>
      intro kf y45_3 y45_4 h kk H locs ls hH hl
      rw [fX9_districtsAround_L45] at h
      refine lv_iload hx hb dX9_districtsAround_45 (lv_at hl 4 rfl) ?_
      refine lv_aload_n hx hb dX9_districtsAround_47 rfl (lv_at hl 0 rfl) ?_
      refine gk_get (ci := 8) (C := RX9) (T := TX9) (N := 12) hx hb hts u_ws_X9 hown hK hH 0 rfl rfl 8 (by decide) u_fl_X9_37 rfl dX9_districtsAround_48 ?_
      refine lv_icmp_ge (tgt := 88) hx hb dX9_districtsAround_51 (by decide) (fun c5 => ?_) (fun c5 => ?_)
      · replace h := dc_pos c5 h
        exact kk y45_3 H locs ls h hH (lv_sub hl [3] rfl)
      · replace h := dc_neg c5 h
        refine lv_iload hx hb dX9_districtsAround_54 (lv_at hl 4 rfl) ?_
        refine lv_iload_n hx hb dX9_districtsAround_56 rfl (lv_at hl 1 rfl) ?_
        refine lv_icmp_eq (tgt := 82) hx hb dX9_districtsAround_57 (by decide) (fun c6 => ?_) (fun c6 => ?_)
        · replace h := dc_pos c6 h
          refine lv_iinc (v := (y45_4 + (1 : Int32))) (lv' := [(4, .int (y45_4 + (1 : Int32))), (0, .ref a_t), (1, .int x1), (2, .int y45_2), (3, .int y45_3)]) hx hb dX9_districtsAround_82 hl (k := 4) rfl rfl (by decide) rfl (fun ls hl => ?_)
          refine lv_goto (tgt := 45) hx hb dX9_districtsAround_85 (by decide) ?_
          exact ih kf y45_3 (y45_4 + (1 : Int32)) h kk H locs ls hH (lv_sub hl [1, 2, 3, 4, 0] rfl)
        · replace h := dc_neg c6 h
          refine lv_iload_n hx hb dX9_districtsAround_60 rfl (lv_at hl 2 rfl) ?_
          refine lv_aload_n hx hb dX9_districtsAround_61 rfl (lv_at hl 0 rfl) ?_
          refine gk_get (ci := 8) (C := RX9) (T := TX9) (N := 12) hx hb hts u_ws_X9 hown hK hH 0 rfl rfl 11 (by decide) u_fl_X9_50 rfl dX9_districtsAround_62 ?_
          refine gk_get (ci := 4) (C := RX4) (T := TX4) (N := 2) hx hb hts u_ws_X4 hown hK hH 1 rfl rfl 1 (by decide) u_fl_X9_77 rfl dX9_districtsAround_65 ?_
          refine lv_iload hx hb dX9_districtsAround_68 (lv_at hl 4 rfl) ?_
          obtain ⟨g7, h⟩ := dc_need h
          refine gk_iald hx hb hK hH 4 rfl (dk_in g7) dX9_districtsAround_70 ?_
          refine lv_iand hx hb dX9_districtsAround_71 ?_
          refine lv_if_eq (tgt := 82) hx hb dX9_districtsAround_72 (by decide) (fun c8 => ?_) (fun c8 => ?_)
          · replace h := dc_pos c8 h
            refine lv_iinc (v := (y45_4 + (1 : Int32))) (lv' := [(4, .int (y45_4 + (1 : Int32))), (0, .ref a_t), (1, .int x1), (2, .int y45_2), (3, .int y45_3)]) hx hb dX9_districtsAround_82 hl (k := 4) rfl rfl (by decide) rfl (fun ls hl => ?_)
            refine lv_goto (tgt := 45) hx hb dX9_districtsAround_85 (by decide) ?_
            exact ih kf y45_3 (y45_4 + (1 : Int32)) h kk H locs ls hH (lv_sub hl [1, 2, 3, 4, 0] rfl)
          · replace h := dc_neg c8 h
            refine lv_iload_n hx hb dX9_districtsAround_75 rfl (lv_at hl 3 rfl) ?_
            refine lv_iconst (v := 1) hx hb dX9_districtsAround_76 (by decide) ?_
            refine lv_iload hx hb dX9_districtsAround_77 (lv_at hl 4 rfl) ?_
            refine lv_ishl hx hb dX9_districtsAround_79 ?_
            refine lv_ior hx hb dX9_districtsAround_80 ?_
            refine lv_istore_n (lv' := [(3, .int (y45_3 ||| ((1 : Int32) <<< (y45_4 &&& 31)))), (0, .ref a_t), (1, .int x1), (2, .int y45_2), (4, .int y45_4)]) hx hb dX9_districtsAround_81 rfl hl (by decide) rfl (fun ls hl => ?_)
            refine lv_iinc (v := (y45_4 + (1 : Int32))) (lv' := [(4, .int (y45_4 + (1 : Int32))), (3, .int (y45_3 ||| ((1 : Int32) <<< (y45_4 &&& 31)))), (0, .ref a_t), (1, .int x1), (2, .int y45_2)]) hx hb dX9_districtsAround_82 hl (k := 4) rfl rfl (by decide) rfl (fun ls hl => ?_)
            refine lv_goto (tgt := 45) hx hb dX9_districtsAround_85 (by decide) ?_
            exact ih kf (y45_3 ||| ((1 : Int32) <<< (y45_4 &&& 31))) (y45_4 + (1 : Int32)) h kk H locs ls hH (lv_sub hl [2, 3, 4, 1, 0] rfl)
  rw [fX9_districtsAround] at h
  refine lv_iconst (v := 0) hx hb dX9_districtsAround_0 (by decide) ?_
  refine lv_istore_n (lv' := [(2, .int (0 : Int32)), (0, .ref a_t), (1, .int x1)]) hx hb dX9_districtsAround_1 rfl hl (by decide) rfl (fun ls hl => ?_)
  refine lv_iconst (v := 0) hx hb dX9_districtsAround_2 (by decide) ?_
  refine lv_istore_n (lv' := [(3, .int (0 : Int32)), (2, .int (0 : Int32)), (0, .ref a_t), (1, .int x1)]) hx hb dX9_districtsAround_3 rfl hl (by decide) rfl (fun ls hl => ?_)
  refine L4 _ _ (0 : Int32) (0 : Int32) h (fun z4_2 H locs ls h hH hl => ?_) H locs ls hH (lv_sub hl [2, 3, 1, 0] rfl)
  refine lv_iconst (v := 0) hx hb dX9_districtsAround_40 (by decide) ?_
  refine lv_istore_n (lv' := [(3, .int (0 : Int32)), (0, .ref a_t), (1, .int x1), (2, .int z4_2)]) hx hb dX9_districtsAround_41 rfl hl (by decide) rfl (fun ls hl => ?_)
  refine lv_iconst (v := 0) hx hb dX9_districtsAround_42 (by decide) ?_
  refine lv_istore (lv' := [(4, .int (0 : Int32)), (3, .int (0 : Int32)), (0, .ref a_t), (1, .int x1), (2, .int z4_2)]) hx hb dX9_districtsAround_43 hl (by decide) rfl (fun ls hl => ?_)
  refine L45 z4_2 _ _ (0 : Int32) (0 : Int32) h (fun z45_3 H locs ls h hH hl => ?_) H locs ls hH (lv_sub hl [2, 3, 4, 1, 0] rfl)
  refine lv_iload_n hx hb dX9_districtsAround_88 rfl (lv_at hl 0 rfl) ?_
  have h := Option.some.inj h
  subst h
  exact ge_i hx hb hr hlocks hQ hK hH hAe rfl dX9_districtsAround_89
theorem hd_X9_countCommunities : yX9_countCommunities.cls = RX9 ∧ yX9_countCommunities.cls ≠ "java/lang/invoke/MethodHandle" ∧ yX9_countCommunities.cls ≠ "java/lang/invoke/VarHandle" ∧ (parseMethodDescriptor yX9_countCommunities.desc).map (fun d => d.parameters.length) = some 1 := by decide +kernel
set_option maxHeartbeats 4000000 in
set_option maxRecDepth 100000 in
theorem mX9_countCommunities (l : Launch) (Ts : List Cond) (hTs : ∀ w, w ∈ Ts ↔ w ∈ uT) (D : va_G) (k : Nat → ClassId) (sz : Nat) (a_t : Nat) (a_t_population : Nat) (a_t_area : Nat) (a_t_community : Nat) (a_t_outer : Nat) (a_t_neighbors : Nat) (a_t_lengths : Nat) (a_t_plan : Nat) (t_community : Nat → Int32) (t_units : Int32) (v_t_cores : Value) (v_t_districts : Value) (v_t_hasPlan : Value) (v_t_tolerance : Value) (x1 : Int32) (r : Int32) (h : fX9_countCommunities t_community t_units x1 = some r) : Met l yX9_countCommunities (Cond.code yX9_countCommunities cX9_countCommunities 4 (some .int) :: Ts) ({ frames := 1, cells := 0, slots := 0, locals := 23 } : Room) (preM D k [.ref a_t, .int x1] [(a_t, .inr (8, [.int t_units, .ref a_t_population, .ref a_t_area, .ref a_t_community, .ref a_t_outer, .ref a_t_neighbors, .ref a_t_lengths, v_t_cores, v_t_districts, v_t_tolerance, v_t_hasPlan, .ref a_t_plan])), (a_t_community, .inl (k 0, 12, .inl t_community))] sz) (postI D k r [(a_t, .inr (8, [.int t_units, .ref a_t_population, .ref a_t_area, .ref a_t_community, .ref a_t_outer, .ref a_t_neighbors, .ref a_t_lengths, v_t_cores, v_t_districts, v_t_tolerance, v_t_hasPlan, .ref a_t_plan])), (a_t_community, .inl (k 0, 12, .inl t_community))] [(a_t, .inr (8, [.int t_units, .ref a_t_population, .ref a_t_area, .ref a_t_community, .ref a_t_outer, .ref a_t_neighbors, .ref a_t_lengths, v_t_cores, v_t_districts, v_t_tolerance, v_t_hasPlan, .ref a_t_plan])), (a_t_community, .inl (k 0, 12, .inl t_community))] sz) 0 0 (va_A [(a_t, .inr (8, [.int t_units, .ref a_t_population, .ref a_t_area, .ref a_t_community, .ref a_t_outer, .ref a_t_neighbors, .ref a_t_lengths, v_t_cores, v_t_districts, v_t_tolerance, v_t_hasPlan, .ref a_t_plan])), (a_t_community, .inl (k 0, 12, .inl t_community))] sz) := by
  refine Met.ofW (cc := cX9_countCommunities) (maxL := 4) (ret := (some .int)) (by decide) rfl ?_
  intro p e s m args below meth c s₁ B hml hv
  obtain ⟨rfl, hsz, hP, hK, hD0⟩ := hv
  have hx := B.exec
  have hb := B.bytes
  have hr := B.returns
  have hts0 := atoms_spec (ws := (Cond.code yX9_countCommunities cX9_countCommunities 4 (some .int) :: Ts)) B.pre
  have hts : ∀ w ∈ uT, w.before _ s = true := fun w h => hts0 w (List.mem_cons_of_mem _ ((hTs w).mpr h))
  clear hts0
  have hown : s.vm.findClass RX9 = some m.cls := findClass_of_methodNamed B.named
  have hlocks := B.notSynchronized
  subst hsz
  have hD := hD0.self (sz := s.heap.size)
  generalize hAe : va_A [(a_t, .inr (8, [.int t_units, .ref a_t_population, .ref a_t_area, .ref a_t_community, .ref a_t_outer, .ref a_t_neighbors, .ref a_t_lengths, v_t_cores, v_t_districts, v_t_tolerance, v_t_hasPlan, .ref a_t_plan])), (a_t_community, .inl (k 0, 12, .inl t_community))] s.heap.size = A at hD ⊢
  have hA : ∀ q : Nat, s.heap.size ≤ q → A q := fun q h => by rw [← hAe]; exact Or.inr h
  have hH : HOK D A s.heap [(a_t, .inr (8, [.int t_units, .ref a_t_population, .ref a_t_area, .ref a_t_community, .ref a_t_outer, .ref a_t_neighbors, .ref a_t_lengths, v_t_cores, v_t_districts, v_t_tolerance, v_t_hasPlan, .ref a_t_plan])), (a_t_community, .inl (k 0, 12, .inl t_community))] s.heap [] := ⟨hP, hD, va_S.rf⟩
  have hl := lv_entry ([.ref a_t, .int x1]) (n := 4) (Nat.le_of_ble_eq_true rfl)
  rw [lg_entry_eq]
  generalize (lg_sl ([.ref a_t, .int x1]) ++ List.replicate (4 - (lg_sl ([.ref a_t, .int x1])).length) Slot.unset).toArray = ls at hl ⊢
  have hl : lv_has ls 4 [(0, .ref a_t), (1, .int x1)] := hl
  generalize hQ : MQ below (postI D k r [(a_t, .inr (8, [.int t_units, .ref a_t_population, .ref a_t_area, .ref a_t_community, .ref a_t_outer, .ref a_t_neighbors, .ref a_t_lengths, v_t_cores, v_t_districts, v_t_tolerance, v_t_hasPlan, .ref a_t_plan])), (a_t_community, .inl (k 0, 12, .inl t_community))] [(a_t, .inr (8, [.int t_units, .ref a_t_population, .ref a_t_area, .ref a_t_community, .ref a_t_outer, .ref a_t_neighbors, .ref a_t_lengths, v_t_cores, v_t_districts, v_t_tolerance, v_t_hasPlan, .ref a_t_plan])), (a_t_community, .inl (k 0, 12, .inl t_community))] s.heap.size) (List.toArray [.ref a_t, .int x1]) s 0 0 A = Q
  clear hP hD hD0
  suffices K : ∀ (H : Heap) (locs : List Loc), HOK D A s.heap [(a_t, .inr (8, [.int t_units, .ref a_t_population, .ref a_t_area, .ref a_t_community, .ref a_t_outer, .ref a_t_neighbors, .ref a_t_lengths, v_t_cores, v_t_districts, v_t_tolerance, v_t_hasPlan, .ref a_t_plan])), (a_t_community, .inl (k 0, 12, .inl t_community))] H locs → W p l e ({ frames := 1, cells := 0, slots := 0, locals := 23 } : Room) s m (List.toArray [.ref a_t, .int x1]) below meth c H locs 0 0 Q (F0 m 0 ls []) from K s.heap [] hH
  intro H locs hH
  have L4 : ∀ (n : Nat), ∀ (kf : Int32 → Option (Int32)) (y4_2 : Int32) (y4_3 : Int32), fX9_countCommunities_L4 t_community t_units x1 n kf y4_2 y4_3 = some r → (∀ (z4_2 : Int32) (H : Heap) (locs : List Loc) (ls : Array Slot), kf z4_2 = some r → HOK D A s.heap [(a_t, .inr (8, [.int t_units, .ref a_t_population, .ref a_t_area, .ref a_t_community, .ref a_t_outer, .ref a_t_neighbors, .ref a_t_lengths, v_t_cores, v_t_districts, v_t_tolerance, v_t_hasPlan, .ref a_t_plan])), (a_t_community, .inl (k 0, 12, .inl t_community))] H locs → lv_has ls 4 [(2, .int z4_2)] → W p l e ({ frames := 1, cells := 0, slots := 0, locals := 23 } : Room) s m (List.toArray [.ref a_t, .int x1]) below meth c H locs 0 0 Q (F0 m 28 ls [])) → ∀ (H : Heap) (locs : List Loc) (ls : Array Slot), HOK D A s.heap [(a_t, .inr (8, [.int t_units, .ref a_t_population, .ref a_t_area, .ref a_t_community, .ref a_t_outer, .ref a_t_neighbors, .ref a_t_lengths, v_t_cores, v_t_districts, v_t_tolerance, v_t_hasPlan, .ref a_t_plan])), (a_t_community, .inl (k 0, 12, .inl t_community))] H locs → lv_has ls 4 [(0, .ref a_t), (1, .int x1), (2, .int y4_2), (3, .int y4_3)] → W p l e ({ frames := 1, cells := 0, slots := 0, locals := 23 } : Room) s m (List.toArray [.ref a_t, .int x1]) below meth c H locs 0 0 Q (F0 m 4 ls []) := by
    intro n
    induction n with
    | zero =>
      intro kf y4_2 y4_3 h
      exact absurd h (by rw [fX9_countCommunities_L4]; exact fun q => by cases q)
    | succ n ih =>
      intro kf y4_2 y4_3 h kk H locs ls hH hl
      rw [fX9_countCommunities_L4] at h
      refine lv_iload_n hx hb dX9_countCommunities_4 rfl (lv_at hl 3 rfl) ?_
      refine lv_iconst (v := 4) hx hb dX9_countCommunities_5 (by decide) ?_
      refine lv_icmp_ge (tgt := 28) hx hb dX9_countCommunities_6 (by decide) (fun c1 => ?_) (fun c1 => ?_)
      · replace h := dc_pos c1 h
        exact kk y4_2 H locs ls h hH (lv_sub hl [2] rfl)
      · replace h := dc_neg c1 h
        refine lv_aload_n hx hb dX9_countCommunities_9 rfl (lv_at hl 0 rfl) ?_
        refine lv_iload_n hx hb dX9_countCommunities_10 rfl (lv_at hl 3 rfl) ?_
        obtain ⟨q2, hqq2, h⟩ := dc_bind h
        refine gc_Vi (ws' := [(a_t, .inr (8, [.int t_units, .ref a_t_population, .ref a_t_area, .ref a_t_community, .ref a_t_outer, .ref a_t_neighbors, .ref a_t_lengths, v_t_cores, v_t_districts, v_t_tolerance, v_t_hasPlan, .ref a_t_plan])), (a_t_community, .inl (k 0, 12, .inl t_community))]) (isC := [0, 1]) (isR := []) (As := [.int y4_3]) (rest := []) (n := 1) (ci := 8) (cq := (RX9, TX9, 12)) hTs ⟨hx, hb, hml, hown, hts⟩ (mX9_membersOf l Ts hTs D k H.size a_t a_t_population a_t_area a_t_community a_t_outer a_t_neighbors a_t_lengths a_t_plan t_community t_units v_t_cores v_t_districts v_t_hasPlan v_t_tolerance y4_3 q2 hqq2) u_ml_X9_92 u_im_X9_membersOf u_se_X9_membersOf u_in_X9 u_co_X9_membersOf hd_X9_membersOf ⟨Nat.le_of_ble_eq_true rfl, Nat.le_of_ble_eq_true rfl⟩ ⟨rfl, rfl⟩ hK hH hA ⟨rfl, rfl, rfl, rfl, rfl, rfl⟩ rfl rfl rfl rfl hl.1 (by decide) dX9_countCommunities_11 ⟨Nat.le_of_ble_eq_true rfl, Nat.le_of_ble_eq_true rfl⟩ (fun H locs hH => ?_)
        refine lv_iload_n hx hb dX9_countCommunities_14 rfl (lv_at hl 1 rfl) ?_
        refine lv_iand hx hb dX9_countCommunities_15 ?_
        refine lv_if_eq (tgt := 22) hx hb dX9_countCommunities_16 (by decide) (fun c3 => ?_) (fun c3 => ?_)
        · replace h := dc_pos c3 h
          refine lv_iinc (v := (y4_3 + (1 : Int32))) (lv' := [(3, .int (y4_3 + (1 : Int32))), (0, .ref a_t), (1, .int x1), (2, .int y4_2)]) hx hb dX9_countCommunities_22 hl (k := 3) rfl rfl (by decide) rfl (fun ls hl => ?_)
          refine lv_goto (tgt := 4) hx hb dX9_countCommunities_25 (by decide) ?_
          exact ih kf y4_2 (y4_3 + (1 : Int32)) h kk H locs ls hH (lv_sub hl [1, 2, 3, 0] rfl)
        · replace h := dc_neg c3 h
          refine lv_iinc (v := (y4_2 + (1 : Int32))) (lv' := [(2, .int (y4_2 + (1 : Int32))), (0, .ref a_t), (1, .int x1), (3, .int y4_3)]) hx hb dX9_countCommunities_19 hl (k := 2) rfl rfl (by decide) rfl (fun ls hl => ?_)
          refine lv_iinc (v := (y4_3 + (1 : Int32))) (lv' := [(3, .int (y4_3 + (1 : Int32))), (2, .int (y4_2 + (1 : Int32))), (0, .ref a_t), (1, .int x1)]) hx hb dX9_countCommunities_22 hl (k := 3) rfl rfl (by decide) rfl (fun ls hl => ?_)
          refine lv_goto (tgt := 4) hx hb dX9_countCommunities_25 (by decide) ?_
          exact ih kf (y4_2 + (1 : Int32)) (y4_3 + (1 : Int32)) h kk H locs ls hH (lv_sub hl [2, 3, 1, 0] rfl)
  rw [fX9_countCommunities] at h
  refine lv_iconst (v := 0) hx hb dX9_countCommunities_0 (by decide) ?_
  refine lv_istore_n (lv' := [(2, .int (0 : Int32)), (0, .ref a_t), (1, .int x1)]) hx hb dX9_countCommunities_1 rfl hl (by decide) rfl (fun ls hl => ?_)
  refine lv_iconst (v := 0) hx hb dX9_countCommunities_2 (by decide) ?_
  refine lv_istore_n (lv' := [(3, .int (0 : Int32)), (2, .int (0 : Int32)), (0, .ref a_t), (1, .int x1)]) hx hb dX9_countCommunities_3 rfl hl (by decide) rfl (fun ls hl => ?_)
  refine L4 _ _ (0 : Int32) (0 : Int32) h (fun z4_2 H locs ls h hH hl => ?_) H locs ls hH (lv_sub hl [2, 3, 1, 0] rfl)
  refine lv_iload_n hx hb dX9_countCommunities_28 rfl (lv_at hl 0 rfl) ?_
  have h := Option.some.inj h
  subst h
  exact ge_i hx hb hr hlocks hQ hK hH hAe rfl dX9_countCommunities_29
theorem hd_X9_countParts : yX9_countParts.cls = RX9 ∧ yX9_countParts.cls ≠ "java/lang/invoke/MethodHandle" ∧ yX9_countParts.cls ≠ "java/lang/invoke/VarHandle" ∧ (parseMethodDescriptor yX9_countParts.desc).map (fun d => d.parameters.length) = some 0 := by decide +kernel
set_option maxHeartbeats 4000000 in
set_option maxRecDepth 100000 in
theorem mX9_countParts (l : Launch) (Ts : List Cond) (hTs : ∀ w, w ∈ Ts ↔ w ∈ uT) (D : va_G) (k : Nat → ClassId) (sz : Nat) (a_t : Nat) (a_t_population : Nat) (a_t_area : Nat) (a_t_community : Nat) (a_t_outer : Nat) (a_t_neighbors : Nat) (a_t_lengths : Nat) (a_t_plan : Nat) (t_neighbors : Nat → Int32) (t_units : Int32) (v_t_cores : Value) (v_t_districts : Value) (v_t_hasPlan : Value) (v_t_tolerance : Value) (r : Int32) (h : fX9_countParts t_neighbors t_units = some r) : Met l yX9_countParts (Cond.code yX9_countParts cX9_countParts 3 (some .int) :: Ts) ({ frames := 1, cells := 0, slots := 0, locals := 25 } : Room) (preM D k [.ref a_t] [(a_t, .inr (8, [.int t_units, .ref a_t_population, .ref a_t_area, .ref a_t_community, .ref a_t_outer, .ref a_t_neighbors, .ref a_t_lengths, v_t_cores, v_t_districts, v_t_tolerance, v_t_hasPlan, .ref a_t_plan])), (a_t_neighbors, .inl (k 0, 12, .inl t_neighbors))] sz) (postI D k r [(a_t, .inr (8, [.int t_units, .ref a_t_population, .ref a_t_area, .ref a_t_community, .ref a_t_outer, .ref a_t_neighbors, .ref a_t_lengths, v_t_cores, v_t_districts, v_t_tolerance, v_t_hasPlan, .ref a_t_plan])), (a_t_neighbors, .inl (k 0, 12, .inl t_neighbors))] [(a_t, .inr (8, [.int t_units, .ref a_t_population, .ref a_t_area, .ref a_t_community, .ref a_t_outer, .ref a_t_neighbors, .ref a_t_lengths, v_t_cores, v_t_districts, v_t_tolerance, v_t_hasPlan, .ref a_t_plan])), (a_t_neighbors, .inl (k 0, 12, .inl t_neighbors))] sz) 0 0 (va_A [(a_t, .inr (8, [.int t_units, .ref a_t_population, .ref a_t_area, .ref a_t_community, .ref a_t_outer, .ref a_t_neighbors, .ref a_t_lengths, v_t_cores, v_t_districts, v_t_tolerance, v_t_hasPlan, .ref a_t_plan])), (a_t_neighbors, .inl (k 0, 12, .inl t_neighbors))] sz) := by
  refine Met.ofW (cc := cX9_countParts) (maxL := 3) (ret := (some .int)) (by decide) rfl ?_
  intro p e s m args below meth c s₁ B hml hv
  obtain ⟨rfl, hsz, hP, hK, hD0⟩ := hv
  have hx := B.exec
  have hb := B.bytes
  have hr := B.returns
  have hts0 := atoms_spec (ws := (Cond.code yX9_countParts cX9_countParts 3 (some .int) :: Ts)) B.pre
  have hts : ∀ w ∈ uT, w.before _ s = true := fun w h => hts0 w (List.mem_cons_of_mem _ ((hTs w).mpr h))
  clear hts0
  have hown : s.vm.findClass RX9 = some m.cls := findClass_of_methodNamed B.named
  have hlocks := B.notSynchronized
  subst hsz
  have hD := hD0.self (sz := s.heap.size)
  generalize hAe : va_A [(a_t, .inr (8, [.int t_units, .ref a_t_population, .ref a_t_area, .ref a_t_community, .ref a_t_outer, .ref a_t_neighbors, .ref a_t_lengths, v_t_cores, v_t_districts, v_t_tolerance, v_t_hasPlan, .ref a_t_plan])), (a_t_neighbors, .inl (k 0, 12, .inl t_neighbors))] s.heap.size = A at hD ⊢
  have hA : ∀ q : Nat, s.heap.size ≤ q → A q := fun q h => by rw [← hAe]; exact Or.inr h
  have hH : HOK D A s.heap [(a_t, .inr (8, [.int t_units, .ref a_t_population, .ref a_t_area, .ref a_t_community, .ref a_t_outer, .ref a_t_neighbors, .ref a_t_lengths, v_t_cores, v_t_districts, v_t_tolerance, v_t_hasPlan, .ref a_t_plan])), (a_t_neighbors, .inl (k 0, 12, .inl t_neighbors))] s.heap [] := ⟨hP, hD, va_S.rf⟩
  have hl := lv_entry ([.ref a_t]) (n := 3) (Nat.le_of_ble_eq_true rfl)
  rw [lg_entry_eq]
  generalize (lg_sl ([.ref a_t]) ++ List.replicate (3 - (lg_sl ([.ref a_t])).length) Slot.unset).toArray = ls at hl ⊢
  have hl : lv_has ls 3 [(0, .ref a_t)] := hl
  generalize hQ : MQ below (postI D k r [(a_t, .inr (8, [.int t_units, .ref a_t_population, .ref a_t_area, .ref a_t_community, .ref a_t_outer, .ref a_t_neighbors, .ref a_t_lengths, v_t_cores, v_t_districts, v_t_tolerance, v_t_hasPlan, .ref a_t_plan])), (a_t_neighbors, .inl (k 0, 12, .inl t_neighbors))] [(a_t, .inr (8, [.int t_units, .ref a_t_population, .ref a_t_area, .ref a_t_community, .ref a_t_outer, .ref a_t_neighbors, .ref a_t_lengths, v_t_cores, v_t_districts, v_t_tolerance, v_t_hasPlan, .ref a_t_plan])), (a_t_neighbors, .inl (k 0, 12, .inl t_neighbors))] s.heap.size) (List.toArray [.ref a_t]) s 0 0 A = Q
  clear hP hD hD0
  suffices K : ∀ (H : Heap) (locs : List Loc), HOK D A s.heap [(a_t, .inr (8, [.int t_units, .ref a_t_population, .ref a_t_area, .ref a_t_community, .ref a_t_outer, .ref a_t_neighbors, .ref a_t_lengths, v_t_cores, v_t_districts, v_t_tolerance, v_t_hasPlan, .ref a_t_plan])), (a_t_neighbors, .inl (k 0, 12, .inl t_neighbors))] H locs → W p l e ({ frames := 1, cells := 0, slots := 0, locals := 25 } : Room) s m (List.toArray [.ref a_t]) below meth c H locs 0 0 Q (F0 m 0 ls []) from K s.heap [] hH
  intro H locs hH
  have L7 : ∀ (n : Nat), ∀ (kf : Int32 → Option (Int32)) (y7_1 : Int32) (y7_2 : Int32), fX9_countParts_L7 t_neighbors t_units n kf y7_1 y7_2 = some r → (∀ (z7_1 : Int32) (H : Heap) (locs : List Loc) (ls : Array Slot), kf z7_1 = some r → HOK D A s.heap [(a_t, .inr (8, [.int t_units, .ref a_t_population, .ref a_t_area, .ref a_t_community, .ref a_t_outer, .ref a_t_neighbors, .ref a_t_lengths, v_t_cores, v_t_districts, v_t_tolerance, v_t_hasPlan, .ref a_t_plan])), (a_t_neighbors, .inl (k 0, 12, .inl t_neighbors))] H locs → lv_has ls 3 [(1, .int z7_1)] → W p l e ({ frames := 1, cells := 0, slots := 0, locals := 25 } : Room) s m (List.toArray [.ref a_t]) below meth c H locs 0 0 Q (F0 m 35 ls [])) → ∀ (H : Heap) (locs : List Loc) (ls : Array Slot), HOK D A s.heap [(a_t, .inr (8, [.int t_units, .ref a_t_population, .ref a_t_area, .ref a_t_community, .ref a_t_outer, .ref a_t_neighbors, .ref a_t_lengths, v_t_cores, v_t_districts, v_t_tolerance, v_t_hasPlan, .ref a_t_plan])), (a_t_neighbors, .inl (k 0, 12, .inl t_neighbors))] H locs → lv_has ls 3 [(0, .ref a_t), (1, .int y7_1), (2, .int y7_2)] → W p l e ({ frames := 1, cells := 0, slots := 0, locals := 25 } : Room) s m (List.toArray [.ref a_t]) below meth c H locs 0 0 Q (F0 m 7 ls []) := by
    intro n
    induction n with
    | zero =>
      intro kf y7_1 y7_2 h
      exact absurd h (by rw [fX9_countParts_L7]; exact fun q => by cases q)
    | succ n ih =>
      intro kf y7_1 y7_2 h kk H locs ls hH hl
      rw [fX9_countParts_L7] at h
      refine lv_iload_n hx hb dX9_countParts_7 rfl (lv_at hl 2 rfl) ?_
      refine lv_if_eq (tgt := 35) hx hb dX9_countParts_8 (by decide) (fun c2 => ?_) (fun c2 => ?_)
      · replace h := dc_pos c2 h
        exact kk y7_1 H locs ls h hH (lv_sub hl [1] rfl)
      · replace h := dc_neg c2 h
        refine lv_iload_n hx hb dX9_countParts_11 rfl (lv_at hl 1 rfl) ?_
        refine lv_aload_n hx hb dX9_countParts_12 rfl (lv_at hl 0 rfl) ?_
        refine gk_get (ci := 8) (C := RX9) (T := TX9) (N := 12) hx hb hts u_ws_X9 hown hK hH 0 rfl rfl 0 (by decide) u_fl_X9_9 rfl dX9_countParts_13 ?_
        refine lv_icmp_ge (tgt := 35) hx hb dX9_countParts_16 (by decide) (fun c3 => ?_) (fun c3 => ?_)
        · replace h := dc_pos c3 h
          exact kk y7_1 H locs ls h hH (lv_sub hl [1] rfl)
        · replace h := dc_neg c3 h
          refine lv_iload_n hx hb dX9_countParts_19 rfl (lv_at hl 2 rfl) ?_
          refine lv_aload_n hx hb dX9_countParts_20 rfl (lv_at hl 0 rfl) ?_
          refine lv_iload_n hx hb dX9_countParts_21 rfl (lv_at hl 2 rfl) ?_
          obtain ⟨q4, hqq4, h⟩ := dc_bind h
          refine gc_Vi (ws' := [(a_t, .inr (8, [.int t_units, .ref a_t_population, .ref a_t_area, .ref a_t_community, .ref a_t_outer, .ref a_t_neighbors, .ref a_t_lengths, v_t_cores, v_t_districts, v_t_tolerance, v_t_hasPlan, .ref a_t_plan])), (a_t_neighbors, .inl (k 0, 12, .inl t_neighbors))]) (isC := [0, 1]) (isR := []) (As := [.int y7_2]) (rest := [.int y7_2]) (n := 1) (ci := 8) (cq := (RX9, TX9, 12)) hTs ⟨hx, hb, hml, hown, hts⟩ (mX9_reach l Ts hTs D k H.size a_t a_t_population a_t_area a_t_community a_t_outer a_t_neighbors a_t_lengths a_t_plan t_neighbors t_units v_t_cores v_t_districts v_t_hasPlan v_t_tolerance y7_2 q4 hqq4) u_ml_X9_99 u_im_X9_reach u_se_X9_reach u_in_X9 u_co_X9_reach hd_X9_reach ⟨Nat.le_of_ble_eq_true rfl, Nat.le_of_ble_eq_true rfl⟩ ⟨rfl, rfl⟩ hK hH hA ⟨rfl, rfl, rfl, rfl, rfl, rfl⟩ rfl rfl rfl rfl hl.1 (by decide) dX9_countParts_22 ⟨Nat.le_of_ble_eq_true rfl, Nat.le_of_ble_eq_true rfl⟩ (fun H locs hH => ?_)
          refine lv_iconst (v := -1) hx hb dX9_countParts_25 (by decide) ?_
          refine lv_ixor hx hb dX9_countParts_26 ?_
          refine lv_iand hx hb dX9_countParts_27 ?_
          refine lv_istore_n (lv' := [(2, .int (y7_2 &&& (q4 ^^^ (-1 : Int32)))), (0, .ref a_t), (1, .int y7_1)]) hx hb dX9_countParts_28 rfl hl (by decide) rfl (fun ls hl => ?_)
          refine lv_iinc (v := (y7_1 + (1 : Int32))) (lv' := [(1, .int (y7_1 + (1 : Int32))), (2, .int (y7_2 &&& (q4 ^^^ (-1 : Int32)))), (0, .ref a_t)]) hx hb dX9_countParts_29 hl (k := 2) rfl rfl (by decide) rfl (fun ls hl => ?_)
          refine lv_goto (tgt := 7) hx hb dX9_countParts_32 (by decide) ?_
          exact ih kf (y7_1 + (1 : Int32)) (y7_2 &&& (q4 ^^^ (-1 : Int32))) h kk H locs ls hH (lv_sub hl [2, 0, 1] rfl)
  rw [fX9_countParts] at h
  refine lv_iconst (v := 0) hx hb dX9_countParts_0 (by decide) ?_
  refine lv_istore_n (lv' := [(1, .int (0 : Int32)), (0, .ref a_t)]) hx hb dX9_countParts_1 rfl hl (by decide) rfl (fun ls hl => ?_)
  refine lv_aload_n hx hb dX9_countParts_2 rfl (lv_at hl 1 rfl) ?_
  obtain ⟨q1, hqq1, h⟩ := dc_bind h
  refine gc_Vi (ws' := [(a_t, .inr (8, [.int t_units, .ref a_t_population, .ref a_t_area, .ref a_t_community, .ref a_t_outer, .ref a_t_neighbors, .ref a_t_lengths, v_t_cores, v_t_districts, v_t_tolerance, v_t_hasPlan, .ref a_t_plan])), (a_t_neighbors, .inl (k 0, 12, .inl t_neighbors))]) (isC := [0]) (isR := [1]) (As := []) (rest := []) (n := 0) (ci := 8) (cq := (RX9, TX9, 12)) hTs ⟨hx, hb, hml, hown, hts⟩ (mX9_allUnits l Ts hTs D k H.size a_t a_t_population a_t_area a_t_community a_t_outer a_t_neighbors a_t_lengths a_t_plan t_units v_t_cores v_t_districts v_t_hasPlan v_t_tolerance q1 hqq1) u_ml_X9_95 u_im_X9_allUnits u_se_X9_allUnits u_in_X9 u_co_X9_allUnits hd_X9_allUnits ⟨Nat.le_of_ble_eq_true rfl, Nat.le_of_ble_eq_true rfl⟩ ⟨rfl, rfl⟩ hK hH hA ⟨rfl, rfl, rfl, rfl, rfl, rfl⟩ rfl rfl rfl rfl hl.1 (by decide) dX9_countParts_3 ⟨Nat.le_of_ble_eq_true rfl, Nat.le_of_ble_eq_true rfl⟩ (fun H locs hH => ?_)
  refine lv_istore_n (lv' := [(2, .int q1), (1, .int (0 : Int32)), (0, .ref a_t)]) hx hb dX9_countParts_6 rfl hl (by decide) rfl (fun ls hl => ?_)
  refine L7 _ _ (0 : Int32) q1 h (fun z7_1 H locs ls h hH hl => ?_) H locs ls hH (lv_sub hl [2, 1, 0] rfl)
  refine lv_iload_n hx hb dX9_countParts_35 rfl (lv_at hl 0 rfl) ?_
  have h := Option.some.inj h
  subst h
  exact ge_i hx hb hr hlocks hQ hK hH hAe rfl dX9_countParts_36
