theorem hd_X3_tell : yX3_tell.cls = RX3 ∧ yX3_tell.cls ≠ "java/lang/invoke/MethodHandle" ∧ yX3_tell.cls ≠ "java/lang/invoke/VarHandle" ∧ (parseMethodDescriptor yX3_tell.desc).map (fun d => d.parameters.length) = some 2 := by decide +kernel
set_option maxHeartbeats 4000000 in
set_option maxRecDepth 100000 in
theorem mX3_tell (l : Launch) (Ts : List Cond) (hTs : ∀ w, w ∈ Ts ↔ w ∈ uT) (D : va_G) (k : Nat → ClassId) (sz : Nat) (a_t : Nat) (v_t_detail : Value) (v_t_reason : Value) (x1 : Int32) (x2 : Int32) (r : Int32 × Int32 × Int32) (h : fX3_tell x1 x2 = some r) : Met l yX3_tell (Cond.code yX3_tell cX3_tell 3 (some .int) :: Ts) ({ frames := 0, cells := 0, slots := 0, locals := 0 } : Room) (preM D k [.ref a_t, .int x1, .int x2] [(a_t, .inr (3, [v_t_reason, v_t_detail]))] sz) (postI D k r.1 [(a_t, .inr (3, [v_t_reason, v_t_detail]))] [(a_t, .inr (3, [.int r.2.2, .int r.2.1]))] sz) 0 0 (va_A [(a_t, .inr (3, [v_t_reason, v_t_detail]))] sz) := by
  refine Met.ofW (cc := cX3_tell) (maxL := 3) (ret := (some .int)) (by decide) rfl ?_
  intro p e s m args below meth c s₁ B hml hv
  obtain ⟨rfl, hsz, hP, hK, hD0⟩ := hv
  have hx := B.exec
  have hb := B.bytes
  have hr := B.returns
  have hts0 := atoms_spec (ws := (Cond.code yX3_tell cX3_tell 3 (some .int) :: Ts)) B.pre
  have hts : ∀ w ∈ uT, w.before _ s = true := fun w h => hts0 w (List.mem_cons_of_mem _ ((hTs w).mpr h))
  clear hts0
  have hown : s.vm.findClass RX3 = some m.cls := findClass_of_methodNamed B.named
  have hlocks := B.notSynchronized
  subst hsz
  have hD := hD0.self (sz := s.heap.size)
  generalize hAe : va_A [(a_t, .inr (3, [v_t_reason, v_t_detail]))] s.heap.size = A at hD ⊢
  have hA : ∀ q : Nat, s.heap.size ≤ q → A q := fun q h => by rw [← hAe]; exact Or.inr h
  have hH : HOK D A s.heap [(a_t, .inr (3, [v_t_reason, v_t_detail]))] s.heap [] := ⟨hP, hD, va_S.rf⟩
  have hl := lv_entry ([.ref a_t, .int x1, .int x2]) (n := 3) (Nat.le_of_ble_eq_true rfl)
  rw [lg_entry_eq]
  generalize (lg_sl ([.ref a_t, .int x1, .int x2]) ++ List.replicate (3 - (lg_sl ([.ref a_t, .int x1, .int x2])).length) Slot.unset).toArray = ls at hl ⊢
  have hl : lv_has ls 3 [(0, .ref a_t), (1, .int x1), (2, .int x2)] := hl
  generalize hQ : MQ below (postI D k r.1 [(a_t, .inr (3, [v_t_reason, v_t_detail]))] [(a_t, .inr (3, [.int r.2.2, .int r.2.1]))] s.heap.size) (List.toArray [.ref a_t, .int x1, .int x2]) s 0 0 A = Q
  clear hP hD hD0
  suffices K : ∀ (H : Heap) (locs : List Loc), HOK D A s.heap [(a_t, .inr (3, [v_t_reason, v_t_detail]))] H locs → W p l e ({ frames := 0, cells := 0, slots := 0, locals := 0 } : Room) s m (List.toArray [.ref a_t, .int x1, .int x2]) below meth c H locs 0 0 Q (F0 m 0 ls []) from K s.heap [] hH
  intro H locs hH
  rw [fX3_tell] at h
  refine lv_aload_n hx hb dX3_tell_0 rfl (lv_at hl 0 rfl) ?_
  refine lv_iload_n hx hb dX3_tell_1 rfl (lv_at hl 1 rfl) ?_
  refine gk_put (ci := 3) (C := RX3) (T := TX3) (N := 2) hx hb hts u_ws_X3 tyX3_ok nmX3 hown hK hH 0 rfl rfl 0 (by decide) u_fl_X3_9 rfl rfl rfl (Nat.le_of_ble_eq_true rfl) dX3_tell_2 [(a_t, .inr (3, [.int x1, v_t_detail]))] rfl (fun H locs hH => ?_)
  refine lv_aload_n hx hb dX3_tell_5 rfl (lv_at hl 0 rfl) ?_
  refine lv_iload_n hx hb dX3_tell_6 rfl (lv_at hl 2 rfl) ?_
  refine gk_put (ci := 3) (C := RX3) (T := TX3) (N := 2) hx hb hts u_ws_X3 tyX3_ok nmX3 hown hK hH 0 rfl rfl 1 (by decide) u_fl_X3_15 rfl rfl rfl (Nat.le_of_ble_eq_true rfl) dX3_tell_7 [(a_t, .inr (3, [.int x1, .int x2]))] rfl (fun H locs hH => ?_)
  refine lv_iload_n hx hb dX3_tell_10 rfl (lv_at hl 1 rfl) ?_
  have h := Option.some.inj h
  subst h
  exact ge_i hx hb hr hlocks hQ hK hH hAe rfl dX3_tell_11
theorem hd_X3_judgePlan : yX3_judgePlan.cls = RX3 ∧ yX3_judgePlan.cls ≠ "java/lang/invoke/MethodHandle" ∧ yX3_judgePlan.cls ≠ "java/lang/invoke/VarHandle" ∧ (parseMethodDescriptor yX3_judgePlan.desc).map (fun d => d.parameters.length) = some 2 := by decide +kernel
set_option maxHeartbeats 4000000 in
set_option maxRecDepth 100000 in
theorem mX3_judgePlan (l : Launch) (Ts : List Cond) (hTs : ∀ w, w ∈ Ts ↔ w ∈ uT) (D : va_G) (k : Nat → ClassId) (sz : Nat) (a_p1 : Nat) (a_p2 : Nat) (a_t : Nat) (a_p1_population : Nat) (a_p1_area : Nat) (a_p1_community : Nat) (a_p1_outer : Nat) (a_p1_neighbors : Nat) (a_p1_lengths : Nat) (a_p1_plan : Nat) (a_p2_places : Nat) (a_p2_sets : Nat) (p1_community : Nat → Int32) (p1_cores : Int32) (p1_districts : Int32) (p1_neighbors : Nat → Int32) (p1_population : Nat → Int32) (p1_tolerance : Int32) (p1_units : Int32) (p2_sets : Nat → Int32) (t_detail : Int32) (t_reason : Int32) (v_p1_hasPlan : Value) (r : Int32 × Int32 × Int32) (h : fX3_judgePlan p1_community p1_cores p1_districts p1_neighbors p1_population p1_tolerance p1_units p2_sets t_detail t_reason = some r) : Met l yX3_judgePlan (Cond.code yX3_judgePlan cX3_judgePlan 4 (some .int) :: Ts) ({ frames := 3, cells := 0, slots := 0, locals := 106 } : Room) (preM D k [.ref a_t, .ref a_p1, .ref a_p2] [(a_t, .inr (3, [.int t_reason, .int t_detail])), (a_p1, .inr (8, [.int p1_units, .ref a_p1_population, .ref a_p1_area, .ref a_p1_community, .ref a_p1_outer, .ref a_p1_neighbors, .ref a_p1_lengths, .int p1_cores, .int p1_districts, .int p1_tolerance, v_p1_hasPlan, .ref a_p1_plan])), (a_p2, .inr (4, [.ref a_p2_places, .ref a_p2_sets])), (a_p2_sets, .inl (k 0, 4, .inl p2_sets)), (a_p1_neighbors, .inl (k 0, 12, .inl p1_neighbors)), (a_p1_community, .inl (k 0, 12, .inl p1_community)), (a_p1_population, .inl (k 0, 12, .inl p1_population))] sz) (postI D k r.1 [(a_t, .inr (3, [.int t_reason, .int t_detail])), (a_p1, .inr (8, [.int p1_units, .ref a_p1_population, .ref a_p1_area, .ref a_p1_community, .ref a_p1_outer, .ref a_p1_neighbors, .ref a_p1_lengths, .int p1_cores, .int p1_districts, .int p1_tolerance, v_p1_hasPlan, .ref a_p1_plan])), (a_p2, .inr (4, [.ref a_p2_places, .ref a_p2_sets])), (a_p2_sets, .inl (k 0, 4, .inl p2_sets)), (a_p1_neighbors, .inl (k 0, 12, .inl p1_neighbors)), (a_p1_community, .inl (k 0, 12, .inl p1_community)), (a_p1_population, .inl (k 0, 12, .inl p1_population))] [(a_t, .inr (3, [.int r.2.2, .int r.2.1])), (a_p1, .inr (8, [.int p1_units, .ref a_p1_population, .ref a_p1_area, .ref a_p1_community, .ref a_p1_outer, .ref a_p1_neighbors, .ref a_p1_lengths, .int p1_cores, .int p1_districts, .int p1_tolerance, v_p1_hasPlan, .ref a_p1_plan])), (a_p2, .inr (4, [.ref a_p2_places, .ref a_p2_sets])), (a_p2_sets, .inl (k 0, 4, .inl p2_sets)), (a_p1_neighbors, .inl (k 0, 12, .inl p1_neighbors)), (a_p1_community, .inl (k 0, 12, .inl p1_community)), (a_p1_population, .inl (k 0, 12, .inl p1_population))] sz) 0 0 (va_A [(a_t, .inr (3, [.int t_reason, .int t_detail])), (a_p1, .inr (8, [.int p1_units, .ref a_p1_population, .ref a_p1_area, .ref a_p1_community, .ref a_p1_outer, .ref a_p1_neighbors, .ref a_p1_lengths, .int p1_cores, .int p1_districts, .int p1_tolerance, v_p1_hasPlan, .ref a_p1_plan])), (a_p2, .inr (4, [.ref a_p2_places, .ref a_p2_sets])), (a_p2_sets, .inl (k 0, 4, .inl p2_sets)), (a_p1_neighbors, .inl (k 0, 12, .inl p1_neighbors)), (a_p1_community, .inl (k 0, 12, .inl p1_community)), (a_p1_population, .inl (k 0, 12, .inl p1_population))] sz) := by
  refine Met.ofW (cc := cX3_judgePlan) (maxL := 4) (ret := (some .int)) (by decide) rfl ?_
  intro p e s m args below meth c s₁ B hml hv
  obtain ⟨rfl, hsz, hP, hK, hD0⟩ := hv
  have hx := B.exec
  have hb := B.bytes
  have hr := B.returns
  have hts0 := atoms_spec (ws := (Cond.code yX3_judgePlan cX3_judgePlan 4 (some .int) :: Ts)) B.pre
  have hts : ∀ w ∈ uT, w.before _ s = true := fun w h => hts0 w (List.mem_cons_of_mem _ ((hTs w).mpr h))
  clear hts0
  have hown : s.vm.findClass RX3 = some m.cls := findClass_of_methodNamed B.named
  have hlocks := B.notSynchronized
  subst hsz
  have hD := hD0.self (sz := s.heap.size)
  generalize hAe : va_A [(a_t, .inr (3, [.int t_reason, .int t_detail])), (a_p1, .inr (8, [.int p1_units, .ref a_p1_population, .ref a_p1_area, .ref a_p1_community, .ref a_p1_outer, .ref a_p1_neighbors, .ref a_p1_lengths, .int p1_cores, .int p1_districts, .int p1_tolerance, v_p1_hasPlan, .ref a_p1_plan])), (a_p2, .inr (4, [.ref a_p2_places, .ref a_p2_sets])), (a_p2_sets, .inl (k 0, 4, .inl p2_sets)), (a_p1_neighbors, .inl (k 0, 12, .inl p1_neighbors)), (a_p1_community, .inl (k 0, 12, .inl p1_community)), (a_p1_population, .inl (k 0, 12, .inl p1_population))] s.heap.size = A at hD ⊢
  have hA : ∀ q : Nat, s.heap.size ≤ q → A q := fun q h => by rw [← hAe]; exact Or.inr h
  have hH : HOK D A s.heap [(a_t, .inr (3, [.int t_reason, .int t_detail])), (a_p1, .inr (8, [.int p1_units, .ref a_p1_population, .ref a_p1_area, .ref a_p1_community, .ref a_p1_outer, .ref a_p1_neighbors, .ref a_p1_lengths, .int p1_cores, .int p1_districts, .int p1_tolerance, v_p1_hasPlan, .ref a_p1_plan])), (a_p2, .inr (4, [.ref a_p2_places, .ref a_p2_sets])), (a_p2_sets, .inl (k 0, 4, .inl p2_sets)), (a_p1_neighbors, .inl (k 0, 12, .inl p1_neighbors)), (a_p1_community, .inl (k 0, 12, .inl p1_community)), (a_p1_population, .inl (k 0, 12, .inl p1_population))] s.heap [] := ⟨hP, hD, va_S.rf⟩
  have hl := lv_entry ([.ref a_t, .ref a_p1, .ref a_p2]) (n := 4) (Nat.le_of_ble_eq_true rfl)
  rw [lg_entry_eq]
  generalize (lg_sl ([.ref a_t, .ref a_p1, .ref a_p2]) ++ List.replicate (4 - (lg_sl ([.ref a_t, .ref a_p1, .ref a_p2])).length) Slot.unset).toArray = ls at hl ⊢
  have hl : lv_has ls 4 [(0, .ref a_t), (1, .ref a_p1), (2, .ref a_p2)] := hl
  generalize hQ : MQ below (postI D k r.1 [(a_t, .inr (3, [.int t_reason, .int t_detail])), (a_p1, .inr (8, [.int p1_units, .ref a_p1_population, .ref a_p1_area, .ref a_p1_community, .ref a_p1_outer, .ref a_p1_neighbors, .ref a_p1_lengths, .int p1_cores, .int p1_districts, .int p1_tolerance, v_p1_hasPlan, .ref a_p1_plan])), (a_p2, .inr (4, [.ref a_p2_places, .ref a_p2_sets])), (a_p2_sets, .inl (k 0, 4, .inl p2_sets)), (a_p1_neighbors, .inl (k 0, 12, .inl p1_neighbors)), (a_p1_community, .inl (k 0, 12, .inl p1_community)), (a_p1_population, .inl (k 0, 12, .inl p1_population))] [(a_t, .inr (3, [.int r.2.2, .int r.2.1])), (a_p1, .inr (8, [.int p1_units, .ref a_p1_population, .ref a_p1_area, .ref a_p1_community, .ref a_p1_outer, .ref a_p1_neighbors, .ref a_p1_lengths, .int p1_cores, .int p1_districts, .int p1_tolerance, v_p1_hasPlan, .ref a_p1_plan])), (a_p2, .inr (4, [.ref a_p2_places, .ref a_p2_sets])), (a_p2_sets, .inl (k 0, 4, .inl p2_sets)), (a_p1_neighbors, .inl (k 0, 12, .inl p1_neighbors)), (a_p1_community, .inl (k 0, 12, .inl p1_community)), (a_p1_population, .inl (k 0, 12, .inl p1_population))] s.heap.size) (List.toArray [.ref a_t, .ref a_p1, .ref a_p2]) s 0 0 A = Q
  clear hP hD hD0
  suffices K : ∀ (H : Heap) (locs : List Loc), HOK D A s.heap [(a_t, .inr (3, [.int t_reason, .int t_detail])), (a_p1, .inr (8, [.int p1_units, .ref a_p1_population, .ref a_p1_area, .ref a_p1_community, .ref a_p1_outer, .ref a_p1_neighbors, .ref a_p1_lengths, .int p1_cores, .int p1_districts, .int p1_tolerance, v_p1_hasPlan, .ref a_p1_plan])), (a_p2, .inr (4, [.ref a_p2_places, .ref a_p2_sets])), (a_p2_sets, .inl (k 0, 4, .inl p2_sets)), (a_p1_neighbors, .inl (k 0, 12, .inl p1_neighbors)), (a_p1_community, .inl (k 0, 12, .inl p1_community)), (a_p1_population, .inl (k 0, 12, .inl p1_population))] H locs → W p l e ({ frames := 3, cells := 0, slots := 0, locals := 106 } : Room) s m (List.toArray [.ref a_t, .ref a_p1, .ref a_p2]) below meth c H locs 0 0 Q (F0 m 0 ls []) from K s.heap [] hH
  intro H locs hH
  have L2 : ∀ (n : Nat), ∀ (kf : Int32 → Int32 → Option (Int32 × Int32 × Int32)) (y2_3 : Int32) (y2_t_detail : Int32) (y2_t_reason : Int32), fX3_judgePlan_L2 p1_districts p2_sets n kf y2_3 y2_t_detail y2_t_reason = some r → (∀ (z2_t_detail : Int32) (z2_t_reason : Int32) (H : Heap) (locs : List Loc) (ls : Array Slot), kf z2_t_detail z2_t_reason = some r → HOK D A s.heap [(a_t, .inr (3, [.int z2_t_reason, .int z2_t_detail])), (a_p1, .inr (8, [.int p1_units, .ref a_p1_population, .ref a_p1_area, .ref a_p1_community, .ref a_p1_outer, .ref a_p1_neighbors, .ref a_p1_lengths, .int p1_cores, .int p1_districts, .int p1_tolerance, v_p1_hasPlan, .ref a_p1_plan])), (a_p2, .inr (4, [.ref a_p2_places, .ref a_p2_sets])), (a_p2_sets, .inl (k 0, 4, .inl p2_sets)), (a_p1_neighbors, .inl (k 0, 12, .inl p1_neighbors)), (a_p1_community, .inl (k 0, 12, .inl p1_community)), (a_p1_population, .inl (k 0, 12, .inl p1_population))] H locs → lv_has ls 4 [(0, .ref a_t), (1, .ref a_p1), (2, .ref a_p2)] → W p l e ({ frames := 3, cells := 0, slots := 0, locals := 106 } : Room) s m (List.toArray [.ref a_t, .ref a_p1, .ref a_p2]) below meth c H locs 0 0 Q (F0 m 32 ls [])) → ∀ (H : Heap) (locs : List Loc) (ls : Array Slot), HOK D A s.heap [(a_t, .inr (3, [.int y2_t_reason, .int y2_t_detail])), (a_p1, .inr (8, [.int p1_units, .ref a_p1_population, .ref a_p1_area, .ref a_p1_community, .ref a_p1_outer, .ref a_p1_neighbors, .ref a_p1_lengths, .int p1_cores, .int p1_districts, .int p1_tolerance, v_p1_hasPlan, .ref a_p1_plan])), (a_p2, .inr (4, [.ref a_p2_places, .ref a_p2_sets])), (a_p2_sets, .inl (k 0, 4, .inl p2_sets)), (a_p1_neighbors, .inl (k 0, 12, .inl p1_neighbors)), (a_p1_community, .inl (k 0, 12, .inl p1_community)), (a_p1_population, .inl (k 0, 12, .inl p1_population))] H locs → lv_has ls 4 [(0, .ref a_t), (1, .ref a_p1), (2, .ref a_p2), (3, .int y2_3)] → W p l e ({ frames := 3, cells := 0, slots := 0, locals := 106 } : Room) s m (List.toArray [.ref a_t, .ref a_p1, .ref a_p2]) below meth c H locs 0 0 Q (F0 m 2 ls []) := by
    intro n
    induction n with
    | zero =>
      intro kf y2_3 y2_t_detail y2_t_reason h
      exact absurd h (by rw [fX3_judgePlan_L2]; exact fun q => by cases q)
    | succ n ih =>
      intro kf y2_3 y2_t_detail y2_t_reason h kk H locs ls hH hl
      rw [fX3_judgePlan_L2] at h
      refine lv_iload_n hx hb dX3_judgePlan_2 rfl (lv_at hl 3 rfl) ?_
      refine lv_aload_n hx hb dX3_judgePlan_3 rfl (lv_at hl 1 rfl) ?_
      refine gk_get (ci := 8) (C := RX9) (T := TX9) (N := 12) hx hb hts u_ws_X9 hown hK hH 1 rfl rfl 8 (by decide) u_fl_X3_18 rfl dX3_judgePlan_4 ?_
      refine lv_icmp_ge (tgt := 32) hx hb dX3_judgePlan_7 (by decide) (fun c1 => ?_) (fun c1 => ?_)
      · replace h := dc_pos c1 h
        exact kk y2_t_detail y2_t_reason H locs ls h hH (lv_sub hl [0, 1, 2] rfl)
      · replace h := dc_neg c1 h
        refine lv_aload_n hx hb dX3_judgePlan_10 rfl (lv_at hl 2 rfl) ?_
        refine gk_get (ci := 4) (C := RX4) (T := TX4) (N := 2) hx hb hts u_ws_X4 hown hK hH 2 rfl rfl 1 (by decide) u_fl_X3_23 rfl dX3_judgePlan_11 ?_
        refine lv_iload_n hx hb dX3_judgePlan_14 rfl (lv_at hl 3 rfl) ?_
        obtain ⟨g2, h⟩ := dc_need h
        refine gk_iald hx hb hK hH 3 rfl (dk_in g2) dX3_judgePlan_15 ?_
        refine lv_if_ne (tgt := 26) hx hb dX3_judgePlan_16 (by decide) (fun c3 => ?_) (fun c3 => ?_)
        · replace h := dc_neg c3 h
          refine lv_iinc (v := (y2_3 + (1 : Int32))) (lv' := [(3, .int (y2_3 + (1 : Int32))), (0, .ref a_t), (1, .ref a_p1), (2, .ref a_p2)]) hx hb dX3_judgePlan_26 hl (k := 3) rfl rfl (by decide) rfl (fun ls hl => ?_)
          refine lv_goto (tgt := 2) hx hb dX3_judgePlan_29 (by decide) ?_
          exact ih kf (y2_3 + (1 : Int32)) y2_t_detail y2_t_reason h kk H locs ls hH (lv_sub hl [1, 2, 3, 0] rfl)
        · replace h := dc_pos c3 h
          refine lv_aload_n hx hb dX3_judgePlan_19 rfl (lv_at hl 0 rfl) ?_
          refine lv_iconst (v := 1) hx hb dX3_judgePlan_20 (by decide) ?_
          refine lv_iload_n hx hb dX3_judgePlan_21 rfl (lv_at hl 3 rfl) ?_
          obtain ⟨q4, hqq4, h⟩ := dc_bind h
          refine gc_Vi (ws' := [(a_t, .inr (3, [.int q4.2.2, .int q4.2.1])), (a_p1, .inr (8, [.int p1_units, .ref a_p1_population, .ref a_p1_area, .ref a_p1_community, .ref a_p1_outer, .ref a_p1_neighbors, .ref a_p1_lengths, .int p1_cores, .int p1_districts, .int p1_tolerance, v_p1_hasPlan, .ref a_p1_plan])), (a_p2, .inr (4, [.ref a_p2_places, .ref a_p2_sets])), (a_p2_sets, .inl (k 0, 4, .inl p2_sets)), (a_p1_neighbors, .inl (k 0, 12, .inl p1_neighbors)), (a_p1_community, .inl (k 0, 12, .inl p1_community)), (a_p1_population, .inl (k 0, 12, .inl p1_population))]) (As := [.int (1 : Int32), .int y2_3]) (rest := []) (n := 2) (ci := 3) (cq := (RX3, TX3, 2)) hTs ⟨hx, hb, hml, hown, hts⟩ (mX3_tell l Ts hTs D k H.size a_t (.int y2_t_detail) (.int y2_t_reason) (1 : Int32) y2_3 q4 hqq4) u_ml_X3_29 u_im_X3_tell u_se_X3_tell u_in_X3 u_co_X3_tell hd_X3_tell ⟨Nat.le_of_ble_eq_true rfl, Nat.le_of_ble_eq_true rfl⟩ ⟨rfl, rfl⟩ hK hH hA (cutM (isC := [0]) [some 0, none, none, none, none, none, none] 7 rfl rfl rfl rfl rfl rfl rfl) rfl rfl rfl rfl hl.1 (Nat.le_of_ble_eq_true rfl) dX3_judgePlan_22 ⟨Nat.le_of_ble_eq_true rfl, Nat.le_of_ble_eq_true rfl⟩ (fun H locs hH => ?_)
          have h := Option.some.inj h
          subst h
          exact ge_i hx hb hr hlocks hQ hK hH hAe rfl dX3_judgePlan_25
  have L70 : ∀ (n : Nat), ∀ (kf : Int32 → Int32 → Option (Int32 × Int32 × Int32)) (y70_3 : Int32) (y70_t_detail : Int32) (y70_t_reason : Int32), fX3_judgePlan_L70 p1_community p1_cores p1_units p2_sets n kf y70_3 y70_t_detail y70_t_reason = some r → (∀ (z70_t_detail : Int32) (z70_t_reason : Int32) (H : Heap) (locs : List Loc) (ls : Array Slot), kf z70_t_detail z70_t_reason = some r → HOK D A s.heap [(a_t, .inr (3, [.int z70_t_reason, .int z70_t_detail])), (a_p1, .inr (8, [.int p1_units, .ref a_p1_population, .ref a_p1_area, .ref a_p1_community, .ref a_p1_outer, .ref a_p1_neighbors, .ref a_p1_lengths, .int p1_cores, .int p1_districts, .int p1_tolerance, v_p1_hasPlan, .ref a_p1_plan])), (a_p2, .inr (4, [.ref a_p2_places, .ref a_p2_sets])), (a_p2_sets, .inl (k 0, 4, .inl p2_sets)), (a_p1_neighbors, .inl (k 0, 12, .inl p1_neighbors)), (a_p1_community, .inl (k 0, 12, .inl p1_community)), (a_p1_population, .inl (k 0, 12, .inl p1_population))] H locs → lv_has ls 4 [(0, .ref a_t), (1, .ref a_p1), (2, .ref a_p2)] → W p l e ({ frames := 3, cells := 0, slots := 0, locals := 106 } : Room) s m (List.toArray [.ref a_t, .ref a_p1, .ref a_p2]) below meth c H locs 0 0 Q (F0 m 100 ls [])) → ∀ (H : Heap) (locs : List Loc) (ls : Array Slot), HOK D A s.heap [(a_t, .inr (3, [.int y70_t_reason, .int y70_t_detail])), (a_p1, .inr (8, [.int p1_units, .ref a_p1_population, .ref a_p1_area, .ref a_p1_community, .ref a_p1_outer, .ref a_p1_neighbors, .ref a_p1_lengths, .int p1_cores, .int p1_districts, .int p1_tolerance, v_p1_hasPlan, .ref a_p1_plan])), (a_p2, .inr (4, [.ref a_p2_places, .ref a_p2_sets])), (a_p2_sets, .inl (k 0, 4, .inl p2_sets)), (a_p1_neighbors, .inl (k 0, 12, .inl p1_neighbors)), (a_p1_community, .inl (k 0, 12, .inl p1_community)), (a_p1_population, .inl (k 0, 12, .inl p1_population))] H locs → lv_has ls 4 [(0, .ref a_t), (1, .ref a_p1), (2, .ref a_p2), (3, .int y70_3)] → W p l e ({ frames := 3, cells := 0, slots := 0, locals := 106 } : Room) s m (List.toArray [.ref a_t, .ref a_p1, .ref a_p2]) below meth c H locs 0 0 Q (F0 m 70 ls []) := by
    intro n
    induction n with
    | zero =>
      intro kf y70_3 y70_t_detail y70_t_reason h
      exact absurd h (by rw [fX3_judgePlan_L70]; exact fun q => by cases q)
    | succ n ih =>
      intro kf y70_3 y70_t_detail y70_t_reason h kk H locs ls hH hl
      rw [fX3_judgePlan_L70] at h
      refine lv_iload_n hx hb dX3_judgePlan_70 rfl (lv_at hl 3 rfl) ?_
      refine lv_iconst (v := 4) hx hb dX3_judgePlan_71 (by decide) ?_
      refine lv_icmp_ge (tgt := 100) hx hb dX3_judgePlan_72 (by decide) (fun c10 => ?_) (fun c10 => ?_)
      · replace h := dc_pos c10 h
        exact kk y70_t_detail y70_t_reason H locs ls h hH (lv_sub hl [0, 1, 2] rfl)
      · replace h := dc_neg c10 h
        refine lv_aload_n hx hb dX3_judgePlan_75 rfl (lv_at hl 2 rfl) ?_
        refine lv_aload_n hx hb dX3_judgePlan_76 rfl (lv_at hl 1 rfl) ?_
        refine lv_iload_n hx hb dX3_judgePlan_77 rfl (lv_at hl 3 rfl) ?_
        obtain ⟨q11, hqq11, h⟩ := dc_bind h
        refine gc_Vi (ws' := [(a_t, .inr (3, [.int y70_t_reason, .int y70_t_detail])), (a_p1, .inr (8, [.int p1_units, .ref a_p1_population, .ref a_p1_area, .ref a_p1_community, .ref a_p1_outer, .ref a_p1_neighbors, .ref a_p1_lengths, .int p1_cores, .int p1_districts, .int p1_tolerance, v_p1_hasPlan, .ref a_p1_plan])), (a_p2, .inr (4, [.ref a_p2_places, .ref a_p2_sets])), (a_p2_sets, .inl (k 0, 4, .inl p2_sets)), (a_p1_neighbors, .inl (k 0, 12, .inl p1_neighbors)), (a_p1_community, .inl (k 0, 12, .inl p1_community)), (a_p1_population, .inl (k 0, 12, .inl p1_population))]) (As := [.int y70_3]) (rest := [.ref a_p2]) (n := 1) (ci := 8) (cq := (RX9, TX9, 12)) hTs ⟨hx, hb, hml, hown, hts⟩ (mX9_coresOf l Ts hTs D k H.size a_p1 a_p1_population a_p1_area a_p1_community a_p1_outer a_p1_neighbors a_p1_lengths a_p1_plan p1_community p1_cores p1_units (.int p1_districts) v_p1_hasPlan (.int p1_tolerance) y70_3 q11 hqq11) u_ml_X3_37 u_im_X9_coresOf u_se_X9_coresOf u_in_X9 u_co_X9_coresOf hd_X9_coresOf ⟨Nat.le_of_ble_eq_true rfl, Nat.le_of_ble_eq_true rfl⟩ ⟨rfl, rfl⟩ hK hH hA (cut0 (isC := [1, 5]) rfl rfl rfl) rfl rfl rfl rfl hl.1 (Nat.le_of_ble_eq_true rfl) dX3_judgePlan_78 ⟨Nat.le_of_ble_eq_true rfl, Nat.le_of_ble_eq_true rfl⟩ (fun H locs hH => ?_)
        obtain ⟨q12, hqq12, h⟩ := dc_bind h
        refine gc_Vi (ws' := [(a_t, .inr (3, [.int y70_t_reason, .int y70_t_detail])), (a_p1, .inr (8, [.int p1_units, .ref a_p1_population, .ref a_p1_area, .ref a_p1_community, .ref a_p1_outer, .ref a_p1_neighbors, .ref a_p1_lengths, .int p1_cores, .int p1_districts, .int p1_tolerance, v_p1_hasPlan, .ref a_p1_plan])), (a_p2, .inr (4, [.ref a_p2_places, .ref a_p2_sets])), (a_p2_sets, .inl (k 0, 4, .inl p2_sets)), (a_p1_neighbors, .inl (k 0, 12, .inl p1_neighbors)), (a_p1_community, .inl (k 0, 12, .inl p1_community)), (a_p1_population, .inl (k 0, 12, .inl p1_population))]) (As := [.int q11]) (rest := []) (n := 1) (ci := 4) (cq := (RX4, TX4, 2)) hTs ⟨hx, hb, hml, hown, hts⟩ (mX4_splits l Ts hTs D k H.size a_p2 a_p2_places a_p2_sets p2_sets q11 q12 hqq12) u_ml_X3_41 u_im_X4_splits u_se_X4_splits u_in_X4 u_co_X4_splits hd_X4_splits ⟨Nat.le_of_ble_eq_true rfl, Nat.le_of_ble_eq_true rfl⟩ ⟨rfl, rfl⟩ hK hH hA (cut0 (isC := [2, 3]) rfl rfl rfl) rfl rfl rfl rfl hl.1 (Nat.le_of_ble_eq_true rfl) dX3_judgePlan_81 ⟨Nat.le_of_ble_eq_true rfl, Nat.le_of_ble_eq_true rfl⟩ (fun H locs hH => ?_)
        refine lv_if_eq (tgt := 94) hx hb dX3_judgePlan_84 (by decide) (fun c13 => ?_) (fun c13 => ?_)
        · replace h := dc_pos c13 h
          refine lv_iinc (v := (y70_3 + (1 : Int32))) (lv' := [(3, .int (y70_3 + (1 : Int32))), (0, .ref a_t), (1, .ref a_p1), (2, .ref a_p2)]) hx hb dX3_judgePlan_94 hl (k := 3) rfl rfl (by decide) rfl (fun ls hl => ?_)
          refine lv_goto (tgt := 70) hx hb dX3_judgePlan_97 (by decide) ?_
          exact ih kf (y70_3 + (1 : Int32)) y70_t_detail y70_t_reason h kk H locs ls hH (lv_sub hl [1, 2, 3, 0] rfl)
        · replace h := dc_neg c13 h
          refine lv_aload_n hx hb dX3_judgePlan_87 rfl (lv_at hl 0 rfl) ?_
          refine lv_iconst (v := 3) hx hb dX3_judgePlan_88 (by decide) ?_
          refine lv_iload_n hx hb dX3_judgePlan_89 rfl (lv_at hl 3 rfl) ?_
          obtain ⟨q14, hqq14, h⟩ := dc_bind h
          refine gc_Vi (ws' := [(a_t, .inr (3, [.int q14.2.2, .int q14.2.1])), (a_p1, .inr (8, [.int p1_units, .ref a_p1_population, .ref a_p1_area, .ref a_p1_community, .ref a_p1_outer, .ref a_p1_neighbors, .ref a_p1_lengths, .int p1_cores, .int p1_districts, .int p1_tolerance, v_p1_hasPlan, .ref a_p1_plan])), (a_p2, .inr (4, [.ref a_p2_places, .ref a_p2_sets])), (a_p2_sets, .inl (k 0, 4, .inl p2_sets)), (a_p1_neighbors, .inl (k 0, 12, .inl p1_neighbors)), (a_p1_community, .inl (k 0, 12, .inl p1_community)), (a_p1_population, .inl (k 0, 12, .inl p1_population))]) (As := [.int (3 : Int32), .int y70_3]) (rest := []) (n := 2) (ci := 3) (cq := (RX3, TX3, 2)) hTs ⟨hx, hb, hml, hown, hts⟩ (mX3_tell l Ts hTs D k H.size a_t (.int y70_t_detail) (.int y70_t_reason) (3 : Int32) y70_3 q14 hqq14) u_ml_X3_29 u_im_X3_tell u_se_X3_tell u_in_X3 u_co_X3_tell hd_X3_tell ⟨Nat.le_of_ble_eq_true rfl, Nat.le_of_ble_eq_true rfl⟩ ⟨rfl, rfl⟩ hK hH hA (cutM (isC := [0]) [some 0, none, none, none, none, none, none] 7 rfl rfl rfl rfl rfl rfl rfl) rfl rfl rfl rfl hl.1 (Nat.le_of_ble_eq_true rfl) dX3_judgePlan_90 ⟨Nat.le_of_ble_eq_true rfl, Nat.le_of_ble_eq_true rfl⟩ (fun H locs hH => ?_)
          have h := Option.some.inj h
          subst h
          exact ge_i hx hb hr hlocks hQ hK hH hAe rfl dX3_judgePlan_93
  have L34 : ∀ (n : Nat), ∀ (kf : Int32 → Int32 → Option (Int32 × Int32 × Int32)) (y34_3 : Int32) (y34_t_detail : Int32) (y34_t_reason : Int32), fX3_judgePlan_L34 p1_districts p1_neighbors p1_units p2_sets n kf y34_3 y34_t_detail y34_t_reason = some r → (∀ (z34_t_detail : Int32) (z34_t_reason : Int32) (H : Heap) (locs : List Loc) (ls : Array Slot), kf z34_t_detail z34_t_reason = some r → HOK D A s.heap [(a_t, .inr (3, [.int z34_t_reason, .int z34_t_detail])), (a_p1, .inr (8, [.int p1_units, .ref a_p1_population, .ref a_p1_area, .ref a_p1_community, .ref a_p1_outer, .ref a_p1_neighbors, .ref a_p1_lengths, .int p1_cores, .int p1_districts, .int p1_tolerance, v_p1_hasPlan, .ref a_p1_plan])), (a_p2, .inr (4, [.ref a_p2_places, .ref a_p2_sets])), (a_p2_sets, .inl (k 0, 4, .inl p2_sets)), (a_p1_neighbors, .inl (k 0, 12, .inl p1_neighbors)), (a_p1_community, .inl (k 0, 12, .inl p1_community)), (a_p1_population, .inl (k 0, 12, .inl p1_population))] H locs → lv_has ls 4 [(0, .ref a_t), (1, .ref a_p1), (2, .ref a_p2)] → W p l e ({ frames := 3, cells := 0, slots := 0, locals := 106 } : Room) s m (List.toArray [.ref a_t, .ref a_p1, .ref a_p2]) below meth c H locs 0 0 Q (F0 m 68 ls [])) → ∀ (H : Heap) (locs : List Loc) (ls : Array Slot), HOK D A s.heap [(a_t, .inr (3, [.int y34_t_reason, .int y34_t_detail])), (a_p1, .inr (8, [.int p1_units, .ref a_p1_population, .ref a_p1_area, .ref a_p1_community, .ref a_p1_outer, .ref a_p1_neighbors, .ref a_p1_lengths, .int p1_cores, .int p1_districts, .int p1_tolerance, v_p1_hasPlan, .ref a_p1_plan])), (a_p2, .inr (4, [.ref a_p2_places, .ref a_p2_sets])), (a_p2_sets, .inl (k 0, 4, .inl p2_sets)), (a_p1_neighbors, .inl (k 0, 12, .inl p1_neighbors)), (a_p1_community, .inl (k 0, 12, .inl p1_community)), (a_p1_population, .inl (k 0, 12, .inl p1_population))] H locs → lv_has ls 4 [(0, .ref a_t), (1, .ref a_p1), (2, .ref a_p2), (3, .int y34_3)] → W p l e ({ frames := 3, cells := 0, slots := 0, locals := 106 } : Room) s m (List.toArray [.ref a_t, .ref a_p1, .ref a_p2]) below meth c H locs 0 0 Q (F0 m 34 ls []) := by
    intro n
    induction n with
    | zero =>
      intro kf y34_3 y34_t_detail y34_t_reason h
      exact absurd h (by rw [fX3_judgePlan_L34]; exact fun q => by cases q)
    | succ n ih =>
      intro kf y34_3 y34_t_detail y34_t_reason h kk H locs ls hH hl
      rw [fX3_judgePlan_L34] at h
      refine lv_iload_n hx hb dX3_judgePlan_34 rfl (lv_at hl 3 rfl) ?_
      refine lv_aload_n hx hb dX3_judgePlan_35 rfl (lv_at hl 1 rfl) ?_
      refine gk_get (ci := 8) (C := RX9) (T := TX9) (N := 12) hx hb hts u_ws_X9 hown hK hH 1 rfl rfl 8 (by decide) u_fl_X3_18 rfl dX3_judgePlan_36 ?_
      refine lv_icmp_ge (tgt := 68) hx hb dX3_judgePlan_39 (by decide) (fun c5 => ?_) (fun c5 => ?_)
      · replace h := dc_pos c5 h
        exact kk y34_t_detail y34_t_reason H locs ls h hH (lv_sub hl [0, 1, 2] rfl)
      · replace h := dc_neg c5 h
        refine lv_aload_n hx hb dX3_judgePlan_42 rfl (lv_at hl 1 rfl) ?_
        refine lv_aload_n hx hb dX3_judgePlan_43 rfl (lv_at hl 2 rfl) ?_
        refine gk_get (ci := 4) (C := RX4) (T := TX4) (N := 2) hx hb hts u_ws_X4 hown hK hH 2 rfl rfl 1 (by decide) u_fl_X3_23 rfl dX3_judgePlan_44 ?_
        refine lv_iload_n hx hb dX3_judgePlan_47 rfl (lv_at hl 3 rfl) ?_
        obtain ⟨g6, h⟩ := dc_need h
        refine gk_iald hx hb hK hH 3 rfl (dk_in g6) dX3_judgePlan_48 ?_
        obtain ⟨q7, hqq7, h⟩ := dc_bind h
        refine gc_Vi (ws' := [(a_t, .inr (3, [.int y34_t_reason, .int y34_t_detail])), (a_p1, .inr (8, [.int p1_units, .ref a_p1_population, .ref a_p1_area, .ref a_p1_community, .ref a_p1_outer, .ref a_p1_neighbors, .ref a_p1_lengths, .int p1_cores, .int p1_districts, .int p1_tolerance, v_p1_hasPlan, .ref a_p1_plan])), (a_p2, .inr (4, [.ref a_p2_places, .ref a_p2_sets])), (a_p2_sets, .inl (k 0, 4, .inl p2_sets)), (a_p1_neighbors, .inl (k 0, 12, .inl p1_neighbors)), (a_p1_community, .inl (k 0, 12, .inl p1_community)), (a_p1_population, .inl (k 0, 12, .inl p1_population))]) (As := [.int (p2_sets y34_3.toNatClampNeg)]) (rest := []) (n := 1) (ci := 8) (cq := (RX9, TX9, 12)) hTs ⟨hx, hb, hml, hown, hts⟩ (mX9_isContiguous l Ts hTs D k H.size a_p1 a_p1_population a_p1_area a_p1_community a_p1_outer a_p1_neighbors a_p1_lengths a_p1_plan p1_neighbors p1_units (.int p1_cores) (.int p1_districts) v_p1_hasPlan (.int p1_tolerance) (p2_sets y34_3.toNatClampNeg) q7 hqq7) u_ml_X3_33 u_im_X9_isContiguous u_se_X9_isContiguous u_in_X9 u_co_X9_isContiguous hd_X9_isContiguous ⟨Nat.le_of_ble_eq_true rfl, Nat.le_of_ble_eq_true rfl⟩ ⟨rfl, rfl⟩ hK hH hA (cut0 (isC := [1, 4]) rfl rfl rfl) rfl rfl rfl rfl hl.1 (Nat.le_of_ble_eq_true rfl) dX3_judgePlan_49 ⟨Nat.le_of_ble_eq_true rfl, Nat.le_of_ble_eq_true rfl⟩ (fun H locs hH => ?_)
        refine lv_if_ne (tgt := 62) hx hb dX3_judgePlan_52 (by decide) (fun c8 => ?_) (fun c8 => ?_)
        · replace h := dc_neg c8 h
          refine lv_iinc (v := (y34_3 + (1 : Int32))) (lv' := [(3, .int (y34_3 + (1 : Int32))), (0, .ref a_t), (1, .ref a_p1), (2, .ref a_p2)]) hx hb dX3_judgePlan_62 hl (k := 3) rfl rfl (by decide) rfl (fun ls hl => ?_)
          refine lv_goto (tgt := 34) hx hb dX3_judgePlan_65 (by decide) ?_
          exact ih kf (y34_3 + (1 : Int32)) y34_t_detail y34_t_reason h kk H locs ls hH (lv_sub hl [1, 2, 3, 0] rfl)
        · replace h := dc_pos c8 h
          refine lv_aload_n hx hb dX3_judgePlan_55 rfl (lv_at hl 0 rfl) ?_
          refine lv_iconst (v := 2) hx hb dX3_judgePlan_56 (by decide) ?_
          refine lv_iload_n hx hb dX3_judgePlan_57 rfl (lv_at hl 3 rfl) ?_
          obtain ⟨q9, hqq9, h⟩ := dc_bind h
          refine gc_Vi (ws' := [(a_t, .inr (3, [.int q9.2.2, .int q9.2.1])), (a_p1, .inr (8, [.int p1_units, .ref a_p1_population, .ref a_p1_area, .ref a_p1_community, .ref a_p1_outer, .ref a_p1_neighbors, .ref a_p1_lengths, .int p1_cores, .int p1_districts, .int p1_tolerance, v_p1_hasPlan, .ref a_p1_plan])), (a_p2, .inr (4, [.ref a_p2_places, .ref a_p2_sets])), (a_p2_sets, .inl (k 0, 4, .inl p2_sets)), (a_p1_neighbors, .inl (k 0, 12, .inl p1_neighbors)), (a_p1_community, .inl (k 0, 12, .inl p1_community)), (a_p1_population, .inl (k 0, 12, .inl p1_population))]) (As := [.int (2 : Int32), .int y34_3]) (rest := []) (n := 2) (ci := 3) (cq := (RX3, TX3, 2)) hTs ⟨hx, hb, hml, hown, hts⟩ (mX3_tell l Ts hTs D k H.size a_t (.int y34_t_detail) (.int y34_t_reason) (2 : Int32) y34_3 q9 hqq9) u_ml_X3_29 u_im_X3_tell u_se_X3_tell u_in_X3 u_co_X3_tell hd_X3_tell ⟨Nat.le_of_ble_eq_true rfl, Nat.le_of_ble_eq_true rfl⟩ ⟨rfl, rfl⟩ hK hH hA (cutM (isC := [0]) [some 0, none, none, none, none, none, none] 7 rfl rfl rfl rfl rfl rfl rfl) rfl rfl rfl rfl hl.1 (Nat.le_of_ble_eq_true rfl) dX3_judgePlan_58 ⟨Nat.le_of_ble_eq_true rfl, Nat.le_of_ble_eq_true rfl⟩ (fun H locs hH => ?_)
          have h := Option.some.inj h
          subst h
          exact ge_i hx hb hr hlocks hQ hK hH hAe rfl dX3_judgePlan_61
  have L102 : ∀ (n : Nat), ∀ (kf : Int32 → Int32 → Option (Int32 × Int32 × Int32)) (y102_3 : Int32) (y102_t_detail : Int32) (y102_t_reason : Int32), fX3_judgePlan_L102 p1_districts p1_population p1_tolerance p1_units p2_sets n kf y102_3 y102_t_detail y102_t_reason = some r → (∀ (z102_t_detail : Int32) (z102_t_reason : Int32) (H : Heap) (locs : List Loc) (ls : Array Slot), kf z102_t_detail z102_t_reason = some r → HOK D A s.heap [(a_t, .inr (3, [.int z102_t_reason, .int z102_t_detail])), (a_p1, .inr (8, [.int p1_units, .ref a_p1_population, .ref a_p1_area, .ref a_p1_community, .ref a_p1_outer, .ref a_p1_neighbors, .ref a_p1_lengths, .int p1_cores, .int p1_districts, .int p1_tolerance, v_p1_hasPlan, .ref a_p1_plan])), (a_p2, .inr (4, [.ref a_p2_places, .ref a_p2_sets])), (a_p2_sets, .inl (k 0, 4, .inl p2_sets)), (a_p1_neighbors, .inl (k 0, 12, .inl p1_neighbors)), (a_p1_community, .inl (k 0, 12, .inl p1_community)), (a_p1_population, .inl (k 0, 12, .inl p1_population))] H locs → lv_has ls 4 [(0, .ref a_t)] → W p l e ({ frames := 3, cells := 0, slots := 0, locals := 106 } : Room) s m (List.toArray [.ref a_t, .ref a_p1, .ref a_p2]) below meth c H locs 0 0 Q (F0 m 136 ls [])) → ∀ (H : Heap) (locs : List Loc) (ls : Array Slot), HOK D A s.heap [(a_t, .inr (3, [.int y102_t_reason, .int y102_t_detail])), (a_p1, .inr (8, [.int p1_units, .ref a_p1_population, .ref a_p1_area, .ref a_p1_community, .ref a_p1_outer, .ref a_p1_neighbors, .ref a_p1_lengths, .int p1_cores, .int p1_districts, .int p1_tolerance, v_p1_hasPlan, .ref a_p1_plan])), (a_p2, .inr (4, [.ref a_p2_places, .ref a_p2_sets])), (a_p2_sets, .inl (k 0, 4, .inl p2_sets)), (a_p1_neighbors, .inl (k 0, 12, .inl p1_neighbors)), (a_p1_community, .inl (k 0, 12, .inl p1_community)), (a_p1_population, .inl (k 0, 12, .inl p1_population))] H locs → lv_has ls 4 [(0, .ref a_t), (1, .ref a_p1), (2, .ref a_p2), (3, .int y102_3)] → W p l e ({ frames := 3, cells := 0, slots := 0, locals := 106 } : Room) s m (List.toArray [.ref a_t, .ref a_p1, .ref a_p2]) below meth c H locs 0 0 Q (F0 m 102 ls []) := by
    intro n
    induction n with
    | zero =>
      intro kf y102_3 y102_t_detail y102_t_reason h
      exact absurd h (by rw [fX3_judgePlan_L102]; exact fun q => by cases q)
    | succ n ih =>
      intro kf y102_3 y102_t_detail y102_t_reason h kk H locs ls hH hl
      rw [fX3_judgePlan_L102] at h
      refine lv_iload_n hx hb dX3_judgePlan_102 rfl (lv_at hl 3 rfl) ?_
      refine lv_aload_n hx hb dX3_judgePlan_103 rfl (lv_at hl 1 rfl) ?_
      refine gk_get (ci := 8) (C := RX9) (T := TX9) (N := 12) hx hb hts u_ws_X9 hown hK hH 1 rfl rfl 8 (by decide) u_fl_X3_18 rfl dX3_judgePlan_104 ?_
      refine lv_icmp_ge (tgt := 136) hx hb dX3_judgePlan_107 (by decide) (fun c15 => ?_) (fun c15 => ?_)
      · replace h := dc_pos c15 h
        exact kk y102_t_detail y102_t_reason H locs ls h hH (lv_sub hl [0] rfl)
      · replace h := dc_neg c15 h
        refine lv_aload_n hx hb dX3_judgePlan_110 rfl (lv_at hl 1 rfl) ?_
        refine lv_aload_n hx hb dX3_judgePlan_111 rfl (lv_at hl 2 rfl) ?_
        refine gk_get (ci := 4) (C := RX4) (T := TX4) (N := 2) hx hb hts u_ws_X4 hown hK hH 2 rfl rfl 1 (by decide) u_fl_X3_23 rfl dX3_judgePlan_112 ?_
        refine lv_iload_n hx hb dX3_judgePlan_115 rfl (lv_at hl 3 rfl) ?_
        obtain ⟨g16, h⟩ := dc_need h
        refine gk_iald hx hb hK hH 3 rfl (dk_in g16) dX3_judgePlan_116 ?_
        obtain ⟨q17, hqq17, h⟩ := dc_bind h
        refine gc_Vi (ws' := [(a_t, .inr (3, [.int y102_t_reason, .int y102_t_detail])), (a_p1, .inr (8, [.int p1_units, .ref a_p1_population, .ref a_p1_area, .ref a_p1_community, .ref a_p1_outer, .ref a_p1_neighbors, .ref a_p1_lengths, .int p1_cores, .int p1_districts, .int p1_tolerance, v_p1_hasPlan, .ref a_p1_plan])), (a_p2, .inr (4, [.ref a_p2_places, .ref a_p2_sets])), (a_p2_sets, .inl (k 0, 4, .inl p2_sets)), (a_p1_neighbors, .inl (k 0, 12, .inl p1_neighbors)), (a_p1_community, .inl (k 0, 12, .inl p1_community)), (a_p1_population, .inl (k 0, 12, .inl p1_population))]) (As := [.int (p2_sets y102_3.toNatClampNeg)]) (rest := []) (n := 1) (ci := 8) (cq := (RX9, TX9, 12)) hTs ⟨hx, hb, hml, hown, hts⟩ (mX9_isBalanced l Ts hTs D k H.size a_p1 a_p1_population a_p1_area a_p1_community a_p1_outer a_p1_neighbors a_p1_lengths a_p1_plan p1_districts p1_population p1_tolerance p1_units (.int p1_cores) v_p1_hasPlan (p2_sets y102_3.toNatClampNeg) q17 hqq17) u_ml_X3_44 u_im_X9_isBalanced u_se_X9_isBalanced u_in_X9 u_co_X9_isBalanced hd_X9_isBalanced ⟨Nat.le_of_ble_eq_true rfl, Nat.le_of_ble_eq_true rfl⟩ ⟨rfl, rfl⟩ hK hH hA (cut0 (isC := [1, 6]) rfl rfl rfl) rfl rfl rfl rfl hl.1 (Nat.le_of_ble_eq_true rfl) dX3_judgePlan_117 ⟨Nat.le_of_ble_eq_true rfl, Nat.le_of_ble_eq_true rfl⟩ (fun H locs hH => ?_)
        refine lv_if_ne (tgt := 130) hx hb dX3_judgePlan_120 (by decide) (fun c18 => ?_) (fun c18 => ?_)
        · replace h := dc_neg c18 h
          refine lv_iinc (v := (y102_3 + (1 : Int32))) (lv' := [(3, .int (y102_3 + (1 : Int32))), (0, .ref a_t), (1, .ref a_p1), (2, .ref a_p2)]) hx hb dX3_judgePlan_130 hl (k := 3) rfl rfl (by decide) rfl (fun ls hl => ?_)
          refine lv_goto (tgt := 102) hx hb dX3_judgePlan_133 (by decide) ?_
          exact ih kf (y102_3 + (1 : Int32)) y102_t_detail y102_t_reason h kk H locs ls hH (lv_sub hl [1, 2, 3, 0] rfl)
        · replace h := dc_pos c18 h
          refine lv_aload_n hx hb dX3_judgePlan_123 rfl (lv_at hl 0 rfl) ?_
          refine lv_iconst (v := 4) hx hb dX3_judgePlan_124 (by decide) ?_
          refine lv_iload_n hx hb dX3_judgePlan_125 rfl (lv_at hl 3 rfl) ?_
          obtain ⟨q19, hqq19, h⟩ := dc_bind h
          refine gc_Vi (ws' := [(a_t, .inr (3, [.int q19.2.2, .int q19.2.1])), (a_p1, .inr (8, [.int p1_units, .ref a_p1_population, .ref a_p1_area, .ref a_p1_community, .ref a_p1_outer, .ref a_p1_neighbors, .ref a_p1_lengths, .int p1_cores, .int p1_districts, .int p1_tolerance, v_p1_hasPlan, .ref a_p1_plan])), (a_p2, .inr (4, [.ref a_p2_places, .ref a_p2_sets])), (a_p2_sets, .inl (k 0, 4, .inl p2_sets)), (a_p1_neighbors, .inl (k 0, 12, .inl p1_neighbors)), (a_p1_community, .inl (k 0, 12, .inl p1_community)), (a_p1_population, .inl (k 0, 12, .inl p1_population))]) (As := [.int (4 : Int32), .int y102_3]) (rest := []) (n := 2) (ci := 3) (cq := (RX3, TX3, 2)) hTs ⟨hx, hb, hml, hown, hts⟩ (mX3_tell l Ts hTs D k H.size a_t (.int y102_t_detail) (.int y102_t_reason) (4 : Int32) y102_3 q19 hqq19) u_ml_X3_29 u_im_X3_tell u_se_X3_tell u_in_X3 u_co_X3_tell hd_X3_tell ⟨Nat.le_of_ble_eq_true rfl, Nat.le_of_ble_eq_true rfl⟩ ⟨rfl, rfl⟩ hK hH hA (cutM (isC := [0]) [some 0, none, none, none, none, none, none] 7 rfl rfl rfl rfl rfl rfl rfl) rfl rfl rfl rfl hl.1 (Nat.le_of_ble_eq_true rfl) dX3_judgePlan_126 ⟨Nat.le_of_ble_eq_true rfl, Nat.le_of_ble_eq_true rfl⟩ (fun H locs hH => ?_)
          have h := Option.some.inj h
          subst h
          exact ge_i hx hb hr hlocks hQ hK hH hAe rfl dX3_judgePlan_129
  rw [fX3_judgePlan] at h
  refine lv_iconst (v := 0) hx hb dX3_judgePlan_0 (by decide) ?_
  refine lv_istore_n (lv' := [(3, .int (0 : Int32)), (0, .ref a_t), (1, .ref a_p1), (2, .ref a_p2)]) hx hb dX3_judgePlan_1 rfl hl (by decide) rfl (fun ls hl => ?_)
  refine L2 _ _ (0 : Int32) t_detail t_reason h (fun z2_t_detail z2_t_reason H locs ls h hH hl => ?_) H locs ls hH (lv_sub hl [1, 2, 3, 0] rfl)
  refine lv_iconst (v := 0) hx hb dX3_judgePlan_32 (by decide) ?_
  refine lv_istore_n (lv' := [(3, .int (0 : Int32)), (0, .ref a_t), (1, .ref a_p1), (2, .ref a_p2)]) hx hb dX3_judgePlan_33 rfl hl (by decide) rfl (fun ls hl => ?_)
  refine L34 _ _ (0 : Int32) z2_t_detail z2_t_reason h (fun z34_t_detail z34_t_reason H locs ls h hH hl => ?_) H locs ls hH (lv_sub hl [1, 2, 3, 0] rfl)
  refine lv_iconst (v := 0) hx hb dX3_judgePlan_68 (by decide) ?_
  refine lv_istore_n (lv' := [(3, .int (0 : Int32)), (0, .ref a_t), (1, .ref a_p1), (2, .ref a_p2)]) hx hb dX3_judgePlan_69 rfl hl (by decide) rfl (fun ls hl => ?_)
  refine L70 _ _ (0 : Int32) z34_t_detail z34_t_reason h (fun z70_t_detail z70_t_reason H locs ls h hH hl => ?_) H locs ls hH (lv_sub hl [1, 2, 3, 0] rfl)
  refine lv_iconst (v := 0) hx hb dX3_judgePlan_100 (by decide) ?_
  refine lv_istore_n (lv' := [(3, .int (0 : Int32)), (0, .ref a_t), (1, .ref a_p1), (2, .ref a_p2)]) hx hb dX3_judgePlan_101 rfl hl (by decide) rfl (fun ls hl => ?_)
  refine L102 _ _ (0 : Int32) z70_t_detail z70_t_reason h (fun z102_t_detail z102_t_reason H locs ls h hH hl => ?_) H locs ls hH (lv_sub hl [1, 2, 3, 0] rfl)
  refine lv_aload_n hx hb dX3_judgePlan_136 rfl (lv_at hl 0 rfl) ?_
  refine lv_iconst (v := 0) hx hb dX3_judgePlan_137 (by decide) ?_
  refine lv_iconst (v := 0) hx hb dX3_judgePlan_138 (by decide) ?_
  obtain ⟨q20, hqq20, h⟩ := dc_bind h
  refine gc_Vi (ws' := [(a_t, .inr (3, [.int q20.2.2, .int q20.2.1])), (a_p1, .inr (8, [.int p1_units, .ref a_p1_population, .ref a_p1_area, .ref a_p1_community, .ref a_p1_outer, .ref a_p1_neighbors, .ref a_p1_lengths, .int p1_cores, .int p1_districts, .int p1_tolerance, v_p1_hasPlan, .ref a_p1_plan])), (a_p2, .inr (4, [.ref a_p2_places, .ref a_p2_sets])), (a_p2_sets, .inl (k 0, 4, .inl p2_sets)), (a_p1_neighbors, .inl (k 0, 12, .inl p1_neighbors)), (a_p1_community, .inl (k 0, 12, .inl p1_community)), (a_p1_population, .inl (k 0, 12, .inl p1_population))]) (As := [.int (0 : Int32), .int (0 : Int32)]) (rest := []) (n := 2) (ci := 3) (cq := (RX3, TX3, 2)) hTs ⟨hx, hb, hml, hown, hts⟩ (mX3_tell l Ts hTs D k H.size a_t (.int z102_t_detail) (.int z102_t_reason) (0 : Int32) (0 : Int32) q20 hqq20) u_ml_X3_29 u_im_X3_tell u_se_X3_tell u_in_X3 u_co_X3_tell hd_X3_tell ⟨Nat.le_of_ble_eq_true rfl, Nat.le_of_ble_eq_true rfl⟩ ⟨rfl, rfl⟩ hK hH hA (cutM (isC := [0]) [some 0, none, none, none, none, none, none] 7 rfl rfl rfl rfl rfl rfl rfl) rfl rfl rfl rfl hl.1 (Nat.le_of_ble_eq_true rfl) dX3_judgePlan_139 ⟨Nat.le_of_ble_eq_true rfl, Nat.le_of_ble_eq_true rfl⟩ (fun H locs hH => ?_)
  have h := Option.some.inj h
  subst h
  exact ge_i hx hb hr hlocks hQ hK hH hAe rfl dX3_judgePlan_142
theorem hd_X3_judgeMove : yX3_judgeMove.cls = RX3 ∧ yX3_judgeMove.cls ≠ "java/lang/invoke/MethodHandle" ∧ yX3_judgeMove.cls ≠ "java/lang/invoke/VarHandle" ∧ (parseMethodDescriptor yX3_judgeMove.desc).map (fun d => d.parameters.length) = some 4 := by decide +kernel
set_option maxHeartbeats 4000000 in
set_option maxRecDepth 100000 in
theorem mX3_judgeMove (l : Launch) (Ts : List Cond) (hTs : ∀ w, w ∈ Ts ↔ w ∈ uT) (D : va_G) (k : Nat → ClassId) (sz : Nat) (a_p1 : Nat) (a_p4 : Nat) (a_t : Nat) (a_p1_population : Nat) (a_p1_area : Nat) (a_p1_community : Nat) (a_p1_outer : Nat) (a_p1_neighbors : Nat) (a_p1_lengths : Nat) (a_p1_plan : Nat) (a_p1_plan_places : Nat) (a_p1_plan_sets : Nat) (a_p4_places : Nat) (a_p4_sets : Nat) (p1_community : Nat → Int32) (p1_cores : Int32) (p1_districts : Int32) (p1_neighbors : Nat → Int32) (p1_plan_places : Nat → Int32) (p1_plan_sets : Nat → Int32) (p1_population : Nat → Int32) (p1_tolerance : Int32) (p1_units : Int32) (p4_places : Nat → Int32) (p4_sets : Nat → Int32) (t_detail : Int32) (t_reason : Int32) (v_p1_hasPlan : Value) (x2 : Int32) (x3 : Int32) (r : Int32 × (Nat → Int32) × (Nat → Int32) × Int32 × Int32) (h : fX3_judgeMove p1_community p1_cores p1_districts p1_neighbors p1_plan_places p1_plan_sets p1_population p1_tolerance p1_units p4_places p4_sets t_detail t_reason x2 x3 = some r) : Met l yX3_judgeMove (Cond.code yX3_judgeMove cX3_judgeMove 5 (some .int) :: Ts) ({ frames := 4, cells := 0, slots := 0, locals := 129 } : Room) (preM D k [.ref a_t, .ref a_p1, .int x2, .int x3, .ref a_p4] [(a_t, .inr (3, [.int t_reason, .int t_detail])), (a_p1, .inr (8, [.int p1_units, .ref a_p1_population, .ref a_p1_area, .ref a_p1_community, .ref a_p1_outer, .ref a_p1_neighbors, .ref a_p1_lengths, .int p1_cores, .int p1_districts, .int p1_tolerance, v_p1_hasPlan, .ref a_p1_plan])), (a_p1_neighbors, .inl (k 0, 12, .inl p1_neighbors)), (a_p1_plan, .inr (4, [.ref a_p1_plan_places, .ref a_p1_plan_sets])), (a_p1_plan_sets, .inl (k 0, 4, .inl p1_plan_sets)), (a_p4, .inr (4, [.ref a_p4_places, .ref a_p4_sets])), (a_p1_plan_places, .inl (k 0, 12, .inl p1_plan_places)), (a_p4_places, .inl (k 0, 12, .inl p4_places)), (a_p4_sets, .inl (k 0, 4, .inl p4_sets)), (a_p1_community, .inl (k 0, 12, .inl p1_community)), (a_p1_population, .inl (k 0, 12, .inl p1_population))] sz) (postI D k r.1 [(a_t, .inr (3, [.int t_reason, .int t_detail])), (a_p1, .inr (8, [.int p1_units, .ref a_p1_population, .ref a_p1_area, .ref a_p1_community, .ref a_p1_outer, .ref a_p1_neighbors, .ref a_p1_lengths, .int p1_cores, .int p1_districts, .int p1_tolerance, v_p1_hasPlan, .ref a_p1_plan])), (a_p1_neighbors, .inl (k 0, 12, .inl p1_neighbors)), (a_p1_plan, .inr (4, [.ref a_p1_plan_places, .ref a_p1_plan_sets])), (a_p1_plan_sets, .inl (k 0, 4, .inl p1_plan_sets)), (a_p4, .inr (4, [.ref a_p4_places, .ref a_p4_sets])), (a_p1_plan_places, .inl (k 0, 12, .inl p1_plan_places)), (a_p4_places, .inl (k 0, 12, .inl p4_places)), (a_p4_sets, .inl (k 0, 4, .inl p4_sets)), (a_p1_community, .inl (k 0, 12, .inl p1_community)), (a_p1_population, .inl (k 0, 12, .inl p1_population))] [(a_t, .inr (3, [.int r.2.2.2.2, .int r.2.2.2.1])), (a_p1, .inr (8, [.int p1_units, .ref a_p1_population, .ref a_p1_area, .ref a_p1_community, .ref a_p1_outer, .ref a_p1_neighbors, .ref a_p1_lengths, .int p1_cores, .int p1_districts, .int p1_tolerance, v_p1_hasPlan, .ref a_p1_plan])), (a_p1_neighbors, .inl (k 0, 12, .inl p1_neighbors)), (a_p1_plan, .inr (4, [.ref a_p1_plan_places, .ref a_p1_plan_sets])), (a_p1_plan_sets, .inl (k 0, 4, .inl p1_plan_sets)), (a_p4, .inr (4, [.ref a_p4_places, .ref a_p4_sets])), (a_p1_plan_places, .inl (k 0, 12, .inl p1_plan_places)), (a_p4_places, .inl (k 0, 12, .inl r.2.1)), (a_p4_sets, .inl (k 0, 4, .inl r.2.2.1)), (a_p1_community, .inl (k 0, 12, .inl p1_community)), (a_p1_population, .inl (k 0, 12, .inl p1_population))] sz) 0 0 (va_A [(a_t, .inr (3, [.int t_reason, .int t_detail])), (a_p1, .inr (8, [.int p1_units, .ref a_p1_population, .ref a_p1_area, .ref a_p1_community, .ref a_p1_outer, .ref a_p1_neighbors, .ref a_p1_lengths, .int p1_cores, .int p1_districts, .int p1_tolerance, v_p1_hasPlan, .ref a_p1_plan])), (a_p1_neighbors, .inl (k 0, 12, .inl p1_neighbors)), (a_p1_plan, .inr (4, [.ref a_p1_plan_places, .ref a_p1_plan_sets])), (a_p1_plan_sets, .inl (k 0, 4, .inl p1_plan_sets)), (a_p4, .inr (4, [.ref a_p4_places, .ref a_p4_sets])), (a_p1_plan_places, .inl (k 0, 12, .inl p1_plan_places)), (a_p4_places, .inl (k 0, 12, .inl p4_places)), (a_p4_sets, .inl (k 0, 4, .inl p4_sets)), (a_p1_community, .inl (k 0, 12, .inl p1_community)), (a_p1_population, .inl (k 0, 12, .inl p1_population))] sz) := by
  refine Met.ofW (cc := cX3_judgeMove) (maxL := 5) (ret := (some .int)) (by decide) rfl ?_
  intro p e s m args below meth c s₁ B hml hv
  obtain ⟨rfl, hsz, hP, hK, hD0⟩ := hv
  have hx := B.exec
  have hb := B.bytes
  have hr := B.returns
  have hts0 := atoms_spec (ws := (Cond.code yX3_judgeMove cX3_judgeMove 5 (some .int) :: Ts)) B.pre
  have hts : ∀ w ∈ uT, w.before _ s = true := fun w h => hts0 w (List.mem_cons_of_mem _ ((hTs w).mpr h))
  clear hts0
  have hown : s.vm.findClass RX3 = some m.cls := findClass_of_methodNamed B.named
  have hlocks := B.notSynchronized
  subst hsz
  have hD := hD0.self (sz := s.heap.size)
  generalize hAe : va_A [(a_t, .inr (3, [.int t_reason, .int t_detail])), (a_p1, .inr (8, [.int p1_units, .ref a_p1_population, .ref a_p1_area, .ref a_p1_community, .ref a_p1_outer, .ref a_p1_neighbors, .ref a_p1_lengths, .int p1_cores, .int p1_districts, .int p1_tolerance, v_p1_hasPlan, .ref a_p1_plan])), (a_p1_neighbors, .inl (k 0, 12, .inl p1_neighbors)), (a_p1_plan, .inr (4, [.ref a_p1_plan_places, .ref a_p1_plan_sets])), (a_p1_plan_sets, .inl (k 0, 4, .inl p1_plan_sets)), (a_p4, .inr (4, [.ref a_p4_places, .ref a_p4_sets])), (a_p1_plan_places, .inl (k 0, 12, .inl p1_plan_places)), (a_p4_places, .inl (k 0, 12, .inl p4_places)), (a_p4_sets, .inl (k 0, 4, .inl p4_sets)), (a_p1_community, .inl (k 0, 12, .inl p1_community)), (a_p1_population, .inl (k 0, 12, .inl p1_population))] s.heap.size = A at hD ⊢
  have hA : ∀ q : Nat, s.heap.size ≤ q → A q := fun q h => by rw [← hAe]; exact Or.inr h
  have hH : HOK D A s.heap [(a_t, .inr (3, [.int t_reason, .int t_detail])), (a_p1, .inr (8, [.int p1_units, .ref a_p1_population, .ref a_p1_area, .ref a_p1_community, .ref a_p1_outer, .ref a_p1_neighbors, .ref a_p1_lengths, .int p1_cores, .int p1_districts, .int p1_tolerance, v_p1_hasPlan, .ref a_p1_plan])), (a_p1_neighbors, .inl (k 0, 12, .inl p1_neighbors)), (a_p1_plan, .inr (4, [.ref a_p1_plan_places, .ref a_p1_plan_sets])), (a_p1_plan_sets, .inl (k 0, 4, .inl p1_plan_sets)), (a_p4, .inr (4, [.ref a_p4_places, .ref a_p4_sets])), (a_p1_plan_places, .inl (k 0, 12, .inl p1_plan_places)), (a_p4_places, .inl (k 0, 12, .inl p4_places)), (a_p4_sets, .inl (k 0, 4, .inl p4_sets)), (a_p1_community, .inl (k 0, 12, .inl p1_community)), (a_p1_population, .inl (k 0, 12, .inl p1_population))] s.heap [] := ⟨hP, hD, va_S.rf⟩
  have hl := lv_entry ([.ref a_t, .ref a_p1, .int x2, .int x3, .ref a_p4]) (n := 5) (Nat.le_of_ble_eq_true rfl)
  rw [lg_entry_eq]
  generalize (lg_sl ([.ref a_t, .ref a_p1, .int x2, .int x3, .ref a_p4]) ++ List.replicate (5 - (lg_sl ([.ref a_t, .ref a_p1, .int x2, .int x3, .ref a_p4])).length) Slot.unset).toArray = ls at hl ⊢
  have hl : lv_has ls 5 [(0, .ref a_t), (1, .ref a_p1), (2, .int x2), (3, .int x3), (4, .ref a_p4)] := hl
  generalize hQ : MQ below (postI D k r.1 [(a_t, .inr (3, [.int t_reason, .int t_detail])), (a_p1, .inr (8, [.int p1_units, .ref a_p1_population, .ref a_p1_area, .ref a_p1_community, .ref a_p1_outer, .ref a_p1_neighbors, .ref a_p1_lengths, .int p1_cores, .int p1_districts, .int p1_tolerance, v_p1_hasPlan, .ref a_p1_plan])), (a_p1_neighbors, .inl (k 0, 12, .inl p1_neighbors)), (a_p1_plan, .inr (4, [.ref a_p1_plan_places, .ref a_p1_plan_sets])), (a_p1_plan_sets, .inl (k 0, 4, .inl p1_plan_sets)), (a_p4, .inr (4, [.ref a_p4_places, .ref a_p4_sets])), (a_p1_plan_places, .inl (k 0, 12, .inl p1_plan_places)), (a_p4_places, .inl (k 0, 12, .inl p4_places)), (a_p4_sets, .inl (k 0, 4, .inl p4_sets)), (a_p1_community, .inl (k 0, 12, .inl p1_community)), (a_p1_population, .inl (k 0, 12, .inl p1_population))] [(a_t, .inr (3, [.int r.2.2.2.2, .int r.2.2.2.1])), (a_p1, .inr (8, [.int p1_units, .ref a_p1_population, .ref a_p1_area, .ref a_p1_community, .ref a_p1_outer, .ref a_p1_neighbors, .ref a_p1_lengths, .int p1_cores, .int p1_districts, .int p1_tolerance, v_p1_hasPlan, .ref a_p1_plan])), (a_p1_neighbors, .inl (k 0, 12, .inl p1_neighbors)), (a_p1_plan, .inr (4, [.ref a_p1_plan_places, .ref a_p1_plan_sets])), (a_p1_plan_sets, .inl (k 0, 4, .inl p1_plan_sets)), (a_p4, .inr (4, [.ref a_p4_places, .ref a_p4_sets])), (a_p1_plan_places, .inl (k 0, 12, .inl p1_plan_places)), (a_p4_places, .inl (k 0, 12, .inl r.2.1)), (a_p4_sets, .inl (k 0, 4, .inl r.2.2.1)), (a_p1_community, .inl (k 0, 12, .inl p1_community)), (a_p1_population, .inl (k 0, 12, .inl p1_population))] s.heap.size) (List.toArray [.ref a_t, .ref a_p1, .int x2, .int x3, .ref a_p4]) s 0 0 A = Q
  clear hP hD hD0
  suffices K : ∀ (H : Heap) (locs : List Loc), HOK D A s.heap [(a_t, .inr (3, [.int t_reason, .int t_detail])), (a_p1, .inr (8, [.int p1_units, .ref a_p1_population, .ref a_p1_area, .ref a_p1_community, .ref a_p1_outer, .ref a_p1_neighbors, .ref a_p1_lengths, .int p1_cores, .int p1_districts, .int p1_tolerance, v_p1_hasPlan, .ref a_p1_plan])), (a_p1_neighbors, .inl (k 0, 12, .inl p1_neighbors)), (a_p1_plan, .inr (4, [.ref a_p1_plan_places, .ref a_p1_plan_sets])), (a_p1_plan_sets, .inl (k 0, 4, .inl p1_plan_sets)), (a_p4, .inr (4, [.ref a_p4_places, .ref a_p4_sets])), (a_p1_plan_places, .inl (k 0, 12, .inl p1_plan_places)), (a_p4_places, .inl (k 0, 12, .inl p4_places)), (a_p4_sets, .inl (k 0, 4, .inl p4_sets)), (a_p1_community, .inl (k 0, 12, .inl p1_community)), (a_p1_population, .inl (k 0, 12, .inl p1_population))] H locs → W p l e ({ frames := 4, cells := 0, slots := 0, locals := 129 } : Room) s m (List.toArray [.ref a_t, .ref a_p1, .int x2, .int x3, .ref a_p4]) below meth c H locs 0 0 Q (F0 m 0 ls []) from K s.heap [] hH
  intro H locs hH
  rw [fX3_judgeMove] at h
  refine lv_aload_n hx hb dX3_judgeMove_0 rfl (lv_at hl 1 rfl) ?_
  refine gk_get (ci := 8) (C := RX9) (T := TX9) (N := 12) hx hb hts u_ws_X9 hown hK hH 1 rfl rfl 5 (by decide) u_fl_X3_47 rfl dX3_judgeMove_1 ?_
  refine lv_iload_n hx hb dX3_judgeMove_4 rfl (lv_at hl 2 rfl) ?_
  obtain ⟨g1, h⟩ := dc_need h
  refine gk_iald hx hb hK hH 2 rfl (dk_in g1) dX3_judgeMove_5 ?_
  refine lv_aload_n hx hb dX3_judgeMove_6 rfl (lv_at hl 1 rfl) ?_
  refine gk_get (ci := 8) (C := RX9) (T := TX9) (N := 12) hx hb hts u_ws_X9 hown hK hH 1 rfl rfl 11 (by decide) u_fl_X3_50 rfl dX3_judgeMove_7 ?_
  refine gk_get (ci := 4) (C := RX4) (T := TX4) (N := 2) hx hb hts u_ws_X4 hown hK hH 3 rfl rfl 1 (by decide) u_fl_X3_23 rfl dX3_judgeMove_10 ?_
  refine lv_iload_n hx hb dX3_judgeMove_13 rfl (lv_at hl 3 rfl) ?_
  obtain ⟨g2, h⟩ := dc_need h
  refine gk_iald hx hb hK hH 4 rfl (dk_in g2) dX3_judgeMove_14 ?_
  refine lv_iand hx hb dX3_judgeMove_15 ?_
  refine lv_if_ne (tgt := 26) hx hb dX3_judgeMove_16 (by decide) (fun c3 => ?_) (fun c3 => ?_)
  · replace h := dc_neg c3 h
    refine lv_aload hx hb dX3_judgeMove_26 (lv_at hl 4 rfl) ?_
    refine lv_aload_n hx hb dX3_judgeMove_28 rfl (lv_at hl 1 rfl) ?_
    refine gk_get (ci := 8) (C := RX9) (T := TX9) (N := 12) hx hb hts u_ws_X9 hown hK hH 1 rfl rfl 11 (by decide) u_fl_X3_50 rfl dX3_judgeMove_29 ?_
    obtain ⟨q5, hqq5, h⟩ := dc_bind h
    refine gc_Vv (ws' := [(a_t, .inr (3, [.int t_reason, .int t_detail])), (a_p1, .inr (8, [.int p1_units, .ref a_p1_population, .ref a_p1_area, .ref a_p1_community, .ref a_p1_outer, .ref a_p1_neighbors, .ref a_p1_lengths, .int p1_cores, .int p1_districts, .int p1_tolerance, v_p1_hasPlan, .ref a_p1_plan])), (a_p1_neighbors, .inl (k 0, 12, .inl p1_neighbors)), (a_p1_plan, .inr (4, [.ref a_p1_plan_places, .ref a_p1_plan_sets])), (a_p1_plan_sets, .inl (k 0, 4, .inl p1_plan_sets)), (a_p4, .inr (4, [.ref a_p4_places, .ref a_p4_sets])), (a_p1_plan_places, .inl (k 0, 12, .inl p1_plan_places)), (a_p4_places, .inl (k 0, 12, .inl q5.1)), (a_p4_sets, .inl (k 0, 4, .inl q5.2)), (a_p1_community, .inl (k 0, 12, .inl p1_community)), (a_p1_population, .inl (k 0, 12, .inl p1_population))]) (As := [.ref a_p1_plan]) (rest := []) (n := 1) (ci := 4) (cq := (RX4, TX4, 2)) hTs ⟨hx, hb, hml, hown, hts⟩ (mX4_copyFrom l Ts hTs D k H.size a_p1_plan a_p4 a_p4_places a_p4_sets a_p1_plan_places a_p1_plan_sets p1_plan_places p1_plan_sets p4_places p4_sets q5 hqq5) u_ml_X3_54 u_im_X4_copyFrom u_se_X4_copyFrom u_in_X4 u_co_X4_copyFrom hd_X4_copyFrom ⟨Nat.le_of_ble_eq_true rfl, Nat.le_of_ble_eq_true rfl⟩ ⟨rfl, rfl⟩ hK hH hA (cutM (isC := [5, 3, 6, 7, 4, 8]) [none, none, none, some 1, some 4, some 0, some 2, some 3, some 5, none, none] 11 rfl rfl rfl rfl rfl rfl rfl) rfl rfl rfl rfl hl.1 (Nat.le_of_ble_eq_true rfl) dX3_judgeMove_32 ⟨Nat.le_of_ble_eq_true rfl, Nat.le_of_ble_eq_true rfl⟩ (fun H locs hH => ?_)
    refine lv_aload hx hb dX3_judgeMove_35 (lv_at hl 4 rfl) ?_
    refine lv_iload_n hx hb dX3_judgeMove_37 rfl (lv_at hl 2 rfl) ?_
    refine lv_iload_n hx hb dX3_judgeMove_38 rfl (lv_at hl 3 rfl) ?_
    obtain ⟨q6, hqq6, h⟩ := dc_bind h
    refine gc_Vv (ws' := [(a_t, .inr (3, [.int t_reason, .int t_detail])), (a_p1, .inr (8, [.int p1_units, .ref a_p1_population, .ref a_p1_area, .ref a_p1_community, .ref a_p1_outer, .ref a_p1_neighbors, .ref a_p1_lengths, .int p1_cores, .int p1_districts, .int p1_tolerance, v_p1_hasPlan, .ref a_p1_plan])), (a_p1_neighbors, .inl (k 0, 12, .inl p1_neighbors)), (a_p1_plan, .inr (4, [.ref a_p1_plan_places, .ref a_p1_plan_sets])), (a_p1_plan_sets, .inl (k 0, 4, .inl p1_plan_sets)), (a_p4, .inr (4, [.ref a_p4_places, .ref a_p4_sets])), (a_p1_plan_places, .inl (k 0, 12, .inl p1_plan_places)), (a_p4_places, .inl (k 0, 12, .inl q6.1)), (a_p4_sets, .inl (k 0, 4, .inl q6.2)), (a_p1_community, .inl (k 0, 12, .inl p1_community)), (a_p1_population, .inl (k 0, 12, .inl p1_population))]) (As := [.int x2, .int x3]) (rest := []) (n := 2) (ci := 4) (cq := (RX4, TX4, 2)) hTs ⟨hx, hb, hml, hown, hts⟩ (mX4_give l Ts hTs D k H.size a_p4 a_p4_places a_p4_sets q5.1 q5.2 x2 x3 q6 hqq6) u_ml_X3_58 u_im_X4_give u_se_X4_give u_in_X4 u_co_X4_give hd_X4_give ⟨Nat.le_of_ble_eq_true rfl, Nat.le_of_ble_eq_true rfl⟩ ⟨rfl, rfl⟩ hK hH hA (cutM (isC := [5, 7, 8]) [none, none, none, none, none, some 0, none, some 1, some 2, none, none] 11 rfl rfl rfl rfl rfl rfl rfl) rfl rfl rfl rfl hl.1 (Nat.le_of_ble_eq_true rfl) dX3_judgeMove_39 ⟨Nat.le_of_ble_eq_true rfl, Nat.le_of_ble_eq_true rfl⟩ (fun H locs hH => ?_)
    refine lv_aload_n hx hb dX3_judgeMove_42 rfl (lv_at hl 0 rfl) ?_
    refine lv_aload_n hx hb dX3_judgeMove_43 rfl (lv_at hl 1 rfl) ?_
    refine lv_aload hx hb dX3_judgeMove_44 (lv_at hl 4 rfl) ?_
    obtain ⟨q7, hqq7, h⟩ := dc_bind h
    refine gc_Vi (ws' := [(a_t, .inr (3, [.int q7.2.2, .int q7.2.1])), (a_p1, .inr (8, [.int p1_units, .ref a_p1_population, .ref a_p1_area, .ref a_p1_community, .ref a_p1_outer, .ref a_p1_neighbors, .ref a_p1_lengths, .int p1_cores, .int p1_districts, .int p1_tolerance, v_p1_hasPlan, .ref a_p1_plan])), (a_p1_neighbors, .inl (k 0, 12, .inl p1_neighbors)), (a_p1_plan, .inr (4, [.ref a_p1_plan_places, .ref a_p1_plan_sets])), (a_p1_plan_sets, .inl (k 0, 4, .inl p1_plan_sets)), (a_p4, .inr (4, [.ref a_p4_places, .ref a_p4_sets])), (a_p1_plan_places, .inl (k 0, 12, .inl p1_plan_places)), (a_p4_places, .inl (k 0, 12, .inl q6.1)), (a_p4_sets, .inl (k 0, 4, .inl q6.2)), (a_p1_community, .inl (k 0, 12, .inl p1_community)), (a_p1_population, .inl (k 0, 12, .inl p1_population))]) (As := [.ref a_p1, .ref a_p4]) (rest := []) (n := 2) (ci := 3) (cq := (RX3, TX3, 2)) hTs ⟨hx, hb, hml, hown, hts⟩ (mX3_judgePlan l Ts hTs D k H.size a_p1 a_p4 a_t a_p1_population a_p1_area a_p1_community a_p1_outer a_p1_neighbors a_p1_lengths a_p1_plan a_p4_places a_p4_sets p1_community p1_cores p1_districts p1_neighbors p1_population p1_tolerance p1_units q6.2 t_detail t_reason v_p1_hasPlan q7 hqq7) u_ml_X3_62 u_im_X3_judgePlan u_se_X3_judgePlan u_in_X3 u_co_X3_judgePlan hd_X3_judgePlan ⟨Nat.le_of_ble_eq_true rfl, Nat.le_of_ble_eq_true rfl⟩ ⟨rfl, rfl⟩ hK hH hA (cutM (isC := [0, 1, 5, 8, 2, 9, 10]) [some 0, some 1, some 4, none, none, some 2, none, none, some 3, some 5, some 6] 11 rfl rfl rfl rfl rfl rfl rfl) rfl rfl rfl rfl hl.1 (Nat.le_of_ble_eq_true rfl) dX3_judgeMove_46 ⟨Nat.le_of_ble_eq_true rfl, Nat.le_of_ble_eq_true rfl⟩ (fun H locs hH => ?_)
    have h := Option.some.inj h
    subst h
    exact ge_i hx hb hr hlocks hQ hK hH hAe rfl dX3_judgeMove_49
  · replace h := dc_pos c3 h
    refine lv_aload_n hx hb dX3_judgeMove_19 rfl (lv_at hl 0 rfl) ?_
    refine lv_iconst (v := 5) hx hb dX3_judgeMove_20 (by decide) ?_
    refine lv_iload_n hx hb dX3_judgeMove_21 rfl (lv_at hl 2 rfl) ?_
    obtain ⟨q4, hqq4, h⟩ := dc_bind h
    refine gc_Vi (ws' := [(a_t, .inr (3, [.int q4.2.2, .int q4.2.1])), (a_p1, .inr (8, [.int p1_units, .ref a_p1_population, .ref a_p1_area, .ref a_p1_community, .ref a_p1_outer, .ref a_p1_neighbors, .ref a_p1_lengths, .int p1_cores, .int p1_districts, .int p1_tolerance, v_p1_hasPlan, .ref a_p1_plan])), (a_p1_neighbors, .inl (k 0, 12, .inl p1_neighbors)), (a_p1_plan, .inr (4, [.ref a_p1_plan_places, .ref a_p1_plan_sets])), (a_p1_plan_sets, .inl (k 0, 4, .inl p1_plan_sets)), (a_p4, .inr (4, [.ref a_p4_places, .ref a_p4_sets])), (a_p1_plan_places, .inl (k 0, 12, .inl p1_plan_places)), (a_p4_places, .inl (k 0, 12, .inl p4_places)), (a_p4_sets, .inl (k 0, 4, .inl p4_sets)), (a_p1_community, .inl (k 0, 12, .inl p1_community)), (a_p1_population, .inl (k 0, 12, .inl p1_population))]) (As := [.int (5 : Int32), .int x2]) (rest := []) (n := 2) (ci := 3) (cq := (RX3, TX3, 2)) hTs ⟨hx, hb, hml, hown, hts⟩ (mX3_tell l Ts hTs D k H.size a_t (.int t_detail) (.int t_reason) (5 : Int32) x2 q4 hqq4) u_ml_X3_29 u_im_X3_tell u_se_X3_tell u_in_X3 u_co_X3_tell hd_X3_tell ⟨Nat.le_of_ble_eq_true rfl, Nat.le_of_ble_eq_true rfl⟩ ⟨rfl, rfl⟩ hK hH hA (cutM (isC := [0]) [some 0, none, none, none, none, none, none, none, none, none, none] 11 rfl rfl rfl rfl rfl rfl rfl) rfl rfl rfl rfl hl.1 (Nat.le_of_ble_eq_true rfl) dX3_judgeMove_22 ⟨Nat.le_of_ble_eq_true rfl, Nat.le_of_ble_eq_true rfl⟩ (fun H locs hH => ?_)
    have h := Option.some.inj h
    subst h
    exact ge_i hx hb hr hlocks hQ hK hH hAe rfl dX3_judgeMove_25
theorem hd_X3_judgeSwap : yX3_judgeSwap.cls = RX3 ∧ yX3_judgeSwap.cls ≠ "java/lang/invoke/MethodHandle" ∧ yX3_judgeSwap.cls ≠ "java/lang/invoke/VarHandle" ∧ (parseMethodDescriptor yX3_judgeSwap.desc).map (fun d => d.parameters.length) = some 4 := by decide +kernel
set_option maxHeartbeats 4000000 in
set_option maxRecDepth 100000 in
theorem mX3_judgeSwap (l : Launch) (Ts : List Cond) (hTs : ∀ w, w ∈ Ts ↔ w ∈ uT) (D : va_G) (k : Nat → ClassId) (sz : Nat) (a_p1 : Nat) (a_p4 : Nat) (a_t : Nat) (a_p1_population : Nat) (a_p1_area : Nat) (a_p1_community : Nat) (a_p1_outer : Nat) (a_p1_neighbors : Nat) (a_p1_lengths : Nat) (a_p1_plan : Nat) (a_p1_plan_places : Nat) (a_p1_plan_sets : Nat) (a_p4_places : Nat) (a_p4_sets : Nat) (p1_community : Nat → Int32) (p1_cores : Int32) (p1_districts : Int32) (p1_neighbors : Nat → Int32) (p1_plan_places : Nat → Int32) (p1_plan_sets : Nat → Int32) (p1_population : Nat → Int32) (p1_tolerance : Int32) (p1_units : Int32) (p4_places : Nat → Int32) (p4_sets : Nat → Int32) (t_detail : Int32) (t_reason : Int32) (v_p1_hasPlan : Value) (x2 : Int32) (x3 : Int32) (r : Int32 × (Nat → Int32) × (Nat → Int32) × Int32 × Int32) (h : fX3_judgeSwap p1_community p1_cores p1_districts p1_neighbors p1_plan_places p1_plan_sets p1_population p1_tolerance p1_units p4_places p4_sets t_detail t_reason x2 x3 = some r) : Met l yX3_judgeSwap (Cond.code yX3_judgeSwap cX3_judgeSwap 7 (some .int) :: Ts) ({ frames := 4, cells := 0, slots := 0, locals := 129 } : Room) (preM D k [.ref a_t, .ref a_p1, .int x2, .int x3, .ref a_p4] [(a_t, .inr (3, [.int t_reason, .int t_detail])), (a_p1, .inr (8, [.int p1_units, .ref a_p1_population, .ref a_p1_area, .ref a_p1_community, .ref a_p1_outer, .ref a_p1_neighbors, .ref a_p1_lengths, .int p1_cores, .int p1_districts, .int p1_tolerance, v_p1_hasPlan, .ref a_p1_plan])), (a_p1_plan, .inr (4, [.ref a_p1_plan_places, .ref a_p1_plan_sets])), (a_p1_plan_places, .inl (k 0, 12, .inl p1_plan_places)), (a_p1_neighbors, .inl (k 0, 12, .inl p1_neighbors)), (a_p1_plan_sets, .inl (k 0, 4, .inl p1_plan_sets)), (a_p4, .inr (4, [.ref a_p4_places, .ref a_p4_sets])), (a_p4_places, .inl (k 0, 12, .inl p4_places)), (a_p4_sets, .inl (k 0, 4, .inl p4_sets)), (a_p1_community, .inl (k 0, 12, .inl p1_community)), (a_p1_population, .inl (k 0, 12, .inl p1_population))] sz) (postI D k r.1 [(a_t, .inr (3, [.int t_reason, .int t_detail])), (a_p1, .inr (8, [.int p1_units, .ref a_p1_population, .ref a_p1_area, .ref a_p1_community, .ref a_p1_outer, .ref a_p1_neighbors, .ref a_p1_lengths, .int p1_cores, .int p1_districts, .int p1_tolerance, v_p1_hasPlan, .ref a_p1_plan])), (a_p1_plan, .inr (4, [.ref a_p1_plan_places, .ref a_p1_plan_sets])), (a_p1_plan_places, .inl (k 0, 12, .inl p1_plan_places)), (a_p1_neighbors, .inl (k 0, 12, .inl p1_neighbors)), (a_p1_plan_sets, .inl (k 0, 4, .inl p1_plan_sets)), (a_p4, .inr (4, [.ref a_p4_places, .ref a_p4_sets])), (a_p4_places, .inl (k 0, 12, .inl p4_places)), (a_p4_sets, .inl (k 0, 4, .inl p4_sets)), (a_p1_community, .inl (k 0, 12, .inl p1_community)), (a_p1_population, .inl (k 0, 12, .inl p1_population))] [(a_t, .inr (3, [.int r.2.2.2.2, .int r.2.2.2.1])), (a_p1, .inr (8, [.int p1_units, .ref a_p1_population, .ref a_p1_area, .ref a_p1_community, .ref a_p1_outer, .ref a_p1_neighbors, .ref a_p1_lengths, .int p1_cores, .int p1_districts, .int p1_tolerance, v_p1_hasPlan, .ref a_p1_plan])), (a_p1_plan, .inr (4, [.ref a_p1_plan_places, .ref a_p1_plan_sets])), (a_p1_plan_places, .inl (k 0, 12, .inl p1_plan_places)), (a_p1_neighbors, .inl (k 0, 12, .inl p1_neighbors)), (a_p1_plan_sets, .inl (k 0, 4, .inl p1_plan_sets)), (a_p4, .inr (4, [.ref a_p4_places, .ref a_p4_sets])), (a_p4_places, .inl (k 0, 12, .inl r.2.1)), (a_p4_sets, .inl (k 0, 4, .inl r.2.2.1)), (a_p1_community, .inl (k 0, 12, .inl p1_community)), (a_p1_population, .inl (k 0, 12, .inl p1_population))] sz) 0 0 (va_A [(a_t, .inr (3, [.int t_reason, .int t_detail])), (a_p1, .inr (8, [.int p1_units, .ref a_p1_population, .ref a_p1_area, .ref a_p1_community, .ref a_p1_outer, .ref a_p1_neighbors, .ref a_p1_lengths, .int p1_cores, .int p1_districts, .int p1_tolerance, v_p1_hasPlan, .ref a_p1_plan])), (a_p1_plan, .inr (4, [.ref a_p1_plan_places, .ref a_p1_plan_sets])), (a_p1_plan_places, .inl (k 0, 12, .inl p1_plan_places)), (a_p1_neighbors, .inl (k 0, 12, .inl p1_neighbors)), (a_p1_plan_sets, .inl (k 0, 4, .inl p1_plan_sets)), (a_p4, .inr (4, [.ref a_p4_places, .ref a_p4_sets])), (a_p4_places, .inl (k 0, 12, .inl p4_places)), (a_p4_sets, .inl (k 0, 4, .inl p4_sets)), (a_p1_community, .inl (k 0, 12, .inl p1_community)), (a_p1_population, .inl (k 0, 12, .inl p1_population))] sz) := by
  refine Met.ofW (cc := cX3_judgeSwap) (maxL := 7) (ret := (some .int)) (by decide) rfl ?_
  intro p e s m args below meth c s₁ B hml hv
  obtain ⟨rfl, hsz, hP, hK, hD0⟩ := hv
  have hx := B.exec
  have hb := B.bytes
  have hr := B.returns
  have hts0 := atoms_spec (ws := (Cond.code yX3_judgeSwap cX3_judgeSwap 7 (some .int) :: Ts)) B.pre
  have hts : ∀ w ∈ uT, w.before _ s = true := fun w h => hts0 w (List.mem_cons_of_mem _ ((hTs w).mpr h))
  clear hts0
  have hown : s.vm.findClass RX3 = some m.cls := findClass_of_methodNamed B.named
  have hlocks := B.notSynchronized
  subst hsz
  have hD := hD0.self (sz := s.heap.size)
  generalize hAe : va_A [(a_t, .inr (3, [.int t_reason, .int t_detail])), (a_p1, .inr (8, [.int p1_units, .ref a_p1_population, .ref a_p1_area, .ref a_p1_community, .ref a_p1_outer, .ref a_p1_neighbors, .ref a_p1_lengths, .int p1_cores, .int p1_districts, .int p1_tolerance, v_p1_hasPlan, .ref a_p1_plan])), (a_p1_plan, .inr (4, [.ref a_p1_plan_places, .ref a_p1_plan_sets])), (a_p1_plan_places, .inl (k 0, 12, .inl p1_plan_places)), (a_p1_neighbors, .inl (k 0, 12, .inl p1_neighbors)), (a_p1_plan_sets, .inl (k 0, 4, .inl p1_plan_sets)), (a_p4, .inr (4, [.ref a_p4_places, .ref a_p4_sets])), (a_p4_places, .inl (k 0, 12, .inl p4_places)), (a_p4_sets, .inl (k 0, 4, .inl p4_sets)), (a_p1_community, .inl (k 0, 12, .inl p1_community)), (a_p1_population, .inl (k 0, 12, .inl p1_population))] s.heap.size = A at hD ⊢
  have hA : ∀ q : Nat, s.heap.size ≤ q → A q := fun q h => by rw [← hAe]; exact Or.inr h
  have hH : HOK D A s.heap [(a_t, .inr (3, [.int t_reason, .int t_detail])), (a_p1, .inr (8, [.int p1_units, .ref a_p1_population, .ref a_p1_area, .ref a_p1_community, .ref a_p1_outer, .ref a_p1_neighbors, .ref a_p1_lengths, .int p1_cores, .int p1_districts, .int p1_tolerance, v_p1_hasPlan, .ref a_p1_plan])), (a_p1_plan, .inr (4, [.ref a_p1_plan_places, .ref a_p1_plan_sets])), (a_p1_plan_places, .inl (k 0, 12, .inl p1_plan_places)), (a_p1_neighbors, .inl (k 0, 12, .inl p1_neighbors)), (a_p1_plan_sets, .inl (k 0, 4, .inl p1_plan_sets)), (a_p4, .inr (4, [.ref a_p4_places, .ref a_p4_sets])), (a_p4_places, .inl (k 0, 12, .inl p4_places)), (a_p4_sets, .inl (k 0, 4, .inl p4_sets)), (a_p1_community, .inl (k 0, 12, .inl p1_community)), (a_p1_population, .inl (k 0, 12, .inl p1_population))] s.heap [] := ⟨hP, hD, va_S.rf⟩
  have hl := lv_entry ([.ref a_t, .ref a_p1, .int x2, .int x3, .ref a_p4]) (n := 7) (Nat.le_of_ble_eq_true rfl)
  rw [lg_entry_eq]
  generalize (lg_sl ([.ref a_t, .ref a_p1, .int x2, .int x3, .ref a_p4]) ++ List.replicate (7 - (lg_sl ([.ref a_t, .ref a_p1, .int x2, .int x3, .ref a_p4])).length) Slot.unset).toArray = ls at hl ⊢
  have hl : lv_has ls 7 [(0, .ref a_t), (1, .ref a_p1), (2, .int x2), (3, .int x3), (4, .ref a_p4)] := hl
  generalize hQ : MQ below (postI D k r.1 [(a_t, .inr (3, [.int t_reason, .int t_detail])), (a_p1, .inr (8, [.int p1_units, .ref a_p1_population, .ref a_p1_area, .ref a_p1_community, .ref a_p1_outer, .ref a_p1_neighbors, .ref a_p1_lengths, .int p1_cores, .int p1_districts, .int p1_tolerance, v_p1_hasPlan, .ref a_p1_plan])), (a_p1_plan, .inr (4, [.ref a_p1_plan_places, .ref a_p1_plan_sets])), (a_p1_plan_places, .inl (k 0, 12, .inl p1_plan_places)), (a_p1_neighbors, .inl (k 0, 12, .inl p1_neighbors)), (a_p1_plan_sets, .inl (k 0, 4, .inl p1_plan_sets)), (a_p4, .inr (4, [.ref a_p4_places, .ref a_p4_sets])), (a_p4_places, .inl (k 0, 12, .inl p4_places)), (a_p4_sets, .inl (k 0, 4, .inl p4_sets)), (a_p1_community, .inl (k 0, 12, .inl p1_community)), (a_p1_population, .inl (k 0, 12, .inl p1_population))] [(a_t, .inr (3, [.int r.2.2.2.2, .int r.2.2.2.1])), (a_p1, .inr (8, [.int p1_units, .ref a_p1_population, .ref a_p1_area, .ref a_p1_community, .ref a_p1_outer, .ref a_p1_neighbors, .ref a_p1_lengths, .int p1_cores, .int p1_districts, .int p1_tolerance, v_p1_hasPlan, .ref a_p1_plan])), (a_p1_plan, .inr (4, [.ref a_p1_plan_places, .ref a_p1_plan_sets])), (a_p1_plan_places, .inl (k 0, 12, .inl p1_plan_places)), (a_p1_neighbors, .inl (k 0, 12, .inl p1_neighbors)), (a_p1_plan_sets, .inl (k 0, 4, .inl p1_plan_sets)), (a_p4, .inr (4, [.ref a_p4_places, .ref a_p4_sets])), (a_p4_places, .inl (k 0, 12, .inl r.2.1)), (a_p4_sets, .inl (k 0, 4, .inl r.2.2.1)), (a_p1_community, .inl (k 0, 12, .inl p1_community)), (a_p1_population, .inl (k 0, 12, .inl p1_population))] s.heap.size) (List.toArray [.ref a_t, .ref a_p1, .int x2, .int x3, .ref a_p4]) s 0 0 A = Q
  clear hP hD hD0
  suffices K : ∀ (H : Heap) (locs : List Loc), HOK D A s.heap [(a_t, .inr (3, [.int t_reason, .int t_detail])), (a_p1, .inr (8, [.int p1_units, .ref a_p1_population, .ref a_p1_area, .ref a_p1_community, .ref a_p1_outer, .ref a_p1_neighbors, .ref a_p1_lengths, .int p1_cores, .int p1_districts, .int p1_tolerance, v_p1_hasPlan, .ref a_p1_plan])), (a_p1_plan, .inr (4, [.ref a_p1_plan_places, .ref a_p1_plan_sets])), (a_p1_plan_places, .inl (k 0, 12, .inl p1_plan_places)), (a_p1_neighbors, .inl (k 0, 12, .inl p1_neighbors)), (a_p1_plan_sets, .inl (k 0, 4, .inl p1_plan_sets)), (a_p4, .inr (4, [.ref a_p4_places, .ref a_p4_sets])), (a_p4_places, .inl (k 0, 12, .inl p4_places)), (a_p4_sets, .inl (k 0, 4, .inl p4_sets)), (a_p1_community, .inl (k 0, 12, .inl p1_community)), (a_p1_population, .inl (k 0, 12, .inl p1_population))] H locs → W p l e ({ frames := 4, cells := 0, slots := 0, locals := 129 } : Room) s m (List.toArray [.ref a_t, .ref a_p1, .int x2, .int x3, .ref a_p4]) below meth c H locs 0 0 Q (F0 m 0 ls []) from K s.heap [] hH
  intro H locs hH
  rw [fX3_judgeSwap] at h
  refine lv_aload_n hx hb dX3_judgeSwap_0 rfl (lv_at hl 1 rfl) ?_
  refine gk_get (ci := 8) (C := RX9) (T := TX9) (N := 12) hx hb hts u_ws_X9 hown hK hH 1 rfl rfl 11 (by decide) u_fl_X3_50 rfl dX3_judgeSwap_1 ?_
  refine gk_get (ci := 4) (C := RX4) (T := TX4) (N := 2) hx hb hts u_ws_X4 hown hK hH 2 rfl rfl 0 (by decide) u_fl_X3_66 rfl dX3_judgeSwap_4 ?_
  refine lv_iload_n hx hb dX3_judgeSwap_7 rfl (lv_at hl 2 rfl) ?_
  obtain ⟨g1, h⟩ := dc_need h
  refine gk_iald hx hb hK hH 3 rfl (dk_in g1) dX3_judgeSwap_8 ?_
  refine lv_istore (lv' := [(5, .int (p1_plan_places x2.toNatClampNeg)), (0, .ref a_t), (1, .ref a_p1), (2, .int x2), (3, .int x3), (4, .ref a_p4)]) hx hb dX3_judgeSwap_9 hl (by decide) rfl (fun ls hl => ?_)
  refine lv_aload_n hx hb dX3_judgeSwap_11 rfl (lv_at hl 2 rfl) ?_
  refine gk_get (ci := 8) (C := RX9) (T := TX9) (N := 12) hx hb hts u_ws_X9 hown hK hH 1 rfl rfl 11 (by decide) u_fl_X3_50 rfl dX3_judgeSwap_12 ?_
  refine gk_get (ci := 4) (C := RX4) (T := TX4) (N := 2) hx hb hts u_ws_X4 hown hK hH 2 rfl rfl 0 (by decide) u_fl_X3_66 rfl dX3_judgeSwap_15 ?_
  refine lv_iload_n hx hb dX3_judgeSwap_18 rfl (lv_at hl 4 rfl) ?_
  obtain ⟨g2, h⟩ := dc_need h
  refine gk_iald hx hb hK hH 3 rfl (dk_in g2) dX3_judgeSwap_19 ?_
  refine lv_istore (lv' := [(6, .int (p1_plan_places x3.toNatClampNeg)), (5, .int (p1_plan_places x2.toNatClampNeg)), (0, .ref a_t), (1, .ref a_p1), (2, .int x2), (3, .int x3), (4, .ref a_p4)]) hx hb dX3_judgeSwap_20 hl (by decide) rfl (fun ls hl => ?_)
  refine lv_aload_n hx hb dX3_judgeSwap_22 rfl (lv_at hl 3 rfl) ?_
  refine gk_get (ci := 8) (C := RX9) (T := TX9) (N := 12) hx hb hts u_ws_X9 hown hK hH 1 rfl rfl 5 (by decide) u_fl_X3_47 rfl dX3_judgeSwap_23 ?_
  refine lv_iload_n hx hb dX3_judgeSwap_26 rfl (lv_at hl 4 rfl) ?_
  obtain ⟨g3, h⟩ := dc_need h
  refine gk_iald hx hb hK hH 4 rfl (dk_in g3) dX3_judgeSwap_27 ?_
  refine lv_aload_n hx hb dX3_judgeSwap_28 rfl (lv_at hl 3 rfl) ?_
  refine gk_get (ci := 8) (C := RX9) (T := TX9) (N := 12) hx hb hts u_ws_X9 hown hK hH 1 rfl rfl 11 (by decide) u_fl_X3_50 rfl dX3_judgeSwap_29 ?_
  refine gk_get (ci := 4) (C := RX4) (T := TX4) (N := 2) hx hb hts u_ws_X4 hown hK hH 2 rfl rfl 1 (by decide) u_fl_X3_23 rfl dX3_judgeSwap_32 ?_
  refine lv_iload hx hb dX3_judgeSwap_35 (lv_at hl 0 rfl) ?_
  obtain ⟨g4, h⟩ := dc_need h
  refine gk_iald hx hb hK hH 5 rfl (dk_in g4) dX3_judgeSwap_37 ?_
  refine lv_iand hx hb dX3_judgeSwap_38 ?_
  refine lv_if_ne (tgt := 49) hx hb dX3_judgeSwap_39 (by decide) (fun c5 => ?_) (fun c5 => ?_)
  · replace h := dc_neg c5 h
    refine lv_aload_n hx hb dX3_judgeSwap_49 rfl (lv_at hl 3 rfl) ?_
    refine gk_get (ci := 8) (C := RX9) (T := TX9) (N := 12) hx hb hts u_ws_X9 hown hK hH 1 rfl rfl 5 (by decide) u_fl_X3_47 rfl dX3_judgeSwap_50 ?_
    refine lv_iload_n hx hb dX3_judgeSwap_53 rfl (lv_at hl 5 rfl) ?_
    obtain ⟨g7, h⟩ := dc_need h
    refine gk_iald hx hb hK hH 4 rfl (dk_in g7) dX3_judgeSwap_54 ?_
    refine lv_aload_n hx hb dX3_judgeSwap_55 rfl (lv_at hl 3 rfl) ?_
    refine gk_get (ci := 8) (C := RX9) (T := TX9) (N := 12) hx hb hts u_ws_X9 hown hK hH 1 rfl rfl 11 (by decide) u_fl_X3_50 rfl dX3_judgeSwap_56 ?_
    refine gk_get (ci := 4) (C := RX4) (T := TX4) (N := 2) hx hb hts u_ws_X4 hown hK hH 2 rfl rfl 1 (by decide) u_fl_X3_23 rfl dX3_judgeSwap_59 ?_
    refine lv_iload hx hb dX3_judgeSwap_62 (lv_at hl 1 rfl) ?_
    obtain ⟨g8, h⟩ := dc_need h
    refine gk_iald hx hb hK hH 5 rfl (dk_in g8) dX3_judgeSwap_64 ?_
    refine lv_iand hx hb dX3_judgeSwap_65 ?_
    refine lv_if_ne (tgt := 76) hx hb dX3_judgeSwap_66 (by decide) (fun c9 => ?_) (fun c9 => ?_)
    · replace h := dc_neg c9 h
      refine lv_aload hx hb dX3_judgeSwap_76 (lv_at hl 6 rfl) ?_
      refine lv_aload_n hx hb dX3_judgeSwap_78 rfl (lv_at hl 3 rfl) ?_
      refine gk_get (ci := 8) (C := RX9) (T := TX9) (N := 12) hx hb hts u_ws_X9 hown hK hH 1 rfl rfl 11 (by decide) u_fl_X3_50 rfl dX3_judgeSwap_79 ?_
      obtain ⟨q11, hqq11, h⟩ := dc_bind h
      refine gc_Vv (ws' := [(a_t, .inr (3, [.int t_reason, .int t_detail])), (a_p1, .inr (8, [.int p1_units, .ref a_p1_population, .ref a_p1_area, .ref a_p1_community, .ref a_p1_outer, .ref a_p1_neighbors, .ref a_p1_lengths, .int p1_cores, .int p1_districts, .int p1_tolerance, v_p1_hasPlan, .ref a_p1_plan])), (a_p1_plan, .inr (4, [.ref a_p1_plan_places, .ref a_p1_plan_sets])), (a_p1_plan_places, .inl (k 0, 12, .inl p1_plan_places)), (a_p1_neighbors, .inl (k 0, 12, .inl p1_neighbors)), (a_p1_plan_sets, .inl (k 0, 4, .inl p1_plan_sets)), (a_p4, .inr (4, [.ref a_p4_places, .ref a_p4_sets])), (a_p4_places, .inl (k 0, 12, .inl q11.1)), (a_p4_sets, .inl (k 0, 4, .inl q11.2)), (a_p1_community, .inl (k 0, 12, .inl p1_community)), (a_p1_population, .inl (k 0, 12, .inl p1_population))]) (As := [.ref a_p1_plan]) (rest := []) (n := 1) (ci := 4) (cq := (RX4, TX4, 2)) hTs ⟨hx, hb, hml, hown, hts⟩ (mX4_copyFrom l Ts hTs D k H.size a_p1_plan a_p4 a_p4_places a_p4_sets a_p1_plan_places a_p1_plan_sets p1_plan_places p1_plan_sets p4_places p4_sets q11 hqq11) u_ml_X3_54 u_im_X4_copyFrom u_se_X4_copyFrom u_in_X4 u_co_X4_copyFrom hd_X4_copyFrom ⟨Nat.le_of_ble_eq_true rfl, Nat.le_of_ble_eq_true rfl⟩ ⟨rfl, rfl⟩ hK hH hA (cutM (isC := [6, 2, 3, 7, 5, 8]) [none, none, some 1, some 2, none, some 4, some 0, some 3, some 5, none, none] 11 rfl rfl rfl rfl rfl rfl rfl) rfl rfl rfl rfl hl.1 (Nat.le_of_ble_eq_true rfl) dX3_judgeSwap_82 ⟨Nat.le_of_ble_eq_true rfl, Nat.le_of_ble_eq_true rfl⟩ (fun H locs hH => ?_)
      refine lv_aload hx hb dX3_judgeSwap_85 (lv_at hl 6 rfl) ?_
      refine lv_iload_n hx hb dX3_judgeSwap_87 rfl (lv_at hl 4 rfl) ?_
      refine lv_iload hx hb dX3_judgeSwap_88 (lv_at hl 0 rfl) ?_
      obtain ⟨q12, hqq12, h⟩ := dc_bind h
      refine gc_Vv (ws' := [(a_t, .inr (3, [.int t_reason, .int t_detail])), (a_p1, .inr (8, [.int p1_units, .ref a_p1_population, .ref a_p1_area, .ref a_p1_community, .ref a_p1_outer, .ref a_p1_neighbors, .ref a_p1_lengths, .int p1_cores, .int p1_districts, .int p1_tolerance, v_p1_hasPlan, .ref a_p1_plan])), (a_p1_plan, .inr (4, [.ref a_p1_plan_places, .ref a_p1_plan_sets])), (a_p1_plan_places, .inl (k 0, 12, .inl p1_plan_places)), (a_p1_neighbors, .inl (k 0, 12, .inl p1_neighbors)), (a_p1_plan_sets, .inl (k 0, 4, .inl p1_plan_sets)), (a_p4, .inr (4, [.ref a_p4_places, .ref a_p4_sets])), (a_p4_places, .inl (k 0, 12, .inl q12.1)), (a_p4_sets, .inl (k 0, 4, .inl q12.2)), (a_p1_community, .inl (k 0, 12, .inl p1_community)), (a_p1_population, .inl (k 0, 12, .inl p1_population))]) (As := [.int x2, .int (p1_plan_places x3.toNatClampNeg)]) (rest := []) (n := 2) (ci := 4) (cq := (RX4, TX4, 2)) hTs ⟨hx, hb, hml, hown, hts⟩ (mX4_give l Ts hTs D k H.size a_p4 a_p4_places a_p4_sets q11.1 q11.2 x2 (p1_plan_places x3.toNatClampNeg) q12 hqq12) u_ml_X3_58 u_im_X4_give u_se_X4_give u_in_X4 u_co_X4_give hd_X4_give ⟨Nat.le_of_ble_eq_true rfl, Nat.le_of_ble_eq_true rfl⟩ ⟨rfl, rfl⟩ hK hH hA (cutM (isC := [6, 7, 8]) [none, none, none, none, none, none, some 0, some 1, some 2, none, none] 11 rfl rfl rfl rfl rfl rfl rfl) rfl rfl rfl rfl hl.1 (Nat.le_of_ble_eq_true rfl) dX3_judgeSwap_90 ⟨Nat.le_of_ble_eq_true rfl, Nat.le_of_ble_eq_true rfl⟩ (fun H locs hH => ?_)
      refine lv_aload hx hb dX3_judgeSwap_93 (lv_at hl 6 rfl) ?_
      refine lv_iload_n hx hb dX3_judgeSwap_95 rfl (lv_at hl 5 rfl) ?_
      refine lv_iload hx hb dX3_judgeSwap_96 (lv_at hl 1 rfl) ?_
      obtain ⟨q13, hqq13, h⟩ := dc_bind h
      refine gc_Vv (ws' := [(a_t, .inr (3, [.int t_reason, .int t_detail])), (a_p1, .inr (8, [.int p1_units, .ref a_p1_population, .ref a_p1_area, .ref a_p1_community, .ref a_p1_outer, .ref a_p1_neighbors, .ref a_p1_lengths, .int p1_cores, .int p1_districts, .int p1_tolerance, v_p1_hasPlan, .ref a_p1_plan])), (a_p1_plan, .inr (4, [.ref a_p1_plan_places, .ref a_p1_plan_sets])), (a_p1_plan_places, .inl (k 0, 12, .inl p1_plan_places)), (a_p1_neighbors, .inl (k 0, 12, .inl p1_neighbors)), (a_p1_plan_sets, .inl (k 0, 4, .inl p1_plan_sets)), (a_p4, .inr (4, [.ref a_p4_places, .ref a_p4_sets])), (a_p4_places, .inl (k 0, 12, .inl q13.1)), (a_p4_sets, .inl (k 0, 4, .inl q13.2)), (a_p1_community, .inl (k 0, 12, .inl p1_community)), (a_p1_population, .inl (k 0, 12, .inl p1_population))]) (As := [.int x3, .int (p1_plan_places x2.toNatClampNeg)]) (rest := []) (n := 2) (ci := 4) (cq := (RX4, TX4, 2)) hTs ⟨hx, hb, hml, hown, hts⟩ (mX4_give l Ts hTs D k H.size a_p4 a_p4_places a_p4_sets q12.1 q12.2 x3 (p1_plan_places x2.toNatClampNeg) q13 hqq13) u_ml_X3_58 u_im_X4_give u_se_X4_give u_in_X4 u_co_X4_give hd_X4_give ⟨Nat.le_of_ble_eq_true rfl, Nat.le_of_ble_eq_true rfl⟩ ⟨rfl, rfl⟩ hK hH hA (cutM (isC := [6, 7, 8]) [none, none, none, none, none, none, some 0, some 1, some 2, none, none] 11 rfl rfl rfl rfl rfl rfl rfl) rfl rfl rfl rfl hl.1 (Nat.le_of_ble_eq_true rfl) dX3_judgeSwap_98 ⟨Nat.le_of_ble_eq_true rfl, Nat.le_of_ble_eq_true rfl⟩ (fun H locs hH => ?_)
      refine lv_aload_n hx hb dX3_judgeSwap_101 rfl (lv_at hl 2 rfl) ?_
      refine lv_aload_n hx hb dX3_judgeSwap_102 rfl (lv_at hl 3 rfl) ?_
      refine lv_aload hx hb dX3_judgeSwap_103 (lv_at hl 6 rfl) ?_
      obtain ⟨q14, hqq14, h⟩ := dc_bind h
      refine gc_Vi (ws' := [(a_t, .inr (3, [.int q14.2.2, .int q14.2.1])), (a_p1, .inr (8, [.int p1_units, .ref a_p1_population, .ref a_p1_area, .ref a_p1_community, .ref a_p1_outer, .ref a_p1_neighbors, .ref a_p1_lengths, .int p1_cores, .int p1_districts, .int p1_tolerance, v_p1_hasPlan, .ref a_p1_plan])), (a_p1_plan, .inr (4, [.ref a_p1_plan_places, .ref a_p1_plan_sets])), (a_p1_plan_places, .inl (k 0, 12, .inl p1_plan_places)), (a_p1_neighbors, .inl (k 0, 12, .inl p1_neighbors)), (a_p1_plan_sets, .inl (k 0, 4, .inl p1_plan_sets)), (a_p4, .inr (4, [.ref a_p4_places, .ref a_p4_sets])), (a_p4_places, .inl (k 0, 12, .inl q13.1)), (a_p4_sets, .inl (k 0, 4, .inl q13.2)), (a_p1_community, .inl (k 0, 12, .inl p1_community)), (a_p1_population, .inl (k 0, 12, .inl p1_population))]) (As := [.ref a_p1, .ref a_p4]) (rest := []) (n := 2) (ci := 3) (cq := (RX3, TX3, 2)) hTs ⟨hx, hb, hml, hown, hts⟩ (mX3_judgePlan l Ts hTs D k H.size a_p1 a_p4 a_t a_p1_population a_p1_area a_p1_community a_p1_outer a_p1_neighbors a_p1_lengths a_p1_plan a_p4_places a_p4_sets p1_community p1_cores p1_districts p1_neighbors p1_population p1_tolerance p1_units q13.2 t_detail t_reason v_p1_hasPlan q14 hqq14) u_ml_X3_62 u_im_X3_judgePlan u_se_X3_judgePlan u_in_X3 u_co_X3_judgePlan hd_X3_judgePlan ⟨Nat.le_of_ble_eq_true rfl, Nat.le_of_ble_eq_true rfl⟩ ⟨rfl, rfl⟩ hK hH hA (cutM (isC := [0, 1, 6, 8, 4, 9, 10]) [some 0, some 1, none, none, some 4, none, some 2, none, some 3, some 5, some 6] 11 rfl rfl rfl rfl rfl rfl rfl) rfl rfl rfl rfl hl.1 (Nat.le_of_ble_eq_true rfl) dX3_judgeSwap_105 ⟨Nat.le_of_ble_eq_true rfl, Nat.le_of_ble_eq_true rfl⟩ (fun H locs hH => ?_)
      have h := Option.some.inj h
      subst h
      exact ge_i hx hb hr hlocks hQ hK hH hAe rfl dX3_judgeSwap_108
    · replace h := dc_pos c9 h
      refine lv_aload_n hx hb dX3_judgeSwap_69 rfl (lv_at hl 2 rfl) ?_
      refine lv_iconst (v := 5) hx hb dX3_judgeSwap_70 (by decide) ?_
      refine lv_iload_n hx hb dX3_judgeSwap_71 rfl (lv_at hl 5 rfl) ?_
      obtain ⟨q10, hqq10, h⟩ := dc_bind h
      refine gc_Vi (ws' := [(a_t, .inr (3, [.int q10.2.2, .int q10.2.1])), (a_p1, .inr (8, [.int p1_units, .ref a_p1_population, .ref a_p1_area, .ref a_p1_community, .ref a_p1_outer, .ref a_p1_neighbors, .ref a_p1_lengths, .int p1_cores, .int p1_districts, .int p1_tolerance, v_p1_hasPlan, .ref a_p1_plan])), (a_p1_plan, .inr (4, [.ref a_p1_plan_places, .ref a_p1_plan_sets])), (a_p1_plan_places, .inl (k 0, 12, .inl p1_plan_places)), (a_p1_neighbors, .inl (k 0, 12, .inl p1_neighbors)), (a_p1_plan_sets, .inl (k 0, 4, .inl p1_plan_sets)), (a_p4, .inr (4, [.ref a_p4_places, .ref a_p4_sets])), (a_p4_places, .inl (k 0, 12, .inl p4_places)), (a_p4_sets, .inl (k 0, 4, .inl p4_sets)), (a_p1_community, .inl (k 0, 12, .inl p1_community)), (a_p1_population, .inl (k 0, 12, .inl p1_population))]) (As := [.int (5 : Int32), .int x3]) (rest := []) (n := 2) (ci := 3) (cq := (RX3, TX3, 2)) hTs ⟨hx, hb, hml, hown, hts⟩ (mX3_tell l Ts hTs D k H.size a_t (.int t_detail) (.int t_reason) (5 : Int32) x3 q10 hqq10) u_ml_X3_29 u_im_X3_tell u_se_X3_tell u_in_X3 u_co_X3_tell hd_X3_tell ⟨Nat.le_of_ble_eq_true rfl, Nat.le_of_ble_eq_true rfl⟩ ⟨rfl, rfl⟩ hK hH hA (cutM (isC := [0]) [some 0, none, none, none, none, none, none, none, none, none, none] 11 rfl rfl rfl rfl rfl rfl rfl) rfl rfl rfl rfl hl.1 (Nat.le_of_ble_eq_true rfl) dX3_judgeSwap_72 ⟨Nat.le_of_ble_eq_true rfl, Nat.le_of_ble_eq_true rfl⟩ (fun H locs hH => ?_)
      have h := Option.some.inj h
      subst h
      exact ge_i hx hb hr hlocks hQ hK hH hAe rfl dX3_judgeSwap_75
  · replace h := dc_pos c5 h
    refine lv_aload_n hx hb dX3_judgeSwap_42 rfl (lv_at hl 2 rfl) ?_
    refine lv_iconst (v := 5) hx hb dX3_judgeSwap_43 (by decide) ?_
    refine lv_iload_n hx hb dX3_judgeSwap_44 rfl (lv_at hl 4 rfl) ?_
    obtain ⟨q6, hqq6, h⟩ := dc_bind h
    refine gc_Vi (ws' := [(a_t, .inr (3, [.int q6.2.2, .int q6.2.1])), (a_p1, .inr (8, [.int p1_units, .ref a_p1_population, .ref a_p1_area, .ref a_p1_community, .ref a_p1_outer, .ref a_p1_neighbors, .ref a_p1_lengths, .int p1_cores, .int p1_districts, .int p1_tolerance, v_p1_hasPlan, .ref a_p1_plan])), (a_p1_plan, .inr (4, [.ref a_p1_plan_places, .ref a_p1_plan_sets])), (a_p1_plan_places, .inl (k 0, 12, .inl p1_plan_places)), (a_p1_neighbors, .inl (k 0, 12, .inl p1_neighbors)), (a_p1_plan_sets, .inl (k 0, 4, .inl p1_plan_sets)), (a_p4, .inr (4, [.ref a_p4_places, .ref a_p4_sets])), (a_p4_places, .inl (k 0, 12, .inl p4_places)), (a_p4_sets, .inl (k 0, 4, .inl p4_sets)), (a_p1_community, .inl (k 0, 12, .inl p1_community)), (a_p1_population, .inl (k 0, 12, .inl p1_population))]) (As := [.int (5 : Int32), .int x2]) (rest := []) (n := 2) (ci := 3) (cq := (RX3, TX3, 2)) hTs ⟨hx, hb, hml, hown, hts⟩ (mX3_tell l Ts hTs D k H.size a_t (.int t_detail) (.int t_reason) (5 : Int32) x2 q6 hqq6) u_ml_X3_29 u_im_X3_tell u_se_X3_tell u_in_X3 u_co_X3_tell hd_X3_tell ⟨Nat.le_of_ble_eq_true rfl, Nat.le_of_ble_eq_true rfl⟩ ⟨rfl, rfl⟩ hK hH hA (cutM (isC := [0]) [some 0, none, none, none, none, none, none, none, none, none, none] 11 rfl rfl rfl rfl rfl rfl rfl) rfl rfl rfl rfl hl.1 (Nat.le_of_ble_eq_true rfl) dX3_judgeSwap_45 ⟨Nat.le_of_ble_eq_true rfl, Nat.le_of_ble_eq_true rfl⟩ (fun H locs hH => ?_)
    have h := Option.some.inj h
    subst h
    exact ge_i hx hb hr hlocks hQ hK hH hAe rfl dX3_judgeSwap_48
theorem hd_X5_isMissing : yX5_isMissing.cls = RX5 ∧ yX5_isMissing.cls ≠ "java/lang/invoke/MethodHandle" ∧ yX5_isMissing.cls ≠ "java/lang/invoke/VarHandle" ∧ (parseMethodDescriptor yX5_isMissing.desc).map (fun d => d.parameters.length) = some 0 := by decide +kernel
set_option maxHeartbeats 4000000 in
set_option maxRecDepth 100000 in
theorem mX5_isMissing (l : Launch) (Ts : List Cond) (hTs : ∀ w, w ∈ Ts ↔ w ∈ uT) (D : va_G) (k : Nat → ClassId) (sz : Nat) (a_t : Nat) (a_t_whole : Nat) (a_t_rough : Nat) (t_size : Int32) (v_t_isExact : Value) (r : Int32) (h : fX5_isMissing t_size = some r) : Met l yX5_isMissing (Cond.code yX5_isMissing cX5_isMissing 1 (some .boolean) :: Ts) ({ frames := 0, cells := 0, slots := 0, locals := 0 } : Room) (preM D k [.ref a_t] [(a_t, .inr (5, [.ref a_t_whole, .ref a_t_rough, .int t_size, v_t_isExact]))] sz) (postI D k r [(a_t, .inr (5, [.ref a_t_whole, .ref a_t_rough, .int t_size, v_t_isExact]))] [(a_t, .inr (5, [.ref a_t_whole, .ref a_t_rough, .int t_size, v_t_isExact]))] sz) 0 0 (va_A [(a_t, .inr (5, [.ref a_t_whole, .ref a_t_rough, .int t_size, v_t_isExact]))] sz) := by
  refine Met.ofW (cc := cX5_isMissing) (maxL := 1) (ret := (some .boolean)) (by decide) rfl ?_
  intro p e s m args below meth c s₁ B hml hv
  obtain ⟨rfl, hsz, hP, hK, hD0⟩ := hv
  have hx := B.exec
  have hb := B.bytes
  have hr := B.returns
  have hts0 := atoms_spec (ws := (Cond.code yX5_isMissing cX5_isMissing 1 (some .boolean) :: Ts)) B.pre
  have hts : ∀ w ∈ uT, w.before _ s = true := fun w h => hts0 w (List.mem_cons_of_mem _ ((hTs w).mpr h))
  clear hts0
  have hown : s.vm.findClass RX5 = some m.cls := findClass_of_methodNamed B.named
  have hlocks := B.notSynchronized
  subst hsz
  have hD := hD0.self (sz := s.heap.size)
  generalize hAe : va_A [(a_t, .inr (5, [.ref a_t_whole, .ref a_t_rough, .int t_size, v_t_isExact]))] s.heap.size = A at hD ⊢
  have hA : ∀ q : Nat, s.heap.size ≤ q → A q := fun q h => by rw [← hAe]; exact Or.inr h
  have hH : HOK D A s.heap [(a_t, .inr (5, [.ref a_t_whole, .ref a_t_rough, .int t_size, v_t_isExact]))] s.heap [] := ⟨hP, hD, va_S.rf⟩
  have hl := lv_entry ([.ref a_t]) (n := 1) (Nat.le_of_ble_eq_true rfl)
  rw [lg_entry_eq]
  generalize (lg_sl ([.ref a_t]) ++ List.replicate (1 - (lg_sl ([.ref a_t])).length) Slot.unset).toArray = ls at hl ⊢
  have hl : lv_has ls 1 [(0, .ref a_t)] := hl
  generalize hQ : MQ below (postI D k r [(a_t, .inr (5, [.ref a_t_whole, .ref a_t_rough, .int t_size, v_t_isExact]))] [(a_t, .inr (5, [.ref a_t_whole, .ref a_t_rough, .int t_size, v_t_isExact]))] s.heap.size) (List.toArray [.ref a_t]) s 0 0 A = Q
  clear hP hD hD0
  suffices K : ∀ (H : Heap) (locs : List Loc), HOK D A s.heap [(a_t, .inr (5, [.ref a_t_whole, .ref a_t_rough, .int t_size, v_t_isExact]))] H locs → W p l e ({ frames := 0, cells := 0, slots := 0, locals := 0 } : Room) s m (List.toArray [.ref a_t]) below meth c H locs 0 0 Q (F0 m 0 ls []) from K s.heap [] hH
  intro H locs hH
  rw [fX5_isMissing] at h
  refine lv_aload_n hx hb dX5_isMissing_0 rfl (lv_at hl 0 rfl) ?_
  refine gk_get (ci := 5) (C := RX5) (T := TX5) (N := 4) hx hb hts u_ws_X5 hown hK hH 0 rfl rfl 2 (by decide) u_fl_X5_19 rfl dX5_isMissing_1 ?_
  refine lv_if_ne (tgt := 11) hx hb dX5_isMissing_4 (by decide) (fun c1 => ?_) (fun c1 => ?_)
  · replace h := dc_neg c1 h
    refine lv_iconst (v := 0) hx hb dX5_isMissing_11 (by decide) ?_
    have h := Option.some.inj h
    subst h
    exact ge_z hx hb hr rfl hlocks hQ hK hH hAe rfl dX5_isMissing_12
  · replace h := dc_pos c1 h
    refine lv_iconst (v := 1) hx hb dX5_isMissing_7 (by decide) ?_
    refine lv_goto (tgt := 12) hx hb dX5_isMissing_8 (by decide) ?_
    have h := Option.some.inj h
    subst h
    exact ge_z hx hb hr rfl hlocks hQ hK hH hAe rfl dX5_isMissing_12
