theorem hd_X9_perimeterOf : yX9_perimeterOf.cls = RX9 ∧ yX9_perimeterOf.cls ≠ "java/lang/invoke/MethodHandle" ∧ yX9_perimeterOf.cls ≠ "java/lang/invoke/VarHandle" ∧ (parseMethodDescriptor yX9_perimeterOf.desc).map (fun d => d.parameters.length) = some 1 := by decide +kernel
set_option maxHeartbeats 4000000 in
set_option maxRecDepth 100000 in
theorem mX9_perimeterOf (l : Launch) (Ts : List Cond) (hTs : ∀ w, w ∈ Ts ↔ w ∈ uT) (D : va_G) (k : Nat → ClassId) (sz : Nat) (a_t : Nat) (a_t_population : Nat) (a_t_area : Nat) (a_t_community : Nat) (a_t_outer : Nat) (a_t_neighbors : Nat) (a_t_lengths : Nat) (a_t_plan : Nat) (t_lengths : Nat → Int32) (t_outer : Nat → Int32) (t_units : Int32) (v_t_cores : Value) (v_t_districts : Value) (v_t_hasPlan : Value) (v_t_tolerance : Value) (x1 : Int32) (r : Int32) (h : fX9_perimeterOf t_lengths t_outer t_units x1 = some r) : Met l yX9_perimeterOf (Cond.code yX9_perimeterOf cX9_perimeterOf 4 (some .int) :: Ts) ({ frames := 1, cells := 0, slots := 0, locals := 24 } : Room) (preM D k [.ref a_t, .int x1] [(a_t, .inr (8, [.int t_units, .ref a_t_population, .ref a_t_area, .ref a_t_community, .ref a_t_outer, .ref a_t_neighbors, .ref a_t_lengths, v_t_cores, v_t_districts, v_t_tolerance, v_t_hasPlan, .ref a_t_plan])), (a_t_outer, .inl (k 0, 12, .inl t_outer)), (a_t_lengths, .inl (k 0, 144, .inl t_lengths))] sz) (postI D k r [(a_t, .inr (8, [.int t_units, .ref a_t_population, .ref a_t_area, .ref a_t_community, .ref a_t_outer, .ref a_t_neighbors, .ref a_t_lengths, v_t_cores, v_t_districts, v_t_tolerance, v_t_hasPlan, .ref a_t_plan])), (a_t_outer, .inl (k 0, 12, .inl t_outer)), (a_t_lengths, .inl (k 0, 144, .inl t_lengths))] [(a_t, .inr (8, [.int t_units, .ref a_t_population, .ref a_t_area, .ref a_t_community, .ref a_t_outer, .ref a_t_neighbors, .ref a_t_lengths, v_t_cores, v_t_districts, v_t_tolerance, v_t_hasPlan, .ref a_t_plan])), (a_t_outer, .inl (k 0, 12, .inl t_outer)), (a_t_lengths, .inl (k 0, 144, .inl t_lengths))] sz) 0 0 (va_A [(a_t, .inr (8, [.int t_units, .ref a_t_population, .ref a_t_area, .ref a_t_community, .ref a_t_outer, .ref a_t_neighbors, .ref a_t_lengths, v_t_cores, v_t_districts, v_t_tolerance, v_t_hasPlan, .ref a_t_plan])), (a_t_outer, .inl (k 0, 12, .inl t_outer)), (a_t_lengths, .inl (k 0, 144, .inl t_lengths))] sz) := by
  refine Met.ofW (cc := cX9_perimeterOf) (maxL := 4) (ret := (some .int)) (by decide) rfl ?_
  intro p e s m args below meth c s₁ B hml hv
  obtain ⟨rfl, hsz, hP, hK, hD0⟩ := hv
  have hx := B.exec
  have hb := B.bytes
  have hr := B.returns
  have hts0 := atoms_spec (ws := (Cond.code yX9_perimeterOf cX9_perimeterOf 4 (some .int) :: Ts)) B.pre
  have hts : ∀ w ∈ uT, w.before _ s = true := fun w h => hts0 w (List.mem_cons_of_mem _ ((hTs w).mpr h))
  clear hts0
  have hown : s.vm.findClass RX9 = some m.cls := findClass_of_methodNamed B.named
  have hlocks := B.notSynchronized
  subst hsz
  have hD := hD0.self (sz := s.heap.size)
  generalize hAe : va_A [(a_t, .inr (8, [.int t_units, .ref a_t_population, .ref a_t_area, .ref a_t_community, .ref a_t_outer, .ref a_t_neighbors, .ref a_t_lengths, v_t_cores, v_t_districts, v_t_tolerance, v_t_hasPlan, .ref a_t_plan])), (a_t_outer, .inl (k 0, 12, .inl t_outer)), (a_t_lengths, .inl (k 0, 144, .inl t_lengths))] s.heap.size = A at hD ⊢
  have hA : ∀ q : Nat, s.heap.size ≤ q → A q := fun q h => by rw [← hAe]; exact Or.inr h
  have hH : HOK D A s.heap [(a_t, .inr (8, [.int t_units, .ref a_t_population, .ref a_t_area, .ref a_t_community, .ref a_t_outer, .ref a_t_neighbors, .ref a_t_lengths, v_t_cores, v_t_districts, v_t_tolerance, v_t_hasPlan, .ref a_t_plan])), (a_t_outer, .inl (k 0, 12, .inl t_outer)), (a_t_lengths, .inl (k 0, 144, .inl t_lengths))] s.heap [] := ⟨hP, hD, va_S.rf⟩
  have hl := lv_entry ([.ref a_t, .int x1]) (n := 4) (Nat.le_of_ble_eq_true rfl)
  rw [lg_entry_eq]
  generalize (lg_sl ([.ref a_t, .int x1]) ++ List.replicate (4 - (lg_sl ([.ref a_t, .int x1])).length) Slot.unset).toArray = ls at hl ⊢
  have hl : lv_has ls 4 [(0, .ref a_t), (1, .int x1)] := hl
  generalize hQ : MQ below (postI D k r [(a_t, .inr (8, [.int t_units, .ref a_t_population, .ref a_t_area, .ref a_t_community, .ref a_t_outer, .ref a_t_neighbors, .ref a_t_lengths, v_t_cores, v_t_districts, v_t_tolerance, v_t_hasPlan, .ref a_t_plan])), (a_t_outer, .inl (k 0, 12, .inl t_outer)), (a_t_lengths, .inl (k 0, 144, .inl t_lengths))] [(a_t, .inr (8, [.int t_units, .ref a_t_population, .ref a_t_area, .ref a_t_community, .ref a_t_outer, .ref a_t_neighbors, .ref a_t_lengths, v_t_cores, v_t_districts, v_t_tolerance, v_t_hasPlan, .ref a_t_plan])), (a_t_outer, .inl (k 0, 12, .inl t_outer)), (a_t_lengths, .inl (k 0, 144, .inl t_lengths))] s.heap.size) (List.toArray [.ref a_t, .int x1]) s 0 0 A = Q
  clear hP hD hD0
  suffices K : ∀ (H : Heap) (locs : List Loc), HOK D A s.heap [(a_t, .inr (8, [.int t_units, .ref a_t_population, .ref a_t_area, .ref a_t_community, .ref a_t_outer, .ref a_t_neighbors, .ref a_t_lengths, v_t_cores, v_t_districts, v_t_tolerance, v_t_hasPlan, .ref a_t_plan])), (a_t_outer, .inl (k 0, 12, .inl t_outer)), (a_t_lengths, .inl (k 0, 144, .inl t_lengths))] H locs → W p l e ({ frames := 1, cells := 0, slots := 0, locals := 24 } : Room) s m (List.toArray [.ref a_t, .int x1]) below meth c H locs 0 0 Q (F0 m 0 ls []) from K s.heap [] hH
  intro H locs hH
  have L4 : ∀ (n : Nat), ∀ (kf : Int32 → Option (Int32)) (y4_2 : Int32) (y4_3 : Int32), fX9_perimeterOf_L4 t_lengths t_outer t_units x1 n kf y4_2 y4_3 = some r → (∀ (z4_2 : Int32) (H : Heap) (locs : List Loc) (ls : Array Slot), kf z4_2 = some r → HOK D A s.heap [(a_t, .inr (8, [.int t_units, .ref a_t_population, .ref a_t_area, .ref a_t_community, .ref a_t_outer, .ref a_t_neighbors, .ref a_t_lengths, v_t_cores, v_t_districts, v_t_tolerance, v_t_hasPlan, .ref a_t_plan])), (a_t_outer, .inl (k 0, 12, .inl t_outer)), (a_t_lengths, .inl (k 0, 144, .inl t_lengths))] H locs → lv_has ls 4 [(2, .int z4_2)] → W p l e ({ frames := 1, cells := 0, slots := 0, locals := 24 } : Room) s m (List.toArray [.ref a_t, .int x1]) below meth c H locs 0 0 Q (F0 m 42 ls [])) → ∀ (H : Heap) (locs : List Loc) (ls : Array Slot), HOK D A s.heap [(a_t, .inr (8, [.int t_units, .ref a_t_population, .ref a_t_area, .ref a_t_community, .ref a_t_outer, .ref a_t_neighbors, .ref a_t_lengths, v_t_cores, v_t_districts, v_t_tolerance, v_t_hasPlan, .ref a_t_plan])), (a_t_outer, .inl (k 0, 12, .inl t_outer)), (a_t_lengths, .inl (k 0, 144, .inl t_lengths))] H locs → lv_has ls 4 [(0, .ref a_t), (1, .int x1), (2, .int y4_2), (3, .int y4_3)] → W p l e ({ frames := 1, cells := 0, slots := 0, locals := 24 } : Room) s m (List.toArray [.ref a_t, .int x1]) below meth c H locs 0 0 Q (F0 m 4 ls []) := by
    intro n
    induction n with
    | zero =>
      intro kf y4_2 y4_3 h
      exact absurd h (by rw [fX9_perimeterOf_L4]; exact fun q => by cases q)
    | succ n ih =>
      intro kf y4_2 y4_3 h kk H locs ls hH hl
      rw [fX9_perimeterOf_L4] at h
      refine lv_iload_n hx hb dX9_perimeterOf_4 rfl (lv_at hl 3 rfl) ?_
      refine lv_aload_n hx hb dX9_perimeterOf_5 rfl (lv_at hl 0 rfl) ?_
      refine gk_get (ci := 8) (C := RX9) (T := TX9) (N := 12) hx hb hts u_ws_X9 hown hK hH 0 rfl rfl 0 (by decide) u_fl_X9_9 rfl dX9_perimeterOf_6 ?_
      refine lv_icmp_ge (tgt := 42) hx hb dX9_perimeterOf_9 (by decide) (fun c1 => ?_) (fun c1 => ?_)
      · replace h := dc_pos c1 h
        exact kk y4_2 H locs ls h hH (lv_sub hl [2] rfl)
      · replace h := dc_neg c1 h
        refine lv_iload_n hx hb dX9_perimeterOf_12 rfl (lv_at hl 1 rfl) ?_
        refine lv_iload_n hx hb dX9_perimeterOf_13 rfl (lv_at hl 3 rfl) ?_
        refine lv_ishr hx hb dX9_perimeterOf_14 ?_
        refine lv_iconst (v := 1) hx hb dX9_perimeterOf_15 (by decide) ?_
        refine lv_iand hx hb dX9_perimeterOf_16 ?_
        refine lv_if_eq (tgt := 36) hx hb dX9_perimeterOf_17 (by decide) (fun c2 => ?_) (fun c2 => ?_)
        · replace h := dc_pos c2 h
          refine lv_iinc (v := (y4_3 + (1 : Int32))) (lv' := [(3, .int (y4_3 + (1 : Int32))), (0, .ref a_t), (1, .int x1), (2, .int y4_2)]) hx hb dX9_perimeterOf_36 hl (k := 3) rfl rfl (by decide) rfl (fun ls hl => ?_)
          refine lv_goto (tgt := 4) hx hb dX9_perimeterOf_39 (by decide) ?_
          exact ih kf y4_2 (y4_3 + (1 : Int32)) h kk H locs ls hH (lv_sub hl [1, 2, 3, 0] rfl)
        · replace h := dc_neg c2 h
          refine lv_iload_n hx hb dX9_perimeterOf_20 rfl (lv_at hl 2 rfl) ?_
          refine lv_aload_n hx hb dX9_perimeterOf_21 rfl (lv_at hl 0 rfl) ?_
          refine gk_get (ci := 8) (C := RX9) (T := TX9) (N := 12) hx hb hts u_ws_X9 hown hK hH 0 rfl rfl 4 (by decide) u_fl_X9_25 rfl dX9_perimeterOf_22 ?_
          refine lv_iload_n hx hb dX9_perimeterOf_25 rfl (lv_at hl 3 rfl) ?_
          obtain ⟨g3, h⟩ := dc_need h
          refine gk_iald hx hb hK hH 1 rfl (dk_in g3) dX9_perimeterOf_26 ?_
          refine lv_aload_n hx hb dX9_perimeterOf_27 rfl (lv_at hl 0 rfl) ?_
          refine lv_iload_n hx hb dX9_perimeterOf_28 rfl (lv_at hl 3 rfl) ?_
          refine lv_iload_n hx hb dX9_perimeterOf_29 rfl (lv_at hl 1 rfl) ?_
          obtain ⟨q4, hqq4, h⟩ := dc_bind h
          refine gc_Vi (ws' := [(a_t, .inr (8, [.int t_units, .ref a_t_population, .ref a_t_area, .ref a_t_community, .ref a_t_outer, .ref a_t_neighbors, .ref a_t_lengths, v_t_cores, v_t_districts, v_t_tolerance, v_t_hasPlan, .ref a_t_plan])), (a_t_outer, .inl (k 0, 12, .inl t_outer)), (a_t_lengths, .inl (k 0, 144, .inl t_lengths))]) (As := [.int y4_3, .int x1]) (rest := [.int (t_outer y4_3.toNatClampNeg), .int y4_2]) (n := 2) (ci := 8) (cq := (RX9, TX9, 12)) hTs ⟨hx, hb, hml, hown, hts⟩ (mX9_lengthToOutside l Ts hTs D k H.size a_t a_t_population a_t_area a_t_community a_t_outer a_t_neighbors a_t_lengths a_t_plan t_lengths t_units v_t_cores v_t_districts v_t_hasPlan v_t_tolerance y4_3 x1 q4 hqq4) u_ml_X9_89 u_im_X9_lengthToOutside u_se_X9_lengthToOutside u_in_X9 u_co_X9_lengthToOutside hd_X9_lengthToOutside ⟨Nat.le_of_ble_eq_true rfl, Nat.le_of_ble_eq_true rfl⟩ ⟨rfl, rfl⟩ hK hH hA (cut0 (isC := [0, 2]) rfl rfl rfl) rfl rfl rfl rfl hl.1 (Nat.le_of_ble_eq_true rfl) dX9_perimeterOf_30 ⟨Nat.le_of_ble_eq_true rfl, Nat.le_of_ble_eq_true rfl⟩ (fun H locs hH => ?_)
          refine lv_iadd hx hb dX9_perimeterOf_33 ?_
          refine lv_iadd hx hb dX9_perimeterOf_34 ?_
          refine lv_istore_n (lv' := [(2, .int (y4_2 + ((t_outer y4_3.toNatClampNeg) + q4))), (0, .ref a_t), (1, .int x1), (3, .int y4_3)]) hx hb dX9_perimeterOf_35 rfl hl (by decide) rfl (fun ls hl => ?_)
          refine lv_iinc (v := (y4_3 + (1 : Int32))) (lv' := [(3, .int (y4_3 + (1 : Int32))), (2, .int (y4_2 + ((t_outer y4_3.toNatClampNeg) + q4))), (0, .ref a_t), (1, .int x1)]) hx hb dX9_perimeterOf_36 hl (k := 3) rfl rfl (by decide) rfl (fun ls hl => ?_)
          refine lv_goto (tgt := 4) hx hb dX9_perimeterOf_39 (by decide) ?_
          exact ih kf (y4_2 + ((t_outer y4_3.toNatClampNeg) + q4)) (y4_3 + (1 : Int32)) h kk H locs ls hH (lv_sub hl [2, 3, 1, 0] rfl)
  rw [fX9_perimeterOf] at h
  refine lv_iconst (v := 0) hx hb dX9_perimeterOf_0 (by decide) ?_
  refine lv_istore_n (lv' := [(2, .int (0 : Int32)), (0, .ref a_t), (1, .int x1)]) hx hb dX9_perimeterOf_1 rfl hl (by decide) rfl (fun ls hl => ?_)
  refine lv_iconst (v := 0) hx hb dX9_perimeterOf_2 (by decide) ?_
  refine lv_istore_n (lv' := [(3, .int (0 : Int32)), (2, .int (0 : Int32)), (0, .ref a_t), (1, .int x1)]) hx hb dX9_perimeterOf_3 rfl hl (by decide) rfl (fun ls hl => ?_)
  refine L4 _ _ (0 : Int32) (0 : Int32) h (fun z4_2 H locs ls h hH hl => ?_) H locs ls hH (lv_sub hl [2, 3, 1, 0] rfl)
  refine lv_iload_n hx hb dX9_perimeterOf_42 rfl (lv_at hl 0 rfl) ?_
  have h := Option.some.inj h
  subst h
  exact ge_i hx hb hr hlocks hQ hK hH hAe rfl dX9_perimeterOf_43
theorem hd_X9_areaOf : yX9_areaOf.cls = RX9 ∧ yX9_areaOf.cls ≠ "java/lang/invoke/MethodHandle" ∧ yX9_areaOf.cls ≠ "java/lang/invoke/VarHandle" ∧ (parseMethodDescriptor yX9_areaOf.desc).map (fun d => d.parameters.length) = some 1 := by decide +kernel
set_option maxHeartbeats 4000000 in
set_option maxRecDepth 100000 in
theorem mX9_areaOf (l : Launch) (Ts : List Cond) (hTs : ∀ w, w ∈ Ts ↔ w ∈ uT) (D : va_G) (k : Nat → ClassId) (sz : Nat) (a_t : Nat) (a_t_population : Nat) (a_t_area : Nat) (a_t_community : Nat) (a_t_outer : Nat) (a_t_neighbors : Nat) (a_t_lengths : Nat) (a_t_plan : Nat) (t_area : Nat → Int32) (t_units : Int32) (v_t_cores : Value) (v_t_districts : Value) (v_t_hasPlan : Value) (v_t_tolerance : Value) (x1 : Int32) (r : Int32) (h : fX9_areaOf t_area t_units x1 = some r) : Met l yX9_areaOf (Cond.code yX9_areaOf cX9_areaOf 4 (some .int) :: Ts) ({ frames := 0, cells := 0, slots := 0, locals := 0 } : Room) (preM D k [.ref a_t, .int x1] [(a_t, .inr (8, [.int t_units, .ref a_t_population, .ref a_t_area, .ref a_t_community, .ref a_t_outer, .ref a_t_neighbors, .ref a_t_lengths, v_t_cores, v_t_districts, v_t_tolerance, v_t_hasPlan, .ref a_t_plan])), (a_t_area, .inl (k 0, 12, .inl t_area))] sz) (postI D k r [(a_t, .inr (8, [.int t_units, .ref a_t_population, .ref a_t_area, .ref a_t_community, .ref a_t_outer, .ref a_t_neighbors, .ref a_t_lengths, v_t_cores, v_t_districts, v_t_tolerance, v_t_hasPlan, .ref a_t_plan])), (a_t_area, .inl (k 0, 12, .inl t_area))] [(a_t, .inr (8, [.int t_units, .ref a_t_population, .ref a_t_area, .ref a_t_community, .ref a_t_outer, .ref a_t_neighbors, .ref a_t_lengths, v_t_cores, v_t_districts, v_t_tolerance, v_t_hasPlan, .ref a_t_plan])), (a_t_area, .inl (k 0, 12, .inl t_area))] sz) 0 0 (va_A [(a_t, .inr (8, [.int t_units, .ref a_t_population, .ref a_t_area, .ref a_t_community, .ref a_t_outer, .ref a_t_neighbors, .ref a_t_lengths, v_t_cores, v_t_districts, v_t_tolerance, v_t_hasPlan, .ref a_t_plan])), (a_t_area, .inl (k 0, 12, .inl t_area))] sz) := by
  refine Met.ofW (cc := cX9_areaOf) (maxL := 4) (ret := (some .int)) (by decide) rfl ?_
  intro p e s m args below meth c s₁ B hml hv
  obtain ⟨rfl, hsz, hP, hK, hD0⟩ := hv
  have hx := B.exec
  have hb := B.bytes
  have hr := B.returns
  have hts0 := atoms_spec (ws := (Cond.code yX9_areaOf cX9_areaOf 4 (some .int) :: Ts)) B.pre
  have hts : ∀ w ∈ uT, w.before _ s = true := fun w h => hts0 w (List.mem_cons_of_mem _ ((hTs w).mpr h))
  clear hts0
  have hown : s.vm.findClass RX9 = some m.cls := findClass_of_methodNamed B.named
  have hlocks := B.notSynchronized
  subst hsz
  have hD := hD0.self (sz := s.heap.size)
  generalize hAe : va_A [(a_t, .inr (8, [.int t_units, .ref a_t_population, .ref a_t_area, .ref a_t_community, .ref a_t_outer, .ref a_t_neighbors, .ref a_t_lengths, v_t_cores, v_t_districts, v_t_tolerance, v_t_hasPlan, .ref a_t_plan])), (a_t_area, .inl (k 0, 12, .inl t_area))] s.heap.size = A at hD ⊢
  have hA : ∀ q : Nat, s.heap.size ≤ q → A q := fun q h => by rw [← hAe]; exact Or.inr h
  have hH : HOK D A s.heap [(a_t, .inr (8, [.int t_units, .ref a_t_population, .ref a_t_area, .ref a_t_community, .ref a_t_outer, .ref a_t_neighbors, .ref a_t_lengths, v_t_cores, v_t_districts, v_t_tolerance, v_t_hasPlan, .ref a_t_plan])), (a_t_area, .inl (k 0, 12, .inl t_area))] s.heap [] := ⟨hP, hD, va_S.rf⟩
  have hl := lv_entry ([.ref a_t, .int x1]) (n := 4) (Nat.le_of_ble_eq_true rfl)
  rw [lg_entry_eq]
  generalize (lg_sl ([.ref a_t, .int x1]) ++ List.replicate (4 - (lg_sl ([.ref a_t, .int x1])).length) Slot.unset).toArray = ls at hl ⊢
  have hl : lv_has ls 4 [(0, .ref a_t), (1, .int x1)] := hl
  generalize hQ : MQ below (postI D k r [(a_t, .inr (8, [.int t_units, .ref a_t_population, .ref a_t_area, .ref a_t_community, .ref a_t_outer, .ref a_t_neighbors, .ref a_t_lengths, v_t_cores, v_t_districts, v_t_tolerance, v_t_hasPlan, .ref a_t_plan])), (a_t_area, .inl (k 0, 12, .inl t_area))] [(a_t, .inr (8, [.int t_units, .ref a_t_population, .ref a_t_area, .ref a_t_community, .ref a_t_outer, .ref a_t_neighbors, .ref a_t_lengths, v_t_cores, v_t_districts, v_t_tolerance, v_t_hasPlan, .ref a_t_plan])), (a_t_area, .inl (k 0, 12, .inl t_area))] s.heap.size) (List.toArray [.ref a_t, .int x1]) s 0 0 A = Q
  clear hP hD hD0
  suffices K : ∀ (H : Heap) (locs : List Loc), HOK D A s.heap [(a_t, .inr (8, [.int t_units, .ref a_t_population, .ref a_t_area, .ref a_t_community, .ref a_t_outer, .ref a_t_neighbors, .ref a_t_lengths, v_t_cores, v_t_districts, v_t_tolerance, v_t_hasPlan, .ref a_t_plan])), (a_t_area, .inl (k 0, 12, .inl t_area))] H locs → W p l e ({ frames := 0, cells := 0, slots := 0, locals := 0 } : Room) s m (List.toArray [.ref a_t, .int x1]) below meth c H locs 0 0 Q (F0 m 0 ls []) from K s.heap [] hH
  intro H locs hH
  have L4 : ∀ (n : Nat), ∀ (kf : Int32 → Option (Int32)) (y4_2 : Int32) (y4_3 : Int32), fX9_areaOf_L4 t_area t_units x1 n kf y4_2 y4_3 = some r → (∀ (z4_2 : Int32) (H : Heap) (locs : List Loc) (ls : Array Slot), kf z4_2 = some r → HOK D A s.heap [(a_t, .inr (8, [.int t_units, .ref a_t_population, .ref a_t_area, .ref a_t_community, .ref a_t_outer, .ref a_t_neighbors, .ref a_t_lengths, v_t_cores, v_t_districts, v_t_tolerance, v_t_hasPlan, .ref a_t_plan])), (a_t_area, .inl (k 0, 12, .inl t_area))] H locs → lv_has ls 4 [(2, .int z4_2)] → W p l e ({ frames := 0, cells := 0, slots := 0, locals := 0 } : Room) s m (List.toArray [.ref a_t, .int x1]) below meth c H locs 0 0 Q (F0 m 35 ls [])) → ∀ (H : Heap) (locs : List Loc) (ls : Array Slot), HOK D A s.heap [(a_t, .inr (8, [.int t_units, .ref a_t_population, .ref a_t_area, .ref a_t_community, .ref a_t_outer, .ref a_t_neighbors, .ref a_t_lengths, v_t_cores, v_t_districts, v_t_tolerance, v_t_hasPlan, .ref a_t_plan])), (a_t_area, .inl (k 0, 12, .inl t_area))] H locs → lv_has ls 4 [(0, .ref a_t), (1, .int x1), (2, .int y4_2), (3, .int y4_3)] → W p l e ({ frames := 0, cells := 0, slots := 0, locals := 0 } : Room) s m (List.toArray [.ref a_t, .int x1]) below meth c H locs 0 0 Q (F0 m 4 ls []) := by
    intro n
    induction n with
    | zero =>
      intro kf y4_2 y4_3 h
      exact absurd h (by rw [fX9_areaOf_L4]; exact fun q => by cases q)
    | succ n ih =>
      intro kf y4_2 y4_3 h kk H locs ls hH hl
      rw [fX9_areaOf_L4] at h
      refine lv_iload_n hx hb dX9_areaOf_4 rfl (lv_at hl 3 rfl) ?_
      refine lv_aload_n hx hb dX9_areaOf_5 rfl (lv_at hl 0 rfl) ?_
      refine gk_get (ci := 8) (C := RX9) (T := TX9) (N := 12) hx hb hts u_ws_X9 hown hK hH 0 rfl rfl 0 (by decide) u_fl_X9_9 rfl dX9_areaOf_6 ?_
      refine lv_icmp_ge (tgt := 35) hx hb dX9_areaOf_9 (by decide) (fun c1 => ?_) (fun c1 => ?_)
      · replace h := dc_pos c1 h
        exact kk y4_2 H locs ls h hH (lv_sub hl [2] rfl)
      · replace h := dc_neg c1 h
        refine lv_iload_n hx hb dX9_areaOf_12 rfl (lv_at hl 1 rfl) ?_
        refine lv_iload_n hx hb dX9_areaOf_13 rfl (lv_at hl 3 rfl) ?_
        refine lv_ishr hx hb dX9_areaOf_14 ?_
        refine lv_iconst (v := 1) hx hb dX9_areaOf_15 (by decide) ?_
        refine lv_iand hx hb dX9_areaOf_16 ?_
        refine lv_if_eq (tgt := 29) hx hb dX9_areaOf_17 (by decide) (fun c2 => ?_) (fun c2 => ?_)
        · replace h := dc_pos c2 h
          refine lv_iinc (v := (y4_3 + (1 : Int32))) (lv' := [(3, .int (y4_3 + (1 : Int32))), (0, .ref a_t), (1, .int x1), (2, .int y4_2)]) hx hb dX9_areaOf_29 hl (k := 3) rfl rfl (by decide) rfl (fun ls hl => ?_)
          refine lv_goto (tgt := 4) hx hb dX9_areaOf_32 (by decide) ?_
          exact ih kf y4_2 (y4_3 + (1 : Int32)) h kk H locs ls hH (lv_sub hl [1, 2, 3, 0] rfl)
        · replace h := dc_neg c2 h
          refine lv_iload_n hx hb dX9_areaOf_20 rfl (lv_at hl 2 rfl) ?_
          refine lv_aload_n hx hb dX9_areaOf_21 rfl (lv_at hl 0 rfl) ?_
          refine gk_get (ci := 8) (C := RX9) (T := TX9) (N := 12) hx hb hts u_ws_X9 hown hK hH 0 rfl rfl 2 (by decide) u_fl_X9_19 rfl dX9_areaOf_22 ?_
          refine lv_iload_n hx hb dX9_areaOf_25 rfl (lv_at hl 3 rfl) ?_
          obtain ⟨g3, h⟩ := dc_need h
          refine gk_iald hx hb hK hH 1 rfl (dk_in g3) dX9_areaOf_26 ?_
          refine lv_iadd hx hb dX9_areaOf_27 ?_
          refine lv_istore_n (lv' := [(2, .int (y4_2 + (t_area y4_3.toNatClampNeg))), (0, .ref a_t), (1, .int x1), (3, .int y4_3)]) hx hb dX9_areaOf_28 rfl hl (by decide) rfl (fun ls hl => ?_)
          refine lv_iinc (v := (y4_3 + (1 : Int32))) (lv' := [(3, .int (y4_3 + (1 : Int32))), (2, .int (y4_2 + (t_area y4_3.toNatClampNeg))), (0, .ref a_t), (1, .int x1)]) hx hb dX9_areaOf_29 hl (k := 3) rfl rfl (by decide) rfl (fun ls hl => ?_)
          refine lv_goto (tgt := 4) hx hb dX9_areaOf_32 (by decide) ?_
          exact ih kf (y4_2 + (t_area y4_3.toNatClampNeg)) (y4_3 + (1 : Int32)) h kk H locs ls hH (lv_sub hl [2, 3, 1, 0] rfl)
  rw [fX9_areaOf] at h
  refine lv_iconst (v := 0) hx hb dX9_areaOf_0 (by decide) ?_
  refine lv_istore_n (lv' := [(2, .int (0 : Int32)), (0, .ref a_t), (1, .int x1)]) hx hb dX9_areaOf_1 rfl hl (by decide) rfl (fun ls hl => ?_)
  refine lv_iconst (v := 0) hx hb dX9_areaOf_2 (by decide) ?_
  refine lv_istore_n (lv' := [(3, .int (0 : Int32)), (2, .int (0 : Int32)), (0, .ref a_t), (1, .int x1)]) hx hb dX9_areaOf_3 rfl hl (by decide) rfl (fun ls hl => ?_)
  refine L4 _ _ (0 : Int32) (0 : Int32) h (fun z4_2 H locs ls h hH hl => ?_) H locs ls hH (lv_sub hl [2, 3, 1, 0] rfl)
  refine lv_iload_n hx hb dX9_areaOf_35 rfl (lv_at hl 0 rfl) ?_
  have h := Option.some.inj h
  subst h
  exact ge_i hx hb hr hlocks hQ hK hH hAe rfl dX9_areaOf_36
theorem hd_X1_commonDivisor : yX1_commonDivisor.cls ≠ "java/lang/invoke/MethodHandle" ∧ yX1_commonDivisor.cls ≠ "java/lang/invoke/VarHandle" ∧ (parseMethodDescriptor yX1_commonDivisor.desc).map (fun d => d.parameters.length) = some 2 := by decide +kernel
set_option maxHeartbeats 4000000 in
set_option maxRecDepth 100000 in
theorem mX1_commonDivisor (l : Launch) (Ts : List Cond) (hTs : ∀ w, w ∈ Ts ↔ w ∈ uT) (D : va_G) (k : Nat → ClassId) (sz : Nat) (x0 : Int64) (x2 : Int64) (r : Int64) (h : fX1_commonDivisor x0 x2 = some r) : Met l yX1_commonDivisor (Cond.code yX1_commonDivisor cX1_commonDivisor 11 (some .long) :: Ts) ({ frames := 0, cells := 0, slots := 0, locals := 0 } : Room) (preM D k [.long x0, .long x2] [] sz) (postL D k r [] [] sz) 0 0 (va_A [] sz) := by
  refine Met.ofW (cc := cX1_commonDivisor) (maxL := 11) (ret := (some .long)) (by decide) rfl ?_
  intro p e s m args below meth c s₁ B hml hv
  obtain ⟨rfl, hsz, hP, hK, hD0⟩ := hv
  have hx := B.exec
  have hb := B.bytes
  have hr := B.returns
  have hts0 := atoms_spec (ws := (Cond.code yX1_commonDivisor cX1_commonDivisor 11 (some .long) :: Ts)) B.pre
  have hts : ∀ w ∈ uT, w.before _ s = true := fun w h => hts0 w (List.mem_cons_of_mem _ ((hTs w).mpr h))
  clear hts0
  have hown : s.vm.findClass RX1 = some m.cls := findClass_of_methodNamed B.named
  have hlocks := B.notSynchronized
  subst hsz
  have hD := hD0.self (sz := s.heap.size)
  generalize hAe : va_A [] s.heap.size = A at hD ⊢
  have hA : ∀ q : Nat, s.heap.size ≤ q → A q := fun q h => by rw [← hAe]; exact Or.inr h
  have hH : HOK D A s.heap [] s.heap [] := ⟨hP, hD, va_S.rf⟩
  have hl := lv_entry ([.long x0, .long x2]) (n := 11) (Nat.le_of_ble_eq_true rfl)
  rw [lg_entry_eq]
  generalize (lg_sl ([.long x0, .long x2]) ++ List.replicate (11 - (lg_sl ([.long x0, .long x2])).length) Slot.unset).toArray = ls at hl ⊢
  have hl : lv_has ls 11 [(0, .long x0), (2, .long x2)] := hl
  generalize hQ : MQ below (postL D k r [] [] s.heap.size) (List.toArray [.long x0, .long x2]) s 0 0 A = Q
  clear hP hD hD0
  suffices K : ∀ (H : Heap) (locs : List Loc), HOK D A s.heap [] H locs → W p l e ({ frames := 0, cells := 0, slots := 0, locals := 0 } : Room) s m (List.toArray [.long x0, .long x2]) below meth c H locs 0 0 Q (F0 m 0 ls []) from K s.heap [] hH
  intro H locs hH
  have L9 : ∀ (n : Nat), ∀ (kf : Int64 → Option (Int64)) (y9_4 : Int64) (y9_6 : Int64) (y9_8 : Int32), fX1_commonDivisor_L9 n kf y9_4 y9_6 y9_8 = some r → (∀ (z9_4 : Int64) (H : Heap) (locs : List Loc) (ls : Array Slot), kf z9_4 = some r → HOK D A s.heap [] H locs → lv_has ls 11 [(4, .long z9_4)] → W p l e ({ frames := 0, cells := 0, slots := 0, locals := 0 } : Room) s m (List.toArray [.long x0, .long x2]) below meth c H locs 0 0 Q (F0 m 44 ls [])) → ∀ (H : Heap) (locs : List Loc) (ls : Array Slot), HOK D A s.heap [] H locs → lv_has ls 11 [(4, .long y9_4), (6, .long y9_6), (8, .int y9_8)] → W p l e ({ frames := 0, cells := 0, slots := 0, locals := 0 } : Room) s m (List.toArray [.long x0, .long x2]) below meth c H locs 0 0 Q (F0 m 9 ls []) := by
    intro n
    induction n with
    | zero =>
      intro kf y9_4 y9_6 y9_8 h
      exact absurd h (by rw [fX1_commonDivisor_L9]; exact fun q => by cases q)
    | succ n ih =>
      intro kf y9_4 y9_6 y9_8 h kk H locs ls hH hl
      rw [fX1_commonDivisor_L9] at h
      refine lv_iload hx hb dX1_commonDivisor_9 (lv_at hl 2 rfl) ?_
      refine lv_bipush (v := 100) hx hb dX1_commonDivisor_11 (by decide) ?_
      refine lv_icmp_ge (tgt := 44) hx hb dX1_commonDivisor_13 (by decide) (fun c1 => ?_) (fun c1 => ?_)
      · replace h := dc_pos c1 h
        exact kk y9_4 H locs ls h hH (lv_sub hl [0] rfl)
      · replace h := dc_neg c1 h
        refine lv_lload hx hb dX1_commonDivisor_16 (lv_at hl 1 rfl) ?_
        refine lv_lconst (v := 0) hx hb dX1_commonDivisor_18 (by decide) ?_
        refine W.lcmp hx hb dX1_commonDivisor_19 ?_
        refine lv_if_eq (tgt := 44) hx hb dX1_commonDivisor_20 (by decide) (fun c2 => ?_) (fun c2 => ?_)
        · replace h := dc_pos c2 h
          exact kk y9_4 H locs ls h hH (lv_sub hl [0] rfl)
        · replace h := dc_neg c2 h
          refine lv_lload hx hb dX1_commonDivisor_23 (lv_at hl 0 rfl) ?_
          refine lv_lload hx hb dX1_commonDivisor_25 (lv_at hl 1 rfl) ?_
          obtain ⟨g3, h⟩ := dc_neL h
          refine lv_lrem hx hb dX1_commonDivisor_27 g3 ?_
          refine lv_lstore (lv' := [(9, .long (y9_4 - y9_4 / y9_6 * y9_6)), (4, .long y9_4), (6, .long y9_6), (8, .int y9_8)]) hx hb dX1_commonDivisor_28 hl (by decide) rfl (fun ls hl => ?_)
          refine lv_lload hx hb dX1_commonDivisor_30 (lv_at hl 2 rfl) ?_
          refine lv_lstore (lv' := [(4, .long y9_6), (9, .long (y9_4 - y9_4 / y9_6 * y9_6)), (6, .long y9_6), (8, .int y9_8)]) hx hb dX1_commonDivisor_32 hl (by decide) rfl (fun ls hl => ?_)
          refine lv_lload hx hb dX1_commonDivisor_34 (lv_at hl 1 rfl) ?_
          refine lv_lstore (lv' := [(6, .long (y9_4 - y9_4 / y9_6 * y9_6)), (4, .long y9_6), (9, .long (y9_4 - y9_4 / y9_6 * y9_6)), (8, .int y9_8)]) hx hb dX1_commonDivisor_36 hl (by decide) rfl (fun ls hl => ?_)
          refine lv_iinc (v := (y9_8 + (1 : Int32))) (lv' := [(8, .int (y9_8 + (1 : Int32))), (6, .long (y9_4 - y9_4 / y9_6 * y9_6)), (4, .long y9_6), (9, .long (y9_4 - y9_4 / y9_6 * y9_6))]) hx hb dX1_commonDivisor_38 hl (k := 3) rfl rfl (by decide) rfl (fun ls hl => ?_)
          refine lv_goto (tgt := 9) hx hb dX1_commonDivisor_41 (by decide) ?_
          exact ih kf y9_6 (y9_4 - y9_4 / y9_6 * y9_6) (y9_8 + (1 : Int32)) h kk H locs ls hH (lv_sub hl [2, 1, 0] rfl)
  rw [fX1_commonDivisor] at h
  refine lv_lload_n hx hb dX1_commonDivisor_0 rfl (lv_at hl 0 rfl) ?_
  refine lv_lstore (lv' := [(4, .long x0), (0, .long x0), (2, .long x2)]) hx hb dX1_commonDivisor_1 hl (by decide) rfl (fun ls hl => ?_)
  refine lv_lload_n hx hb dX1_commonDivisor_3 rfl (lv_at hl 2 rfl) ?_
  refine lv_lstore (lv' := [(6, .long x2), (4, .long x0), (0, .long x0), (2, .long x2)]) hx hb dX1_commonDivisor_4 hl (by decide) rfl (fun ls hl => ?_)
  refine lv_iconst (v := 0) hx hb dX1_commonDivisor_6 (by decide) ?_
  refine lv_istore (lv' := [(8, .int (0 : Int32)), (6, .long x2), (4, .long x0), (0, .long x0), (2, .long x2)]) hx hb dX1_commonDivisor_7 hl (by decide) rfl (fun ls hl => ?_)
  refine L9 _ _ x0 x2 (0 : Int32) h (fun z9_4 H locs ls h hH hl => ?_) H locs ls hH (lv_sub hl [2, 1, 0] rfl)
  refine lv_lload hx hb dX1_commonDivisor_44 (lv_at hl 0 rfl) ?_
  have h := Option.some.inj h
  subst h
  exact ge_l hx hb hr hlocks hQ hK hH hAe rfl dX1_commonDivisor_46
theorem hd_X1_become : yX1_become.cls = RX1 ∧ yX1_become.cls ≠ "java/lang/invoke/MethodHandle" ∧ yX1_become.cls ≠ "java/lang/invoke/VarHandle" ∧ (parseMethodDescriptor yX1_become.desc).map (fun d => d.parameters.length) = some 2 := by decide +kernel
set_option maxHeartbeats 4000000 in
set_option maxRecDepth 100000 in
theorem mX1_become (l : Launch) (Ts : List Cond) (hTs : ∀ w, w ∈ Ts ↔ w ∈ uT) (D : va_G) (k : Nat → ClassId) (sz : Nat) (a_t : Nat) (v_t_bottom : Value) (v_t_top : Value) (x1 : Int64) (x3 : Int64) (r : Int64 × Int64) (h : fX1_become x1 x3 = some r) : Met l yX1_become (Cond.code yX1_become cX1_become 7 none :: Ts) ({ frames := 1, cells := 0, slots := 0, locals := 30 } : Room) (preM D k [.ref a_t, .long x1, .long x3] [(a_t, .inr (1, [v_t_top, v_t_bottom]))] sz) (postV D k [(a_t, .inr (1, [v_t_top, v_t_bottom]))] [(a_t, .inr (1, [.long r.2, .long r.1]))] sz) 0 0 (va_A [(a_t, .inr (1, [v_t_top, v_t_bottom]))] sz) := by
  refine Met.ofW (cc := cX1_become) (maxL := 7) (ret := none) (by decide) rfl ?_
  intro p e s m args below meth c s₁ B hml hv
  obtain ⟨rfl, hsz, hP, hK, hD0⟩ := hv
  have hx := B.exec
  have hb := B.bytes
  have hr := B.returns
  have hts0 := atoms_spec (ws := (Cond.code yX1_become cX1_become 7 none :: Ts)) B.pre
  have hts : ∀ w ∈ uT, w.before _ s = true := fun w h => hts0 w (List.mem_cons_of_mem _ ((hTs w).mpr h))
  clear hts0
  have hown : s.vm.findClass RX1 = some m.cls := findClass_of_methodNamed B.named
  have hlocks := B.notSynchronized
  subst hsz
  have hD := hD0.self (sz := s.heap.size)
  generalize hAe : va_A [(a_t, .inr (1, [v_t_top, v_t_bottom]))] s.heap.size = A at hD ⊢
  have hA : ∀ q : Nat, s.heap.size ≤ q → A q := fun q h => by rw [← hAe]; exact Or.inr h
  have hH : HOK D A s.heap [(a_t, .inr (1, [v_t_top, v_t_bottom]))] s.heap [] := ⟨hP, hD, va_S.rf⟩
  have hl := lv_entry ([.ref a_t, .long x1, .long x3]) (n := 7) (Nat.le_of_ble_eq_true rfl)
  rw [lg_entry_eq]
  generalize (lg_sl ([.ref a_t, .long x1, .long x3]) ++ List.replicate (7 - (lg_sl ([.ref a_t, .long x1, .long x3])).length) Slot.unset).toArray = ls at hl ⊢
  have hl : lv_has ls 7 [(0, .ref a_t), (1, .long x1), (3, .long x3)] := hl
  generalize hQ : MQ below (postV D k [(a_t, .inr (1, [v_t_top, v_t_bottom]))] [(a_t, .inr (1, [.long r.2, .long r.1]))] s.heap.size) (List.toArray [.ref a_t, .long x1, .long x3]) s 0 0 A = Q
  clear hP hD hD0
  suffices K : ∀ (H : Heap) (locs : List Loc), HOK D A s.heap [(a_t, .inr (1, [v_t_top, v_t_bottom]))] H locs → W p l e ({ frames := 1, cells := 0, slots := 0, locals := 30 } : Room) s m (List.toArray [.ref a_t, .long x1, .long x3]) below meth c H locs 0 0 Q (F0 m 0 ls []) from K s.heap [] hH
  intro H locs hH
  rw [fX1_become] at h
  refine lv_lload_n hx hb dX1_become_0 rfl (lv_at hl 1 rfl) ?_
  refine lv_lload_n hx hb dX1_become_1 rfl (lv_at hl 2 rfl) ?_
  obtain ⟨q1, hqq1, h⟩ := dc_bind h
  refine gc_Sl (ws' := [(a_t, .inr (1, [v_t_top, v_t_bottom]))]) (As := [.long x1, .long x3]) (rest := []) (n := 2) hTs ⟨hx, hb, hml, hown, hts⟩ (mX1_commonDivisor l Ts hTs D k H.size x1 x3 q1 hqq1) u_ml_X1_16 u_st_X1_commonDivisor u_in_X1 u_co_X1_commonDivisor hd_X1_commonDivisor ⟨Nat.le_of_ble_eq_true rfl, Nat.le_of_ble_eq_true rfl⟩ ⟨rfl, rfl⟩ hK hH hA (cut0 (isC := []) rfl rfl rfl) rfl rfl hl.1 (Nat.le_of_ble_eq_true rfl) dX1_become_2 ⟨Nat.le_of_ble_eq_true rfl, Nat.le_of_ble_eq_true rfl⟩ (fun H locs hH => ?_)
  refine lv_lstore (lv' := [(5, .long q1), (0, .ref a_t), (1, .long x1), (3, .long x3)]) hx hb dX1_become_5 hl (by decide) rfl (fun ls hl => ?_)
  refine lv_lload_n hx hb dX1_become_7 rfl (lv_at hl 2 rfl) ?_
  refine lv_lconst (v := 0) hx hb dX1_become_8 (by decide) ?_
  refine W.lcmp hx hb dX1_become_9 ?_
  refine lv_if_eq (tgt := 26) hx hb dX1_become_10 (by decide) (fun c2 => ?_) (fun c2 => ?_)
  · replace h := dc_pos c2 h
    refine lv_aload_n hx hb dX1_become_26 rfl (lv_at hl 1 rfl) ?_
    refine lv_lconst (v := 0) hx hb dX1_become_27 (by decide) ?_
    refine gk_put (ci := 1) (C := RX1) (T := TX1) (N := 2) hx hb hts u_ws_X1 tyX1_ok nmX1 hown hK hH 0 rfl rfl 0 (by decide) u_fl_X1_7 rfl rfl rfl (Nat.le_of_ble_eq_true rfl) dX1_become_28 [(a_t, .inr (1, [.long (0 : Int64), v_t_bottom]))] rfl (fun H locs hH => ?_)
    refine lv_aload_n hx hb dX1_become_31 rfl (lv_at hl 1 rfl) ?_
    refine lv_lconst (v := 1) hx hb dX1_become_32 (by decide) ?_
    refine gk_put (ci := 1) (C := RX1) (T := TX1) (N := 2) hx hb hts u_ws_X1 tyX1_ok nmX1 hown hK hH 0 rfl rfl 1 (by decide) u_fl_X1_13 rfl rfl rfl (Nat.le_of_ble_eq_true rfl) dX1_become_33 [(a_t, .inr (1, [.long (0 : Int64), .long (1 : Int64)]))] rfl (fun H locs hH => ?_)
    have h := Option.some.inj h
    subst h
    exact ge_v hx hb hr hlocks hQ hK hH hAe dX1_become_36
  · replace h := dc_neg c2 h
    refine lv_lload_n hx hb dX1_become_13 rfl (lv_at hl 3 rfl) ?_
    refine lv_lconst (v := 0) hx hb dX1_become_14 (by decide) ?_
    refine W.lcmp hx hb dX1_become_15 ?_
    refine lv_if_eq (tgt := 26) hx hb dX1_become_16 (by decide) (fun c3 => ?_) (fun c3 => ?_)
    · replace h := dc_pos c3 h
      refine lv_aload_n hx hb dX1_become_26 rfl (lv_at hl 1 rfl) ?_
      refine lv_lconst (v := 0) hx hb dX1_become_27 (by decide) ?_
      refine gk_put (ci := 1) (C := RX1) (T := TX1) (N := 2) hx hb hts u_ws_X1 tyX1_ok nmX1 hown hK hH 0 rfl rfl 0 (by decide) u_fl_X1_7 rfl rfl rfl (Nat.le_of_ble_eq_true rfl) dX1_become_28 [(a_t, .inr (1, [.long (0 : Int64), v_t_bottom]))] rfl (fun H locs hH => ?_)
      refine lv_aload_n hx hb dX1_become_31 rfl (lv_at hl 1 rfl) ?_
      refine lv_lconst (v := 1) hx hb dX1_become_32 (by decide) ?_
      refine gk_put (ci := 1) (C := RX1) (T := TX1) (N := 2) hx hb hts u_ws_X1 tyX1_ok nmX1 hown hK hH 0 rfl rfl 1 (by decide) u_fl_X1_13 rfl rfl rfl (Nat.le_of_ble_eq_true rfl) dX1_become_33 [(a_t, .inr (1, [.long (0 : Int64), .long (1 : Int64)]))] rfl (fun H locs hH => ?_)
      have h := Option.some.inj h
      subst h
      exact ge_v hx hb hr hlocks hQ hK hH hAe dX1_become_36
    · replace h := dc_neg c3 h
      refine lv_lload hx hb dX1_become_19 (lv_at hl 0 rfl) ?_
      refine lv_lconst (v := 0) hx hb dX1_become_21 (by decide) ?_
      refine W.lcmp hx hb dX1_become_22 ?_
      refine lv_if_ne (tgt := 37) hx hb dX1_become_23 (by decide) (fun c4 => ?_) (fun c4 => ?_)
      · replace h := dc_neg c4 h
        refine lv_aload_n hx hb dX1_become_37 rfl (lv_at hl 1 rfl) ?_
        refine lv_lload_n hx hb dX1_become_38 rfl (lv_at hl 2 rfl) ?_
        refine lv_lload hx hb dX1_become_39 (lv_at hl 0 rfl) ?_
        obtain ⟨g5, h⟩ := dc_neL h
        refine lv_ldiv hx hb dX1_become_41 g5 ?_
        refine gk_put (ci := 1) (C := RX1) (T := TX1) (N := 2) hx hb hts u_ws_X1 tyX1_ok nmX1 hown hK hH 0 rfl rfl 0 (by decide) u_fl_X1_7 rfl rfl rfl (Nat.le_of_ble_eq_true rfl) dX1_become_42 [(a_t, .inr (1, [.long (x1 / q1), v_t_bottom]))] rfl (fun H locs hH => ?_)
        refine lv_aload_n hx hb dX1_become_45 rfl (lv_at hl 1 rfl) ?_
        refine lv_lload_n hx hb dX1_become_46 rfl (lv_at hl 3 rfl) ?_
        refine lv_lload hx hb dX1_become_47 (lv_at hl 0 rfl) ?_
        obtain ⟨g6, h⟩ := dc_neL h
        refine lv_ldiv hx hb dX1_become_49 g6 ?_
        refine gk_put (ci := 1) (C := RX1) (T := TX1) (N := 2) hx hb hts u_ws_X1 tyX1_ok nmX1 hown hK hH 0 rfl rfl 1 (by decide) u_fl_X1_13 rfl rfl rfl (Nat.le_of_ble_eq_true rfl) dX1_become_50 [(a_t, .inr (1, [.long (x1 / q1), .long (x3 / q1)]))] rfl (fun H locs hH => ?_)
        have h := Option.some.inj h
        subst h
        exact ge_v hx hb hr hlocks hQ hK hH hAe dX1_become_53
      · replace h := dc_pos c4 h
        refine lv_aload_n hx hb dX1_become_26 rfl (lv_at hl 1 rfl) ?_
        refine lv_lconst (v := 0) hx hb dX1_become_27 (by decide) ?_
        refine gk_put (ci := 1) (C := RX1) (T := TX1) (N := 2) hx hb hts u_ws_X1 tyX1_ok nmX1 hown hK hH 0 rfl rfl 0 (by decide) u_fl_X1_7 rfl rfl rfl (Nat.le_of_ble_eq_true rfl) dX1_become_28 [(a_t, .inr (1, [.long (0 : Int64), v_t_bottom]))] rfl (fun H locs hH => ?_)
        refine lv_aload_n hx hb dX1_become_31 rfl (lv_at hl 1 rfl) ?_
        refine lv_lconst (v := 1) hx hb dX1_become_32 (by decide) ?_
        refine gk_put (ci := 1) (C := RX1) (T := TX1) (N := 2) hx hb hts u_ws_X1 tyX1_ok nmX1 hown hK hH 0 rfl rfl 1 (by decide) u_fl_X1_13 rfl rfl rfl (Nat.le_of_ble_eq_true rfl) dX1_become_33 [(a_t, .inr (1, [.long (0 : Int64), .long (1 : Int64)]))] rfl (fun H locs hH => ?_)
        have h := Option.some.inj h
        subst h
        exact ge_v hx hb hr hlocks hQ hK hH hAe dX1_become_36
theorem hd_X6_weighCompactness : yX6_weighCompactness.cls ≠ "java/lang/invoke/MethodHandle" ∧ yX6_weighCompactness.cls ≠ "java/lang/invoke/VarHandle" ∧ (parseMethodDescriptor yX6_weighCompactness.desc).map (fun d => d.parameters.length) = some 3 := by decide +kernel
set_option maxHeartbeats 4000000 in
set_option maxRecDepth 100000 in
theorem mX6_weighCompactness (l : Launch) (Ts : List Cond) (hTs : ∀ w, w ∈ Ts ↔ w ∈ uT) (D : va_G) (k : Nat → ClassId) (sz : Nat) (a_p0 : Nat) (a_p1 : Nat) (a_p2 : Nat) (a_p0_population : Nat) (a_p0_area : Nat) (a_p0_community : Nat) (a_p0_outer : Nat) (a_p0_neighbors : Nat) (a_p0_lengths : Nat) (a_p0_plan : Nat) (a_p1_places : Nat) (a_p1_sets : Nat) (p0_area : Nat → Int32) (p0_districts : Int32) (p0_lengths : Nat → Int32) (p0_outer : Nat → Int32) (p0_units : Int32) (p1_sets : Nat → Int32) (v_p0_cores : Value) (v_p0_hasPlan : Value) (v_p0_tolerance : Value) (v_p2_bottom : Value) (v_p2_top : Value) (r : Int64 × Int64) (h : fX6_weighCompactness p0_area p0_districts p0_lengths p0_outer p0_units p1_sets = some r) : Met l yX6_weighCompactness (Cond.code yX6_weighCompactness cX6_weighCompactness 14 none :: Ts) ({ frames := 2, cells := 0, slots := 0, locals := 56 } : Room) (preM D k [.ref a_p0, .ref a_p1, .ref a_p2] [(a_p0, .inr (8, [.int p0_units, .ref a_p0_population, .ref a_p0_area, .ref a_p0_community, .ref a_p0_outer, .ref a_p0_neighbors, .ref a_p0_lengths, v_p0_cores, .int p0_districts, v_p0_tolerance, v_p0_hasPlan, .ref a_p0_plan])), (a_p1, .inr (4, [.ref a_p1_places, .ref a_p1_sets])), (a_p1_sets, .inl (k 0, 4, .inl p1_sets)), (a_p0_outer, .inl (k 0, 12, .inl p0_outer)), (a_p0_lengths, .inl (k 0, 144, .inl p0_lengths)), (a_p0_area, .inl (k 0, 12, .inl p0_area)), (a_p2, .inr (1, [v_p2_top, v_p2_bottom]))] sz) (postV D k [(a_p0, .inr (8, [.int p0_units, .ref a_p0_population, .ref a_p0_area, .ref a_p0_community, .ref a_p0_outer, .ref a_p0_neighbors, .ref a_p0_lengths, v_p0_cores, .int p0_districts, v_p0_tolerance, v_p0_hasPlan, .ref a_p0_plan])), (a_p1, .inr (4, [.ref a_p1_places, .ref a_p1_sets])), (a_p1_sets, .inl (k 0, 4, .inl p1_sets)), (a_p0_outer, .inl (k 0, 12, .inl p0_outer)), (a_p0_lengths, .inl (k 0, 144, .inl p0_lengths)), (a_p0_area, .inl (k 0, 12, .inl p0_area)), (a_p2, .inr (1, [v_p2_top, v_p2_bottom]))] [(a_p0, .inr (8, [.int p0_units, .ref a_p0_population, .ref a_p0_area, .ref a_p0_community, .ref a_p0_outer, .ref a_p0_neighbors, .ref a_p0_lengths, v_p0_cores, .int p0_districts, v_p0_tolerance, v_p0_hasPlan, .ref a_p0_plan])), (a_p1, .inr (4, [.ref a_p1_places, .ref a_p1_sets])), (a_p1_sets, .inl (k 0, 4, .inl p1_sets)), (a_p0_outer, .inl (k 0, 12, .inl p0_outer)), (a_p0_lengths, .inl (k 0, 144, .inl p0_lengths)), (a_p0_area, .inl (k 0, 12, .inl p0_area)), (a_p2, .inr (1, [.long r.2, .long r.1]))] sz) 0 0 (va_A [(a_p0, .inr (8, [.int p0_units, .ref a_p0_population, .ref a_p0_area, .ref a_p0_community, .ref a_p0_outer, .ref a_p0_neighbors, .ref a_p0_lengths, v_p0_cores, .int p0_districts, v_p0_tolerance, v_p0_hasPlan, .ref a_p0_plan])), (a_p1, .inr (4, [.ref a_p1_places, .ref a_p1_sets])), (a_p1_sets, .inl (k 0, 4, .inl p1_sets)), (a_p0_outer, .inl (k 0, 12, .inl p0_outer)), (a_p0_lengths, .inl (k 0, 144, .inl p0_lengths)), (a_p0_area, .inl (k 0, 12, .inl p0_area)), (a_p2, .inr (1, [v_p2_top, v_p2_bottom]))] sz) := by
  refine Met.ofW (cc := cX6_weighCompactness) (maxL := 14) (ret := none) (by decide) rfl ?_
  intro p e s m args below meth c s₁ B hml hv
  obtain ⟨rfl, hsz, hP, hK, hD0⟩ := hv
  have hx := B.exec
  have hb := B.bytes
  have hr := B.returns
  have hts0 := atoms_spec (ws := (Cond.code yX6_weighCompactness cX6_weighCompactness 14 none :: Ts)) B.pre
  have hts : ∀ w ∈ uT, w.before _ s = true := fun w h => hts0 w (List.mem_cons_of_mem _ ((hTs w).mpr h))
  clear hts0
  have hown : s.vm.findClass RX6 = some m.cls := findClass_of_methodNamed B.named
  have hlocks := B.notSynchronized
  subst hsz
  have hD := hD0.self (sz := s.heap.size)
  generalize hAe : va_A [(a_p0, .inr (8, [.int p0_units, .ref a_p0_population, .ref a_p0_area, .ref a_p0_community, .ref a_p0_outer, .ref a_p0_neighbors, .ref a_p0_lengths, v_p0_cores, .int p0_districts, v_p0_tolerance, v_p0_hasPlan, .ref a_p0_plan])), (a_p1, .inr (4, [.ref a_p1_places, .ref a_p1_sets])), (a_p1_sets, .inl (k 0, 4, .inl p1_sets)), (a_p0_outer, .inl (k 0, 12, .inl p0_outer)), (a_p0_lengths, .inl (k 0, 144, .inl p0_lengths)), (a_p0_area, .inl (k 0, 12, .inl p0_area)), (a_p2, .inr (1, [v_p2_top, v_p2_bottom]))] s.heap.size = A at hD ⊢
  have hA : ∀ q : Nat, s.heap.size ≤ q → A q := fun q h => by rw [← hAe]; exact Or.inr h
  have hH : HOK D A s.heap [(a_p0, .inr (8, [.int p0_units, .ref a_p0_population, .ref a_p0_area, .ref a_p0_community, .ref a_p0_outer, .ref a_p0_neighbors, .ref a_p0_lengths, v_p0_cores, .int p0_districts, v_p0_tolerance, v_p0_hasPlan, .ref a_p0_plan])), (a_p1, .inr (4, [.ref a_p1_places, .ref a_p1_sets])), (a_p1_sets, .inl (k 0, 4, .inl p1_sets)), (a_p0_outer, .inl (k 0, 12, .inl p0_outer)), (a_p0_lengths, .inl (k 0, 144, .inl p0_lengths)), (a_p0_area, .inl (k 0, 12, .inl p0_area)), (a_p2, .inr (1, [v_p2_top, v_p2_bottom]))] s.heap [] := ⟨hP, hD, va_S.rf⟩
  have hl := lv_entry ([.ref a_p0, .ref a_p1, .ref a_p2]) (n := 14) (Nat.le_of_ble_eq_true rfl)
  rw [lg_entry_eq]
  generalize (lg_sl ([.ref a_p0, .ref a_p1, .ref a_p2]) ++ List.replicate (14 - (lg_sl ([.ref a_p0, .ref a_p1, .ref a_p2])).length) Slot.unset).toArray = ls at hl ⊢
  have hl : lv_has ls 14 [(0, .ref a_p0), (1, .ref a_p1), (2, .ref a_p2)] := hl
  generalize hQ : MQ below (postV D k [(a_p0, .inr (8, [.int p0_units, .ref a_p0_population, .ref a_p0_area, .ref a_p0_community, .ref a_p0_outer, .ref a_p0_neighbors, .ref a_p0_lengths, v_p0_cores, .int p0_districts, v_p0_tolerance, v_p0_hasPlan, .ref a_p0_plan])), (a_p1, .inr (4, [.ref a_p1_places, .ref a_p1_sets])), (a_p1_sets, .inl (k 0, 4, .inl p1_sets)), (a_p0_outer, .inl (k 0, 12, .inl p0_outer)), (a_p0_lengths, .inl (k 0, 144, .inl p0_lengths)), (a_p0_area, .inl (k 0, 12, .inl p0_area)), (a_p2, .inr (1, [v_p2_top, v_p2_bottom]))] [(a_p0, .inr (8, [.int p0_units, .ref a_p0_population, .ref a_p0_area, .ref a_p0_community, .ref a_p0_outer, .ref a_p0_neighbors, .ref a_p0_lengths, v_p0_cores, .int p0_districts, v_p0_tolerance, v_p0_hasPlan, .ref a_p0_plan])), (a_p1, .inr (4, [.ref a_p1_places, .ref a_p1_sets])), (a_p1_sets, .inl (k 0, 4, .inl p1_sets)), (a_p0_outer, .inl (k 0, 12, .inl p0_outer)), (a_p0_lengths, .inl (k 0, 144, .inl p0_lengths)), (a_p0_area, .inl (k 0, 12, .inl p0_area)), (a_p2, .inr (1, [.long r.2, .long r.1]))] s.heap.size) (List.toArray [.ref a_p0, .ref a_p1, .ref a_p2]) s 0 0 A = Q
  clear hP hD hD0
  suffices K : ∀ (H : Heap) (locs : List Loc), HOK D A s.heap [(a_p0, .inr (8, [.int p0_units, .ref a_p0_population, .ref a_p0_area, .ref a_p0_community, .ref a_p0_outer, .ref a_p0_neighbors, .ref a_p0_lengths, v_p0_cores, .int p0_districts, v_p0_tolerance, v_p0_hasPlan, .ref a_p0_plan])), (a_p1, .inr (4, [.ref a_p1_places, .ref a_p1_sets])), (a_p1_sets, .inl (k 0, 4, .inl p1_sets)), (a_p0_outer, .inl (k 0, 12, .inl p0_outer)), (a_p0_lengths, .inl (k 0, 144, .inl p0_lengths)), (a_p0_area, .inl (k 0, 12, .inl p0_area)), (a_p2, .inr (1, [v_p2_top, v_p2_bottom]))] H locs → W p l e ({ frames := 2, cells := 0, slots := 0, locals := 56 } : Room) s m (List.toArray [.ref a_p0, .ref a_p1, .ref a_p2]) below meth c H locs 0 0 Q (F0 m 0 ls []) from K s.heap [] hH
  intro H locs hH
  have L8 : ∀ (n : Nat), ∀ (kf : Int64 → Int64 → Option (Int64 × Int64)) (y8_3 : Int64) (y8_5 : Int64) (y8_7 : Int32), fX6_weighCompactness_L8 p0_area p0_districts p0_lengths p0_outer p0_units p1_sets n kf y8_3 y8_5 y8_7 = some r → (∀ (z8_3 : Int64) (z8_5 : Int64) (H : Heap) (locs : List Loc) (ls : Array Slot), kf z8_3 z8_5 = some r → HOK D A s.heap [(a_p0, .inr (8, [.int p0_units, .ref a_p0_population, .ref a_p0_area, .ref a_p0_community, .ref a_p0_outer, .ref a_p0_neighbors, .ref a_p0_lengths, v_p0_cores, .int p0_districts, v_p0_tolerance, v_p0_hasPlan, .ref a_p0_plan])), (a_p1, .inr (4, [.ref a_p1_places, .ref a_p1_sets])), (a_p1_sets, .inl (k 0, 4, .inl p1_sets)), (a_p0_outer, .inl (k 0, 12, .inl p0_outer)), (a_p0_lengths, .inl (k 0, 144, .inl p0_lengths)), (a_p0_area, .inl (k 0, 12, .inl p0_area)), (a_p2, .inr (1, [v_p2_top, v_p2_bottom]))] H locs → lv_has ls 14 [(2, .ref a_p2), (3, .long z8_3), (5, .long z8_5)] → W p l e ({ frames := 2, cells := 0, slots := 0, locals := 56 } : Room) s m (List.toArray [.ref a_p0, .ref a_p1, .ref a_p2]) below meth c H locs 0 0 Q (F0 m 109 ls [])) → ∀ (H : Heap) (locs : List Loc) (ls : Array Slot), HOK D A s.heap [(a_p0, .inr (8, [.int p0_units, .ref a_p0_population, .ref a_p0_area, .ref a_p0_community, .ref a_p0_outer, .ref a_p0_neighbors, .ref a_p0_lengths, v_p0_cores, .int p0_districts, v_p0_tolerance, v_p0_hasPlan, .ref a_p0_plan])), (a_p1, .inr (4, [.ref a_p1_places, .ref a_p1_sets])), (a_p1_sets, .inl (k 0, 4, .inl p1_sets)), (a_p0_outer, .inl (k 0, 12, .inl p0_outer)), (a_p0_lengths, .inl (k 0, 144, .inl p0_lengths)), (a_p0_area, .inl (k 0, 12, .inl p0_area)), (a_p2, .inr (1, [v_p2_top, v_p2_bottom]))] H locs → lv_has ls 14 [(0, .ref a_p0), (1, .ref a_p1), (2, .ref a_p2), (3, .long y8_3), (5, .long y8_5), (7, .int y8_7)] → W p l e ({ frames := 2, cells := 0, slots := 0, locals := 56 } : Room) s m (List.toArray [.ref a_p0, .ref a_p1, .ref a_p2]) below meth c H locs 0 0 Q (F0 m 8 ls []) := by
    intro n
    induction n with
    | zero =>
      intro kf y8_3 y8_5 y8_7 h
      exact absurd h (by rw [fX6_weighCompactness_L8]; exact fun q => by cases q)
    | succ n ih =>
      intro kf y8_3 y8_5 y8_7 h kk H locs ls hH hl
      rw [fX6_weighCompactness_L8] at h
      refine lv_iload hx hb dX6_weighCompactness_8 (lv_at hl 5 rfl) ?_
      refine lv_aload_n hx hb dX6_weighCompactness_10 rfl (lv_at hl 0 rfl) ?_
      refine gk_get (ci := 8) (C := RX9) (T := TX9) (N := 12) hx hb hts u_ws_X9 hown hK hH 0 rfl rfl 8 (by decide) u_fl_X6_51 rfl dX6_weighCompactness_11 ?_
      refine lv_icmp_ge (tgt := 109) hx hb dX6_weighCompactness_14 (by decide) (fun c1 => ?_) (fun c1 => ?_)
      · replace h := dc_pos c1 h
        exact kk y8_3 y8_5 H locs ls h hH (lv_sub hl [2, 3, 4] rfl)
      · replace h := dc_neg c1 h
        refine lv_aload_n hx hb dX6_weighCompactness_17 rfl (lv_at hl 0 rfl) ?_
        refine lv_aload_n hx hb dX6_weighCompactness_18 rfl (lv_at hl 1 rfl) ?_
        refine gk_get (ci := 4) (C := RX4) (T := TX4) (N := 2) hx hb hts u_ws_X4 hown hK hH 1 rfl rfl 1 (by decide) u_fl_X6_55 rfl dX6_weighCompactness_19 ?_
        refine lv_iload hx hb dX6_weighCompactness_22 (lv_at hl 5 rfl) ?_
        obtain ⟨g2, h⟩ := dc_need h
        refine gk_iald hx hb hK hH 2 rfl (dk_in g2) dX6_weighCompactness_24 ?_
        obtain ⟨q3, hqq3, h⟩ := dc_bind h
        refine gc_Vi (ws' := [(a_p0, .inr (8, [.int p0_units, .ref a_p0_population, .ref a_p0_area, .ref a_p0_community, .ref a_p0_outer, .ref a_p0_neighbors, .ref a_p0_lengths, v_p0_cores, .int p0_districts, v_p0_tolerance, v_p0_hasPlan, .ref a_p0_plan])), (a_p1, .inr (4, [.ref a_p1_places, .ref a_p1_sets])), (a_p1_sets, .inl (k 0, 4, .inl p1_sets)), (a_p0_outer, .inl (k 0, 12, .inl p0_outer)), (a_p0_lengths, .inl (k 0, 144, .inl p0_lengths)), (a_p0_area, .inl (k 0, 12, .inl p0_area)), (a_p2, .inr (1, [v_p2_top, v_p2_bottom]))]) (As := [.int (p1_sets y8_7.toNatClampNeg)]) (rest := []) (n := 1) (ci := 8) (cq := (RX9, TX9, 12)) hTs ⟨hx, hb, hml, hown, hts⟩ (mX9_perimeterOf l Ts hTs D k H.size a_p0 a_p0_population a_p0_area a_p0_community a_p0_outer a_p0_neighbors a_p0_lengths a_p0_plan p0_lengths p0_outer p0_units v_p0_cores (.int p0_districts) v_p0_hasPlan v_p0_tolerance (p1_sets y8_7.toNatClampNeg) q3 hqq3) u_ml_X6_45 u_im_X9_perimeterOf u_se_X9_perimeterOf u_in_X9 u_co_X9_perimeterOf hd_X9_perimeterOf ⟨Nat.le_of_ble_eq_true rfl, Nat.le_of_ble_eq_true rfl⟩ ⟨rfl, rfl⟩ hK hH hA (cut0 (isC := [0, 3, 4]) rfl rfl rfl) rfl rfl rfl rfl hl.1 (Nat.le_of_ble_eq_true rfl) dX6_weighCompactness_25 ⟨Nat.le_of_ble_eq_true rfl, Nat.le_of_ble_eq_true rfl⟩ (fun H locs hH => ?_)
        refine lv_i2l (v := (Int32.toInt64 q3)) hx hb dX6_weighCompactness_28 rfl ?_
        refine lv_lstore (lv' := [(8, .long (Int32.toInt64 q3)), (0, .ref a_p0), (1, .ref a_p1), (2, .ref a_p2), (3, .long y8_3), (5, .long y8_5), (7, .int y8_7)]) hx hb dX6_weighCompactness_29 hl (by decide) rfl (fun ls hl => ?_)
        refine lv_lload hx hb dX6_weighCompactness_31 (lv_at hl 0 rfl) ?_
        refine lv_lconst (v := 0) hx hb dX6_weighCompactness_33 (by decide) ?_
        refine W.lcmp hx hb dX6_weighCompactness_34 ?_
        refine lv_if_ne (tgt := 42) hx hb dX6_weighCompactness_35 (by decide) (fun c4 => ?_) (fun c4 => ?_)
        · replace h := dc_neg c4 h
          refine lv_ldc2 hx hb hown (hts _ u_k_X6_61) dX6_weighCompactness_42 ?_
          refine lv_aload_n hx hb dX6_weighCompactness_45 rfl (lv_at hl 1 rfl) ?_
          refine lv_aload_n hx hb dX6_weighCompactness_46 rfl (lv_at hl 2 rfl) ?_
          refine gk_get (ci := 4) (C := RX4) (T := TX4) (N := 2) hx hb hts u_ws_X4 hown hK hH 1 rfl rfl 1 (by decide) u_fl_X6_55 rfl dX6_weighCompactness_47 ?_
          refine lv_iload hx hb dX6_weighCompactness_50 (lv_at hl 6 rfl) ?_
          obtain ⟨g7, h⟩ := dc_need h
          refine gk_iald hx hb hK hH 2 rfl (dk_in g7) dX6_weighCompactness_52 ?_
          obtain ⟨q8, hqq8, h⟩ := dc_bind h
          refine gc_Vi (ws' := [(a_p0, .inr (8, [.int p0_units, .ref a_p0_population, .ref a_p0_area, .ref a_p0_community, .ref a_p0_outer, .ref a_p0_neighbors, .ref a_p0_lengths, v_p0_cores, .int p0_districts, v_p0_tolerance, v_p0_hasPlan, .ref a_p0_plan])), (a_p1, .inr (4, [.ref a_p1_places, .ref a_p1_sets])), (a_p1_sets, .inl (k 0, 4, .inl p1_sets)), (a_p0_outer, .inl (k 0, 12, .inl p0_outer)), (a_p0_lengths, .inl (k 0, 144, .inl p0_lengths)), (a_p0_area, .inl (k 0, 12, .inl p0_area)), (a_p2, .inr (1, [v_p2_top, v_p2_bottom]))]) (As := [.int (p1_sets y8_7.toNatClampNeg)]) (rest := [.long (16 : Int64)]) (n := 1) (ci := 8) (cq := (RX9, TX9, 12)) hTs ⟨hx, hb, hml, hown, hts⟩ (mX9_areaOf l Ts hTs D k H.size a_p0 a_p0_population a_p0_area a_p0_community a_p0_outer a_p0_neighbors a_p0_lengths a_p0_plan p0_area p0_units v_p0_cores (.int p0_districts) v_p0_hasPlan v_p0_tolerance (p1_sets y8_7.toNatClampNeg) q8 hqq8) u_ml_X6_48 u_im_X9_areaOf u_se_X9_areaOf u_in_X9 u_co_X9_areaOf hd_X9_areaOf ⟨Nat.le_of_ble_eq_true rfl, Nat.le_of_ble_eq_true rfl⟩ ⟨rfl, rfl⟩ hK hH hA (cut0 (isC := [0, 5]) rfl rfl rfl) rfl rfl rfl rfl hl.1 (Nat.le_of_ble_eq_true rfl) dX6_weighCompactness_53 ⟨Nat.le_of_ble_eq_true rfl, Nat.le_of_ble_eq_true rfl⟩ (fun H locs hH => ?_)
          refine lv_i2l (v := (Int32.toInt64 q8)) hx hb dX6_weighCompactness_56 rfl ?_
          refine lv_lmul hx hb dX6_weighCompactness_57 ?_
          refine lv_lstore (lv' := [(10, .long ((16 : Int64) * (Int32.toInt64 q8))), (8, .long (Int32.toInt64 q3)), (0, .ref a_p0), (1, .ref a_p1), (2, .ref a_p2), (3, .long y8_3), (5, .long y8_5), (7, .int y8_7)]) hx hb dX6_weighCompactness_58 hl (by decide) rfl (fun ls hl => ?_)
          refine lv_lload hx hb dX6_weighCompactness_60 (lv_at hl 1 rfl) ?_
          refine lv_lconst (v := 0) hx hb dX6_weighCompactness_62 (by decide) ?_
          refine W.lcmp hx hb dX6_weighCompactness_63 ?_
          refine lv_if_ne (tgt := 71) hx hb dX6_weighCompactness_64 (by decide) (fun _ => ?_) (fun c => absurd c c4)
          refine lv_lload hx hb dX6_weighCompactness_71 (lv_at hl 1 rfl) ?_
          refine lv_lload hx hb dX6_weighCompactness_73 (lv_at hl 1 rfl) ?_
          refine lv_lmul hx hb dX6_weighCompactness_75 ?_
          refine lv_lstore (lv' := [(12, .long ((Int32.toInt64 q3) * (Int32.toInt64 q3))), (10, .long ((16 : Int64) * (Int32.toInt64 q8))), (8, .long (Int32.toInt64 q3)), (0, .ref a_p0), (1, .ref a_p1), (2, .ref a_p2), (3, .long y8_3), (5, .long y8_5), (7, .int y8_7)]) hx hb dX6_weighCompactness_76 hl (by decide) rfl (fun ls hl => ?_)
          refine lv_iload hx hb dX6_weighCompactness_78 (lv_at hl 8 rfl) ?_
          refine lv_if_eq (tgt := 96) hx hb dX6_weighCompactness_80 (by decide) (fun c9 => ?_) (fun c9 => ?_)
          · replace h := dc_pos c9 h
            refine lv_lload hx hb dX6_weighCompactness_96 (lv_at hl 1 rfl) ?_
            refine lv_lstore_n (lv' := [(3, .long ((16 : Int64) * (Int32.toInt64 q8))), (12, .long ((Int32.toInt64 q3) * (Int32.toInt64 q3))), (10, .long ((16 : Int64) * (Int32.toInt64 q8))), (8, .long (Int32.toInt64 q3)), (0, .ref a_p0), (1, .ref a_p1), (2, .ref a_p2), (5, .long y8_5), (7, .int y8_7)]) hx hb dX6_weighCompactness_98 rfl hl (by decide) rfl (fun ls hl => ?_)
            refine lv_lload hx hb dX6_weighCompactness_99 (lv_at hl 1 rfl) ?_
            refine lv_lstore (lv' := [(5, .long ((Int32.toInt64 q3) * (Int32.toInt64 q3))), (3, .long ((16 : Int64) * (Int32.toInt64 q8))), (12, .long ((Int32.toInt64 q3) * (Int32.toInt64 q3))), (10, .long ((16 : Int64) * (Int32.toInt64 q8))), (8, .long (Int32.toInt64 q3)), (0, .ref a_p0), (1, .ref a_p1), (2, .ref a_p2), (7, .int y8_7)]) hx hb dX6_weighCompactness_101 hl (by decide) rfl (fun ls hl => ?_)
            refine lv_iinc (v := (y8_7 + (1 : Int32))) (lv' := [(7, .int (y8_7 + (1 : Int32))), (5, .long ((Int32.toInt64 q3) * (Int32.toInt64 q3))), (3, .long ((16 : Int64) * (Int32.toInt64 q8))), (12, .long ((Int32.toInt64 q3) * (Int32.toInt64 q3))), (10, .long ((16 : Int64) * (Int32.toInt64 q8))), (8, .long (Int32.toInt64 q3)), (0, .ref a_p0), (1, .ref a_p1), (2, .ref a_p2)]) hx hb dX6_weighCompactness_103 hl (k := 8) rfl rfl (by decide) rfl (fun ls hl => ?_)
            refine lv_goto (tgt := 8) hx hb dX6_weighCompactness_106 (by decide) ?_
            exact ih kf ((16 : Int64) * (Int32.toInt64 q8)) ((Int32.toInt64 q3) * (Int32.toInt64 q3)) (y8_7 + (1 : Int32)) h kk H locs ls hH (lv_sub hl [6, 7, 8, 2, 1, 0] rfl)
          · replace h := dc_neg c9 h
            refine lv_lload hx hb dX6_weighCompactness_83 (lv_at hl 1 rfl) ?_
            refine lv_lload hx hb dX6_weighCompactness_85 (lv_at hl 7 rfl) ?_
            refine lv_lmul hx hb dX6_weighCompactness_87 ?_
            refine lv_lload_n hx hb dX6_weighCompactness_88 rfl (lv_at hl 6 rfl) ?_
            refine lv_lload hx hb dX6_weighCompactness_89 (lv_at hl 0 rfl) ?_
            refine lv_lmul hx hb dX6_weighCompactness_91 ?_
            refine W.lcmp hx hb dX6_weighCompactness_92 ?_
            refine lv_if_ge (tgt := 103) hx hb dX6_weighCompactness_93 (by decide) (fun c10 => ?_) (fun c10 => ?_)
            · replace h := dc_pos c10 h
              refine lv_iinc (v := (y8_7 + (1 : Int32))) (lv' := [(7, .int (y8_7 + (1 : Int32))), (12, .long ((Int32.toInt64 q3) * (Int32.toInt64 q3))), (10, .long ((16 : Int64) * (Int32.toInt64 q8))), (8, .long (Int32.toInt64 q3)), (0, .ref a_p0), (1, .ref a_p1), (2, .ref a_p2), (3, .long y8_3), (5, .long y8_5)]) hx hb dX6_weighCompactness_103 hl (k := 8) rfl rfl (by decide) rfl (fun ls hl => ?_)
              refine lv_goto (tgt := 8) hx hb dX6_weighCompactness_106 (by decide) ?_
              exact ih kf y8_3 y8_5 (y8_7 + (1 : Int32)) h kk H locs ls hH (lv_sub hl [4, 5, 6, 7, 8, 0] rfl)
            · replace h := dc_neg c10 h
              refine lv_lload hx hb dX6_weighCompactness_96 (lv_at hl 1 rfl) ?_
              refine lv_lstore_n (lv' := [(3, .long ((16 : Int64) * (Int32.toInt64 q8))), (12, .long ((Int32.toInt64 q3) * (Int32.toInt64 q3))), (10, .long ((16 : Int64) * (Int32.toInt64 q8))), (8, .long (Int32.toInt64 q3)), (0, .ref a_p0), (1, .ref a_p1), (2, .ref a_p2), (5, .long y8_5), (7, .int y8_7)]) hx hb dX6_weighCompactness_98 rfl hl (by decide) rfl (fun ls hl => ?_)
              refine lv_lload hx hb dX6_weighCompactness_99 (lv_at hl 1 rfl) ?_
              refine lv_lstore (lv' := [(5, .long ((Int32.toInt64 q3) * (Int32.toInt64 q3))), (3, .long ((16 : Int64) * (Int32.toInt64 q8))), (12, .long ((Int32.toInt64 q3) * (Int32.toInt64 q3))), (10, .long ((16 : Int64) * (Int32.toInt64 q8))), (8, .long (Int32.toInt64 q3)), (0, .ref a_p0), (1, .ref a_p1), (2, .ref a_p2), (7, .int y8_7)]) hx hb dX6_weighCompactness_101 hl (by decide) rfl (fun ls hl => ?_)
              refine lv_iinc (v := (y8_7 + (1 : Int32))) (lv' := [(7, .int (y8_7 + (1 : Int32))), (5, .long ((Int32.toInt64 q3) * (Int32.toInt64 q3))), (3, .long ((16 : Int64) * (Int32.toInt64 q8))), (12, .long ((Int32.toInt64 q3) * (Int32.toInt64 q3))), (10, .long ((16 : Int64) * (Int32.toInt64 q8))), (8, .long (Int32.toInt64 q3)), (0, .ref a_p0), (1, .ref a_p1), (2, .ref a_p2)]) hx hb dX6_weighCompactness_103 hl (k := 8) rfl rfl (by decide) rfl (fun ls hl => ?_)
              refine lv_goto (tgt := 8) hx hb dX6_weighCompactness_106 (by decide) ?_
              exact ih kf ((16 : Int64) * (Int32.toInt64 q8)) ((Int32.toInt64 q3) * (Int32.toInt64 q3)) (y8_7 + (1 : Int32)) h kk H locs ls hH (lv_sub hl [6, 7, 8, 2, 1, 0] rfl)
        · replace h := dc_pos c4 h
          refine lv_lconst (v := 0) hx hb dX6_weighCompactness_38 (by decide) ?_
          refine lv_goto (tgt := 58) hx hb dX6_weighCompactness_39 (by decide) ?_
          refine lv_lstore (lv' := [(10, .long (0 : Int64)), (8, .long (Int32.toInt64 q3)), (0, .ref a_p0), (1, .ref a_p1), (2, .ref a_p2), (3, .long y8_3), (5, .long y8_5), (7, .int y8_7)]) hx hb dX6_weighCompactness_58 hl (by decide) rfl (fun ls hl => ?_)
          refine lv_lload hx hb dX6_weighCompactness_60 (lv_at hl 1 rfl) ?_
          refine lv_lconst (v := 0) hx hb dX6_weighCompactness_62 (by decide) ?_
          refine W.lcmp hx hb dX6_weighCompactness_63 ?_
          refine lv_if_ne (tgt := 71) hx hb dX6_weighCompactness_64 (by decide) (fun c => absurd c4 c) (fun _ => ?_)
          refine lv_lconst (v := 1) hx hb dX6_weighCompactness_67 (by decide) ?_
          refine lv_goto (tgt := 76) hx hb dX6_weighCompactness_68 (by decide) ?_
          refine lv_lstore (lv' := [(12, .long (1 : Int64)), (10, .long (0 : Int64)), (8, .long (Int32.toInt64 q3)), (0, .ref a_p0), (1, .ref a_p1), (2, .ref a_p2), (3, .long y8_3), (5, .long y8_5), (7, .int y8_7)]) hx hb dX6_weighCompactness_76 hl (by decide) rfl (fun ls hl => ?_)
          refine lv_iload hx hb dX6_weighCompactness_78 (lv_at hl 8 rfl) ?_
          refine lv_if_eq (tgt := 96) hx hb dX6_weighCompactness_80 (by decide) (fun c5 => ?_) (fun c5 => ?_)
          · replace h := dc_pos c5 h
            refine lv_lload hx hb dX6_weighCompactness_96 (lv_at hl 1 rfl) ?_
            refine lv_lstore_n (lv' := [(3, .long (0 : Int64)), (12, .long (1 : Int64)), (10, .long (0 : Int64)), (8, .long (Int32.toInt64 q3)), (0, .ref a_p0), (1, .ref a_p1), (2, .ref a_p2), (5, .long y8_5), (7, .int y8_7)]) hx hb dX6_weighCompactness_98 rfl hl (by decide) rfl (fun ls hl => ?_)
            refine lv_lload hx hb dX6_weighCompactness_99 (lv_at hl 1 rfl) ?_
            refine lv_lstore (lv' := [(5, .long (1 : Int64)), (3, .long (0 : Int64)), (12, .long (1 : Int64)), (10, .long (0 : Int64)), (8, .long (Int32.toInt64 q3)), (0, .ref a_p0), (1, .ref a_p1), (2, .ref a_p2), (7, .int y8_7)]) hx hb dX6_weighCompactness_101 hl (by decide) rfl (fun ls hl => ?_)
            refine lv_iinc (v := (y8_7 + (1 : Int32))) (lv' := [(7, .int (y8_7 + (1 : Int32))), (5, .long (1 : Int64)), (3, .long (0 : Int64)), (12, .long (1 : Int64)), (10, .long (0 : Int64)), (8, .long (Int32.toInt64 q3)), (0, .ref a_p0), (1, .ref a_p1), (2, .ref a_p2)]) hx hb dX6_weighCompactness_103 hl (k := 8) rfl rfl (by decide) rfl (fun ls hl => ?_)
            refine lv_goto (tgt := 8) hx hb dX6_weighCompactness_106 (by decide) ?_
            exact ih kf (0 : Int64) (1 : Int64) (y8_7 + (1 : Int32)) h kk H locs ls hH (lv_sub hl [6, 7, 8, 2, 1, 0] rfl)
          · replace h := dc_neg c5 h
            refine lv_lload hx hb dX6_weighCompactness_83 (lv_at hl 1 rfl) ?_
            refine lv_lload hx hb dX6_weighCompactness_85 (lv_at hl 7 rfl) ?_
            refine lv_lmul hx hb dX6_weighCompactness_87 ?_
            refine lv_lload_n hx hb dX6_weighCompactness_88 rfl (lv_at hl 6 rfl) ?_
            refine lv_lload hx hb dX6_weighCompactness_89 (lv_at hl 0 rfl) ?_
            refine lv_lmul hx hb dX6_weighCompactness_91 ?_
            refine W.lcmp hx hb dX6_weighCompactness_92 ?_
            refine lv_if_ge (tgt := 103) hx hb dX6_weighCompactness_93 (by decide) (fun c6 => ?_) (fun c6 => ?_)
            · replace h := dc_pos c6 h
              refine lv_iinc (v := (y8_7 + (1 : Int32))) (lv' := [(7, .int (y8_7 + (1 : Int32))), (12, .long (1 : Int64)), (10, .long (0 : Int64)), (8, .long (Int32.toInt64 q3)), (0, .ref a_p0), (1, .ref a_p1), (2, .ref a_p2), (3, .long y8_3), (5, .long y8_5)]) hx hb dX6_weighCompactness_103 hl (k := 8) rfl rfl (by decide) rfl (fun ls hl => ?_)
              refine lv_goto (tgt := 8) hx hb dX6_weighCompactness_106 (by decide) ?_
              exact ih kf y8_3 y8_5 (y8_7 + (1 : Int32)) h kk H locs ls hH (lv_sub hl [4, 5, 6, 7, 8, 0] rfl)
            · replace h := dc_neg c6 h
              refine lv_lload hx hb dX6_weighCompactness_96 (lv_at hl 1 rfl) ?_
              refine lv_lstore_n (lv' := [(3, .long (0 : Int64)), (12, .long (1 : Int64)), (10, .long (0 : Int64)), (8, .long (Int32.toInt64 q3)), (0, .ref a_p0), (1, .ref a_p1), (2, .ref a_p2), (5, .long y8_5), (7, .int y8_7)]) hx hb dX6_weighCompactness_98 rfl hl (by decide) rfl (fun ls hl => ?_)
              refine lv_lload hx hb dX6_weighCompactness_99 (lv_at hl 1 rfl) ?_
              refine lv_lstore (lv' := [(5, .long (1 : Int64)), (3, .long (0 : Int64)), (12, .long (1 : Int64)), (10, .long (0 : Int64)), (8, .long (Int32.toInt64 q3)), (0, .ref a_p0), (1, .ref a_p1), (2, .ref a_p2), (7, .int y8_7)]) hx hb dX6_weighCompactness_101 hl (by decide) rfl (fun ls hl => ?_)
              refine lv_iinc (v := (y8_7 + (1 : Int32))) (lv' := [(7, .int (y8_7 + (1 : Int32))), (5, .long (1 : Int64)), (3, .long (0 : Int64)), (12, .long (1 : Int64)), (10, .long (0 : Int64)), (8, .long (Int32.toInt64 q3)), (0, .ref a_p0), (1, .ref a_p1), (2, .ref a_p2)]) hx hb dX6_weighCompactness_103 hl (k := 8) rfl rfl (by decide) rfl (fun ls hl => ?_)
              refine lv_goto (tgt := 8) hx hb dX6_weighCompactness_106 (by decide) ?_
              exact ih kf (0 : Int64) (1 : Int64) (y8_7 + (1 : Int32)) h kk H locs ls hH (lv_sub hl [6, 7, 8, 2, 1, 0] rfl)
  rw [fX6_weighCompactness] at h
  refine lv_lconst (v := 0) hx hb dX6_weighCompactness_0 (by decide) ?_
  refine lv_lstore_n (lv' := [(3, .long (0 : Int64)), (0, .ref a_p0), (1, .ref a_p1), (2, .ref a_p2)]) hx hb dX6_weighCompactness_1 rfl hl (by decide) rfl (fun ls hl => ?_)
  refine lv_lconst (v := 1) hx hb dX6_weighCompactness_2 (by decide) ?_
  refine lv_lstore (lv' := [(5, .long (1 : Int64)), (3, .long (0 : Int64)), (0, .ref a_p0), (1, .ref a_p1), (2, .ref a_p2)]) hx hb dX6_weighCompactness_3 hl (by decide) rfl (fun ls hl => ?_)
  refine lv_iconst (v := 0) hx hb dX6_weighCompactness_5 (by decide) ?_
  refine lv_istore (lv' := [(7, .int (0 : Int32)), (5, .long (1 : Int64)), (3, .long (0 : Int64)), (0, .ref a_p0), (1, .ref a_p1), (2, .ref a_p2)]) hx hb dX6_weighCompactness_6 hl (by decide) rfl (fun ls hl => ?_)
  refine L8 _ _ (0 : Int64) (1 : Int64) (0 : Int32) h (fun z8_3 z8_5 H locs ls h hH hl => ?_) H locs ls hH (lv_sub hl [3, 4, 5, 2, 1, 0] rfl)
  refine lv_aload_n hx hb dX6_weighCompactness_109 rfl (lv_at hl 0 rfl) ?_
  refine lv_lload_n hx hb dX6_weighCompactness_110 rfl (lv_at hl 1 rfl) ?_
  refine lv_lload hx hb dX6_weighCompactness_111 (lv_at hl 2 rfl) ?_
  obtain ⟨q11, hqq11, h⟩ := dc_bind h
  refine gc_Vv (ws' := [(a_p0, .inr (8, [.int p0_units, .ref a_p0_population, .ref a_p0_area, .ref a_p0_community, .ref a_p0_outer, .ref a_p0_neighbors, .ref a_p0_lengths, v_p0_cores, .int p0_districts, v_p0_tolerance, v_p0_hasPlan, .ref a_p0_plan])), (a_p1, .inr (4, [.ref a_p1_places, .ref a_p1_sets])), (a_p1_sets, .inl (k 0, 4, .inl p1_sets)), (a_p0_outer, .inl (k 0, 12, .inl p0_outer)), (a_p0_lengths, .inl (k 0, 144, .inl p0_lengths)), (a_p0_area, .inl (k 0, 12, .inl p0_area)), (a_p2, .inr (1, [.long q11.2, .long q11.1]))]) (As := [.long z8_3, .long z8_5]) (rest := []) (n := 2) (ci := 1) (cq := (RX1, TX1, 2)) hTs ⟨hx, hb, hml, hown, hts⟩ (mX1_become l Ts hTs D k H.size a_p2 v_p2_bottom v_p2_top z8_3 z8_5 q11 hqq11) u_ml_X6_19 u_im_X1_become u_se_X1_become u_in_X1 u_co_X1_become hd_X1_become ⟨Nat.le_of_ble_eq_true rfl, Nat.le_of_ble_eq_true rfl⟩ ⟨rfl, rfl⟩ hK hH hA (cutM (isC := [6]) [none, none, none, none, none, none, some 0] 7 rfl rfl rfl rfl rfl rfl rfl) rfl rfl rfl rfl hl.1 (Nat.le_of_ble_eq_true rfl) dX6_weighCompactness_113 ⟨Nat.le_of_ble_eq_true rfl, Nat.le_of_ble_eq_true rfl⟩ (fun H locs hH => ?_)
  have h := Option.some.inj h
  subst h
  exact ge_v hx hb hr hlocks hQ hK hH hAe dX6_weighCompactness_116
theorem hd_X9_lengthBetween : yX9_lengthBetween.cls = RX9 ∧ yX9_lengthBetween.cls ≠ "java/lang/invoke/MethodHandle" ∧ yX9_lengthBetween.cls ≠ "java/lang/invoke/VarHandle" ∧ (parseMethodDescriptor yX9_lengthBetween.desc).map (fun d => d.parameters.length) = some 2 := by decide +kernel
set_option maxHeartbeats 4000000 in
set_option maxRecDepth 100000 in
theorem mX9_lengthBetween (l : Launch) (Ts : List Cond) (hTs : ∀ w, w ∈ Ts ↔ w ∈ uT) (D : va_G) (k : Nat → ClassId) (sz : Nat) (a_t : Nat) (a_t_population : Nat) (a_t_area : Nat) (a_t_community : Nat) (a_t_outer : Nat) (a_t_neighbors : Nat) (a_t_lengths : Nat) (a_t_plan : Nat) (t_lengths : Nat → Int32) (v_t_cores : Value) (v_t_districts : Value) (v_t_hasPlan : Value) (v_t_tolerance : Value) (v_t_units : Value) (x1 : Int32) (x2 : Int32) (r : Int32) (h : fX9_lengthBetween t_lengths x1 x2 = some r) : Met l yX9_lengthBetween (Cond.code yX9_lengthBetween cX9_lengthBetween 3 (some .int) :: Ts) ({ frames := 0, cells := 0, slots := 0, locals := 0 } : Room) (preM D k [.ref a_t, .int x1, .int x2] [(a_t, .inr (8, [v_t_units, .ref a_t_population, .ref a_t_area, .ref a_t_community, .ref a_t_outer, .ref a_t_neighbors, .ref a_t_lengths, v_t_cores, v_t_districts, v_t_tolerance, v_t_hasPlan, .ref a_t_plan])), (a_t_lengths, .inl (k 0, 144, .inl t_lengths))] sz) (postI D k r [(a_t, .inr (8, [v_t_units, .ref a_t_population, .ref a_t_area, .ref a_t_community, .ref a_t_outer, .ref a_t_neighbors, .ref a_t_lengths, v_t_cores, v_t_districts, v_t_tolerance, v_t_hasPlan, .ref a_t_plan])), (a_t_lengths, .inl (k 0, 144, .inl t_lengths))] [(a_t, .inr (8, [v_t_units, .ref a_t_population, .ref a_t_area, .ref a_t_community, .ref a_t_outer, .ref a_t_neighbors, .ref a_t_lengths, v_t_cores, v_t_districts, v_t_tolerance, v_t_hasPlan, .ref a_t_plan])), (a_t_lengths, .inl (k 0, 144, .inl t_lengths))] sz) 0 0 (va_A [(a_t, .inr (8, [v_t_units, .ref a_t_population, .ref a_t_area, .ref a_t_community, .ref a_t_outer, .ref a_t_neighbors, .ref a_t_lengths, v_t_cores, v_t_districts, v_t_tolerance, v_t_hasPlan, .ref a_t_plan])), (a_t_lengths, .inl (k 0, 144, .inl t_lengths))] sz) := by
  refine Met.ofW (cc := cX9_lengthBetween) (maxL := 3) (ret := (some .int)) (by decide) rfl ?_
  intro p e s m args below meth c s₁ B hml hv
  obtain ⟨rfl, hsz, hP, hK, hD0⟩ := hv
  have hx := B.exec
  have hb := B.bytes
  have hr := B.returns
  have hts0 := atoms_spec (ws := (Cond.code yX9_lengthBetween cX9_lengthBetween 3 (some .int) :: Ts)) B.pre
  have hts : ∀ w ∈ uT, w.before _ s = true := fun w h => hts0 w (List.mem_cons_of_mem _ ((hTs w).mpr h))
  clear hts0
  have hown : s.vm.findClass RX9 = some m.cls := findClass_of_methodNamed B.named
  have hlocks := B.notSynchronized
  subst hsz
  have hD := hD0.self (sz := s.heap.size)
  generalize hAe : va_A [(a_t, .inr (8, [v_t_units, .ref a_t_population, .ref a_t_area, .ref a_t_community, .ref a_t_outer, .ref a_t_neighbors, .ref a_t_lengths, v_t_cores, v_t_districts, v_t_tolerance, v_t_hasPlan, .ref a_t_plan])), (a_t_lengths, .inl (k 0, 144, .inl t_lengths))] s.heap.size = A at hD ⊢
  have hA : ∀ q : Nat, s.heap.size ≤ q → A q := fun q h => by rw [← hAe]; exact Or.inr h
  have hH : HOK D A s.heap [(a_t, .inr (8, [v_t_units, .ref a_t_population, .ref a_t_area, .ref a_t_community, .ref a_t_outer, .ref a_t_neighbors, .ref a_t_lengths, v_t_cores, v_t_districts, v_t_tolerance, v_t_hasPlan, .ref a_t_plan])), (a_t_lengths, .inl (k 0, 144, .inl t_lengths))] s.heap [] := ⟨hP, hD, va_S.rf⟩
  have hl := lv_entry ([.ref a_t, .int x1, .int x2]) (n := 3) (Nat.le_of_ble_eq_true rfl)
  rw [lg_entry_eq]
  generalize (lg_sl ([.ref a_t, .int x1, .int x2]) ++ List.replicate (3 - (lg_sl ([.ref a_t, .int x1, .int x2])).length) Slot.unset).toArray = ls at hl ⊢
  have hl : lv_has ls 3 [(0, .ref a_t), (1, .int x1), (2, .int x2)] := hl
  generalize hQ : MQ below (postI D k r [(a_t, .inr (8, [v_t_units, .ref a_t_population, .ref a_t_area, .ref a_t_community, .ref a_t_outer, .ref a_t_neighbors, .ref a_t_lengths, v_t_cores, v_t_districts, v_t_tolerance, v_t_hasPlan, .ref a_t_plan])), (a_t_lengths, .inl (k 0, 144, .inl t_lengths))] [(a_t, .inr (8, [v_t_units, .ref a_t_population, .ref a_t_area, .ref a_t_community, .ref a_t_outer, .ref a_t_neighbors, .ref a_t_lengths, v_t_cores, v_t_districts, v_t_tolerance, v_t_hasPlan, .ref a_t_plan])), (a_t_lengths, .inl (k 0, 144, .inl t_lengths))] s.heap.size) (List.toArray [.ref a_t, .int x1, .int x2]) s 0 0 A = Q
  clear hP hD hD0
  suffices K : ∀ (H : Heap) (locs : List Loc), HOK D A s.heap [(a_t, .inr (8, [v_t_units, .ref a_t_population, .ref a_t_area, .ref a_t_community, .ref a_t_outer, .ref a_t_neighbors, .ref a_t_lengths, v_t_cores, v_t_districts, v_t_tolerance, v_t_hasPlan, .ref a_t_plan])), (a_t_lengths, .inl (k 0, 144, .inl t_lengths))] H locs → W p l e ({ frames := 0, cells := 0, slots := 0, locals := 0 } : Room) s m (List.toArray [.ref a_t, .int x1, .int x2]) below meth c H locs 0 0 Q (F0 m 0 ls []) from K s.heap [] hH
  intro H locs hH
  rw [fX9_lengthBetween] at h
  refine lv_aload_n hx hb dX9_lengthBetween_0 rfl (lv_at hl 0 rfl) ?_
  refine gk_get (ci := 8) (C := RX9) (T := TX9) (N := 12) hx hb hts u_ws_X9 hown hK hH 0 rfl rfl 6 (by decide) u_fl_X9_31 rfl dX9_lengthBetween_1 ?_
  refine lv_iload_n hx hb dX9_lengthBetween_4 rfl (lv_at hl 1 rfl) ?_
  refine lv_bipush (v := 12) hx hb dX9_lengthBetween_5 (by decide) ?_
  refine lv_imul hx hb dX9_lengthBetween_7 ?_
  refine lv_iload_n hx hb dX9_lengthBetween_8 rfl (lv_at hl 2 rfl) ?_
  refine lv_iadd hx hb dX9_lengthBetween_9 ?_
  obtain ⟨g1, h⟩ := dc_need h
  refine gk_iald hx hb hK hH 1 rfl (dk_in g1) dX9_lengthBetween_10 ?_
  have h := Option.some.inj h
  subst h
  exact ge_i hx hb hr hlocks hQ hK hH hAe rfl dX9_lengthBetween_11
theorem hd_X6_cutLength : yX6_cutLength.cls ≠ "java/lang/invoke/MethodHandle" ∧ yX6_cutLength.cls ≠ "java/lang/invoke/VarHandle" ∧ (parseMethodDescriptor yX6_cutLength.desc).map (fun d => d.parameters.length) = some 2 := by decide +kernel
set_option maxHeartbeats 4000000 in
set_option maxRecDepth 100000 in
theorem mX6_cutLength (l : Launch) (Ts : List Cond) (hTs : ∀ w, w ∈ Ts ↔ w ∈ uT) (D : va_G) (k : Nat → ClassId) (sz : Nat) (a_p0 : Nat) (a_p1 : Nat) (a_p0_population : Nat) (a_p0_area : Nat) (a_p0_community : Nat) (a_p0_outer : Nat) (a_p0_neighbors : Nat) (a_p0_lengths : Nat) (a_p0_plan : Nat) (a_p1_places : Nat) (a_p1_sets : Nat) (p0_lengths : Nat → Int32) (p0_units : Int32) (p1_places : Nat → Int32) (v_p0_cores : Value) (v_p0_districts : Value) (v_p0_hasPlan : Value) (v_p0_tolerance : Value) (r : Int32) (h : fX6_cutLength p0_lengths p0_units p1_places = some r) : Met l yX6_cutLength (Cond.code yX6_cutLength cX6_cutLength 5 (some .int) :: Ts) ({ frames := 1, cells := 0, slots := 0, locals := 22 } : Room) (preM D k [.ref a_p0, .ref a_p1] [(a_p0, .inr (8, [.int p0_units, .ref a_p0_population, .ref a_p0_area, .ref a_p0_community, .ref a_p0_outer, .ref a_p0_neighbors, .ref a_p0_lengths, v_p0_cores, v_p0_districts, v_p0_tolerance, v_p0_hasPlan, .ref a_p0_plan])), (a_p1, .inr (4, [.ref a_p1_places, .ref a_p1_sets])), (a_p1_places, .inl (k 0, 12, .inl p1_places)), (a_p0_lengths, .inl (k 0, 144, .inl p0_lengths))] sz) (postI D k r [(a_p0, .inr (8, [.int p0_units, .ref a_p0_population, .ref a_p0_area, .ref a_p0_community, .ref a_p0_outer, .ref a_p0_neighbors, .ref a_p0_lengths, v_p0_cores, v_p0_districts, v_p0_tolerance, v_p0_hasPlan, .ref a_p0_plan])), (a_p1, .inr (4, [.ref a_p1_places, .ref a_p1_sets])), (a_p1_places, .inl (k 0, 12, .inl p1_places)), (a_p0_lengths, .inl (k 0, 144, .inl p0_lengths))] [(a_p0, .inr (8, [.int p0_units, .ref a_p0_population, .ref a_p0_area, .ref a_p0_community, .ref a_p0_outer, .ref a_p0_neighbors, .ref a_p0_lengths, v_p0_cores, v_p0_districts, v_p0_tolerance, v_p0_hasPlan, .ref a_p0_plan])), (a_p1, .inr (4, [.ref a_p1_places, .ref a_p1_sets])), (a_p1_places, .inl (k 0, 12, .inl p1_places)), (a_p0_lengths, .inl (k 0, 144, .inl p0_lengths))] sz) 0 0 (va_A [(a_p0, .inr (8, [.int p0_units, .ref a_p0_population, .ref a_p0_area, .ref a_p0_community, .ref a_p0_outer, .ref a_p0_neighbors, .ref a_p0_lengths, v_p0_cores, v_p0_districts, v_p0_tolerance, v_p0_hasPlan, .ref a_p0_plan])), (a_p1, .inr (4, [.ref a_p1_places, .ref a_p1_sets])), (a_p1_places, .inl (k 0, 12, .inl p1_places)), (a_p0_lengths, .inl (k 0, 144, .inl p0_lengths))] sz) := by
  refine Met.ofW (cc := cX6_cutLength) (maxL := 5) (ret := (some .int)) (by decide) rfl ?_
  intro p e s m args below meth c s₁ B hml hv
  obtain ⟨rfl, hsz, hP, hK, hD0⟩ := hv
  have hx := B.exec
  have hb := B.bytes
  have hr := B.returns
  have hts0 := atoms_spec (ws := (Cond.code yX6_cutLength cX6_cutLength 5 (some .int) :: Ts)) B.pre
  have hts : ∀ w ∈ uT, w.before _ s = true := fun w h => hts0 w (List.mem_cons_of_mem _ ((hTs w).mpr h))
  clear hts0
  have hown : s.vm.findClass RX6 = some m.cls := findClass_of_methodNamed B.named
  have hlocks := B.notSynchronized
  subst hsz
  have hD := hD0.self (sz := s.heap.size)
  generalize hAe : va_A [(a_p0, .inr (8, [.int p0_units, .ref a_p0_population, .ref a_p0_area, .ref a_p0_community, .ref a_p0_outer, .ref a_p0_neighbors, .ref a_p0_lengths, v_p0_cores, v_p0_districts, v_p0_tolerance, v_p0_hasPlan, .ref a_p0_plan])), (a_p1, .inr (4, [.ref a_p1_places, .ref a_p1_sets])), (a_p1_places, .inl (k 0, 12, .inl p1_places)), (a_p0_lengths, .inl (k 0, 144, .inl p0_lengths))] s.heap.size = A at hD ⊢
  have hA : ∀ q : Nat, s.heap.size ≤ q → A q := fun q h => by rw [← hAe]; exact Or.inr h
  have hH : HOK D A s.heap [(a_p0, .inr (8, [.int p0_units, .ref a_p0_population, .ref a_p0_area, .ref a_p0_community, .ref a_p0_outer, .ref a_p0_neighbors, .ref a_p0_lengths, v_p0_cores, v_p0_districts, v_p0_tolerance, v_p0_hasPlan, .ref a_p0_plan])), (a_p1, .inr (4, [.ref a_p1_places, .ref a_p1_sets])), (a_p1_places, .inl (k 0, 12, .inl p1_places)), (a_p0_lengths, .inl (k 0, 144, .inl p0_lengths))] s.heap [] := ⟨hP, hD, va_S.rf⟩
  have hl := lv_entry ([.ref a_p0, .ref a_p1]) (n := 5) (Nat.le_of_ble_eq_true rfl)
  rw [lg_entry_eq]
  generalize (lg_sl ([.ref a_p0, .ref a_p1]) ++ List.replicate (5 - (lg_sl ([.ref a_p0, .ref a_p1])).length) Slot.unset).toArray = ls at hl ⊢
  have hl : lv_has ls 5 [(0, .ref a_p0), (1, .ref a_p1)] := hl
  generalize hQ : MQ below (postI D k r [(a_p0, .inr (8, [.int p0_units, .ref a_p0_population, .ref a_p0_area, .ref a_p0_community, .ref a_p0_outer, .ref a_p0_neighbors, .ref a_p0_lengths, v_p0_cores, v_p0_districts, v_p0_tolerance, v_p0_hasPlan, .ref a_p0_plan])), (a_p1, .inr (4, [.ref a_p1_places, .ref a_p1_sets])), (a_p1_places, .inl (k 0, 12, .inl p1_places)), (a_p0_lengths, .inl (k 0, 144, .inl p0_lengths))] [(a_p0, .inr (8, [.int p0_units, .ref a_p0_population, .ref a_p0_area, .ref a_p0_community, .ref a_p0_outer, .ref a_p0_neighbors, .ref a_p0_lengths, v_p0_cores, v_p0_districts, v_p0_tolerance, v_p0_hasPlan, .ref a_p0_plan])), (a_p1, .inr (4, [.ref a_p1_places, .ref a_p1_sets])), (a_p1_places, .inl (k 0, 12, .inl p1_places)), (a_p0_lengths, .inl (k 0, 144, .inl p0_lengths))] s.heap.size) (List.toArray [.ref a_p0, .ref a_p1]) s 0 0 A = Q
  clear hP hD hD0
  suffices K : ∀ (H : Heap) (locs : List Loc), HOK D A s.heap [(a_p0, .inr (8, [.int p0_units, .ref a_p0_population, .ref a_p0_area, .ref a_p0_community, .ref a_p0_outer, .ref a_p0_neighbors, .ref a_p0_lengths, v_p0_cores, v_p0_districts, v_p0_tolerance, v_p0_hasPlan, .ref a_p0_plan])), (a_p1, .inr (4, [.ref a_p1_places, .ref a_p1_sets])), (a_p1_places, .inl (k 0, 12, .inl p1_places)), (a_p0_lengths, .inl (k 0, 144, .inl p0_lengths))] H locs → W p l e ({ frames := 1, cells := 0, slots := 0, locals := 22 } : Room) s m (List.toArray [.ref a_p0, .ref a_p1]) below meth c H locs 0 0 Q (F0 m 0 ls []) from K s.heap [] hH
  intro H locs hH
  have L17 : ∀ (y17_3 : Int32) (n : Nat), ∀ (kf : Int32 → Option (Int32)) (y17_2 : Int32) (y17_4 : Int32), fX6_cutLength_L17 p0_lengths p0_units p1_places y17_3 n kf y17_2 y17_4 = some r → (∀ (z17_2 : Int32) (H : Heap) (locs : List Loc) (ls : Array Slot), kf z17_2 = some r → HOK D A s.heap [(a_p0, .inr (8, [.int p0_units, .ref a_p0_population, .ref a_p0_area, .ref a_p0_community, .ref a_p0_outer, .ref a_p0_neighbors, .ref a_p0_lengths, v_p0_cores, v_p0_districts, v_p0_tolerance, v_p0_hasPlan, .ref a_p0_plan])), (a_p1, .inr (4, [.ref a_p1_places, .ref a_p1_sets])), (a_p1_places, .inl (k 0, 12, .inl p1_places)), (a_p0_lengths, .inl (k 0, 144, .inl p0_lengths))] H locs → lv_has ls 5 [(0, .ref a_p0), (1, .ref a_p1), (2, .int z17_2), (3, .int y17_3)] → W p l e ({ frames := 1, cells := 0, slots := 0, locals := 22 } : Room) s m (List.toArray [.ref a_p0, .ref a_p1]) below meth c H locs 0 0 Q (F0 m 58 ls [])) → ∀ (H : Heap) (locs : List Loc) (ls : Array Slot), HOK D A s.heap [(a_p0, .inr (8, [.int p0_units, .ref a_p0_population, .ref a_p0_area, .ref a_p0_community, .ref a_p0_outer, .ref a_p0_neighbors, .ref a_p0_lengths, v_p0_cores, v_p0_districts, v_p0_tolerance, v_p0_hasPlan, .ref a_p0_plan])), (a_p1, .inr (4, [.ref a_p1_places, .ref a_p1_sets])), (a_p1_places, .inl (k 0, 12, .inl p1_places)), (a_p0_lengths, .inl (k 0, 144, .inl p0_lengths))] H locs → lv_has ls 5 [(0, .ref a_p0), (1, .ref a_p1), (2, .int y17_2), (3, .int y17_3), (4, .int y17_4)] → W p l e ({ frames := 1, cells := 0, slots := 0, locals := 22 } : Room) s m (List.toArray [.ref a_p0, .ref a_p1]) below meth c H locs 0 0 Q (F0 m 17 ls []) := by
    intro y17_3 n
    induction n with
    | zero =>
      intro kf y17_2 y17_4 h
      exact absurd h (by rw [fX6_cutLength_L17]; exact fun q => by cases q)
    | succ n ih =>
      intro kf y17_2 y17_4 h kk H locs ls hH hl
      rw [fX6_cutLength_L17] at h
      refine lv_iload hx hb dX6_cutLength_17 (lv_at hl 4 rfl) ?_
      refine lv_aload_n hx hb dX6_cutLength_19 rfl (lv_at hl 0 rfl) ?_
      refine gk_get (ci := 8) (C := RX9) (T := TX9) (N := 12) hx hb hts u_ws_X9 hown hK hH 0 rfl rfl 0 (by decide) u_fl_X6_63 rfl dX6_cutLength_20 ?_
      refine lv_icmp_ge (tgt := 58) hx hb dX6_cutLength_23 (by decide) (fun c2 => ?_) (fun c2 => ?_)
      · replace h := dc_pos c2 h
        exact kk y17_2 H locs ls h hH (lv_sub hl [0, 1, 2, 3] rfl)
      · replace h := dc_neg c2 h
        refine lv_aload_n hx hb dX6_cutLength_26 rfl (lv_at hl 1 rfl) ?_
        refine gk_get (ci := 4) (C := RX4) (T := TX4) (N := 2) hx hb hts u_ws_X4 hown hK hH 1 rfl rfl 0 (by decide) u_fl_X6_66 rfl dX6_cutLength_27 ?_
        refine lv_iload_n hx hb dX6_cutLength_30 rfl (lv_at hl 3 rfl) ?_
        obtain ⟨g3, h⟩ := dc_need h
        refine gk_iald hx hb hK hH 2 rfl (dk_in g3) dX6_cutLength_31 ?_
        refine lv_aload_n hx hb dX6_cutLength_32 rfl (lv_at hl 1 rfl) ?_
        refine gk_get (ci := 4) (C := RX4) (T := TX4) (N := 2) hx hb hts u_ws_X4 hown hK hH 1 rfl rfl 0 (by decide) u_fl_X6_66 rfl dX6_cutLength_33 ?_
        refine lv_iload hx hb dX6_cutLength_36 (lv_at hl 4 rfl) ?_
        obtain ⟨g4, h⟩ := dc_need h
        refine gk_iald hx hb hK hH 2 rfl (dk_in g4) dX6_cutLength_38 ?_
        refine lv_icmp_eq (tgt := 52) hx hb dX6_cutLength_39 (by decide) (fun c5 => ?_) (fun c5 => ?_)
        · replace h := dc_pos c5 h
          refine lv_iinc (v := (y17_4 + (1 : Int32))) (lv' := [(4, .int (y17_4 + (1 : Int32))), (0, .ref a_p0), (1, .ref a_p1), (2, .int y17_2), (3, .int y17_3)]) hx hb dX6_cutLength_52 hl (k := 4) rfl rfl (by decide) rfl (fun ls hl => ?_)
          refine lv_goto (tgt := 17) hx hb dX6_cutLength_55 (by decide) ?_
          exact ih kf y17_2 (y17_4 + (1 : Int32)) h kk H locs ls hH (lv_sub hl [1, 2, 3, 4, 0] rfl)
        · replace h := dc_neg c5 h
          refine lv_iload_n hx hb dX6_cutLength_42 rfl (lv_at hl 2 rfl) ?_
          refine lv_aload_n hx hb dX6_cutLength_43 rfl (lv_at hl 0 rfl) ?_
          refine lv_iload_n hx hb dX6_cutLength_44 rfl (lv_at hl 3 rfl) ?_
          refine lv_iload hx hb dX6_cutLength_45 (lv_at hl 4 rfl) ?_
          obtain ⟨q6, hqq6, h⟩ := dc_bind h
          refine gc_Vi (ws' := [(a_p0, .inr (8, [.int p0_units, .ref a_p0_population, .ref a_p0_area, .ref a_p0_community, .ref a_p0_outer, .ref a_p0_neighbors, .ref a_p0_lengths, v_p0_cores, v_p0_districts, v_p0_tolerance, v_p0_hasPlan, .ref a_p0_plan])), (a_p1, .inr (4, [.ref a_p1_places, .ref a_p1_sets])), (a_p1_places, .inl (k 0, 12, .inl p1_places)), (a_p0_lengths, .inl (k 0, 144, .inl p0_lengths))]) (As := [.int y17_3, .int y17_4]) (rest := [.int y17_2]) (n := 2) (ci := 8) (cq := (RX9, TX9, 12)) hTs ⟨hx, hb, hml, hown, hts⟩ (mX9_lengthBetween l Ts hTs D k H.size a_p0 a_p0_population a_p0_area a_p0_community a_p0_outer a_p0_neighbors a_p0_lengths a_p0_plan p0_lengths v_p0_cores v_p0_districts v_p0_hasPlan v_p0_tolerance (.int p0_units) y17_3 y17_4 q6 hqq6) u_ml_X6_69 u_im_X9_lengthBetween u_se_X9_lengthBetween u_in_X9 u_co_X9_lengthBetween hd_X9_lengthBetween ⟨Nat.le_of_ble_eq_true rfl, Nat.le_of_ble_eq_true rfl⟩ ⟨rfl, rfl⟩ hK hH hA (cut0 (isC := [0, 3]) rfl rfl rfl) rfl rfl rfl rfl hl.1 (Nat.le_of_ble_eq_true rfl) dX6_cutLength_47 ⟨Nat.le_of_ble_eq_true rfl, Nat.le_of_ble_eq_true rfl⟩ (fun H locs hH => ?_)
          refine lv_iadd hx hb dX6_cutLength_50 ?_
          refine lv_istore_n (lv' := [(2, .int (y17_2 + q6)), (0, .ref a_p0), (1, .ref a_p1), (3, .int y17_3), (4, .int y17_4)]) hx hb dX6_cutLength_51 rfl hl (by decide) rfl (fun ls hl => ?_)
          refine lv_iinc (v := (y17_4 + (1 : Int32))) (lv' := [(4, .int (y17_4 + (1 : Int32))), (2, .int (y17_2 + q6)), (0, .ref a_p0), (1, .ref a_p1), (3, .int y17_3)]) hx hb dX6_cutLength_52 hl (k := 4) rfl rfl (by decide) rfl (fun ls hl => ?_)
          refine lv_goto (tgt := 17) hx hb dX6_cutLength_55 (by decide) ?_
          exact ih kf (y17_2 + q6) (y17_4 + (1 : Int32)) h kk H locs ls hH (lv_sub hl [2, 3, 1, 4, 0] rfl)
  have L4 : ∀ (n : Nat), ∀ (kf : Int32 → Option (Int32)) (y4_2 : Int32) (y4_3 : Int32), fX6_cutLength_L4 p0_lengths p0_units p1_places n kf y4_2 y4_3 = some r → (∀ (z4_2 : Int32) (H : Heap) (locs : List Loc) (ls : Array Slot), kf z4_2 = some r → HOK D A s.heap [(a_p0, .inr (8, [.int p0_units, .ref a_p0_population, .ref a_p0_area, .ref a_p0_community, .ref a_p0_outer, .ref a_p0_neighbors, .ref a_p0_lengths, v_p0_cores, v_p0_districts, v_p0_tolerance, v_p0_hasPlan, .ref a_p0_plan])), (a_p1, .inr (4, [.ref a_p1_places, .ref a_p1_sets])), (a_p1_places, .inl (k 0, 12, .inl p1_places)), (a_p0_lengths, .inl (k 0, 144, .inl p0_lengths))] H locs → lv_has ls 5 [(2, .int z4_2)] → W p l e ({ frames := 1, cells := 0, slots := 0, locals := 22 } : Room) s m (List.toArray [.ref a_p0, .ref a_p1]) below meth c H locs 0 0 Q (F0 m 64 ls [])) → ∀ (H : Heap) (locs : List Loc) (ls : Array Slot), HOK D A s.heap [(a_p0, .inr (8, [.int p0_units, .ref a_p0_population, .ref a_p0_area, .ref a_p0_community, .ref a_p0_outer, .ref a_p0_neighbors, .ref a_p0_lengths, v_p0_cores, v_p0_districts, v_p0_tolerance, v_p0_hasPlan, .ref a_p0_plan])), (a_p1, .inr (4, [.ref a_p1_places, .ref a_p1_sets])), (a_p1_places, .inl (k 0, 12, .inl p1_places)), (a_p0_lengths, .inl (k 0, 144, .inl p0_lengths))] H locs → lv_has ls 5 [(0, .ref a_p0), (1, .ref a_p1), (2, .int y4_2), (3, .int y4_3)] → W p l e ({ frames := 1, cells := 0, slots := 0, locals := 22 } : Room) s m (List.toArray [.ref a_p0, .ref a_p1]) below meth c H locs 0 0 Q (F0 m 4 ls []) := by
    intro n
    induction n with
    | zero =>
      intro kf y4_2 y4_3 h
      exact absurd h (by rw [fX6_cutLength_L4]; exact fun q => by cases q)
    | succ n ih =>
      intro kf y4_2 y4_3 h kk H locs ls hH hl
      rw [fX6_cutLength_L4] at h
      refine lv_iload_n hx hb dX6_cutLength_4 rfl (lv_at hl 3 rfl) ?_
      refine lv_aload_n hx hb dX6_cutLength_5 rfl (lv_at hl 0 rfl) ?_
      refine gk_get (ci := 8) (C := RX9) (T := TX9) (N := 12) hx hb hts u_ws_X9 hown hK hH 0 rfl rfl 0 (by decide) u_fl_X6_63 rfl dX6_cutLength_6 ?_
      refine lv_icmp_ge (tgt := 64) hx hb dX6_cutLength_9 (by decide) (fun c1 => ?_) (fun c1 => ?_)
      · replace h := dc_pos c1 h
        exact kk y4_2 H locs ls h hH (lv_sub hl [2] rfl)
      · replace h := dc_neg c1 h
        refine lv_iload_n hx hb dX6_cutLength_12 rfl (lv_at hl 3 rfl) ?_
        refine lv_iconst (v := 1) hx hb dX6_cutLength_13 (by decide) ?_
        refine lv_iadd hx hb dX6_cutLength_14 ?_
        refine lv_istore (lv' := [(4, .int (y4_3 + (1 : Int32))), (0, .ref a_p0), (1, .ref a_p1), (2, .int y4_2), (3, .int y4_3)]) hx hb dX6_cutLength_15 hl (by decide) rfl (fun ls hl => ?_)
        refine L17 y4_3 _ _ y4_2 (y4_3 + (1 : Int32)) h (fun z17_2 H locs ls h hH hl => ?_) H locs ls hH (lv_sub hl [1, 2, 3, 4, 0] rfl)
        refine lv_iinc (v := (y4_3 + (1 : Int32))) (lv' := [(3, .int (y4_3 + (1 : Int32))), (0, .ref a_p0), (1, .ref a_p1), (2, .int z17_2)]) hx hb dX6_cutLength_58 hl (k := 3) rfl rfl (by decide) rfl (fun ls hl => ?_)
        refine lv_goto (tgt := 4) hx hb dX6_cutLength_61 (by decide) ?_
        exact ih kf z17_2 (y4_3 + (1 : Int32)) h kk H locs ls hH (lv_sub hl [1, 2, 3, 0] rfl)
  rw [fX6_cutLength] at h
  refine lv_iconst (v := 0) hx hb dX6_cutLength_0 (by decide) ?_
  refine lv_istore_n (lv' := [(2, .int (0 : Int32)), (0, .ref a_p0), (1, .ref a_p1)]) hx hb dX6_cutLength_1 rfl hl (by decide) rfl (fun ls hl => ?_)
  refine lv_iconst (v := 0) hx hb dX6_cutLength_2 (by decide) ?_
  refine lv_istore_n (lv' := [(3, .int (0 : Int32)), (2, .int (0 : Int32)), (0, .ref a_p0), (1, .ref a_p1)]) hx hb dX6_cutLength_3 rfl hl (by decide) rfl (fun ls hl => ?_)
  refine L4 _ _ (0 : Int32) (0 : Int32) h (fun z4_2 H locs ls h hH hl => ?_) H locs ls hH (lv_sub hl [2, 3, 1, 0] rfl)
  refine lv_iload_n hx hb dX6_cutLength_64 rfl (lv_at hl 0 rfl) ?_
  have h := Option.some.inj h
  subst h
  exact ge_i hx hb hr hlocks hQ hK hH hAe rfl dX6_cutLength_65
