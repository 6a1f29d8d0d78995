theorem hd_X11_thrown : yX11_thrown.cls = RX11 ∧ yX11_thrown.cls ≠ "java/lang/invoke/MethodHandle" ∧ yX11_thrown.cls ≠ "java/lang/invoke/VarHandle" ∧ (parseMethodDescriptor yX11_thrown.desc).map (fun d => d.parameters.length) = some 0 := by decide +kernel
set_option maxHeartbeats 4000000 in
set_option maxRecDepth 100000 in
theorem mX11_thrown (l : Launch) (Ts : List Cond) (hTs : ∀ w, w ∈ Ts ↔ w ∈ uT) (D : va_G) (k : Nat → ClassId) (sz : Nat) (a_t : Nat) (a_t_g : Nat) (a_t_ahead : Nat) (a_t_history : Nat) (a_t_saved : Nat) (a_t_tape : Nat) (a_t_numbers : Nat) (a_t_plan : Nat) (a_t_bestPlan : Nat) (a_t_sort : Nat) (a_t_size : Nat) (a_t_whole : Nat) (a_t_parts : Nat) (t_thrown : Int32) (v_t_above : Value) (v_t_at : Value) (v_t_below : Value) (v_t_bestAbove : Value) (v_t_bestBelow : Value) (v_t_detail : Value) (v_t_hasSaved : Value) (v_t_historyMany : Value) (v_t_impossibleAt : Value) (v_t_keptDetail : Value) (v_t_keptReason : Value) (v_t_letter : Value) (v_t_taped : Value) (r : Int32) (h : fX11_thrown t_thrown = some r) : Met l yX11_thrown (Cond.code yX11_thrown cX11_thrown 1 (some .int) :: Ts) ({ frames := 0, cells := 0, slots := 0, locals := 0 } : Room) (preM D k [.ref a_t] [(a_t, .inr (10, [.int t_thrown, .ref a_t_g, .ref a_t_ahead, .ref a_t_history, v_t_historyMany, .ref a_t_saved, v_t_hasSaved, .ref a_t_tape, v_t_taped, v_t_at, v_t_impossibleAt, v_t_letter, .ref a_t_numbers, .ref a_t_plan, v_t_detail, v_t_keptReason, v_t_keptDetail, v_t_above, v_t_below, v_t_bestAbove, v_t_bestBelow, .ref a_t_bestPlan, .ref a_t_sort, .ref a_t_size, .ref a_t_whole, .ref a_t_parts]))] sz) (postI D k r [(a_t, .inr (10, [.int t_thrown, .ref a_t_g, .ref a_t_ahead, .ref a_t_history, v_t_historyMany, .ref a_t_saved, v_t_hasSaved, .ref a_t_tape, v_t_taped, v_t_at, v_t_impossibleAt, v_t_letter, .ref a_t_numbers, .ref a_t_plan, v_t_detail, v_t_keptReason, v_t_keptDetail, v_t_above, v_t_below, v_t_bestAbove, v_t_bestBelow, .ref a_t_bestPlan, .ref a_t_sort, .ref a_t_size, .ref a_t_whole, .ref a_t_parts]))] [(a_t, .inr (10, [.int t_thrown, .ref a_t_g, .ref a_t_ahead, .ref a_t_history, v_t_historyMany, .ref a_t_saved, v_t_hasSaved, .ref a_t_tape, v_t_taped, v_t_at, v_t_impossibleAt, v_t_letter, .ref a_t_numbers, .ref a_t_plan, v_t_detail, v_t_keptReason, v_t_keptDetail, v_t_above, v_t_below, v_t_bestAbove, v_t_bestBelow, .ref a_t_bestPlan, .ref a_t_sort, .ref a_t_size, .ref a_t_whole, .ref a_t_parts]))] sz) 0 0 (va_A [(a_t, .inr (10, [.int t_thrown, .ref a_t_g, .ref a_t_ahead, .ref a_t_history, v_t_historyMany, .ref a_t_saved, v_t_hasSaved, .ref a_t_tape, v_t_taped, v_t_at, v_t_impossibleAt, v_t_letter, .ref a_t_numbers, .ref a_t_plan, v_t_detail, v_t_keptReason, v_t_keptDetail, v_t_above, v_t_below, v_t_bestAbove, v_t_bestBelow, .ref a_t_bestPlan, .ref a_t_sort, .ref a_t_size, .ref a_t_whole, .ref a_t_parts]))] sz) := by
  refine Met.ofW (cc := cX11_thrown) (maxL := 1) (ret := (some .int)) (by decide) rfl ?_
  intro p e s m args below meth c s₁ B hml hv
  obtain ⟨rfl, hsz, hP, hK, hD0⟩ := hv
  have hx := B.exec
  have hb := B.bytes
  have hr := B.returns
  have hts0 := atoms_spec (ws := (Cond.code yX11_thrown cX11_thrown 1 (some .int) :: Ts)) B.pre
  have hts : ∀ w ∈ uT, w.before _ s = true := fun w h => hts0 w (List.mem_cons_of_mem _ ((hTs w).mpr h))
  clear hts0
  have hown : s.vm.findClass RX11 = some m.cls := findClass_of_methodNamed B.named
  have hlocks := B.notSynchronized
  subst hsz
  have hD := hD0.self (sz := s.heap.size)
  generalize hAe : va_A [(a_t, .inr (10, [.int t_thrown, .ref a_t_g, .ref a_t_ahead, .ref a_t_history, v_t_historyMany, .ref a_t_saved, v_t_hasSaved, .ref a_t_tape, v_t_taped, v_t_at, v_t_impossibleAt, v_t_letter, .ref a_t_numbers, .ref a_t_plan, v_t_detail, v_t_keptReason, v_t_keptDetail, v_t_above, v_t_below, v_t_bestAbove, v_t_bestBelow, .ref a_t_bestPlan, .ref a_t_sort, .ref a_t_size, .ref a_t_whole, .ref a_t_parts]))] s.heap.size = A at hD ⊢
  have hA : ∀ q : Nat, s.heap.size ≤ q → A q := fun q h => by rw [← hAe]; exact Or.inr h
  have hH : HOK D A s.heap [(a_t, .inr (10, [.int t_thrown, .ref a_t_g, .ref a_t_ahead, .ref a_t_history, v_t_historyMany, .ref a_t_saved, v_t_hasSaved, .ref a_t_tape, v_t_taped, v_t_at, v_t_impossibleAt, v_t_letter, .ref a_t_numbers, .ref a_t_plan, v_t_detail, v_t_keptReason, v_t_keptDetail, v_t_above, v_t_below, v_t_bestAbove, v_t_bestBelow, .ref a_t_bestPlan, .ref a_t_sort, .ref a_t_size, .ref a_t_whole, .ref a_t_parts]))] s.heap [] := ⟨hP, hD, va_S.rf⟩
  have hl := lv_entry ([.ref a_t]) (n := 1) (Nat.le_of_ble_eq_true rfl)
  rw [lg_entry_eq]
  generalize (lg_sl ([.ref a_t]) ++ List.replicate (1 - (lg_sl ([.ref a_t])).length) Slot.unset).toArray = ls at hl ⊢
  have hl : lv_has ls 1 [(0, .ref a_t)] := hl
  generalize hQ : MQ below (postI D k r [(a_t, .inr (10, [.int t_thrown, .ref a_t_g, .ref a_t_ahead, .ref a_t_history, v_t_historyMany, .ref a_t_saved, v_t_hasSaved, .ref a_t_tape, v_t_taped, v_t_at, v_t_impossibleAt, v_t_letter, .ref a_t_numbers, .ref a_t_plan, v_t_detail, v_t_keptReason, v_t_keptDetail, v_t_above, v_t_below, v_t_bestAbove, v_t_bestBelow, .ref a_t_bestPlan, .ref a_t_sort, .ref a_t_size, .ref a_t_whole, .ref a_t_parts]))] [(a_t, .inr (10, [.int t_thrown, .ref a_t_g, .ref a_t_ahead, .ref a_t_history, v_t_historyMany, .ref a_t_saved, v_t_hasSaved, .ref a_t_tape, v_t_taped, v_t_at, v_t_impossibleAt, v_t_letter, .ref a_t_numbers, .ref a_t_plan, v_t_detail, v_t_keptReason, v_t_keptDetail, v_t_above, v_t_below, v_t_bestAbove, v_t_bestBelow, .ref a_t_bestPlan, .ref a_t_sort, .ref a_t_size, .ref a_t_whole, .ref a_t_parts]))] s.heap.size) (List.toArray [.ref a_t]) s 0 0 A = Q
  clear hP hD hD0
  suffices K : ∀ (H : Heap) (locs : List Loc), HOK D A s.heap [(a_t, .inr (10, [.int t_thrown, .ref a_t_g, .ref a_t_ahead, .ref a_t_history, v_t_historyMany, .ref a_t_saved, v_t_hasSaved, .ref a_t_tape, v_t_taped, v_t_at, v_t_impossibleAt, v_t_letter, .ref a_t_numbers, .ref a_t_plan, v_t_detail, v_t_keptReason, v_t_keptDetail, v_t_above, v_t_below, v_t_bestAbove, v_t_bestBelow, .ref a_t_bestPlan, .ref a_t_sort, .ref a_t_size, .ref a_t_whole, .ref a_t_parts]))] H locs → W p l e ({ frames := 0, cells := 0, slots := 0, locals := 0 } : Room) s m (List.toArray [.ref a_t]) below meth c H locs 0 0 Q (F0 m 0 ls []) from K s.heap [] hH
  intro H locs hH
  rw [fX11_thrown] at h
  refine lv_aload_n hx hb dX11_thrown_0 rfl (lv_at hl 0 rfl) ?_
  refine gk_get (ci := 10) (C := RX11) (T := TX11) (N := 26) hx hb hts u_ws_X11 hown hK hH 0 rfl rfl 0 (by decide) u_fl_X11_52 rfl dX11_thrown_1 ?_
  have h := Option.some.inj h
  subst h
  exact ge_i hx hb hr hlocks hQ hK hH hAe rfl dX11_thrown_4
theorem hd_X11_in : yX11_in.cls ≠ "java/lang/invoke/MethodHandle" ∧ yX11_in.cls ≠ "java/lang/invoke/VarHandle" ∧ (parseMethodDescriptor yX11_in.desc).map (fun d => d.parameters.length) = some 3 := by decide +kernel
set_option maxHeartbeats 4000000 in
set_option maxRecDepth 100000 in
theorem mX11_in (l : Launch) (Ts : List Cond) (hTs : ∀ w, w ∈ Ts ↔ w ∈ uT) (D : va_G) (k : Nat → ClassId) (sz : Nat) (x0 : Int32) (x1 : Int32) (x2 : Int32) (r : Int32) (h : fX11_in x0 x1 x2 = some r) : Met l yX11_in (Cond.code yX11_in cX11_in 3 (some .boolean) :: Ts) ({ frames := 0, cells := 0, slots := 0, locals := 0 } : Room) (preM D k [.int x0, .int x1, .int x2] [] sz) (postI D k r [] [] sz) 0 0 (va_A [] sz) := by
  refine Met.ofW (cc := cX11_in) (maxL := 3) (ret := (some .boolean)) (by decide) rfl ?_
  intro p e s m args below meth c s₁ B hml hv
  obtain ⟨rfl, hsz, hP, hK, hD0⟩ := hv
  have hx := B.exec
  have hb := B.bytes
  have hr := B.returns
  have hts0 := atoms_spec (ws := (Cond.code yX11_in cX11_in 3 (some .boolean) :: Ts)) B.pre
  have hts : ∀ w ∈ uT, w.before _ s = true := fun w h => hts0 w (List.mem_cons_of_mem _ ((hTs w).mpr h))
  clear hts0
  have hown : s.vm.findClass RX11 = some m.cls := findClass_of_methodNamed B.named
  have hlocks := B.notSynchronized
  subst hsz
  have hD := hD0.self (sz := s.heap.size)
  generalize hAe : va_A [] s.heap.size = A at hD ⊢
  have hA : ∀ q : Nat, s.heap.size ≤ q → A q := fun q h => by rw [← hAe]; exact Or.inr h
  have hH : HOK D A s.heap [] s.heap [] := ⟨hP, hD, va_S.rf⟩
  have hl := lv_entry ([.int x0, .int x1, .int x2]) (n := 3) (Nat.le_of_ble_eq_true rfl)
  rw [lg_entry_eq]
  generalize (lg_sl ([.int x0, .int x1, .int x2]) ++ List.replicate (3 - (lg_sl ([.int x0, .int x1, .int x2])).length) Slot.unset).toArray = ls at hl ⊢
  have hl : lv_has ls 3 [(0, .int x0), (1, .int x1), (2, .int x2)] := hl
  generalize hQ : MQ below (postI D k r [] [] s.heap.size) (List.toArray [.int x0, .int x1, .int x2]) s 0 0 A = Q
  clear hP hD hD0
  suffices K : ∀ (H : Heap) (locs : List Loc), HOK D A s.heap [] H locs → W p l e ({ frames := 0, cells := 0, slots := 0, locals := 0 } : Room) s m (List.toArray [.int x0, .int x1, .int x2]) below meth c H locs 0 0 Q (F0 m 0 ls []) from K s.heap [] hH
  intro H locs hH
  rw [fX11_in] at h
  refine lv_iload_n hx hb dX11_in_0 rfl (lv_at hl 0 rfl) ?_
  refine lv_iload_n hx hb dX11_in_1 rfl (lv_at hl 1 rfl) ?_
  refine lv_icmp_lt (tgt := 14) hx hb dX11_in_2 (by decide) (fun c1 => ?_) (fun c1 => ?_)
  · replace h := dc_pos c1 h
    refine lv_iconst (v := 0) hx hb dX11_in_14 (by decide) ?_
    have h := Option.some.inj h
    subst h
    exact ge_z hx hb hr rfl hlocks hQ hK hH hAe rfl dX11_in_15
  · replace h := dc_neg c1 h
    refine lv_iload_n hx hb dX11_in_5 rfl (lv_at hl 0 rfl) ?_
    refine lv_iload_n hx hb dX11_in_6 rfl (lv_at hl 2 rfl) ?_
    refine lv_icmp_gt (tgt := 14) hx hb dX11_in_7 (by decide) (fun c2 => ?_) (fun c2 => ?_)
    · replace h := dc_pos c2 h
      refine lv_iconst (v := 0) hx hb dX11_in_14 (by decide) ?_
      have h := Option.some.inj h
      subst h
      exact ge_z hx hb hr rfl hlocks hQ hK hH hAe rfl dX11_in_15
    · replace h := dc_neg c2 h
      refine lv_iconst (v := 1) hx hb dX11_in_10 (by decide) ?_
      refine lv_goto (tgt := 15) hx hb dX11_in_11 (by decide) ?_
      have h := Option.some.inj h
      subst h
      exact ge_z hx hb hr rfl hlocks hQ hK hH hAe rfl dX11_in_15
theorem hd_X11_fails : yX11_fails.cls = RX11 ∧ yX11_fails.cls ≠ "java/lang/invoke/MethodHandle" ∧ yX11_fails.cls ≠ "java/lang/invoke/VarHandle" ∧ (parseMethodDescriptor yX11_fails.desc).map (fun d => d.parameters.length) = some 1 := by decide +kernel
set_option maxHeartbeats 4000000 in
set_option maxRecDepth 100000 in
theorem mX11_fails (l : Launch) (Ts : List Cond) (hTs : ∀ w, w ∈ Ts ↔ w ∈ uT) (D : va_G) (k : Nat → ClassId) (sz : Nat) (a_t : Nat) (a_t_g : Nat) (a_t_ahead : Nat) (a_t_history : Nat) (a_t_saved : Nat) (a_t_tape : Nat) (a_t_numbers : Nat) (a_t_plan : Nat) (a_t_bestPlan : Nat) (a_t_sort : Nat) (a_t_size : Nat) (a_t_whole : Nat) (a_t_parts : Nat) (v_t_above : Value) (v_t_at : Value) (v_t_below : Value) (v_t_bestAbove : Value) (v_t_bestBelow : Value) (v_t_detail : Value) (v_t_hasSaved : Value) (v_t_historyMany : Value) (v_t_impossibleAt : Value) (v_t_keptDetail : Value) (v_t_keptReason : Value) (v_t_letter : Value) (v_t_taped : Value) (v_t_thrown : Value) (x1 : Int32) (r : Int32 × Int32) (h : fX11_fails x1 = some r) : Met l yX11_fails (Cond.code yX11_fails cX11_fails 2 (some .int) :: Ts) ({ frames := 0, cells := 0, slots := 0, locals := 0 } : Room) (preM D k [.ref a_t, .int x1] [(a_t, .inr (10, [v_t_thrown, .ref a_t_g, .ref a_t_ahead, .ref a_t_history, v_t_historyMany, .ref a_t_saved, v_t_hasSaved, .ref a_t_tape, v_t_taped, v_t_at, v_t_impossibleAt, v_t_letter, .ref a_t_numbers, .ref a_t_plan, v_t_detail, v_t_keptReason, v_t_keptDetail, v_t_above, v_t_below, v_t_bestAbove, v_t_bestBelow, .ref a_t_bestPlan, .ref a_t_sort, .ref a_t_size, .ref a_t_whole, .ref a_t_parts]))] sz) (postI D k r.1 [(a_t, .inr (10, [v_t_thrown, .ref a_t_g, .ref a_t_ahead, .ref a_t_history, v_t_historyMany, .ref a_t_saved, v_t_hasSaved, .ref a_t_tape, v_t_taped, v_t_at, v_t_impossibleAt, v_t_letter, .ref a_t_numbers, .ref a_t_plan, v_t_detail, v_t_keptReason, v_t_keptDetail, v_t_above, v_t_below, v_t_bestAbove, v_t_bestBelow, .ref a_t_bestPlan, .ref a_t_sort, .ref a_t_size, .ref a_t_whole, .ref a_t_parts]))] [(a_t, .inr (10, [.int r.2, .ref a_t_g, .ref a_t_ahead, .ref a_t_history, v_t_historyMany, .ref a_t_saved, v_t_hasSaved, .ref a_t_tape, v_t_taped, v_t_at, v_t_impossibleAt, v_t_letter, .ref a_t_numbers, .ref a_t_plan, v_t_detail, v_t_keptReason, v_t_keptDetail, v_t_above, v_t_below, v_t_bestAbove, v_t_bestBelow, .ref a_t_bestPlan, .ref a_t_sort, .ref a_t_size, .ref a_t_whole, .ref a_t_parts]))] sz) 0 0 (va_A [(a_t, .inr (10, [v_t_thrown, .ref a_t_g, .ref a_t_ahead, .ref a_t_history, v_t_historyMany, .ref a_t_saved, v_t_hasSaved, .ref a_t_tape, v_t_taped, v_t_at, v_t_impossibleAt, v_t_letter, .ref a_t_numbers, .ref a_t_plan, v_t_detail, v_t_keptReason, v_t_keptDetail, v_t_above, v_t_below, v_t_bestAbove, v_t_bestBelow, .ref a_t_bestPlan, .ref a_t_sort, .ref a_t_size, .ref a_t_whole, .ref a_t_parts]))] sz) := by
  refine Met.ofW (cc := cX11_fails) (maxL := 2) (ret := (some .int)) (by decide) rfl ?_
  intro p e s m args below meth c s₁ B hml hv
  obtain ⟨rfl, hsz, hP, hK, hD0⟩ := hv
  have hx := B.exec
  have hb := B.bytes
  have hr := B.returns
  have hts0 := atoms_spec (ws := (Cond.code yX11_fails cX11_fails 2 (some .int) :: Ts)) B.pre
  have hts : ∀ w ∈ uT, w.before _ s = true := fun w h => hts0 w (List.mem_cons_of_mem _ ((hTs w).mpr h))
  clear hts0
  have hown : s.vm.findClass RX11 = some m.cls := findClass_of_methodNamed B.named
  have hlocks := B.notSynchronized
  subst hsz
  have hD := hD0.self (sz := s.heap.size)
  generalize hAe : va_A [(a_t, .inr (10, [v_t_thrown, .ref a_t_g, .ref a_t_ahead, .ref a_t_history, v_t_historyMany, .ref a_t_saved, v_t_hasSaved, .ref a_t_tape, v_t_taped, v_t_at, v_t_impossibleAt, v_t_letter, .ref a_t_numbers, .ref a_t_plan, v_t_detail, v_t_keptReason, v_t_keptDetail, v_t_above, v_t_below, v_t_bestAbove, v_t_bestBelow, .ref a_t_bestPlan, .ref a_t_sort, .ref a_t_size, .ref a_t_whole, .ref a_t_parts]))] s.heap.size = A at hD ⊢
  have hA : ∀ q : Nat, s.heap.size ≤ q → A q := fun q h => by rw [← hAe]; exact Or.inr h
  have hH : HOK D A s.heap [(a_t, .inr (10, [v_t_thrown, .ref a_t_g, .ref a_t_ahead, .ref a_t_history, v_t_historyMany, .ref a_t_saved, v_t_hasSaved, .ref a_t_tape, v_t_taped, v_t_at, v_t_impossibleAt, v_t_letter, .ref a_t_numbers, .ref a_t_plan, v_t_detail, v_t_keptReason, v_t_keptDetail, v_t_above, v_t_below, v_t_bestAbove, v_t_bestBelow, .ref a_t_bestPlan, .ref a_t_sort, .ref a_t_size, .ref a_t_whole, .ref a_t_parts]))] s.heap [] := ⟨hP, hD, va_S.rf⟩
  have hl := lv_entry ([.ref a_t, .int x1]) (n := 2) (Nat.le_of_ble_eq_true rfl)
  rw [lg_entry_eq]
  generalize (lg_sl ([.ref a_t, .int x1]) ++ List.replicate (2 - (lg_sl ([.ref a_t, .int x1])).length) Slot.unset).toArray = ls at hl ⊢
  have hl : lv_has ls 2 [(0, .ref a_t), (1, .int x1)] := hl
  generalize hQ : MQ below (postI D k r.1 [(a_t, .inr (10, [v_t_thrown, .ref a_t_g, .ref a_t_ahead, .ref a_t_history, v_t_historyMany, .ref a_t_saved, v_t_hasSaved, .ref a_t_tape, v_t_taped, v_t_at, v_t_impossibleAt, v_t_letter, .ref a_t_numbers, .ref a_t_plan, v_t_detail, v_t_keptReason, v_t_keptDetail, v_t_above, v_t_below, v_t_bestAbove, v_t_bestBelow, .ref a_t_bestPlan, .ref a_t_sort, .ref a_t_size, .ref a_t_whole, .ref a_t_parts]))] [(a_t, .inr (10, [.int r.2, .ref a_t_g, .ref a_t_ahead, .ref a_t_history, v_t_historyMany, .ref a_t_saved, v_t_hasSaved, .ref a_t_tape, v_t_taped, v_t_at, v_t_impossibleAt, v_t_letter, .ref a_t_numbers, .ref a_t_plan, v_t_detail, v_t_keptReason, v_t_keptDetail, v_t_above, v_t_below, v_t_bestAbove, v_t_bestBelow, .ref a_t_bestPlan, .ref a_t_sort, .ref a_t_size, .ref a_t_whole, .ref a_t_parts]))] s.heap.size) (List.toArray [.ref a_t, .int x1]) s 0 0 A = Q
  clear hP hD hD0
  suffices K : ∀ (H : Heap) (locs : List Loc), HOK D A s.heap [(a_t, .inr (10, [v_t_thrown, .ref a_t_g, .ref a_t_ahead, .ref a_t_history, v_t_historyMany, .ref a_t_saved, v_t_hasSaved, .ref a_t_tape, v_t_taped, v_t_at, v_t_impossibleAt, v_t_letter, .ref a_t_numbers, .ref a_t_plan, v_t_detail, v_t_keptReason, v_t_keptDetail, v_t_above, v_t_below, v_t_bestAbove, v_t_bestBelow, .ref a_t_bestPlan, .ref a_t_sort, .ref a_t_size, .ref a_t_whole, .ref a_t_parts]))] H locs → W p l e ({ frames := 0, cells := 0, slots := 0, locals := 0 } : Room) s m (List.toArray [.ref a_t, .int x1]) below meth c H locs 0 0 Q (F0 m 0 ls []) from K s.heap [] hH
  intro H locs hH
  rw [fX11_fails] at h
  refine lv_aload_n hx hb dX11_fails_0 rfl (lv_at hl 0 rfl) ?_
  refine lv_iload_n hx hb dX11_fails_1 rfl (lv_at hl 1 rfl) ?_
  refine gk_put (ci := 10) (C := RX11) (T := TX11) (N := 26) hx hb hts u_ws_X11 tyX11_ok nmX11 hown hK hH 0 rfl rfl 0 (by decide) u_fl_X11_52 rfl rfl rfl (Nat.le_of_ble_eq_true rfl) dX11_fails_2 [(a_t, .inr (10, [.int x1, .ref a_t_g, .ref a_t_ahead, .ref a_t_history, v_t_historyMany, .ref a_t_saved, v_t_hasSaved, .ref a_t_tape, v_t_taped, v_t_at, v_t_impossibleAt, v_t_letter, .ref a_t_numbers, .ref a_t_plan, v_t_detail, v_t_keptReason, v_t_keptDetail, v_t_above, v_t_below, v_t_bestAbove, v_t_bestBelow, .ref a_t_bestPlan, .ref a_t_sort, .ref a_t_size, .ref a_t_whole, .ref a_t_parts]))] rfl (fun H locs hH => ?_)
  refine lv_iconst (v := 0) hx hb dX11_fails_5 (by decide) ?_
  have h := Option.some.inj h
  subst h
  exact ge_i hx hb hr hlocks hQ hK hH hAe rfl dX11_fails_6
theorem hd_X11_done : yX11_done.cls = RX11 ∧ yX11_done.cls ≠ "java/lang/invoke/MethodHandle" ∧ yX11_done.cls ≠ "java/lang/invoke/VarHandle" ∧ (parseMethodDescriptor yX11_done.desc).map (fun d => d.parameters.length) = some 1 := by decide +kernel
set_option maxHeartbeats 4000000 in
set_option maxRecDepth 100000 in
theorem mX11_done (l : Launch) (Ts : List Cond) (hTs : ∀ w, w ∈ Ts ↔ w ∈ uT) (D : va_G) (k : Nat → ClassId) (sz : Nat) (a_t : Nat) (a_t_g : Nat) (a_t_ahead : Nat) (a_t_history : Nat) (a_t_saved : Nat) (a_t_tape : Nat) (a_t_numbers : Nat) (a_t_plan : Nat) (a_t_bestPlan : Nat) (a_t_sort : Nat) (a_t_size : Nat) (a_t_whole : Nat) (a_t_parts : Nat) (v_t_above : Value) (v_t_at : Value) (v_t_below : Value) (v_t_bestAbove : Value) (v_t_bestBelow : Value) (v_t_detail : Value) (v_t_hasSaved : Value) (v_t_historyMany : Value) (v_t_impossibleAt : Value) (v_t_keptDetail : Value) (v_t_keptReason : Value) (v_t_letter : Value) (v_t_taped : Value) (v_t_thrown : Value) (x1 : Int32) (r : Int32 × Int32) (h : fX11_done x1 = some r) : Met l yX11_done (Cond.code yX11_done cX11_done 2 (some .int) :: Ts) ({ frames := 0, cells := 0, slots := 0, locals := 0 } : Room) (preM D k [.ref a_t, .int x1] [(a_t, .inr (10, [v_t_thrown, .ref a_t_g, .ref a_t_ahead, .ref a_t_history, v_t_historyMany, .ref a_t_saved, v_t_hasSaved, .ref a_t_tape, v_t_taped, v_t_at, v_t_impossibleAt, v_t_letter, .ref a_t_numbers, .ref a_t_plan, v_t_detail, v_t_keptReason, v_t_keptDetail, v_t_above, v_t_below, v_t_bestAbove, v_t_bestBelow, .ref a_t_bestPlan, .ref a_t_sort, .ref a_t_size, .ref a_t_whole, .ref a_t_parts]))] sz) (postI D k r.1 [(a_t, .inr (10, [v_t_thrown, .ref a_t_g, .ref a_t_ahead, .ref a_t_history, v_t_historyMany, .ref a_t_saved, v_t_hasSaved, .ref a_t_tape, v_t_taped, v_t_at, v_t_impossibleAt, v_t_letter, .ref a_t_numbers, .ref a_t_plan, v_t_detail, v_t_keptReason, v_t_keptDetail, v_t_above, v_t_below, v_t_bestAbove, v_t_bestBelow, .ref a_t_bestPlan, .ref a_t_sort, .ref a_t_size, .ref a_t_whole, .ref a_t_parts]))] [(a_t, .inr (10, [.int r.2, .ref a_t_g, .ref a_t_ahead, .ref a_t_history, v_t_historyMany, .ref a_t_saved, v_t_hasSaved, .ref a_t_tape, v_t_taped, v_t_at, v_t_impossibleAt, v_t_letter, .ref a_t_numbers, .ref a_t_plan, v_t_detail, v_t_keptReason, v_t_keptDetail, v_t_above, v_t_below, v_t_bestAbove, v_t_bestBelow, .ref a_t_bestPlan, .ref a_t_sort, .ref a_t_size, .ref a_t_whole, .ref a_t_parts]))] sz) 0 0 (va_A [(a_t, .inr (10, [v_t_thrown, .ref a_t_g, .ref a_t_ahead, .ref a_t_history, v_t_historyMany, .ref a_t_saved, v_t_hasSaved, .ref a_t_tape, v_t_taped, v_t_at, v_t_impossibleAt, v_t_letter, .ref a_t_numbers, .ref a_t_plan, v_t_detail, v_t_keptReason, v_t_keptDetail, v_t_above, v_t_below, v_t_bestAbove, v_t_bestBelow, .ref a_t_bestPlan, .ref a_t_sort, .ref a_t_size, .ref a_t_whole, .ref a_t_parts]))] sz) := by
  refine Met.ofW (cc := cX11_done) (maxL := 2) (ret := (some .int)) (by decide) rfl ?_
  intro p e s m args below meth c s₁ B hml hv
  obtain ⟨rfl, hsz, hP, hK, hD0⟩ := hv
  have hx := B.exec
  have hb := B.bytes
  have hr := B.returns
  have hts0 := atoms_spec (ws := (Cond.code yX11_done cX11_done 2 (some .int) :: Ts)) B.pre
  have hts : ∀ w ∈ uT, w.before _ s = true := fun w h => hts0 w (List.mem_cons_of_mem _ ((hTs w).mpr h))
  clear hts0
  have hown : s.vm.findClass RX11 = some m.cls := findClass_of_methodNamed B.named
  have hlocks := B.notSynchronized
  subst hsz
  have hD := hD0.self (sz := s.heap.size)
  generalize hAe : va_A [(a_t, .inr (10, [v_t_thrown, .ref a_t_g, .ref a_t_ahead, .ref a_t_history, v_t_historyMany, .ref a_t_saved, v_t_hasSaved, .ref a_t_tape, v_t_taped, v_t_at, v_t_impossibleAt, v_t_letter, .ref a_t_numbers, .ref a_t_plan, v_t_detail, v_t_keptReason, v_t_keptDetail, v_t_above, v_t_below, v_t_bestAbove, v_t_bestBelow, .ref a_t_bestPlan, .ref a_t_sort, .ref a_t_size, .ref a_t_whole, .ref a_t_parts]))] s.heap.size = A at hD ⊢
  have hA : ∀ q : Nat, s.heap.size ≤ q → A q := fun q h => by rw [← hAe]; exact Or.inr h
  have hH : HOK D A s.heap [(a_t, .inr (10, [v_t_thrown, .ref a_t_g, .ref a_t_ahead, .ref a_t_history, v_t_historyMany, .ref a_t_saved, v_t_hasSaved, .ref a_t_tape, v_t_taped, v_t_at, v_t_impossibleAt, v_t_letter, .ref a_t_numbers, .ref a_t_plan, v_t_detail, v_t_keptReason, v_t_keptDetail, v_t_above, v_t_below, v_t_bestAbove, v_t_bestBelow, .ref a_t_bestPlan, .ref a_t_sort, .ref a_t_size, .ref a_t_whole, .ref a_t_parts]))] s.heap [] := ⟨hP, hD, va_S.rf⟩
  have hl := lv_entry ([.ref a_t, .int x1]) (n := 2) (Nat.le_of_ble_eq_true rfl)
  rw [lg_entry_eq]
  generalize (lg_sl ([.ref a_t, .int x1]) ++ List.replicate (2 - (lg_sl ([.ref a_t, .int x1])).length) Slot.unset).toArray = ls at hl ⊢
  have hl : lv_has ls 2 [(0, .ref a_t), (1, .int x1)] := hl
  generalize hQ : MQ below (postI D k r.1 [(a_t, .inr (10, [v_t_thrown, .ref a_t_g, .ref a_t_ahead, .ref a_t_history, v_t_historyMany, .ref a_t_saved, v_t_hasSaved, .ref a_t_tape, v_t_taped, v_t_at, v_t_impossibleAt, v_t_letter, .ref a_t_numbers, .ref a_t_plan, v_t_detail, v_t_keptReason, v_t_keptDetail, v_t_above, v_t_below, v_t_bestAbove, v_t_bestBelow, .ref a_t_bestPlan, .ref a_t_sort, .ref a_t_size, .ref a_t_whole, .ref a_t_parts]))] [(a_t, .inr (10, [.int r.2, .ref a_t_g, .ref a_t_ahead, .ref a_t_history, v_t_historyMany, .ref a_t_saved, v_t_hasSaved, .ref a_t_tape, v_t_taped, v_t_at, v_t_impossibleAt, v_t_letter, .ref a_t_numbers, .ref a_t_plan, v_t_detail, v_t_keptReason, v_t_keptDetail, v_t_above, v_t_below, v_t_bestAbove, v_t_bestBelow, .ref a_t_bestPlan, .ref a_t_sort, .ref a_t_size, .ref a_t_whole, .ref a_t_parts]))] s.heap.size) (List.toArray [.ref a_t, .int x1]) s 0 0 A = Q
  clear hP hD hD0
  suffices K : ∀ (H : Heap) (locs : List Loc), HOK D A s.heap [(a_t, .inr (10, [v_t_thrown, .ref a_t_g, .ref a_t_ahead, .ref a_t_history, v_t_historyMany, .ref a_t_saved, v_t_hasSaved, .ref a_t_tape, v_t_taped, v_t_at, v_t_impossibleAt, v_t_letter, .ref a_t_numbers, .ref a_t_plan, v_t_detail, v_t_keptReason, v_t_keptDetail, v_t_above, v_t_below, v_t_bestAbove, v_t_bestBelow, .ref a_t_bestPlan, .ref a_t_sort, .ref a_t_size, .ref a_t_whole, .ref a_t_parts]))] H locs → W p l e ({ frames := 0, cells := 0, slots := 0, locals := 0 } : Room) s m (List.toArray [.ref a_t, .int x1]) below meth c H locs 0 0 Q (F0 m 0 ls []) from K s.heap [] hH
  intro H locs hH
  rw [fX11_done] at h
  refine lv_aload_n hx hb dX11_done_0 rfl (lv_at hl 0 rfl) ?_
  refine lv_iconst (v := 0) hx hb dX11_done_1 (by decide) ?_
  refine gk_put (ci := 10) (C := RX11) (T := TX11) (N := 26) hx hb hts u_ws_X11 tyX11_ok nmX11 hown hK hH 0 rfl rfl 0 (by decide) u_fl_X11_52 rfl rfl rfl (Nat.le_of_ble_eq_true rfl) dX11_done_2 [(a_t, .inr (10, [.int (0 : Int32), .ref a_t_g, .ref a_t_ahead, .ref a_t_history, v_t_historyMany, .ref a_t_saved, v_t_hasSaved, .ref a_t_tape, v_t_taped, v_t_at, v_t_impossibleAt, v_t_letter, .ref a_t_numbers, .ref a_t_plan, v_t_detail, v_t_keptReason, v_t_keptDetail, v_t_above, v_t_below, v_t_bestAbove, v_t_bestBelow, .ref a_t_bestPlan, .ref a_t_sort, .ref a_t_size, .ref a_t_whole, .ref a_t_parts]))] rfl (fun H locs hH => ?_)
  refine lv_iload_n hx hb dX11_done_5 rfl (lv_at hl 1 rfl) ?_
  have h := Option.some.inj h
  subst h
  exact ge_i hx hb hr hlocks hQ hK hH hAe rfl dX11_done_6
theorem hd_X11_isUnit : yX11_isUnit.cls = RX11 ∧ yX11_isUnit.cls ≠ "java/lang/invoke/MethodHandle" ∧ yX11_isUnit.cls ≠ "java/lang/invoke/VarHandle" ∧ (parseMethodDescriptor yX11_isUnit.desc).map (fun d => d.parameters.length) = some 1 := by decide +kernel
set_option maxHeartbeats 4000000 in
set_option maxRecDepth 100000 in
theorem mX11_isUnit (l : Launch) (Ts : List Cond) (hTs : ∀ w, w ∈ Ts ↔ w ∈ uT) (D : va_G) (k : Nat → ClassId) (sz : Nat) (a_t : Nat) (a_t_g : Nat) (a_t_ahead : Nat) (a_t_history : Nat) (a_t_saved : Nat) (a_t_tape : Nat) (a_t_numbers : Nat) (a_t_plan : Nat) (a_t_bestPlan : Nat) (a_t_sort : Nat) (a_t_size : Nat) (a_t_whole : Nat) (a_t_parts : Nat) (t_g : Nat → Int32) (v_t_above : Value) (v_t_at : Value) (v_t_below : Value) (v_t_bestAbove : Value) (v_t_bestBelow : Value) (v_t_detail : Value) (v_t_hasSaved : Value) (v_t_historyMany : Value) (v_t_impossibleAt : Value) (v_t_keptDetail : Value) (v_t_keptReason : Value) (v_t_letter : Value) (v_t_taped : Value) (v_t_thrown : Value) (x1 : Int32) (r : Int32) (h : fX11_isUnit t_g x1 = some r) : Met l yX11_isUnit (Cond.code yX11_isUnit cX11_isUnit 2 (some .boolean) :: Ts) ({ frames := 1, cells := 0, slots := 0, locals := 22 } : Room) (preM D k [.ref a_t, .int x1] [(a_t, .inr (10, [v_t_thrown, .ref a_t_g, .ref a_t_ahead, .ref a_t_history, v_t_historyMany, .ref a_t_saved, v_t_hasSaved, .ref a_t_tape, v_t_taped, v_t_at, v_t_impossibleAt, v_t_letter, .ref a_t_numbers, .ref a_t_plan, v_t_detail, v_t_keptReason, v_t_keptDetail, v_t_above, v_t_below, v_t_bestAbove, v_t_bestBelow, .ref a_t_bestPlan, .ref a_t_sort, .ref a_t_size, .ref a_t_whole, .ref a_t_parts])), (a_t_g, .inl (k 0, 221, .inl t_g))] sz) (postI D k r [(a_t, .inr (10, [v_t_thrown, .ref a_t_g, .ref a_t_ahead, .ref a_t_history, v_t_historyMany, .ref a_t_saved, v_t_hasSaved, .ref a_t_tape, v_t_taped, v_t_at, v_t_impossibleAt, v_t_letter, .ref a_t_numbers, .ref a_t_plan, v_t_detail, v_t_keptReason, v_t_keptDetail, v_t_above, v_t_below, v_t_bestAbove, v_t_bestBelow, .ref a_t_bestPlan, .ref a_t_sort, .ref a_t_size, .ref a_t_whole, .ref a_t_parts])), (a_t_g, .inl (k 0, 221, .inl t_g))] [(a_t, .inr (10, [v_t_thrown, .ref a_t_g, .ref a_t_ahead, .ref a_t_history, v_t_historyMany, .ref a_t_saved, v_t_hasSaved, .ref a_t_tape, v_t_taped, v_t_at, v_t_impossibleAt, v_t_letter, .ref a_t_numbers, .ref a_t_plan, v_t_detail, v_t_keptReason, v_t_keptDetail, v_t_above, v_t_below, v_t_bestAbove, v_t_bestBelow, .ref a_t_bestPlan, .ref a_t_sort, .ref a_t_size, .ref a_t_whole, .ref a_t_parts])), (a_t_g, .inl (k 0, 221, .inl t_g))] sz) 0 0 (va_A [(a_t, .inr (10, [v_t_thrown, .ref a_t_g, .ref a_t_ahead, .ref a_t_history, v_t_historyMany, .ref a_t_saved, v_t_hasSaved, .ref a_t_tape, v_t_taped, v_t_at, v_t_impossibleAt, v_t_letter, .ref a_t_numbers, .ref a_t_plan, v_t_detail, v_t_keptReason, v_t_keptDetail, v_t_above, v_t_below, v_t_bestAbove, v_t_bestBelow, .ref a_t_bestPlan, .ref a_t_sort, .ref a_t_size, .ref a_t_whole, .ref a_t_parts])), (a_t_g, .inl (k 0, 221, .inl t_g))] sz) := by
  refine Met.ofW (cc := cX11_isUnit) (maxL := 2) (ret := (some .boolean)) (by decide) rfl ?_
  intro p e s m args below meth c s₁ B hml hv
  obtain ⟨rfl, hsz, hP, hK, hD0⟩ := hv
  have hx := B.exec
  have hb := B.bytes
  have hr := B.returns
  have hts0 := atoms_spec (ws := (Cond.code yX11_isUnit cX11_isUnit 2 (some .boolean) :: Ts)) B.pre
  have hts : ∀ w ∈ uT, w.before _ s = true := fun w h => hts0 w (List.mem_cons_of_mem _ ((hTs w).mpr h))
  clear hts0
  have hown : s.vm.findClass RX11 = some m.cls := findClass_of_methodNamed B.named
  have hlocks := B.notSynchronized
  subst hsz
  have hD := hD0.self (sz := s.heap.size)
  generalize hAe : va_A [(a_t, .inr (10, [v_t_thrown, .ref a_t_g, .ref a_t_ahead, .ref a_t_history, v_t_historyMany, .ref a_t_saved, v_t_hasSaved, .ref a_t_tape, v_t_taped, v_t_at, v_t_impossibleAt, v_t_letter, .ref a_t_numbers, .ref a_t_plan, v_t_detail, v_t_keptReason, v_t_keptDetail, v_t_above, v_t_below, v_t_bestAbove, v_t_bestBelow, .ref a_t_bestPlan, .ref a_t_sort, .ref a_t_size, .ref a_t_whole, .ref a_t_parts])), (a_t_g, .inl (k 0, 221, .inl t_g))] s.heap.size = A at hD ⊢
  have hA : ∀ q : Nat, s.heap.size ≤ q → A q := fun q h => by rw [← hAe]; exact Or.inr h
  have hH : HOK D A s.heap [(a_t, .inr (10, [v_t_thrown, .ref a_t_g, .ref a_t_ahead, .ref a_t_history, v_t_historyMany, .ref a_t_saved, v_t_hasSaved, .ref a_t_tape, v_t_taped, v_t_at, v_t_impossibleAt, v_t_letter, .ref a_t_numbers, .ref a_t_plan, v_t_detail, v_t_keptReason, v_t_keptDetail, v_t_above, v_t_below, v_t_bestAbove, v_t_bestBelow, .ref a_t_bestPlan, .ref a_t_sort, .ref a_t_size, .ref a_t_whole, .ref a_t_parts])), (a_t_g, .inl (k 0, 221, .inl t_g))] s.heap [] := ⟨hP, hD, va_S.rf⟩
  have hl := lv_entry ([.ref a_t, .int x1]) (n := 2) (Nat.le_of_ble_eq_true rfl)
  rw [lg_entry_eq]
  generalize (lg_sl ([.ref a_t, .int x1]) ++ List.replicate (2 - (lg_sl ([.ref a_t, .int x1])).length) Slot.unset).toArray = ls at hl ⊢
  have hl : lv_has ls 2 [(0, .ref a_t), (1, .int x1)] := hl
  generalize hQ : MQ below (postI D k r [(a_t, .inr (10, [v_t_thrown, .ref a_t_g, .ref a_t_ahead, .ref a_t_history, v_t_historyMany, .ref a_t_saved, v_t_hasSaved, .ref a_t_tape, v_t_taped, v_t_at, v_t_impossibleAt, v_t_letter, .ref a_t_numbers, .ref a_t_plan, v_t_detail, v_t_keptReason, v_t_keptDetail, v_t_above, v_t_below, v_t_bestAbove, v_t_bestBelow, .ref a_t_bestPlan, .ref a_t_sort, .ref a_t_size, .ref a_t_whole, .ref a_t_parts])), (a_t_g, .inl (k 0, 221, .inl t_g))] [(a_t, .inr (10, [v_t_thrown, .ref a_t_g, .ref a_t_ahead, .ref a_t_history, v_t_historyMany, .ref a_t_saved, v_t_hasSaved, .ref a_t_tape, v_t_taped, v_t_at, v_t_impossibleAt, v_t_letter, .ref a_t_numbers, .ref a_t_plan, v_t_detail, v_t_keptReason, v_t_keptDetail, v_t_above, v_t_below, v_t_bestAbove, v_t_bestBelow, .ref a_t_bestPlan, .ref a_t_sort, .ref a_t_size, .ref a_t_whole, .ref a_t_parts])), (a_t_g, .inl (k 0, 221, .inl t_g))] s.heap.size) (List.toArray [.ref a_t, .int x1]) s 0 0 A = Q
  clear hP hD hD0
  suffices K : ∀ (H : Heap) (locs : List Loc), HOK D A s.heap [(a_t, .inr (10, [v_t_thrown, .ref a_t_g, .ref a_t_ahead, .ref a_t_history, v_t_historyMany, .ref a_t_saved, v_t_hasSaved, .ref a_t_tape, v_t_taped, v_t_at, v_t_impossibleAt, v_t_letter, .ref a_t_numbers, .ref a_t_plan, v_t_detail, v_t_keptReason, v_t_keptDetail, v_t_above, v_t_below, v_t_bestAbove, v_t_bestBelow, .ref a_t_bestPlan, .ref a_t_sort, .ref a_t_size, .ref a_t_whole, .ref a_t_parts])), (a_t_g, .inl (k 0, 221, .inl t_g))] H locs → W p l e ({ frames := 1, cells := 0, slots := 0, locals := 22 } : Room) s m (List.toArray [.ref a_t, .int x1]) below meth c H locs 0 0 Q (F0 m 0 ls []) from K s.heap [] hH
  intro H locs hH
  rw [fX11_isUnit] at h
  refine lv_iload_n hx hb dX11_isUnit_0 rfl (lv_at hl 1 rfl) ?_
  refine lv_iconst (v := 0) hx hb dX11_isUnit_1 (by decide) ?_
  refine lv_aload_n hx hb dX11_isUnit_2 rfl (lv_at hl 0 rfl) ?_
  refine gk_get (ci := 10) (C := RX11) (T := TX11) (N := 26) hx hb hts u_ws_X11 hown hK hH 0 rfl rfl 1 (by decide) u_fl_X11_7 rfl dX11_isUnit_3 ?_
  refine lv_sipush (v := 204) hx hb dX11_isUnit_6 (by decide) ?_
  refine gk_iald hx hb hK hH 1 rfl (dk_in (by decide)) dX11_isUnit_9 ?_
  refine lv_iconst (v := 1) hx hb dX11_isUnit_10 (by decide) ?_
  refine lv_isub hx hb dX11_isUnit_11 ?_
  obtain ⟨q1, hqq1, h⟩ := dc_bind h
  refine gc_Si (ws' := [(a_t, .inr (10, [v_t_thrown, .ref a_t_g, .ref a_t_ahead, .ref a_t_history, v_t_historyMany, .ref a_t_saved, v_t_hasSaved, .ref a_t_tape, v_t_taped, v_t_at, v_t_impossibleAt, v_t_letter, .ref a_t_numbers, .ref a_t_plan, v_t_detail, v_t_keptReason, v_t_keptDetail, v_t_above, v_t_below, v_t_bestAbove, v_t_bestBelow, .ref a_t_bestPlan, .ref a_t_sort, .ref a_t_size, .ref a_t_whole, .ref a_t_parts])), (a_t_g, .inl (k 0, 221, .inl t_g))]) (As := [.int x1, .int (0 : Int32), .int ((t_g (204 : Int32).toNatClampNeg) - (1 : Int32))]) (rest := []) (n := 3) hTs ⟨hx, hb, hml, hown, hts⟩ (mX11_in l Ts hTs D k H.size x1 (0 : Int32) ((t_g (204 : Int32).toNatClampNeg) - (1 : Int32)) q1 hqq1) u_ml_X11_55 u_st_X11_in u_in_X11 u_co_X11_in hd_X11_in ⟨Nat.le_of_ble_eq_true rfl, Nat.le_of_ble_eq_true rfl⟩ ⟨rfl, rfl⟩ hK hH hA (cut0 (isC := []) rfl rfl rfl) rfl rfl hl.1 (Nat.le_of_ble_eq_true rfl) dX11_isUnit_12 ⟨Nat.le_of_ble_eq_true rfl, Nat.le_of_ble_eq_true rfl⟩ (fun H locs hH => ?_)
  obtain ⟨g2, h⟩ := dc_need h
  have h := Option.some.inj h
  subst h
  exact ge_z hx hb hr (dk_bit g2).1 hlocks hQ hK hH hAe rfl dX11_isUnit_15
theorem hd_X11_isDistrict : yX11_isDistrict.cls = RX11 ∧ yX11_isDistrict.cls ≠ "java/lang/invoke/MethodHandle" ∧ yX11_isDistrict.cls ≠ "java/lang/invoke/VarHandle" ∧ (parseMethodDescriptor yX11_isDistrict.desc).map (fun d => d.parameters.length) = some 1 := by decide +kernel
set_option maxHeartbeats 4000000 in
set_option maxRecDepth 100000 in
theorem mX11_isDistrict (l : Launch) (Ts : List Cond) (hTs : ∀ w, w ∈ Ts ↔ w ∈ uT) (D : va_G) (k : Nat → ClassId) (sz : Nat) (a_t : Nat) (a_t_g : Nat) (a_t_ahead : Nat) (a_t_history : Nat) (a_t_saved : Nat) (a_t_tape : Nat) (a_t_numbers : Nat) (a_t_plan : Nat) (a_t_bestPlan : Nat) (a_t_sort : Nat) (a_t_size : Nat) (a_t_whole : Nat) (a_t_parts : Nat) (t_g : Nat → Int32) (v_t_above : Value) (v_t_at : Value) (v_t_below : Value) (v_t_bestAbove : Value) (v_t_bestBelow : Value) (v_t_detail : Value) (v_t_hasSaved : Value) (v_t_historyMany : Value) (v_t_impossibleAt : Value) (v_t_keptDetail : Value) (v_t_keptReason : Value) (v_t_letter : Value) (v_t_taped : Value) (v_t_thrown : Value) (x1 : Int32) (r : Int32) (h : fX11_isDistrict t_g x1 = some r) : Met l yX11_isDistrict (Cond.code yX11_isDistrict cX11_isDistrict 2 (some .boolean) :: Ts) ({ frames := 1, cells := 0, slots := 0, locals := 22 } : Room) (preM D k [.ref a_t, .int x1] [(a_t, .inr (10, [v_t_thrown, .ref a_t_g, .ref a_t_ahead, .ref a_t_history, v_t_historyMany, .ref a_t_saved, v_t_hasSaved, .ref a_t_tape, v_t_taped, v_t_at, v_t_impossibleAt, v_t_letter, .ref a_t_numbers, .ref a_t_plan, v_t_detail, v_t_keptReason, v_t_keptDetail, v_t_above, v_t_below, v_t_bestAbove, v_t_bestBelow, .ref a_t_bestPlan, .ref a_t_sort, .ref a_t_size, .ref a_t_whole, .ref a_t_parts])), (a_t_g, .inl (k 0, 221, .inl t_g))] sz) (postI D k r [(a_t, .inr (10, [v_t_thrown, .ref a_t_g, .ref a_t_ahead, .ref a_t_history, v_t_historyMany, .ref a_t_saved, v_t_hasSaved, .ref a_t_tape, v_t_taped, v_t_at, v_t_impossibleAt, v_t_letter, .ref a_t_numbers, .ref a_t_plan, v_t_detail, v_t_keptReason, v_t_keptDetail, v_t_above, v_t_below, v_t_bestAbove, v_t_bestBelow, .ref a_t_bestPlan, .ref a_t_sort, .ref a_t_size, .ref a_t_whole, .ref a_t_parts])), (a_t_g, .inl (k 0, 221, .inl t_g))] [(a_t, .inr (10, [v_t_thrown, .ref a_t_g, .ref a_t_ahead, .ref a_t_history, v_t_historyMany, .ref a_t_saved, v_t_hasSaved, .ref a_t_tape, v_t_taped, v_t_at, v_t_impossibleAt, v_t_letter, .ref a_t_numbers, .ref a_t_plan, v_t_detail, v_t_keptReason, v_t_keptDetail, v_t_above, v_t_below, v_t_bestAbove, v_t_bestBelow, .ref a_t_bestPlan, .ref a_t_sort, .ref a_t_size, .ref a_t_whole, .ref a_t_parts])), (a_t_g, .inl (k 0, 221, .inl t_g))] sz) 0 0 (va_A [(a_t, .inr (10, [v_t_thrown, .ref a_t_g, .ref a_t_ahead, .ref a_t_history, v_t_historyMany, .ref a_t_saved, v_t_hasSaved, .ref a_t_tape, v_t_taped, v_t_at, v_t_impossibleAt, v_t_letter, .ref a_t_numbers, .ref a_t_plan, v_t_detail, v_t_keptReason, v_t_keptDetail, v_t_above, v_t_below, v_t_bestAbove, v_t_bestBelow, .ref a_t_bestPlan, .ref a_t_sort, .ref a_t_size, .ref a_t_whole, .ref a_t_parts])), (a_t_g, .inl (k 0, 221, .inl t_g))] sz) := by
  refine Met.ofW (cc := cX11_isDistrict) (maxL := 2) (ret := (some .boolean)) (by decide) rfl ?_
  intro p e s m args below meth c s₁ B hml hv
  obtain ⟨rfl, hsz, hP, hK, hD0⟩ := hv
  have hx := B.exec
  have hb := B.bytes
  have hr := B.returns
  have hts0 := atoms_spec (ws := (Cond.code yX11_isDistrict cX11_isDistrict 2 (some .boolean) :: Ts)) B.pre
  have hts : ∀ w ∈ uT, w.before _ s = true := fun w h => hts0 w (List.mem_cons_of_mem _ ((hTs w).mpr h))
  clear hts0
  have hown : s.vm.findClass RX11 = some m.cls := findClass_of_methodNamed B.named
  have hlocks := B.notSynchronized
  subst hsz
  have hD := hD0.self (sz := s.heap.size)
  generalize hAe : va_A [(a_t, .inr (10, [v_t_thrown, .ref a_t_g, .ref a_t_ahead, .ref a_t_history, v_t_historyMany, .ref a_t_saved, v_t_hasSaved, .ref a_t_tape, v_t_taped, v_t_at, v_t_impossibleAt, v_t_letter, .ref a_t_numbers, .ref a_t_plan, v_t_detail, v_t_keptReason, v_t_keptDetail, v_t_above, v_t_below, v_t_bestAbove, v_t_bestBelow, .ref a_t_bestPlan, .ref a_t_sort, .ref a_t_size, .ref a_t_whole, .ref a_t_parts])), (a_t_g, .inl (k 0, 221, .inl t_g))] s.heap.size = A at hD ⊢
  have hA : ∀ q : Nat, s.heap.size ≤ q → A q := fun q h => by rw [← hAe]; exact Or.inr h
  have hH : HOK D A s.heap [(a_t, .inr (10, [v_t_thrown, .ref a_t_g, .ref a_t_ahead, .ref a_t_history, v_t_historyMany, .ref a_t_saved, v_t_hasSaved, .ref a_t_tape, v_t_taped, v_t_at, v_t_impossibleAt, v_t_letter, .ref a_t_numbers, .ref a_t_plan, v_t_detail, v_t_keptReason, v_t_keptDetail, v_t_above, v_t_below, v_t_bestAbove, v_t_bestBelow, .ref a_t_bestPlan, .ref a_t_sort, .ref a_t_size, .ref a_t_whole, .ref a_t_parts])), (a_t_g, .inl (k 0, 221, .inl t_g))] s.heap [] := ⟨hP, hD, va_S.rf⟩
  have hl := lv_entry ([.ref a_t, .int x1]) (n := 2) (Nat.le_of_ble_eq_true rfl)
  rw [lg_entry_eq]
  generalize (lg_sl ([.ref a_t, .int x1]) ++ List.replicate (2 - (lg_sl ([.ref a_t, .int x1])).length) Slot.unset).toArray = ls at hl ⊢
  have hl : lv_has ls 2 [(0, .ref a_t), (1, .int x1)] := hl
  generalize hQ : MQ below (postI D k r [(a_t, .inr (10, [v_t_thrown, .ref a_t_g, .ref a_t_ahead, .ref a_t_history, v_t_historyMany, .ref a_t_saved, v_t_hasSaved, .ref a_t_tape, v_t_taped, v_t_at, v_t_impossibleAt, v_t_letter, .ref a_t_numbers, .ref a_t_plan, v_t_detail, v_t_keptReason, v_t_keptDetail, v_t_above, v_t_below, v_t_bestAbove, v_t_bestBelow, .ref a_t_bestPlan, .ref a_t_sort, .ref a_t_size, .ref a_t_whole, .ref a_t_parts])), (a_t_g, .inl (k 0, 221, .inl t_g))] [(a_t, .inr (10, [v_t_thrown, .ref a_t_g, .ref a_t_ahead, .ref a_t_history, v_t_historyMany, .ref a_t_saved, v_t_hasSaved, .ref a_t_tape, v_t_taped, v_t_at, v_t_impossibleAt, v_t_letter, .ref a_t_numbers, .ref a_t_plan, v_t_detail, v_t_keptReason, v_t_keptDetail, v_t_above, v_t_below, v_t_bestAbove, v_t_bestBelow, .ref a_t_bestPlan, .ref a_t_sort, .ref a_t_size, .ref a_t_whole, .ref a_t_parts])), (a_t_g, .inl (k 0, 221, .inl t_g))] s.heap.size) (List.toArray [.ref a_t, .int x1]) s 0 0 A = Q
  clear hP hD hD0
  suffices K : ∀ (H : Heap) (locs : List Loc), HOK D A s.heap [(a_t, .inr (10, [v_t_thrown, .ref a_t_g, .ref a_t_ahead, .ref a_t_history, v_t_historyMany, .ref a_t_saved, v_t_hasSaved, .ref a_t_tape, v_t_taped, v_t_at, v_t_impossibleAt, v_t_letter, .ref a_t_numbers, .ref a_t_plan, v_t_detail, v_t_keptReason, v_t_keptDetail, v_t_above, v_t_below, v_t_bestAbove, v_t_bestBelow, .ref a_t_bestPlan, .ref a_t_sort, .ref a_t_size, .ref a_t_whole, .ref a_t_parts])), (a_t_g, .inl (k 0, 221, .inl t_g))] H locs → W p l e ({ frames := 1, cells := 0, slots := 0, locals := 22 } : Room) s m (List.toArray [.ref a_t, .int x1]) below meth c H locs 0 0 Q (F0 m 0 ls []) from K s.heap [] hH
  intro H locs hH
  rw [fX11_isDistrict] at h
  refine lv_iload_n hx hb dX11_isDistrict_0 rfl (lv_at hl 1 rfl) ?_
  refine lv_iconst (v := 0) hx hb dX11_isDistrict_1 (by decide) ?_
  refine lv_aload_n hx hb dX11_isDistrict_2 rfl (lv_at hl 0 rfl) ?_
  refine gk_get (ci := 10) (C := RX11) (T := TX11) (N := 26) hx hb hts u_ws_X11 hown hK hH 0 rfl rfl 1 (by decide) u_fl_X11_7 rfl dX11_isDistrict_3 ?_
  refine lv_sipush (v := 205) hx hb dX11_isDistrict_6 (by decide) ?_
  refine gk_iald hx hb hK hH 1 rfl (dk_in (by decide)) dX11_isDistrict_9 ?_
  refine lv_iconst (v := 1) hx hb dX11_isDistrict_10 (by decide) ?_
  refine lv_isub hx hb dX11_isDistrict_11 ?_
  obtain ⟨q1, hqq1, h⟩ := dc_bind h
  refine gc_Si (ws' := [(a_t, .inr (10, [v_t_thrown, .ref a_t_g, .ref a_t_ahead, .ref a_t_history, v_t_historyMany, .ref a_t_saved, v_t_hasSaved, .ref a_t_tape, v_t_taped, v_t_at, v_t_impossibleAt, v_t_letter, .ref a_t_numbers, .ref a_t_plan, v_t_detail, v_t_keptReason, v_t_keptDetail, v_t_above, v_t_below, v_t_bestAbove, v_t_bestBelow, .ref a_t_bestPlan, .ref a_t_sort, .ref a_t_size, .ref a_t_whole, .ref a_t_parts])), (a_t_g, .inl (k 0, 221, .inl t_g))]) (As := [.int x1, .int (0 : Int32), .int ((t_g (205 : Int32).toNatClampNeg) - (1 : Int32))]) (rest := []) (n := 3) hTs ⟨hx, hb, hml, hown, hts⟩ (mX11_in l Ts hTs D k H.size x1 (0 : Int32) ((t_g (205 : Int32).toNatClampNeg) - (1 : Int32)) q1 hqq1) u_ml_X11_55 u_st_X11_in u_in_X11 u_co_X11_in hd_X11_in ⟨Nat.le_of_ble_eq_true rfl, Nat.le_of_ble_eq_true rfl⟩ ⟨rfl, rfl⟩ hK hH hA (cut0 (isC := []) rfl rfl rfl) rfl rfl hl.1 (Nat.le_of_ble_eq_true rfl) dX11_isDistrict_12 ⟨Nat.le_of_ble_eq_true rfl, Nat.le_of_ble_eq_true rfl⟩ (fun H locs hH => ?_)
  obtain ⟨g2, h⟩ := dc_need h
  have h := Option.some.inj h
  subst h
  exact ge_z hx hb hr (dk_bit g2).1 hlocks hQ hK hH hAe rfl dX11_isDistrict_15
theorem hd_X11_of : yX11_of.cls = RX11 ∧ yX11_of.cls ≠ "java/lang/invoke/MethodHandle" ∧ yX11_of.cls ≠ "java/lang/invoke/VarHandle" ∧ (parseMethodDescriptor yX11_of.desc).map (fun d => d.parameters.length) = some 2 := by decide +kernel
set_option maxHeartbeats 4000000 in
set_option maxRecDepth 100000 in
theorem mX11_of (l : Launch) (Ts : List Cond) (hTs : ∀ w, w ∈ Ts ↔ w ∈ uT) (D : va_G) (k : Nat → ClassId) (sz : Nat) (a_t : Nat) (a_t_g : Nat) (a_t_ahead : Nat) (a_t_history : Nat) (a_t_saved : Nat) (a_t_tape : Nat) (a_t_numbers : Nat) (a_t_plan : Nat) (a_t_bestPlan : Nat) (a_t_sort : Nat) (a_t_size : Nat) (a_t_whole : Nat) (a_t_parts : Nat) (t_g : Nat → Int32) (v_t_above : Value) (v_t_at : Value) (v_t_below : Value) (v_t_bestAbove : Value) (v_t_bestBelow : Value) (v_t_detail : Value) (v_t_hasSaved : Value) (v_t_historyMany : Value) (v_t_impossibleAt : Value) (v_t_keptDetail : Value) (v_t_keptReason : Value) (v_t_letter : Value) (v_t_taped : Value) (v_t_thrown : Value) (x1 : Int32) (x2 : Int32) (r : Int32) (h : fX11_of t_g x1 x2 = some r) : Met l yX11_of (Cond.code yX11_of cX11_of 3 (some .int) :: Ts) ({ frames := 0, cells := 0, slots := 0, locals := 0 } : Room) (preM D k [.ref a_t, .int x1, .int x2] [(a_t, .inr (10, [v_t_thrown, .ref a_t_g, .ref a_t_ahead, .ref a_t_history, v_t_historyMany, .ref a_t_saved, v_t_hasSaved, .ref a_t_tape, v_t_taped, v_t_at, v_t_impossibleAt, v_t_letter, .ref a_t_numbers, .ref a_t_plan, v_t_detail, v_t_keptReason, v_t_keptDetail, v_t_above, v_t_below, v_t_bestAbove, v_t_bestBelow, .ref a_t_bestPlan, .ref a_t_sort, .ref a_t_size, .ref a_t_whole, .ref a_t_parts])), (a_t_g, .inl (k 0, 221, .inl t_g))] sz) (postI D k r [(a_t, .inr (10, [v_t_thrown, .ref a_t_g, .ref a_t_ahead, .ref a_t_history, v_t_historyMany, .ref a_t_saved, v_t_hasSaved, .ref a_t_tape, v_t_taped, v_t_at, v_t_impossibleAt, v_t_letter, .ref a_t_numbers, .ref a_t_plan, v_t_detail, v_t_keptReason, v_t_keptDetail, v_t_above, v_t_below, v_t_bestAbove, v_t_bestBelow, .ref a_t_bestPlan, .ref a_t_sort, .ref a_t_size, .ref a_t_whole, .ref a_t_parts])), (a_t_g, .inl (k 0, 221, .inl t_g))] [(a_t, .inr (10, [v_t_thrown, .ref a_t_g, .ref a_t_ahead, .ref a_t_history, v_t_historyMany, .ref a_t_saved, v_t_hasSaved, .ref a_t_tape, v_t_taped, v_t_at, v_t_impossibleAt, v_t_letter, .ref a_t_numbers, .ref a_t_plan, v_t_detail, v_t_keptReason, v_t_keptDetail, v_t_above, v_t_below, v_t_bestAbove, v_t_bestBelow, .ref a_t_bestPlan, .ref a_t_sort, .ref a_t_size, .ref a_t_whole, .ref a_t_parts])), (a_t_g, .inl (k 0, 221, .inl t_g))] sz) 0 0 (va_A [(a_t, .inr (10, [v_t_thrown, .ref a_t_g, .ref a_t_ahead, .ref a_t_history, v_t_historyMany, .ref a_t_saved, v_t_hasSaved, .ref a_t_tape, v_t_taped, v_t_at, v_t_impossibleAt, v_t_letter, .ref a_t_numbers, .ref a_t_plan, v_t_detail, v_t_keptReason, v_t_keptDetail, v_t_above, v_t_below, v_t_bestAbove, v_t_bestBelow, .ref a_t_bestPlan, .ref a_t_sort, .ref a_t_size, .ref a_t_whole, .ref a_t_parts])), (a_t_g, .inl (k 0, 221, .inl t_g))] sz) := by
  refine Met.ofW (cc := cX11_of) (maxL := 3) (ret := (some .int)) (by decide) rfl ?_
  intro p e s m args below meth c s₁ B hml hv
  obtain ⟨rfl, hsz, hP, hK, hD0⟩ := hv
  have hx := B.exec
  have hb := B.bytes
  have hr := B.returns
  have hts0 := atoms_spec (ws := (Cond.code yX11_of cX11_of 3 (some .int) :: Ts)) B.pre
  have hts : ∀ w ∈ uT, w.before _ s = true := fun w h => hts0 w (List.mem_cons_of_mem _ ((hTs w).mpr h))
  clear hts0
  have hown : s.vm.findClass RX11 = some m.cls := findClass_of_methodNamed B.named
  have hlocks := B.notSynchronized
  subst hsz
  have hD := hD0.self (sz := s.heap.size)
  generalize hAe : va_A [(a_t, .inr (10, [v_t_thrown, .ref a_t_g, .ref a_t_ahead, .ref a_t_history, v_t_historyMany, .ref a_t_saved, v_t_hasSaved, .ref a_t_tape, v_t_taped, v_t_at, v_t_impossibleAt, v_t_letter, .ref a_t_numbers, .ref a_t_plan, v_t_detail, v_t_keptReason, v_t_keptDetail, v_t_above, v_t_below, v_t_bestAbove, v_t_bestBelow, .ref a_t_bestPlan, .ref a_t_sort, .ref a_t_size, .ref a_t_whole, .ref a_t_parts])), (a_t_g, .inl (k 0, 221, .inl t_g))] s.heap.size = A at hD ⊢
  have hA : ∀ q : Nat, s.heap.size ≤ q → A q := fun q h => by rw [← hAe]; exact Or.inr h
  have hH : HOK D A s.heap [(a_t, .inr (10, [v_t_thrown, .ref a_t_g, .ref a_t_ahead, .ref a_t_history, v_t_historyMany, .ref a_t_saved, v_t_hasSaved, .ref a_t_tape, v_t_taped, v_t_at, v_t_impossibleAt, v_t_letter, .ref a_t_numbers, .ref a_t_plan, v_t_detail, v_t_keptReason, v_t_keptDetail, v_t_above, v_t_below, v_t_bestAbove, v_t_bestBelow, .ref a_t_bestPlan, .ref a_t_sort, .ref a_t_size, .ref a_t_whole, .ref a_t_parts])), (a_t_g, .inl (k 0, 221, .inl t_g))] s.heap [] := ⟨hP, hD, va_S.rf⟩
  have hl := lv_entry ([.ref a_t, .int x1, .int x2]) (n := 3) (Nat.le_of_ble_eq_true rfl)
  rw [lg_entry_eq]
  generalize (lg_sl ([.ref a_t, .int x1, .int x2]) ++ List.replicate (3 - (lg_sl ([.ref a_t, .int x1, .int x2])).length) Slot.unset).toArray = ls at hl ⊢
  have hl : lv_has ls 3 [(0, .ref a_t), (1, .int x1), (2, .int x2)] := hl
  generalize hQ : MQ below (postI D k r [(a_t, .inr (10, [v_t_thrown, .ref a_t_g, .ref a_t_ahead, .ref a_t_history, v_t_historyMany, .ref a_t_saved, v_t_hasSaved, .ref a_t_tape, v_t_taped, v_t_at, v_t_impossibleAt, v_t_letter, .ref a_t_numbers, .ref a_t_plan, v_t_detail, v_t_keptReason, v_t_keptDetail, v_t_above, v_t_below, v_t_bestAbove, v_t_bestBelow, .ref a_t_bestPlan, .ref a_t_sort, .ref a_t_size, .ref a_t_whole, .ref a_t_parts])), (a_t_g, .inl (k 0, 221, .inl t_g))] [(a_t, .inr (10, [v_t_thrown, .ref a_t_g, .ref a_t_ahead, .ref a_t_history, v_t_historyMany, .ref a_t_saved, v_t_hasSaved, .ref a_t_tape, v_t_taped, v_t_at, v_t_impossibleAt, v_t_letter, .ref a_t_numbers, .ref a_t_plan, v_t_detail, v_t_keptReason, v_t_keptDetail, v_t_above, v_t_below, v_t_bestAbove, v_t_bestBelow, .ref a_t_bestPlan, .ref a_t_sort, .ref a_t_size, .ref a_t_whole, .ref a_t_parts])), (a_t_g, .inl (k 0, 221, .inl t_g))] s.heap.size) (List.toArray [.ref a_t, .int x1, .int x2]) s 0 0 A = Q
  clear hP hD hD0
  suffices K : ∀ (H : Heap) (locs : List Loc), HOK D A s.heap [(a_t, .inr (10, [v_t_thrown, .ref a_t_g, .ref a_t_ahead, .ref a_t_history, v_t_historyMany, .ref a_t_saved, v_t_hasSaved, .ref a_t_tape, v_t_taped, v_t_at, v_t_impossibleAt, v_t_letter, .ref a_t_numbers, .ref a_t_plan, v_t_detail, v_t_keptReason, v_t_keptDetail, v_t_above, v_t_below, v_t_bestAbove, v_t_bestBelow, .ref a_t_bestPlan, .ref a_t_sort, .ref a_t_size, .ref a_t_whole, .ref a_t_parts])), (a_t_g, .inl (k 0, 221, .inl t_g))] H locs → W p l e ({ frames := 0, cells := 0, slots := 0, locals := 0 } : Room) s m (List.toArray [.ref a_t, .int x1, .int x2]) below meth c H locs 0 0 Q (F0 m 0 ls []) from K s.heap [] hH
  intro H locs hH
  rw [fX11_of] at h
  refine lv_aload_n hx hb dX11_of_0 rfl (lv_at hl 0 rfl) ?_
  refine gk_get (ci := 10) (C := RX11) (T := TX11) (N := 26) hx hb hts u_ws_X11 hown hK hH 0 rfl rfl 1 (by decide) u_fl_X11_7 rfl dX11_of_1 ?_
  refine lv_iconst (v := 0) hx hb dX11_of_4 (by decide) ?_
  refine lv_iconst (v := 5) hx hb dX11_of_5 (by decide) ?_
  refine lv_iload_n hx hb dX11_of_6 rfl (lv_at hl 1 rfl) ?_
  refine lv_imul hx hb dX11_of_7 ?_
  refine lv_iadd hx hb dX11_of_8 ?_
  refine lv_iload_n hx hb dX11_of_9 rfl (lv_at hl 2 rfl) ?_
  refine lv_iadd hx hb dX11_of_10 ?_
  obtain ⟨g1, h⟩ := dc_need h
  refine gk_iald hx hb hK hH 1 rfl (dk_in g1) dX11_of_11 ?_
  have h := Option.some.inj h
  subst h
  exact ge_i hx hb hr hlocks hQ hK hH hAe rfl dX11_of_12
theorem hd_X11_borderOf : yX11_borderOf.cls = RX11 ∧ yX11_borderOf.cls ≠ "java/lang/invoke/MethodHandle" ∧ yX11_borderOf.cls ≠ "java/lang/invoke/VarHandle" ∧ (parseMethodDescriptor yX11_borderOf.desc).map (fun d => d.parameters.length) = some 2 := by decide +kernel
set_option maxHeartbeats 4000000 in
set_option maxRecDepth 100000 in
theorem mX11_borderOf (l : Launch) (Ts : List Cond) (hTs : ∀ w, w ∈ Ts ↔ w ∈ uT) (D : va_G) (k : Nat → ClassId) (sz : Nat) (a_t : Nat) (a_t_g : Nat) (a_t_ahead : Nat) (a_t_history : Nat) (a_t_saved : Nat) (a_t_tape : Nat) (a_t_numbers : Nat) (a_t_plan : Nat) (a_t_bestPlan : Nat) (a_t_sort : Nat) (a_t_size : Nat) (a_t_whole : Nat) (a_t_parts : Nat) (t_g : Nat → Int32) (v_t_above : Value) (v_t_at : Value) (v_t_below : Value) (v_t_bestAbove : Value) (v_t_bestBelow : Value) (v_t_detail : Value) (v_t_hasSaved : Value) (v_t_historyMany : Value) (v_t_impossibleAt : Value) (v_t_keptDetail : Value) (v_t_keptReason : Value) (v_t_letter : Value) (v_t_taped : Value) (v_t_thrown : Value) (x1 : Int32) (x2 : Int32) (r : Int32) (h : fX11_borderOf t_g x1 x2 = some r) : Met l yX11_borderOf (Cond.code yX11_borderOf cX11_borderOf 3 (some .int) :: Ts) ({ frames := 0, cells := 0, slots := 0, locals := 0 } : Room) (preM D k [.ref a_t, .int x1, .int x2] [(a_t, .inr (10, [v_t_thrown, .ref a_t_g, .ref a_t_ahead, .ref a_t_history, v_t_historyMany, .ref a_t_saved, v_t_hasSaved, .ref a_t_tape, v_t_taped, v_t_at, v_t_impossibleAt, v_t_letter, .ref a_t_numbers, .ref a_t_plan, v_t_detail, v_t_keptReason, v_t_keptDetail, v_t_above, v_t_below, v_t_bestAbove, v_t_bestBelow, .ref a_t_bestPlan, .ref a_t_sort, .ref a_t_size, .ref a_t_whole, .ref a_t_parts])), (a_t_g, .inl (k 0, 221, .inl t_g))] sz) (postI D k r [(a_t, .inr (10, [v_t_thrown, .ref a_t_g, .ref a_t_ahead, .ref a_t_history, v_t_historyMany, .ref a_t_saved, v_t_hasSaved, .ref a_t_tape, v_t_taped, v_t_at, v_t_impossibleAt, v_t_letter, .ref a_t_numbers, .ref a_t_plan, v_t_detail, v_t_keptReason, v_t_keptDetail, v_t_above, v_t_below, v_t_bestAbove, v_t_bestBelow, .ref a_t_bestPlan, .ref a_t_sort, .ref a_t_size, .ref a_t_whole, .ref a_t_parts])), (a_t_g, .inl (k 0, 221, .inl t_g))] [(a_t, .inr (10, [v_t_thrown, .ref a_t_g, .ref a_t_ahead, .ref a_t_history, v_t_historyMany, .ref a_t_saved, v_t_hasSaved, .ref a_t_tape, v_t_taped, v_t_at, v_t_impossibleAt, v_t_letter, .ref a_t_numbers, .ref a_t_plan, v_t_detail, v_t_keptReason, v_t_keptDetail, v_t_above, v_t_below, v_t_bestAbove, v_t_bestBelow, .ref a_t_bestPlan, .ref a_t_sort, .ref a_t_size, .ref a_t_whole, .ref a_t_parts])), (a_t_g, .inl (k 0, 221, .inl t_g))] sz) 0 0 (va_A [(a_t, .inr (10, [v_t_thrown, .ref a_t_g, .ref a_t_ahead, .ref a_t_history, v_t_historyMany, .ref a_t_saved, v_t_hasSaved, .ref a_t_tape, v_t_taped, v_t_at, v_t_impossibleAt, v_t_letter, .ref a_t_numbers, .ref a_t_plan, v_t_detail, v_t_keptReason, v_t_keptDetail, v_t_above, v_t_below, v_t_bestAbove, v_t_bestBelow, .ref a_t_bestPlan, .ref a_t_sort, .ref a_t_size, .ref a_t_whole, .ref a_t_parts])), (a_t_g, .inl (k 0, 221, .inl t_g))] sz) := by
  refine Met.ofW (cc := cX11_borderOf) (maxL := 3) (ret := (some .int)) (by decide) rfl ?_
  intro p e s m args below meth c s₁ B hml hv
  obtain ⟨rfl, hsz, hP, hK, hD0⟩ := hv
  have hx := B.exec
  have hb := B.bytes
  have hr := B.returns
  have hts0 := atoms_spec (ws := (Cond.code yX11_borderOf cX11_borderOf 3 (some .int) :: Ts)) B.pre
  have hts : ∀ w ∈ uT, w.before _ s = true := fun w h => hts0 w (List.mem_cons_of_mem _ ((hTs w).mpr h))
  clear hts0
  have hown : s.vm.findClass RX11 = some m.cls := findClass_of_methodNamed B.named
  have hlocks := B.notSynchronized
  subst hsz
  have hD := hD0.self (sz := s.heap.size)
  generalize hAe : va_A [(a_t, .inr (10, [v_t_thrown, .ref a_t_g, .ref a_t_ahead, .ref a_t_history, v_t_historyMany, .ref a_t_saved, v_t_hasSaved, .ref a_t_tape, v_t_taped, v_t_at, v_t_impossibleAt, v_t_letter, .ref a_t_numbers, .ref a_t_plan, v_t_detail, v_t_keptReason, v_t_keptDetail, v_t_above, v_t_below, v_t_bestAbove, v_t_bestBelow, .ref a_t_bestPlan, .ref a_t_sort, .ref a_t_size, .ref a_t_whole, .ref a_t_parts])), (a_t_g, .inl (k 0, 221, .inl t_g))] s.heap.size = A at hD ⊢
  have hA : ∀ q : Nat, s.heap.size ≤ q → A q := fun q h => by rw [← hAe]; exact Or.inr h
  have hH : HOK D A s.heap [(a_t, .inr (10, [v_t_thrown, .ref a_t_g, .ref a_t_ahead, .ref a_t_history, v_t_historyMany, .ref a_t_saved, v_t_hasSaved, .ref a_t_tape, v_t_taped, v_t_at, v_t_impossibleAt, v_t_letter, .ref a_t_numbers, .ref a_t_plan, v_t_detail, v_t_keptReason, v_t_keptDetail, v_t_above, v_t_below, v_t_bestAbove, v_t_bestBelow, .ref a_t_bestPlan, .ref a_t_sort, .ref a_t_size, .ref a_t_whole, .ref a_t_parts])), (a_t_g, .inl (k 0, 221, .inl t_g))] s.heap [] := ⟨hP, hD, va_S.rf⟩
  have hl := lv_entry ([.ref a_t, .int x1, .int x2]) (n := 3) (Nat.le_of_ble_eq_true rfl)
  rw [lg_entry_eq]
  generalize (lg_sl ([.ref a_t, .int x1, .int x2]) ++ List.replicate (3 - (lg_sl ([.ref a_t, .int x1, .int x2])).length) Slot.unset).toArray = ls at hl ⊢
  have hl : lv_has ls 3 [(0, .ref a_t), (1, .int x1), (2, .int x2)] := hl
  generalize hQ : MQ below (postI D k r [(a_t, .inr (10, [v_t_thrown, .ref a_t_g, .ref a_t_ahead, .ref a_t_history, v_t_historyMany, .ref a_t_saved, v_t_hasSaved, .ref a_t_tape, v_t_taped, v_t_at, v_t_impossibleAt, v_t_letter, .ref a_t_numbers, .ref a_t_plan, v_t_detail, v_t_keptReason, v_t_keptDetail, v_t_above, v_t_below, v_t_bestAbove, v_t_bestBelow, .ref a_t_bestPlan, .ref a_t_sort, .ref a_t_size, .ref a_t_whole, .ref a_t_parts])), (a_t_g, .inl (k 0, 221, .inl t_g))] [(a_t, .inr (10, [v_t_thrown, .ref a_t_g, .ref a_t_ahead, .ref a_t_history, v_t_historyMany, .ref a_t_saved, v_t_hasSaved, .ref a_t_tape, v_t_taped, v_t_at, v_t_impossibleAt, v_t_letter, .ref a_t_numbers, .ref a_t_plan, v_t_detail, v_t_keptReason, v_t_keptDetail, v_t_above, v_t_below, v_t_bestAbove, v_t_bestBelow, .ref a_t_bestPlan, .ref a_t_sort, .ref a_t_size, .ref a_t_whole, .ref a_t_parts])), (a_t_g, .inl (k 0, 221, .inl t_g))] s.heap.size) (List.toArray [.ref a_t, .int x1, .int x2]) s 0 0 A = Q
  clear hP hD hD0
  suffices K : ∀ (H : Heap) (locs : List Loc), HOK D A s.heap [(a_t, .inr (10, [v_t_thrown, .ref a_t_g, .ref a_t_ahead, .ref a_t_history, v_t_historyMany, .ref a_t_saved, v_t_hasSaved, .ref a_t_tape, v_t_taped, v_t_at, v_t_impossibleAt, v_t_letter, .ref a_t_numbers, .ref a_t_plan, v_t_detail, v_t_keptReason, v_t_keptDetail, v_t_above, v_t_below, v_t_bestAbove, v_t_bestBelow, .ref a_t_bestPlan, .ref a_t_sort, .ref a_t_size, .ref a_t_whole, .ref a_t_parts])), (a_t_g, .inl (k 0, 221, .inl t_g))] H locs → W p l e ({ frames := 0, cells := 0, slots := 0, locals := 0 } : Room) s m (List.toArray [.ref a_t, .int x1, .int x2]) below meth c H locs 0 0 Q (F0 m 0 ls []) from K s.heap [] hH
  intro H locs hH
  rw [fX11_borderOf] at h
  refine lv_aload_n hx hb dX11_borderOf_0 rfl (lv_at hl 0 rfl) ?_
  refine gk_get (ci := 10) (C := RX11) (T := TX11) (N := 26) hx hb hts u_ws_X11 hown hK hH 0 rfl rfl 1 (by decide) u_fl_X11_7 rfl dX11_borderOf_1 ?_
  refine lv_bipush (v := 60) hx hb dX11_borderOf_4 (by decide) ?_
  refine lv_bipush (v := 12) hx hb dX11_borderOf_6 (by decide) ?_
  refine lv_iload_n hx hb dX11_borderOf_8 rfl (lv_at hl 1 rfl) ?_
  refine lv_imul hx hb dX11_borderOf_9 ?_
  refine lv_iadd hx hb dX11_borderOf_10 ?_
  refine lv_iload_n hx hb dX11_borderOf_11 rfl (lv_at hl 2 rfl) ?_
  refine lv_iadd hx hb dX11_borderOf_12 ?_
  obtain ⟨g1, h⟩ := dc_need h
  refine gk_iald hx hb hK hH 1 rfl (dk_in g1) dX11_borderOf_13 ?_
  have h := Option.some.inj h
  subst h
  exact ge_i hx hb hr hlocks hQ hK hH hAe rfl dX11_borderOf_14
theorem hd_X11_remembers : yX11_remembers.cls = RX11 ∧ yX11_remembers.cls ≠ "java/lang/invoke/MethodHandle" ∧ yX11_remembers.cls ≠ "java/lang/invoke/VarHandle" ∧ (parseMethodDescriptor yX11_remembers.desc).map (fun d => d.parameters.length) = some 0 := by decide +kernel
set_option maxHeartbeats 4000000 in
set_option maxRecDepth 100000 in
theorem mX11_remembers (l : Launch) (Ts : List Cond) (hTs : ∀ w, w ∈ Ts ↔ w ∈ uT) (D : va_G) (k : Nat → ClassId) (sz : Nat) (a_t : Nat) (a_t_g : Nat) (a_t_ahead : Nat) (a_t_history : Nat) (a_t_saved : Nat) (a_t_tape : Nat) (a_t_numbers : Nat) (a_t_plan : Nat) (a_t_bestPlan : Nat) (a_t_sort : Nat) (a_t_size : Nat) (a_t_whole : Nat) (a_t_parts : Nat) (t_ahead : Nat → Int32) (t_g : Nat → Int32) (v_t_above : Value) (v_t_at : Value) (v_t_below : Value) (v_t_bestAbove : Value) (v_t_bestBelow : Value) (v_t_detail : Value) (v_t_hasSaved : Value) (v_t_historyMany : Value) (v_t_impossibleAt : Value) (v_t_keptDetail : Value) (v_t_keptReason : Value) (v_t_letter : Value) (v_t_taped : Value) (v_t_thrown : Value) (r : (Nat → Int32)) (h : fX11_remembers t_ahead t_g = some r) : Met l yX11_remembers (Cond.code yX11_remembers cX11_remembers 2 none :: Ts) ({ frames := 0, cells := 0, slots := 0, locals := 0 } : Room) (preM D k [.ref a_t] [(a_t, .inr (10, [v_t_thrown, .ref a_t_g, .ref a_t_ahead, .ref a_t_history, v_t_historyMany, .ref a_t_saved, v_t_hasSaved, .ref a_t_tape, v_t_taped, v_t_at, v_t_impossibleAt, v_t_letter, .ref a_t_numbers, .ref a_t_plan, v_t_detail, v_t_keptReason, v_t_keptDetail, v_t_above, v_t_below, v_t_bestAbove, v_t_bestBelow, .ref a_t_bestPlan, .ref a_t_sort, .ref a_t_size, .ref a_t_whole, .ref a_t_parts])), (a_t_g, .inl (k 0, 221, .inl t_g)), (a_t_ahead, .inl (k 0, 221, .inl t_ahead))] sz) (postV D k [(a_t, .inr (10, [v_t_thrown, .ref a_t_g, .ref a_t_ahead, .ref a_t_history, v_t_historyMany, .ref a_t_saved, v_t_hasSaved, .ref a_t_tape, v_t_taped, v_t_at, v_t_impossibleAt, v_t_letter, .ref a_t_numbers, .ref a_t_plan, v_t_detail, v_t_keptReason, v_t_keptDetail, v_t_above, v_t_below, v_t_bestAbove, v_t_bestBelow, .ref a_t_bestPlan, .ref a_t_sort, .ref a_t_size, .ref a_t_whole, .ref a_t_parts])), (a_t_g, .inl (k 0, 221, .inl t_g)), (a_t_ahead, .inl (k 0, 221, .inl t_ahead))] [(a_t, .inr (10, [v_t_thrown, .ref a_t_g, .ref a_t_ahead, .ref a_t_history, v_t_historyMany, .ref a_t_saved, v_t_hasSaved, .ref a_t_tape, v_t_taped, v_t_at, v_t_impossibleAt, v_t_letter, .ref a_t_numbers, .ref a_t_plan, v_t_detail, v_t_keptReason, v_t_keptDetail, v_t_above, v_t_below, v_t_bestAbove, v_t_bestBelow, .ref a_t_bestPlan, .ref a_t_sort, .ref a_t_size, .ref a_t_whole, .ref a_t_parts])), (a_t_g, .inl (k 0, 221, .inl t_g)), (a_t_ahead, .inl (k 0, 221, .inl r))] sz) 0 0 (va_A [(a_t, .inr (10, [v_t_thrown, .ref a_t_g, .ref a_t_ahead, .ref a_t_history, v_t_historyMany, .ref a_t_saved, v_t_hasSaved, .ref a_t_tape, v_t_taped, v_t_at, v_t_impossibleAt, v_t_letter, .ref a_t_numbers, .ref a_t_plan, v_t_detail, v_t_keptReason, v_t_keptDetail, v_t_above, v_t_below, v_t_bestAbove, v_t_bestBelow, .ref a_t_bestPlan, .ref a_t_sort, .ref a_t_size, .ref a_t_whole, .ref a_t_parts])), (a_t_g, .inl (k 0, 221, .inl t_g)), (a_t_ahead, .inl (k 0, 221, .inl t_ahead))] sz) := by
  refine Met.ofW (cc := cX11_remembers) (maxL := 2) (ret := none) (by decide) rfl ?_
  intro p e s m args below meth c s₁ B hml hv
  obtain ⟨rfl, hsz, hP, hK, hD0⟩ := hv
  have hx := B.exec
  have hb := B.bytes
  have hr := B.returns
  have hts0 := atoms_spec (ws := (Cond.code yX11_remembers cX11_remembers 2 none :: Ts)) B.pre
  have hts : ∀ w ∈ uT, w.before _ s = true := fun w h => hts0 w (List.mem_cons_of_mem _ ((hTs w).mpr h))
  clear hts0
  have hown : s.vm.findClass RX11 = some m.cls := findClass_of_methodNamed B.named
  have hlocks := B.notSynchronized
  subst hsz
  have hD := hD0.self (sz := s.heap.size)
  generalize hAe : va_A [(a_t, .inr (10, [v_t_thrown, .ref a_t_g, .ref a_t_ahead, .ref a_t_history, v_t_historyMany, .ref a_t_saved, v_t_hasSaved, .ref a_t_tape, v_t_taped, v_t_at, v_t_impossibleAt, v_t_letter, .ref a_t_numbers, .ref a_t_plan, v_t_detail, v_t_keptReason, v_t_keptDetail, v_t_above, v_t_below, v_t_bestAbove, v_t_bestBelow, .ref a_t_bestPlan, .ref a_t_sort, .ref a_t_size, .ref a_t_whole, .ref a_t_parts])), (a_t_g, .inl (k 0, 221, .inl t_g)), (a_t_ahead, .inl (k 0, 221, .inl t_ahead))] s.heap.size = A at hD ⊢
  have hA : ∀ q : Nat, s.heap.size ≤ q → A q := fun q h => by rw [← hAe]; exact Or.inr h
  have hH : HOK D A s.heap [(a_t, .inr (10, [v_t_thrown, .ref a_t_g, .ref a_t_ahead, .ref a_t_history, v_t_historyMany, .ref a_t_saved, v_t_hasSaved, .ref a_t_tape, v_t_taped, v_t_at, v_t_impossibleAt, v_t_letter, .ref a_t_numbers, .ref a_t_plan, v_t_detail, v_t_keptReason, v_t_keptDetail, v_t_above, v_t_below, v_t_bestAbove, v_t_bestBelow, .ref a_t_bestPlan, .ref a_t_sort, .ref a_t_size, .ref a_t_whole, .ref a_t_parts])), (a_t_g, .inl (k 0, 221, .inl t_g)), (a_t_ahead, .inl (k 0, 221, .inl t_ahead))] s.heap [] := ⟨hP, hD, va_S.rf⟩
  have hl := lv_entry ([.ref a_t]) (n := 2) (Nat.le_of_ble_eq_true rfl)
  rw [lg_entry_eq]
  generalize (lg_sl ([.ref a_t]) ++ List.replicate (2 - (lg_sl ([.ref a_t])).length) Slot.unset).toArray = ls at hl ⊢
  have hl : lv_has ls 2 [(0, .ref a_t)] := hl
  generalize hQ : MQ below (postV D k [(a_t, .inr (10, [v_t_thrown, .ref a_t_g, .ref a_t_ahead, .ref a_t_history, v_t_historyMany, .ref a_t_saved, v_t_hasSaved, .ref a_t_tape, v_t_taped, v_t_at, v_t_impossibleAt, v_t_letter, .ref a_t_numbers, .ref a_t_plan, v_t_detail, v_t_keptReason, v_t_keptDetail, v_t_above, v_t_below, v_t_bestAbove, v_t_bestBelow, .ref a_t_bestPlan, .ref a_t_sort, .ref a_t_size, .ref a_t_whole, .ref a_t_parts])), (a_t_g, .inl (k 0, 221, .inl t_g)), (a_t_ahead, .inl (k 0, 221, .inl t_ahead))] [(a_t, .inr (10, [v_t_thrown, .ref a_t_g, .ref a_t_ahead, .ref a_t_history, v_t_historyMany, .ref a_t_saved, v_t_hasSaved, .ref a_t_tape, v_t_taped, v_t_at, v_t_impossibleAt, v_t_letter, .ref a_t_numbers, .ref a_t_plan, v_t_detail, v_t_keptReason, v_t_keptDetail, v_t_above, v_t_below, v_t_bestAbove, v_t_bestBelow, .ref a_t_bestPlan, .ref a_t_sort, .ref a_t_size, .ref a_t_whole, .ref a_t_parts])), (a_t_g, .inl (k 0, 221, .inl t_g)), (a_t_ahead, .inl (k 0, 221, .inl r))] s.heap.size) (List.toArray [.ref a_t]) s 0 0 A = Q
  clear hP hD hD0
  suffices K : ∀ (H : Heap) (locs : List Loc), HOK D A s.heap [(a_t, .inr (10, [v_t_thrown, .ref a_t_g, .ref a_t_ahead, .ref a_t_history, v_t_historyMany, .ref a_t_saved, v_t_hasSaved, .ref a_t_tape, v_t_taped, v_t_at, v_t_impossibleAt, v_t_letter, .ref a_t_numbers, .ref a_t_plan, v_t_detail, v_t_keptReason, v_t_keptDetail, v_t_above, v_t_below, v_t_bestAbove, v_t_bestBelow, .ref a_t_bestPlan, .ref a_t_sort, .ref a_t_size, .ref a_t_whole, .ref a_t_parts])), (a_t_g, .inl (k 0, 221, .inl t_g)), (a_t_ahead, .inl (k 0, 221, .inl t_ahead))] H locs → W p l e ({ frames := 0, cells := 0, slots := 0, locals := 0 } : Room) s m (List.toArray [.ref a_t]) below meth c H locs 0 0 Q (F0 m 0 ls []) from K s.heap [] hH
  intro H locs hH
  have L2 : ∀ (n : Nat), ∀ (kf : (Nat → Int32) → Option ((Nat → Int32))) (y2_1 : Int32) (y2_t_ahead : Nat → Int32), fX11_remembers_L2 t_g n kf y2_1 y2_t_ahead = some r → (∀ (z2_t_ahead : Nat → Int32) (H : Heap) (locs : List Loc) (ls : Array Slot), kf z2_t_ahead = some r → HOK D A s.heap [(a_t, .inr (10, [v_t_thrown, .ref a_t_g, .ref a_t_ahead, .ref a_t_history, v_t_historyMany, .ref a_t_saved, v_t_hasSaved, .ref a_t_tape, v_t_taped, v_t_at, v_t_impossibleAt, v_t_letter, .ref a_t_numbers, .ref a_t_plan, v_t_detail, v_t_keptReason, v_t_keptDetail, v_t_above, v_t_below, v_t_bestAbove, v_t_bestBelow, .ref a_t_bestPlan, .ref a_t_sort, .ref a_t_size, .ref a_t_whole, .ref a_t_parts])), (a_t_g, .inl (k 0, 221, .inl t_g)), (a_t_ahead, .inl (k 0, 221, .inl z2_t_ahead))] H locs → lv_has ls 2 [] → W p l e ({ frames := 0, cells := 0, slots := 0, locals := 0 } : Room) s m (List.toArray [.ref a_t]) below meth c H locs 0 0 Q (F0 m 27 ls [])) → ∀ (H : Heap) (locs : List Loc) (ls : Array Slot), HOK D A s.heap [(a_t, .inr (10, [v_t_thrown, .ref a_t_g, .ref a_t_ahead, .ref a_t_history, v_t_historyMany, .ref a_t_saved, v_t_hasSaved, .ref a_t_tape, v_t_taped, v_t_at, v_t_impossibleAt, v_t_letter, .ref a_t_numbers, .ref a_t_plan, v_t_detail, v_t_keptReason, v_t_keptDetail, v_t_above, v_t_below, v_t_bestAbove, v_t_bestBelow, .ref a_t_bestPlan, .ref a_t_sort, .ref a_t_size, .ref a_t_whole, .ref a_t_parts])), (a_t_g, .inl (k 0, 221, .inl t_g)), (a_t_ahead, .inl (k 0, 221, .inl y2_t_ahead))] H locs → lv_has ls 2 [(0, .ref a_t), (1, .int y2_1)] → W p l e ({ frames := 0, cells := 0, slots := 0, locals := 0 } : Room) s m (List.toArray [.ref a_t]) below meth c H locs 0 0 Q (F0 m 2 ls []) := by
    intro n
    induction n with
    | zero =>
      intro kf y2_1 y2_t_ahead h
      exact absurd h (by rw [fX11_remembers_L2]; exact fun q => by cases q)
    | succ n ih =>
      intro kf y2_1 y2_t_ahead h kk H locs ls hH hl
      rw [fX11_remembers_L2] at h
      refine lv_iload_n hx hb dX11_remembers_2 rfl (lv_at hl 1 rfl) ?_
      refine lv_sipush (v := 221) hx hb dX11_remembers_3 (by decide) ?_
      refine lv_icmp_ge (tgt := 27) hx hb dX11_remembers_6 (by decide) (fun c1 => ?_) (fun c1 => ?_)
      · replace h := dc_pos c1 h
        exact kk y2_t_ahead H locs ls h hH (lv_sub hl [] rfl)
      · replace h := dc_neg c1 h
        refine lv_aload_n hx hb dX11_remembers_9 rfl (lv_at hl 0 rfl) ?_
        refine gk_get (ci := 10) (C := RX11) (T := TX11) (N := 26) hx hb hts u_ws_X11 hown hK hH 0 rfl rfl 2 (by decide) u_fl_X11_13 rfl dX11_remembers_10 ?_
        refine lv_iload_n hx hb dX11_remembers_13 rfl (lv_at hl 1 rfl) ?_
        refine lv_aload_n hx hb dX11_remembers_14 rfl (lv_at hl 0 rfl) ?_
        refine gk_get (ci := 10) (C := RX11) (T := TX11) (N := 26) hx hb hts u_ws_X11 hown hK hH 0 rfl rfl 1 (by decide) u_fl_X11_7 rfl dX11_remembers_15 ?_
        refine lv_iload_n hx hb dX11_remembers_18 rfl (lv_at hl 1 rfl) ?_
        obtain ⟨g2, h⟩ := dc_need h
        refine gk_iald hx hb hK hH 1 rfl (dk_in g2) dX11_remembers_19 ?_
        obtain ⟨g3, h⟩ := dc_need h
        refine gk_iast hx hb hK hH 2 rfl (dk_in g3) dX11_remembers_20 [(a_t, .inr (10, [v_t_thrown, .ref a_t_g, .ref a_t_ahead, .ref a_t_history, v_t_historyMany, .ref a_t_saved, v_t_hasSaved, .ref a_t_tape, v_t_taped, v_t_at, v_t_impossibleAt, v_t_letter, .ref a_t_numbers, .ref a_t_plan, v_t_detail, v_t_keptReason, v_t_keptDetail, v_t_above, v_t_below, v_t_bestAbove, v_t_bestBelow, .ref a_t_bestPlan, .ref a_t_sort, .ref a_t_size, .ref a_t_whole, .ref a_t_parts])), (a_t_g, .inl (k 0, 221, .inl t_g)), (a_t_ahead, .inl (k 0, 221, .inl (upd y2_t_ahead y2_1.toNatClampNeg (t_g y2_1.toNatClampNeg))))] rfl (fun H locs hH => ?_)
        refine lv_iinc (v := (y2_1 + (1 : Int32))) (lv' := [(1, .int (y2_1 + (1 : Int32))), (0, .ref a_t)]) hx hb dX11_remembers_21 hl (k := 1) rfl rfl (by decide) rfl (fun ls hl => ?_)
        refine lv_goto (tgt := 2) hx hb dX11_remembers_24 (by decide) ?_
        exact ih kf (y2_1 + (1 : Int32)) (upd y2_t_ahead y2_1.toNatClampNeg (t_g y2_1.toNatClampNeg)) h kk H locs ls hH (lv_sub hl [1, 0] rfl)
  rw [fX11_remembers] at h
  refine lv_iconst (v := 0) hx hb dX11_remembers_0 (by decide) ?_
  refine lv_istore_n (lv' := [(1, .int (0 : Int32)), (0, .ref a_t)]) hx hb dX11_remembers_1 rfl hl (by decide) rfl (fun ls hl => ?_)
  refine L2 _ _ (0 : Int32) t_ahead h (fun z2_t_ahead H locs ls h hH hl => ?_) H locs ls hH (lv_sub hl [1, 0] rfl)
  have h := Option.some.inj h
  subst h
  exact ge_v hx hb hr hlocks hQ hK hH hAe dX11_remembers_27
theorem hd_X11_changes : yX11_changes.cls = RX11 ∧ yX11_changes.cls ≠ "java/lang/invoke/MethodHandle" ∧ yX11_changes.cls ≠ "java/lang/invoke/VarHandle" ∧ (parseMethodDescriptor yX11_changes.desc).map (fun d => d.parameters.length) = some 0 := by decide +kernel
set_option maxHeartbeats 4000000 in
set_option maxRecDepth 100000 in
theorem mX11_changes (l : Launch) (Ts : List Cond) (hTs : ∀ w, w ∈ Ts ↔ w ∈ uT) (D : va_G) (k : Nat → ClassId) (sz : Nat) (a_t : Nat) (a_t_g : Nat) (a_t_ahead : Nat) (a_t_history : Nat) (a_t_saved : Nat) (a_t_tape : Nat) (a_t_numbers : Nat) (a_t_plan : Nat) (a_t_bestPlan : Nat) (a_t_sort : Nat) (a_t_size : Nat) (a_t_whole : Nat) (a_t_parts : Nat) (t_ahead : Nat → Int32) (t_history : Nat → Int32) (t_historyMany : Int32) (v_t_above : Value) (v_t_at : Value) (v_t_below : Value) (v_t_bestAbove : Value) (v_t_bestBelow : Value) (v_t_detail : Value) (v_t_hasSaved : Value) (v_t_impossibleAt : Value) (v_t_keptDetail : Value) (v_t_keptReason : Value) (v_t_letter : Value) (v_t_taped : Value) (v_t_thrown : Value) (r : (Nat → Int32) × Int32) (h : fX11_changes t_ahead t_history t_historyMany = some r) : Met l yX11_changes (Cond.code yX11_changes cX11_changes 2 none :: Ts) ({ frames := 0, cells := 0, slots := 0, locals := 0 } : Room) (preM D k [.ref a_t] [(a_t, .inr (10, [v_t_thrown, .ref a_t_g, .ref a_t_ahead, .ref a_t_history, .int t_historyMany, .ref a_t_saved, v_t_hasSaved, .ref a_t_tape, v_t_taped, v_t_at, v_t_impossibleAt, v_t_letter, .ref a_t_numbers, .ref a_t_plan, v_t_detail, v_t_keptReason, v_t_keptDetail, v_t_above, v_t_below, v_t_bestAbove, v_t_bestBelow, .ref a_t_bestPlan, .ref a_t_sort, .ref a_t_size, .ref a_t_whole, .ref a_t_parts])), (a_t_history, .inl (k 0, 1768, .inl t_history)), (a_t_ahead, .inl (k 0, 221, .inl t_ahead))] sz) (postV D k [(a_t, .inr (10, [v_t_thrown, .ref a_t_g, .ref a_t_ahead, .ref a_t_history, .int t_historyMany, .ref a_t_saved, v_t_hasSaved, .ref a_t_tape, v_t_taped, v_t_at, v_t_impossibleAt, v_t_letter, .ref a_t_numbers, .ref a_t_plan, v_t_detail, v_t_keptReason, v_t_keptDetail, v_t_above, v_t_below, v_t_bestAbove, v_t_bestBelow, .ref a_t_bestPlan, .ref a_t_sort, .ref a_t_size, .ref a_t_whole, .ref a_t_parts])), (a_t_history, .inl (k 0, 1768, .inl t_history)), (a_t_ahead, .inl (k 0, 221, .inl t_ahead))] [(a_t, .inr (10, [v_t_thrown, .ref a_t_g, .ref a_t_ahead, .ref a_t_history, .int r.2, .ref a_t_saved, v_t_hasSaved, .ref a_t_tape, v_t_taped, v_t_at, v_t_impossibleAt, v_t_letter, .ref a_t_numbers, .ref a_t_plan, v_t_detail, v_t_keptReason, v_t_keptDetail, v_t_above, v_t_below, v_t_bestAbove, v_t_bestBelow, .ref a_t_bestPlan, .ref a_t_sort, .ref a_t_size, .ref a_t_whole, .ref a_t_parts])), (a_t_history, .inl (k 0, 1768, .inl r.1)), (a_t_ahead, .inl (k 0, 221, .inl t_ahead))] sz) 0 0 (va_A [(a_t, .inr (10, [v_t_thrown, .ref a_t_g, .ref a_t_ahead, .ref a_t_history, .int t_historyMany, .ref a_t_saved, v_t_hasSaved, .ref a_t_tape, v_t_taped, v_t_at, v_t_impossibleAt, v_t_letter, .ref a_t_numbers, .ref a_t_plan, v_t_detail, v_t_keptReason, v_t_keptDetail, v_t_above, v_t_below, v_t_bestAbove, v_t_bestBelow, .ref a_t_bestPlan, .ref a_t_sort, .ref a_t_size, .ref a_t_whole, .ref a_t_parts])), (a_t_history, .inl (k 0, 1768, .inl t_history)), (a_t_ahead, .inl (k 0, 221, .inl t_ahead))] sz) := by
  refine Met.ofW (cc := cX11_changes) (maxL := 2) (ret := none) (by decide) rfl ?_
  intro p e s m args below meth c s₁ B hml hv
  obtain ⟨rfl, hsz, hP, hK, hD0⟩ := hv
  have hx := B.exec
  have hb := B.bytes
  have hr := B.returns
  have hts0 := atoms_spec (ws := (Cond.code yX11_changes cX11_changes 2 none :: Ts)) B.pre
  have hts : ∀ w ∈ uT, w.before _ s = true := fun w h => hts0 w (List.mem_cons_of_mem _ ((hTs w).mpr h))
  clear hts0
  have hown : s.vm.findClass RX11 = some m.cls := findClass_of_methodNamed B.named
  have hlocks := B.notSynchronized
  subst hsz
  have hD := hD0.self (sz := s.heap.size)
  generalize hAe : va_A [(a_t, .inr (10, [v_t_thrown, .ref a_t_g, .ref a_t_ahead, .ref a_t_history, .int t_historyMany, .ref a_t_saved, v_t_hasSaved, .ref a_t_tape, v_t_taped, v_t_at, v_t_impossibleAt, v_t_letter, .ref a_t_numbers, .ref a_t_plan, v_t_detail, v_t_keptReason, v_t_keptDetail, v_t_above, v_t_below, v_t_bestAbove, v_t_bestBelow, .ref a_t_bestPlan, .ref a_t_sort, .ref a_t_size, .ref a_t_whole, .ref a_t_parts])), (a_t_history, .inl (k 0, 1768, .inl t_history)), (a_t_ahead, .inl (k 0, 221, .inl t_ahead))] s.heap.size = A at hD ⊢
  have hA : ∀ q : Nat, s.heap.size ≤ q → A q := fun q h => by rw [← hAe]; exact Or.inr h
  have hH : HOK D A s.heap [(a_t, .inr (10, [v_t_thrown, .ref a_t_g, .ref a_t_ahead, .ref a_t_history, .int t_historyMany, .ref a_t_saved, v_t_hasSaved, .ref a_t_tape, v_t_taped, v_t_at, v_t_impossibleAt, v_t_letter, .ref a_t_numbers, .ref a_t_plan, v_t_detail, v_t_keptReason, v_t_keptDetail, v_t_above, v_t_below, v_t_bestAbove, v_t_bestBelow, .ref a_t_bestPlan, .ref a_t_sort, .ref a_t_size, .ref a_t_whole, .ref a_t_parts])), (a_t_history, .inl (k 0, 1768, .inl t_history)), (a_t_ahead, .inl (k 0, 221, .inl t_ahead))] s.heap [] := ⟨hP, hD, va_S.rf⟩
  have hl := lv_entry ([.ref a_t]) (n := 2) (Nat.le_of_ble_eq_true rfl)
  rw [lg_entry_eq]
  generalize (lg_sl ([.ref a_t]) ++ List.replicate (2 - (lg_sl ([.ref a_t])).length) Slot.unset).toArray = ls at hl ⊢
  have hl : lv_has ls 2 [(0, .ref a_t)] := hl
  generalize hQ : MQ below (postV D k [(a_t, .inr (10, [v_t_thrown, .ref a_t_g, .ref a_t_ahead, .ref a_t_history, .int t_historyMany, .ref a_t_saved, v_t_hasSaved, .ref a_t_tape, v_t_taped, v_t_at, v_t_impossibleAt, v_t_letter, .ref a_t_numbers, .ref a_t_plan, v_t_detail, v_t_keptReason, v_t_keptDetail, v_t_above, v_t_below, v_t_bestAbove, v_t_bestBelow, .ref a_t_bestPlan, .ref a_t_sort, .ref a_t_size, .ref a_t_whole, .ref a_t_parts])), (a_t_history, .inl (k 0, 1768, .inl t_history)), (a_t_ahead, .inl (k 0, 221, .inl t_ahead))] [(a_t, .inr (10, [v_t_thrown, .ref a_t_g, .ref a_t_ahead, .ref a_t_history, .int r.2, .ref a_t_saved, v_t_hasSaved, .ref a_t_tape, v_t_taped, v_t_at, v_t_impossibleAt, v_t_letter, .ref a_t_numbers, .ref a_t_plan, v_t_detail, v_t_keptReason, v_t_keptDetail, v_t_above, v_t_below, v_t_bestAbove, v_t_bestBelow, .ref a_t_bestPlan, .ref a_t_sort, .ref a_t_size, .ref a_t_whole, .ref a_t_parts])), (a_t_history, .inl (k 0, 1768, .inl r.1)), (a_t_ahead, .inl (k 0, 221, .inl t_ahead))] s.heap.size) (List.toArray [.ref a_t]) s 0 0 A = Q
  clear hP hD hD0
  suffices K : ∀ (H : Heap) (locs : List Loc), HOK D A s.heap [(a_t, .inr (10, [v_t_thrown, .ref a_t_g, .ref a_t_ahead, .ref a_t_history, .int t_historyMany, .ref a_t_saved, v_t_hasSaved, .ref a_t_tape, v_t_taped, v_t_at, v_t_impossibleAt, v_t_letter, .ref a_t_numbers, .ref a_t_plan, v_t_detail, v_t_keptReason, v_t_keptDetail, v_t_above, v_t_below, v_t_bestAbove, v_t_bestBelow, .ref a_t_bestPlan, .ref a_t_sort, .ref a_t_size, .ref a_t_whole, .ref a_t_parts])), (a_t_history, .inl (k 0, 1768, .inl t_history)), (a_t_ahead, .inl (k 0, 221, .inl t_ahead))] H locs → W p l e ({ frames := 0, cells := 0, slots := 0, locals := 0 } : Room) s m (List.toArray [.ref a_t]) below meth c H locs 0 0 Q (F0 m 0 ls []) from K s.heap [] hH
  intro H locs hH
  have L11 : ∀ (n : Nat), ∀ (kf : (Nat → Int32) → Option ((Nat → Int32) × Int32)) (y11_1 : Int32) (y11_t_history : Nat → Int32), fX11_changes_L11 n kf y11_1 y11_t_history = some r → (∀ (z11_t_history : Nat → Int32) (H : Heap) (locs : List Loc) (ls : Array Slot), kf z11_t_history = some r → HOK D A s.heap [(a_t, .inr (10, [v_t_thrown, .ref a_t_g, .ref a_t_ahead, .ref a_t_history, .int t_historyMany, .ref a_t_saved, v_t_hasSaved, .ref a_t_tape, v_t_taped, v_t_at, v_t_impossibleAt, v_t_letter, .ref a_t_numbers, .ref a_t_plan, v_t_detail, v_t_keptReason, v_t_keptDetail, v_t_above, v_t_below, v_t_bestAbove, v_t_bestBelow, .ref a_t_bestPlan, .ref a_t_sort, .ref a_t_size, .ref a_t_whole, .ref a_t_parts])), (a_t_history, .inl (k 0, 1768, .inl z11_t_history)), (a_t_ahead, .inl (k 0, 221, .inl t_ahead))] H locs → lv_has ls 2 [(0, .ref a_t)] → W p l e ({ frames := 0, cells := 0, slots := 0, locals := 0 } : Room) s m (List.toArray [.ref a_t]) below meth c H locs 0 0 Q (F0 m 40 ls [])) → ∀ (H : Heap) (locs : List Loc) (ls : Array Slot), HOK D A s.heap [(a_t, .inr (10, [v_t_thrown, .ref a_t_g, .ref a_t_ahead, .ref a_t_history, .int t_historyMany, .ref a_t_saved, v_t_hasSaved, .ref a_t_tape, v_t_taped, v_t_at, v_t_impossibleAt, v_t_letter, .ref a_t_numbers, .ref a_t_plan, v_t_detail, v_t_keptReason, v_t_keptDetail, v_t_above, v_t_below, v_t_bestAbove, v_t_bestBelow, .ref a_t_bestPlan, .ref a_t_sort, .ref a_t_size, .ref a_t_whole, .ref a_t_parts])), (a_t_history, .inl (k 0, 1768, .inl y11_t_history)), (a_t_ahead, .inl (k 0, 221, .inl t_ahead))] H locs → lv_has ls 2 [(0, .ref a_t), (1, .int y11_1)] → W p l e ({ frames := 0, cells := 0, slots := 0, locals := 0 } : Room) s m (List.toArray [.ref a_t]) below meth c H locs 0 0 Q (F0 m 11 ls []) := by
    intro n
    induction n with
    | zero =>
      intro kf y11_1 y11_t_history h
      exact absurd h (by rw [fX11_changes_L11]; exact fun q => by cases q)
    | succ n ih =>
      intro kf y11_1 y11_t_history h kk H locs ls hH hl
      rw [fX11_changes_L11] at h
      refine lv_iload_n hx hb dX11_changes_11 rfl (lv_at hl 1 rfl) ?_
      refine lv_sipush (v := 1547) hx hb dX11_changes_12 (by decide) ?_
      refine lv_icmp_ge (tgt := 40) hx hb dX11_changes_15 (by decide) (fun c2 => ?_) (fun c2 => ?_)
      · replace h := dc_pos c2 h
        exact kk y11_t_history H locs ls h hH (lv_sub hl [0] rfl)
      · replace h := dc_neg c2 h
        refine lv_aload_n hx hb dX11_changes_18 rfl (lv_at hl 0 rfl) ?_
        refine gk_get (ci := 10) (C := RX11) (T := TX11) (N := 26) hx hb hts u_ws_X11 hown hK hH 0 rfl rfl 3 (by decide) u_fl_X11_16 rfl dX11_changes_19 ?_
        refine lv_iload_n hx hb dX11_changes_22 rfl (lv_at hl 1 rfl) ?_
        refine lv_aload_n hx hb dX11_changes_23 rfl (lv_at hl 0 rfl) ?_
        refine gk_get (ci := 10) (C := RX11) (T := TX11) (N := 26) hx hb hts u_ws_X11 hown hK hH 0 rfl rfl 3 (by decide) u_fl_X11_16 rfl dX11_changes_24 ?_
        refine lv_iload_n hx hb dX11_changes_27 rfl (lv_at hl 1 rfl) ?_
        refine lv_sipush (v := 221) hx hb dX11_changes_28 (by decide) ?_
        refine lv_iadd hx hb dX11_changes_31 ?_
        obtain ⟨g3, h⟩ := dc_need h
        refine gk_iald hx hb hK hH 1 rfl (dk_in g3) dX11_changes_32 ?_
        obtain ⟨g4, h⟩ := dc_need h
        refine gk_iast hx hb hK hH 1 rfl (dk_in g4) dX11_changes_33 [(a_t, .inr (10, [v_t_thrown, .ref a_t_g, .ref a_t_ahead, .ref a_t_history, .int t_historyMany, .ref a_t_saved, v_t_hasSaved, .ref a_t_tape, v_t_taped, v_t_at, v_t_impossibleAt, v_t_letter, .ref a_t_numbers, .ref a_t_plan, v_t_detail, v_t_keptReason, v_t_keptDetail, v_t_above, v_t_below, v_t_bestAbove, v_t_bestBelow, .ref a_t_bestPlan, .ref a_t_sort, .ref a_t_size, .ref a_t_whole, .ref a_t_parts])), (a_t_history, .inl (k 0, 1768, .inl (upd y11_t_history y11_1.toNatClampNeg (y11_t_history (y11_1 + (221 : Int32)).toNatClampNeg)))), (a_t_ahead, .inl (k 0, 221, .inl t_ahead))] rfl (fun H locs hH => ?_)
        refine lv_iinc (v := (y11_1 + (1 : Int32))) (lv' := [(1, .int (y11_1 + (1 : Int32))), (0, .ref a_t)]) hx hb dX11_changes_34 hl (k := 1) rfl rfl (by decide) rfl (fun ls hl => ?_)
        refine lv_goto (tgt := 11) hx hb dX11_changes_37 (by decide) ?_
        exact ih kf (y11_1 + (1 : Int32)) (upd y11_t_history y11_1.toNatClampNeg (y11_t_history (y11_1 + (221 : Int32)).toNatClampNeg)) h kk H locs ls hH (lv_sub hl [1, 0] rfl)
  have L52 : ∀ (y52_t_historyMany : Int32) (n : Nat), ∀ (kf : (Nat → Int32) → Option ((Nat → Int32) × Int32)) (y52_1 : Int32) (y52_t_history : Nat → Int32), fX11_changes_L52 t_ahead y52_t_historyMany n kf y52_1 y52_t_history = some r → (∀ (z52_t_history : Nat → Int32) (H : Heap) (locs : List Loc) (ls : Array Slot), kf z52_t_history = some r → HOK D A s.heap [(a_t, .inr (10, [v_t_thrown, .ref a_t_g, .ref a_t_ahead, .ref a_t_history, .int y52_t_historyMany, .ref a_t_saved, v_t_hasSaved, .ref a_t_tape, v_t_taped, v_t_at, v_t_impossibleAt, v_t_letter, .ref a_t_numbers, .ref a_t_plan, v_t_detail, v_t_keptReason, v_t_keptDetail, v_t_above, v_t_below, v_t_bestAbove, v_t_bestBelow, .ref a_t_bestPlan, .ref a_t_sort, .ref a_t_size, .ref a_t_whole, .ref a_t_parts])), (a_t_history, .inl (k 0, 1768, .inl z52_t_history)), (a_t_ahead, .inl (k 0, 221, .inl t_ahead))] H locs → lv_has ls 2 [(0, .ref a_t)] → W p l e ({ frames := 0, cells := 0, slots := 0, locals := 0 } : Room) s m (List.toArray [.ref a_t]) below meth c H locs 0 0 Q (F0 m 86 ls [])) → ∀ (H : Heap) (locs : List Loc) (ls : Array Slot), HOK D A s.heap [(a_t, .inr (10, [v_t_thrown, .ref a_t_g, .ref a_t_ahead, .ref a_t_history, .int y52_t_historyMany, .ref a_t_saved, v_t_hasSaved, .ref a_t_tape, v_t_taped, v_t_at, v_t_impossibleAt, v_t_letter, .ref a_t_numbers, .ref a_t_plan, v_t_detail, v_t_keptReason, v_t_keptDetail, v_t_above, v_t_below, v_t_bestAbove, v_t_bestBelow, .ref a_t_bestPlan, .ref a_t_sort, .ref a_t_size, .ref a_t_whole, .ref a_t_parts])), (a_t_history, .inl (k 0, 1768, .inl y52_t_history)), (a_t_ahead, .inl (k 0, 221, .inl t_ahead))] H locs → lv_has ls 2 [(0, .ref a_t), (1, .int y52_1)] → W p l e ({ frames := 0, cells := 0, slots := 0, locals := 0 } : Room) s m (List.toArray [.ref a_t]) below meth c H locs 0 0 Q (F0 m 52 ls []) := by
    intro y52_t_historyMany n
    induction n with
    | zero =>
      intro kf y52_1 y52_t_history h
      exact absurd h (by rw [fX11_changes_L52]; exact fun q => by cases q)
    | succ n ih =>
      intro kf y52_1 y52_t_history h kk H locs ls hH hl
      rw [fX11_changes_L52] at h
      refine lv_iload_n hx hb dX11_changes_52 rfl (lv_at hl 1 rfl) ?_
      refine lv_sipush (v := 221) hx hb dX11_changes_53 (by decide) ?_
      refine lv_icmp_ge (tgt := 86) hx hb dX11_changes_56 (by decide) (fun c5 => ?_) (fun c5 => ?_)
      · replace h := dc_pos c5 h
        exact kk y52_t_history H locs ls h hH (lv_sub hl [0] rfl)
      · replace h := dc_neg c5 h
        refine lv_aload_n hx hb dX11_changes_59 rfl (lv_at hl 0 rfl) ?_
        refine gk_get (ci := 10) (C := RX11) (T := TX11) (N := 26) hx hb hts u_ws_X11 hown hK hH 0 rfl rfl 3 (by decide) u_fl_X11_16 rfl dX11_changes_60 ?_
        refine lv_sipush (v := 221) hx hb dX11_changes_63 (by decide) ?_
        refine lv_aload_n hx hb dX11_changes_66 rfl (lv_at hl 0 rfl) ?_
        refine gk_get (ci := 10) (C := RX11) (T := TX11) (N := 26) hx hb hts u_ws_X11 hown hK hH 0 rfl rfl 4 (by decide) u_fl_X11_59 rfl dX11_changes_67 ?_
        refine lv_imul hx hb dX11_changes_70 ?_
        refine lv_iload_n hx hb dX11_changes_71 rfl (lv_at hl 1 rfl) ?_
        refine lv_iadd hx hb dX11_changes_72 ?_
        refine lv_aload_n hx hb dX11_changes_73 rfl (lv_at hl 0 rfl) ?_
        refine gk_get (ci := 10) (C := RX11) (T := TX11) (N := 26) hx hb hts u_ws_X11 hown hK hH 0 rfl rfl 2 (by decide) u_fl_X11_13 rfl dX11_changes_74 ?_
        refine lv_iload_n hx hb dX11_changes_77 rfl (lv_at hl 1 rfl) ?_
        obtain ⟨g6, h⟩ := dc_need h
        refine gk_iald hx hb hK hH 2 rfl (dk_in g6) dX11_changes_78 ?_
        obtain ⟨g7, h⟩ := dc_need h
        refine gk_iast hx hb hK hH 1 rfl (dk_in g7) dX11_changes_79 [(a_t, .inr (10, [v_t_thrown, .ref a_t_g, .ref a_t_ahead, .ref a_t_history, .int y52_t_historyMany, .ref a_t_saved, v_t_hasSaved, .ref a_t_tape, v_t_taped, v_t_at, v_t_impossibleAt, v_t_letter, .ref a_t_numbers, .ref a_t_plan, v_t_detail, v_t_keptReason, v_t_keptDetail, v_t_above, v_t_below, v_t_bestAbove, v_t_bestBelow, .ref a_t_bestPlan, .ref a_t_sort, .ref a_t_size, .ref a_t_whole, .ref a_t_parts])), (a_t_history, .inl (k 0, 1768, .inl (upd y52_t_history (((221 : Int32) * y52_t_historyMany) + y52_1).toNatClampNeg (t_ahead y52_1.toNatClampNeg)))), (a_t_ahead, .inl (k 0, 221, .inl t_ahead))] rfl (fun H locs hH => ?_)
        refine lv_iinc (v := (y52_1 + (1 : Int32))) (lv' := [(1, .int (y52_1 + (1 : Int32))), (0, .ref a_t)]) hx hb dX11_changes_80 hl (k := 1) rfl rfl (by decide) rfl (fun ls hl => ?_)
        refine lv_goto (tgt := 52) hx hb dX11_changes_83 (by decide) ?_
        exact ih kf (y52_1 + (1 : Int32)) (upd y52_t_history (((221 : Int32) * y52_t_historyMany) + y52_1).toNatClampNeg (t_ahead y52_1.toNatClampNeg)) h kk H locs ls hH (lv_sub hl [1, 0] rfl)
  rw [fX11_changes] at h
  refine lv_aload_n hx hb dX11_changes_0 rfl (lv_at hl 0 rfl) ?_
  refine gk_get (ci := 10) (C := RX11) (T := TX11) (N := 26) hx hb hts u_ws_X11 hown hK hH 0 rfl rfl 4 (by decide) u_fl_X11_59 rfl dX11_changes_1 ?_
  refine lv_bipush (v := 8) hx hb dX11_changes_4 (by decide) ?_
  refine lv_icmp_ne (tgt := 50) hx hb dX11_changes_6 (by decide) (fun c1 => ?_) (fun c1 => ?_)
  · replace h := dc_neg c1 h
    refine lv_iconst (v := 0) hx hb dX11_changes_50 (by decide) ?_
    refine lv_istore_n (lv' := [(1, .int (0 : Int32)), (0, .ref a_t)]) hx hb dX11_changes_51 rfl hl (by decide) rfl (fun ls hl => ?_)
    refine L52 t_historyMany _ _ (0 : Int32) t_history h (fun z52_t_history H locs ls h hH hl => ?_) H locs ls hH (lv_sub hl [1, 0] rfl)
    refine lv_aload_n hx hb dX11_changes_86 rfl (lv_at hl 0 rfl) ?_
    refine lv_dup hx hb dX11_changes_87 rfl ?_
    refine gk_get (ci := 10) (C := RX11) (T := TX11) (N := 26) hx hb hts u_ws_X11 hown hK hH 0 rfl rfl 4 (by decide) u_fl_X11_59 rfl dX11_changes_88 ?_
    refine lv_iconst (v := 1) hx hb dX11_changes_91 (by decide) ?_
    refine lv_iadd hx hb dX11_changes_92 ?_
    refine gk_put (ci := 10) (C := RX11) (T := TX11) (N := 26) hx hb hts u_ws_X11 tyX11_ok nmX11 hown hK hH 0 rfl rfl 4 (by decide) u_fl_X11_59 rfl rfl rfl (Nat.le_of_ble_eq_true rfl) dX11_changes_93 [(a_t, .inr (10, [v_t_thrown, .ref a_t_g, .ref a_t_ahead, .ref a_t_history, .int (t_historyMany + (1 : Int32)), .ref a_t_saved, v_t_hasSaved, .ref a_t_tape, v_t_taped, v_t_at, v_t_impossibleAt, v_t_letter, .ref a_t_numbers, .ref a_t_plan, v_t_detail, v_t_keptReason, v_t_keptDetail, v_t_above, v_t_below, v_t_bestAbove, v_t_bestBelow, .ref a_t_bestPlan, .ref a_t_sort, .ref a_t_size, .ref a_t_whole, .ref a_t_parts])), (a_t_history, .inl (k 0, 1768, .inl z52_t_history)), (a_t_ahead, .inl (k 0, 221, .inl t_ahead))] rfl (fun H locs hH => ?_)
    have h := Option.some.inj h
    subst h
    exact ge_v hx hb hr hlocks hQ hK hH hAe dX11_changes_96
  · replace h := dc_pos c1 h
    refine lv_iconst (v := 0) hx hb dX11_changes_9 (by decide) ?_
    refine lv_istore_n (lv' := [(1, .int (0 : Int32)), (0, .ref a_t)]) hx hb dX11_changes_10 rfl hl (by decide) rfl (fun ls hl => ?_)
    refine L11 _ _ (0 : Int32) t_history h (fun z11_t_history H locs ls h hH hl => ?_) H locs ls hH (lv_sub hl [1, 0] rfl)
    refine lv_aload_n hx hb dX11_changes_40 rfl (lv_at hl 0 rfl) ?_
    refine lv_dup hx hb dX11_changes_41 rfl ?_
    refine gk_get (ci := 10) (C := RX11) (T := TX11) (N := 26) hx hb hts u_ws_X11 hown hK hH 0 rfl rfl 4 (by decide) u_fl_X11_59 rfl dX11_changes_42 ?_
    refine lv_iconst (v := 1) hx hb dX11_changes_45 (by decide) ?_
    refine lv_isub hx hb dX11_changes_46 ?_
    refine gk_put (ci := 10) (C := RX11) (T := TX11) (N := 26) hx hb hts u_ws_X11 tyX11_ok nmX11 hown hK hH 0 rfl rfl 4 (by decide) u_fl_X11_59 rfl rfl rfl (Nat.le_of_ble_eq_true rfl) dX11_changes_47 [(a_t, .inr (10, [v_t_thrown, .ref a_t_g, .ref a_t_ahead, .ref a_t_history, .int (t_historyMany - (1 : Int32)), .ref a_t_saved, v_t_hasSaved, .ref a_t_tape, v_t_taped, v_t_at, v_t_impossibleAt, v_t_letter, .ref a_t_numbers, .ref a_t_plan, v_t_detail, v_t_keptReason, v_t_keptDetail, v_t_above, v_t_below, v_t_bestAbove, v_t_bestBelow, .ref a_t_bestPlan, .ref a_t_sort, .ref a_t_size, .ref a_t_whole, .ref a_t_parts])), (a_t_history, .inl (k 0, 1768, .inl z11_t_history)), (a_t_ahead, .inl (k 0, 221, .inl t_ahead))] rfl (fun H locs hH => ?_)
    refine lv_iconst (v := 0) hx hb dX11_changes_50 (by decide) ?_
    refine lv_istore_n (lv' := [(1, .int (0 : Int32)), (0, .ref a_t)]) hx hb dX11_changes_51 rfl hl (by decide) rfl (fun ls hl => ?_)
    refine L52 (t_historyMany - (1 : Int32)) _ _ (0 : Int32) z11_t_history h (fun z52_t_history H locs ls h hH hl => ?_) H locs ls hH (lv_sub hl [1, 0] rfl)
    refine lv_aload_n hx hb dX11_changes_86 rfl (lv_at hl 0 rfl) ?_
    refine lv_dup hx hb dX11_changes_87 rfl ?_
    refine gk_get (ci := 10) (C := RX11) (T := TX11) (N := 26) hx hb hts u_ws_X11 hown hK hH 0 rfl rfl 4 (by decide) u_fl_X11_59 rfl dX11_changes_88 ?_
    refine lv_iconst (v := 1) hx hb dX11_changes_91 (by decide) ?_
    refine lv_iadd hx hb dX11_changes_92 ?_
    refine gk_put (ci := 10) (C := RX11) (T := TX11) (N := 26) hx hb hts u_ws_X11 tyX11_ok nmX11 hown hK hH 0 rfl rfl 4 (by decide) u_fl_X11_59 rfl rfl rfl (Nat.le_of_ble_eq_true rfl) dX11_changes_93 [(a_t, .inr (10, [v_t_thrown, .ref a_t_g, .ref a_t_ahead, .ref a_t_history, .int ((t_historyMany - (1 : Int32)) + (1 : Int32)), .ref a_t_saved, v_t_hasSaved, .ref a_t_tape, v_t_taped, v_t_at, v_t_impossibleAt, v_t_letter, .ref a_t_numbers, .ref a_t_plan, v_t_detail, v_t_keptReason, v_t_keptDetail, v_t_above, v_t_below, v_t_bestAbove, v_t_bestBelow, .ref a_t_bestPlan, .ref a_t_sort, .ref a_t_size, .ref a_t_whole, .ref a_t_parts])), (a_t_history, .inl (k 0, 1768, .inl z52_t_history)), (a_t_ahead, .inl (k 0, 221, .inl t_ahead))] rfl (fun H locs hH => ?_)
    have h := Option.some.inj h
    subst h
    exact ge_v hx hb hr hlocks hQ hK hH hAe dX11_changes_96
