theorem hd_X11_neighbors : yX11_neighbors.cls = RX11 ∧ yX11_neighbors.cls ≠ "java/lang/invoke/MethodHandle" ∧ yX11_neighbors.cls ≠ "java/lang/invoke/VarHandle" ∧ (parseMethodDescriptor yX11_neighbors.desc).map (fun d => d.parameters.length) = some 1 := by decide +kernel
set_option maxHeartbeats 4000000 in
set_option maxRecDepth 100000 in
theorem mX11_neighbors (l : Launch) (Ts : List Cond) (hTs : ∀ w, w ∈ Ts ↔ w ∈ uT) (D : va_G) (k : Nat → ClassId) (sz : Nat) (a_t : Nat) (a_t_g : Nat) (a_t_ahead : Nat) (a_t_history : Nat) (a_t_saved : Nat) (a_t_tape : Nat) (a_t_numbers : Nat) (a_t_plan : Nat) (a_t_bestPlan : Nat) (a_t_sort : Nat) (a_t_size : Nat) (a_t_whole : Nat) (a_t_parts : Nat) (t_g : Nat → Int32) (v_t_above : Value) (v_t_at : Value) (v_t_below : Value) (v_t_bestAbove : Value) (v_t_bestBelow : Value) (v_t_detail : Value) (v_t_hasSaved : Value) (v_t_historyMany : Value) (v_t_impossibleAt : Value) (v_t_keptDetail : Value) (v_t_keptReason : Value) (v_t_letter : Value) (v_t_taped : Value) (v_t_thrown : Value) (x1 : Int32) (r : Int32) (h : fX11_neighbors t_g x1 = some r) : Met l yX11_neighbors (Cond.code yX11_neighbors cX11_neighbors 4 (some .int) :: Ts) ({ frames := 1, cells := 0, slots := 0, locals := 22 } : Room) (preM D k [.ref a_t, .int x1] [(a_t, .inr (10, [v_t_thrown, .ref a_t_g, .ref a_t_ahead, .ref a_t_history, v_t_historyMany, .ref a_t_saved, v_t_hasSaved, .ref a_t_tape, v_t_taped, v_t_at, v_t_impossibleAt, v_t_letter, .ref a_t_numbers, .ref a_t_plan, v_t_detail, v_t_keptReason, v_t_keptDetail, v_t_above, v_t_below, v_t_bestAbove, v_t_bestBelow, .ref a_t_bestPlan, .ref a_t_sort, .ref a_t_size, .ref a_t_whole, .ref a_t_parts])), (a_t_g, .inl (k 0, 221, .inl t_g))] sz) (postI D k r [(a_t, .inr (10, [v_t_thrown, .ref a_t_g, .ref a_t_ahead, .ref a_t_history, v_t_historyMany, .ref a_t_saved, v_t_hasSaved, .ref a_t_tape, v_t_taped, v_t_at, v_t_impossibleAt, v_t_letter, .ref a_t_numbers, .ref a_t_plan, v_t_detail, v_t_keptReason, v_t_keptDetail, v_t_above, v_t_below, v_t_bestAbove, v_t_bestBelow, .ref a_t_bestPlan, .ref a_t_sort, .ref a_t_size, .ref a_t_whole, .ref a_t_parts])), (a_t_g, .inl (k 0, 221, .inl t_g))] [(a_t, .inr (10, [v_t_thrown, .ref a_t_g, .ref a_t_ahead, .ref a_t_history, v_t_historyMany, .ref a_t_saved, v_t_hasSaved, .ref a_t_tape, v_t_taped, v_t_at, v_t_impossibleAt, v_t_letter, .ref a_t_numbers, .ref a_t_plan, v_t_detail, v_t_keptReason, v_t_keptDetail, v_t_above, v_t_below, v_t_bestAbove, v_t_bestBelow, .ref a_t_bestPlan, .ref a_t_sort, .ref a_t_size, .ref a_t_whole, .ref a_t_parts])), (a_t_g, .inl (k 0, 221, .inl t_g))] sz) 0 0 (va_A [(a_t, .inr (10, [v_t_thrown, .ref a_t_g, .ref a_t_ahead, .ref a_t_history, v_t_historyMany, .ref a_t_saved, v_t_hasSaved, .ref a_t_tape, v_t_taped, v_t_at, v_t_impossibleAt, v_t_letter, .ref a_t_numbers, .ref a_t_plan, v_t_detail, v_t_keptReason, v_t_keptDetail, v_t_above, v_t_below, v_t_bestAbove, v_t_bestBelow, .ref a_t_bestPlan, .ref a_t_sort, .ref a_t_size, .ref a_t_whole, .ref a_t_parts])), (a_t_g, .inl (k 0, 221, .inl t_g))] sz) := by
  refine Met.ofW (cc := cX11_neighbors) (maxL := 4) (ret := (some .int)) (by decide) rfl ?_
  intro p e s m args below meth c s₁ B hml hv
  obtain ⟨rfl, hsz, hP, hK, hD0⟩ := hv
  have hx := B.exec
  have hb := B.bytes
  have hr := B.returns
  have hts0 := atoms_spec (ws := (Cond.code yX11_neighbors cX11_neighbors 4 (some .int) :: Ts)) B.pre
  have hts : ∀ w ∈ uT, w.before _ s = true := fun w h => hts0 w (List.mem_cons_of_mem _ ((hTs w).mpr h))
  clear hts0
  have hown : s.vm.findClass RX11 = some m.cls := findClass_of_methodNamed B.named
  have hlocks := B.notSynchronized
  subst hsz
  have hD := hD0.self (sz := s.heap.size)
  generalize hAe : va_A [(a_t, .inr (10, [v_t_thrown, .ref a_t_g, .ref a_t_ahead, .ref a_t_history, v_t_historyMany, .ref a_t_saved, v_t_hasSaved, .ref a_t_tape, v_t_taped, v_t_at, v_t_impossibleAt, v_t_letter, .ref a_t_numbers, .ref a_t_plan, v_t_detail, v_t_keptReason, v_t_keptDetail, v_t_above, v_t_below, v_t_bestAbove, v_t_bestBelow, .ref a_t_bestPlan, .ref a_t_sort, .ref a_t_size, .ref a_t_whole, .ref a_t_parts])), (a_t_g, .inl (k 0, 221, .inl t_g))] s.heap.size = A at hD ⊢
  have hA : ∀ q : Nat, s.heap.size ≤ q → A q := fun q h => by rw [← hAe]; exact Or.inr h
  have hH : HOK D A s.heap [(a_t, .inr (10, [v_t_thrown, .ref a_t_g, .ref a_t_ahead, .ref a_t_history, v_t_historyMany, .ref a_t_saved, v_t_hasSaved, .ref a_t_tape, v_t_taped, v_t_at, v_t_impossibleAt, v_t_letter, .ref a_t_numbers, .ref a_t_plan, v_t_detail, v_t_keptReason, v_t_keptDetail, v_t_above, v_t_below, v_t_bestAbove, v_t_bestBelow, .ref a_t_bestPlan, .ref a_t_sort, .ref a_t_size, .ref a_t_whole, .ref a_t_parts])), (a_t_g, .inl (k 0, 221, .inl t_g))] s.heap [] := ⟨hP, hD, va_S.rf⟩
  have hl := lv_entry ([.ref a_t, .int x1]) (n := 4) (Nat.le_of_ble_eq_true rfl)
  rw [lg_entry_eq]
  generalize (lg_sl ([.ref a_t, .int x1]) ++ List.replicate (4 - (lg_sl ([.ref a_t, .int x1])).length) Slot.unset).toArray = ls at hl ⊢
  have hl : lv_has ls 4 [(0, .ref a_t), (1, .int x1)] := hl
  generalize hQ : MQ below (postI D k r [(a_t, .inr (10, [v_t_thrown, .ref a_t_g, .ref a_t_ahead, .ref a_t_history, v_t_historyMany, .ref a_t_saved, v_t_hasSaved, .ref a_t_tape, v_t_taped, v_t_at, v_t_impossibleAt, v_t_letter, .ref a_t_numbers, .ref a_t_plan, v_t_detail, v_t_keptReason, v_t_keptDetail, v_t_above, v_t_below, v_t_bestAbove, v_t_bestBelow, .ref a_t_bestPlan, .ref a_t_sort, .ref a_t_size, .ref a_t_whole, .ref a_t_parts])), (a_t_g, .inl (k 0, 221, .inl t_g))] [(a_t, .inr (10, [v_t_thrown, .ref a_t_g, .ref a_t_ahead, .ref a_t_history, v_t_historyMany, .ref a_t_saved, v_t_hasSaved, .ref a_t_tape, v_t_taped, v_t_at, v_t_impossibleAt, v_t_letter, .ref a_t_numbers, .ref a_t_plan, v_t_detail, v_t_keptReason, v_t_keptDetail, v_t_above, v_t_below, v_t_bestAbove, v_t_bestBelow, .ref a_t_bestPlan, .ref a_t_sort, .ref a_t_size, .ref a_t_whole, .ref a_t_parts])), (a_t_g, .inl (k 0, 221, .inl t_g))] s.heap.size) (List.toArray [.ref a_t, .int x1]) s 0 0 A = Q
  clear hP hD hD0
  suffices K : ∀ (H : Heap) (locs : List Loc), HOK D A s.heap [(a_t, .inr (10, [v_t_thrown, .ref a_t_g, .ref a_t_ahead, .ref a_t_history, v_t_historyMany, .ref a_t_saved, v_t_hasSaved, .ref a_t_tape, v_t_taped, v_t_at, v_t_impossibleAt, v_t_letter, .ref a_t_numbers, .ref a_t_plan, v_t_detail, v_t_keptReason, v_t_keptDetail, v_t_above, v_t_below, v_t_bestAbove, v_t_bestBelow, .ref a_t_bestPlan, .ref a_t_sort, .ref a_t_size, .ref a_t_whole, .ref a_t_parts])), (a_t_g, .inl (k 0, 221, .inl t_g))] H locs → W p l e ({ frames := 1, cells := 0, slots := 0, locals := 22 } : Room) s m (List.toArray [.ref a_t, .int x1]) below meth c H locs 0 0 Q (F0 m 0 ls []) from K s.heap [] hH
  intro H locs hH
  have L4 : ∀ (n : Nat), ∀ (kf : Int32 → Option (Int32)) (y4_2 : Int32) (y4_3 : Int32), fX11_neighbors_L4 t_g x1 n kf y4_2 y4_3 = some r → (∀ (z4_2 : Int32) (H : Heap) (locs : List Loc) (ls : Array Slot), kf z4_2 = some r → HOK D A s.heap [(a_t, .inr (10, [v_t_thrown, .ref a_t_g, .ref a_t_ahead, .ref a_t_history, v_t_historyMany, .ref a_t_saved, v_t_hasSaved, .ref a_t_tape, v_t_taped, v_t_at, v_t_impossibleAt, v_t_letter, .ref a_t_numbers, .ref a_t_plan, v_t_detail, v_t_keptReason, v_t_keptDetail, v_t_above, v_t_below, v_t_bestAbove, v_t_bestBelow, .ref a_t_bestPlan, .ref a_t_sort, .ref a_t_size, .ref a_t_whole, .ref a_t_parts])), (a_t_g, .inl (k 0, 221, .inl t_g))] H locs → lv_has ls 4 [(2, .int z4_2)] → W p l e ({ frames := 1, cells := 0, slots := 0, locals := 22 } : Room) s m (List.toArray [.ref a_t, .int x1]) below meth c H locs 0 0 Q (F0 m 41 ls [])) → ∀ (H : Heap) (locs : List Loc) (ls : Array Slot), HOK D A s.heap [(a_t, .inr (10, [v_t_thrown, .ref a_t_g, .ref a_t_ahead, .ref a_t_history, v_t_historyMany, .ref a_t_saved, v_t_hasSaved, .ref a_t_tape, v_t_taped, v_t_at, v_t_impossibleAt, v_t_letter, .ref a_t_numbers, .ref a_t_plan, v_t_detail, v_t_keptReason, v_t_keptDetail, v_t_above, v_t_below, v_t_bestAbove, v_t_bestBelow, .ref a_t_bestPlan, .ref a_t_sort, .ref a_t_size, .ref a_t_whole, .ref a_t_parts])), (a_t_g, .inl (k 0, 221, .inl t_g))] H locs → lv_has ls 4 [(0, .ref a_t), (1, .int x1), (2, .int y4_2), (3, .int y4_3)] → W p l e ({ frames := 1, cells := 0, slots := 0, locals := 22 } : Room) s m (List.toArray [.ref a_t, .int x1]) below meth c H locs 0 0 Q (F0 m 4 ls []) := by
    intro n
    induction n with
    | zero =>
      intro kf y4_2 y4_3 h
      exact absurd h (by rw [fX11_neighbors_L4]; exact fun q => by cases q)
    | succ n ih =>
      intro kf y4_2 y4_3 h kk H locs ls hH hl
      rw [fX11_neighbors_L4] at h
      refine lv_iload_n hx hb dX11_neighbors_4 rfl (lv_at hl 3 rfl) ?_
      refine lv_aload_n hx hb dX11_neighbors_5 rfl (lv_at hl 0 rfl) ?_
      refine gk_get (ci := 10) (C := RX11) (T := TX11) (N := 26) hx hb hts u_ws_X11 hown hK hH 0 rfl rfl 1 (by decide) u_fl_X11_7 rfl dX11_neighbors_6 ?_
      refine lv_sipush (v := 204) hx hb dX11_neighbors_9 (by decide) ?_
      refine gk_iald hx hb hK hH 1 rfl (dk_in (by decide)) dX11_neighbors_12 ?_
      refine lv_icmp_ge (tgt := 41) hx hb dX11_neighbors_13 (by decide) (fun c1 => ?_) (fun c1 => ?_)
      · replace h := dc_pos c1 h
        exact kk y4_2 H locs ls h hH (lv_sub hl [2] rfl)
      · replace h := dc_neg c1 h
        refine lv_iload_n hx hb dX11_neighbors_16 rfl (lv_at hl 2 rfl) ?_
        refine lv_aload_n hx hb dX11_neighbors_17 rfl (lv_at hl 0 rfl) ?_
        refine lv_iload_n hx hb dX11_neighbors_18 rfl (lv_at hl 1 rfl) ?_
        refine lv_iload_n hx hb dX11_neighbors_19 rfl (lv_at hl 3 rfl) ?_
        obtain ⟨q2, hqq2, h⟩ := dc_bind h
        refine gc_Vi (ws' := [(a_t, .inr (10, [v_t_thrown, .ref a_t_g, .ref a_t_ahead, .ref a_t_history, v_t_historyMany, .ref a_t_saved, v_t_hasSaved, .ref a_t_tape, v_t_taped, v_t_at, v_t_impossibleAt, v_t_letter, .ref a_t_numbers, .ref a_t_plan, v_t_detail, v_t_keptReason, v_t_keptDetail, v_t_above, v_t_below, v_t_bestAbove, v_t_bestBelow, .ref a_t_bestPlan, .ref a_t_sort, .ref a_t_size, .ref a_t_whole, .ref a_t_parts])), (a_t_g, .inl (k 0, 221, .inl t_g))]) (As := [.int x1, .int y4_3]) (rest := [.int y4_2]) (n := 2) (ci := 10) (cq := (RX11, TX11, 26)) hTs ⟨hx, hb, hml, hown, hts⟩ (mX11_borderOf l Ts hTs D k H.size a_t a_t_g a_t_ahead a_t_history a_t_saved a_t_tape a_t_numbers a_t_plan a_t_bestPlan a_t_sort a_t_size a_t_whole a_t_parts t_g v_t_above v_t_at v_t_below v_t_bestAbove v_t_bestBelow v_t_detail v_t_hasSaved v_t_historyMany v_t_impossibleAt v_t_keptDetail v_t_keptReason v_t_letter v_t_taped v_t_thrown x1 y4_3 q2 hqq2) u_ml_X11_93 u_im_X11_borderOf u_se_X11_borderOf u_in_X11 u_co_X11_borderOf hd_X11_borderOf ⟨Nat.le_of_ble_eq_true rfl, Nat.le_of_ble_eq_true rfl⟩ ⟨rfl, rfl⟩ hK hH hA (cut0 (isC := [0, 1]) rfl rfl rfl) rfl rfl rfl rfl hl.1 (Nat.le_of_ble_eq_true rfl) dX11_neighbors_20 ⟨Nat.le_of_ble_eq_true rfl, Nat.le_of_ble_eq_true rfl⟩ (fun H locs hH => ?_)
        refine lv_if_le (tgt := 32) hx hb dX11_neighbors_23 (by decide) (fun c3 => ?_) (fun c3 => ?_)
        · replace h := dc_pos c3 h
          refine lv_iconst (v := 0) hx hb dX11_neighbors_32 (by decide) ?_
          refine lv_ior hx hb dX11_neighbors_33 ?_
          refine lv_istore_n (lv' := [(2, .int (y4_2 ||| (0 : Int32))), (0, .ref a_t), (1, .int x1), (3, .int y4_3)]) hx hb dX11_neighbors_34 rfl hl (by decide) rfl (fun ls hl => ?_)
          refine lv_iinc (v := (y4_3 + (1 : Int32))) (lv' := [(3, .int (y4_3 + (1 : Int32))), (2, .int (y4_2 ||| (0 : Int32))), (0, .ref a_t), (1, .int x1)]) hx hb dX11_neighbors_35 hl (k := 3) rfl rfl (by decide) rfl (fun ls hl => ?_)
          refine lv_goto (tgt := 4) hx hb dX11_neighbors_38 (by decide) ?_
          exact ih kf (y4_2 ||| (0 : Int32)) (y4_3 + (1 : Int32)) h kk H locs ls hH (lv_sub hl [2, 3, 1, 0] rfl)
        · replace h := dc_neg c3 h
          refine lv_iconst (v := 1) hx hb dX11_neighbors_26 (by decide) ?_
          refine lv_iload_n hx hb dX11_neighbors_27 rfl (lv_at hl 3 rfl) ?_
          refine lv_ishl hx hb dX11_neighbors_28 ?_
          refine lv_goto (tgt := 33) hx hb dX11_neighbors_29 (by decide) ?_
          refine lv_ior hx hb dX11_neighbors_33 ?_
          refine lv_istore_n (lv' := [(2, .int (y4_2 ||| ((1 : Int32) <<< (y4_3 &&& 31)))), (0, .ref a_t), (1, .int x1), (3, .int y4_3)]) hx hb dX11_neighbors_34 rfl hl (by decide) rfl (fun ls hl => ?_)
          refine lv_iinc (v := (y4_3 + (1 : Int32))) (lv' := [(3, .int (y4_3 + (1 : Int32))), (2, .int (y4_2 ||| ((1 : Int32) <<< (y4_3 &&& 31)))), (0, .ref a_t), (1, .int x1)]) hx hb dX11_neighbors_35 hl (k := 3) rfl rfl (by decide) rfl (fun ls hl => ?_)
          refine lv_goto (tgt := 4) hx hb dX11_neighbors_38 (by decide) ?_
          exact ih kf (y4_2 ||| ((1 : Int32) <<< (y4_3 &&& 31))) (y4_3 + (1 : Int32)) h kk H locs ls hH (lv_sub hl [2, 3, 1, 0] rfl)
  rw [fX11_neighbors] at h
  refine lv_iconst (v := 0) hx hb dX11_neighbors_0 (by decide) ?_
  refine lv_istore_n (lv' := [(2, .int (0 : Int32)), (0, .ref a_t), (1, .int x1)]) hx hb dX11_neighbors_1 rfl hl (by decide) rfl (fun ls hl => ?_)
  refine lv_iconst (v := 0) hx hb dX11_neighbors_2 (by decide) ?_
  refine lv_istore_n (lv' := [(3, .int (0 : Int32)), (2, .int (0 : Int32)), (0, .ref a_t), (1, .int x1)]) hx hb dX11_neighbors_3 rfl hl (by decide) rfl (fun ls hl => ?_)
  refine L4 _ _ (0 : Int32) (0 : Int32) h (fun z4_2 H locs ls h hH hl => ?_) H locs ls hH (lv_sub hl [2, 3, 1, 0] rfl)
  refine lv_iload_n hx hb dX11_neighbors_41 rfl (lv_at hl 0 rfl) ?_
  have h := Option.some.inj h
  subst h
  exact ge_i hx hb hr hlocks hQ hK hH hAe rfl dX11_neighbors_42
theorem hd_X11_districtOf : yX11_districtOf.cls = RX11 ∧ yX11_districtOf.cls ≠ "java/lang/invoke/MethodHandle" ∧ yX11_districtOf.cls ≠ "java/lang/invoke/VarHandle" ∧ (parseMethodDescriptor yX11_districtOf.desc).map (fun d => d.parameters.length) = some 1 := by decide +kernel
set_option maxHeartbeats 4000000 in
set_option maxRecDepth 100000 in
theorem mX11_districtOf (l : Launch) (Ts : List Cond) (hTs : ∀ w, w ∈ Ts ↔ w ∈ uT) (D : va_G) (k : Nat → ClassId) (sz : Nat) (a_t : Nat) (a_t_g : Nat) (a_t_ahead : Nat) (a_t_history : Nat) (a_t_saved : Nat) (a_t_tape : Nat) (a_t_numbers : Nat) (a_t_plan : Nat) (a_t_bestPlan : Nat) (a_t_sort : Nat) (a_t_size : Nat) (a_t_whole : Nat) (a_t_parts : Nat) (t_g : Nat → Int32) (v_t_above : Value) (v_t_at : Value) (v_t_below : Value) (v_t_bestAbove : Value) (v_t_bestBelow : Value) (v_t_detail : Value) (v_t_hasSaved : Value) (v_t_historyMany : Value) (v_t_impossibleAt : Value) (v_t_keptDetail : Value) (v_t_keptReason : Value) (v_t_letter : Value) (v_t_taped : Value) (v_t_thrown : Value) (x1 : Int32) (r : Int32) (h : fX11_districtOf t_g x1 = some r) : Met l yX11_districtOf (Cond.code yX11_districtOf cX11_districtOf 2 (some .int) :: Ts) ({ frames := 0, cells := 0, slots := 0, locals := 0 } : Room) (preM D k [.ref a_t, .int x1] [(a_t, .inr (10, [v_t_thrown, .ref a_t_g, .ref a_t_ahead, .ref a_t_history, v_t_historyMany, .ref a_t_saved, v_t_hasSaved, .ref a_t_tape, v_t_taped, v_t_at, v_t_impossibleAt, v_t_letter, .ref a_t_numbers, .ref a_t_plan, v_t_detail, v_t_keptReason, v_t_keptDetail, v_t_above, v_t_below, v_t_bestAbove, v_t_bestBelow, .ref a_t_bestPlan, .ref a_t_sort, .ref a_t_size, .ref a_t_whole, .ref a_t_parts])), (a_t_g, .inl (k 0, 221, .inl t_g))] sz) (postI D k r [(a_t, .inr (10, [v_t_thrown, .ref a_t_g, .ref a_t_ahead, .ref a_t_history, v_t_historyMany, .ref a_t_saved, v_t_hasSaved, .ref a_t_tape, v_t_taped, v_t_at, v_t_impossibleAt, v_t_letter, .ref a_t_numbers, .ref a_t_plan, v_t_detail, v_t_keptReason, v_t_keptDetail, v_t_above, v_t_below, v_t_bestAbove, v_t_bestBelow, .ref a_t_bestPlan, .ref a_t_sort, .ref a_t_size, .ref a_t_whole, .ref a_t_parts])), (a_t_g, .inl (k 0, 221, .inl t_g))] [(a_t, .inr (10, [v_t_thrown, .ref a_t_g, .ref a_t_ahead, .ref a_t_history, v_t_historyMany, .ref a_t_saved, v_t_hasSaved, .ref a_t_tape, v_t_taped, v_t_at, v_t_impossibleAt, v_t_letter, .ref a_t_numbers, .ref a_t_plan, v_t_detail, v_t_keptReason, v_t_keptDetail, v_t_above, v_t_below, v_t_bestAbove, v_t_bestBelow, .ref a_t_bestPlan, .ref a_t_sort, .ref a_t_size, .ref a_t_whole, .ref a_t_parts])), (a_t_g, .inl (k 0, 221, .inl t_g))] sz) 0 0 (va_A [(a_t, .inr (10, [v_t_thrown, .ref a_t_g, .ref a_t_ahead, .ref a_t_history, v_t_historyMany, .ref a_t_saved, v_t_hasSaved, .ref a_t_tape, v_t_taped, v_t_at, v_t_impossibleAt, v_t_letter, .ref a_t_numbers, .ref a_t_plan, v_t_detail, v_t_keptReason, v_t_keptDetail, v_t_above, v_t_below, v_t_bestAbove, v_t_bestBelow, .ref a_t_bestPlan, .ref a_t_sort, .ref a_t_size, .ref a_t_whole, .ref a_t_parts])), (a_t_g, .inl (k 0, 221, .inl t_g))] sz) := by
  refine Met.ofW (cc := cX11_districtOf) (maxL := 2) (ret := (some .int)) (by decide) rfl ?_
  intro p e s m args below meth c s₁ B hml hv
  obtain ⟨rfl, hsz, hP, hK, hD0⟩ := hv
  have hx := B.exec
  have hb := B.bytes
  have hr := B.returns
  have hts0 := atoms_spec (ws := (Cond.code yX11_districtOf cX11_districtOf 2 (some .int) :: Ts)) B.pre
  have hts : ∀ w ∈ uT, w.before _ s = true := fun w h => hts0 w (List.mem_cons_of_mem _ ((hTs w).mpr h))
  clear hts0
  have hown : s.vm.findClass RX11 = some m.cls := findClass_of_methodNamed B.named
  have hlocks := B.notSynchronized
  subst hsz
  have hD := hD0.self (sz := s.heap.size)
  generalize hAe : va_A [(a_t, .inr (10, [v_t_thrown, .ref a_t_g, .ref a_t_ahead, .ref a_t_history, v_t_historyMany, .ref a_t_saved, v_t_hasSaved, .ref a_t_tape, v_t_taped, v_t_at, v_t_impossibleAt, v_t_letter, .ref a_t_numbers, .ref a_t_plan, v_t_detail, v_t_keptReason, v_t_keptDetail, v_t_above, v_t_below, v_t_bestAbove, v_t_bestBelow, .ref a_t_bestPlan, .ref a_t_sort, .ref a_t_size, .ref a_t_whole, .ref a_t_parts])), (a_t_g, .inl (k 0, 221, .inl t_g))] s.heap.size = A at hD ⊢
  have hA : ∀ q : Nat, s.heap.size ≤ q → A q := fun q h => by rw [← hAe]; exact Or.inr h
  have hH : HOK D A s.heap [(a_t, .inr (10, [v_t_thrown, .ref a_t_g, .ref a_t_ahead, .ref a_t_history, v_t_historyMany, .ref a_t_saved, v_t_hasSaved, .ref a_t_tape, v_t_taped, v_t_at, v_t_impossibleAt, v_t_letter, .ref a_t_numbers, .ref a_t_plan, v_t_detail, v_t_keptReason, v_t_keptDetail, v_t_above, v_t_below, v_t_bestAbove, v_t_bestBelow, .ref a_t_bestPlan, .ref a_t_sort, .ref a_t_size, .ref a_t_whole, .ref a_t_parts])), (a_t_g, .inl (k 0, 221, .inl t_g))] s.heap [] := ⟨hP, hD, va_S.rf⟩
  have hl := lv_entry ([.ref a_t, .int x1]) (n := 2) (Nat.le_of_ble_eq_true rfl)
  rw [lg_entry_eq]
  generalize (lg_sl ([.ref a_t, .int x1]) ++ List.replicate (2 - (lg_sl ([.ref a_t, .int x1])).length) Slot.unset).toArray = ls at hl ⊢
  have hl : lv_has ls 2 [(0, .ref a_t), (1, .int x1)] := hl
  generalize hQ : MQ below (postI D k r [(a_t, .inr (10, [v_t_thrown, .ref a_t_g, .ref a_t_ahead, .ref a_t_history, v_t_historyMany, .ref a_t_saved, v_t_hasSaved, .ref a_t_tape, v_t_taped, v_t_at, v_t_impossibleAt, v_t_letter, .ref a_t_numbers, .ref a_t_plan, v_t_detail, v_t_keptReason, v_t_keptDetail, v_t_above, v_t_below, v_t_bestAbove, v_t_bestBelow, .ref a_t_bestPlan, .ref a_t_sort, .ref a_t_size, .ref a_t_whole, .ref a_t_parts])), (a_t_g, .inl (k 0, 221, .inl t_g))] [(a_t, .inr (10, [v_t_thrown, .ref a_t_g, .ref a_t_ahead, .ref a_t_history, v_t_historyMany, .ref a_t_saved, v_t_hasSaved, .ref a_t_tape, v_t_taped, v_t_at, v_t_impossibleAt, v_t_letter, .ref a_t_numbers, .ref a_t_plan, v_t_detail, v_t_keptReason, v_t_keptDetail, v_t_above, v_t_below, v_t_bestAbove, v_t_bestBelow, .ref a_t_bestPlan, .ref a_t_sort, .ref a_t_size, .ref a_t_whole, .ref a_t_parts])), (a_t_g, .inl (k 0, 221, .inl t_g))] s.heap.size) (List.toArray [.ref a_t, .int x1]) s 0 0 A = Q
  clear hP hD hD0
  suffices K : ∀ (H : Heap) (locs : List Loc), HOK D A s.heap [(a_t, .inr (10, [v_t_thrown, .ref a_t_g, .ref a_t_ahead, .ref a_t_history, v_t_historyMany, .ref a_t_saved, v_t_hasSaved, .ref a_t_tape, v_t_taped, v_t_at, v_t_impossibleAt, v_t_letter, .ref a_t_numbers, .ref a_t_plan, v_t_detail, v_t_keptReason, v_t_keptDetail, v_t_above, v_t_below, v_t_bestAbove, v_t_bestBelow, .ref a_t_bestPlan, .ref a_t_sort, .ref a_t_size, .ref a_t_whole, .ref a_t_parts])), (a_t_g, .inl (k 0, 221, .inl t_g))] H locs → W p l e ({ frames := 0, cells := 0, slots := 0, locals := 0 } : Room) s m (List.toArray [.ref a_t, .int x1]) below meth c H locs 0 0 Q (F0 m 0 ls []) from K s.heap [] hH
  intro H locs hH
  rw [fX11_districtOf] at h
  refine lv_aload_n hx hb dX11_districtOf_0 rfl (lv_at hl 0 rfl) ?_
  refine gk_get (ci := 10) (C := RX11) (T := TX11) (N := 26) hx hb hts u_ws_X11 hown hK hH 0 rfl rfl 1 (by decide) u_fl_X11_7 rfl dX11_districtOf_1 ?_
  refine lv_sipush (v := 219) hx hb dX11_districtOf_4 (by decide) ?_
  refine gk_iald hx hb hK hH 1 rfl (dk_in (by decide)) dX11_districtOf_7 ?_
  refine lv_iconst (v := 1) hx hb dX11_districtOf_8 (by decide) ?_
  refine lv_icmp_ne (tgt := 25) hx hb dX11_districtOf_9 (by decide) (fun c1 => ?_) (fun c1 => ?_)
  · replace h := dc_neg c1 h
    refine lv_iconst (v := -1) hx hb dX11_districtOf_25 (by decide) ?_
    have h := Option.some.inj h
    subst h
    exact ge_i hx hb hr hlocks hQ hK hH hAe rfl dX11_districtOf_26
  · replace h := dc_pos c1 h
    refine lv_aload_n hx hb dX11_districtOf_12 rfl (lv_at hl 0 rfl) ?_
    refine gk_get (ci := 10) (C := RX11) (T := TX11) (N := 26) hx hb hts u_ws_X11 hown hK hH 0 rfl rfl 1 (by decide) u_fl_X11_7 rfl dX11_districtOf_13 ?_
    refine lv_sipush (v := 207) hx hb dX11_districtOf_16 (by decide) ?_
    refine lv_iload_n hx hb dX11_districtOf_19 rfl (lv_at hl 1 rfl) ?_
    refine lv_iadd hx hb dX11_districtOf_20 ?_
    obtain ⟨g2, h⟩ := dc_need h
    refine gk_iald hx hb hK hH 1 rfl (dk_in g2) dX11_districtOf_21 ?_
    refine lv_goto (tgt := 26) hx hb dX11_districtOf_22 (by decide) ?_
    have h := Option.some.inj h
    subst h
    exact ge_i hx hb hr hlocks hQ hK hH hAe rfl dX11_districtOf_26
theorem hd_X11_unit : yX11_unit.cls = RX11 ∧ yX11_unit.cls ≠ "java/lang/invoke/MethodHandle" ∧ yX11_unit.cls ≠ "java/lang/invoke/VarHandle" ∧ (parseMethodDescriptor yX11_unit.desc).map (fun d => d.parameters.length) = some 2 := by decide +kernel
set_option maxHeartbeats 4000000 in
set_option maxRecDepth 100000 in
theorem mX11_unit (l : Launch) (Ts : List Cond) (hTs : ∀ w, w ∈ Ts ↔ w ∈ uT) (D : va_G) (k : Nat → ClassId) (sz : Nat) (a_t : Nat) (a_t_g : Nat) (a_t_ahead : Nat) (a_t_history : Nat) (a_t_saved : Nat) (a_t_tape : Nat) (a_t_numbers : Nat) (a_t_plan : Nat) (a_t_bestPlan : Nat) (a_t_sort : Nat) (a_t_size : Nat) (a_t_whole : Nat) (a_t_parts : Nat) (t_g : Nat → Int32) (v_t_above : Value) (v_t_at : Value) (v_t_below : Value) (v_t_bestAbove : Value) (v_t_bestBelow : Value) (v_t_detail : Value) (v_t_hasSaved : Value) (v_t_historyMany : Value) (v_t_impossibleAt : Value) (v_t_keptDetail : Value) (v_t_keptReason : Value) (v_t_letter : Value) (v_t_taped : Value) (v_t_thrown : Value) (x1 : Int32) (x2 : Int32) (r : Int32 × Int32) (h : fX11_unit t_g x1 x2 = some r) : Met l yX11_unit (Cond.code yX11_unit cX11_unit 5 (some .int) :: Ts) ({ frames := 2, cells := 0, slots := 0, locals := 45 } : Room) (preM D k [.ref a_t, .int x1, .int x2] [(a_t, .inr (10, [v_t_thrown, .ref a_t_g, .ref a_t_ahead, .ref a_t_history, v_t_historyMany, .ref a_t_saved, v_t_hasSaved, .ref a_t_tape, v_t_taped, v_t_at, v_t_impossibleAt, v_t_letter, .ref a_t_numbers, .ref a_t_plan, v_t_detail, v_t_keptReason, v_t_keptDetail, v_t_above, v_t_below, v_t_bestAbove, v_t_bestBelow, .ref a_t_bestPlan, .ref a_t_sort, .ref a_t_size, .ref a_t_whole, .ref a_t_parts])), (a_t_g, .inl (k 0, 221, .inl t_g))] sz) (postI D k r.1 [(a_t, .inr (10, [v_t_thrown, .ref a_t_g, .ref a_t_ahead, .ref a_t_history, v_t_historyMany, .ref a_t_saved, v_t_hasSaved, .ref a_t_tape, v_t_taped, v_t_at, v_t_impossibleAt, v_t_letter, .ref a_t_numbers, .ref a_t_plan, v_t_detail, v_t_keptReason, v_t_keptDetail, v_t_above, v_t_below, v_t_bestAbove, v_t_bestBelow, .ref a_t_bestPlan, .ref a_t_sort, .ref a_t_size, .ref a_t_whole, .ref a_t_parts])), (a_t_g, .inl (k 0, 221, .inl t_g))] [(a_t, .inr (10, [.int r.2, .ref a_t_g, .ref a_t_ahead, .ref a_t_history, v_t_historyMany, .ref a_t_saved, v_t_hasSaved, .ref a_t_tape, v_t_taped, v_t_at, v_t_impossibleAt, v_t_letter, .ref a_t_numbers, .ref a_t_plan, v_t_detail, v_t_keptReason, v_t_keptDetail, v_t_above, v_t_below, v_t_bestAbove, v_t_bestBelow, .ref a_t_bestPlan, .ref a_t_sort, .ref a_t_size, .ref a_t_whole, .ref a_t_parts])), (a_t_g, .inl (k 0, 221, .inl t_g))] sz) 0 0 (va_A [(a_t, .inr (10, [v_t_thrown, .ref a_t_g, .ref a_t_ahead, .ref a_t_history, v_t_historyMany, .ref a_t_saved, v_t_hasSaved, .ref a_t_tape, v_t_taped, v_t_at, v_t_impossibleAt, v_t_letter, .ref a_t_numbers, .ref a_t_plan, v_t_detail, v_t_keptReason, v_t_keptDetail, v_t_above, v_t_below, v_t_bestAbove, v_t_bestBelow, .ref a_t_bestPlan, .ref a_t_sort, .ref a_t_size, .ref a_t_whole, .ref a_t_parts])), (a_t_g, .inl (k 0, 221, .inl t_g))] sz) := by
  refine Met.ofW (cc := cX11_unit) (maxL := 5) (ret := (some .int)) (by decide) rfl ?_
  intro p e s m args below meth c s₁ B hml hv
  obtain ⟨rfl, hsz, hP, hK, hD0⟩ := hv
  have hx := B.exec
  have hb := B.bytes
  have hr := B.returns
  have hts0 := atoms_spec (ws := (Cond.code yX11_unit cX11_unit 5 (some .int) :: Ts)) B.pre
  have hts : ∀ w ∈ uT, w.before _ s = true := fun w h => hts0 w (List.mem_cons_of_mem _ ((hTs w).mpr h))
  clear hts0
  have hown : s.vm.findClass RX11 = some m.cls := findClass_of_methodNamed B.named
  have hlocks := B.notSynchronized
  subst hsz
  have hD := hD0.self (sz := s.heap.size)
  generalize hAe : va_A [(a_t, .inr (10, [v_t_thrown, .ref a_t_g, .ref a_t_ahead, .ref a_t_history, v_t_historyMany, .ref a_t_saved, v_t_hasSaved, .ref a_t_tape, v_t_taped, v_t_at, v_t_impossibleAt, v_t_letter, .ref a_t_numbers, .ref a_t_plan, v_t_detail, v_t_keptReason, v_t_keptDetail, v_t_above, v_t_below, v_t_bestAbove, v_t_bestBelow, .ref a_t_bestPlan, .ref a_t_sort, .ref a_t_size, .ref a_t_whole, .ref a_t_parts])), (a_t_g, .inl (k 0, 221, .inl t_g))] s.heap.size = A at hD ⊢
  have hA : ∀ q : Nat, s.heap.size ≤ q → A q := fun q h => by rw [← hAe]; exact Or.inr h
  have hH : HOK D A s.heap [(a_t, .inr (10, [v_t_thrown, .ref a_t_g, .ref a_t_ahead, .ref a_t_history, v_t_historyMany, .ref a_t_saved, v_t_hasSaved, .ref a_t_tape, v_t_taped, v_t_at, v_t_impossibleAt, v_t_letter, .ref a_t_numbers, .ref a_t_plan, v_t_detail, v_t_keptReason, v_t_keptDetail, v_t_above, v_t_below, v_t_bestAbove, v_t_bestBelow, .ref a_t_bestPlan, .ref a_t_sort, .ref a_t_size, .ref a_t_whole, .ref a_t_parts])), (a_t_g, .inl (k 0, 221, .inl t_g))] s.heap [] := ⟨hP, hD, va_S.rf⟩
  have hl := lv_entry ([.ref a_t, .int x1, .int x2]) (n := 5) (Nat.le_of_ble_eq_true rfl)
  rw [lg_entry_eq]
  generalize (lg_sl ([.ref a_t, .int x1, .int x2]) ++ List.replicate (5 - (lg_sl ([.ref a_t, .int x1, .int x2])).length) Slot.unset).toArray = ls at hl ⊢
  have hl : lv_has ls 5 [(0, .ref a_t), (1, .int x1), (2, .int x2)] := hl
  generalize hQ : MQ below (postI D k r.1 [(a_t, .inr (10, [v_t_thrown, .ref a_t_g, .ref a_t_ahead, .ref a_t_history, v_t_historyMany, .ref a_t_saved, v_t_hasSaved, .ref a_t_tape, v_t_taped, v_t_at, v_t_impossibleAt, v_t_letter, .ref a_t_numbers, .ref a_t_plan, v_t_detail, v_t_keptReason, v_t_keptDetail, v_t_above, v_t_below, v_t_bestAbove, v_t_bestBelow, .ref a_t_bestPlan, .ref a_t_sort, .ref a_t_size, .ref a_t_whole, .ref a_t_parts])), (a_t_g, .inl (k 0, 221, .inl t_g))] [(a_t, .inr (10, [.int r.2, .ref a_t_g, .ref a_t_ahead, .ref a_t_history, v_t_historyMany, .ref a_t_saved, v_t_hasSaved, .ref a_t_tape, v_t_taped, v_t_at, v_t_impossibleAt, v_t_letter, .ref a_t_numbers, .ref a_t_plan, v_t_detail, v_t_keptReason, v_t_keptDetail, v_t_above, v_t_below, v_t_bestAbove, v_t_bestBelow, .ref a_t_bestPlan, .ref a_t_sort, .ref a_t_size, .ref a_t_whole, .ref a_t_parts])), (a_t_g, .inl (k 0, 221, .inl t_g))] s.heap.size) (List.toArray [.ref a_t, .int x1, .int x2]) s 0 0 A = Q
  clear hP hD hD0
  suffices K : ∀ (H : Heap) (locs : List Loc), HOK D A s.heap [(a_t, .inr (10, [v_t_thrown, .ref a_t_g, .ref a_t_ahead, .ref a_t_history, v_t_historyMany, .ref a_t_saved, v_t_hasSaved, .ref a_t_tape, v_t_taped, v_t_at, v_t_impossibleAt, v_t_letter, .ref a_t_numbers, .ref a_t_plan, v_t_detail, v_t_keptReason, v_t_keptDetail, v_t_above, v_t_below, v_t_bestAbove, v_t_bestBelow, .ref a_t_bestPlan, .ref a_t_sort, .ref a_t_size, .ref a_t_whole, .ref a_t_parts])), (a_t_g, .inl (k 0, 221, .inl t_g))] H locs → W p l e ({ frames := 2, cells := 0, slots := 0, locals := 45 } : Room) s m (List.toArray [.ref a_t, .int x1, .int x2]) below meth c H locs 0 0 Q (F0 m 0 ls []) from K s.heap [] hH
  intro H locs hH
  have L96 : ∀ (n : Nat), ∀ (kf : Int32 → Option (Int32 × Int32)) (y96_3 : Int32) (y96_4 : Int32), fX11_unit_L96 t_g x1 n kf y96_3 y96_4 = some r → (∀ (z96_3 : Int32) (H : Heap) (locs : List Loc) (ls : Array Slot), kf z96_3 = some r → HOK D A s.heap [(a_t, .inr (10, [v_t_thrown, .ref a_t_g, .ref a_t_ahead, .ref a_t_history, v_t_historyMany, .ref a_t_saved, v_t_hasSaved, .ref a_t_tape, v_t_taped, v_t_at, v_t_impossibleAt, v_t_letter, .ref a_t_numbers, .ref a_t_plan, v_t_detail, v_t_keptReason, v_t_keptDetail, v_t_above, v_t_below, v_t_bestAbove, v_t_bestBelow, .ref a_t_bestPlan, .ref a_t_sort, .ref a_t_size, .ref a_t_whole, .ref a_t_parts])), (a_t_g, .inl (k 0, 221, .inl t_g))] H locs → lv_has ls 5 [(0, .ref a_t), (3, .int z96_3)] → W p l e ({ frames := 2, cells := 0, slots := 0, locals := 45 } : Room) s m (List.toArray [.ref a_t, .int x1, .int x2]) below meth c H locs 0 0 Q (F0 m 145 ls [])) → ∀ (H : Heap) (locs : List Loc) (ls : Array Slot), HOK D A s.heap [(a_t, .inr (10, [v_t_thrown, .ref a_t_g, .ref a_t_ahead, .ref a_t_history, v_t_historyMany, .ref a_t_saved, v_t_hasSaved, .ref a_t_tape, v_t_taped, v_t_at, v_t_impossibleAt, v_t_letter, .ref a_t_numbers, .ref a_t_plan, v_t_detail, v_t_keptReason, v_t_keptDetail, v_t_above, v_t_below, v_t_bestAbove, v_t_bestBelow, .ref a_t_bestPlan, .ref a_t_sort, .ref a_t_size, .ref a_t_whole, .ref a_t_parts])), (a_t_g, .inl (k 0, 221, .inl t_g))] H locs → lv_has ls 5 [(0, .ref a_t), (1, .int x1), (3, .int y96_3), (4, .int y96_4)] → W p l e ({ frames := 2, cells := 0, slots := 0, locals := 45 } : Room) s m (List.toArray [.ref a_t, .int x1, .int x2]) below meth c H locs 0 0 Q (F0 m 96 ls []) := by
    intro n
    induction n with
    | zero =>
      intro kf y96_3 y96_4 h
      exact absurd h (by rw [fX11_unit_L96]; exact fun q => by cases q)
    | succ n ih =>
      intro kf y96_3 y96_4 h kk H locs ls hH hl
      rw [fX11_unit_L96] at h
      refine lv_iload hx hb dX11_unit_96 (lv_at hl 3 rfl) ?_
      refine lv_aload_n hx hb dX11_unit_98 rfl (lv_at hl 0 rfl) ?_
      refine gk_get (ci := 10) (C := RX11) (T := TX11) (N := 26) hx hb hts u_ws_X11 hown hK hH 0 rfl rfl 1 (by decide) u_fl_X11_7 rfl dX11_unit_99 ?_
      refine lv_sipush (v := 204) hx hb dX11_unit_102 (by decide) ?_
      refine gk_iald hx hb hK hH 1 rfl (dk_in (by decide)) dX11_unit_105 ?_
      refine lv_icmp_ge (tgt := 145) hx hb dX11_unit_106 (by decide) (fun c27 => ?_) (fun c27 => ?_)
      · replace h := dc_pos c27 h
        exact kk y96_3 H locs ls h hH (lv_sub hl [0, 2] rfl)
      · replace h := dc_neg c27 h
        refine lv_aload_n hx hb dX11_unit_109 rfl (lv_at hl 0 rfl) ?_
        refine lv_iload_n hx hb dX11_unit_110 rfl (lv_at hl 1 rfl) ?_
        refine lv_iload hx hb dX11_unit_111 (lv_at hl 3 rfl) ?_
        obtain ⟨q28, hqq28, h⟩ := dc_bind h
        refine gc_Vi (ws' := [(a_t, .inr (10, [v_t_thrown, .ref a_t_g, .ref a_t_ahead, .ref a_t_history, v_t_historyMany, .ref a_t_saved, v_t_hasSaved, .ref a_t_tape, v_t_taped, v_t_at, v_t_impossibleAt, v_t_letter, .ref a_t_numbers, .ref a_t_plan, v_t_detail, v_t_keptReason, v_t_keptDetail, v_t_above, v_t_below, v_t_bestAbove, v_t_bestBelow, .ref a_t_bestPlan, .ref a_t_sort, .ref a_t_size, .ref a_t_whole, .ref a_t_parts])), (a_t_g, .inl (k 0, 221, .inl t_g))]) (As := [.int x1, .int y96_4]) (rest := []) (n := 2) (ci := 10) (cq := (RX11, TX11, 26)) hTs ⟨hx, hb, hml, hown, hts⟩ (mX11_borderOf l Ts hTs D k H.size a_t a_t_g a_t_ahead a_t_history a_t_saved a_t_tape a_t_numbers a_t_plan a_t_bestPlan a_t_sort a_t_size a_t_whole a_t_parts t_g v_t_above v_t_at v_t_below v_t_bestAbove v_t_bestBelow v_t_detail v_t_hasSaved v_t_historyMany v_t_impossibleAt v_t_keptDetail v_t_keptReason v_t_letter v_t_taped v_t_thrown x1 y96_4 q28 hqq28) u_ml_X11_93 u_im_X11_borderOf u_se_X11_borderOf u_in_X11 u_co_X11_borderOf hd_X11_borderOf ⟨Nat.le_of_ble_eq_true rfl, Nat.le_of_ble_eq_true rfl⟩ ⟨rfl, rfl⟩ hK hH hA (cut0 (isC := [0, 1]) rfl rfl rfl) rfl rfl rfl rfl hl.1 (Nat.le_of_ble_eq_true rfl) dX11_unit_113 ⟨Nat.le_of_ble_eq_true rfl, Nat.le_of_ble_eq_true rfl⟩ (fun H locs hH => ?_)
        refine lv_if_le (tgt := 137) hx hb dX11_unit_116 (by decide) (fun c29 => ?_) (fun c29 => ?_)
        · replace h := dc_pos c29 h
          refine lv_iload_n hx hb dX11_unit_137 rfl (lv_at hl 2 rfl) ?_
          refine lv_istore_n (lv' := [(3, .int y96_3), (0, .ref a_t), (1, .int x1), (4, .int y96_4)]) hx hb dX11_unit_138 rfl hl (by decide) rfl (fun ls hl => ?_)
          refine lv_iinc (v := (y96_4 + (1 : Int32))) (lv' := [(4, .int (y96_4 + (1 : Int32))), (3, .int y96_3), (0, .ref a_t), (1, .int x1)]) hx hb dX11_unit_139 hl (k := 3) rfl rfl (by decide) rfl (fun ls hl => ?_)
          refine lv_goto (tgt := 96) hx hb dX11_unit_142 (by decide) ?_
          exact ih kf y96_3 (y96_4 + (1 : Int32)) h kk H locs ls hH (lv_sub hl [2, 3, 1, 0] rfl)
        · replace h := dc_neg c29 h
          refine lv_aload_n hx hb dX11_unit_119 rfl (lv_at hl 0 rfl) ?_
          refine lv_iload hx hb dX11_unit_120 (lv_at hl 3 rfl) ?_
          obtain ⟨q30, hqq30, h⟩ := dc_bind h
          refine gc_Vi (ws' := [(a_t, .inr (10, [v_t_thrown, .ref a_t_g, .ref a_t_ahead, .ref a_t_history, v_t_historyMany, .ref a_t_saved, v_t_hasSaved, .ref a_t_tape, v_t_taped, v_t_at, v_t_impossibleAt, v_t_letter, .ref a_t_numbers, .ref a_t_plan, v_t_detail, v_t_keptReason, v_t_keptDetail, v_t_above, v_t_below, v_t_bestAbove, v_t_bestBelow, .ref a_t_bestPlan, .ref a_t_sort, .ref a_t_size, .ref a_t_whole, .ref a_t_parts])), (a_t_g, .inl (k 0, 221, .inl t_g))]) (As := [.int y96_4]) (rest := []) (n := 1) (ci := 10) (cq := (RX11, TX11, 26)) hTs ⟨hx, hb, hml, hown, hts⟩ (mX11_districtOf l Ts hTs D k H.size a_t a_t_g a_t_ahead a_t_history a_t_saved a_t_tape a_t_numbers a_t_plan a_t_bestPlan a_t_sort a_t_size a_t_whole a_t_parts t_g v_t_above v_t_at v_t_below v_t_bestAbove v_t_bestBelow v_t_detail v_t_hasSaved v_t_historyMany v_t_impossibleAt v_t_keptDetail v_t_keptReason v_t_letter v_t_taped v_t_thrown y96_4 q30 hqq30) u_ml_X11_116 u_im_X11_districtOf u_se_X11_districtOf u_in_X11 u_co_X11_districtOf hd_X11_districtOf ⟨Nat.le_of_ble_eq_true rfl, Nat.le_of_ble_eq_true rfl⟩ ⟨rfl, rfl⟩ hK hH hA (cut0 (isC := [0, 1]) rfl rfl rfl) rfl rfl rfl rfl hl.1 (Nat.le_of_ble_eq_true rfl) dX11_unit_122 ⟨Nat.le_of_ble_eq_true rfl, Nat.le_of_ble_eq_true rfl⟩ (fun H locs hH => ?_)
          refine lv_aload_n hx hb dX11_unit_125 rfl (lv_at hl 0 rfl) ?_
          refine lv_iload_n hx hb dX11_unit_126 rfl (lv_at hl 1 rfl) ?_
          obtain ⟨q31, hqq31, h⟩ := dc_bind h
          refine gc_Vi (ws' := [(a_t, .inr (10, [v_t_thrown, .ref a_t_g, .ref a_t_ahead, .ref a_t_history, v_t_historyMany, .ref a_t_saved, v_t_hasSaved, .ref a_t_tape, v_t_taped, v_t_at, v_t_impossibleAt, v_t_letter, .ref a_t_numbers, .ref a_t_plan, v_t_detail, v_t_keptReason, v_t_keptDetail, v_t_above, v_t_below, v_t_bestAbove, v_t_bestBelow, .ref a_t_bestPlan, .ref a_t_sort, .ref a_t_size, .ref a_t_whole, .ref a_t_parts])), (a_t_g, .inl (k 0, 221, .inl t_g))]) (As := [.int x1]) (rest := [.int q30]) (n := 1) (ci := 10) (cq := (RX11, TX11, 26)) hTs ⟨hx, hb, hml, hown, hts⟩ (mX11_districtOf l Ts hTs D k H.size a_t a_t_g a_t_ahead a_t_history a_t_saved a_t_tape a_t_numbers a_t_plan a_t_bestPlan a_t_sort a_t_size a_t_whole a_t_parts t_g v_t_above v_t_at v_t_below v_t_bestAbove v_t_bestBelow v_t_detail v_t_hasSaved v_t_historyMany v_t_impossibleAt v_t_keptDetail v_t_keptReason v_t_letter v_t_taped v_t_thrown x1 q31 hqq31) u_ml_X11_116 u_im_X11_districtOf u_se_X11_districtOf u_in_X11 u_co_X11_districtOf hd_X11_districtOf ⟨Nat.le_of_ble_eq_true rfl, Nat.le_of_ble_eq_true rfl⟩ ⟨rfl, rfl⟩ hK hH hA (cut0 (isC := [0, 1]) rfl rfl rfl) rfl rfl rfl rfl hl.1 (Nat.le_of_ble_eq_true rfl) dX11_unit_127 ⟨Nat.le_of_ble_eq_true rfl, Nat.le_of_ble_eq_true rfl⟩ (fun H locs hH => ?_)
          refine lv_icmp_eq (tgt := 137) hx hb dX11_unit_130 (by decide) (fun c32 => ?_) (fun c32 => ?_)
          · replace h := dc_pos c32 h
            refine lv_iload_n hx hb dX11_unit_137 rfl (lv_at hl 2 rfl) ?_
            refine lv_istore_n (lv' := [(3, .int y96_3), (0, .ref a_t), (1, .int x1), (4, .int y96_4)]) hx hb dX11_unit_138 rfl hl (by decide) rfl (fun ls hl => ?_)
            refine lv_iinc (v := (y96_4 + (1 : Int32))) (lv' := [(4, .int (y96_4 + (1 : Int32))), (3, .int y96_3), (0, .ref a_t), (1, .int x1)]) hx hb dX11_unit_139 hl (k := 3) rfl rfl (by decide) rfl (fun ls hl => ?_)
            refine lv_goto (tgt := 96) hx hb dX11_unit_142 (by decide) ?_
            exact ih kf y96_3 (y96_4 + (1 : Int32)) h kk H locs ls hH (lv_sub hl [2, 3, 1, 0] rfl)
          · replace h := dc_neg c32 h
            refine lv_iconst (v := 1) hx hb dX11_unit_133 (by decide) ?_
            refine lv_goto (tgt := 138) hx hb dX11_unit_134 (by decide) ?_
            refine lv_istore_n (lv' := [(3, .int (1 : Int32)), (0, .ref a_t), (1, .int x1), (4, .int y96_4)]) hx hb dX11_unit_138 rfl hl (by decide) rfl (fun ls hl => ?_)
            refine lv_iinc (v := (y96_4 + (1 : Int32))) (lv' := [(4, .int (y96_4 + (1 : Int32))), (3, .int (1 : Int32)), (0, .ref a_t), (1, .int x1)]) hx hb dX11_unit_139 hl (k := 3) rfl rfl (by decide) rfl (fun ls hl => ?_)
            refine lv_goto (tgt := 96) hx hb dX11_unit_142 (by decide) ?_
            exact ih kf (1 : Int32) (y96_4 + (1 : Int32)) h kk H locs ls hH (lv_sub hl [2, 3, 1, 0] rfl)
  rw [fX11_unit] at h
  refine lv_aload_n hx hb dX11_unit_0 rfl (lv_at hl 0 rfl) ?_
  refine lv_iload_n hx hb dX11_unit_1 rfl (lv_at hl 1 rfl) ?_
  obtain ⟨q1, hqq1, h⟩ := dc_bind h
  refine gc_Vi (ws' := [(a_t, .inr (10, [v_t_thrown, .ref a_t_g, .ref a_t_ahead, .ref a_t_history, v_t_historyMany, .ref a_t_saved, v_t_hasSaved, .ref a_t_tape, v_t_taped, v_t_at, v_t_impossibleAt, v_t_letter, .ref a_t_numbers, .ref a_t_plan, v_t_detail, v_t_keptReason, v_t_keptDetail, v_t_above, v_t_below, v_t_bestAbove, v_t_bestBelow, .ref a_t_bestPlan, .ref a_t_sort, .ref a_t_size, .ref a_t_whole, .ref a_t_parts])), (a_t_g, .inl (k 0, 221, .inl t_g))]) (As := [.int x1]) (rest := []) (n := 1) (ci := 10) (cq := (RX11, TX11, 26)) hTs ⟨hx, hb, hml, hown, hts⟩ (mX11_isUnit l Ts hTs D k H.size a_t a_t_g a_t_ahead a_t_history a_t_saved a_t_tape a_t_numbers a_t_plan a_t_bestPlan a_t_sort a_t_size a_t_whole a_t_parts t_g v_t_above v_t_at v_t_below v_t_bestAbove v_t_bestBelow v_t_detail v_t_hasSaved v_t_historyMany v_t_impossibleAt v_t_keptDetail v_t_keptReason v_t_letter v_t_taped v_t_thrown x1 q1 hqq1) u_ml_X11_90 u_im_X11_isUnit u_se_X11_isUnit u_in_X11 u_co_X11_isUnit hd_X11_isUnit ⟨Nat.le_of_ble_eq_true rfl, Nat.le_of_ble_eq_true rfl⟩ ⟨rfl, rfl⟩ hK hH hA (cut0 (isC := [0, 1]) rfl rfl rfl) rfl rfl rfl rfl hl.1 (Nat.le_of_ble_eq_true rfl) dX11_unit_2 ⟨Nat.le_of_ble_eq_true rfl, Nat.le_of_ble_eq_true rfl⟩ (fun H locs hH => ?_)
  refine lv_if_ne (tgt := 14) hx hb dX11_unit_5 (by decide) (fun c2 => ?_) (fun c2 => ?_)
  · replace h := dc_neg c2 h
    refine lv_iload_n hx hb dX11_unit_14 rfl (lv_at hl 2 rfl) ?_
    by_cases c5 : x2 = (0 : Int32)
    · refine lv_tableIn (tgt := 60) hx hb dX11_unit_15 (by rw [c5]; decide) (by rw [c5]; decide) (by rw [c5]; rfl) (by decide) ?_
      replace h := dc_pos c5 h
      refine lv_aload_n hx hb dX11_unit_60 rfl (lv_at hl 0 rfl) ?_
      refine lv_aload_n hx hb dX11_unit_61 rfl (lv_at hl 0 rfl) ?_
      refine lv_iload_n hx hb dX11_unit_62 rfl (lv_at hl 1 rfl) ?_
      refine lv_iload_n hx hb dX11_unit_63 rfl (lv_at hl 2 rfl) ?_
      obtain ⟨q6, hqq6, h⟩ := dc_bind h
      refine gc_Vi (ws' := [(a_t, .inr (10, [v_t_thrown, .ref a_t_g, .ref a_t_ahead, .ref a_t_history, v_t_historyMany, .ref a_t_saved, v_t_hasSaved, .ref a_t_tape, v_t_taped, v_t_at, v_t_impossibleAt, v_t_letter, .ref a_t_numbers, .ref a_t_plan, v_t_detail, v_t_keptReason, v_t_keptDetail, v_t_above, v_t_below, v_t_bestAbove, v_t_bestBelow, .ref a_t_bestPlan, .ref a_t_sort, .ref a_t_size, .ref a_t_whole, .ref a_t_parts])), (a_t_g, .inl (k 0, 221, .inl t_g))]) (As := [.int x1, .int x2]) (rest := [.ref a_t]) (n := 2) (ci := 10) (cq := (RX11, TX11, 26)) hTs ⟨hx, hb, hml, hown, hts⟩ (mX11_of l Ts hTs D k H.size a_t a_t_g a_t_ahead a_t_history a_t_saved a_t_tape a_t_numbers a_t_plan a_t_bestPlan a_t_sort a_t_size a_t_whole a_t_parts t_g v_t_above v_t_at v_t_below v_t_bestAbove v_t_bestBelow v_t_detail v_t_hasSaved v_t_historyMany v_t_impossibleAt v_t_keptDetail v_t_keptReason v_t_letter v_t_taped v_t_thrown x1 x2 q6 hqq6) u_ml_X11_110 u_im_X11_of u_se_X11_of u_in_X11 u_co_X11_of hd_X11_of ⟨Nat.le_of_ble_eq_true rfl, Nat.le_of_ble_eq_true rfl⟩ ⟨rfl, rfl⟩ hK hH hA (cut0 (isC := [0, 1]) rfl rfl rfl) rfl rfl rfl rfl hl.1 (Nat.le_of_ble_eq_true rfl) dX11_unit_64 ⟨Nat.le_of_ble_eq_true rfl, Nat.le_of_ble_eq_true rfl⟩ (fun H locs hH => ?_)
      obtain ⟨q7, hqq7, h⟩ := dc_bind h
      refine gc_Vi (ws' := [(a_t, .inr (10, [.int q7.2, .ref a_t_g, .ref a_t_ahead, .ref a_t_history, v_t_historyMany, .ref a_t_saved, v_t_hasSaved, .ref a_t_tape, v_t_taped, v_t_at, v_t_impossibleAt, v_t_letter, .ref a_t_numbers, .ref a_t_plan, v_t_detail, v_t_keptReason, v_t_keptDetail, v_t_above, v_t_below, v_t_bestAbove, v_t_bestBelow, .ref a_t_bestPlan, .ref a_t_sort, .ref a_t_size, .ref a_t_whole, .ref a_t_parts])), (a_t_g, .inl (k 0, 221, .inl t_g))]) (As := [.int q6]) (rest := []) (n := 1) (ci := 10) (cq := (RX11, TX11, 26)) hTs ⟨hx, hb, hml, hown, hts⟩ (mX11_done l Ts hTs D k H.size a_t a_t_g a_t_ahead a_t_history a_t_saved a_t_tape a_t_numbers a_t_plan a_t_bestPlan a_t_sort a_t_size a_t_whole a_t_parts v_t_above v_t_at v_t_below v_t_bestAbove v_t_bestBelow v_t_detail v_t_hasSaved v_t_historyMany v_t_impossibleAt v_t_keptDetail v_t_keptReason v_t_letter v_t_taped v_t_thrown q6 q7 hqq7) u_ml_X11_69 u_im_X11_done u_se_X11_done u_in_X11 u_co_X11_done hd_X11_done ⟨Nat.le_of_ble_eq_true rfl, Nat.le_of_ble_eq_true rfl⟩ ⟨rfl, rfl⟩ hK hH hA (cutM (isC := [0]) [some 0, none] 2 rfl rfl rfl rfl rfl rfl rfl) rfl rfl rfl rfl hl.1 (Nat.le_of_ble_eq_true rfl) dX11_unit_67 ⟨Nat.le_of_ble_eq_true rfl, Nat.le_of_ble_eq_true rfl⟩ (fun H locs hH => ?_)
      have h := Option.some.inj h
      subst h
      exact ge_i hx hb hr hlocks hQ hK hH hAe rfl dX11_unit_70
    · replace h := dc_neg c5 h
      by_cases c8 : x2 = (1 : Int32)
      · refine lv_tableIn (tgt := 60) hx hb dX11_unit_15 (by rw [c8]; decide) (by rw [c8]; decide) (by rw [c8]; rfl) (by decide) ?_
        replace h := dc_pos c8 h
        refine lv_aload_n hx hb dX11_unit_60 rfl (lv_at hl 0 rfl) ?_
        refine lv_aload_n hx hb dX11_unit_61 rfl (lv_at hl 0 rfl) ?_
        refine lv_iload_n hx hb dX11_unit_62 rfl (lv_at hl 1 rfl) ?_
        refine lv_iload_n hx hb dX11_unit_63 rfl (lv_at hl 2 rfl) ?_
        obtain ⟨q9, hqq9, h⟩ := dc_bind h
        refine gc_Vi (ws' := [(a_t, .inr (10, [v_t_thrown, .ref a_t_g, .ref a_t_ahead, .ref a_t_history, v_t_historyMany, .ref a_t_saved, v_t_hasSaved, .ref a_t_tape, v_t_taped, v_t_at, v_t_impossibleAt, v_t_letter, .ref a_t_numbers, .ref a_t_plan, v_t_detail, v_t_keptReason, v_t_keptDetail, v_t_above, v_t_below, v_t_bestAbove, v_t_bestBelow, .ref a_t_bestPlan, .ref a_t_sort, .ref a_t_size, .ref a_t_whole, .ref a_t_parts])), (a_t_g, .inl (k 0, 221, .inl t_g))]) (As := [.int x1, .int x2]) (rest := [.ref a_t]) (n := 2) (ci := 10) (cq := (RX11, TX11, 26)) hTs ⟨hx, hb, hml, hown, hts⟩ (mX11_of l Ts hTs D k H.size a_t a_t_g a_t_ahead a_t_history a_t_saved a_t_tape a_t_numbers a_t_plan a_t_bestPlan a_t_sort a_t_size a_t_whole a_t_parts t_g v_t_above v_t_at v_t_below v_t_bestAbove v_t_bestBelow v_t_detail v_t_hasSaved v_t_historyMany v_t_impossibleAt v_t_keptDetail v_t_keptReason v_t_letter v_t_taped v_t_thrown x1 x2 q9 hqq9) u_ml_X11_110 u_im_X11_of u_se_X11_of u_in_X11 u_co_X11_of hd_X11_of ⟨Nat.le_of_ble_eq_true rfl, Nat.le_of_ble_eq_true rfl⟩ ⟨rfl, rfl⟩ hK hH hA (cut0 (isC := [0, 1]) rfl rfl rfl) rfl rfl rfl rfl hl.1 (Nat.le_of_ble_eq_true rfl) dX11_unit_64 ⟨Nat.le_of_ble_eq_true rfl, Nat.le_of_ble_eq_true rfl⟩ (fun H locs hH => ?_)
        obtain ⟨q10, hqq10, h⟩ := dc_bind h
        refine gc_Vi (ws' := [(a_t, .inr (10, [.int q10.2, .ref a_t_g, .ref a_t_ahead, .ref a_t_history, v_t_historyMany, .ref a_t_saved, v_t_hasSaved, .ref a_t_tape, v_t_taped, v_t_at, v_t_impossibleAt, v_t_letter, .ref a_t_numbers, .ref a_t_plan, v_t_detail, v_t_keptReason, v_t_keptDetail, v_t_above, v_t_below, v_t_bestAbove, v_t_bestBelow, .ref a_t_bestPlan, .ref a_t_sort, .ref a_t_size, .ref a_t_whole, .ref a_t_parts])), (a_t_g, .inl (k 0, 221, .inl t_g))]) (As := [.int q9]) (rest := []) (n := 1) (ci := 10) (cq := (RX11, TX11, 26)) hTs ⟨hx, hb, hml, hown, hts⟩ (mX11_done l Ts hTs D k H.size a_t a_t_g a_t_ahead a_t_history a_t_saved a_t_tape a_t_numbers a_t_plan a_t_bestPlan a_t_sort a_t_size a_t_whole a_t_parts v_t_above v_t_at v_t_below v_t_bestAbove v_t_bestBelow v_t_detail v_t_hasSaved v_t_historyMany v_t_impossibleAt v_t_keptDetail v_t_keptReason v_t_letter v_t_taped v_t_thrown q9 q10 hqq10) u_ml_X11_69 u_im_X11_done u_se_X11_done u_in_X11 u_co_X11_done hd_X11_done ⟨Nat.le_of_ble_eq_true rfl, Nat.le_of_ble_eq_true rfl⟩ ⟨rfl, rfl⟩ hK hH hA (cutM (isC := [0]) [some 0, none] 2 rfl rfl rfl rfl rfl rfl rfl) rfl rfl rfl rfl hl.1 (Nat.le_of_ble_eq_true rfl) dX11_unit_67 ⟨Nat.le_of_ble_eq_true rfl, Nat.le_of_ble_eq_true rfl⟩ (fun H locs hH => ?_)
        have h := Option.some.inj h
        subst h
        exact ge_i hx hb hr hlocks hQ hK hH hAe rfl dX11_unit_70
      · replace h := dc_neg c8 h
        by_cases c11 : x2 = (2 : Int32)
        · refine lv_tableIn (tgt := 60) hx hb dX11_unit_15 (by rw [c11]; decide) (by rw [c11]; decide) (by rw [c11]; rfl) (by decide) ?_
          replace h := dc_pos c11 h
          refine lv_aload_n hx hb dX11_unit_60 rfl (lv_at hl 0 rfl) ?_
          refine lv_aload_n hx hb dX11_unit_61 rfl (lv_at hl 0 rfl) ?_
          refine lv_iload_n hx hb dX11_unit_62 rfl (lv_at hl 1 rfl) ?_
          refine lv_iload_n hx hb dX11_unit_63 rfl (lv_at hl 2 rfl) ?_
          obtain ⟨q12, hqq12, h⟩ := dc_bind h
          refine gc_Vi (ws' := [(a_t, .inr (10, [v_t_thrown, .ref a_t_g, .ref a_t_ahead, .ref a_t_history, v_t_historyMany, .ref a_t_saved, v_t_hasSaved, .ref a_t_tape, v_t_taped, v_t_at, v_t_impossibleAt, v_t_letter, .ref a_t_numbers, .ref a_t_plan, v_t_detail, v_t_keptReason, v_t_keptDetail, v_t_above, v_t_below, v_t_bestAbove, v_t_bestBelow, .ref a_t_bestPlan, .ref a_t_sort, .ref a_t_size, .ref a_t_whole, .ref a_t_parts])), (a_t_g, .inl (k 0, 221, .inl t_g))]) (As := [.int x1, .int x2]) (rest := [.ref a_t]) (n := 2) (ci := 10) (cq := (RX11, TX11, 26)) hTs ⟨hx, hb, hml, hown, hts⟩ (mX11_of l Ts hTs D k H.size a_t a_t_g a_t_ahead a_t_history a_t_saved a_t_tape a_t_numbers a_t_plan a_t_bestPlan a_t_sort a_t_size a_t_whole a_t_parts t_g v_t_above v_t_at v_t_below v_t_bestAbove v_t_bestBelow v_t_detail v_t_hasSaved v_t_historyMany v_t_impossibleAt v_t_keptDetail v_t_keptReason v_t_letter v_t_taped v_t_thrown x1 x2 q12 hqq12) u_ml_X11_110 u_im_X11_of u_se_X11_of u_in_X11 u_co_X11_of hd_X11_of ⟨Nat.le_of_ble_eq_true rfl, Nat.le_of_ble_eq_true rfl⟩ ⟨rfl, rfl⟩ hK hH hA (cut0 (isC := [0, 1]) rfl rfl rfl) rfl rfl rfl rfl hl.1 (Nat.le_of_ble_eq_true rfl) dX11_unit_64 ⟨Nat.le_of_ble_eq_true rfl, Nat.le_of_ble_eq_true rfl⟩ (fun H locs hH => ?_)
          obtain ⟨q13, hqq13, h⟩ := dc_bind h
          refine gc_Vi (ws' := [(a_t, .inr (10, [.int q13.2, .ref a_t_g, .ref a_t_ahead, .ref a_t_history, v_t_historyMany, .ref a_t_saved, v_t_hasSaved, .ref a_t_tape, v_t_taped, v_t_at, v_t_impossibleAt, v_t_letter, .ref a_t_numbers, .ref a_t_plan, v_t_detail, v_t_keptReason, v_t_keptDetail, v_t_above, v_t_below, v_t_bestAbove, v_t_bestBelow, .ref a_t_bestPlan, .ref a_t_sort, .ref a_t_size, .ref a_t_whole, .ref a_t_parts])), (a_t_g, .inl (k 0, 221, .inl t_g))]) (As := [.int q12]) (rest := []) (n := 1) (ci := 10) (cq := (RX11, TX11, 26)) hTs ⟨hx, hb, hml, hown, hts⟩ (mX11_done l Ts hTs D k H.size a_t a_t_g a_t_ahead a_t_history a_t_saved a_t_tape a_t_numbers a_t_plan a_t_bestPlan a_t_sort a_t_size a_t_whole a_t_parts v_t_above v_t_at v_t_below v_t_bestAbove v_t_bestBelow v_t_detail v_t_hasSaved v_t_historyMany v_t_impossibleAt v_t_keptDetail v_t_keptReason v_t_letter v_t_taped v_t_thrown q12 q13 hqq13) u_ml_X11_69 u_im_X11_done u_se_X11_done u_in_X11 u_co_X11_done hd_X11_done ⟨Nat.le_of_ble_eq_true rfl, Nat.le_of_ble_eq_true rfl⟩ ⟨rfl, rfl⟩ hK hH hA (cutM (isC := [0]) [some 0, none] 2 rfl rfl rfl rfl rfl rfl rfl) rfl rfl rfl rfl hl.1 (Nat.le_of_ble_eq_true rfl) dX11_unit_67 ⟨Nat.le_of_ble_eq_true rfl, Nat.le_of_ble_eq_true rfl⟩ (fun H locs hH => ?_)
          have h := Option.some.inj h
          subst h
          exact ge_i hx hb hr hlocks hQ hK hH hAe rfl dX11_unit_70
        · replace h := dc_neg c11 h
          by_cases c14 : x2 = (3 : Int32)
          · refine lv_tableIn (tgt := 60) hx hb dX11_unit_15 (by rw [c14]; decide) (by rw [c14]; decide) (by rw [c14]; rfl) (by decide) ?_
            replace h := dc_pos c14 h
            refine lv_aload_n hx hb dX11_unit_60 rfl (lv_at hl 0 rfl) ?_
            refine lv_aload_n hx hb dX11_unit_61 rfl (lv_at hl 0 rfl) ?_
            refine lv_iload_n hx hb dX11_unit_62 rfl (lv_at hl 1 rfl) ?_
            refine lv_iload_n hx hb dX11_unit_63 rfl (lv_at hl 2 rfl) ?_
            obtain ⟨q15, hqq15, h⟩ := dc_bind h
            refine gc_Vi (ws' := [(a_t, .inr (10, [v_t_thrown, .ref a_t_g, .ref a_t_ahead, .ref a_t_history, v_t_historyMany, .ref a_t_saved, v_t_hasSaved, .ref a_t_tape, v_t_taped, v_t_at, v_t_impossibleAt, v_t_letter, .ref a_t_numbers, .ref a_t_plan, v_t_detail, v_t_keptReason, v_t_keptDetail, v_t_above, v_t_below, v_t_bestAbove, v_t_bestBelow, .ref a_t_bestPlan, .ref a_t_sort, .ref a_t_size, .ref a_t_whole, .ref a_t_parts])), (a_t_g, .inl (k 0, 221, .inl t_g))]) (As := [.int x1, .int x2]) (rest := [.ref a_t]) (n := 2) (ci := 10) (cq := (RX11, TX11, 26)) hTs ⟨hx, hb, hml, hown, hts⟩ (mX11_of l Ts hTs D k H.size a_t a_t_g a_t_ahead a_t_history a_t_saved a_t_tape a_t_numbers a_t_plan a_t_bestPlan a_t_sort a_t_size a_t_whole a_t_parts t_g v_t_above v_t_at v_t_below v_t_bestAbove v_t_bestBelow v_t_detail v_t_hasSaved v_t_historyMany v_t_impossibleAt v_t_keptDetail v_t_keptReason v_t_letter v_t_taped v_t_thrown x1 x2 q15 hqq15) u_ml_X11_110 u_im_X11_of u_se_X11_of u_in_X11 u_co_X11_of hd_X11_of ⟨Nat.le_of_ble_eq_true rfl, Nat.le_of_ble_eq_true rfl⟩ ⟨rfl, rfl⟩ hK hH hA (cut0 (isC := [0, 1]) rfl rfl rfl) rfl rfl rfl rfl hl.1 (Nat.le_of_ble_eq_true rfl) dX11_unit_64 ⟨Nat.le_of_ble_eq_true rfl, Nat.le_of_ble_eq_true rfl⟩ (fun H locs hH => ?_)
            obtain ⟨q16, hqq16, h⟩ := dc_bind h
            refine gc_Vi (ws' := [(a_t, .inr (10, [.int q16.2, .ref a_t_g, .ref a_t_ahead, .ref a_t_history, v_t_historyMany, .ref a_t_saved, v_t_hasSaved, .ref a_t_tape, v_t_taped, v_t_at, v_t_impossibleAt, v_t_letter, .ref a_t_numbers, .ref a_t_plan, v_t_detail, v_t_keptReason, v_t_keptDetail, v_t_above, v_t_below, v_t_bestAbove, v_t_bestBelow, .ref a_t_bestPlan, .ref a_t_sort, .ref a_t_size, .ref a_t_whole, .ref a_t_parts])), (a_t_g, .inl (k 0, 221, .inl t_g))]) (As := [.int q15]) (rest := []) (n := 1) (ci := 10) (cq := (RX11, TX11, 26)) hTs ⟨hx, hb, hml, hown, hts⟩ (mX11_done l Ts hTs D k H.size a_t a_t_g a_t_ahead a_t_history a_t_saved a_t_tape a_t_numbers a_t_plan a_t_bestPlan a_t_sort a_t_size a_t_whole a_t_parts v_t_above v_t_at v_t_below v_t_bestAbove v_t_bestBelow v_t_detail v_t_hasSaved v_t_historyMany v_t_impossibleAt v_t_keptDetail v_t_keptReason v_t_letter v_t_taped v_t_thrown q15 q16 hqq16) u_ml_X11_69 u_im_X11_done u_se_X11_done u_in_X11 u_co_X11_done hd_X11_done ⟨Nat.le_of_ble_eq_true rfl, Nat.le_of_ble_eq_true rfl⟩ ⟨rfl, rfl⟩ hK hH hA (cutM (isC := [0]) [some 0, none] 2 rfl rfl rfl rfl rfl rfl rfl) rfl rfl rfl rfl hl.1 (Nat.le_of_ble_eq_true rfl) dX11_unit_67 ⟨Nat.le_of_ble_eq_true rfl, Nat.le_of_ble_eq_true rfl⟩ (fun H locs hH => ?_)
            have h := Option.some.inj h
            subst h
            exact ge_i hx hb hr hlocks hQ hK hH hAe rfl dX11_unit_70
          · replace h := dc_neg c14 h
            by_cases c17 : x2 = (4 : Int32)
            · refine lv_tableIn (tgt := 60) hx hb dX11_unit_15 (by rw [c17]; decide) (by rw [c17]; decide) (by rw [c17]; rfl) (by decide) ?_
              replace h := dc_pos c17 h
              refine lv_aload_n hx hb dX11_unit_60 rfl (lv_at hl 0 rfl) ?_
              refine lv_aload_n hx hb dX11_unit_61 rfl (lv_at hl 0 rfl) ?_
              refine lv_iload_n hx hb dX11_unit_62 rfl (lv_at hl 1 rfl) ?_
              refine lv_iload_n hx hb dX11_unit_63 rfl (lv_at hl 2 rfl) ?_
              obtain ⟨q18, hqq18, h⟩ := dc_bind h
              refine gc_Vi (ws' := [(a_t, .inr (10, [v_t_thrown, .ref a_t_g, .ref a_t_ahead, .ref a_t_history, v_t_historyMany, .ref a_t_saved, v_t_hasSaved, .ref a_t_tape, v_t_taped, v_t_at, v_t_impossibleAt, v_t_letter, .ref a_t_numbers, .ref a_t_plan, v_t_detail, v_t_keptReason, v_t_keptDetail, v_t_above, v_t_below, v_t_bestAbove, v_t_bestBelow, .ref a_t_bestPlan, .ref a_t_sort, .ref a_t_size, .ref a_t_whole, .ref a_t_parts])), (a_t_g, .inl (k 0, 221, .inl t_g))]) (As := [.int x1, .int x2]) (rest := [.ref a_t]) (n := 2) (ci := 10) (cq := (RX11, TX11, 26)) hTs ⟨hx, hb, hml, hown, hts⟩ (mX11_of l Ts hTs D k H.size a_t a_t_g a_t_ahead a_t_history a_t_saved a_t_tape a_t_numbers a_t_plan a_t_bestPlan a_t_sort a_t_size a_t_whole a_t_parts t_g v_t_above v_t_at v_t_below v_t_bestAbove v_t_bestBelow v_t_detail v_t_hasSaved v_t_historyMany v_t_impossibleAt v_t_keptDetail v_t_keptReason v_t_letter v_t_taped v_t_thrown x1 x2 q18 hqq18) u_ml_X11_110 u_im_X11_of u_se_X11_of u_in_X11 u_co_X11_of hd_X11_of ⟨Nat.le_of_ble_eq_true rfl, Nat.le_of_ble_eq_true rfl⟩ ⟨rfl, rfl⟩ hK hH hA (cut0 (isC := [0, 1]) rfl rfl rfl) rfl rfl rfl rfl hl.1 (Nat.le_of_ble_eq_true rfl) dX11_unit_64 ⟨Nat.le_of_ble_eq_true rfl, Nat.le_of_ble_eq_true rfl⟩ (fun H locs hH => ?_)
              obtain ⟨q19, hqq19, h⟩ := dc_bind h
              refine gc_Vi (ws' := [(a_t, .inr (10, [.int q19.2, .ref a_t_g, .ref a_t_ahead, .ref a_t_history, v_t_historyMany, .ref a_t_saved, v_t_hasSaved, .ref a_t_tape, v_t_taped, v_t_at, v_t_impossibleAt, v_t_letter, .ref a_t_numbers, .ref a_t_plan, v_t_detail, v_t_keptReason, v_t_keptDetail, v_t_above, v_t_below, v_t_bestAbove, v_t_bestBelow, .ref a_t_bestPlan, .ref a_t_sort, .ref a_t_size, .ref a_t_whole, .ref a_t_parts])), (a_t_g, .inl (k 0, 221, .inl t_g))]) (As := [.int q18]) (rest := []) (n := 1) (ci := 10) (cq := (RX11, TX11, 26)) hTs ⟨hx, hb, hml, hown, hts⟩ (mX11_done l Ts hTs D k H.size a_t a_t_g a_t_ahead a_t_history a_t_saved a_t_tape a_t_numbers a_t_plan a_t_bestPlan a_t_sort a_t_size a_t_whole a_t_parts v_t_above v_t_at v_t_below v_t_bestAbove v_t_bestBelow v_t_detail v_t_hasSaved v_t_historyMany v_t_impossibleAt v_t_keptDetail v_t_keptReason v_t_letter v_t_taped v_t_thrown q18 q19 hqq19) u_ml_X11_69 u_im_X11_done u_se_X11_done u_in_X11 u_co_X11_done hd_X11_done ⟨Nat.le_of_ble_eq_true rfl, Nat.le_of_ble_eq_true rfl⟩ ⟨rfl, rfl⟩ hK hH hA (cutM (isC := [0]) [some 0, none] 2 rfl rfl rfl rfl rfl rfl rfl) rfl rfl rfl rfl hl.1 (Nat.le_of_ble_eq_true rfl) dX11_unit_67 ⟨Nat.le_of_ble_eq_true rfl, Nat.le_of_ble_eq_true rfl⟩ (fun H locs hH => ?_)
              have h := Option.some.inj h
              subst h
              exact ge_i hx hb hr hlocks hQ hK hH hAe rfl dX11_unit_70
            · replace h := dc_neg c17 h
              by_cases c20 : x2 = (5 : Int32)
              · refine lv_tableIn (tgt := 71) hx hb dX11_unit_15 (by rw [c20]; decide) (by rw [c20]; decide) (by rw [c20]; rfl) (by decide) ?_
                replace h := dc_pos c20 h
                refine lv_aload_n hx hb dX11_unit_71 rfl (lv_at hl 0 rfl) ?_
                refine lv_aload_n hx hb dX11_unit_72 rfl (lv_at hl 0 rfl) ?_
                refine lv_iload_n hx hb dX11_unit_73 rfl (lv_at hl 1 rfl) ?_
                obtain ⟨q21, hqq21, h⟩ := dc_bind h
                refine gc_Vi (ws' := [(a_t, .inr (10, [v_t_thrown, .ref a_t_g, .ref a_t_ahead, .ref a_t_history, v_t_historyMany, .ref a_t_saved, v_t_hasSaved, .ref a_t_tape, v_t_taped, v_t_at, v_t_impossibleAt, v_t_letter, .ref a_t_numbers, .ref a_t_plan, v_t_detail, v_t_keptReason, v_t_keptDetail, v_t_above, v_t_below, v_t_bestAbove, v_t_bestBelow, .ref a_t_bestPlan, .ref a_t_sort, .ref a_t_size, .ref a_t_whole, .ref a_t_parts])), (a_t_g, .inl (k 0, 221, .inl t_g))]) (As := [.int x1]) (rest := [.ref a_t]) (n := 1) (ci := 10) (cq := (RX11, TX11, 26)) hTs ⟨hx, hb, hml, hown, hts⟩ (mX11_neighbors l Ts hTs D k H.size a_t a_t_g a_t_ahead a_t_history a_t_saved a_t_tape a_t_numbers a_t_plan a_t_bestPlan a_t_sort a_t_size a_t_whole a_t_parts t_g v_t_above v_t_at v_t_below v_t_bestAbove v_t_bestBelow v_t_detail v_t_hasSaved v_t_historyMany v_t_impossibleAt v_t_keptDetail v_t_keptReason v_t_letter v_t_taped v_t_thrown x1 q21 hqq21) u_ml_X11_113 u_im_X11_neighbors u_se_X11_neighbors u_in_X11 u_co_X11_neighbors hd_X11_neighbors ⟨Nat.le_of_ble_eq_true rfl, Nat.le_of_ble_eq_true rfl⟩ ⟨rfl, rfl⟩ hK hH hA (cut0 (isC := [0, 1]) rfl rfl rfl) rfl rfl rfl rfl hl.1 (Nat.le_of_ble_eq_true rfl) dX11_unit_74 ⟨Nat.le_of_ble_eq_true rfl, Nat.le_of_ble_eq_true rfl⟩ (fun H locs hH => ?_)
                obtain ⟨q22, hqq22, h⟩ := dc_bind h
                refine gc_Vi (ws' := [(a_t, .inr (10, [.int q22.2, .ref a_t_g, .ref a_t_ahead, .ref a_t_history, v_t_historyMany, .ref a_t_saved, v_t_hasSaved, .ref a_t_tape, v_t_taped, v_t_at, v_t_impossibleAt, v_t_letter, .ref a_t_numbers, .ref a_t_plan, v_t_detail, v_t_keptReason, v_t_keptDetail, v_t_above, v_t_below, v_t_bestAbove, v_t_bestBelow, .ref a_t_bestPlan, .ref a_t_sort, .ref a_t_size, .ref a_t_whole, .ref a_t_parts])), (a_t_g, .inl (k 0, 221, .inl t_g))]) (As := [.int q21]) (rest := []) (n := 1) (ci := 10) (cq := (RX11, TX11, 26)) hTs ⟨hx, hb, hml, hown, hts⟩ (mX11_done l Ts hTs D k H.size a_t a_t_g a_t_ahead a_t_history a_t_saved a_t_tape a_t_numbers a_t_plan a_t_bestPlan a_t_sort a_t_size a_t_whole a_t_parts v_t_above v_t_at v_t_below v_t_bestAbove v_t_bestBelow v_t_detail v_t_hasSaved v_t_historyMany v_t_impossibleAt v_t_keptDetail v_t_keptReason v_t_letter v_t_taped v_t_thrown q21 q22 hqq22) u_ml_X11_69 u_im_X11_done u_se_X11_done u_in_X11 u_co_X11_done hd_X11_done ⟨Nat.le_of_ble_eq_true rfl, Nat.le_of_ble_eq_true rfl⟩ ⟨rfl, rfl⟩ hK hH hA (cutM (isC := [0]) [some 0, none] 2 rfl rfl rfl rfl rfl rfl rfl) rfl rfl rfl rfl hl.1 (Nat.le_of_ble_eq_true rfl) dX11_unit_77 ⟨Nat.le_of_ble_eq_true rfl, Nat.le_of_ble_eq_true rfl⟩ (fun H locs hH => ?_)
                have h := Option.some.inj h
                subst h
                exact ge_i hx hb hr hlocks hQ hK hH hAe rfl dX11_unit_80
              · replace h := dc_neg c20 h
                by_cases c23 : x2 = (6 : Int32)
                · refine lv_tableIn (tgt := 81) hx hb dX11_unit_15 (by rw [c23]; decide) (by rw [c23]; decide) (by rw [c23]; rfl) (by decide) ?_
                  replace h := dc_pos c23 h
                  refine lv_aload_n hx hb dX11_unit_81 rfl (lv_at hl 0 rfl) ?_
                  refine lv_aload_n hx hb dX11_unit_82 rfl (lv_at hl 0 rfl) ?_
                  refine lv_iload_n hx hb dX11_unit_83 rfl (lv_at hl 1 rfl) ?_
                  obtain ⟨q24, hqq24, h⟩ := dc_bind h
                  refine gc_Vi (ws' := [(a_t, .inr (10, [v_t_thrown, .ref a_t_g, .ref a_t_ahead, .ref a_t_history, v_t_historyMany, .ref a_t_saved, v_t_hasSaved, .ref a_t_tape, v_t_taped, v_t_at, v_t_impossibleAt, v_t_letter, .ref a_t_numbers, .ref a_t_plan, v_t_detail, v_t_keptReason, v_t_keptDetail, v_t_above, v_t_below, v_t_bestAbove, v_t_bestBelow, .ref a_t_bestPlan, .ref a_t_sort, .ref a_t_size, .ref a_t_whole, .ref a_t_parts])), (a_t_g, .inl (k 0, 221, .inl t_g))]) (As := [.int x1]) (rest := [.ref a_t]) (n := 1) (ci := 10) (cq := (RX11, TX11, 26)) hTs ⟨hx, hb, hml, hown, hts⟩ (mX11_districtOf l Ts hTs D k H.size a_t a_t_g a_t_ahead a_t_history a_t_saved a_t_tape a_t_numbers a_t_plan a_t_bestPlan a_t_sort a_t_size a_t_whole a_t_parts t_g v_t_above v_t_at v_t_below v_t_bestAbove v_t_bestBelow v_t_detail v_t_hasSaved v_t_historyMany v_t_impossibleAt v_t_keptDetail v_t_keptReason v_t_letter v_t_taped v_t_thrown x1 q24 hqq24) u_ml_X11_116 u_im_X11_districtOf u_se_X11_districtOf u_in_X11 u_co_X11_districtOf hd_X11_districtOf ⟨Nat.le_of_ble_eq_true rfl, Nat.le_of_ble_eq_true rfl⟩ ⟨rfl, rfl⟩ hK hH hA (cut0 (isC := [0, 1]) rfl rfl rfl) rfl rfl rfl rfl hl.1 (Nat.le_of_ble_eq_true rfl) dX11_unit_84 ⟨Nat.le_of_ble_eq_true rfl, Nat.le_of_ble_eq_true rfl⟩ (fun H locs hH => ?_)
                  obtain ⟨q25, hqq25, h⟩ := dc_bind h
                  refine gc_Vi (ws' := [(a_t, .inr (10, [.int q25.2, .ref a_t_g, .ref a_t_ahead, .ref a_t_history, v_t_historyMany, .ref a_t_saved, v_t_hasSaved, .ref a_t_tape, v_t_taped, v_t_at, v_t_impossibleAt, v_t_letter, .ref a_t_numbers, .ref a_t_plan, v_t_detail, v_t_keptReason, v_t_keptDetail, v_t_above, v_t_below, v_t_bestAbove, v_t_bestBelow, .ref a_t_bestPlan, .ref a_t_sort, .ref a_t_size, .ref a_t_whole, .ref a_t_parts])), (a_t_g, .inl (k 0, 221, .inl t_g))]) (As := [.int q24]) (rest := []) (n := 1) (ci := 10) (cq := (RX11, TX11, 26)) hTs ⟨hx, hb, hml, hown, hts⟩ (mX11_done l Ts hTs D k H.size a_t a_t_g a_t_ahead a_t_history a_t_saved a_t_tape a_t_numbers a_t_plan a_t_bestPlan a_t_sort a_t_size a_t_whole a_t_parts v_t_above v_t_at v_t_below v_t_bestAbove v_t_bestBelow v_t_detail v_t_hasSaved v_t_historyMany v_t_impossibleAt v_t_keptDetail v_t_keptReason v_t_letter v_t_taped v_t_thrown q24 q25 hqq25) u_ml_X11_69 u_im_X11_done u_se_X11_done u_in_X11 u_co_X11_done hd_X11_done ⟨Nat.le_of_ble_eq_true rfl, Nat.le_of_ble_eq_true rfl⟩ ⟨rfl, rfl⟩ hK hH hA (cutM (isC := [0]) [some 0, none] 2 rfl rfl rfl rfl rfl rfl rfl) rfl rfl rfl rfl hl.1 (Nat.le_of_ble_eq_true rfl) dX11_unit_87 ⟨Nat.le_of_ble_eq_true rfl, Nat.le_of_ble_eq_true rfl⟩ (fun H locs hH => ?_)
                  have h := Option.some.inj h
                  subst h
                  exact ge_i hx hb hr hlocks hQ hK hH hAe rfl dX11_unit_90
                · replace h := dc_neg c23 h
                  by_cases c26 : x2 = (7 : Int32)
                  · refine lv_tableIn (tgt := 91) hx hb dX11_unit_15 (by rw [c26]; decide) (by rw [c26]; decide) (by rw [c26]; rfl) (by decide) ?_
                    replace h := dc_pos c26 h
                    refine lv_iconst (v := 0) hx hb dX11_unit_91 (by decide) ?_
                    refine lv_istore_n (lv' := [(3, .int (0 : Int32)), (0, .ref a_t), (1, .int x1), (2, .int x2)]) hx hb dX11_unit_92 rfl hl (by decide) rfl (fun ls hl => ?_)
                    refine lv_iconst (v := 0) hx hb dX11_unit_93 (by decide) ?_
                    refine lv_istore (lv' := [(4, .int (0 : Int32)), (3, .int (0 : Int32)), (0, .ref a_t), (1, .int x1), (2, .int x2)]) hx hb dX11_unit_94 hl (by decide) rfl (fun ls hl => ?_)
                    refine L96 _ _ (0 : Int32) (0 : Int32) h (fun z96_3 H locs ls h hH hl => ?_) H locs ls hH (lv_sub hl [2, 3, 1, 0] rfl)
                    refine lv_aload_n hx hb dX11_unit_145 rfl (lv_at hl 0 rfl) ?_
                    refine lv_iload_n hx hb dX11_unit_146 rfl (lv_at hl 1 rfl) ?_
                    obtain ⟨q33, hqq33, h⟩ := dc_bind h
                    refine gc_Vi (ws' := [(a_t, .inr (10, [.int q33.2, .ref a_t_g, .ref a_t_ahead, .ref a_t_history, v_t_historyMany, .ref a_t_saved, v_t_hasSaved, .ref a_t_tape, v_t_taped, v_t_at, v_t_impossibleAt, v_t_letter, .ref a_t_numbers, .ref a_t_plan, v_t_detail, v_t_keptReason, v_t_keptDetail, v_t_above, v_t_below, v_t_bestAbove, v_t_bestBelow, .ref a_t_bestPlan, .ref a_t_sort, .ref a_t_size, .ref a_t_whole, .ref a_t_parts])), (a_t_g, .inl (k 0, 221, .inl t_g))]) (As := [.int z96_3]) (rest := []) (n := 1) (ci := 10) (cq := (RX11, TX11, 26)) hTs ⟨hx, hb, hml, hown, hts⟩ (mX11_done l Ts hTs D k H.size a_t a_t_g a_t_ahead a_t_history a_t_saved a_t_tape a_t_numbers a_t_plan a_t_bestPlan a_t_sort a_t_size a_t_whole a_t_parts v_t_above v_t_at v_t_below v_t_bestAbove v_t_bestBelow v_t_detail v_t_hasSaved v_t_historyMany v_t_impossibleAt v_t_keptDetail v_t_keptReason v_t_letter v_t_taped v_t_thrown z96_3 q33 hqq33) u_ml_X11_69 u_im_X11_done u_se_X11_done u_in_X11 u_co_X11_done hd_X11_done ⟨Nat.le_of_ble_eq_true rfl, Nat.le_of_ble_eq_true rfl⟩ ⟨rfl, rfl⟩ hK hH hA (cutM (isC := [0]) [some 0, none] 2 rfl rfl rfl rfl rfl rfl rfl) rfl rfl rfl rfl hl.1 (Nat.le_of_ble_eq_true rfl) dX11_unit_147 ⟨Nat.le_of_ble_eq_true rfl, Nat.le_of_ble_eq_true rfl⟩ (fun H locs hH => ?_)
                    have h := Option.some.inj h
                    subst h
                    exact ge_i hx hb hr hlocks hQ hK hH hAe rfl dX11_unit_150
                  · replace h := dc_neg c26 h
                    refine lv_tableOut (tgt := 151) hx hb dX11_unit_15 (sw_out (fun j h1 h2 e => ?_)) (by decide) ?_
                    · rcases (show j = 0 ∨ j = 1 ∨ j = 2 ∨ j = 3 ∨ j = 4 ∨ j = 5 ∨ j = 6 ∨ j = 7 by omega) with rfl | rfl | rfl | rfl | rfl | rfl | rfl | rfl
                      · exact c5 (sw_eq (0 : Int32) e (by decide))
                      · exact c8 (sw_eq (1 : Int32) e (by decide))
                      · exact c11 (sw_eq (2 : Int32) e (by decide))
                      · exact c14 (sw_eq (3 : Int32) e (by decide))
                      · exact c17 (sw_eq (4 : Int32) e (by decide))
                      · exact c20 (sw_eq (5 : Int32) e (by decide))
                      · exact c23 (sw_eq (6 : Int32) e (by decide))
                      · exact c26 (sw_eq (7 : Int32) e (by decide))
                    · refine lv_aload_n hx hb dX11_unit_151 rfl (lv_at hl 0 rfl) ?_
                      refine lv_iconst (v := 2) hx hb dX11_unit_152 (by decide) ?_
                      obtain ⟨q34, hqq34, h⟩ := dc_bind h
                      refine gc_Vi (ws' := [(a_t, .inr (10, [.int q34.2, .ref a_t_g, .ref a_t_ahead, .ref a_t_history, v_t_historyMany, .ref a_t_saved, v_t_hasSaved, .ref a_t_tape, v_t_taped, v_t_at, v_t_impossibleAt, v_t_letter, .ref a_t_numbers, .ref a_t_plan, v_t_detail, v_t_keptReason, v_t_keptDetail, v_t_above, v_t_below, v_t_bestAbove, v_t_bestBelow, .ref a_t_bestPlan, .ref a_t_sort, .ref a_t_size, .ref a_t_whole, .ref a_t_parts])), (a_t_g, .inl (k 0, 221, .inl t_g))]) (As := [.int (2 : Int32)]) (rest := []) (n := 1) (ci := 10) (cq := (RX11, TX11, 26)) hTs ⟨hx, hb, hml, hown, hts⟩ (mX11_fails l Ts hTs D k H.size a_t a_t_g a_t_ahead a_t_history a_t_saved a_t_tape a_t_numbers a_t_plan a_t_bestPlan a_t_sort a_t_size a_t_whole a_t_parts v_t_above v_t_at v_t_below v_t_bestAbove v_t_bestBelow v_t_detail v_t_hasSaved v_t_historyMany v_t_impossibleAt v_t_keptDetail v_t_keptReason v_t_letter v_t_taped v_t_thrown (2 : Int32) q34 hqq34) u_ml_X11_65 u_im_X11_fails u_se_X11_fails u_in_X11 u_co_X11_fails hd_X11_fails ⟨Nat.le_of_ble_eq_true rfl, Nat.le_of_ble_eq_true rfl⟩ ⟨rfl, rfl⟩ hK hH hA (cutM (isC := [0]) [some 0, none] 2 rfl rfl rfl rfl rfl rfl rfl) rfl rfl rfl rfl hl.1 (Nat.le_of_ble_eq_true rfl) dX11_unit_153 ⟨Nat.le_of_ble_eq_true rfl, Nat.le_of_ble_eq_true rfl⟩ (fun H locs hH => ?_)
                      have h := Option.some.inj h
                      subst h
                      exact ge_i hx hb hr hlocks hQ hK hH hAe rfl dX11_unit_156
  · replace h := dc_pos c2 h
    refine lv_aload_n hx hb dX11_unit_8 rfl (lv_at hl 0 rfl) ?_
    refine lv_iconst (v := 1) hx hb dX11_unit_9 (by decide) ?_
    obtain ⟨q3, hqq3, h⟩ := dc_bind h
    refine gc_Vi (ws' := [(a_t, .inr (10, [.int q3.2, .ref a_t_g, .ref a_t_ahead, .ref a_t_history, v_t_historyMany, .ref a_t_saved, v_t_hasSaved, .ref a_t_tape, v_t_taped, v_t_at, v_t_impossibleAt, v_t_letter, .ref a_t_numbers, .ref a_t_plan, v_t_detail, v_t_keptReason, v_t_keptDetail, v_t_above, v_t_below, v_t_bestAbove, v_t_bestBelow, .ref a_t_bestPlan, .ref a_t_sort, .ref a_t_size, .ref a_t_whole, .ref a_t_parts])), (a_t_g, .inl (k 0, 221, .inl t_g))]) (As := [.int (1 : Int32)]) (rest := []) (n := 1) (ci := 10) (cq := (RX11, TX11, 26)) hTs ⟨hx, hb, hml, hown, hts⟩ (mX11_fails l Ts hTs D k H.size a_t a_t_g a_t_ahead a_t_history a_t_saved a_t_tape a_t_numbers a_t_plan a_t_bestPlan a_t_sort a_t_size a_t_whole a_t_parts v_t_above v_t_at v_t_below v_t_bestAbove v_t_bestBelow v_t_detail v_t_hasSaved v_t_historyMany v_t_impossibleAt v_t_keptDetail v_t_keptReason v_t_letter v_t_taped v_t_thrown (1 : Int32) q3 hqq3) u_ml_X11_65 u_im_X11_fails u_se_X11_fails u_in_X11 u_co_X11_fails hd_X11_fails ⟨Nat.le_of_ble_eq_true rfl, Nat.le_of_ble_eq_true rfl⟩ ⟨rfl, rfl⟩ hK hH hA (cutM (isC := [0]) [some 0, none] 2 rfl rfl rfl rfl rfl rfl rfl) rfl rfl rfl rfl hl.1 (Nat.le_of_ble_eq_true rfl) dX11_unit_10 ⟨Nat.le_of_ble_eq_true rfl, Nat.le_of_ble_eq_true rfl⟩ (fun H locs hH => ?_)
    have h := Option.some.inj h
    subst h
    exact ge_i hx hb hr hlocks hQ hK hH hAe rfl dX11_unit_13
theorem hd_X11_border : yX11_border.cls = RX11 ∧ yX11_border.cls ≠ "java/lang/invoke/MethodHandle" ∧ yX11_border.cls ≠ "java/lang/invoke/VarHandle" ∧ (parseMethodDescriptor yX11_border.desc).map (fun d => d.parameters.length) = some 2 := by decide +kernel
set_option maxHeartbeats 4000000 in
set_option maxRecDepth 100000 in
theorem mX11_border (l : Launch) (Ts : List Cond) (hTs : ∀ w, w ∈ Ts ↔ w ∈ uT) (D : va_G) (k : Nat → ClassId) (sz : Nat) (a_t : Nat) (a_t_g : Nat) (a_t_ahead : Nat) (a_t_history : Nat) (a_t_saved : Nat) (a_t_tape : Nat) (a_t_numbers : Nat) (a_t_plan : Nat) (a_t_bestPlan : Nat) (a_t_sort : Nat) (a_t_size : Nat) (a_t_whole : Nat) (a_t_parts : Nat) (t_g : Nat → Int32) (v_t_above : Value) (v_t_at : Value) (v_t_below : Value) (v_t_bestAbove : Value) (v_t_bestBelow : Value) (v_t_detail : Value) (v_t_hasSaved : Value) (v_t_historyMany : Value) (v_t_impossibleAt : Value) (v_t_keptDetail : Value) (v_t_keptReason : Value) (v_t_letter : Value) (v_t_taped : Value) (v_t_thrown : Value) (x1 : Int32) (x2 : Int32) (r : Int32 × Int32) (h : fX11_border t_g x1 x2 = some r) : Met l yX11_border (Cond.code yX11_border cX11_border 3 (some .int) :: Ts) ({ frames := 2, cells := 0, slots := 0, locals := 43 } : Room) (preM D k [.ref a_t, .int x1, .int x2] [(a_t, .inr (10, [v_t_thrown, .ref a_t_g, .ref a_t_ahead, .ref a_t_history, v_t_historyMany, .ref a_t_saved, v_t_hasSaved, .ref a_t_tape, v_t_taped, v_t_at, v_t_impossibleAt, v_t_letter, .ref a_t_numbers, .ref a_t_plan, v_t_detail, v_t_keptReason, v_t_keptDetail, v_t_above, v_t_below, v_t_bestAbove, v_t_bestBelow, .ref a_t_bestPlan, .ref a_t_sort, .ref a_t_size, .ref a_t_whole, .ref a_t_parts])), (a_t_g, .inl (k 0, 221, .inl t_g))] sz) (postI D k r.1 [(a_t, .inr (10, [v_t_thrown, .ref a_t_g, .ref a_t_ahead, .ref a_t_history, v_t_historyMany, .ref a_t_saved, v_t_hasSaved, .ref a_t_tape, v_t_taped, v_t_at, v_t_impossibleAt, v_t_letter, .ref a_t_numbers, .ref a_t_plan, v_t_detail, v_t_keptReason, v_t_keptDetail, v_t_above, v_t_below, v_t_bestAbove, v_t_bestBelow, .ref a_t_bestPlan, .ref a_t_sort, .ref a_t_size, .ref a_t_whole, .ref a_t_parts])), (a_t_g, .inl (k 0, 221, .inl t_g))] [(a_t, .inr (10, [.int r.2, .ref a_t_g, .ref a_t_ahead, .ref a_t_history, v_t_historyMany, .ref a_t_saved, v_t_hasSaved, .ref a_t_tape, v_t_taped, v_t_at, v_t_impossibleAt, v_t_letter, .ref a_t_numbers, .ref a_t_plan, v_t_detail, v_t_keptReason, v_t_keptDetail, v_t_above, v_t_below, v_t_bestAbove, v_t_bestBelow, .ref a_t_bestPlan, .ref a_t_sort, .ref a_t_size, .ref a_t_whole, .ref a_t_parts])), (a_t_g, .inl (k 0, 221, .inl t_g))] sz) 0 0 (va_A [(a_t, .inr (10, [v_t_thrown, .ref a_t_g, .ref a_t_ahead, .ref a_t_history, v_t_historyMany, .ref a_t_saved, v_t_hasSaved, .ref a_t_tape, v_t_taped, v_t_at, v_t_impossibleAt, v_t_letter, .ref a_t_numbers, .ref a_t_plan, v_t_detail, v_t_keptReason, v_t_keptDetail, v_t_above, v_t_below, v_t_bestAbove, v_t_bestBelow, .ref a_t_bestPlan, .ref a_t_sort, .ref a_t_size, .ref a_t_whole, .ref a_t_parts])), (a_t_g, .inl (k 0, 221, .inl t_g))] sz) := by
  refine Met.ofW (cc := cX11_border) (maxL := 3) (ret := (some .int)) (by decide) rfl ?_
  intro p e s m args below meth c s₁ B hml hv
  obtain ⟨rfl, hsz, hP, hK, hD0⟩ := hv
  have hx := B.exec
  have hb := B.bytes
  have hr := B.returns
  have hts0 := atoms_spec (ws := (Cond.code yX11_border cX11_border 3 (some .int) :: Ts)) B.pre
  have hts : ∀ w ∈ uT, w.before _ s = true := fun w h => hts0 w (List.mem_cons_of_mem _ ((hTs w).mpr h))
  clear hts0
  have hown : s.vm.findClass RX11 = some m.cls := findClass_of_methodNamed B.named
  have hlocks := B.notSynchronized
  subst hsz
  have hD := hD0.self (sz := s.heap.size)
  generalize hAe : va_A [(a_t, .inr (10, [v_t_thrown, .ref a_t_g, .ref a_t_ahead, .ref a_t_history, v_t_historyMany, .ref a_t_saved, v_t_hasSaved, .ref a_t_tape, v_t_taped, v_t_at, v_t_impossibleAt, v_t_letter, .ref a_t_numbers, .ref a_t_plan, v_t_detail, v_t_keptReason, v_t_keptDetail, v_t_above, v_t_below, v_t_bestAbove, v_t_bestBelow, .ref a_t_bestPlan, .ref a_t_sort, .ref a_t_size, .ref a_t_whole, .ref a_t_parts])), (a_t_g, .inl (k 0, 221, .inl t_g))] s.heap.size = A at hD ⊢
  have hA : ∀ q : Nat, s.heap.size ≤ q → A q := fun q h => by rw [← hAe]; exact Or.inr h
  have hH : HOK D A s.heap [(a_t, .inr (10, [v_t_thrown, .ref a_t_g, .ref a_t_ahead, .ref a_t_history, v_t_historyMany, .ref a_t_saved, v_t_hasSaved, .ref a_t_tape, v_t_taped, v_t_at, v_t_impossibleAt, v_t_letter, .ref a_t_numbers, .ref a_t_plan, v_t_detail, v_t_keptReason, v_t_keptDetail, v_t_above, v_t_below, v_t_bestAbove, v_t_bestBelow, .ref a_t_bestPlan, .ref a_t_sort, .ref a_t_size, .ref a_t_whole, .ref a_t_parts])), (a_t_g, .inl (k 0, 221, .inl t_g))] s.heap [] := ⟨hP, hD, va_S.rf⟩
  have hl := lv_entry ([.ref a_t, .int x1, .int x2]) (n := 3) (Nat.le_of_ble_eq_true rfl)
  rw [lg_entry_eq]
  generalize (lg_sl ([.ref a_t, .int x1, .int x2]) ++ List.replicate (3 - (lg_sl ([.ref a_t, .int x1, .int x2])).length) Slot.unset).toArray = ls at hl ⊢
  have hl : lv_has ls 3 [(0, .ref a_t), (1, .int x1), (2, .int x2)] := hl
  generalize hQ : MQ below (postI D k r.1 [(a_t, .inr (10, [v_t_thrown, .ref a_t_g, .ref a_t_ahead, .ref a_t_history, v_t_historyMany, .ref a_t_saved, v_t_hasSaved, .ref a_t_tape, v_t_taped, v_t_at, v_t_impossibleAt, v_t_letter, .ref a_t_numbers, .ref a_t_plan, v_t_detail, v_t_keptReason, v_t_keptDetail, v_t_above, v_t_below, v_t_bestAbove, v_t_bestBelow, .ref a_t_bestPlan, .ref a_t_sort, .ref a_t_size, .ref a_t_whole, .ref a_t_parts])), (a_t_g, .inl (k 0, 221, .inl t_g))] [(a_t, .inr (10, [.int r.2, .ref a_t_g, .ref a_t_ahead, .ref a_t_history, v_t_historyMany, .ref a_t_saved, v_t_hasSaved, .ref a_t_tape, v_t_taped, v_t_at, v_t_impossibleAt, v_t_letter, .ref a_t_numbers, .ref a_t_plan, v_t_detail, v_t_keptReason, v_t_keptDetail, v_t_above, v_t_below, v_t_bestAbove, v_t_bestBelow, .ref a_t_bestPlan, .ref a_t_sort, .ref a_t_size, .ref a_t_whole, .ref a_t_parts])), (a_t_g, .inl (k 0, 221, .inl t_g))] s.heap.size) (List.toArray [.ref a_t, .int x1, .int x2]) s 0 0 A = Q
  clear hP hD hD0
  suffices K : ∀ (H : Heap) (locs : List Loc), HOK D A s.heap [(a_t, .inr (10, [v_t_thrown, .ref a_t_g, .ref a_t_ahead, .ref a_t_history, v_t_historyMany, .ref a_t_saved, v_t_hasSaved, .ref a_t_tape, v_t_taped, v_t_at, v_t_impossibleAt, v_t_letter, .ref a_t_numbers, .ref a_t_plan, v_t_detail, v_t_keptReason, v_t_keptDetail, v_t_above, v_t_below, v_t_bestAbove, v_t_bestBelow, .ref a_t_bestPlan, .ref a_t_sort, .ref a_t_size, .ref a_t_whole, .ref a_t_parts])), (a_t_g, .inl (k 0, 221, .inl t_g))] H locs → W p l e ({ frames := 2, cells := 0, slots := 0, locals := 43 } : Room) s m (List.toArray [.ref a_t, .int x1, .int x2]) below meth c H locs 0 0 Q (F0 m 0 ls []) from K s.heap [] hH
  intro H locs hH
  rw [fX11_border] at h
  refine lv_aload_n hx hb dX11_border_0 rfl (lv_at hl 0 rfl) ?_
  refine lv_iload_n hx hb dX11_border_1 rfl (lv_at hl 1 rfl) ?_
  obtain ⟨q1, hqq1, h⟩ := dc_bind h
  refine gc_Vi (ws' := [(a_t, .inr (10, [v_t_thrown, .ref a_t_g, .ref a_t_ahead, .ref a_t_history, v_t_historyMany, .ref a_t_saved, v_t_hasSaved, .ref a_t_tape, v_t_taped, v_t_at, v_t_impossibleAt, v_t_letter, .ref a_t_numbers, .ref a_t_plan, v_t_detail, v_t_keptReason, v_t_keptDetail, v_t_above, v_t_below, v_t_bestAbove, v_t_bestBelow, .ref a_t_bestPlan, .ref a_t_sort, .ref a_t_size, .ref a_t_whole, .ref a_t_parts])), (a_t_g, .inl (k 0, 221, .inl t_g))]) (As := [.int x1]) (rest := []) (n := 1) (ci := 10) (cq := (RX11, TX11, 26)) hTs ⟨hx, hb, hml, hown, hts⟩ (mX11_isUnit l Ts hTs D k H.size a_t a_t_g a_t_ahead a_t_history a_t_saved a_t_tape a_t_numbers a_t_plan a_t_bestPlan a_t_sort a_t_size a_t_whole a_t_parts t_g v_t_above v_t_at v_t_below v_t_bestAbove v_t_bestBelow v_t_detail v_t_hasSaved v_t_historyMany v_t_impossibleAt v_t_keptDetail v_t_keptReason v_t_letter v_t_taped v_t_thrown x1 q1 hqq1) u_ml_X11_90 u_im_X11_isUnit u_se_X11_isUnit u_in_X11 u_co_X11_isUnit hd_X11_isUnit ⟨Nat.le_of_ble_eq_true rfl, Nat.le_of_ble_eq_true rfl⟩ ⟨rfl, rfl⟩ hK hH hA (cut0 (isC := [0, 1]) rfl rfl rfl) rfl rfl rfl rfl hl.1 (Nat.le_of_ble_eq_true rfl) dX11_border_2 ⟨Nat.le_of_ble_eq_true rfl, Nat.le_of_ble_eq_true rfl⟩ (fun H locs hH => ?_)
  refine lv_if_eq (tgt := 29) hx hb dX11_border_5 (by decide) (fun c2 => ?_) (fun c2 => ?_)
  · replace h := dc_pos c2 h
    refine lv_aload_n hx hb dX11_border_29 rfl (lv_at hl 0 rfl) ?_
    refine lv_iconst (v := 1) hx hb dX11_border_30 (by decide) ?_
    obtain ⟨q3, hqq3, h⟩ := dc_bind h
    refine gc_Vi (ws' := [(a_t, .inr (10, [.int q3.2, .ref a_t_g, .ref a_t_ahead, .ref a_t_history, v_t_historyMany, .ref a_t_saved, v_t_hasSaved, .ref a_t_tape, v_t_taped, v_t_at, v_t_impossibleAt, v_t_letter, .ref a_t_numbers, .ref a_t_plan, v_t_detail, v_t_keptReason, v_t_keptDetail, v_t_above, v_t_below, v_t_bestAbove, v_t_bestBelow, .ref a_t_bestPlan, .ref a_t_sort, .ref a_t_size, .ref a_t_whole, .ref a_t_parts])), (a_t_g, .inl (k 0, 221, .inl t_g))]) (As := [.int (1 : Int32)]) (rest := []) (n := 1) (ci := 10) (cq := (RX11, TX11, 26)) hTs ⟨hx, hb, hml, hown, hts⟩ (mX11_fails l Ts hTs D k H.size a_t a_t_g a_t_ahead a_t_history a_t_saved a_t_tape a_t_numbers a_t_plan a_t_bestPlan a_t_sort a_t_size a_t_whole a_t_parts v_t_above v_t_at v_t_below v_t_bestAbove v_t_bestBelow v_t_detail v_t_hasSaved v_t_historyMany v_t_impossibleAt v_t_keptDetail v_t_keptReason v_t_letter v_t_taped v_t_thrown (1 : Int32) q3 hqq3) u_ml_X11_65 u_im_X11_fails u_se_X11_fails u_in_X11 u_co_X11_fails hd_X11_fails ⟨Nat.le_of_ble_eq_true rfl, Nat.le_of_ble_eq_true rfl⟩ ⟨rfl, rfl⟩ hK hH hA (cutM (isC := [0]) [some 0, none] 2 rfl rfl rfl rfl rfl rfl rfl) rfl rfl rfl rfl hl.1 (Nat.le_of_ble_eq_true rfl) dX11_border_31 ⟨Nat.le_of_ble_eq_true rfl, Nat.le_of_ble_eq_true rfl⟩ (fun H locs hH => ?_)
    have h := Option.some.inj h
    subst h
    exact ge_i hx hb hr hlocks hQ hK hH hAe rfl dX11_border_34
  · replace h := dc_neg c2 h
    refine lv_aload_n hx hb dX11_border_8 rfl (lv_at hl 0 rfl) ?_
    refine lv_iload_n hx hb dX11_border_9 rfl (lv_at hl 2 rfl) ?_
    obtain ⟨q4, hqq4, h⟩ := dc_bind h
    refine gc_Vi (ws' := [(a_t, .inr (10, [v_t_thrown, .ref a_t_g, .ref a_t_ahead, .ref a_t_history, v_t_historyMany, .ref a_t_saved, v_t_hasSaved, .ref a_t_tape, v_t_taped, v_t_at, v_t_impossibleAt, v_t_letter, .ref a_t_numbers, .ref a_t_plan, v_t_detail, v_t_keptReason, v_t_keptDetail, v_t_above, v_t_below, v_t_bestAbove, v_t_bestBelow, .ref a_t_bestPlan, .ref a_t_sort, .ref a_t_size, .ref a_t_whole, .ref a_t_parts])), (a_t_g, .inl (k 0, 221, .inl t_g))]) (As := [.int x2]) (rest := []) (n := 1) (ci := 10) (cq := (RX11, TX11, 26)) hTs ⟨hx, hb, hml, hown, hts⟩ (mX11_isUnit l Ts hTs D k H.size a_t a_t_g a_t_ahead a_t_history a_t_saved a_t_tape a_t_numbers a_t_plan a_t_bestPlan a_t_sort a_t_size a_t_whole a_t_parts t_g v_t_above v_t_at v_t_below v_t_bestAbove v_t_bestBelow v_t_detail v_t_hasSaved v_t_historyMany v_t_impossibleAt v_t_keptDetail v_t_keptReason v_t_letter v_t_taped v_t_thrown x2 q4 hqq4) u_ml_X11_90 u_im_X11_isUnit u_se_X11_isUnit u_in_X11 u_co_X11_isUnit hd_X11_isUnit ⟨Nat.le_of_ble_eq_true rfl, Nat.le_of_ble_eq_true rfl⟩ ⟨rfl, rfl⟩ hK hH hA (cut0 (isC := [0, 1]) rfl rfl rfl) rfl rfl rfl rfl hl.1 (Nat.le_of_ble_eq_true rfl) dX11_border_10 ⟨Nat.le_of_ble_eq_true rfl, Nat.le_of_ble_eq_true rfl⟩ (fun H locs hH => ?_)
    refine lv_if_eq (tgt := 29) hx hb dX11_border_13 (by decide) (fun c5 => ?_) (fun c5 => ?_)
    · replace h := dc_pos c5 h
      refine lv_aload_n hx hb dX11_border_29 rfl (lv_at hl 0 rfl) ?_
      refine lv_iconst (v := 1) hx hb dX11_border_30 (by decide) ?_
      obtain ⟨q6, hqq6, h⟩ := dc_bind h
      refine gc_Vi (ws' := [(a_t, .inr (10, [.int q6.2, .ref a_t_g, .ref a_t_ahead, .ref a_t_history, v_t_historyMany, .ref a_t_saved, v_t_hasSaved, .ref a_t_tape, v_t_taped, v_t_at, v_t_impossibleAt, v_t_letter, .ref a_t_numbers, .ref a_t_plan, v_t_detail, v_t_keptReason, v_t_keptDetail, v_t_above, v_t_below, v_t_bestAbove, v_t_bestBelow, .ref a_t_bestPlan, .ref a_t_sort, .ref a_t_size, .ref a_t_whole, .ref a_t_parts])), (a_t_g, .inl (k 0, 221, .inl t_g))]) (As := [.int (1 : Int32)]) (rest := []) (n := 1) (ci := 10) (cq := (RX11, TX11, 26)) hTs ⟨hx, hb, hml, hown, hts⟩ (mX11_fails l Ts hTs D k H.size a_t a_t_g a_t_ahead a_t_history a_t_saved a_t_tape a_t_numbers a_t_plan a_t_bestPlan a_t_sort a_t_size a_t_whole a_t_parts v_t_above v_t_at v_t_below v_t_bestAbove v_t_bestBelow v_t_detail v_t_hasSaved v_t_historyMany v_t_impossibleAt v_t_keptDetail v_t_keptReason v_t_letter v_t_taped v_t_thrown (1 : Int32) q6 hqq6) u_ml_X11_65 u_im_X11_fails u_se_X11_fails u_in_X11 u_co_X11_fails hd_X11_fails ⟨Nat.le_of_ble_eq_true rfl, Nat.le_of_ble_eq_true rfl⟩ ⟨rfl, rfl⟩ hK hH hA (cutM (isC := [0]) [some 0, none] 2 rfl rfl rfl rfl rfl rfl rfl) rfl rfl rfl rfl hl.1 (Nat.le_of_ble_eq_true rfl) dX11_border_31 ⟨Nat.le_of_ble_eq_true rfl, Nat.le_of_ble_eq_true rfl⟩ (fun H locs hH => ?_)
      have h := Option.some.inj h
      subst h
      exact ge_i hx hb hr hlocks hQ hK hH hAe rfl dX11_border_34
    · replace h := dc_neg c5 h
      refine lv_aload_n hx hb dX11_border_16 rfl (lv_at hl 0 rfl) ?_
      refine lv_aload_n hx hb dX11_border_17 rfl (lv_at hl 0 rfl) ?_
      refine lv_iload_n hx hb dX11_border_18 rfl (lv_at hl 1 rfl) ?_
      refine lv_iload_n hx hb dX11_border_19 rfl (lv_at hl 2 rfl) ?_
      obtain ⟨q7, hqq7, h⟩ := dc_bind h
      refine gc_Vi (ws' := [(a_t, .inr (10, [v_t_thrown, .ref a_t_g, .ref a_t_ahead, .ref a_t_history, v_t_historyMany, .ref a_t_saved, v_t_hasSaved, .ref a_t_tape, v_t_taped, v_t_at, v_t_impossibleAt, v_t_letter, .ref a_t_numbers, .ref a_t_plan, v_t_detail, v_t_keptReason, v_t_keptDetail, v_t_above, v_t_below, v_t_bestAbove, v_t_bestBelow, .ref a_t_bestPlan, .ref a_t_sort, .ref a_t_size, .ref a_t_whole, .ref a_t_parts])), (a_t_g, .inl (k 0, 221, .inl t_g))]) (As := [.int x1, .int x2]) (rest := [.ref a_t]) (n := 2) (ci := 10) (cq := (RX11, TX11, 26)) hTs ⟨hx, hb, hml, hown, hts⟩ (mX11_borderOf l Ts hTs D k H.size a_t a_t_g a_t_ahead a_t_history a_t_saved a_t_tape a_t_numbers a_t_plan a_t_bestPlan a_t_sort a_t_size a_t_whole a_t_parts t_g v_t_above v_t_at v_t_below v_t_bestAbove v_t_bestBelow v_t_detail v_t_hasSaved v_t_historyMany v_t_impossibleAt v_t_keptDetail v_t_keptReason v_t_letter v_t_taped v_t_thrown x1 x2 q7 hqq7) u_ml_X11_93 u_im_X11_borderOf u_se_X11_borderOf u_in_X11 u_co_X11_borderOf hd_X11_borderOf ⟨Nat.le_of_ble_eq_true rfl, Nat.le_of_ble_eq_true rfl⟩ ⟨rfl, rfl⟩ hK hH hA (cut0 (isC := [0, 1]) rfl rfl rfl) rfl rfl rfl rfl hl.1 (Nat.le_of_ble_eq_true rfl) dX11_border_20 ⟨Nat.le_of_ble_eq_true rfl, Nat.le_of_ble_eq_true rfl⟩ (fun H locs hH => ?_)
      obtain ⟨q8, hqq8, h⟩ := dc_bind h
      refine gc_Vi (ws' := [(a_t, .inr (10, [.int q8.2, .ref a_t_g, .ref a_t_ahead, .ref a_t_history, v_t_historyMany, .ref a_t_saved, v_t_hasSaved, .ref a_t_tape, v_t_taped, v_t_at, v_t_impossibleAt, v_t_letter, .ref a_t_numbers, .ref a_t_plan, v_t_detail, v_t_keptReason, v_t_keptDetail, v_t_above, v_t_below, v_t_bestAbove, v_t_bestBelow, .ref a_t_bestPlan, .ref a_t_sort, .ref a_t_size, .ref a_t_whole, .ref a_t_parts])), (a_t_g, .inl (k 0, 221, .inl t_g))]) (As := [.int q7]) (rest := []) (n := 1) (ci := 10) (cq := (RX11, TX11, 26)) hTs ⟨hx, hb, hml, hown, hts⟩ (mX11_done l Ts hTs D k H.size a_t a_t_g a_t_ahead a_t_history a_t_saved a_t_tape a_t_numbers a_t_plan a_t_bestPlan a_t_sort a_t_size a_t_whole a_t_parts v_t_above v_t_at v_t_below v_t_bestAbove v_t_bestBelow v_t_detail v_t_hasSaved v_t_historyMany v_t_impossibleAt v_t_keptDetail v_t_keptReason v_t_letter v_t_taped v_t_thrown q7 q8 hqq8) u_ml_X11_69 u_im_X11_done u_se_X11_done u_in_X11 u_co_X11_done hd_X11_done ⟨Nat.le_of_ble_eq_true rfl, Nat.le_of_ble_eq_true rfl⟩ ⟨rfl, rfl⟩ hK hH hA (cutM (isC := [0]) [some 0, none] 2 rfl rfl rfl rfl rfl rfl rfl) rfl rfl rfl rfl hl.1 (Nat.le_of_ble_eq_true rfl) dX11_border_23 ⟨Nat.le_of_ble_eq_true rfl, Nat.le_of_ble_eq_true rfl⟩ (fun H locs hH => ?_)
      refine lv_goto (tgt := 34) hx hb dX11_border_26 (by decide) ?_
      have h := Option.some.inj h
      subst h
      exact ge_i hx hb hr hlocks hQ hK hH hAe rfl dX11_border_34
