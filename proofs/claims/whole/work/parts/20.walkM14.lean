theorem hd_X11_cutLengths : yX11_cutLengths.cls = RX11 ∧ yX11_cutLengths.cls ≠ "java/lang/invoke/MethodHandle" ∧ yX11_cutLengths.cls ≠ "java/lang/invoke/VarHandle" ∧ (parseMethodDescriptor yX11_cutLengths.desc).map (fun d => d.parameters.length) = some 0 := by decide +kernel
set_option maxHeartbeats 4000000 in
set_option maxRecDepth 100000 in
theorem mX11_cutLengths (l : Launch) (Ts : List Cond) (hTs : ∀ w, w ∈ Ts ↔ w ∈ uT) (D : va_G) (k : Nat → ClassId) (sz : Nat) (a_t : Nat) (a_t_g : Nat) (a_t_ahead : Nat) (a_t_history : Nat) (a_t_saved : Nat) (a_t_tape : Nat) (a_t_numbers : Nat) (a_t_plan : Nat) (a_t_bestPlan : Nat) (a_t_sort : Nat) (a_t_size : Nat) (a_t_whole : Nat) (a_t_parts : Nat) (t_g : Nat → Int32) (t_plan : Nat → Int32) (v_t_above : Value) (v_t_at : Value) (v_t_below : Value) (v_t_bestAbove : Value) (v_t_bestBelow : Value) (v_t_detail : Value) (v_t_hasSaved : Value) (v_t_historyMany : Value) (v_t_impossibleAt : Value) (v_t_keptDetail : Value) (v_t_keptReason : Value) (v_t_letter : Value) (v_t_taped : Value) (v_t_thrown : Value) (r : Int32) (h : fX11_cutLengths t_g t_plan = some r) : Met l yX11_cutLengths (Cond.code yX11_cutLengths cX11_cutLengths 4 (some .int) :: Ts) ({ frames := 1, cells := 0, slots := 0, locals := 22 } : Room) (preM D k [.ref a_t] [(a_t, .inr (10, [v_t_thrown, .ref a_t_g, .ref a_t_ahead, .ref a_t_history, v_t_historyMany, .ref a_t_saved, v_t_hasSaved, .ref a_t_tape, v_t_taped, v_t_at, v_t_impossibleAt, v_t_letter, .ref a_t_numbers, .ref a_t_plan, v_t_detail, v_t_keptReason, v_t_keptDetail, v_t_above, v_t_below, v_t_bestAbove, v_t_bestBelow, .ref a_t_bestPlan, .ref a_t_sort, .ref a_t_size, .ref a_t_whole, .ref a_t_parts])), (a_t_g, .inl (k 0, 221, .inl t_g)), (a_t_plan, .inl (k 0, 12, .inl t_plan))] sz) (postI D k r [(a_t, .inr (10, [v_t_thrown, .ref a_t_g, .ref a_t_ahead, .ref a_t_history, v_t_historyMany, .ref a_t_saved, v_t_hasSaved, .ref a_t_tape, v_t_taped, v_t_at, v_t_impossibleAt, v_t_letter, .ref a_t_numbers, .ref a_t_plan, v_t_detail, v_t_keptReason, v_t_keptDetail, v_t_above, v_t_below, v_t_bestAbove, v_t_bestBelow, .ref a_t_bestPlan, .ref a_t_sort, .ref a_t_size, .ref a_t_whole, .ref a_t_parts])), (a_t_g, .inl (k 0, 221, .inl t_g)), (a_t_plan, .inl (k 0, 12, .inl t_plan))] [(a_t, .inr (10, [v_t_thrown, .ref a_t_g, .ref a_t_ahead, .ref a_t_history, v_t_historyMany, .ref a_t_saved, v_t_hasSaved, .ref a_t_tape, v_t_taped, v_t_at, v_t_impossibleAt, v_t_letter, .ref a_t_numbers, .ref a_t_plan, v_t_detail, v_t_keptReason, v_t_keptDetail, v_t_above, v_t_below, v_t_bestAbove, v_t_bestBelow, .ref a_t_bestPlan, .ref a_t_sort, .ref a_t_size, .ref a_t_whole, .ref a_t_parts])), (a_t_g, .inl (k 0, 221, .inl t_g)), (a_t_plan, .inl (k 0, 12, .inl t_plan))] sz) 0 0 (va_A [(a_t, .inr (10, [v_t_thrown, .ref a_t_g, .ref a_t_ahead, .ref a_t_history, v_t_historyMany, .ref a_t_saved, v_t_hasSaved, .ref a_t_tape, v_t_taped, v_t_at, v_t_impossibleAt, v_t_letter, .ref a_t_numbers, .ref a_t_plan, v_t_detail, v_t_keptReason, v_t_keptDetail, v_t_above, v_t_below, v_t_bestAbove, v_t_bestBelow, .ref a_t_bestPlan, .ref a_t_sort, .ref a_t_size, .ref a_t_whole, .ref a_t_parts])), (a_t_g, .inl (k 0, 221, .inl t_g)), (a_t_plan, .inl (k 0, 12, .inl t_plan))] sz) := by
  refine Met.ofW (cc := cX11_cutLengths) (maxL := 4) (ret := (some .int)) (by decide) rfl ?_
  intro p e s m args below meth c s₁ B hml hv
  obtain ⟨rfl, hsz, hP, hK, hD0⟩ := hv
  have hx := B.exec
  have hb := B.bytes
  have hr := B.returns
  have hts0 := atoms_spec (ws := (Cond.code yX11_cutLengths cX11_cutLengths 4 (some .int) :: Ts)) B.pre
  have hts : ∀ w ∈ uT, w.before _ s = true := fun w h => hts0 w (List.mem_cons_of_mem _ ((hTs w).mpr h))
  clear hts0
  have hown : s.vm.findClass RX11 = some m.cls := findClass_of_methodNamed B.named
  have hlocks := B.notSynchronized
  subst hsz
  have hD := hD0.self (sz := s.heap.size)
  generalize hAe : va_A [(a_t, .inr (10, [v_t_thrown, .ref a_t_g, .ref a_t_ahead, .ref a_t_history, v_t_historyMany, .ref a_t_saved, v_t_hasSaved, .ref a_t_tape, v_t_taped, v_t_at, v_t_impossibleAt, v_t_letter, .ref a_t_numbers, .ref a_t_plan, v_t_detail, v_t_keptReason, v_t_keptDetail, v_t_above, v_t_below, v_t_bestAbove, v_t_bestBelow, .ref a_t_bestPlan, .ref a_t_sort, .ref a_t_size, .ref a_t_whole, .ref a_t_parts])), (a_t_g, .inl (k 0, 221, .inl t_g)), (a_t_plan, .inl (k 0, 12, .inl t_plan))] s.heap.size = A at hD ⊢
  have hA : ∀ q : Nat, s.heap.size ≤ q → A q := fun q h => by rw [← hAe]; exact Or.inr h
  have hH : HOK D A s.heap [(a_t, .inr (10, [v_t_thrown, .ref a_t_g, .ref a_t_ahead, .ref a_t_history, v_t_historyMany, .ref a_t_saved, v_t_hasSaved, .ref a_t_tape, v_t_taped, v_t_at, v_t_impossibleAt, v_t_letter, .ref a_t_numbers, .ref a_t_plan, v_t_detail, v_t_keptReason, v_t_keptDetail, v_t_above, v_t_below, v_t_bestAbove, v_t_bestBelow, .ref a_t_bestPlan, .ref a_t_sort, .ref a_t_size, .ref a_t_whole, .ref a_t_parts])), (a_t_g, .inl (k 0, 221, .inl t_g)), (a_t_plan, .inl (k 0, 12, .inl t_plan))] s.heap [] := ⟨hP, hD, va_S.rf⟩
  have hl := lv_entry ([.ref a_t]) (n := 4) (Nat.le_of_ble_eq_true rfl)
  rw [lg_entry_eq]
  generalize (lg_sl ([.ref a_t]) ++ List.replicate (4 - (lg_sl ([.ref a_t])).length) Slot.unset).toArray = ls at hl ⊢
  have hl : lv_has ls 4 [(0, .ref a_t)] := hl
  generalize hQ : MQ below (postI D k r [(a_t, .inr (10, [v_t_thrown, .ref a_t_g, .ref a_t_ahead, .ref a_t_history, v_t_historyMany, .ref a_t_saved, v_t_hasSaved, .ref a_t_tape, v_t_taped, v_t_at, v_t_impossibleAt, v_t_letter, .ref a_t_numbers, .ref a_t_plan, v_t_detail, v_t_keptReason, v_t_keptDetail, v_t_above, v_t_below, v_t_bestAbove, v_t_bestBelow, .ref a_t_bestPlan, .ref a_t_sort, .ref a_t_size, .ref a_t_whole, .ref a_t_parts])), (a_t_g, .inl (k 0, 221, .inl t_g)), (a_t_plan, .inl (k 0, 12, .inl t_plan))] [(a_t, .inr (10, [v_t_thrown, .ref a_t_g, .ref a_t_ahead, .ref a_t_history, v_t_historyMany, .ref a_t_saved, v_t_hasSaved, .ref a_t_tape, v_t_taped, v_t_at, v_t_impossibleAt, v_t_letter, .ref a_t_numbers, .ref a_t_plan, v_t_detail, v_t_keptReason, v_t_keptDetail, v_t_above, v_t_below, v_t_bestAbove, v_t_bestBelow, .ref a_t_bestPlan, .ref a_t_sort, .ref a_t_size, .ref a_t_whole, .ref a_t_parts])), (a_t_g, .inl (k 0, 221, .inl t_g)), (a_t_plan, .inl (k 0, 12, .inl t_plan))] s.heap.size) (List.toArray [.ref a_t]) s 0 0 A = Q
  clear hP hD hD0
  suffices K : ∀ (H : Heap) (locs : List Loc), HOK D A s.heap [(a_t, .inr (10, [v_t_thrown, .ref a_t_g, .ref a_t_ahead, .ref a_t_history, v_t_historyMany, .ref a_t_saved, v_t_hasSaved, .ref a_t_tape, v_t_taped, v_t_at, v_t_impossibleAt, v_t_letter, .ref a_t_numbers, .ref a_t_plan, v_t_detail, v_t_keptReason, v_t_keptDetail, v_t_above, v_t_below, v_t_bestAbove, v_t_bestBelow, .ref a_t_bestPlan, .ref a_t_sort, .ref a_t_size, .ref a_t_whole, .ref a_t_parts])), (a_t_g, .inl (k 0, 221, .inl t_g)), (a_t_plan, .inl (k 0, 12, .inl t_plan))] H locs → W p l e ({ frames := 1, cells := 0, slots := 0, locals := 22 } : Room) s m (List.toArray [.ref a_t]) below meth c H locs 0 0 Q (F0 m 0 ls []) from K s.heap [] hH
  intro H locs hH
  have L18 : ∀ (y18_2 : Int32) (n : Nat), ∀ (kf : Int32 → Option (Int32)) (y18_1 : Int32) (y18_3 : Int32), fX11_cutLengths_L18 t_g t_plan y18_2 n kf y18_1 y18_3 = some r → (∀ (z18_1 : Int32) (H : Heap) (locs : List Loc) (ls : Array Slot), kf z18_1 = some r → HOK D A s.heap [(a_t, .inr (10, [v_t_thrown, .ref a_t_g, .ref a_t_ahead, .ref a_t_history, v_t_historyMany, .ref a_t_saved, v_t_hasSaved, .ref a_t_tape, v_t_taped, v_t_at, v_t_impossibleAt, v_t_letter, .ref a_t_numbers, .ref a_t_plan, v_t_detail, v_t_keptReason, v_t_keptDetail, v_t_above, v_t_below, v_t_bestAbove, v_t_bestBelow, .ref a_t_bestPlan, .ref a_t_sort, .ref a_t_size, .ref a_t_whole, .ref a_t_parts])), (a_t_g, .inl (k 0, 221, .inl t_g)), (a_t_plan, .inl (k 0, 12, .inl t_plan))] H locs → lv_has ls 4 [(0, .ref a_t), (1, .int z18_1), (2, .int y18_2)] → W p l e ({ frames := 1, cells := 0, slots := 0, locals := 22 } : Room) s m (List.toArray [.ref a_t]) below meth c H locs 0 0 Q (F0 m 57 ls [])) → ∀ (H : Heap) (locs : List Loc) (ls : Array Slot), HOK D A s.heap [(a_t, .inr (10, [v_t_thrown, .ref a_t_g, .ref a_t_ahead, .ref a_t_history, v_t_historyMany, .ref a_t_saved, v_t_hasSaved, .ref a_t_tape, v_t_taped, v_t_at, v_t_impossibleAt, v_t_letter, .ref a_t_numbers, .ref a_t_plan, v_t_detail, v_t_keptReason, v_t_keptDetail, v_t_above, v_t_below, v_t_bestAbove, v_t_bestBelow, .ref a_t_bestPlan, .ref a_t_sort, .ref a_t_size, .ref a_t_whole, .ref a_t_parts])), (a_t_g, .inl (k 0, 221, .inl t_g)), (a_t_plan, .inl (k 0, 12, .inl t_plan))] H locs → lv_has ls 4 [(0, .ref a_t), (1, .int y18_1), (2, .int y18_2), (3, .int y18_3)] → W p l e ({ frames := 1, cells := 0, slots := 0, locals := 22 } : Room) s m (List.toArray [.ref a_t]) below meth c H locs 0 0 Q (F0 m 18 ls []) := by
    intro y18_2 n
    induction n with
    | zero =>
      intro kf y18_1 y18_3 h
      exact absurd h (by rw [fX11_cutLengths_L18]; exact fun q => by cases q)
    | succ n ih =>
      intro kf y18_1 y18_3 h kk H locs ls hH hl
      rw [fX11_cutLengths_L18] at h
      refine lv_iload_n hx hb dX11_cutLengths_18 rfl (lv_at hl 3 rfl) ?_
      refine lv_iload_n hx hb dX11_cutLengths_19 rfl (lv_at hl 2 rfl) ?_
      refine lv_icmp_ge (tgt := 57) hx hb dX11_cutLengths_20 (by decide) (fun c2 => ?_) (fun c2 => ?_)
      · replace h := dc_pos c2 h
        exact kk y18_1 H locs ls h hH (lv_sub hl [0, 1, 2] rfl)
      · replace h := dc_neg c2 h
        refine lv_iload_n hx hb dX11_cutLengths_23 rfl (lv_at hl 1 rfl) ?_
        refine lv_aload_n hx hb dX11_cutLengths_24 rfl (lv_at hl 0 rfl) ?_
        refine gk_get (ci := 10) (C := RX11) (T := TX11) (N := 26) hx hb hts u_ws_X11 hown hK hH 0 rfl rfl 13 (by decide) u_fl_X11_33 rfl dX11_cutLengths_25 ?_
        refine lv_iload_n hx hb dX11_cutLengths_28 rfl (lv_at hl 2 rfl) ?_
        obtain ⟨g3, h⟩ := dc_need h
        refine gk_iald hx hb hK hH 2 rfl (dk_in g3) dX11_cutLengths_29 ?_
        refine lv_aload_n hx hb dX11_cutLengths_30 rfl (lv_at hl 0 rfl) ?_
        refine gk_get (ci := 10) (C := RX11) (T := TX11) (N := 26) hx hb hts u_ws_X11 hown hK hH 0 rfl rfl 13 (by decide) u_fl_X11_33 rfl dX11_cutLengths_31 ?_
        refine lv_iload_n hx hb dX11_cutLengths_34 rfl (lv_at hl 3 rfl) ?_
        obtain ⟨g4, h⟩ := dc_need h
        refine gk_iald hx hb hK hH 2 rfl (dk_in g4) dX11_cutLengths_35 ?_
        refine lv_icmp_eq (tgt := 48) hx hb dX11_cutLengths_36 (by decide) (fun c5 => ?_) (fun c5 => ?_)
        · replace h := dc_pos c5 h
          refine lv_iconst (v := 0) hx hb dX11_cutLengths_48 (by decide) ?_
          refine lv_iadd hx hb dX11_cutLengths_49 ?_
          refine lv_istore_n (lv' := [(1, .int (y18_1 + (0 : Int32))), (0, .ref a_t), (2, .int y18_2), (3, .int y18_3)]) hx hb dX11_cutLengths_50 rfl hl (by decide) rfl (fun ls hl => ?_)
          refine lv_iinc (v := (y18_3 + (1 : Int32))) (lv' := [(3, .int (y18_3 + (1 : Int32))), (1, .int (y18_1 + (0 : Int32))), (0, .ref a_t), (2, .int y18_2)]) hx hb dX11_cutLengths_51 hl (k := 3) rfl rfl (by decide) rfl (fun ls hl => ?_)
          refine lv_goto (tgt := 18) hx hb dX11_cutLengths_54 (by decide) ?_
          exact ih kf (y18_1 + (0 : Int32)) (y18_3 + (1 : Int32)) h kk H locs ls hH (lv_sub hl [2, 1, 3, 0] rfl)
        · replace h := dc_neg c5 h
          refine lv_aload_n hx hb dX11_cutLengths_39 rfl (lv_at hl 0 rfl) ?_
          refine lv_iload_n hx hb dX11_cutLengths_40 rfl (lv_at hl 2 rfl) ?_
          refine lv_iload_n hx hb dX11_cutLengths_41 rfl (lv_at hl 3 rfl) ?_
          obtain ⟨q6, hqq6, h⟩ := dc_bind h
          refine gc_Vi (ws' := [(a_t, .inr (10, [v_t_thrown, .ref a_t_g, .ref a_t_ahead, .ref a_t_history, v_t_historyMany, .ref a_t_saved, v_t_hasSaved, .ref a_t_tape, v_t_taped, v_t_at, v_t_impossibleAt, v_t_letter, .ref a_t_numbers, .ref a_t_plan, v_t_detail, v_t_keptReason, v_t_keptDetail, v_t_above, v_t_below, v_t_bestAbove, v_t_bestBelow, .ref a_t_bestPlan, .ref a_t_sort, .ref a_t_size, .ref a_t_whole, .ref a_t_parts])), (a_t_g, .inl (k 0, 221, .inl t_g)), (a_t_plan, .inl (k 0, 12, .inl t_plan))]) (As := [.int y18_2, .int y18_3]) (rest := [.int y18_1]) (n := 2) (ci := 10) (cq := (RX11, TX11, 26)) hTs ⟨hx, hb, hml, hown, hts⟩ (mX11_borderOf l Ts hTs D k H.size a_t a_t_g a_t_ahead a_t_history a_t_saved a_t_tape a_t_numbers a_t_plan a_t_bestPlan a_t_sort a_t_size a_t_whole a_t_parts t_g v_t_above v_t_at v_t_below v_t_bestAbove v_t_bestBelow v_t_detail v_t_hasSaved v_t_historyMany v_t_impossibleAt v_t_keptDetail v_t_keptReason v_t_letter v_t_taped v_t_thrown y18_2 y18_3 q6 hqq6) u_ml_X11_93 u_im_X11_borderOf u_se_X11_borderOf u_in_X11 u_co_X11_borderOf hd_X11_borderOf ⟨Nat.le_of_ble_eq_true rfl, Nat.le_of_ble_eq_true rfl⟩ ⟨rfl, rfl⟩ hK hH hA (cut0 (isC := [0, 1]) rfl rfl rfl) rfl rfl rfl rfl hl.1 (Nat.le_of_ble_eq_true rfl) dX11_cutLengths_42 ⟨Nat.le_of_ble_eq_true rfl, Nat.le_of_ble_eq_true rfl⟩ (fun H locs hH => ?_)
          refine lv_goto (tgt := 49) hx hb dX11_cutLengths_45 (by decide) ?_
          refine lv_iadd hx hb dX11_cutLengths_49 ?_
          refine lv_istore_n (lv' := [(1, .int (y18_1 + q6)), (0, .ref a_t), (2, .int y18_2), (3, .int y18_3)]) hx hb dX11_cutLengths_50 rfl hl (by decide) rfl (fun ls hl => ?_)
          refine lv_iinc (v := (y18_3 + (1 : Int32))) (lv' := [(3, .int (y18_3 + (1 : Int32))), (1, .int (y18_1 + q6)), (0, .ref a_t), (2, .int y18_2)]) hx hb dX11_cutLengths_51 hl (k := 3) rfl rfl (by decide) rfl (fun ls hl => ?_)
          refine lv_goto (tgt := 18) hx hb dX11_cutLengths_54 (by decide) ?_
          exact ih kf (y18_1 + q6) (y18_3 + (1 : Int32)) h kk H locs ls hH (lv_sub hl [2, 1, 3, 0] rfl)
  have L4 : ∀ (n : Nat), ∀ (kf : Int32 → Option (Int32)) (y4_1 : Int32) (y4_2 : Int32), fX11_cutLengths_L4 t_g t_plan n kf y4_1 y4_2 = some r → (∀ (z4_1 : Int32) (H : Heap) (locs : List Loc) (ls : Array Slot), kf z4_1 = some r → HOK D A s.heap [(a_t, .inr (10, [v_t_thrown, .ref a_t_g, .ref a_t_ahead, .ref a_t_history, v_t_historyMany, .ref a_t_saved, v_t_hasSaved, .ref a_t_tape, v_t_taped, v_t_at, v_t_impossibleAt, v_t_letter, .ref a_t_numbers, .ref a_t_plan, v_t_detail, v_t_keptReason, v_t_keptDetail, v_t_above, v_t_below, v_t_bestAbove, v_t_bestBelow, .ref a_t_bestPlan, .ref a_t_sort, .ref a_t_size, .ref a_t_whole, .ref a_t_parts])), (a_t_g, .inl (k 0, 221, .inl t_g)), (a_t_plan, .inl (k 0, 12, .inl t_plan))] H locs → lv_has ls 4 [(1, .int z4_1)] → W p l e ({ frames := 1, cells := 0, slots := 0, locals := 22 } : Room) s m (List.toArray [.ref a_t]) below meth c H locs 0 0 Q (F0 m 63 ls [])) → ∀ (H : Heap) (locs : List Loc) (ls : Array Slot), HOK D A s.heap [(a_t, .inr (10, [v_t_thrown, .ref a_t_g, .ref a_t_ahead, .ref a_t_history, v_t_historyMany, .ref a_t_saved, v_t_hasSaved, .ref a_t_tape, v_t_taped, v_t_at, v_t_impossibleAt, v_t_letter, .ref a_t_numbers, .ref a_t_plan, v_t_detail, v_t_keptReason, v_t_keptDetail, v_t_above, v_t_below, v_t_bestAbove, v_t_bestBelow, .ref a_t_bestPlan, .ref a_t_sort, .ref a_t_size, .ref a_t_whole, .ref a_t_parts])), (a_t_g, .inl (k 0, 221, .inl t_g)), (a_t_plan, .inl (k 0, 12, .inl t_plan))] H locs → lv_has ls 4 [(0, .ref a_t), (1, .int y4_1), (2, .int y4_2)] → W p l e ({ frames := 1, cells := 0, slots := 0, locals := 22 } : Room) s m (List.toArray [.ref a_t]) below meth c H locs 0 0 Q (F0 m 4 ls []) := by
    intro n
    induction n with
    | zero =>
      intro kf y4_1 y4_2 h
      exact absurd h (by rw [fX11_cutLengths_L4]; exact fun q => by cases q)
    | succ n ih =>
      intro kf y4_1 y4_2 h kk H locs ls hH hl
      rw [fX11_cutLengths_L4] at h
      refine lv_iload_n hx hb dX11_cutLengths_4 rfl (lv_at hl 2 rfl) ?_
      refine lv_aload_n hx hb dX11_cutLengths_5 rfl (lv_at hl 0 rfl) ?_
      refine gk_get (ci := 10) (C := RX11) (T := TX11) (N := 26) hx hb hts u_ws_X11 hown hK hH 0 rfl rfl 1 (by decide) u_fl_X11_7 rfl dX11_cutLengths_6 ?_
      refine lv_sipush (v := 204) hx hb dX11_cutLengths_9 (by decide) ?_
      refine gk_iald hx hb hK hH 1 rfl (dk_in (by decide)) dX11_cutLengths_12 ?_
      refine lv_icmp_ge (tgt := 63) hx hb dX11_cutLengths_13 (by decide) (fun c1 => ?_) (fun c1 => ?_)
      · replace h := dc_pos c1 h
        exact kk y4_1 H locs ls h hH (lv_sub hl [1] rfl)
      · replace h := dc_neg c1 h
        refine lv_iconst (v := 0) hx hb dX11_cutLengths_16 (by decide) ?_
        refine lv_istore_n (lv' := [(3, .int (0 : Int32)), (0, .ref a_t), (1, .int y4_1), (2, .int y4_2)]) hx hb dX11_cutLengths_17 rfl hl (by decide) rfl (fun ls hl => ?_)
        refine L18 y4_2 _ _ y4_1 (0 : Int32) h (fun z18_1 H locs ls h hH hl => ?_) H locs ls hH (lv_sub hl [1, 2, 3, 0] rfl)
        refine lv_iinc (v := (y4_2 + (1 : Int32))) (lv' := [(2, .int (y4_2 + (1 : Int32))), (0, .ref a_t), (1, .int z18_1)]) hx hb dX11_cutLengths_57 hl (k := 2) rfl rfl (by decide) rfl (fun ls hl => ?_)
        refine lv_goto (tgt := 4) hx hb dX11_cutLengths_60 (by decide) ?_
        exact ih kf z18_1 (y4_2 + (1 : Int32)) h kk H locs ls hH (lv_sub hl [1, 2, 0] rfl)
  rw [fX11_cutLengths] at h
  refine lv_iconst (v := 0) hx hb dX11_cutLengths_0 (by decide) ?_
  refine lv_istore_n (lv' := [(1, .int (0 : Int32)), (0, .ref a_t)]) hx hb dX11_cutLengths_1 rfl hl (by decide) rfl (fun ls hl => ?_)
  refine lv_iconst (v := 0) hx hb dX11_cutLengths_2 (by decide) ?_
  refine lv_istore_n (lv' := [(2, .int (0 : Int32)), (1, .int (0 : Int32)), (0, .ref a_t)]) hx hb dX11_cutLengths_3 rfl hl (by decide) rfl (fun ls hl => ?_)
  refine L4 _ _ (0 : Int32) (0 : Int32) h (fun z4_1 H locs ls h hH hl => ?_) H locs ls hH (lv_sub hl [2, 1, 0] rfl)
  refine lv_iload_n hx hb dX11_cutLengths_63 rfl (lv_at hl 0 rfl) ?_
  have h := Option.some.inj h
  subst h
  exact ge_i hx hb hr hlocks hQ hK hH hAe rfl dX11_cutLengths_64
theorem hd_X11_torn : yX11_torn.cls = RX11 ∧ yX11_torn.cls ≠ "java/lang/invoke/MethodHandle" ∧ yX11_torn.cls ≠ "java/lang/invoke/VarHandle" ∧ (parseMethodDescriptor yX11_torn.desc).map (fun d => d.parameters.length) = some 0 := by decide +kernel
set_option maxHeartbeats 4000000 in
set_option maxRecDepth 100000 in
theorem mX11_torn (l : Launch) (Ts : List Cond) (hTs : ∀ w, w ∈ Ts ↔ w ∈ uT) (D : va_G) (k : Nat → ClassId) (sz : Nat) (a_t : Nat) (a_t_g : Nat) (a_t_ahead : Nat) (a_t_history : Nat) (a_t_saved : Nat) (a_t_tape : Nat) (a_t_numbers : Nat) (a_t_plan : Nat) (a_t_bestPlan : Nat) (a_t_sort : Nat) (a_t_size : Nat) (a_t_whole : Nat) (a_t_parts : Nat) (t_g : Nat → Int32) (t_plan : Nat → Int32) (v_t_above : Value) (v_t_at : Value) (v_t_below : Value) (v_t_bestAbove : Value) (v_t_bestBelow : Value) (v_t_detail : Value) (v_t_hasSaved : Value) (v_t_historyMany : Value) (v_t_impossibleAt : Value) (v_t_keptDetail : Value) (v_t_keptReason : Value) (v_t_letter : Value) (v_t_taped : Value) (v_t_thrown : Value) (r : Int32) (h : fX11_torn t_g t_plan = some r) : Met l yX11_torn (Cond.code yX11_torn cX11_torn 5 (some .int) :: Ts) ({ frames := 1, cells := 0, slots := 0, locals := 22 } : Room) (preM D k [.ref a_t] [(a_t, .inr (10, [v_t_thrown, .ref a_t_g, .ref a_t_ahead, .ref a_t_history, v_t_historyMany, .ref a_t_saved, v_t_hasSaved, .ref a_t_tape, v_t_taped, v_t_at, v_t_impossibleAt, v_t_letter, .ref a_t_numbers, .ref a_t_plan, v_t_detail, v_t_keptReason, v_t_keptDetail, v_t_above, v_t_below, v_t_bestAbove, v_t_bestBelow, .ref a_t_bestPlan, .ref a_t_sort, .ref a_t_size, .ref a_t_whole, .ref a_t_parts])), (a_t_g, .inl (k 0, 221, .inl t_g)), (a_t_plan, .inl (k 0, 12, .inl t_plan))] sz) (postI D k r [(a_t, .inr (10, [v_t_thrown, .ref a_t_g, .ref a_t_ahead, .ref a_t_history, v_t_historyMany, .ref a_t_saved, v_t_hasSaved, .ref a_t_tape, v_t_taped, v_t_at, v_t_impossibleAt, v_t_letter, .ref a_t_numbers, .ref a_t_plan, v_t_detail, v_t_keptReason, v_t_keptDetail, v_t_above, v_t_below, v_t_bestAbove, v_t_bestBelow, .ref a_t_bestPlan, .ref a_t_sort, .ref a_t_size, .ref a_t_whole, .ref a_t_parts])), (a_t_g, .inl (k 0, 221, .inl t_g)), (a_t_plan, .inl (k 0, 12, .inl t_plan))] [(a_t, .inr (10, [v_t_thrown, .ref a_t_g, .ref a_t_ahead, .ref a_t_history, v_t_historyMany, .ref a_t_saved, v_t_hasSaved, .ref a_t_tape, v_t_taped, v_t_at, v_t_impossibleAt, v_t_letter, .ref a_t_numbers, .ref a_t_plan, v_t_detail, v_t_keptReason, v_t_keptDetail, v_t_above, v_t_below, v_t_bestAbove, v_t_bestBelow, .ref a_t_bestPlan, .ref a_t_sort, .ref a_t_size, .ref a_t_whole, .ref a_t_parts])), (a_t_g, .inl (k 0, 221, .inl t_g)), (a_t_plan, .inl (k 0, 12, .inl t_plan))] sz) 0 0 (va_A [(a_t, .inr (10, [v_t_thrown, .ref a_t_g, .ref a_t_ahead, .ref a_t_history, v_t_historyMany, .ref a_t_saved, v_t_hasSaved, .ref a_t_tape, v_t_taped, v_t_at, v_t_impossibleAt, v_t_letter, .ref a_t_numbers, .ref a_t_plan, v_t_detail, v_t_keptReason, v_t_keptDetail, v_t_above, v_t_below, v_t_bestAbove, v_t_bestBelow, .ref a_t_bestPlan, .ref a_t_sort, .ref a_t_size, .ref a_t_whole, .ref a_t_parts])), (a_t_g, .inl (k 0, 221, .inl t_g)), (a_t_plan, .inl (k 0, 12, .inl t_plan))] sz) := by
  refine Met.ofW (cc := cX11_torn) (maxL := 5) (ret := (some .int)) (by decide) rfl ?_
  intro p e s m args below meth c s₁ B hml hv
  obtain ⟨rfl, hsz, hP, hK, hD0⟩ := hv
  have hx := B.exec
  have hb := B.bytes
  have hr := B.returns
  have hts0 := atoms_spec (ws := (Cond.code yX11_torn cX11_torn 5 (some .int) :: Ts)) B.pre
  have hts : ∀ w ∈ uT, w.before _ s = true := fun w h => hts0 w (List.mem_cons_of_mem _ ((hTs w).mpr h))
  clear hts0
  have hown : s.vm.findClass RX11 = some m.cls := findClass_of_methodNamed B.named
  have hlocks := B.notSynchronized
  subst hsz
  have hD := hD0.self (sz := s.heap.size)
  generalize hAe : va_A [(a_t, .inr (10, [v_t_thrown, .ref a_t_g, .ref a_t_ahead, .ref a_t_history, v_t_historyMany, .ref a_t_saved, v_t_hasSaved, .ref a_t_tape, v_t_taped, v_t_at, v_t_impossibleAt, v_t_letter, .ref a_t_numbers, .ref a_t_plan, v_t_detail, v_t_keptReason, v_t_keptDetail, v_t_above, v_t_below, v_t_bestAbove, v_t_bestBelow, .ref a_t_bestPlan, .ref a_t_sort, .ref a_t_size, .ref a_t_whole, .ref a_t_parts])), (a_t_g, .inl (k 0, 221, .inl t_g)), (a_t_plan, .inl (k 0, 12, .inl t_plan))] s.heap.size = A at hD ⊢
  have hA : ∀ q : Nat, s.heap.size ≤ q → A q := fun q h => by rw [← hAe]; exact Or.inr h
  have hH : HOK D A s.heap [(a_t, .inr (10, [v_t_thrown, .ref a_t_g, .ref a_t_ahead, .ref a_t_history, v_t_historyMany, .ref a_t_saved, v_t_hasSaved, .ref a_t_tape, v_t_taped, v_t_at, v_t_impossibleAt, v_t_letter, .ref a_t_numbers, .ref a_t_plan, v_t_detail, v_t_keptReason, v_t_keptDetail, v_t_above, v_t_below, v_t_bestAbove, v_t_bestBelow, .ref a_t_bestPlan, .ref a_t_sort, .ref a_t_size, .ref a_t_whole, .ref a_t_parts])), (a_t_g, .inl (k 0, 221, .inl t_g)), (a_t_plan, .inl (k 0, 12, .inl t_plan))] s.heap [] := ⟨hP, hD, va_S.rf⟩
  have hl := lv_entry ([.ref a_t]) (n := 5) (Nat.le_of_ble_eq_true rfl)
  rw [lg_entry_eq]
  generalize (lg_sl ([.ref a_t]) ++ List.replicate (5 - (lg_sl ([.ref a_t])).length) Slot.unset).toArray = ls at hl ⊢
  have hl : lv_has ls 5 [(0, .ref a_t)] := hl
  generalize hQ : MQ below (postI D k r [(a_t, .inr (10, [v_t_thrown, .ref a_t_g, .ref a_t_ahead, .ref a_t_history, v_t_historyMany, .ref a_t_saved, v_t_hasSaved, .ref a_t_tape, v_t_taped, v_t_at, v_t_impossibleAt, v_t_letter, .ref a_t_numbers, .ref a_t_plan, v_t_detail, v_t_keptReason, v_t_keptDetail, v_t_above, v_t_below, v_t_bestAbove, v_t_bestBelow, .ref a_t_bestPlan, .ref a_t_sort, .ref a_t_size, .ref a_t_whole, .ref a_t_parts])), (a_t_g, .inl (k 0, 221, .inl t_g)), (a_t_plan, .inl (k 0, 12, .inl t_plan))] [(a_t, .inr (10, [v_t_thrown, .ref a_t_g, .ref a_t_ahead, .ref a_t_history, v_t_historyMany, .ref a_t_saved, v_t_hasSaved, .ref a_t_tape, v_t_taped, v_t_at, v_t_impossibleAt, v_t_letter, .ref a_t_numbers, .ref a_t_plan, v_t_detail, v_t_keptReason, v_t_keptDetail, v_t_above, v_t_below, v_t_bestAbove, v_t_bestBelow, .ref a_t_bestPlan, .ref a_t_sort, .ref a_t_size, .ref a_t_whole, .ref a_t_parts])), (a_t_g, .inl (k 0, 221, .inl t_g)), (a_t_plan, .inl (k 0, 12, .inl t_plan))] s.heap.size) (List.toArray [.ref a_t]) s 0 0 A = Q
  clear hP hD hD0
  suffices K : ∀ (H : Heap) (locs : List Loc), HOK D A s.heap [(a_t, .inr (10, [v_t_thrown, .ref a_t_g, .ref a_t_ahead, .ref a_t_history, v_t_historyMany, .ref a_t_saved, v_t_hasSaved, .ref a_t_tape, v_t_taped, v_t_at, v_t_impossibleAt, v_t_letter, .ref a_t_numbers, .ref a_t_plan, v_t_detail, v_t_keptReason, v_t_keptDetail, v_t_above, v_t_below, v_t_bestAbove, v_t_bestBelow, .ref a_t_bestPlan, .ref a_t_sort, .ref a_t_size, .ref a_t_whole, .ref a_t_parts])), (a_t_g, .inl (k 0, 221, .inl t_g)), (a_t_plan, .inl (k 0, 12, .inl t_plan))] H locs → W p l e ({ frames := 1, cells := 0, slots := 0, locals := 22 } : Room) s m (List.toArray [.ref a_t]) below meth c H locs 0 0 Q (F0 m 0 ls []) from K s.heap [] hH
  intro H locs hH
  have L14 : ∀ (y14_1 : Int32) (y14_2 : Int32) (n : Nat), ∀ (kf : Int32 → Option (Int32)) (y14_3 : Int32) (y14_4 : Int32), fX11_torn_L14 t_g t_plan y14_1 y14_2 n kf y14_3 y14_4 = some r → (∀ (z14_3 : Int32) (H : Heap) (locs : List Loc) (ls : Array Slot), kf z14_3 = some r → HOK D A s.heap [(a_t, .inr (10, [v_t_thrown, .ref a_t_g, .ref a_t_ahead, .ref a_t_history, v_t_historyMany, .ref a_t_saved, v_t_hasSaved, .ref a_t_tape, v_t_taped, v_t_at, v_t_impossibleAt, v_t_letter, .ref a_t_numbers, .ref a_t_plan, v_t_detail, v_t_keptReason, v_t_keptDetail, v_t_above, v_t_below, v_t_bestAbove, v_t_bestBelow, .ref a_t_bestPlan, .ref a_t_sort, .ref a_t_size, .ref a_t_whole, .ref a_t_parts])), (a_t_g, .inl (k 0, 221, .inl t_g)), (a_t_plan, .inl (k 0, 12, .inl t_plan))] H locs → lv_has ls 5 [(0, .ref a_t), (1, .int y14_1), (2, .int y14_2), (3, .int z14_3)] → W p l e ({ frames := 1, cells := 0, slots := 0, locals := 22 } : Room) s m (List.toArray [.ref a_t]) below meth c H locs 0 0 Q (F0 m 60 ls [])) → ∀ (H : Heap) (locs : List Loc) (ls : Array Slot), HOK D A s.heap [(a_t, .inr (10, [v_t_thrown, .ref a_t_g, .ref a_t_ahead, .ref a_t_history, v_t_historyMany, .ref a_t_saved, v_t_hasSaved, .ref a_t_tape, v_t_taped, v_t_at, v_t_impossibleAt, v_t_letter, .ref a_t_numbers, .ref a_t_plan, v_t_detail, v_t_keptReason, v_t_keptDetail, v_t_above, v_t_below, v_t_bestAbove, v_t_bestBelow, .ref a_t_bestPlan, .ref a_t_sort, .ref a_t_size, .ref a_t_whole, .ref a_t_parts])), (a_t_g, .inl (k 0, 221, .inl t_g)), (a_t_plan, .inl (k 0, 12, .inl t_plan))] H locs → lv_has ls 5 [(0, .ref a_t), (1, .int y14_1), (2, .int y14_2), (3, .int y14_3), (4, .int y14_4)] → W p l e ({ frames := 1, cells := 0, slots := 0, locals := 22 } : Room) s m (List.toArray [.ref a_t]) below meth c H locs 0 0 Q (F0 m 14 ls []) := by
    intro y14_1 y14_2 n
    induction n with
    | zero =>
      intro kf y14_3 y14_4 h
      exact absurd h (by rw [fX11_torn_L14]; exact fun q => by cases q)
    | succ n ih =>
      intro kf y14_3 y14_4 h kk H locs ls hH hl
      rw [fX11_torn_L14] at h
      refine lv_iload hx hb dX11_torn_14 (lv_at hl 4 rfl) ?_
      refine lv_aload_n hx hb dX11_torn_16 rfl (lv_at hl 0 rfl) ?_
      refine gk_get (ci := 10) (C := RX11) (T := TX11) (N := 26) hx hb hts u_ws_X11 hown hK hH 0 rfl rfl 1 (by decide) u_fl_X11_7 rfl dX11_torn_17 ?_
      refine lv_sipush (v := 204) hx hb dX11_torn_20 (by decide) ?_
      refine gk_iald hx hb hK hH 1 rfl (dk_in (by decide)) dX11_torn_23 ?_
      refine lv_icmp_ge (tgt := 60) hx hb dX11_torn_24 (by decide) (fun c2 => ?_) (fun c2 => ?_)
      · replace h := dc_pos c2 h
        exact kk y14_3 H locs ls h hH (lv_sub hl [0, 1, 2, 3] rfl)
      · replace h := dc_neg c2 h
        refine lv_iload_n hx hb dX11_torn_27 rfl (lv_at hl 3 rfl) ?_
        refine lv_aload_n hx hb dX11_torn_28 rfl (lv_at hl 0 rfl) ?_
        refine lv_iload hx hb dX11_torn_29 (lv_at hl 4 rfl) ?_
        refine lv_iconst (v := 2) hx hb dX11_torn_31 (by decide) ?_
        obtain ⟨q3, hqq3, h⟩ := dc_bind h
        refine gc_Vi (ws' := [(a_t, .inr (10, [v_t_thrown, .ref a_t_g, .ref a_t_ahead, .ref a_t_history, v_t_historyMany, .ref a_t_saved, v_t_hasSaved, .ref a_t_tape, v_t_taped, v_t_at, v_t_impossibleAt, v_t_letter, .ref a_t_numbers, .ref a_t_plan, v_t_detail, v_t_keptReason, v_t_keptDetail, v_t_above, v_t_below, v_t_bestAbove, v_t_bestBelow, .ref a_t_bestPlan, .ref a_t_sort, .ref a_t_size, .ref a_t_whole, .ref a_t_parts])), (a_t_g, .inl (k 0, 221, .inl t_g)), (a_t_plan, .inl (k 0, 12, .inl t_plan))]) (As := [.int y14_4, .int (2 : Int32)]) (rest := [.int y14_3]) (n := 2) (ci := 10) (cq := (RX11, TX11, 26)) hTs ⟨hx, hb, hml, hown, hts⟩ (mX11_of l Ts hTs D k H.size a_t a_t_g a_t_ahead a_t_history a_t_saved a_t_tape a_t_numbers a_t_plan a_t_bestPlan a_t_sort a_t_size a_t_whole a_t_parts t_g v_t_above v_t_at v_t_below v_t_bestAbove v_t_bestBelow v_t_detail v_t_hasSaved v_t_historyMany v_t_impossibleAt v_t_keptDetail v_t_keptReason v_t_letter v_t_taped v_t_thrown y14_4 (2 : Int32) q3 hqq3) u_ml_X11_110 u_im_X11_of u_se_X11_of u_in_X11 u_co_X11_of hd_X11_of ⟨Nat.le_of_ble_eq_true rfl, Nat.le_of_ble_eq_true rfl⟩ ⟨rfl, rfl⟩ hK hH hA (cut0 (isC := [0, 1]) rfl rfl rfl) rfl rfl rfl rfl hl.1 (Nat.le_of_ble_eq_true rfl) dX11_torn_32 ⟨Nat.le_of_ble_eq_true rfl, Nat.le_of_ble_eq_true rfl⟩ (fun H locs hH => ?_)
        refine lv_iload_n hx hb dX11_torn_35 rfl (lv_at hl 2 rfl) ?_
        refine lv_icmp_ne (tgt := 51) hx hb dX11_torn_36 (by decide) (fun c4 => ?_) (fun c4 => ?_)
        · replace h := dc_neg c4 h
          refine lv_iconst (v := 0) hx hb dX11_torn_51 (by decide) ?_
          refine lv_ior hx hb dX11_torn_52 ?_
          refine lv_istore_n (lv' := [(3, .int (y14_3 ||| (0 : Int32))), (0, .ref a_t), (1, .int y14_1), (2, .int y14_2), (4, .int y14_4)]) hx hb dX11_torn_53 rfl hl (by decide) rfl (fun ls hl => ?_)
          refine lv_iinc (v := (y14_4 + (1 : Int32))) (lv' := [(4, .int (y14_4 + (1 : Int32))), (3, .int (y14_3 ||| (0 : Int32))), (0, .ref a_t), (1, .int y14_1), (2, .int y14_2)]) hx hb dX11_torn_54 hl (k := 4) rfl rfl (by decide) rfl (fun ls hl => ?_)
          refine lv_goto (tgt := 14) hx hb dX11_torn_57 (by decide) ?_
          exact ih kf (y14_3 ||| (0 : Int32)) (y14_4 + (1 : Int32)) h kk H locs ls hH (lv_sub hl [2, 3, 4, 1, 0] rfl)
        · replace h := dc_pos c4 h
          refine lv_iconst (v := 1) hx hb dX11_torn_39 (by decide) ?_
          refine lv_aload_n hx hb dX11_torn_40 rfl (lv_at hl 0 rfl) ?_
          refine gk_get (ci := 10) (C := RX11) (T := TX11) (N := 26) hx hb hts u_ws_X11 hown hK hH 0 rfl rfl 13 (by decide) u_fl_X11_33 rfl dX11_torn_41 ?_
          refine lv_iload hx hb dX11_torn_44 (lv_at hl 4 rfl) ?_
          obtain ⟨g5, h⟩ := dc_need h
          refine gk_iald hx hb hK hH 2 rfl (dk_in g5) dX11_torn_46 ?_
          refine lv_ishl hx hb dX11_torn_47 ?_
          refine lv_goto (tgt := 52) hx hb dX11_torn_48 (by decide) ?_
          refine lv_ior hx hb dX11_torn_52 ?_
          refine lv_topi (fun n6 en6 => ?_)
          replace h := dc_at en6 h
          refine lv_istore_n (lv' := [(3, .int n6), (0, .ref a_t), (1, .int y14_1), (2, .int y14_2), (4, .int y14_4)]) hx hb dX11_torn_53 rfl hl (by decide) rfl (fun ls hl => ?_)
          refine lv_iinc (v := (y14_4 + (1 : Int32))) (lv' := [(4, .int (y14_4 + (1 : Int32))), (3, .int n6), (0, .ref a_t), (1, .int y14_1), (2, .int y14_2)]) hx hb dX11_torn_54 hl (k := 4) rfl rfl (by decide) rfl (fun ls hl => ?_)
          refine lv_goto (tgt := 14) hx hb dX11_torn_57 (by decide) ?_
          exact ih kf n6 (y14_4 + (1 : Int32)) h kk H locs ls hH (lv_sub hl [2, 3, 4, 1, 0] rfl)
  have L4 : ∀ (n : Nat), ∀ (kf : Int32 → Option (Int32)) (y4_1 : Int32) (y4_2 : Int32), fX11_torn_L4 t_g t_plan n kf y4_1 y4_2 = some r → (∀ (z4_1 : Int32) (H : Heap) (locs : List Loc) (ls : Array Slot), kf z4_1 = some r → HOK D A s.heap [(a_t, .inr (10, [v_t_thrown, .ref a_t_g, .ref a_t_ahead, .ref a_t_history, v_t_historyMany, .ref a_t_saved, v_t_hasSaved, .ref a_t_tape, v_t_taped, v_t_at, v_t_impossibleAt, v_t_letter, .ref a_t_numbers, .ref a_t_plan, v_t_detail, v_t_keptReason, v_t_keptDetail, v_t_above, v_t_below, v_t_bestAbove, v_t_bestBelow, .ref a_t_bestPlan, .ref a_t_sort, .ref a_t_size, .ref a_t_whole, .ref a_t_parts])), (a_t_g, .inl (k 0, 221, .inl t_g)), (a_t_plan, .inl (k 0, 12, .inl t_plan))] H locs → lv_has ls 5 [(1, .int z4_1)] → W p l e ({ frames := 1, cells := 0, slots := 0, locals := 22 } : Room) s m (List.toArray [.ref a_t]) below meth c H locs 0 0 Q (F0 m 82 ls [])) → ∀ (H : Heap) (locs : List Loc) (ls : Array Slot), HOK D A s.heap [(a_t, .inr (10, [v_t_thrown, .ref a_t_g, .ref a_t_ahead, .ref a_t_history, v_t_historyMany, .ref a_t_saved, v_t_hasSaved, .ref a_t_tape, v_t_taped, v_t_at, v_t_impossibleAt, v_t_letter, .ref a_t_numbers, .ref a_t_plan, v_t_detail, v_t_keptReason, v_t_keptDetail, v_t_above, v_t_below, v_t_bestAbove, v_t_bestBelow, .ref a_t_bestPlan, .ref a_t_sort, .ref a_t_size, .ref a_t_whole, .ref a_t_parts])), (a_t_g, .inl (k 0, 221, .inl t_g)), (a_t_plan, .inl (k 0, 12, .inl t_plan))] H locs → lv_has ls 5 [(0, .ref a_t), (1, .int y4_1), (2, .int y4_2)] → W p l e ({ frames := 1, cells := 0, slots := 0, locals := 22 } : Room) s m (List.toArray [.ref a_t]) below meth c H locs 0 0 Q (F0 m 4 ls []) := by
    intro n
    induction n with
    | zero =>
      intro kf y4_1 y4_2 h
      exact absurd h (by rw [fX11_torn_L4]; exact fun q => by cases q)
    | succ n ih =>
      intro kf y4_1 y4_2 h kk H locs ls hH hl
      rw [fX11_torn_L4] at h
      refine lv_iload_n hx hb dX11_torn_4 rfl (lv_at hl 2 rfl) ?_
      refine lv_iconst (v := 4) hx hb dX11_torn_5 (by decide) ?_
      refine lv_icmp_ge (tgt := 82) hx hb dX11_torn_6 (by decide) (fun c1 => ?_) (fun c1 => ?_)
      · replace h := dc_pos c1 h
        exact kk y4_1 H locs ls h hH (lv_sub hl [1] rfl)
      · replace h := dc_neg c1 h
        refine lv_iconst (v := 0) hx hb dX11_torn_9 (by decide) ?_
        refine lv_istore_n (lv' := [(3, .int (0 : Int32)), (0, .ref a_t), (1, .int y4_1), (2, .int y4_2)]) hx hb dX11_torn_10 rfl hl (by decide) rfl (fun ls hl => ?_)
        refine lv_iconst (v := 0) hx hb dX11_torn_11 (by decide) ?_
        refine lv_istore (lv' := [(4, .int (0 : Int32)), (3, .int (0 : Int32)), (0, .ref a_t), (1, .int y4_1), (2, .int y4_2)]) hx hb dX11_torn_12 hl (by decide) rfl (fun ls hl => ?_)
        refine L14 y4_1 y4_2 _ _ (0 : Int32) (0 : Int32) h (fun z14_3 H locs ls h hH hl => ?_) H locs ls hH (lv_sub hl [2, 3, 4, 1, 0] rfl)
        refine lv_iload_n hx hb dX11_torn_60 rfl (lv_at hl 1 rfl) ?_
        refine lv_iload_n hx hb dX11_torn_61 rfl (lv_at hl 3 rfl) ?_
        refine lv_iload_n hx hb dX11_torn_62 rfl (lv_at hl 3 rfl) ?_
        refine lv_iconst (v := 1) hx hb dX11_torn_63 (by decide) ?_
        refine lv_isub hx hb dX11_torn_64 ?_
        refine lv_iand hx hb dX11_torn_65 ?_
        refine lv_if_eq (tgt := 73) hx hb dX11_torn_66 (by decide) (fun c7 => ?_) (fun c7 => ?_)
        · replace h := dc_pos c7 h
          refine lv_iconst (v := 0) hx hb dX11_torn_73 (by decide) ?_
          refine lv_iadd hx hb dX11_torn_74 ?_
          refine lv_istore_n (lv' := [(1, .int (y4_1 + (0 : Int32))), (0, .ref a_t), (2, .int y4_2), (3, .int z14_3)]) hx hb dX11_torn_75 rfl hl (by decide) rfl (fun ls hl => ?_)
          refine lv_iinc (v := (y4_2 + (1 : Int32))) (lv' := [(2, .int (y4_2 + (1 : Int32))), (1, .int (y4_1 + (0 : Int32))), (0, .ref a_t), (3, .int z14_3)]) hx hb dX11_torn_76 hl (k := 2) rfl rfl (by decide) rfl (fun ls hl => ?_)
          refine lv_goto (tgt := 4) hx hb dX11_torn_79 (by decide) ?_
          exact ih kf (y4_1 + (0 : Int32)) (y4_2 + (1 : Int32)) h kk H locs ls hH (lv_sub hl [2, 1, 0] rfl)
        · replace h := dc_neg c7 h
          refine lv_iconst (v := 1) hx hb dX11_torn_69 (by decide) ?_
          refine lv_goto (tgt := 74) hx hb dX11_torn_70 (by decide) ?_
          refine lv_iadd hx hb dX11_torn_74 ?_
          refine lv_istore_n (lv' := [(1, .int (y4_1 + (1 : Int32))), (0, .ref a_t), (2, .int y4_2), (3, .int z14_3)]) hx hb dX11_torn_75 rfl hl (by decide) rfl (fun ls hl => ?_)
          refine lv_iinc (v := (y4_2 + (1 : Int32))) (lv' := [(2, .int (y4_2 + (1 : Int32))), (1, .int (y4_1 + (1 : Int32))), (0, .ref a_t), (3, .int z14_3)]) hx hb dX11_torn_76 hl (k := 2) rfl rfl (by decide) rfl (fun ls hl => ?_)
          refine lv_goto (tgt := 4) hx hb dX11_torn_79 (by decide) ?_
          exact ih kf (y4_1 + (1 : Int32)) (y4_2 + (1 : Int32)) h kk H locs ls hH (lv_sub hl [2, 1, 0] rfl)
  rw [fX11_torn] at h
  refine lv_iconst (v := 0) hx hb dX11_torn_0 (by decide) ?_
  refine lv_istore_n (lv' := [(1, .int (0 : Int32)), (0, .ref a_t)]) hx hb dX11_torn_1 rfl hl (by decide) rfl (fun ls hl => ?_)
  refine lv_iconst (v := 0) hx hb dX11_torn_2 (by decide) ?_
  refine lv_istore_n (lv' := [(2, .int (0 : Int32)), (1, .int (0 : Int32)), (0, .ref a_t)]) hx hb dX11_torn_3 rfl hl (by decide) rfl (fun ls hl => ?_)
  refine L4 _ _ (0 : Int32) (0 : Int32) h (fun z4_1 H locs ls h hH hl => ?_) H locs ls hH (lv_sub hl [2, 1, 0] rfl)
  refine lv_iload_n hx hb dX11_torn_82 rfl (lv_at hl 0 rfl) ?_
  have h := Option.some.inj h
  subst h
  exact ge_i hx hb hr hlocks hQ hK hH hAe rfl dX11_torn_83
