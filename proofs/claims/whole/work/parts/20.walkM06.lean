theorem hd_X11_reached : yX11_reached.cls = RX11 ∧ yX11_reached.cls ≠ "java/lang/invoke/MethodHandle" ∧ yX11_reached.cls ≠ "java/lang/invoke/VarHandle" ∧ (parseMethodDescriptor yX11_reached.desc).map (fun d => d.parameters.length) = some 1 := by decide +kernel
set_option maxHeartbeats 4000000 in
set_option maxRecDepth 100000 in
theorem mX11_reached (l : Launch) (Ts : List Cond) (hTs : ∀ w, w ∈ Ts ↔ w ∈ uT) (D : va_G) (k : Nat → ClassId) (sz : Nat) (a_t : Nat) (a_t_g : Nat) (a_t_ahead : Nat) (a_t_history : Nat) (a_t_saved : Nat) (a_t_tape : Nat) (a_t_numbers : Nat) (a_t_plan : Nat) (a_t_bestPlan : Nat) (a_t_sort : Nat) (a_t_size : Nat) (a_t_whole : Nat) (a_t_parts : Nat) (t_g : Nat → Int32) (v_t_above : Value) (v_t_at : Value) (v_t_below : Value) (v_t_bestAbove : Value) (v_t_bestBelow : Value) (v_t_detail : Value) (v_t_hasSaved : Value) (v_t_historyMany : Value) (v_t_impossibleAt : Value) (v_t_keptDetail : Value) (v_t_keptReason : Value) (v_t_letter : Value) (v_t_taped : Value) (v_t_thrown : Value) (x1 : Int32) (r : Int32) (h : fX11_reached t_g x1 = some r) : Met l yX11_reached (Cond.code yX11_reached cX11_reached 5 (some .int) :: Ts) ({ frames := 2, cells := 0, slots := 0, locals := 45 } : Room) (preM D k [.ref a_t, .int x1] [(a_t, .inr (10, [v_t_thrown, .ref a_t_g, .ref a_t_ahead, .ref a_t_history, v_t_historyMany, .ref a_t_saved, v_t_hasSaved, .ref a_t_tape, v_t_taped, v_t_at, v_t_impossibleAt, v_t_letter, .ref a_t_numbers, .ref a_t_plan, v_t_detail, v_t_keptReason, v_t_keptDetail, v_t_above, v_t_below, v_t_bestAbove, v_t_bestBelow, .ref a_t_bestPlan, .ref a_t_sort, .ref a_t_size, .ref a_t_whole, .ref a_t_parts])), (a_t_g, .inl (k 0, 221, .inl t_g))] sz) (postI D k r [(a_t, .inr (10, [v_t_thrown, .ref a_t_g, .ref a_t_ahead, .ref a_t_history, v_t_historyMany, .ref a_t_saved, v_t_hasSaved, .ref a_t_tape, v_t_taped, v_t_at, v_t_impossibleAt, v_t_letter, .ref a_t_numbers, .ref a_t_plan, v_t_detail, v_t_keptReason, v_t_keptDetail, v_t_above, v_t_below, v_t_bestAbove, v_t_bestBelow, .ref a_t_bestPlan, .ref a_t_sort, .ref a_t_size, .ref a_t_whole, .ref a_t_parts])), (a_t_g, .inl (k 0, 221, .inl t_g))] [(a_t, .inr (10, [v_t_thrown, .ref a_t_g, .ref a_t_ahead, .ref a_t_history, v_t_historyMany, .ref a_t_saved, v_t_hasSaved, .ref a_t_tape, v_t_taped, v_t_at, v_t_impossibleAt, v_t_letter, .ref a_t_numbers, .ref a_t_plan, v_t_detail, v_t_keptReason, v_t_keptDetail, v_t_above, v_t_below, v_t_bestAbove, v_t_bestBelow, .ref a_t_bestPlan, .ref a_t_sort, .ref a_t_size, .ref a_t_whole, .ref a_t_parts])), (a_t_g, .inl (k 0, 221, .inl t_g))] sz) 0 0 (va_A [(a_t, .inr (10, [v_t_thrown, .ref a_t_g, .ref a_t_ahead, .ref a_t_history, v_t_historyMany, .ref a_t_saved, v_t_hasSaved, .ref a_t_tape, v_t_taped, v_t_at, v_t_impossibleAt, v_t_letter, .ref a_t_numbers, .ref a_t_plan, v_t_detail, v_t_keptReason, v_t_keptDetail, v_t_above, v_t_below, v_t_bestAbove, v_t_bestBelow, .ref a_t_bestPlan, .ref a_t_sort, .ref a_t_size, .ref a_t_whole, .ref a_t_parts])), (a_t_g, .inl (k 0, 221, .inl t_g))] sz) := by
  refine Met.ofW (cc := cX11_reached) (maxL := 5) (ret := (some .int)) (by decide) rfl ?_
  intro p e s m args below meth c s₁ B hml hv
  obtain ⟨rfl, hsz, hP, hK, hD0⟩ := hv
  have hx := B.exec
  have hb := B.bytes
  have hr := B.returns
  have hts0 := atoms_spec (ws := (Cond.code yX11_reached cX11_reached 5 (some .int) :: Ts)) B.pre
  have hts : ∀ w ∈ uT, w.before _ s = true := fun w h => hts0 w (List.mem_cons_of_mem _ ((hTs w).mpr h))
  clear hts0
  have hown : s.vm.findClass RX11 = some m.cls := findClass_of_methodNamed B.named
  have hlocks := B.notSynchronized
  subst hsz
  have hD := hD0.self (sz := s.heap.size)
  generalize hAe : va_A [(a_t, .inr (10, [v_t_thrown, .ref a_t_g, .ref a_t_ahead, .ref a_t_history, v_t_historyMany, .ref a_t_saved, v_t_hasSaved, .ref a_t_tape, v_t_taped, v_t_at, v_t_impossibleAt, v_t_letter, .ref a_t_numbers, .ref a_t_plan, v_t_detail, v_t_keptReason, v_t_keptDetail, v_t_above, v_t_below, v_t_bestAbove, v_t_bestBelow, .ref a_t_bestPlan, .ref a_t_sort, .ref a_t_size, .ref a_t_whole, .ref a_t_parts])), (a_t_g, .inl (k 0, 221, .inl t_g))] s.heap.size = A at hD ⊢
  have hA : ∀ q : Nat, s.heap.size ≤ q → A q := fun q h => by rw [← hAe]; exact Or.inr h
  have hH : HOK D A s.heap [(a_t, .inr (10, [v_t_thrown, .ref a_t_g, .ref a_t_ahead, .ref a_t_history, v_t_historyMany, .ref a_t_saved, v_t_hasSaved, .ref a_t_tape, v_t_taped, v_t_at, v_t_impossibleAt, v_t_letter, .ref a_t_numbers, .ref a_t_plan, v_t_detail, v_t_keptReason, v_t_keptDetail, v_t_above, v_t_below, v_t_bestAbove, v_t_bestBelow, .ref a_t_bestPlan, .ref a_t_sort, .ref a_t_size, .ref a_t_whole, .ref a_t_parts])), (a_t_g, .inl (k 0, 221, .inl t_g))] s.heap [] := ⟨hP, hD, va_S.rf⟩
  have hl := lv_entry ([.ref a_t, .int x1]) (n := 5) (Nat.le_of_ble_eq_true rfl)
  rw [lg_entry_eq]
  generalize (lg_sl ([.ref a_t, .int x1]) ++ List.replicate (5 - (lg_sl ([.ref a_t, .int x1])).length) Slot.unset).toArray = ls at hl ⊢
  have hl : lv_has ls 5 [(0, .ref a_t), (1, .int x1)] := hl
  generalize hQ : MQ below (postI D k r [(a_t, .inr (10, [v_t_thrown, .ref a_t_g, .ref a_t_ahead, .ref a_t_history, v_t_historyMany, .ref a_t_saved, v_t_hasSaved, .ref a_t_tape, v_t_taped, v_t_at, v_t_impossibleAt, v_t_letter, .ref a_t_numbers, .ref a_t_plan, v_t_detail, v_t_keptReason, v_t_keptDetail, v_t_above, v_t_below, v_t_bestAbove, v_t_bestBelow, .ref a_t_bestPlan, .ref a_t_sort, .ref a_t_size, .ref a_t_whole, .ref a_t_parts])), (a_t_g, .inl (k 0, 221, .inl t_g))] [(a_t, .inr (10, [v_t_thrown, .ref a_t_g, .ref a_t_ahead, .ref a_t_history, v_t_historyMany, .ref a_t_saved, v_t_hasSaved, .ref a_t_tape, v_t_taped, v_t_at, v_t_impossibleAt, v_t_letter, .ref a_t_numbers, .ref a_t_plan, v_t_detail, v_t_keptReason, v_t_keptDetail, v_t_above, v_t_below, v_t_bestAbove, v_t_bestBelow, .ref a_t_bestPlan, .ref a_t_sort, .ref a_t_size, .ref a_t_whole, .ref a_t_parts])), (a_t_g, .inl (k 0, 221, .inl t_g))] s.heap.size) (List.toArray [.ref a_t, .int x1]) s 0 0 A = Q
  clear hP hD hD0
  suffices K : ∀ (H : Heap) (locs : List Loc), HOK D A s.heap [(a_t, .inr (10, [v_t_thrown, .ref a_t_g, .ref a_t_ahead, .ref a_t_history, v_t_historyMany, .ref a_t_saved, v_t_hasSaved, .ref a_t_tape, v_t_taped, v_t_at, v_t_impossibleAt, v_t_letter, .ref a_t_numbers, .ref a_t_plan, v_t_detail, v_t_keptReason, v_t_keptDetail, v_t_above, v_t_below, v_t_bestAbove, v_t_bestBelow, .ref a_t_bestPlan, .ref a_t_sort, .ref a_t_size, .ref a_t_whole, .ref a_t_parts])), (a_t_g, .inl (k 0, 221, .inl t_g))] H locs → W p l e ({ frames := 2, cells := 0, slots := 0, locals := 45 } : Room) s m (List.toArray [.ref a_t, .int x1]) below meth c H locs 0 0 Q (F0 m 0 ls []) from K s.heap [] hH
  intro H locs hH
  have L17 : ∀ (y17_3 : Int32) (n : Nat), ∀ (kf : Int32 → Option (Int32)) (y17_2 : Int32) (y17_4 : Int32), fX11_reached_L17 t_g x1 y17_3 n kf y17_2 y17_4 = some r → (∀ (z17_2 : Int32) (H : Heap) (locs : List Loc) (ls : Array Slot), kf z17_2 = some r → HOK D A s.heap [(a_t, .inr (10, [v_t_thrown, .ref a_t_g, .ref a_t_ahead, .ref a_t_history, v_t_historyMany, .ref a_t_saved, v_t_hasSaved, .ref a_t_tape, v_t_taped, v_t_at, v_t_impossibleAt, v_t_letter, .ref a_t_numbers, .ref a_t_plan, v_t_detail, v_t_keptReason, v_t_keptDetail, v_t_above, v_t_below, v_t_bestAbove, v_t_bestBelow, .ref a_t_bestPlan, .ref a_t_sort, .ref a_t_size, .ref a_t_whole, .ref a_t_parts])), (a_t_g, .inl (k 0, 221, .inl t_g))] H locs → lv_has ls 5 [(0, .ref a_t), (1, .int x1), (2, .int z17_2), (3, .int y17_3)] → W p l e ({ frames := 2, cells := 0, slots := 0, locals := 45 } : Room) s m (List.toArray [.ref a_t, .int x1]) below meth c H locs 0 0 Q (F0 m 61 ls [])) → ∀ (H : Heap) (locs : List Loc) (ls : Array Slot), HOK D A s.heap [(a_t, .inr (10, [v_t_thrown, .ref a_t_g, .ref a_t_ahead, .ref a_t_history, v_t_historyMany, .ref a_t_saved, v_t_hasSaved, .ref a_t_tape, v_t_taped, v_t_at, v_t_impossibleAt, v_t_letter, .ref a_t_numbers, .ref a_t_plan, v_t_detail, v_t_keptReason, v_t_keptDetail, v_t_above, v_t_below, v_t_bestAbove, v_t_bestBelow, .ref a_t_bestPlan, .ref a_t_sort, .ref a_t_size, .ref a_t_whole, .ref a_t_parts])), (a_t_g, .inl (k 0, 221, .inl t_g))] H locs → lv_has ls 5 [(0, .ref a_t), (1, .int x1), (2, .int y17_2), (3, .int y17_3), (4, .int y17_4)] → W p l e ({ frames := 2, cells := 0, slots := 0, locals := 45 } : Room) s m (List.toArray [.ref a_t, .int x1]) below meth c H locs 0 0 Q (F0 m 17 ls []) := by
    intro y17_3 n
    induction n with
    | zero =>
      intro kf y17_2 y17_4 h
      exact absurd h (by rw [fX11_reached_L17]; exact fun q => by cases q)
    | succ n ih =>
      intro kf y17_2 y17_4 h kk H locs ls hH hl
      rw [fX11_reached_L17] at h
      refine lv_iload hx hb dX11_reached_17 (lv_at hl 4 rfl) ?_
      refine lv_aload_n hx hb dX11_reached_19 rfl (lv_at hl 0 rfl) ?_
      refine gk_get (ci := 10) (C := RX11) (T := TX11) (N := 26) hx hb hts u_ws_X11 hown hK hH 0 rfl rfl 1 (by decide) u_fl_X11_7 rfl dX11_reached_20 ?_
      refine lv_sipush (v := 204) hx hb dX11_reached_23 (by decide) ?_
      refine gk_iald hx hb hK hH 1 rfl (dk_in (by decide)) dX11_reached_26 ?_
      refine lv_icmp_ge (tgt := 61) hx hb dX11_reached_27 (by decide) (fun c2 => ?_) (fun c2 => ?_)
      · replace h := dc_pos c2 h
        exact kk y17_2 H locs ls h hH (lv_sub hl [0, 1, 2, 3] rfl)
      · replace h := dc_neg c2 h
        refine lv_iload_n hx hb dX11_reached_30 rfl (lv_at hl 2 rfl) ?_
        refine lv_iload_n hx hb dX11_reached_31 rfl (lv_at hl 3 rfl) ?_
        refine lv_iload hx hb dX11_reached_32 (lv_at hl 4 rfl) ?_
        refine lv_ishr hx hb dX11_reached_34 ?_
        refine lv_iconst (v := 1) hx hb dX11_reached_35 (by decide) ?_
        refine lv_iand hx hb dX11_reached_36 ?_
        refine lv_iconst (v := 1) hx hb dX11_reached_37 (by decide) ?_
        refine lv_icmp_ne (tgt := 52) hx hb dX11_reached_38 (by decide) (fun c3 => ?_) (fun c3 => ?_)
        · replace h := dc_neg c3 h
          refine lv_iconst (v := 0) hx hb dX11_reached_52 (by decide) ?_
          refine lv_ior hx hb dX11_reached_53 ?_
          refine lv_istore_n (lv' := [(2, .int (y17_2 ||| (0 : Int32))), (0, .ref a_t), (1, .int x1), (3, .int y17_3), (4, .int y17_4)]) hx hb dX11_reached_54 rfl hl (by decide) rfl (fun ls hl => ?_)
          refine lv_iinc (v := (y17_4 + (1 : Int32))) (lv' := [(4, .int (y17_4 + (1 : Int32))), (2, .int (y17_2 ||| (0 : Int32))), (0, .ref a_t), (1, .int x1), (3, .int y17_3)]) hx hb dX11_reached_55 hl (k := 4) rfl rfl (by decide) rfl (fun ls hl => ?_)
          refine lv_goto (tgt := 17) hx hb dX11_reached_58 (by decide) ?_
          exact ih kf (y17_2 ||| (0 : Int32)) (y17_4 + (1 : Int32)) h kk H locs ls hH (lv_sub hl [2, 3, 1, 4, 0] rfl)
        · replace h := dc_pos c3 h
          refine lv_aload_n hx hb dX11_reached_41 rfl (lv_at hl 0 rfl) ?_
          refine lv_iload hx hb dX11_reached_42 (lv_at hl 4 rfl) ?_
          obtain ⟨q4, hqq4, h⟩ := dc_bind h
          refine gc_Vi (ws' := [(a_t, .inr (10, [v_t_thrown, .ref a_t_g, .ref a_t_ahead, .ref a_t_history, v_t_historyMany, .ref a_t_saved, v_t_hasSaved, .ref a_t_tape, v_t_taped, v_t_at, v_t_impossibleAt, v_t_letter, .ref a_t_numbers, .ref a_t_plan, v_t_detail, v_t_keptReason, v_t_keptDetail, v_t_above, v_t_below, v_t_bestAbove, v_t_bestBelow, .ref a_t_bestPlan, .ref a_t_sort, .ref a_t_size, .ref a_t_whole, .ref a_t_parts])), (a_t_g, .inl (k 0, 221, .inl t_g))]) (As := [.int y17_4]) (rest := [.int y17_2]) (n := 1) (ci := 10) (cq := (RX11, TX11, 26)) hTs ⟨hx, hb, hml, hown, hts⟩ (mX11_neighbors l Ts hTs D k H.size a_t a_t_g a_t_ahead a_t_history a_t_saved a_t_tape a_t_numbers a_t_plan a_t_bestPlan a_t_sort a_t_size a_t_whole a_t_parts t_g v_t_above v_t_at v_t_below v_t_bestAbove v_t_bestBelow v_t_detail v_t_hasSaved v_t_historyMany v_t_impossibleAt v_t_keptDetail v_t_keptReason v_t_letter v_t_taped v_t_thrown y17_4 q4 hqq4) u_ml_X11_113 u_im_X11_neighbors u_se_X11_neighbors u_in_X11 u_co_X11_neighbors hd_X11_neighbors ⟨Nat.le_of_ble_eq_true rfl, Nat.le_of_ble_eq_true rfl⟩ ⟨rfl, rfl⟩ hK hH hA (cut0 (isC := [0, 1]) rfl rfl rfl) rfl rfl rfl rfl hl.1 (Nat.le_of_ble_eq_true rfl) dX11_reached_44 ⟨Nat.le_of_ble_eq_true rfl, Nat.le_of_ble_eq_true rfl⟩ (fun H locs hH => ?_)
          refine lv_iload_n hx hb dX11_reached_47 rfl (lv_at hl 1 rfl) ?_
          refine lv_iand hx hb dX11_reached_48 ?_
          refine lv_goto (tgt := 53) hx hb dX11_reached_49 (by decide) ?_
          refine lv_ior hx hb dX11_reached_53 ?_
          refine lv_istore_n (lv' := [(2, .int (y17_2 ||| (q4 &&& x1))), (0, .ref a_t), (1, .int x1), (3, .int y17_3), (4, .int y17_4)]) hx hb dX11_reached_54 rfl hl (by decide) rfl (fun ls hl => ?_)
          refine lv_iinc (v := (y17_4 + (1 : Int32))) (lv' := [(4, .int (y17_4 + (1 : Int32))), (2, .int (y17_2 ||| (q4 &&& x1))), (0, .ref a_t), (1, .int x1), (3, .int y17_3)]) hx hb dX11_reached_55 hl (k := 4) rfl rfl (by decide) rfl (fun ls hl => ?_)
          refine lv_goto (tgt := 17) hx hb dX11_reached_58 (by decide) ?_
          exact ih kf (y17_2 ||| (q4 &&& x1)) (y17_4 + (1 : Int32)) h kk H locs ls hH (lv_sub hl [2, 3, 1, 4, 0] rfl)
  have L7 : ∀ (n : Nat), ∀ (kf : Int32 → Option (Int32)) (y7_2 : Int32) (y7_3 : Int32), fX11_reached_L7 t_g x1 n kf y7_2 y7_3 = some r → (∀ (z7_2 : Int32) (H : Heap) (locs : List Loc) (ls : Array Slot), kf z7_2 = some r → HOK D A s.heap [(a_t, .inr (10, [v_t_thrown, .ref a_t_g, .ref a_t_ahead, .ref a_t_history, v_t_historyMany, .ref a_t_saved, v_t_hasSaved, .ref a_t_tape, v_t_taped, v_t_at, v_t_impossibleAt, v_t_letter, .ref a_t_numbers, .ref a_t_plan, v_t_detail, v_t_keptReason, v_t_keptDetail, v_t_above, v_t_below, v_t_bestAbove, v_t_bestBelow, .ref a_t_bestPlan, .ref a_t_sort, .ref a_t_size, .ref a_t_whole, .ref a_t_parts])), (a_t_g, .inl (k 0, 221, .inl t_g))] H locs → lv_has ls 5 [(2, .int z7_2)] → W p l e ({ frames := 2, cells := 0, slots := 0, locals := 45 } : Room) s m (List.toArray [.ref a_t, .int x1]) below meth c H locs 0 0 Q (F0 m 64 ls [])) → ∀ (H : Heap) (locs : List Loc) (ls : Array Slot), HOK D A s.heap [(a_t, .inr (10, [v_t_thrown, .ref a_t_g, .ref a_t_ahead, .ref a_t_history, v_t_historyMany, .ref a_t_saved, v_t_hasSaved, .ref a_t_tape, v_t_taped, v_t_at, v_t_impossibleAt, v_t_letter, .ref a_t_numbers, .ref a_t_plan, v_t_detail, v_t_keptReason, v_t_keptDetail, v_t_above, v_t_below, v_t_bestAbove, v_t_bestBelow, .ref a_t_bestPlan, .ref a_t_sort, .ref a_t_size, .ref a_t_whole, .ref a_t_parts])), (a_t_g, .inl (k 0, 221, .inl t_g))] H locs → lv_has ls 5 [(0, .ref a_t), (1, .int x1), (2, .int y7_2), (3, .int y7_3)] → W p l e ({ frames := 2, cells := 0, slots := 0, locals := 45 } : Room) s m (List.toArray [.ref a_t, .int x1]) below meth c H locs 0 0 Q (F0 m 7 ls []) := by
    intro n
    induction n with
    | zero =>
      intro kf y7_2 y7_3 h
      exact absurd h (by rw [fX11_reached_L7]; exact fun q => by cases q)
    | succ n ih =>
      intro kf y7_2 y7_3 h kk H locs ls hH hl
      rw [fX11_reached_L7] at h
      refine lv_iload_n hx hb dX11_reached_7 rfl (lv_at hl 2 rfl) ?_
      refine lv_iload_n hx hb dX11_reached_8 rfl (lv_at hl 3 rfl) ?_
      refine lv_icmp_eq (tgt := 64) hx hb dX11_reached_9 (by decide) (fun c1 => ?_) (fun c1 => ?_)
      · replace h := dc_pos c1 h
        exact kk y7_2 H locs ls h hH (lv_sub hl [2] rfl)
      · replace h := dc_neg c1 h
        refine lv_iload_n hx hb dX11_reached_12 rfl (lv_at hl 2 rfl) ?_
        refine lv_istore_n (lv' := [(3, .int y7_2), (0, .ref a_t), (1, .int x1), (2, .int y7_2)]) hx hb dX11_reached_13 rfl hl (by decide) rfl (fun ls hl => ?_)
        refine lv_iconst (v := 0) hx hb dX11_reached_14 (by decide) ?_
        refine lv_istore (lv' := [(4, .int (0 : Int32)), (3, .int y7_2), (0, .ref a_t), (1, .int x1), (2, .int y7_2)]) hx hb dX11_reached_15 hl (by decide) rfl (fun ls hl => ?_)
        refine L17 y7_2 _ _ y7_2 (0 : Int32) h (fun z17_2 H locs ls h hH hl => ?_) H locs ls hH (lv_sub hl [2, 3, 4, 1, 0] rfl)
        refine lv_goto (tgt := 7) hx hb dX11_reached_61 (by decide) ?_
        exact ih kf z17_2 y7_2 h kk H locs ls hH (lv_sub hl [0, 1, 2, 3] rfl)
  rw [fX11_reached] at h
  refine lv_iload_n hx hb dX11_reached_0 rfl (lv_at hl 1 rfl) ?_
  refine lv_iload_n hx hb dX11_reached_1 rfl (lv_at hl 1 rfl) ?_
  refine lv_ineg hx hb dX11_reached_2 ?_
  refine lv_iand hx hb dX11_reached_3 ?_
  refine lv_istore_n (lv' := [(2, .int (x1 &&& (-x1))), (0, .ref a_t), (1, .int x1)]) hx hb dX11_reached_4 rfl hl (by decide) rfl (fun ls hl => ?_)
  refine lv_iconst (v := 0) hx hb dX11_reached_5 (by decide) ?_
  refine lv_istore_n (lv' := [(3, .int (0 : Int32)), (2, .int (x1 &&& (-x1))), (0, .ref a_t), (1, .int x1)]) hx hb dX11_reached_6 rfl hl (by decide) rfl (fun ls hl => ?_)
  refine L7 _ _ (x1 &&& (-x1)) (0 : Int32) h (fun z7_2 H locs ls h hH hl => ?_) H locs ls hH (lv_sub hl [2, 3, 1, 0] rfl)
  refine lv_iload_n hx hb dX11_reached_64 rfl (lv_at hl 0 rfl) ?_
  have h := Option.some.inj h
  subst h
  exact ge_i hx hb hr hlocks hQ hK hH hAe rfl dX11_reached_65
theorem hd_X11_sum : yX11_sum.cls = RX11 ∧ yX11_sum.cls ≠ "java/lang/invoke/MethodHandle" ∧ yX11_sum.cls ≠ "java/lang/invoke/VarHandle" ∧ (parseMethodDescriptor yX11_sum.desc).map (fun d => d.parameters.length) = some 2 := by decide +kernel
set_option maxHeartbeats 4000000 in
set_option maxRecDepth 100000 in
theorem mX11_sum (l : Launch) (Ts : List Cond) (hTs : ∀ w, w ∈ Ts ↔ w ∈ uT) (D : va_G) (k : Nat → ClassId) (sz : Nat) (a_t : Nat) (a_t_g : Nat) (a_t_ahead : Nat) (a_t_history : Nat) (a_t_saved : Nat) (a_t_tape : Nat) (a_t_numbers : Nat) (a_t_plan : Nat) (a_t_bestPlan : Nat) (a_t_sort : Nat) (a_t_size : Nat) (a_t_whole : Nat) (a_t_parts : Nat) (t_g : Nat → Int32) (v_t_above : Value) (v_t_at : Value) (v_t_below : Value) (v_t_bestAbove : Value) (v_t_bestBelow : Value) (v_t_detail : Value) (v_t_hasSaved : Value) (v_t_historyMany : Value) (v_t_impossibleAt : Value) (v_t_keptDetail : Value) (v_t_keptReason : Value) (v_t_letter : Value) (v_t_taped : Value) (v_t_thrown : Value) (x1 : Int32) (x2 : Int32) (r : Int32) (h : fX11_sum t_g x1 x2 = some r) : Met l yX11_sum (Cond.code yX11_sum cX11_sum 5 (some .int) :: Ts) ({ frames := 1, cells := 0, slots := 0, locals := 22 } : Room) (preM D k [.ref a_t, .int x1, .int x2] [(a_t, .inr (10, [v_t_thrown, .ref a_t_g, .ref a_t_ahead, .ref a_t_history, v_t_historyMany, .ref a_t_saved, v_t_hasSaved, .ref a_t_tape, v_t_taped, v_t_at, v_t_impossibleAt, v_t_letter, .ref a_t_numbers, .ref a_t_plan, v_t_detail, v_t_keptReason, v_t_keptDetail, v_t_above, v_t_below, v_t_bestAbove, v_t_bestBelow, .ref a_t_bestPlan, .ref a_t_sort, .ref a_t_size, .ref a_t_whole, .ref a_t_parts])), (a_t_g, .inl (k 0, 221, .inl t_g))] sz) (postI D k r [(a_t, .inr (10, [v_t_thrown, .ref a_t_g, .ref a_t_ahead, .ref a_t_history, v_t_historyMany, .ref a_t_saved, v_t_hasSaved, .ref a_t_tape, v_t_taped, v_t_at, v_t_impossibleAt, v_t_letter, .ref a_t_numbers, .ref a_t_plan, v_t_detail, v_t_keptReason, v_t_keptDetail, v_t_above, v_t_below, v_t_bestAbove, v_t_bestBelow, .ref a_t_bestPlan, .ref a_t_sort, .ref a_t_size, .ref a_t_whole, .ref a_t_parts])), (a_t_g, .inl (k 0, 221, .inl t_g))] [(a_t, .inr (10, [v_t_thrown, .ref a_t_g, .ref a_t_ahead, .ref a_t_history, v_t_historyMany, .ref a_t_saved, v_t_hasSaved, .ref a_t_tape, v_t_taped, v_t_at, v_t_impossibleAt, v_t_letter, .ref a_t_numbers, .ref a_t_plan, v_t_detail, v_t_keptReason, v_t_keptDetail, v_t_above, v_t_below, v_t_bestAbove, v_t_bestBelow, .ref a_t_bestPlan, .ref a_t_sort, .ref a_t_size, .ref a_t_whole, .ref a_t_parts])), (a_t_g, .inl (k 0, 221, .inl t_g))] sz) 0 0 (va_A [(a_t, .inr (10, [v_t_thrown, .ref a_t_g, .ref a_t_ahead, .ref a_t_history, v_t_historyMany, .ref a_t_saved, v_t_hasSaved, .ref a_t_tape, v_t_taped, v_t_at, v_t_impossibleAt, v_t_letter, .ref a_t_numbers, .ref a_t_plan, v_t_detail, v_t_keptReason, v_t_keptDetail, v_t_above, v_t_below, v_t_bestAbove, v_t_bestBelow, .ref a_t_bestPlan, .ref a_t_sort, .ref a_t_size, .ref a_t_whole, .ref a_t_parts])), (a_t_g, .inl (k 0, 221, .inl t_g))] sz) := by
  refine Met.ofW (cc := cX11_sum) (maxL := 5) (ret := (some .int)) (by decide) rfl ?_
  intro p e s m args below meth c s₁ B hml hv
  obtain ⟨rfl, hsz, hP, hK, hD0⟩ := hv
  have hx := B.exec
  have hb := B.bytes
  have hr := B.returns
  have hts0 := atoms_spec (ws := (Cond.code yX11_sum cX11_sum 5 (some .int) :: Ts)) B.pre
  have hts : ∀ w ∈ uT, w.before _ s = true := fun w h => hts0 w (List.mem_cons_of_mem _ ((hTs w).mpr h))
  clear hts0
  have hown : s.vm.findClass RX11 = some m.cls := findClass_of_methodNamed B.named
  have hlocks := B.notSynchronized
  subst hsz
  have hD := hD0.self (sz := s.heap.size)
  generalize hAe : va_A [(a_t, .inr (10, [v_t_thrown, .ref a_t_g, .ref a_t_ahead, .ref a_t_history, v_t_historyMany, .ref a_t_saved, v_t_hasSaved, .ref a_t_tape, v_t_taped, v_t_at, v_t_impossibleAt, v_t_letter, .ref a_t_numbers, .ref a_t_plan, v_t_detail, v_t_keptReason, v_t_keptDetail, v_t_above, v_t_below, v_t_bestAbove, v_t_bestBelow, .ref a_t_bestPlan, .ref a_t_sort, .ref a_t_size, .ref a_t_whole, .ref a_t_parts])), (a_t_g, .inl (k 0, 221, .inl t_g))] s.heap.size = A at hD ⊢
  have hA : ∀ q : Nat, s.heap.size ≤ q → A q := fun q h => by rw [← hAe]; exact Or.inr h
  have hH : HOK D A s.heap [(a_t, .inr (10, [v_t_thrown, .ref a_t_g, .ref a_t_ahead, .ref a_t_history, v_t_historyMany, .ref a_t_saved, v_t_hasSaved, .ref a_t_tape, v_t_taped, v_t_at, v_t_impossibleAt, v_t_letter, .ref a_t_numbers, .ref a_t_plan, v_t_detail, v_t_keptReason, v_t_keptDetail, v_t_above, v_t_below, v_t_bestAbove, v_t_bestBelow, .ref a_t_bestPlan, .ref a_t_sort, .ref a_t_size, .ref a_t_whole, .ref a_t_parts])), (a_t_g, .inl (k 0, 221, .inl t_g))] s.heap [] := ⟨hP, hD, va_S.rf⟩
  have hl := lv_entry ([.ref a_t, .int x1, .int x2]) (n := 5) (Nat.le_of_ble_eq_true rfl)
  rw [lg_entry_eq]
  generalize (lg_sl ([.ref a_t, .int x1, .int x2]) ++ List.replicate (5 - (lg_sl ([.ref a_t, .int x1, .int x2])).length) Slot.unset).toArray = ls at hl ⊢
  have hl : lv_has ls 5 [(0, .ref a_t), (1, .int x1), (2, .int x2)] := hl
  generalize hQ : MQ below (postI D k r [(a_t, .inr (10, [v_t_thrown, .ref a_t_g, .ref a_t_ahead, .ref a_t_history, v_t_historyMany, .ref a_t_saved, v_t_hasSaved, .ref a_t_tape, v_t_taped, v_t_at, v_t_impossibleAt, v_t_letter, .ref a_t_numbers, .ref a_t_plan, v_t_detail, v_t_keptReason, v_t_keptDetail, v_t_above, v_t_below, v_t_bestAbove, v_t_bestBelow, .ref a_t_bestPlan, .ref a_t_sort, .ref a_t_size, .ref a_t_whole, .ref a_t_parts])), (a_t_g, .inl (k 0, 221, .inl t_g))] [(a_t, .inr (10, [v_t_thrown, .ref a_t_g, .ref a_t_ahead, .ref a_t_history, v_t_historyMany, .ref a_t_saved, v_t_hasSaved, .ref a_t_tape, v_t_taped, v_t_at, v_t_impossibleAt, v_t_letter, .ref a_t_numbers, .ref a_t_plan, v_t_detail, v_t_keptReason, v_t_keptDetail, v_t_above, v_t_below, v_t_bestAbove, v_t_bestBelow, .ref a_t_bestPlan, .ref a_t_sort, .ref a_t_size, .ref a_t_whole, .ref a_t_parts])), (a_t_g, .inl (k 0, 221, .inl t_g))] s.heap.size) (List.toArray [.ref a_t, .int x1, .int x2]) s 0 0 A = Q
  clear hP hD hD0
  suffices K : ∀ (H : Heap) (locs : List Loc), HOK D A s.heap [(a_t, .inr (10, [v_t_thrown, .ref a_t_g, .ref a_t_ahead, .ref a_t_history, v_t_historyMany, .ref a_t_saved, v_t_hasSaved, .ref a_t_tape, v_t_taped, v_t_at, v_t_impossibleAt, v_t_letter, .ref a_t_numbers, .ref a_t_plan, v_t_detail, v_t_keptReason, v_t_keptDetail, v_t_above, v_t_below, v_t_bestAbove, v_t_bestBelow, .ref a_t_bestPlan, .ref a_t_sort, .ref a_t_size, .ref a_t_whole, .ref a_t_parts])), (a_t_g, .inl (k 0, 221, .inl t_g))] H locs → W p l e ({ frames := 1, cells := 0, slots := 0, locals := 22 } : Room) s m (List.toArray [.ref a_t, .int x1, .int x2]) below meth c H locs 0 0 Q (F0 m 0 ls []) from K s.heap [] hH
  intro H locs hH
  have L5 : ∀ (n : Nat), ∀ (kf : Int32 → Option (Int32)) (y5_3 : Int32) (y5_4 : Int32), fX11_sum_L5 t_g x1 x2 n kf y5_3 y5_4 = some r → (∀ (z5_3 : Int32) (H : Heap) (locs : List Loc) (ls : Array Slot), kf z5_3 = some r → HOK D A s.heap [(a_t, .inr (10, [v_t_thrown, .ref a_t_g, .ref a_t_ahead, .ref a_t_history, v_t_historyMany, .ref a_t_saved, v_t_hasSaved, .ref a_t_tape, v_t_taped, v_t_at, v_t_impossibleAt, v_t_letter, .ref a_t_numbers, .ref a_t_plan, v_t_detail, v_t_keptReason, v_t_keptDetail, v_t_above, v_t_below, v_t_bestAbove, v_t_bestBelow, .ref a_t_bestPlan, .ref a_t_sort, .ref a_t_size, .ref a_t_whole, .ref a_t_parts])), (a_t_g, .inl (k 0, 221, .inl t_g))] H locs → lv_has ls 5 [(3, .int z5_3)] → W p l e ({ frames := 1, cells := 0, slots := 0, locals := 22 } : Room) s m (List.toArray [.ref a_t, .int x1, .int x2]) below meth c H locs 0 0 Q (F0 m 48 ls [])) → ∀ (H : Heap) (locs : List Loc) (ls : Array Slot), HOK D A s.heap [(a_t, .inr (10, [v_t_thrown, .ref a_t_g, .ref a_t_ahead, .ref a_t_history, v_t_historyMany, .ref a_t_saved, v_t_hasSaved, .ref a_t_tape, v_t_taped, v_t_at, v_t_impossibleAt, v_t_letter, .ref a_t_numbers, .ref a_t_plan, v_t_detail, v_t_keptReason, v_t_keptDetail, v_t_above, v_t_below, v_t_bestAbove, v_t_bestBelow, .ref a_t_bestPlan, .ref a_t_sort, .ref a_t_size, .ref a_t_whole, .ref a_t_parts])), (a_t_g, .inl (k 0, 221, .inl t_g))] H locs → lv_has ls 5 [(0, .ref a_t), (1, .int x1), (2, .int x2), (3, .int y5_3), (4, .int y5_4)] → W p l e ({ frames := 1, cells := 0, slots := 0, locals := 22 } : Room) s m (List.toArray [.ref a_t, .int x1, .int x2]) below meth c H locs 0 0 Q (F0 m 5 ls []) := by
    intro n
    induction n with
    | zero =>
      intro kf y5_3 y5_4 h
      exact absurd h (by rw [fX11_sum_L5]; exact fun q => by cases q)
    | succ n ih =>
      intro kf y5_3 y5_4 h kk H locs ls hH hl
      rw [fX11_sum_L5] at h
      refine lv_iload hx hb dX11_sum_5 (lv_at hl 4 rfl) ?_
      refine lv_aload_n hx hb dX11_sum_7 rfl (lv_at hl 0 rfl) ?_
      refine gk_get (ci := 10) (C := RX11) (T := TX11) (N := 26) hx hb hts u_ws_X11 hown hK hH 0 rfl rfl 1 (by decide) u_fl_X11_7 rfl dX11_sum_8 ?_
      refine lv_sipush (v := 204) hx hb dX11_sum_11 (by decide) ?_
      refine gk_iald hx hb hK hH 1 rfl (dk_in (by decide)) dX11_sum_14 ?_
      refine lv_icmp_ge (tgt := 48) hx hb dX11_sum_15 (by decide) (fun c1 => ?_) (fun c1 => ?_)
      · replace h := dc_pos c1 h
        exact kk y5_3 H locs ls h hH (lv_sub hl [3] rfl)
      · replace h := dc_neg c1 h
        refine lv_iload_n hx hb dX11_sum_18 rfl (lv_at hl 3 rfl) ?_
        refine lv_iload_n hx hb dX11_sum_19 rfl (lv_at hl 1 rfl) ?_
        refine lv_iload hx hb dX11_sum_20 (lv_at hl 4 rfl) ?_
        refine lv_ishr hx hb dX11_sum_22 ?_
        refine lv_iconst (v := 1) hx hb dX11_sum_23 (by decide) ?_
        refine lv_iand hx hb dX11_sum_24 ?_
        refine lv_iconst (v := 1) hx hb dX11_sum_25 (by decide) ?_
        refine lv_icmp_ne (tgt := 39) hx hb dX11_sum_26 (by decide) (fun c2 => ?_) (fun c2 => ?_)
        · replace h := dc_neg c2 h
          refine lv_iconst (v := 0) hx hb dX11_sum_39 (by decide) ?_
          refine lv_iadd hx hb dX11_sum_40 ?_
          refine lv_istore_n (lv' := [(3, .int (y5_3 + (0 : Int32))), (0, .ref a_t), (1, .int x1), (2, .int x2), (4, .int y5_4)]) hx hb dX11_sum_41 rfl hl (by decide) rfl (fun ls hl => ?_)
          refine lv_iinc (v := (y5_4 + (1 : Int32))) (lv' := [(4, .int (y5_4 + (1 : Int32))), (3, .int (y5_3 + (0 : Int32))), (0, .ref a_t), (1, .int x1), (2, .int x2)]) hx hb dX11_sum_42 hl (k := 4) rfl rfl (by decide) rfl (fun ls hl => ?_)
          refine lv_goto (tgt := 5) hx hb dX11_sum_45 (by decide) ?_
          exact ih kf (y5_3 + (0 : Int32)) (y5_4 + (1 : Int32)) h kk H locs ls hH (lv_sub hl [2, 3, 4, 1, 0] rfl)
        · replace h := dc_pos c2 h
          refine lv_aload_n hx hb dX11_sum_29 rfl (lv_at hl 0 rfl) ?_
          refine lv_iload hx hb dX11_sum_30 (lv_at hl 4 rfl) ?_
          refine lv_iload_n hx hb dX11_sum_32 rfl (lv_at hl 2 rfl) ?_
          obtain ⟨q3, hqq3, h⟩ := dc_bind h
          refine gc_Vi (ws' := [(a_t, .inr (10, [v_t_thrown, .ref a_t_g, .ref a_t_ahead, .ref a_t_history, v_t_historyMany, .ref a_t_saved, v_t_hasSaved, .ref a_t_tape, v_t_taped, v_t_at, v_t_impossibleAt, v_t_letter, .ref a_t_numbers, .ref a_t_plan, v_t_detail, v_t_keptReason, v_t_keptDetail, v_t_above, v_t_below, v_t_bestAbove, v_t_bestBelow, .ref a_t_bestPlan, .ref a_t_sort, .ref a_t_size, .ref a_t_whole, .ref a_t_parts])), (a_t_g, .inl (k 0, 221, .inl t_g))]) (As := [.int y5_4, .int x2]) (rest := [.int y5_3]) (n := 2) (ci := 10) (cq := (RX11, TX11, 26)) hTs ⟨hx, hb, hml, hown, hts⟩ (mX11_of l Ts hTs D k H.size a_t a_t_g a_t_ahead a_t_history a_t_saved a_t_tape a_t_numbers a_t_plan a_t_bestPlan a_t_sort a_t_size a_t_whole a_t_parts t_g v_t_above v_t_at v_t_below v_t_bestAbove v_t_bestBelow v_t_detail v_t_hasSaved v_t_historyMany v_t_impossibleAt v_t_keptDetail v_t_keptReason v_t_letter v_t_taped v_t_thrown y5_4 x2 q3 hqq3) u_ml_X11_110 u_im_X11_of u_se_X11_of u_in_X11 u_co_X11_of hd_X11_of ⟨Nat.le_of_ble_eq_true rfl, Nat.le_of_ble_eq_true rfl⟩ ⟨rfl, rfl⟩ hK hH hA (cut0 (isC := [0, 1]) rfl rfl rfl) rfl rfl rfl rfl hl.1 (Nat.le_of_ble_eq_true rfl) dX11_sum_33 ⟨Nat.le_of_ble_eq_true rfl, Nat.le_of_ble_eq_true rfl⟩ (fun H locs hH => ?_)
          refine lv_goto (tgt := 40) hx hb dX11_sum_36 (by decide) ?_
          refine lv_iadd hx hb dX11_sum_40 ?_
          refine lv_istore_n (lv' := [(3, .int (y5_3 + q3)), (0, .ref a_t), (1, .int x1), (2, .int x2), (4, .int y5_4)]) hx hb dX11_sum_41 rfl hl (by decide) rfl (fun ls hl => ?_)
          refine lv_iinc (v := (y5_4 + (1 : Int32))) (lv' := [(4, .int (y5_4 + (1 : Int32))), (3, .int (y5_3 + q3)), (0, .ref a_t), (1, .int x1), (2, .int x2)]) hx hb dX11_sum_42 hl (k := 4) rfl rfl (by decide) rfl (fun ls hl => ?_)
          refine lv_goto (tgt := 5) hx hb dX11_sum_45 (by decide) ?_
          exact ih kf (y5_3 + q3) (y5_4 + (1 : Int32)) h kk H locs ls hH (lv_sub hl [2, 3, 4, 1, 0] rfl)
  rw [fX11_sum] at h
  refine lv_iconst (v := 0) hx hb dX11_sum_0 (by decide) ?_
  refine lv_istore_n (lv' := [(3, .int (0 : Int32)), (0, .ref a_t), (1, .int x1), (2, .int x2)]) hx hb dX11_sum_1 rfl hl (by decide) rfl (fun ls hl => ?_)
  refine lv_iconst (v := 0) hx hb dX11_sum_2 (by decide) ?_
  refine lv_istore (lv' := [(4, .int (0 : Int32)), (3, .int (0 : Int32)), (0, .ref a_t), (1, .int x1), (2, .int x2)]) hx hb dX11_sum_3 hl (by decide) rfl (fun ls hl => ?_)
  refine L5 _ _ (0 : Int32) (0 : Int32) h (fun z5_3 H locs ls h hH hl => ?_) H locs ls hH (lv_sub hl [2, 3, 4, 1, 0] rfl)
  refine lv_iload_n hx hb dX11_sum_48 rfl (lv_at hl 0 rfl) ?_
  have h := Option.some.inj h
  subst h
  exact ge_i hx hb hr hlocks hQ hK hH hAe rfl dX11_sum_49
theorem hd_X11_all : yX11_all.cls = RX11 ∧ yX11_all.cls ≠ "java/lang/invoke/MethodHandle" ∧ yX11_all.cls ≠ "java/lang/invoke/VarHandle" ∧ (parseMethodDescriptor yX11_all.desc).map (fun d => d.parameters.length) = some 0 := by decide +kernel
set_option maxHeartbeats 4000000 in
set_option maxRecDepth 100000 in
theorem mX11_all (l : Launch) (Ts : List Cond) (hTs : ∀ w, w ∈ Ts ↔ w ∈ uT) (D : va_G) (k : Nat → ClassId) (sz : Nat) (a_t : Nat) (a_t_g : Nat) (a_t_ahead : Nat) (a_t_history : Nat) (a_t_saved : Nat) (a_t_tape : Nat) (a_t_numbers : Nat) (a_t_plan : Nat) (a_t_bestPlan : Nat) (a_t_sort : Nat) (a_t_size : Nat) (a_t_whole : Nat) (a_t_parts : Nat) (t_g : Nat → Int32) (v_t_above : Value) (v_t_at : Value) (v_t_below : Value) (v_t_bestAbove : Value) (v_t_bestBelow : Value) (v_t_detail : Value) (v_t_hasSaved : Value) (v_t_historyMany : Value) (v_t_impossibleAt : Value) (v_t_keptDetail : Value) (v_t_keptReason : Value) (v_t_letter : Value) (v_t_taped : Value) (v_t_thrown : Value) (r : Int32) (h : fX11_all t_g = some r) : Met l yX11_all (Cond.code yX11_all cX11_all 1 (some .int) :: Ts) ({ frames := 0, cells := 0, slots := 0, locals := 0 } : Room) (preM D k [.ref a_t] [(a_t, .inr (10, [v_t_thrown, .ref a_t_g, .ref a_t_ahead, .ref a_t_history, v_t_historyMany, .ref a_t_saved, v_t_hasSaved, .ref a_t_tape, v_t_taped, v_t_at, v_t_impossibleAt, v_t_letter, .ref a_t_numbers, .ref a_t_plan, v_t_detail, v_t_keptReason, v_t_keptDetail, v_t_above, v_t_below, v_t_bestAbove, v_t_bestBelow, .ref a_t_bestPlan, .ref a_t_sort, .ref a_t_size, .ref a_t_whole, .ref a_t_parts])), (a_t_g, .inl (k 0, 221, .inl t_g))] sz) (postI D k r [(a_t, .inr (10, [v_t_thrown, .ref a_t_g, .ref a_t_ahead, .ref a_t_history, v_t_historyMany, .ref a_t_saved, v_t_hasSaved, .ref a_t_tape, v_t_taped, v_t_at, v_t_impossibleAt, v_t_letter, .ref a_t_numbers, .ref a_t_plan, v_t_detail, v_t_keptReason, v_t_keptDetail, v_t_above, v_t_below, v_t_bestAbove, v_t_bestBelow, .ref a_t_bestPlan, .ref a_t_sort, .ref a_t_size, .ref a_t_whole, .ref a_t_parts])), (a_t_g, .inl (k 0, 221, .inl t_g))] [(a_t, .inr (10, [v_t_thrown, .ref a_t_g, .ref a_t_ahead, .ref a_t_history, v_t_historyMany, .ref a_t_saved, v_t_hasSaved, .ref a_t_tape, v_t_taped, v_t_at, v_t_impossibleAt, v_t_letter, .ref a_t_numbers, .ref a_t_plan, v_t_detail, v_t_keptReason, v_t_keptDetail, v_t_above, v_t_below, v_t_bestAbove, v_t_bestBelow, .ref a_t_bestPlan, .ref a_t_sort, .ref a_t_size, .ref a_t_whole, .ref a_t_parts])), (a_t_g, .inl (k 0, 221, .inl t_g))] sz) 0 0 (va_A [(a_t, .inr (10, [v_t_thrown, .ref a_t_g, .ref a_t_ahead, .ref a_t_history, v_t_historyMany, .ref a_t_saved, v_t_hasSaved, .ref a_t_tape, v_t_taped, v_t_at, v_t_impossibleAt, v_t_letter, .ref a_t_numbers, .ref a_t_plan, v_t_detail, v_t_keptReason, v_t_keptDetail, v_t_above, v_t_below, v_t_bestAbove, v_t_bestBelow, .ref a_t_bestPlan, .ref a_t_sort, .ref a_t_size, .ref a_t_whole, .ref a_t_parts])), (a_t_g, .inl (k 0, 221, .inl t_g))] sz) := by
  refine Met.ofW (cc := cX11_all) (maxL := 1) (ret := (some .int)) (by decide) rfl ?_
  intro p e s m args below meth c s₁ B hml hv
  obtain ⟨rfl, hsz, hP, hK, hD0⟩ := hv
  have hx := B.exec
  have hb := B.bytes
  have hr := B.returns
  have hts0 := atoms_spec (ws := (Cond.code yX11_all cX11_all 1 (some .int) :: Ts)) B.pre
  have hts : ∀ w ∈ uT, w.before _ s = true := fun w h => hts0 w (List.mem_cons_of_mem _ ((hTs w).mpr h))
  clear hts0
  have hown : s.vm.findClass RX11 = some m.cls := findClass_of_methodNamed B.named
  have hlocks := B.notSynchronized
  subst hsz
  have hD := hD0.self (sz := s.heap.size)
  generalize hAe : va_A [(a_t, .inr (10, [v_t_thrown, .ref a_t_g, .ref a_t_ahead, .ref a_t_history, v_t_historyMany, .ref a_t_saved, v_t_hasSaved, .ref a_t_tape, v_t_taped, v_t_at, v_t_impossibleAt, v_t_letter, .ref a_t_numbers, .ref a_t_plan, v_t_detail, v_t_keptReason, v_t_keptDetail, v_t_above, v_t_below, v_t_bestAbove, v_t_bestBelow, .ref a_t_bestPlan, .ref a_t_sort, .ref a_t_size, .ref a_t_whole, .ref a_t_parts])), (a_t_g, .inl (k 0, 221, .inl t_g))] s.heap.size = A at hD ⊢
  have hA : ∀ q : Nat, s.heap.size ≤ q → A q := fun q h => by rw [← hAe]; exact Or.inr h
  have hH : HOK D A s.heap [(a_t, .inr (10, [v_t_thrown, .ref a_t_g, .ref a_t_ahead, .ref a_t_history, v_t_historyMany, .ref a_t_saved, v_t_hasSaved, .ref a_t_tape, v_t_taped, v_t_at, v_t_impossibleAt, v_t_letter, .ref a_t_numbers, .ref a_t_plan, v_t_detail, v_t_keptReason, v_t_keptDetail, v_t_above, v_t_below, v_t_bestAbove, v_t_bestBelow, .ref a_t_bestPlan, .ref a_t_sort, .ref a_t_size, .ref a_t_whole, .ref a_t_parts])), (a_t_g, .inl (k 0, 221, .inl t_g))] s.heap [] := ⟨hP, hD, va_S.rf⟩
  have hl := lv_entry ([.ref a_t]) (n := 1) (Nat.le_of_ble_eq_true rfl)
  rw [lg_entry_eq]
  generalize (lg_sl ([.ref a_t]) ++ List.replicate (1 - (lg_sl ([.ref a_t])).length) Slot.unset).toArray = ls at hl ⊢
  have hl : lv_has ls 1 [(0, .ref a_t)] := hl
  generalize hQ : MQ below (postI D k r [(a_t, .inr (10, [v_t_thrown, .ref a_t_g, .ref a_t_ahead, .ref a_t_history, v_t_historyMany, .ref a_t_saved, v_t_hasSaved, .ref a_t_tape, v_t_taped, v_t_at, v_t_impossibleAt, v_t_letter, .ref a_t_numbers, .ref a_t_plan, v_t_detail, v_t_keptReason, v_t_keptDetail, v_t_above, v_t_below, v_t_bestAbove, v_t_bestBelow, .ref a_t_bestPlan, .ref a_t_sort, .ref a_t_size, .ref a_t_whole, .ref a_t_parts])), (a_t_g, .inl (k 0, 221, .inl t_g))] [(a_t, .inr (10, [v_t_thrown, .ref a_t_g, .ref a_t_ahead, .ref a_t_history, v_t_historyMany, .ref a_t_saved, v_t_hasSaved, .ref a_t_tape, v_t_taped, v_t_at, v_t_impossibleAt, v_t_letter, .ref a_t_numbers, .ref a_t_plan, v_t_detail, v_t_keptReason, v_t_keptDetail, v_t_above, v_t_below, v_t_bestAbove, v_t_bestBelow, .ref a_t_bestPlan, .ref a_t_sort, .ref a_t_size, .ref a_t_whole, .ref a_t_parts])), (a_t_g, .inl (k 0, 221, .inl t_g))] s.heap.size) (List.toArray [.ref a_t]) s 0 0 A = Q
  clear hP hD hD0
  suffices K : ∀ (H : Heap) (locs : List Loc), HOK D A s.heap [(a_t, .inr (10, [v_t_thrown, .ref a_t_g, .ref a_t_ahead, .ref a_t_history, v_t_historyMany, .ref a_t_saved, v_t_hasSaved, .ref a_t_tape, v_t_taped, v_t_at, v_t_impossibleAt, v_t_letter, .ref a_t_numbers, .ref a_t_plan, v_t_detail, v_t_keptReason, v_t_keptDetail, v_t_above, v_t_below, v_t_bestAbove, v_t_bestBelow, .ref a_t_bestPlan, .ref a_t_sort, .ref a_t_size, .ref a_t_whole, .ref a_t_parts])), (a_t_g, .inl (k 0, 221, .inl t_g))] H locs → W p l e ({ frames := 0, cells := 0, slots := 0, locals := 0 } : Room) s m (List.toArray [.ref a_t]) below meth c H locs 0 0 Q (F0 m 0 ls []) from K s.heap [] hH
  intro H locs hH
  rw [fX11_all] at h
  refine lv_iconst (v := 1) hx hb dX11_all_0 (by decide) ?_
  refine lv_aload_n hx hb dX11_all_1 rfl (lv_at hl 0 rfl) ?_
  refine gk_get (ci := 10) (C := RX11) (T := TX11) (N := 26) hx hb hts u_ws_X11 hown hK hH 0 rfl rfl 1 (by decide) u_fl_X11_7 rfl dX11_all_2 ?_
  refine lv_sipush (v := 204) hx hb dX11_all_5 (by decide) ?_
  refine gk_iald hx hb hK hH 1 rfl (dk_in (by decide)) dX11_all_8 ?_
  refine lv_ishl hx hb dX11_all_9 ?_
  refine lv_iconst (v := 1) hx hb dX11_all_10 (by decide) ?_
  refine lv_isub hx hb dX11_all_11 ?_
  have h := Option.some.inj h
  subst h
  exact ge_i hx hb hr hlocks hQ hK hH hAe rfl dX11_all_12
theorem hd_X11_communities : yX11_communities.cls = RX11 ∧ yX11_communities.cls ≠ "java/lang/invoke/MethodHandle" ∧ yX11_communities.cls ≠ "java/lang/invoke/VarHandle" ∧ (parseMethodDescriptor yX11_communities.desc).map (fun d => d.parameters.length) = some 1 := by decide +kernel
set_option maxHeartbeats 4000000 in
set_option maxRecDepth 100000 in
theorem mX11_communities (l : Launch) (Ts : List Cond) (hTs : ∀ w, w ∈ Ts ↔ w ∈ uT) (D : va_G) (k : Nat → ClassId) (sz : Nat) (a_t : Nat) (a_t_g : Nat) (a_t_ahead : Nat) (a_t_history : Nat) (a_t_saved : Nat) (a_t_tape : Nat) (a_t_numbers : Nat) (a_t_plan : Nat) (a_t_bestPlan : Nat) (a_t_sort : Nat) (a_t_size : Nat) (a_t_whole : Nat) (a_t_parts : Nat) (t_g : Nat → Int32) (v_t_above : Value) (v_t_at : Value) (v_t_below : Value) (v_t_bestAbove : Value) (v_t_bestBelow : Value) (v_t_detail : Value) (v_t_hasSaved : Value) (v_t_historyMany : Value) (v_t_impossibleAt : Value) (v_t_keptDetail : Value) (v_t_keptReason : Value) (v_t_letter : Value) (v_t_taped : Value) (v_t_thrown : Value) (x1 : Int32) (r : Int32) (h : fX11_communities t_g x1 = some r) : Met l yX11_communities (Cond.code yX11_communities cX11_communities 5 (some .int) :: Ts) ({ frames := 1, cells := 0, slots := 0, locals := 22 } : Room) (preM D k [.ref a_t, .int x1] [(a_t, .inr (10, [v_t_thrown, .ref a_t_g, .ref a_t_ahead, .ref a_t_history, v_t_historyMany, .ref a_t_saved, v_t_hasSaved, .ref a_t_tape, v_t_taped, v_t_at, v_t_impossibleAt, v_t_letter, .ref a_t_numbers, .ref a_t_plan, v_t_detail, v_t_keptReason, v_t_keptDetail, v_t_above, v_t_below, v_t_bestAbove, v_t_bestBelow, .ref a_t_bestPlan, .ref a_t_sort, .ref a_t_size, .ref a_t_whole, .ref a_t_parts])), (a_t_g, .inl (k 0, 221, .inl t_g))] sz) (postI D k r [(a_t, .inr (10, [v_t_thrown, .ref a_t_g, .ref a_t_ahead, .ref a_t_history, v_t_historyMany, .ref a_t_saved, v_t_hasSaved, .ref a_t_tape, v_t_taped, v_t_at, v_t_impossibleAt, v_t_letter, .ref a_t_numbers, .ref a_t_plan, v_t_detail, v_t_keptReason, v_t_keptDetail, v_t_above, v_t_below, v_t_bestAbove, v_t_bestBelow, .ref a_t_bestPlan, .ref a_t_sort, .ref a_t_size, .ref a_t_whole, .ref a_t_parts])), (a_t_g, .inl (k 0, 221, .inl t_g))] [(a_t, .inr (10, [v_t_thrown, .ref a_t_g, .ref a_t_ahead, .ref a_t_history, v_t_historyMany, .ref a_t_saved, v_t_hasSaved, .ref a_t_tape, v_t_taped, v_t_at, v_t_impossibleAt, v_t_letter, .ref a_t_numbers, .ref a_t_plan, v_t_detail, v_t_keptReason, v_t_keptDetail, v_t_above, v_t_below, v_t_bestAbove, v_t_bestBelow, .ref a_t_bestPlan, .ref a_t_sort, .ref a_t_size, .ref a_t_whole, .ref a_t_parts])), (a_t_g, .inl (k 0, 221, .inl t_g))] sz) 0 0 (va_A [(a_t, .inr (10, [v_t_thrown, .ref a_t_g, .ref a_t_ahead, .ref a_t_history, v_t_historyMany, .ref a_t_saved, v_t_hasSaved, .ref a_t_tape, v_t_taped, v_t_at, v_t_impossibleAt, v_t_letter, .ref a_t_numbers, .ref a_t_plan, v_t_detail, v_t_keptReason, v_t_keptDetail, v_t_above, v_t_below, v_t_bestAbove, v_t_bestBelow, .ref a_t_bestPlan, .ref a_t_sort, .ref a_t_size, .ref a_t_whole, .ref a_t_parts])), (a_t_g, .inl (k 0, 221, .inl t_g))] sz) := by
  refine Met.ofW (cc := cX11_communities) (maxL := 5) (ret := (some .int)) (by decide) rfl ?_
  intro p e s m args below meth c s₁ B hml hv
  obtain ⟨rfl, hsz, hP, hK, hD0⟩ := hv
  have hx := B.exec
  have hb := B.bytes
  have hr := B.returns
  have hts0 := atoms_spec (ws := (Cond.code yX11_communities cX11_communities 5 (some .int) :: Ts)) B.pre
  have hts : ∀ w ∈ uT, w.before _ s = true := fun w h => hts0 w (List.mem_cons_of_mem _ ((hTs w).mpr h))
  clear hts0
  have hown : s.vm.findClass RX11 = some m.cls := findClass_of_methodNamed B.named
  have hlocks := B.notSynchronized
  subst hsz
  have hD := hD0.self (sz := s.heap.size)
  generalize hAe : va_A [(a_t, .inr (10, [v_t_thrown, .ref a_t_g, .ref a_t_ahead, .ref a_t_history, v_t_historyMany, .ref a_t_saved, v_t_hasSaved, .ref a_t_tape, v_t_taped, v_t_at, v_t_impossibleAt, v_t_letter, .ref a_t_numbers, .ref a_t_plan, v_t_detail, v_t_keptReason, v_t_keptDetail, v_t_above, v_t_below, v_t_bestAbove, v_t_bestBelow, .ref a_t_bestPlan, .ref a_t_sort, .ref a_t_size, .ref a_t_whole, .ref a_t_parts])), (a_t_g, .inl (k 0, 221, .inl t_g))] s.heap.size = A at hD ⊢
  have hA : ∀ q : Nat, s.heap.size ≤ q → A q := fun q h => by rw [← hAe]; exact Or.inr h
  have hH : HOK D A s.heap [(a_t, .inr (10, [v_t_thrown, .ref a_t_g, .ref a_t_ahead, .ref a_t_history, v_t_historyMany, .ref a_t_saved, v_t_hasSaved, .ref a_t_tape, v_t_taped, v_t_at, v_t_impossibleAt, v_t_letter, .ref a_t_numbers, .ref a_t_plan, v_t_detail, v_t_keptReason, v_t_keptDetail, v_t_above, v_t_below, v_t_bestAbove, v_t_bestBelow, .ref a_t_bestPlan, .ref a_t_sort, .ref a_t_size, .ref a_t_whole, .ref a_t_parts])), (a_t_g, .inl (k 0, 221, .inl t_g))] s.heap [] := ⟨hP, hD, va_S.rf⟩
  have hl := lv_entry ([.ref a_t, .int x1]) (n := 5) (Nat.le_of_ble_eq_true rfl)
  rw [lg_entry_eq]
  generalize (lg_sl ([.ref a_t, .int x1]) ++ List.replicate (5 - (lg_sl ([.ref a_t, .int x1])).length) Slot.unset).toArray = ls at hl ⊢
  have hl : lv_has ls 5 [(0, .ref a_t), (1, .int x1)] := hl
  generalize hQ : MQ below (postI D k r [(a_t, .inr (10, [v_t_thrown, .ref a_t_g, .ref a_t_ahead, .ref a_t_history, v_t_historyMany, .ref a_t_saved, v_t_hasSaved, .ref a_t_tape, v_t_taped, v_t_at, v_t_impossibleAt, v_t_letter, .ref a_t_numbers, .ref a_t_plan, v_t_detail, v_t_keptReason, v_t_keptDetail, v_t_above, v_t_below, v_t_bestAbove, v_t_bestBelow, .ref a_t_bestPlan, .ref a_t_sort, .ref a_t_size, .ref a_t_whole, .ref a_t_parts])), (a_t_g, .inl (k 0, 221, .inl t_g))] [(a_t, .inr (10, [v_t_thrown, .ref a_t_g, .ref a_t_ahead, .ref a_t_history, v_t_historyMany, .ref a_t_saved, v_t_hasSaved, .ref a_t_tape, v_t_taped, v_t_at, v_t_impossibleAt, v_t_letter, .ref a_t_numbers, .ref a_t_plan, v_t_detail, v_t_keptReason, v_t_keptDetail, v_t_above, v_t_below, v_t_bestAbove, v_t_bestBelow, .ref a_t_bestPlan, .ref a_t_sort, .ref a_t_size, .ref a_t_whole, .ref a_t_parts])), (a_t_g, .inl (k 0, 221, .inl t_g))] s.heap.size) (List.toArray [.ref a_t, .int x1]) s 0 0 A = Q
  clear hP hD hD0
  suffices K : ∀ (H : Heap) (locs : List Loc), HOK D A s.heap [(a_t, .inr (10, [v_t_thrown, .ref a_t_g, .ref a_t_ahead, .ref a_t_history, v_t_historyMany, .ref a_t_saved, v_t_hasSaved, .ref a_t_tape, v_t_taped, v_t_at, v_t_impossibleAt, v_t_letter, .ref a_t_numbers, .ref a_t_plan, v_t_detail, v_t_keptReason, v_t_keptDetail, v_t_above, v_t_below, v_t_bestAbove, v_t_bestBelow, .ref a_t_bestPlan, .ref a_t_sort, .ref a_t_size, .ref a_t_whole, .ref a_t_parts])), (a_t_g, .inl (k 0, 221, .inl t_g))] H locs → W p l e ({ frames := 1, cells := 0, slots := 0, locals := 22 } : Room) s m (List.toArray [.ref a_t, .int x1]) below meth c H locs 0 0 Q (F0 m 0 ls []) from K s.heap [] hH
  intro H locs hH
  have L60 : ∀ (y60_2 : Int32) (n : Nat), ∀ (kf : Int32 → Option (Int32)) (y60_3 : Int32) (y60_4 : Int32), fX11_communities_L60 y60_2 n kf y60_3 y60_4 = some r → (∀ (z60_3 : Int32) (H : Heap) (locs : List Loc) (ls : Array Slot), kf z60_3 = some r → HOK D A s.heap [(a_t, .inr (10, [v_t_thrown, .ref a_t_g, .ref a_t_ahead, .ref a_t_history, v_t_historyMany, .ref a_t_saved, v_t_hasSaved, .ref a_t_tape, v_t_taped, v_t_at, v_t_impossibleAt, v_t_letter, .ref a_t_numbers, .ref a_t_plan, v_t_detail, v_t_keptReason, v_t_keptDetail, v_t_above, v_t_below, v_t_bestAbove, v_t_bestBelow, .ref a_t_bestPlan, .ref a_t_sort, .ref a_t_size, .ref a_t_whole, .ref a_t_parts])), (a_t_g, .inl (k 0, 221, .inl t_g))] H locs → lv_has ls 5 [(3, .int z60_3)] → W p l e ({ frames := 1, cells := 0, slots := 0, locals := 22 } : Room) s m (List.toArray [.ref a_t, .int x1]) below meth c H locs 0 0 Q (F0 m 81 ls [])) → ∀ (H : Heap) (locs : List Loc) (ls : Array Slot), HOK D A s.heap [(a_t, .inr (10, [v_t_thrown, .ref a_t_g, .ref a_t_ahead, .ref a_t_history, v_t_historyMany, .ref a_t_saved, v_t_hasSaved, .ref a_t_tape, v_t_taped, v_t_at, v_t_impossibleAt, v_t_letter, .ref a_t_numbers, .ref a_t_plan, v_t_detail, v_t_keptReason, v_t_keptDetail, v_t_above, v_t_below, v_t_bestAbove, v_t_bestBelow, .ref a_t_bestPlan, .ref a_t_sort, .ref a_t_size, .ref a_t_whole, .ref a_t_parts])), (a_t_g, .inl (k 0, 221, .inl t_g))] H locs → lv_has ls 5 [(2, .int y60_2), (3, .int y60_3), (4, .int y60_4)] → W p l e ({ frames := 1, cells := 0, slots := 0, locals := 22 } : Room) s m (List.toArray [.ref a_t, .int x1]) below meth c H locs 0 0 Q (F0 m 60 ls []) := by
    intro y60_2 n
    induction n with
    | zero =>
      intro kf y60_3 y60_4 h
      exact absurd h (by rw [fX11_communities_L60]; exact fun q => by cases q)
    | succ n ih =>
      intro kf y60_3 y60_4 h kk H locs ls hH hl
      rw [fX11_communities_L60] at h
      refine lv_iload hx hb dX11_communities_60 (lv_at hl 2 rfl) ?_
      refine lv_iconst (v := 4) hx hb dX11_communities_62 (by decide) ?_
      refine lv_icmp_ge (tgt := 81) hx hb dX11_communities_63 (by decide) (fun c6 => ?_) (fun c6 => ?_)
      · replace h := dc_pos c6 h
        exact kk y60_3 H locs ls h hH (lv_sub hl [1] rfl)
      · replace h := dc_neg c6 h
        refine lv_iload_n hx hb dX11_communities_66 rfl (lv_at hl 1 rfl) ?_
        refine lv_iload_n hx hb dX11_communities_67 rfl (lv_at hl 0 rfl) ?_
        refine lv_iload hx hb dX11_communities_68 (lv_at hl 2 rfl) ?_
        refine lv_ishr hx hb dX11_communities_70 ?_
        refine lv_iconst (v := 1) hx hb dX11_communities_71 (by decide) ?_
        refine lv_iand hx hb dX11_communities_72 ?_
        refine lv_iadd hx hb dX11_communities_73 ?_
        refine lv_istore_n (lv' := [(3, .int (y60_3 + ((y60_2 >>> (y60_4 &&& 31)) &&& (1 : Int32)))), (2, .int y60_2), (4, .int y60_4)]) hx hb dX11_communities_74 rfl hl (by decide) rfl (fun ls hl => ?_)
        refine lv_iinc (v := (y60_4 + (1 : Int32))) (lv' := [(4, .int (y60_4 + (1 : Int32))), (3, .int (y60_3 + ((y60_2 >>> (y60_4 &&& 31)) &&& (1 : Int32)))), (2, .int y60_2)]) hx hb dX11_communities_75 hl (k := 2) rfl rfl (by decide) rfl (fun ls hl => ?_)
        refine lv_goto (tgt := 60) hx hb dX11_communities_78 (by decide) ?_
        exact ih kf (y60_3 + ((y60_2 >>> (y60_4 &&& 31)) &&& (1 : Int32))) (y60_4 + (1 : Int32)) h kk H locs ls hH (lv_sub hl [2, 1, 0] rfl)
  have L4 : ∀ (n : Nat), ∀ (kf : Int32 → Option (Int32)) (y4_2 : Int32) (y4_3 : Int32), fX11_communities_L4 t_g x1 n kf y4_2 y4_3 = some r → (∀ (z4_2 : Int32) (H : Heap) (locs : List Loc) (ls : Array Slot), kf z4_2 = some r → HOK D A s.heap [(a_t, .inr (10, [v_t_thrown, .ref a_t_g, .ref a_t_ahead, .ref a_t_history, v_t_historyMany, .ref a_t_saved, v_t_hasSaved, .ref a_t_tape, v_t_taped, v_t_at, v_t_impossibleAt, v_t_letter, .ref a_t_numbers, .ref a_t_plan, v_t_detail, v_t_keptReason, v_t_keptDetail, v_t_above, v_t_below, v_t_bestAbove, v_t_bestBelow, .ref a_t_bestPlan, .ref a_t_sort, .ref a_t_size, .ref a_t_whole, .ref a_t_parts])), (a_t_g, .inl (k 0, 221, .inl t_g))] H locs → lv_has ls 5 [(2, .int z4_2)] → W p l e ({ frames := 1, cells := 0, slots := 0, locals := 22 } : Room) s m (List.toArray [.ref a_t, .int x1]) below meth c H locs 0 0 Q (F0 m 55 ls [])) → ∀ (H : Heap) (locs : List Loc) (ls : Array Slot), HOK D A s.heap [(a_t, .inr (10, [v_t_thrown, .ref a_t_g, .ref a_t_ahead, .ref a_t_history, v_t_historyMany, .ref a_t_saved, v_t_hasSaved, .ref a_t_tape, v_t_taped, v_t_at, v_t_impossibleAt, v_t_letter, .ref a_t_numbers, .ref a_t_plan, v_t_detail, v_t_keptReason, v_t_keptDetail, v_t_above, v_t_below, v_t_bestAbove, v_t_bestBelow, .ref a_t_bestPlan, .ref a_t_sort, .ref a_t_size, .ref a_t_whole, .ref a_t_parts])), (a_t_g, .inl (k 0, 221, .inl t_g))] H locs → lv_has ls 5 [(0, .ref a_t), (1, .int x1), (2, .int y4_2), (3, .int y4_3)] → W p l e ({ frames := 1, cells := 0, slots := 0, locals := 22 } : Room) s m (List.toArray [.ref a_t, .int x1]) below meth c H locs 0 0 Q (F0 m 4 ls []) := by
    intro n
    induction n with
    | zero =>
      intro kf y4_2 y4_3 h
      exact absurd h (by rw [fX11_communities_L4]; exact fun q => by cases q)
    | succ n ih =>
      intro kf y4_2 y4_3 h kk H locs ls hH hl
      rw [fX11_communities_L4] at h
      refine lv_iload_n hx hb dX11_communities_4 rfl (lv_at hl 3 rfl) ?_
      refine lv_aload_n hx hb dX11_communities_5 rfl (lv_at hl 0 rfl) ?_
      refine gk_get (ci := 10) (C := RX11) (T := TX11) (N := 26) hx hb hts u_ws_X11 hown hK hH 0 rfl rfl 1 (by decide) u_fl_X11_7 rfl dX11_communities_6 ?_
      refine lv_sipush (v := 204) hx hb dX11_communities_9 (by decide) ?_
      refine gk_iald hx hb hK hH 1 rfl (dk_in (by decide)) dX11_communities_12 ?_
      refine lv_icmp_ge (tgt := 55) hx hb dX11_communities_13 (by decide) (fun c1 => ?_) (fun c1 => ?_)
      · replace h := dc_pos c1 h
        exact kk y4_2 H locs ls h hH (lv_sub hl [2] rfl)
      · replace h := dc_neg c1 h
        refine lv_iload_n hx hb dX11_communities_16 rfl (lv_at hl 2 rfl) ?_
        refine lv_iload_n hx hb dX11_communities_17 rfl (lv_at hl 1 rfl) ?_
        refine lv_iload_n hx hb dX11_communities_18 rfl (lv_at hl 3 rfl) ?_
        refine lv_ishr hx hb dX11_communities_19 ?_
        refine lv_iconst (v := 1) hx hb dX11_communities_20 (by decide) ?_
        refine lv_iand hx hb dX11_communities_21 ?_
        refine lv_iconst (v := 1) hx hb dX11_communities_22 (by decide) ?_
        refine lv_icmp_ne (tgt := 46) hx hb dX11_communities_23 (by decide) (fun c2 => ?_) (fun c2 => ?_)
        · replace h := dc_neg c2 h
          refine lv_iconst (v := 0) hx hb dX11_communities_46 (by decide) ?_
          refine lv_ior hx hb dX11_communities_47 ?_
          refine lv_istore_n (lv' := [(2, .int (y4_2 ||| (0 : Int32))), (0, .ref a_t), (1, .int x1), (3, .int y4_3)]) hx hb dX11_communities_48 rfl hl (by decide) rfl (fun ls hl => ?_)
          refine lv_iinc (v := (y4_3 + (1 : Int32))) (lv' := [(3, .int (y4_3 + (1 : Int32))), (2, .int (y4_2 ||| (0 : Int32))), (0, .ref a_t), (1, .int x1)]) hx hb dX11_communities_49 hl (k := 3) rfl rfl (by decide) rfl (fun ls hl => ?_)
          refine lv_goto (tgt := 4) hx hb dX11_communities_52 (by decide) ?_
          exact ih kf (y4_2 ||| (0 : Int32)) (y4_3 + (1 : Int32)) h kk H locs ls hH (lv_sub hl [2, 3, 1, 0] rfl)
        · replace h := dc_pos c2 h
          refine lv_aload_n hx hb dX11_communities_26 rfl (lv_at hl 0 rfl) ?_
          refine lv_iload_n hx hb dX11_communities_27 rfl (lv_at hl 3 rfl) ?_
          refine lv_iconst (v := 2) hx hb dX11_communities_28 (by decide) ?_
          obtain ⟨q3, hqq3, h⟩ := dc_bind h
          refine gc_Vi (ws' := [(a_t, .inr (10, [v_t_thrown, .ref a_t_g, .ref a_t_ahead, .ref a_t_history, v_t_historyMany, .ref a_t_saved, v_t_hasSaved, .ref a_t_tape, v_t_taped, v_t_at, v_t_impossibleAt, v_t_letter, .ref a_t_numbers, .ref a_t_plan, v_t_detail, v_t_keptReason, v_t_keptDetail, v_t_above, v_t_below, v_t_bestAbove, v_t_bestBelow, .ref a_t_bestPlan, .ref a_t_sort, .ref a_t_size, .ref a_t_whole, .ref a_t_parts])), (a_t_g, .inl (k 0, 221, .inl t_g))]) (As := [.int y4_3, .int (2 : Int32)]) (rest := [.int y4_2]) (n := 2) (ci := 10) (cq := (RX11, TX11, 26)) hTs ⟨hx, hb, hml, hown, hts⟩ (mX11_of l Ts hTs D k H.size a_t a_t_g a_t_ahead a_t_history a_t_saved a_t_tape a_t_numbers a_t_plan a_t_bestPlan a_t_sort a_t_size a_t_whole a_t_parts t_g v_t_above v_t_at v_t_below v_t_bestAbove v_t_bestBelow v_t_detail v_t_hasSaved v_t_historyMany v_t_impossibleAt v_t_keptDetail v_t_keptReason v_t_letter v_t_taped v_t_thrown y4_3 (2 : Int32) q3 hqq3) u_ml_X11_110 u_im_X11_of u_se_X11_of u_in_X11 u_co_X11_of hd_X11_of ⟨Nat.le_of_ble_eq_true rfl, Nat.le_of_ble_eq_true rfl⟩ ⟨rfl, rfl⟩ hK hH hA (cut0 (isC := [0, 1]) rfl rfl rfl) rfl rfl rfl rfl hl.1 (Nat.le_of_ble_eq_true rfl) dX11_communities_29 ⟨Nat.le_of_ble_eq_true rfl, Nat.le_of_ble_eq_true rfl⟩ (fun H locs hH => ?_)
          refine lv_if_lt (tgt := 46) hx hb dX11_communities_32 (by decide) (fun c4 => ?_) (fun c4 => ?_)
          · replace h := dc_pos c4 h
            refine lv_iconst (v := 0) hx hb dX11_communities_46 (by decide) ?_
            refine lv_ior hx hb dX11_communities_47 ?_
            refine lv_istore_n (lv' := [(2, .int (y4_2 ||| (0 : Int32))), (0, .ref a_t), (1, .int x1), (3, .int y4_3)]) hx hb dX11_communities_48 rfl hl (by decide) rfl (fun ls hl => ?_)
            refine lv_iinc (v := (y4_3 + (1 : Int32))) (lv' := [(3, .int (y4_3 + (1 : Int32))), (2, .int (y4_2 ||| (0 : Int32))), (0, .ref a_t), (1, .int x1)]) hx hb dX11_communities_49 hl (k := 3) rfl rfl (by decide) rfl (fun ls hl => ?_)
            refine lv_goto (tgt := 4) hx hb dX11_communities_52 (by decide) ?_
            exact ih kf (y4_2 ||| (0 : Int32)) (y4_3 + (1 : Int32)) h kk H locs ls hH (lv_sub hl [2, 3, 1, 0] rfl)
          · replace h := dc_neg c4 h
            refine lv_iconst (v := 1) hx hb dX11_communities_35 (by decide) ?_
            refine lv_aload_n hx hb dX11_communities_36 rfl (lv_at hl 0 rfl) ?_
            refine lv_iload_n hx hb dX11_communities_37 rfl (lv_at hl 3 rfl) ?_
            refine lv_iconst (v := 2) hx hb dX11_communities_38 (by decide) ?_
            obtain ⟨q5, hqq5, h⟩ := dc_bind h
            refine gc_Vi (ws' := [(a_t, .inr (10, [v_t_thrown, .ref a_t_g, .ref a_t_ahead, .ref a_t_history, v_t_historyMany, .ref a_t_saved, v_t_hasSaved, .ref a_t_tape, v_t_taped, v_t_at, v_t_impossibleAt, v_t_letter, .ref a_t_numbers, .ref a_t_plan, v_t_detail, v_t_keptReason, v_t_keptDetail, v_t_above, v_t_below, v_t_bestAbove, v_t_bestBelow, .ref a_t_bestPlan, .ref a_t_sort, .ref a_t_size, .ref a_t_whole, .ref a_t_parts])), (a_t_g, .inl (k 0, 221, .inl t_g))]) (As := [.int y4_3, .int (2 : Int32)]) (rest := [.int (1 : Int32), .int y4_2]) (n := 2) (ci := 10) (cq := (RX11, TX11, 26)) hTs ⟨hx, hb, hml, hown, hts⟩ (mX11_of l Ts hTs D k H.size a_t a_t_g a_t_ahead a_t_history a_t_saved a_t_tape a_t_numbers a_t_plan a_t_bestPlan a_t_sort a_t_size a_t_whole a_t_parts t_g v_t_above v_t_at v_t_below v_t_bestAbove v_t_bestBelow v_t_detail v_t_hasSaved v_t_historyMany v_t_impossibleAt v_t_keptDetail v_t_keptReason v_t_letter v_t_taped v_t_thrown y4_3 (2 : Int32) q5 hqq5) u_ml_X11_110 u_im_X11_of u_se_X11_of u_in_X11 u_co_X11_of hd_X11_of ⟨Nat.le_of_ble_eq_true rfl, Nat.le_of_ble_eq_true rfl⟩ ⟨rfl, rfl⟩ hK hH hA (cut0 (isC := [0, 1]) rfl rfl rfl) rfl rfl rfl rfl hl.1 (Nat.le_of_ble_eq_true rfl) dX11_communities_39 ⟨Nat.le_of_ble_eq_true rfl, Nat.le_of_ble_eq_true rfl⟩ (fun H locs hH => ?_)
            refine lv_ishl hx hb dX11_communities_42 ?_
            refine lv_goto (tgt := 47) hx hb dX11_communities_43 (by decide) ?_
            refine lv_ior hx hb dX11_communities_47 ?_
            refine lv_istore_n (lv' := [(2, .int (y4_2 ||| ((1 : Int32) <<< (q5 &&& 31)))), (0, .ref a_t), (1, .int x1), (3, .int y4_3)]) hx hb dX11_communities_48 rfl hl (by decide) rfl (fun ls hl => ?_)
            refine lv_iinc (v := (y4_3 + (1 : Int32))) (lv' := [(3, .int (y4_3 + (1 : Int32))), (2, .int (y4_2 ||| ((1 : Int32) <<< (q5 &&& 31)))), (0, .ref a_t), (1, .int x1)]) hx hb dX11_communities_49 hl (k := 3) rfl rfl (by decide) rfl (fun ls hl => ?_)
            refine lv_goto (tgt := 4) hx hb dX11_communities_52 (by decide) ?_
            exact ih kf (y4_2 ||| ((1 : Int32) <<< (q5 &&& 31))) (y4_3 + (1 : Int32)) h kk H locs ls hH (lv_sub hl [2, 3, 1, 0] rfl)
  rw [fX11_communities] at h
  refine lv_iconst (v := 0) hx hb dX11_communities_0 (by decide) ?_
  refine lv_istore_n (lv' := [(2, .int (0 : Int32)), (0, .ref a_t), (1, .int x1)]) hx hb dX11_communities_1 rfl hl (by decide) rfl (fun ls hl => ?_)
  refine lv_iconst (v := 0) hx hb dX11_communities_2 (by decide) ?_
  refine lv_istore_n (lv' := [(3, .int (0 : Int32)), (2, .int (0 : Int32)), (0, .ref a_t), (1, .int x1)]) hx hb dX11_communities_3 rfl hl (by decide) rfl (fun ls hl => ?_)
  refine L4 _ _ (0 : Int32) (0 : Int32) h (fun z4_2 H locs ls h hH hl => ?_) H locs ls hH (lv_sub hl [2, 3, 1, 0] rfl)
  refine lv_iconst (v := 0) hx hb dX11_communities_55 (by decide) ?_
  refine lv_istore_n (lv' := [(3, .int (0 : Int32)), (2, .int z4_2)]) hx hb dX11_communities_56 rfl hl (by decide) rfl (fun ls hl => ?_)
  refine lv_iconst (v := 0) hx hb dX11_communities_57 (by decide) ?_
  refine lv_istore (lv' := [(4, .int (0 : Int32)), (3, .int (0 : Int32)), (2, .int z4_2)]) hx hb dX11_communities_58 hl (by decide) rfl (fun ls hl => ?_)
  refine L60 z4_2 _ _ (0 : Int32) (0 : Int32) h (fun z60_3 H locs ls h hH hl => ?_) H locs ls hH (lv_sub hl [2, 1, 0] rfl)
  refine lv_iload_n hx hb dX11_communities_81 rfl (lv_at hl 0 rfl) ?_
  have h := Option.some.inj h
  subst h
  exact ge_i hx hb hr hlocks hQ hK hH hAe rfl dX11_communities_82
