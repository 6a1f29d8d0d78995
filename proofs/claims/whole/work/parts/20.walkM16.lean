theorem hd_X11_meanCompactness : yX11_meanCompactness.cls = RX11 ∧ yX11_meanCompactness.cls ≠ "java/lang/invoke/MethodHandle" ∧ yX11_meanCompactness.cls ≠ "java/lang/invoke/VarHandle" ∧ (parseMethodDescriptor yX11_meanCompactness.desc).map (fun d => d.parameters.length) = some 0 := by decide +kernel
set_option maxHeartbeats 4000000 in
set_option maxRecDepth 100000 in
theorem mX11_meanCompactness (l : Launch) (Ts : List Cond) (hTs : ∀ w, w ∈ Ts ↔ w ∈ uT) (D : va_G) (k : Nat → ClassId) (sz : Nat) (a_t : Nat) (a_t_g : Nat) (a_t_ahead : Nat) (a_t_history : Nat) (a_t_saved : Nat) (a_t_tape : Nat) (a_t_numbers : Nat) (a_t_plan : Nat) (a_t_bestPlan : Nat) (a_t_sort : Nat) (a_t_size : Nat) (a_t_whole : Nat) (a_t_parts : Nat) (t_g : Nat → Int32) (t_plan : Nat → Int32) (v_t_above : Value) (v_t_at : Value) (v_t_below : Value) (v_t_bestAbove : Value) (v_t_bestBelow : Value) (v_t_detail : Value) (v_t_hasSaved : Value) (v_t_historyMany : Value) (v_t_impossibleAt : Value) (v_t_keptDetail : Value) (v_t_keptReason : Value) (v_t_letter : Value) (v_t_taped : Value) (v_t_thrown : Value) (r : UInt32 × (Nat → Int32) × Int32) (h : fX11_meanCompactness t_g t_plan = some r) : Met l yX11_meanCompactness (Cond.code yX11_meanCompactness cX11_meanCompactness 3 (some .float) :: Ts) ({ frames := 4, cells := 0, slots := 0, locals := 92 } : Room) (preM D k [.ref a_t] [(a_t, .inr (10, [v_t_thrown, .ref a_t_g, .ref a_t_ahead, .ref a_t_history, v_t_historyMany, .ref a_t_saved, v_t_hasSaved, .ref a_t_tape, v_t_taped, v_t_at, v_t_impossibleAt, v_t_letter, .ref a_t_numbers, .ref a_t_plan, v_t_detail, v_t_keptReason, v_t_keptDetail, v_t_above, v_t_below, v_t_bestAbove, v_t_bestBelow, .ref a_t_bestPlan, .ref a_t_sort, .ref a_t_size, .ref a_t_whole, .ref a_t_parts])), (a_t_g, .inl (k 0, 221, .inl t_g)), (a_t_plan, .inl (k 0, 12, .inl t_plan))] sz) (postF D k r.1 [(a_t, .inr (10, [v_t_thrown, .ref a_t_g, .ref a_t_ahead, .ref a_t_history, v_t_historyMany, .ref a_t_saved, v_t_hasSaved, .ref a_t_tape, v_t_taped, v_t_at, v_t_impossibleAt, v_t_letter, .ref a_t_numbers, .ref a_t_plan, v_t_detail, v_t_keptReason, v_t_keptDetail, v_t_above, v_t_below, v_t_bestAbove, v_t_bestBelow, .ref a_t_bestPlan, .ref a_t_sort, .ref a_t_size, .ref a_t_whole, .ref a_t_parts])), (a_t_g, .inl (k 0, 221, .inl t_g)), (a_t_plan, .inl (k 0, 12, .inl t_plan))] [(a_t, .inr (10, [.int r.2.2, .ref a_t_g, .ref a_t_ahead, .ref a_t_history, v_t_historyMany, .ref a_t_saved, v_t_hasSaved, .ref a_t_tape, v_t_taped, v_t_at, v_t_impossibleAt, v_t_letter, .ref a_t_numbers, .ref a_t_plan, v_t_detail, v_t_keptReason, v_t_keptDetail, v_t_above, v_t_below, v_t_bestAbove, v_t_bestBelow, .ref a_t_bestPlan, .ref a_t_sort, .ref a_t_size, .ref a_t_whole, .ref a_t_parts])), (a_t_g, .inl (k 0, 221, .inl t_g)), (a_t_plan, .inl (k 0, 12, .inl r.2.1))] sz) 0 0 (va_A [(a_t, .inr (10, [v_t_thrown, .ref a_t_g, .ref a_t_ahead, .ref a_t_history, v_t_historyMany, .ref a_t_saved, v_t_hasSaved, .ref a_t_tape, v_t_taped, v_t_at, v_t_impossibleAt, v_t_letter, .ref a_t_numbers, .ref a_t_plan, v_t_detail, v_t_keptReason, v_t_keptDetail, v_t_above, v_t_below, v_t_bestAbove, v_t_bestBelow, .ref a_t_bestPlan, .ref a_t_sort, .ref a_t_size, .ref a_t_whole, .ref a_t_parts])), (a_t_g, .inl (k 0, 221, .inl t_g)), (a_t_plan, .inl (k 0, 12, .inl t_plan))] sz) := by
  refine Met.ofW (cc := cX11_meanCompactness) (maxL := 3) (ret := (some .float)) (by decide) rfl ?_
  intro p e s m args below meth c s₁ B hml hv
  obtain ⟨rfl, hsz, hP, hK, hD0⟩ := hv
  have hx := B.exec
  have hb := B.bytes
  have hr := B.returns
  have hts0 := atoms_spec (ws := (Cond.code yX11_meanCompactness cX11_meanCompactness 3 (some .float) :: Ts)) B.pre
  have hts : ∀ w ∈ uT, w.before _ s = true := fun w h => hts0 w (List.mem_cons_of_mem _ ((hTs w).mpr h))
  clear hts0
  have hown : s.vm.findClass RX11 = some m.cls := findClass_of_methodNamed B.named
  have hlocks := B.notSynchronized
  subst hsz
  have hD := hD0.self (sz := s.heap.size)
  generalize hAe : va_A [(a_t, .inr (10, [v_t_thrown, .ref a_t_g, .ref a_t_ahead, .ref a_t_history, v_t_historyMany, .ref a_t_saved, v_t_hasSaved, .ref a_t_tape, v_t_taped, v_t_at, v_t_impossibleAt, v_t_letter, .ref a_t_numbers, .ref a_t_plan, v_t_detail, v_t_keptReason, v_t_keptDetail, v_t_above, v_t_below, v_t_bestAbove, v_t_bestBelow, .ref a_t_bestPlan, .ref a_t_sort, .ref a_t_size, .ref a_t_whole, .ref a_t_parts])), (a_t_g, .inl (k 0, 221, .inl t_g)), (a_t_plan, .inl (k 0, 12, .inl t_plan))] s.heap.size = A at hD ⊢
  have hA : ∀ q : Nat, s.heap.size ≤ q → A q := fun q h => by rw [← hAe]; exact Or.inr h
  have hH : HOK D A s.heap [(a_t, .inr (10, [v_t_thrown, .ref a_t_g, .ref a_t_ahead, .ref a_t_history, v_t_historyMany, .ref a_t_saved, v_t_hasSaved, .ref a_t_tape, v_t_taped, v_t_at, v_t_impossibleAt, v_t_letter, .ref a_t_numbers, .ref a_t_plan, v_t_detail, v_t_keptReason, v_t_keptDetail, v_t_above, v_t_below, v_t_bestAbove, v_t_bestBelow, .ref a_t_bestPlan, .ref a_t_sort, .ref a_t_size, .ref a_t_whole, .ref a_t_parts])), (a_t_g, .inl (k 0, 221, .inl t_g)), (a_t_plan, .inl (k 0, 12, .inl t_plan))] s.heap [] := ⟨hP, hD, va_S.rf⟩
  have hl := lv_entry ([.ref a_t]) (n := 3) (Nat.le_of_ble_eq_true rfl)
  rw [lg_entry_eq]
  generalize (lg_sl ([.ref a_t]) ++ List.replicate (3 - (lg_sl ([.ref a_t])).length) Slot.unset).toArray = ls at hl ⊢
  have hl : lv_has ls 3 [(0, .ref a_t)] := hl
  generalize hQ : MQ below (postF D k r.1 [(a_t, .inr (10, [v_t_thrown, .ref a_t_g, .ref a_t_ahead, .ref a_t_history, v_t_historyMany, .ref a_t_saved, v_t_hasSaved, .ref a_t_tape, v_t_taped, v_t_at, v_t_impossibleAt, v_t_letter, .ref a_t_numbers, .ref a_t_plan, v_t_detail, v_t_keptReason, v_t_keptDetail, v_t_above, v_t_below, v_t_bestAbove, v_t_bestBelow, .ref a_t_bestPlan, .ref a_t_sort, .ref a_t_size, .ref a_t_whole, .ref a_t_parts])), (a_t_g, .inl (k 0, 221, .inl t_g)), (a_t_plan, .inl (k 0, 12, .inl t_plan))] [(a_t, .inr (10, [.int r.2.2, .ref a_t_g, .ref a_t_ahead, .ref a_t_history, v_t_historyMany, .ref a_t_saved, v_t_hasSaved, .ref a_t_tape, v_t_taped, v_t_at, v_t_impossibleAt, v_t_letter, .ref a_t_numbers, .ref a_t_plan, v_t_detail, v_t_keptReason, v_t_keptDetail, v_t_above, v_t_below, v_t_bestAbove, v_t_bestBelow, .ref a_t_bestPlan, .ref a_t_sort, .ref a_t_size, .ref a_t_whole, .ref a_t_parts])), (a_t_g, .inl (k 0, 221, .inl t_g)), (a_t_plan, .inl (k 0, 12, .inl r.2.1))] s.heap.size) (List.toArray [.ref a_t]) s 0 0 A = Q
  clear hP hD hD0
  suffices K : ∀ (H : Heap) (locs : List Loc), HOK D A s.heap [(a_t, .inr (10, [v_t_thrown, .ref a_t_g, .ref a_t_ahead, .ref a_t_history, v_t_historyMany, .ref a_t_saved, v_t_hasSaved, .ref a_t_tape, v_t_taped, v_t_at, v_t_impossibleAt, v_t_letter, .ref a_t_numbers, .ref a_t_plan, v_t_detail, v_t_keptReason, v_t_keptDetail, v_t_above, v_t_below, v_t_bestAbove, v_t_bestBelow, .ref a_t_bestPlan, .ref a_t_sort, .ref a_t_size, .ref a_t_whole, .ref a_t_parts])), (a_t_g, .inl (k 0, 221, .inl t_g)), (a_t_plan, .inl (k 0, 12, .inl t_plan))] H locs → W p l e ({ frames := 4, cells := 0, slots := 0, locals := 92 } : Room) s m (List.toArray [.ref a_t]) below meth c H locs 0 0 Q (F0 m 0 ls []) from K s.heap [] hH
  intro H locs hH
  have L37 : ∀ (y37_t_plan : Nat → Int32) (y37_t_thrown : Int32) (n : Nat), ∀ (kf : UInt32 → Option (UInt32 × (Nat → Int32) × Int32)) (y37_1 : UInt32) (y37_2 : Int32), fX11_meanCompactness_L37 t_g y37_t_plan y37_t_thrown n kf y37_1 y37_2 = some r → (∀ (z37_1 : UInt32) (H : Heap) (locs : List Loc) (ls : Array Slot), kf z37_1 = some r → HOK D A s.heap [(a_t, .inr (10, [.int y37_t_thrown, .ref a_t_g, .ref a_t_ahead, .ref a_t_history, v_t_historyMany, .ref a_t_saved, v_t_hasSaved, .ref a_t_tape, v_t_taped, v_t_at, v_t_impossibleAt, v_t_letter, .ref a_t_numbers, .ref a_t_plan, v_t_detail, v_t_keptReason, v_t_keptDetail, v_t_above, v_t_below, v_t_bestAbove, v_t_bestBelow, .ref a_t_bestPlan, .ref a_t_sort, .ref a_t_size, .ref a_t_whole, .ref a_t_parts])), (a_t_g, .inl (k 0, 221, .inl t_g)), (a_t_plan, .inl (k 0, 12, .inl y37_t_plan))] H locs → lv_has ls 3 [(0, .ref a_t), (1, .float z37_1)] → W p l e ({ frames := 4, cells := 0, slots := 0, locals := 92 } : Room) s m (List.toArray [.ref a_t]) below meth c H locs 0 0 Q (F0 m 63 ls [])) → ∀ (H : Heap) (locs : List Loc) (ls : Array Slot), HOK D A s.heap [(a_t, .inr (10, [.int y37_t_thrown, .ref a_t_g, .ref a_t_ahead, .ref a_t_history, v_t_historyMany, .ref a_t_saved, v_t_hasSaved, .ref a_t_tape, v_t_taped, v_t_at, v_t_impossibleAt, v_t_letter, .ref a_t_numbers, .ref a_t_plan, v_t_detail, v_t_keptReason, v_t_keptDetail, v_t_above, v_t_below, v_t_bestAbove, v_t_bestBelow, .ref a_t_bestPlan, .ref a_t_sort, .ref a_t_size, .ref a_t_whole, .ref a_t_parts])), (a_t_g, .inl (k 0, 221, .inl t_g)), (a_t_plan, .inl (k 0, 12, .inl y37_t_plan))] H locs → lv_has ls 3 [(0, .ref a_t), (1, .float y37_1), (2, .int y37_2)] → W p l e ({ frames := 4, cells := 0, slots := 0, locals := 92 } : Room) s m (List.toArray [.ref a_t]) below meth c H locs 0 0 Q (F0 m 37 ls []) := by
    intro y37_t_plan y37_t_thrown n
    induction n with
    | zero =>
      intro kf y37_1 y37_2 h
      exact absurd h (by rw [fX11_meanCompactness_L37]; exact fun q => by cases q)
    | succ n ih =>
      intro kf y37_1 y37_2 h kk H locs ls hH hl
      rw [fX11_meanCompactness_L37] at h
      refine lv_iload_n hx hb dX11_meanCompactness_37 rfl (lv_at hl 2 rfl) ?_
      refine lv_aload_n hx hb dX11_meanCompactness_38 rfl (lv_at hl 0 rfl) ?_
      refine gk_get (ci := 10) (C := RX11) (T := TX11) (N := 26) hx hb hts u_ws_X11 hown hK hH 0 rfl rfl 1 (by decide) u_fl_X11_7 rfl dX11_meanCompactness_39 ?_
      refine lv_sipush (v := 205) hx hb dX11_meanCompactness_42 (by decide) ?_
      refine gk_iald hx hb hK hH 1 rfl (dk_in (by decide)) dX11_meanCompactness_45 ?_
      refine lv_icmp_ge (tgt := 63) hx hb dX11_meanCompactness_46 (by decide) (fun c3 => ?_) (fun c3 => ?_)
      · replace h := dc_pos c3 h
        exact kk y37_1 H locs ls h hH (lv_sub hl [0, 1] rfl)
      · replace h := dc_neg c3 h
        refine lv_fload_n hx hb dX11_meanCompactness_49 rfl (lv_at hl 1 rfl) ?_
        refine lv_aload_n hx hb dX11_meanCompactness_50 rfl (lv_at hl 0 rfl) ?_
        refine lv_iload_n hx hb dX11_meanCompactness_51 rfl (lv_at hl 2 rfl) ?_
        obtain ⟨q4, hqq4, h⟩ := dc_bind h
        refine gc_Vf (ws' := [(a_t, .inr (10, [.int y37_t_thrown, .ref a_t_g, .ref a_t_ahead, .ref a_t_history, v_t_historyMany, .ref a_t_saved, v_t_hasSaved, .ref a_t_tape, v_t_taped, v_t_at, v_t_impossibleAt, v_t_letter, .ref a_t_numbers, .ref a_t_plan, v_t_detail, v_t_keptReason, v_t_keptDetail, v_t_above, v_t_below, v_t_bestAbove, v_t_bestBelow, .ref a_t_bestPlan, .ref a_t_sort, .ref a_t_size, .ref a_t_whole, .ref a_t_parts])), (a_t_g, .inl (k 0, 221, .inl t_g)), (a_t_plan, .inl (k 0, 12, .inl y37_t_plan))]) (As := [.int y37_2]) (rest := [.float y37_1]) (n := 1) (ci := 10) (cq := (RX11, TX11, 26)) hTs ⟨hx, hb, hml, hown, hts⟩ (mX11_compactness l Ts hTs D k H.size a_t a_t_g a_t_ahead a_t_history a_t_saved a_t_tape a_t_numbers a_t_plan a_t_bestPlan a_t_sort a_t_size a_t_whole a_t_parts t_g y37_t_plan v_t_above v_t_at v_t_below v_t_bestAbove v_t_bestBelow v_t_detail v_t_hasSaved v_t_historyMany v_t_impossibleAt v_t_keptDetail v_t_keptReason v_t_letter v_t_taped (.int y37_t_thrown) y37_2 q4 hqq4) u_ml_X11_205 u_im_X11_compactness u_se_X11_compactness u_in_X11 u_co_X11_compactness hd_X11_compactness ⟨Nat.le_of_ble_eq_true rfl, Nat.le_of_ble_eq_true rfl⟩ ⟨rfl, rfl⟩ hK hH hA (cut0 (isC := [0, 1, 2]) rfl rfl rfl) rfl rfl rfl rfl hl.1 (Nat.le_of_ble_eq_true rfl) dX11_meanCompactness_52 ⟨Nat.le_of_ble_eq_true rfl, Nat.le_of_ble_eq_true rfl⟩ (fun H locs hH => ?_)
        obtain ⟨g5, h⟩ := dc_need h
        refine lv_fadd hx hb dX11_meanCompactness_55 g5 ?_
        refine lv_fstore_n (lv' := [(1, .float (FP.fadd y37_1 q4)), (0, .ref a_t), (2, .int y37_2)]) hx hb dX11_meanCompactness_56 rfl hl (by decide) rfl (fun ls hl => ?_)
        refine lv_iinc (v := (y37_2 + (1 : Int32))) (lv' := [(2, .int (y37_2 + (1 : Int32))), (1, .float (FP.fadd y37_1 q4)), (0, .ref a_t)]) hx hb dX11_meanCompactness_57 hl (k := 2) rfl rfl (by decide) rfl (fun ls hl => ?_)
        refine lv_goto (tgt := 37) hx hb dX11_meanCompactness_60 (by decide) ?_
        exact ih kf (FP.fadd y37_1 q4) (y37_2 + (1 : Int32)) h kk H locs ls hH (lv_sub hl [2, 1, 0] rfl)
  rw [fX11_meanCompactness] at h
  refine lv_aload_n hx hb dX11_meanCompactness_0 rfl (lv_at hl 0 rfl) ?_
  refine lv_aload_n hx hb dX11_meanCompactness_1 rfl (lv_at hl 0 rfl) ?_
  refine gk_get (ci := 10) (C := RX11) (T := TX11) (N := 26) hx hb hts u_ws_X11 hown hK hH 0 rfl rfl 1 (by decide) u_fl_X11_7 rfl dX11_meanCompactness_2 ?_
  refine lv_sipush (v := 219) hx hb dX11_meanCompactness_5 (by decide) ?_
  refine gk_iald hx hb hK hH 1 rfl (dk_in (by decide)) dX11_meanCompactness_8 ?_
  refine lv_if_ne (tgt := 16) hx hb dX11_meanCompactness_9 (by decide) (fun c1 => ?_) (fun c1 => ?_)
  · replace h := dc_neg c1 h
    refine lv_iconst (v := 0) hx hb dX11_meanCompactness_16 (by decide) ?_
    refine gk_put (ci := 10) (C := RX11) (T := TX11) (N := 26) hx hb hts u_ws_X11 tyX11_ok nmX11 hown hK hH 0 rfl rfl 0 (by decide) u_fl_X11_52 rfl rfl rfl (Nat.le_of_ble_eq_true rfl) dX11_meanCompactness_17 [(a_t, .inr (10, [.int (0 : Int32), .ref a_t_g, .ref a_t_ahead, .ref a_t_history, v_t_historyMany, .ref a_t_saved, v_t_hasSaved, .ref a_t_tape, v_t_taped, v_t_at, v_t_impossibleAt, v_t_letter, .ref a_t_numbers, .ref a_t_plan, v_t_detail, v_t_keptReason, v_t_keptDetail, v_t_above, v_t_below, v_t_bestAbove, v_t_bestBelow, .ref a_t_bestPlan, .ref a_t_sort, .ref a_t_size, .ref a_t_whole, .ref a_t_parts])), (a_t_g, .inl (k 0, 221, .inl t_g)), (a_t_plan, .inl (k 0, 12, .inl t_plan))] rfl (fun H locs hH => ?_)
    refine lv_aload_n hx hb dX11_meanCompactness_20 rfl (lv_at hl 0 rfl) ?_
    refine gk_get (ci := 10) (C := RX11) (T := TX11) (N := 26) hx hb hts u_ws_X11 hown hK hH 0 rfl rfl 0 (by decide) u_fl_X11_52 rfl dX11_meanCompactness_21 ?_
    refine lv_if_eq (tgt := 29) hx hb dX11_meanCompactness_24 (by decide) (fun _ => ?_) (fun c => absurd c (by decide))
    refine lv_aload_n hx hb dX11_meanCompactness_29 rfl (lv_at hl 0 rfl) ?_
    obtain ⟨q2, hqq2, h⟩ := dc_bind h
    refine gc_Vv (ws' := [(a_t, .inr (10, [.int (0 : Int32), .ref a_t_g, .ref a_t_ahead, .ref a_t_history, v_t_historyMany, .ref a_t_saved, v_t_hasSaved, .ref a_t_tape, v_t_taped, v_t_at, v_t_impossibleAt, v_t_letter, .ref a_t_numbers, .ref a_t_plan, v_t_detail, v_t_keptReason, v_t_keptDetail, v_t_above, v_t_below, v_t_bestAbove, v_t_bestBelow, .ref a_t_bestPlan, .ref a_t_sort, .ref a_t_size, .ref a_t_whole, .ref a_t_parts])), (a_t_g, .inl (k 0, 221, .inl t_g)), (a_t_plan, .inl (k 0, 12, .inl q2))]) (As := []) (rest := []) (n := 0) (ci := 10) (cq := (RX11, TX11, 26)) hTs ⟨hx, hb, hml, hown, hts⟩ (mX11_tells l Ts hTs D k H.size a_t a_t_g a_t_ahead a_t_history a_t_saved a_t_tape a_t_numbers a_t_plan a_t_bestPlan a_t_sort a_t_size a_t_whole a_t_parts t_g t_plan v_t_above v_t_at v_t_below v_t_bestAbove v_t_bestBelow v_t_detail v_t_hasSaved v_t_historyMany v_t_impossibleAt v_t_keptDetail v_t_keptReason v_t_letter v_t_taped (.int (0 : Int32)) q2 hqq2) u_ml_X11_164 u_im_X11_tells u_se_X11_tells u_in_X11 u_co_X11_tells hd_X11_tells ⟨Nat.le_of_ble_eq_true rfl, Nat.le_of_ble_eq_true rfl⟩ ⟨rfl, rfl⟩ hK hH hA (cutM (isC := [0, 1, 2]) [some 0, some 1, some 2] 3 rfl rfl rfl rfl rfl rfl rfl) rfl rfl rfl rfl hl.1 (Nat.le_of_ble_eq_true rfl) dX11_meanCompactness_30 ⟨Nat.le_of_ble_eq_true rfl, Nat.le_of_ble_eq_true rfl⟩ (fun H locs hH => ?_)
    refine lv_fconst0 hx hb dX11_meanCompactness_33 ?_
    refine lv_fstore_n (lv' := [(1, .float FP.fconst0), (0, .ref a_t)]) hx hb dX11_meanCompactness_34 rfl hl (by decide) rfl (fun ls hl => ?_)
    refine lv_iconst (v := 0) hx hb dX11_meanCompactness_35 (by decide) ?_
    refine lv_istore_n (lv' := [(2, .int (0 : Int32)), (1, .float FP.fconst0), (0, .ref a_t)]) hx hb dX11_meanCompactness_36 rfl hl (by decide) rfl (fun ls hl => ?_)
    refine L37 q2 (0 : Int32) _ _ FP.fconst0 (0 : Int32) h (fun z37_1 H locs ls h hH hl => ?_) H locs ls hH (lv_sub hl [2, 1, 0] rfl)
    refine lv_fload_n hx hb dX11_meanCompactness_63 rfl (lv_at hl 1 rfl) ?_
    refine lv_aload_n hx hb dX11_meanCompactness_64 rfl (lv_at hl 0 rfl) ?_
    refine gk_get (ci := 10) (C := RX11) (T := TX11) (N := 26) hx hb hts u_ws_X11 hown hK hH 0 rfl rfl 1 (by decide) u_fl_X11_7 rfl dX11_meanCompactness_65 ?_
    refine lv_sipush (v := 205) hx hb dX11_meanCompactness_68 (by decide) ?_
    refine gk_iald hx hb hK hH 1 rfl (dk_in (by decide)) dX11_meanCompactness_71 ?_
    refine lv_i2f hx hb dX11_meanCompactness_72 ?_
    obtain ⟨g6, h⟩ := dc_need h
    refine lv_fdiv hx hb dX11_meanCompactness_73 g6 ?_
    have h := Option.some.inj h
    subst h
    exact ge_f hx hb hr hlocks hQ hK hH hAe rfl dX11_meanCompactness_74
  · replace h := dc_pos c1 h
    refine lv_iconst (v := 1) hx hb dX11_meanCompactness_12 (by decide) ?_
    refine lv_goto (tgt := 17) hx hb dX11_meanCompactness_13 (by decide) ?_
    refine gk_put (ci := 10) (C := RX11) (T := TX11) (N := 26) hx hb hts u_ws_X11 tyX11_ok nmX11 hown hK hH 0 rfl rfl 0 (by decide) u_fl_X11_52 rfl rfl rfl (Nat.le_of_ble_eq_true rfl) dX11_meanCompactness_17 [(a_t, .inr (10, [.int (1 : Int32), .ref a_t_g, .ref a_t_ahead, .ref a_t_history, v_t_historyMany, .ref a_t_saved, v_t_hasSaved, .ref a_t_tape, v_t_taped, v_t_at, v_t_impossibleAt, v_t_letter, .ref a_t_numbers, .ref a_t_plan, v_t_detail, v_t_keptReason, v_t_keptDetail, v_t_above, v_t_below, v_t_bestAbove, v_t_bestBelow, .ref a_t_bestPlan, .ref a_t_sort, .ref a_t_size, .ref a_t_whole, .ref a_t_parts])), (a_t_g, .inl (k 0, 221, .inl t_g)), (a_t_plan, .inl (k 0, 12, .inl t_plan))] rfl (fun H locs hH => ?_)
    refine lv_aload_n hx hb dX11_meanCompactness_20 rfl (lv_at hl 0 rfl) ?_
    refine gk_get (ci := 10) (C := RX11) (T := TX11) (N := 26) hx hb hts u_ws_X11 hown hK hH 0 rfl rfl 0 (by decide) u_fl_X11_52 rfl dX11_meanCompactness_21 ?_
    refine lv_if_eq (tgt := 29) hx hb dX11_meanCompactness_24 (by decide) (fun c => absurd c (by decide)) (fun _ => ?_)
    refine lv_fconst0 hx hb dX11_meanCompactness_27 ?_
    have h := Option.some.inj h
    subst h
    exact ge_f hx hb hr hlocks hQ hK hH hAe rfl dX11_meanCompactness_28
theorem hd_X11_isBetter : yX11_isBetter.cls = RX11 ∧ yX11_isBetter.cls ≠ "java/lang/invoke/MethodHandle" ∧ yX11_isBetter.cls ≠ "java/lang/invoke/VarHandle" ∧ (parseMethodDescriptor yX11_isBetter.desc).map (fun d => d.parameters.length) = some 1 := by decide +kernel
set_option maxHeartbeats 4000000 in
set_option maxRecDepth 100000 in
theorem mX11_isBetter (l : Launch) (Ts : List Cond) (hTs : ∀ w, w ∈ Ts ↔ w ∈ uT) (D : va_G) (k : Nat → ClassId) (sz : Nat) (a_t : Nat) (a_t_g : Nat) (a_t_ahead : Nat) (a_t_history : Nat) (a_t_saved : Nat) (a_t_tape : Nat) (a_t_numbers : Nat) (a_t_plan : Nat) (a_t_bestPlan : Nat) (a_t_sort : Nat) (a_t_size : Nat) (a_t_whole : Nat) (a_t_parts : Nat) (t_above : Int64) (t_bestAbove : Int64) (t_bestBelow : Int64) (t_g : Nat → Int32) (t_plan : Nat → Int32) (v_t_at : Value) (v_t_below : Value) (v_t_detail : Value) (v_t_hasSaved : Value) (v_t_historyMany : Value) (v_t_impossibleAt : Value) (v_t_keptDetail : Value) (v_t_keptReason : Value) (v_t_letter : Value) (v_t_taped : Value) (v_t_thrown : Value) (x1 : Int32) (r : Int32 × Int64 × Int64) (h : fX11_isBetter t_above t_bestAbove t_bestBelow t_g t_plan x1 = some r) : Met l yX11_isBetter (Cond.code yX11_isBetter cX11_isBetter 6 (some .boolean) :: Ts) ({ frames := 5, cells := 0, slots := 0, locals := 119 } : Room) (preM D k [.ref a_t, .int x1] [(a_t, .inr (10, [v_t_thrown, .ref a_t_g, .ref a_t_ahead, .ref a_t_history, v_t_historyMany, .ref a_t_saved, v_t_hasSaved, .ref a_t_tape, v_t_taped, v_t_at, v_t_impossibleAt, v_t_letter, .ref a_t_numbers, .ref a_t_plan, v_t_detail, v_t_keptReason, v_t_keptDetail, .long t_above, v_t_below, .long t_bestAbove, .long t_bestBelow, .ref a_t_bestPlan, .ref a_t_sort, .ref a_t_size, .ref a_t_whole, .ref a_t_parts])), (a_t_g, .inl (k 0, 221, .inl t_g)), (a_t_plan, .inl (k 0, 12, .inl t_plan))] sz) (postI D k r.1 [(a_t, .inr (10, [v_t_thrown, .ref a_t_g, .ref a_t_ahead, .ref a_t_history, v_t_historyMany, .ref a_t_saved, v_t_hasSaved, .ref a_t_tape, v_t_taped, v_t_at, v_t_impossibleAt, v_t_letter, .ref a_t_numbers, .ref a_t_plan, v_t_detail, v_t_keptReason, v_t_keptDetail, .long t_above, v_t_below, .long t_bestAbove, .long t_bestBelow, .ref a_t_bestPlan, .ref a_t_sort, .ref a_t_size, .ref a_t_whole, .ref a_t_parts])), (a_t_g, .inl (k 0, 221, .inl t_g)), (a_t_plan, .inl (k 0, 12, .inl t_plan))] [(a_t, .inr (10, [v_t_thrown, .ref a_t_g, .ref a_t_ahead, .ref a_t_history, v_t_historyMany, .ref a_t_saved, v_t_hasSaved, .ref a_t_tape, v_t_taped, v_t_at, v_t_impossibleAt, v_t_letter, .ref a_t_numbers, .ref a_t_plan, v_t_detail, v_t_keptReason, v_t_keptDetail, .long r.2.1, .long r.2.2, .long t_bestAbove, .long t_bestBelow, .ref a_t_bestPlan, .ref a_t_sort, .ref a_t_size, .ref a_t_whole, .ref a_t_parts])), (a_t_g, .inl (k 0, 221, .inl t_g)), (a_t_plan, .inl (k 0, 12, .inl t_plan))] sz) 0 0 (va_A [(a_t, .inr (10, [v_t_thrown, .ref a_t_g, .ref a_t_ahead, .ref a_t_history, v_t_historyMany, .ref a_t_saved, v_t_hasSaved, .ref a_t_tape, v_t_taped, v_t_at, v_t_impossibleAt, v_t_letter, .ref a_t_numbers, .ref a_t_plan, v_t_detail, v_t_keptReason, v_t_keptDetail, .long t_above, v_t_below, .long t_bestAbove, .long t_bestBelow, .ref a_t_bestPlan, .ref a_t_sort, .ref a_t_size, .ref a_t_whole, .ref a_t_parts])), (a_t_g, .inl (k 0, 221, .inl t_g)), (a_t_plan, .inl (k 0, 12, .inl t_plan))] sz) := by
  refine Met.ofW (cc := cX11_isBetter) (maxL := 6) (ret := (some .boolean)) (by decide) rfl ?_
  intro p e s m args below meth c s₁ B hml hv
  obtain ⟨rfl, hsz, hP, hK, hD0⟩ := hv
  have hx := B.exec
  have hb := B.bytes
  have hr := B.returns
  have hts0 := atoms_spec (ws := (Cond.code yX11_isBetter cX11_isBetter 6 (some .boolean) :: Ts)) B.pre
  have hts : ∀ w ∈ uT, w.before _ s = true := fun w h => hts0 w (List.mem_cons_of_mem _ ((hTs w).mpr h))
  clear hts0
  have hown : s.vm.findClass RX11 = some m.cls := findClass_of_methodNamed B.named
  have hlocks := B.notSynchronized
  subst hsz
  have hD := hD0.self (sz := s.heap.size)
  generalize hAe : va_A [(a_t, .inr (10, [v_t_thrown, .ref a_t_g, .ref a_t_ahead, .ref a_t_history, v_t_historyMany, .ref a_t_saved, v_t_hasSaved, .ref a_t_tape, v_t_taped, v_t_at, v_t_impossibleAt, v_t_letter, .ref a_t_numbers, .ref a_t_plan, v_t_detail, v_t_keptReason, v_t_keptDetail, .long t_above, v_t_below, .long t_bestAbove, .long t_bestBelow, .ref a_t_bestPlan, .ref a_t_sort, .ref a_t_size, .ref a_t_whole, .ref a_t_parts])), (a_t_g, .inl (k 0, 221, .inl t_g)), (a_t_plan, .inl (k 0, 12, .inl t_plan))] s.heap.size = A at hD ⊢
  have hA : ∀ q : Nat, s.heap.size ≤ q → A q := fun q h => by rw [← hAe]; exact Or.inr h
  have hH : HOK D A s.heap [(a_t, .inr (10, [v_t_thrown, .ref a_t_g, .ref a_t_ahead, .ref a_t_history, v_t_historyMany, .ref a_t_saved, v_t_hasSaved, .ref a_t_tape, v_t_taped, v_t_at, v_t_impossibleAt, v_t_letter, .ref a_t_numbers, .ref a_t_plan, v_t_detail, v_t_keptReason, v_t_keptDetail, .long t_above, v_t_below, .long t_bestAbove, .long t_bestBelow, .ref a_t_bestPlan, .ref a_t_sort, .ref a_t_size, .ref a_t_whole, .ref a_t_parts])), (a_t_g, .inl (k 0, 221, .inl t_g)), (a_t_plan, .inl (k 0, 12, .inl t_plan))] s.heap [] := ⟨hP, hD, va_S.rf⟩
  have hl := lv_entry ([.ref a_t, .int x1]) (n := 6) (Nat.le_of_ble_eq_true rfl)
  rw [lg_entry_eq]
  generalize (lg_sl ([.ref a_t, .int x1]) ++ List.replicate (6 - (lg_sl ([.ref a_t, .int x1])).length) Slot.unset).toArray = ls at hl ⊢
  have hl : lv_has ls 6 [(0, .ref a_t), (1, .int x1)] := hl
  generalize hQ : MQ below (postI D k r.1 [(a_t, .inr (10, [v_t_thrown, .ref a_t_g, .ref a_t_ahead, .ref a_t_history, v_t_historyMany, .ref a_t_saved, v_t_hasSaved, .ref a_t_tape, v_t_taped, v_t_at, v_t_impossibleAt, v_t_letter, .ref a_t_numbers, .ref a_t_plan, v_t_detail, v_t_keptReason, v_t_keptDetail, .long t_above, v_t_below, .long t_bestAbove, .long t_bestBelow, .ref a_t_bestPlan, .ref a_t_sort, .ref a_t_size, .ref a_t_whole, .ref a_t_parts])), (a_t_g, .inl (k 0, 221, .inl t_g)), (a_t_plan, .inl (k 0, 12, .inl t_plan))] [(a_t, .inr (10, [v_t_thrown, .ref a_t_g, .ref a_t_ahead, .ref a_t_history, v_t_historyMany, .ref a_t_saved, v_t_hasSaved, .ref a_t_tape, v_t_taped, v_t_at, v_t_impossibleAt, v_t_letter, .ref a_t_numbers, .ref a_t_plan, v_t_detail, v_t_keptReason, v_t_keptDetail, .long r.2.1, .long r.2.2, .long t_bestAbove, .long t_bestBelow, .ref a_t_bestPlan, .ref a_t_sort, .ref a_t_size, .ref a_t_whole, .ref a_t_parts])), (a_t_g, .inl (k 0, 221, .inl t_g)), (a_t_plan, .inl (k 0, 12, .inl t_plan))] s.heap.size) (List.toArray [.ref a_t, .int x1]) s 0 0 A = Q
  clear hP hD hD0
  suffices K : ∀ (H : Heap) (locs : List Loc), HOK D A s.heap [(a_t, .inr (10, [v_t_thrown, .ref a_t_g, .ref a_t_ahead, .ref a_t_history, v_t_historyMany, .ref a_t_saved, v_t_hasSaved, .ref a_t_tape, v_t_taped, v_t_at, v_t_impossibleAt, v_t_letter, .ref a_t_numbers, .ref a_t_plan, v_t_detail, v_t_keptReason, v_t_keptDetail, .long t_above, v_t_below, .long t_bestAbove, .long t_bestBelow, .ref a_t_bestPlan, .ref a_t_sort, .ref a_t_size, .ref a_t_whole, .ref a_t_parts])), (a_t_g, .inl (k 0, 221, .inl t_g)), (a_t_plan, .inl (k 0, 12, .inl t_plan))] H locs → W p l e ({ frames := 5, cells := 0, slots := 0, locals := 119 } : Room) s m (List.toArray [.ref a_t, .int x1]) below meth c H locs 0 0 Q (F0 m 0 ls []) from K s.heap [] hH
  intro H locs hH
  rw [fX11_isBetter] at h
  refine lv_aload_n hx hb dX11_isBetter_0 rfl (lv_at hl 0 rfl) ?_
  refine lv_iload_n hx hb dX11_isBetter_1 rfl (lv_at hl 1 rfl) ?_
  obtain ⟨q1, hqq1, h⟩ := dc_bind h
  refine gc_Vv (ws' := [(a_t, .inr (10, [v_t_thrown, .ref a_t_g, .ref a_t_ahead, .ref a_t_history, v_t_historyMany, .ref a_t_saved, v_t_hasSaved, .ref a_t_tape, v_t_taped, v_t_at, v_t_impossibleAt, v_t_letter, .ref a_t_numbers, .ref a_t_plan, v_t_detail, v_t_keptReason, v_t_keptDetail, .long q1.1, .long q1.2, .long t_bestAbove, .long t_bestBelow, .ref a_t_bestPlan, .ref a_t_sort, .ref a_t_size, .ref a_t_whole, .ref a_t_parts])), (a_t_g, .inl (k 0, 221, .inl t_g)), (a_t_plan, .inl (k 0, 12, .inl t_plan))]) (As := [.int x1]) (rest := []) (n := 1) (ci := 10) (cq := (RX11, TX11, 26)) hTs ⟨hx, hb, hml, hown, hts⟩ (mX11_tellMeasure l Ts hTs D k H.size a_t a_t_g a_t_ahead a_t_history a_t_saved a_t_tape a_t_numbers a_t_plan a_t_bestPlan a_t_sort a_t_size a_t_whole a_t_parts t_above t_g t_plan v_t_at v_t_below (.long t_bestAbove) (.long t_bestBelow) v_t_detail v_t_hasSaved v_t_historyMany v_t_impossibleAt v_t_keptDetail v_t_keptReason v_t_letter v_t_taped v_t_thrown x1 q1 hqq1) u_ml_X11_202 u_im_X11_tellMeasure u_se_X11_tellMeasure u_in_X11 u_co_X11_tellMeasure hd_X11_tellMeasure ⟨Nat.le_of_ble_eq_true rfl, Nat.le_of_ble_eq_true rfl⟩ ⟨rfl, rfl⟩ hK hH hA (cutM (isC := [0, 1, 2]) [some 0, some 1, some 2] 3 rfl rfl rfl rfl rfl rfl rfl) rfl rfl rfl rfl hl.1 (Nat.le_of_ble_eq_true rfl) dX11_isBetter_2 ⟨Nat.le_of_ble_eq_true rfl, Nat.le_of_ble_eq_true rfl⟩ (fun H locs hH => ?_)
  refine lv_aload_n hx hb dX11_isBetter_5 rfl (lv_at hl 0 rfl) ?_
  refine gk_get (ci := 10) (C := RX11) (T := TX11) (N := 26) hx hb hts u_ws_X11 hown hK hH 0 rfl rfl 17 (by decide) u_fl_X11_181 rfl dX11_isBetter_6 ?_
  refine lv_aload_n hx hb dX11_isBetter_9 rfl (lv_at hl 0 rfl) ?_
  refine gk_get (ci := 10) (C := RX11) (T := TX11) (N := 26) hx hb hts u_ws_X11 hown hK hH 0 rfl rfl 20 (by decide) u_fl_X11_209 rfl dX11_isBetter_10 ?_
  refine lv_lmul hx hb dX11_isBetter_13 ?_
  refine lv_lstore_n (lv' := [(2, .long (q1.1 * t_bestBelow)), (0, .ref a_t), (1, .int x1)]) hx hb dX11_isBetter_14 rfl hl (by decide) rfl (fun ls hl => ?_)
  refine lv_aload_n hx hb dX11_isBetter_15 rfl (lv_at hl 1 rfl) ?_
  refine gk_get (ci := 10) (C := RX11) (T := TX11) (N := 26) hx hb hts u_ws_X11 hown hK hH 0 rfl rfl 19 (by decide) u_fl_X11_212 rfl dX11_isBetter_16 ?_
  refine lv_aload_n hx hb dX11_isBetter_19 rfl (lv_at hl 1 rfl) ?_
  refine gk_get (ci := 10) (C := RX11) (T := TX11) (N := 26) hx hb hts u_ws_X11 hown hK hH 0 rfl rfl 18 (by decide) u_fl_X11_185 rfl dX11_isBetter_20 ?_
  refine lv_lmul hx hb dX11_isBetter_23 ?_
  refine lv_lstore (lv' := [(4, .long (t_bestAbove * q1.2)), (2, .long (q1.1 * t_bestBelow)), (0, .ref a_t), (1, .int x1)]) hx hb dX11_isBetter_24 hl (by decide) rfl (fun ls hl => ?_)
  refine lv_iload_n hx hb dX11_isBetter_26 rfl (lv_at hl 3 rfl) ?_
  refine lv_if_ne (tgt := 45) hx hb dX11_isBetter_27 (by decide) (fun c2 => ?_) (fun c2 => ?_)
  · replace h := dc_neg c2 h
    refine lv_lload_n hx hb dX11_isBetter_45 rfl (lv_at hl 1 rfl) ?_
    refine lv_lload hx hb dX11_isBetter_46 (lv_at hl 0 rfl) ?_
    refine W.lcmp hx hb dX11_isBetter_48 ?_
    refine lv_if_ge (tgt := 56) hx hb dX11_isBetter_49 (by decide) (fun c4 => ?_) (fun c4 => ?_)
    · replace h := dc_pos c4 h
      refine lv_iconst (v := 0) hx hb dX11_isBetter_56 (by decide) ?_
      have h := Option.some.inj h
      subst h
      exact ge_z hx hb hr rfl hlocks hQ hK hH hAe rfl dX11_isBetter_57
    · replace h := dc_neg c4 h
      refine lv_iconst (v := 1) hx hb dX11_isBetter_52 (by decide) ?_
      refine lv_goto (tgt := 57) hx hb dX11_isBetter_53 (by decide) ?_
      have h := Option.some.inj h
      subst h
      exact ge_z hx hb hr rfl hlocks hQ hK hH hAe rfl dX11_isBetter_57
  · replace h := dc_pos c2 h
    refine lv_lload_n hx hb dX11_isBetter_30 rfl (lv_at hl 1 rfl) ?_
    refine lv_lload hx hb dX11_isBetter_31 (lv_at hl 0 rfl) ?_
    refine W.lcmp hx hb dX11_isBetter_33 ?_
    refine lv_if_le (tgt := 41) hx hb dX11_isBetter_34 (by decide) (fun c3 => ?_) (fun c3 => ?_)
    · replace h := dc_pos c3 h
      refine lv_iconst (v := 0) hx hb dX11_isBetter_41 (by decide) ?_
      refine lv_goto (tgt := 57) hx hb dX11_isBetter_42 (by decide) ?_
      have h := Option.some.inj h
      subst h
      exact ge_z hx hb hr rfl hlocks hQ hK hH hAe rfl dX11_isBetter_57
    · replace h := dc_neg c3 h
      refine lv_iconst (v := 1) hx hb dX11_isBetter_37 (by decide) ?_
      refine lv_goto (tgt := 57) hx hb dX11_isBetter_38 (by decide) ?_
      have h := Option.some.inj h
      subst h
      exact ge_z hx hb hr rfl hlocks hQ hK hH hAe rfl dX11_isBetter_57
theorem hd_X11_isBest : yX11_isBest.cls = RX11 ∧ yX11_isBest.cls ≠ "java/lang/invoke/MethodHandle" ∧ yX11_isBest.cls ≠ "java/lang/invoke/VarHandle" ∧ (parseMethodDescriptor yX11_isBest.desc).map (fun d => d.parameters.length) = some 0 := by decide +kernel
set_option maxHeartbeats 4000000 in
set_option maxRecDepth 100000 in
theorem mX11_isBest (l : Launch) (Ts : List Cond) (hTs : ∀ w, w ∈ Ts ↔ w ∈ uT) (D : va_G) (k : Nat → ClassId) (sz : Nat) (a_t : Nat) (a_t_g : Nat) (a_t_ahead : Nat) (a_t_history : Nat) (a_t_saved : Nat) (a_t_tape : Nat) (a_t_numbers : Nat) (a_t_plan : Nat) (a_t_bestPlan : Nat) (a_t_sort : Nat) (a_t_size : Nat) (a_t_whole : Nat) (a_t_parts : Nat) (t_above : Int64) (t_below : Int64) (t_bestPlan : Nat → Int32) (t_plan : Nat → Int32) (v_t_at : Value) (v_t_bestAbove : Value) (v_t_bestBelow : Value) (v_t_detail : Value) (v_t_hasSaved : Value) (v_t_historyMany : Value) (v_t_impossibleAt : Value) (v_t_keptDetail : Value) (v_t_keptReason : Value) (v_t_letter : Value) (v_t_taped : Value) (v_t_thrown : Value) (r : Int64 × Int64 × (Nat → Int32)) (h : fX11_isBest t_above t_below t_bestPlan t_plan = some r) : Met l yX11_isBest (Cond.code yX11_isBest cX11_isBest 2 none :: Ts) ({ frames := 0, cells := 0, slots := 0, locals := 0 } : Room) (preM D k [.ref a_t] [(a_t, .inr (10, [v_t_thrown, .ref a_t_g, .ref a_t_ahead, .ref a_t_history, v_t_historyMany, .ref a_t_saved, v_t_hasSaved, .ref a_t_tape, v_t_taped, v_t_at, v_t_impossibleAt, v_t_letter, .ref a_t_numbers, .ref a_t_plan, v_t_detail, v_t_keptReason, v_t_keptDetail, .long t_above, .long t_below, v_t_bestAbove, v_t_bestBelow, .ref a_t_bestPlan, .ref a_t_sort, .ref a_t_size, .ref a_t_whole, .ref a_t_parts])), (a_t_plan, .inl (k 0, 12, .inl t_plan)), (a_t_bestPlan, .inl (k 0, 12, .inl t_bestPlan))] sz) (postV D k [(a_t, .inr (10, [v_t_thrown, .ref a_t_g, .ref a_t_ahead, .ref a_t_history, v_t_historyMany, .ref a_t_saved, v_t_hasSaved, .ref a_t_tape, v_t_taped, v_t_at, v_t_impossibleAt, v_t_letter, .ref a_t_numbers, .ref a_t_plan, v_t_detail, v_t_keptReason, v_t_keptDetail, .long t_above, .long t_below, v_t_bestAbove, v_t_bestBelow, .ref a_t_bestPlan, .ref a_t_sort, .ref a_t_size, .ref a_t_whole, .ref a_t_parts])), (a_t_plan, .inl (k 0, 12, .inl t_plan)), (a_t_bestPlan, .inl (k 0, 12, .inl t_bestPlan))] [(a_t, .inr (10, [v_t_thrown, .ref a_t_g, .ref a_t_ahead, .ref a_t_history, v_t_historyMany, .ref a_t_saved, v_t_hasSaved, .ref a_t_tape, v_t_taped, v_t_at, v_t_impossibleAt, v_t_letter, .ref a_t_numbers, .ref a_t_plan, v_t_detail, v_t_keptReason, v_t_keptDetail, .long t_above, .long t_below, .long r.1, .long r.2.1, .ref a_t_bestPlan, .ref a_t_sort, .ref a_t_size, .ref a_t_whole, .ref a_t_parts])), (a_t_plan, .inl (k 0, 12, .inl t_plan)), (a_t_bestPlan, .inl (k 0, 12, .inl r.2.2))] sz) 0 0 (va_A [(a_t, .inr (10, [v_t_thrown, .ref a_t_g, .ref a_t_ahead, .ref a_t_history, v_t_historyMany, .ref a_t_saved, v_t_hasSaved, .ref a_t_tape, v_t_taped, v_t_at, v_t_impossibleAt, v_t_letter, .ref a_t_numbers, .ref a_t_plan, v_t_detail, v_t_keptReason, v_t_keptDetail, .long t_above, .long t_below, v_t_bestAbove, v_t_bestBelow, .ref a_t_bestPlan, .ref a_t_sort, .ref a_t_size, .ref a_t_whole, .ref a_t_parts])), (a_t_plan, .inl (k 0, 12, .inl t_plan)), (a_t_bestPlan, .inl (k 0, 12, .inl t_bestPlan))] sz) := by
  refine Met.ofW (cc := cX11_isBest) (maxL := 2) (ret := none) (by decide) rfl ?_
  intro p e s m args below meth c s₁ B hml hv
  obtain ⟨rfl, hsz, hP, hK, hD0⟩ := hv
  have hx := B.exec
  have hb := B.bytes
  have hr := B.returns
  have hts0 := atoms_spec (ws := (Cond.code yX11_isBest cX11_isBest 2 none :: Ts)) B.pre
  have hts : ∀ w ∈ uT, w.before _ s = true := fun w h => hts0 w (List.mem_cons_of_mem _ ((hTs w).mpr h))
  clear hts0
  have hown : s.vm.findClass RX11 = some m.cls := findClass_of_methodNamed B.named
  have hlocks := B.notSynchronized
  subst hsz
  have hD := hD0.self (sz := s.heap.size)
  generalize hAe : va_A [(a_t, .inr (10, [v_t_thrown, .ref a_t_g, .ref a_t_ahead, .ref a_t_history, v_t_historyMany, .ref a_t_saved, v_t_hasSaved, .ref a_t_tape, v_t_taped, v_t_at, v_t_impossibleAt, v_t_letter, .ref a_t_numbers, .ref a_t_plan, v_t_detail, v_t_keptReason, v_t_keptDetail, .long t_above, .long t_below, v_t_bestAbove, v_t_bestBelow, .ref a_t_bestPlan, .ref a_t_sort, .ref a_t_size, .ref a_t_whole, .ref a_t_parts])), (a_t_plan, .inl (k 0, 12, .inl t_plan)), (a_t_bestPlan, .inl (k 0, 12, .inl t_bestPlan))] s.heap.size = A at hD ⊢
  have hA : ∀ q : Nat, s.heap.size ≤ q → A q := fun q h => by rw [← hAe]; exact Or.inr h
  have hH : HOK D A s.heap [(a_t, .inr (10, [v_t_thrown, .ref a_t_g, .ref a_t_ahead, .ref a_t_history, v_t_historyMany, .ref a_t_saved, v_t_hasSaved, .ref a_t_tape, v_t_taped, v_t_at, v_t_impossibleAt, v_t_letter, .ref a_t_numbers, .ref a_t_plan, v_t_detail, v_t_keptReason, v_t_keptDetail, .long t_above, .long t_below, v_t_bestAbove, v_t_bestBelow, .ref a_t_bestPlan, .ref a_t_sort, .ref a_t_size, .ref a_t_whole, .ref a_t_parts])), (a_t_plan, .inl (k 0, 12, .inl t_plan)), (a_t_bestPlan, .inl (k 0, 12, .inl t_bestPlan))] s.heap [] := ⟨hP, hD, va_S.rf⟩
  have hl := lv_entry ([.ref a_t]) (n := 2) (Nat.le_of_ble_eq_true rfl)
  rw [lg_entry_eq]
  generalize (lg_sl ([.ref a_t]) ++ List.replicate (2 - (lg_sl ([.ref a_t])).length) Slot.unset).toArray = ls at hl ⊢
  have hl : lv_has ls 2 [(0, .ref a_t)] := hl
  generalize hQ : MQ below (postV D k [(a_t, .inr (10, [v_t_thrown, .ref a_t_g, .ref a_t_ahead, .ref a_t_history, v_t_historyMany, .ref a_t_saved, v_t_hasSaved, .ref a_t_tape, v_t_taped, v_t_at, v_t_impossibleAt, v_t_letter, .ref a_t_numbers, .ref a_t_plan, v_t_detail, v_t_keptReason, v_t_keptDetail, .long t_above, .long t_below, v_t_bestAbove, v_t_bestBelow, .ref a_t_bestPlan, .ref a_t_sort, .ref a_t_size, .ref a_t_whole, .ref a_t_parts])), (a_t_plan, .inl (k 0, 12, .inl t_plan)), (a_t_bestPlan, .inl (k 0, 12, .inl t_bestPlan))] [(a_t, .inr (10, [v_t_thrown, .ref a_t_g, .ref a_t_ahead, .ref a_t_history, v_t_historyMany, .ref a_t_saved, v_t_hasSaved, .ref a_t_tape, v_t_taped, v_t_at, v_t_impossibleAt, v_t_letter, .ref a_t_numbers, .ref a_t_plan, v_t_detail, v_t_keptReason, v_t_keptDetail, .long t_above, .long t_below, .long r.1, .long r.2.1, .ref a_t_bestPlan, .ref a_t_sort, .ref a_t_size, .ref a_t_whole, .ref a_t_parts])), (a_t_plan, .inl (k 0, 12, .inl t_plan)), (a_t_bestPlan, .inl (k 0, 12, .inl r.2.2))] s.heap.size) (List.toArray [.ref a_t]) s 0 0 A = Q
  clear hP hD hD0
  suffices K : ∀ (H : Heap) (locs : List Loc), HOK D A s.heap [(a_t, .inr (10, [v_t_thrown, .ref a_t_g, .ref a_t_ahead, .ref a_t_history, v_t_historyMany, .ref a_t_saved, v_t_hasSaved, .ref a_t_tape, v_t_taped, v_t_at, v_t_impossibleAt, v_t_letter, .ref a_t_numbers, .ref a_t_plan, v_t_detail, v_t_keptReason, v_t_keptDetail, .long t_above, .long t_below, v_t_bestAbove, v_t_bestBelow, .ref a_t_bestPlan, .ref a_t_sort, .ref a_t_size, .ref a_t_whole, .ref a_t_parts])), (a_t_plan, .inl (k 0, 12, .inl t_plan)), (a_t_bestPlan, .inl (k 0, 12, .inl t_bestPlan))] H locs → W p l e ({ frames := 0, cells := 0, slots := 0, locals := 0 } : Room) s m (List.toArray [.ref a_t]) below meth c H locs 0 0 Q (F0 m 0 ls []) from K s.heap [] hH
  intro H locs hH
  have L18 : ∀ (y18_t_bestAbove : Int64) (y18_t_bestBelow : Int64) (n : Nat), ∀ (kf : (Nat → Int32) → Option (Int64 × Int64 × (Nat → Int32))) (y18_1 : Int32) (y18_t_bestPlan : Nat → Int32), fX11_isBest_L18 t_plan y18_t_bestAbove y18_t_bestBelow n kf y18_1 y18_t_bestPlan = some r → (∀ (z18_t_bestPlan : Nat → Int32) (H : Heap) (locs : List Loc) (ls : Array Slot), kf z18_t_bestPlan = some r → HOK D A s.heap [(a_t, .inr (10, [v_t_thrown, .ref a_t_g, .ref a_t_ahead, .ref a_t_history, v_t_historyMany, .ref a_t_saved, v_t_hasSaved, .ref a_t_tape, v_t_taped, v_t_at, v_t_impossibleAt, v_t_letter, .ref a_t_numbers, .ref a_t_plan, v_t_detail, v_t_keptReason, v_t_keptDetail, .long t_above, .long t_below, .long y18_t_bestAbove, .long y18_t_bestBelow, .ref a_t_bestPlan, .ref a_t_sort, .ref a_t_size, .ref a_t_whole, .ref a_t_parts])), (a_t_plan, .inl (k 0, 12, .inl t_plan)), (a_t_bestPlan, .inl (k 0, 12, .inl z18_t_bestPlan))] H locs → lv_has ls 2 [] → W p l e ({ frames := 0, cells := 0, slots := 0, locals := 0 } : Room) s m (List.toArray [.ref a_t]) below meth c H locs 0 0 Q (F0 m 42 ls [])) → ∀ (H : Heap) (locs : List Loc) (ls : Array Slot), HOK D A s.heap [(a_t, .inr (10, [v_t_thrown, .ref a_t_g, .ref a_t_ahead, .ref a_t_history, v_t_historyMany, .ref a_t_saved, v_t_hasSaved, .ref a_t_tape, v_t_taped, v_t_at, v_t_impossibleAt, v_t_letter, .ref a_t_numbers, .ref a_t_plan, v_t_detail, v_t_keptReason, v_t_keptDetail, .long t_above, .long t_below, .long y18_t_bestAbove, .long y18_t_bestBelow, .ref a_t_bestPlan, .ref a_t_sort, .ref a_t_size, .ref a_t_whole, .ref a_t_parts])), (a_t_plan, .inl (k 0, 12, .inl t_plan)), (a_t_bestPlan, .inl (k 0, 12, .inl y18_t_bestPlan))] H locs → lv_has ls 2 [(0, .ref a_t), (1, .int y18_1)] → W p l e ({ frames := 0, cells := 0, slots := 0, locals := 0 } : Room) s m (List.toArray [.ref a_t]) below meth c H locs 0 0 Q (F0 m 18 ls []) := by
    intro y18_t_bestAbove y18_t_bestBelow n
    induction n with
    | zero =>
      intro kf y18_1 y18_t_bestPlan h
      exact absurd h (by rw [fX11_isBest_L18]; exact fun q => by cases q)
    | succ n ih =>
      intro kf y18_1 y18_t_bestPlan h kk H locs ls hH hl
      rw [fX11_isBest_L18] at h
      refine lv_iload_n hx hb dX11_isBest_18 rfl (lv_at hl 1 rfl) ?_
      refine lv_bipush (v := 12) hx hb dX11_isBest_19 (by decide) ?_
      refine lv_icmp_ge (tgt := 42) hx hb dX11_isBest_21 (by decide) (fun c1 => ?_) (fun c1 => ?_)
      · replace h := dc_pos c1 h
        exact kk y18_t_bestPlan H locs ls h hH (lv_sub hl [] rfl)
      · replace h := dc_neg c1 h
        refine lv_aload_n hx hb dX11_isBest_24 rfl (lv_at hl 0 rfl) ?_
        refine gk_get (ci := 10) (C := RX11) (T := TX11) (N := 26) hx hb hts u_ws_X11 hown hK hH 0 rfl rfl 21 (by decide) u_fl_X11_36 rfl dX11_isBest_25 ?_
        refine lv_iload_n hx hb dX11_isBest_28 rfl (lv_at hl 1 rfl) ?_
        refine lv_aload_n hx hb dX11_isBest_29 rfl (lv_at hl 0 rfl) ?_
        refine gk_get (ci := 10) (C := RX11) (T := TX11) (N := 26) hx hb hts u_ws_X11 hown hK hH 0 rfl rfl 13 (by decide) u_fl_X11_33 rfl dX11_isBest_30 ?_
        refine lv_iload_n hx hb dX11_isBest_33 rfl (lv_at hl 1 rfl) ?_
        obtain ⟨g2, h⟩ := dc_need h
        refine gk_iald hx hb hK hH 1 rfl (dk_in g2) dX11_isBest_34 ?_
        obtain ⟨g3, h⟩ := dc_need h
        refine gk_iast hx hb hK hH 2 rfl (dk_in g3) dX11_isBest_35 [(a_t, .inr (10, [v_t_thrown, .ref a_t_g, .ref a_t_ahead, .ref a_t_history, v_t_historyMany, .ref a_t_saved, v_t_hasSaved, .ref a_t_tape, v_t_taped, v_t_at, v_t_impossibleAt, v_t_letter, .ref a_t_numbers, .ref a_t_plan, v_t_detail, v_t_keptReason, v_t_keptDetail, .long t_above, .long t_below, .long y18_t_bestAbove, .long y18_t_bestBelow, .ref a_t_bestPlan, .ref a_t_sort, .ref a_t_size, .ref a_t_whole, .ref a_t_parts])), (a_t_plan, .inl (k 0, 12, .inl t_plan)), (a_t_bestPlan, .inl (k 0, 12, .inl (upd y18_t_bestPlan y18_1.toNatClampNeg (t_plan y18_1.toNatClampNeg))))] rfl (fun H locs hH => ?_)
        refine lv_iinc (v := (y18_1 + (1 : Int32))) (lv' := [(1, .int (y18_1 + (1 : Int32))), (0, .ref a_t)]) hx hb dX11_isBest_36 hl (k := 1) rfl rfl (by decide) rfl (fun ls hl => ?_)
        refine lv_goto (tgt := 18) hx hb dX11_isBest_39 (by decide) ?_
        exact ih kf (y18_1 + (1 : Int32)) (upd y18_t_bestPlan y18_1.toNatClampNeg (t_plan y18_1.toNatClampNeg)) h kk H locs ls hH (lv_sub hl [1, 0] rfl)
  rw [fX11_isBest] at h
  refine lv_aload_n hx hb dX11_isBest_0 rfl (lv_at hl 0 rfl) ?_
  refine lv_aload_n hx hb dX11_isBest_1 rfl (lv_at hl 0 rfl) ?_
  refine gk_get (ci := 10) (C := RX11) (T := TX11) (N := 26) hx hb hts u_ws_X11 hown hK hH 0 rfl rfl 17 (by decide) u_fl_X11_181 rfl dX11_isBest_2 ?_
  refine gk_put (ci := 10) (C := RX11) (T := TX11) (N := 26) hx hb hts u_ws_X11 tyX11_ok nmX11 hown hK hH 0 rfl rfl 19 (by decide) u_fl_X11_212 rfl rfl rfl (Nat.le_of_ble_eq_true rfl) dX11_isBest_5 [(a_t, .inr (10, [v_t_thrown, .ref a_t_g, .ref a_t_ahead, .ref a_t_history, v_t_historyMany, .ref a_t_saved, v_t_hasSaved, .ref a_t_tape, v_t_taped, v_t_at, v_t_impossibleAt, v_t_letter, .ref a_t_numbers, .ref a_t_plan, v_t_detail, v_t_keptReason, v_t_keptDetail, .long t_above, .long t_below, .long t_above, v_t_bestBelow, .ref a_t_bestPlan, .ref a_t_sort, .ref a_t_size, .ref a_t_whole, .ref a_t_parts])), (a_t_plan, .inl (k 0, 12, .inl t_plan)), (a_t_bestPlan, .inl (k 0, 12, .inl t_bestPlan))] rfl (fun H locs hH => ?_)
  refine lv_aload_n hx hb dX11_isBest_8 rfl (lv_at hl 0 rfl) ?_
  refine lv_aload_n hx hb dX11_isBest_9 rfl (lv_at hl 0 rfl) ?_
  refine gk_get (ci := 10) (C := RX11) (T := TX11) (N := 26) hx hb hts u_ws_X11 hown hK hH 0 rfl rfl 18 (by decide) u_fl_X11_185 rfl dX11_isBest_10 ?_
  refine gk_put (ci := 10) (C := RX11) (T := TX11) (N := 26) hx hb hts u_ws_X11 tyX11_ok nmX11 hown hK hH 0 rfl rfl 20 (by decide) u_fl_X11_209 rfl rfl rfl (Nat.le_of_ble_eq_true rfl) dX11_isBest_13 [(a_t, .inr (10, [v_t_thrown, .ref a_t_g, .ref a_t_ahead, .ref a_t_history, v_t_historyMany, .ref a_t_saved, v_t_hasSaved, .ref a_t_tape, v_t_taped, v_t_at, v_t_impossibleAt, v_t_letter, .ref a_t_numbers, .ref a_t_plan, v_t_detail, v_t_keptReason, v_t_keptDetail, .long t_above, .long t_below, .long t_above, .long t_below, .ref a_t_bestPlan, .ref a_t_sort, .ref a_t_size, .ref a_t_whole, .ref a_t_parts])), (a_t_plan, .inl (k 0, 12, .inl t_plan)), (a_t_bestPlan, .inl (k 0, 12, .inl t_bestPlan))] rfl (fun H locs hH => ?_)
  refine lv_iconst (v := 0) hx hb dX11_isBest_16 (by decide) ?_
  refine lv_istore_n (lv' := [(1, .int (0 : Int32)), (0, .ref a_t)]) hx hb dX11_isBest_17 rfl hl (by decide) rfl (fun ls hl => ?_)
  refine L18 t_above t_below _ _ (0 : Int32) t_bestPlan h (fun z18_t_bestPlan H locs ls h hH hl => ?_) H locs ls hH (lv_sub hl [1, 0] rfl)
  have h := Option.some.inj h
  subst h
  exact ge_v hx hb hr hlocks hQ hK hH hAe dX11_isBest_42
