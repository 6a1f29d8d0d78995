theorem hd_X11_readsStatement : yX11_readsStatement.cls = RX11 ∧ yX11_readsStatement.cls ≠ "java/lang/invoke/MethodHandle" ∧ yX11_readsStatement.cls ≠ "java/lang/invoke/VarHandle" ∧ (parseMethodDescriptor yX11_readsStatement.desc).map (fun d => d.parameters.length) = some 0 := by decide +kernel
set_option maxHeartbeats 4000000 in
set_option maxRecDepth 100000 in
theorem mX11_readsStatement (l : Launch) (Ts : List Cond) (hTs : ∀ w, w ∈ Ts ↔ w ∈ uT) (D : va_G) (k : Nat → ClassId) (sz : Nat) (a_t : Nat) (a_t_g : Nat) (a_t_ahead : Nat) (a_t_history : Nat) (a_t_saved : Nat) (a_t_tape : Nat) (a_t_numbers : Nat) (a_t_plan : Nat) (a_t_bestPlan : Nat) (a_t_sort : Nat) (a_t_size : Nat) (a_t_whole : Nat) (a_t_parts : Nat) (t_at : Int32) (t_numbers : Nat → Int32) (t_tape : Nat → Int32) (t_taped : Int32) (v_t_above : Value) (v_t_below : Value) (v_t_bestAbove : Value) (v_t_bestBelow : Value) (v_t_detail : Value) (v_t_hasSaved : Value) (v_t_historyMany : Value) (v_t_impossibleAt : Value) (v_t_keptDetail : Value) (v_t_keptReason : Value) (v_t_letter : Value) (v_t_thrown : Value) (r : Int32 × Int32 × Int32 × (Nat → Int32)) (h : fX11_readsStatement t_at t_numbers t_tape t_taped = some r) : Met l yX11_readsStatement (Cond.code yX11_readsStatement cX11_readsStatement 1 (some .boolean) :: Ts) ({ frames := 2, cells := 0, slots := 0, locals := 45 } : Room) (preM D k [.ref a_t] [(a_t, .inr (10, [v_t_thrown, .ref a_t_g, .ref a_t_ahead, .ref a_t_history, v_t_historyMany, .ref a_t_saved, v_t_hasSaved, .ref a_t_tape, .int t_taped, .int t_at, v_t_impossibleAt, v_t_letter, .ref a_t_numbers, .ref a_t_plan, v_t_detail, v_t_keptReason, v_t_keptDetail, v_t_above, v_t_below, v_t_bestAbove, v_t_bestBelow, .ref a_t_bestPlan, .ref a_t_sort, .ref a_t_size, .ref a_t_whole, .ref a_t_parts])), (a_t_tape, .inl (k 1, 80, .inl t_tape)), (a_t_numbers, .inl (k 0, 4, .inl t_numbers))] sz) (postI D k r.1 [(a_t, .inr (10, [v_t_thrown, .ref a_t_g, .ref a_t_ahead, .ref a_t_history, v_t_historyMany, .ref a_t_saved, v_t_hasSaved, .ref a_t_tape, .int t_taped, .int t_at, v_t_impossibleAt, v_t_letter, .ref a_t_numbers, .ref a_t_plan, v_t_detail, v_t_keptReason, v_t_keptDetail, v_t_above, v_t_below, v_t_bestAbove, v_t_bestBelow, .ref a_t_bestPlan, .ref a_t_sort, .ref a_t_size, .ref a_t_whole, .ref a_t_parts])), (a_t_tape, .inl (k 1, 80, .inl t_tape)), (a_t_numbers, .inl (k 0, 4, .inl t_numbers))] [(a_t, .inr (10, [v_t_thrown, .ref a_t_g, .ref a_t_ahead, .ref a_t_history, v_t_historyMany, .ref a_t_saved, v_t_hasSaved, .ref a_t_tape, .int t_taped, .int r.2.1, v_t_impossibleAt, .int r.2.2.1, .ref a_t_numbers, .ref a_t_plan, v_t_detail, v_t_keptReason, v_t_keptDetail, v_t_above, v_t_below, v_t_bestAbove, v_t_bestBelow, .ref a_t_bestPlan, .ref a_t_sort, .ref a_t_size, .ref a_t_whole, .ref a_t_parts])), (a_t_tape, .inl (k 1, 80, .inl t_tape)), (a_t_numbers, .inl (k 0, 4, .inl r.2.2.2))] sz) 0 0 (va_A [(a_t, .inr (10, [v_t_thrown, .ref a_t_g, .ref a_t_ahead, .ref a_t_history, v_t_historyMany, .ref a_t_saved, v_t_hasSaved, .ref a_t_tape, .int t_taped, .int t_at, v_t_impossibleAt, v_t_letter, .ref a_t_numbers, .ref a_t_plan, v_t_detail, v_t_keptReason, v_t_keptDetail, v_t_above, v_t_below, v_t_bestAbove, v_t_bestBelow, .ref a_t_bestPlan, .ref a_t_sort, .ref a_t_size, .ref a_t_whole, .ref a_t_parts])), (a_t_tape, .inl (k 1, 80, .inl t_tape)), (a_t_numbers, .inl (k 0, 4, .inl t_numbers))] sz) := by
  refine Met.ofW (cc := cX11_readsStatement) (maxL := 1) (ret := (some .boolean)) (by decide) rfl ?_
  intro p e s m args below meth c s₁ B hml hv
  obtain ⟨rfl, hsz, hP, hK, hD0⟩ := hv
  have hx := B.exec
  have hb := B.bytes
  have hr := B.returns
  have hts0 := atoms_spec (ws := (Cond.code yX11_readsStatement cX11_readsStatement 1 (some .boolean) :: Ts)) B.pre
  have hts : ∀ w ∈ uT, w.before _ s = true := fun w h => hts0 w (List.mem_cons_of_mem _ ((hTs w).mpr h))
  clear hts0
  have hown : s.vm.findClass RX11 = some m.cls := findClass_of_methodNamed B.named
  have hlocks := B.notSynchronized
  subst hsz
  have hD := hD0.self (sz := s.heap.size)
  generalize hAe : va_A [(a_t, .inr (10, [v_t_thrown, .ref a_t_g, .ref a_t_ahead, .ref a_t_history, v_t_historyMany, .ref a_t_saved, v_t_hasSaved, .ref a_t_tape, .int t_taped, .int t_at, v_t_impossibleAt, v_t_letter, .ref a_t_numbers, .ref a_t_plan, v_t_detail, v_t_keptReason, v_t_keptDetail, v_t_above, v_t_below, v_t_bestAbove, v_t_bestBelow, .ref a_t_bestPlan, .ref a_t_sort, .ref a_t_size, .ref a_t_whole, .ref a_t_parts])), (a_t_tape, .inl (k 1, 80, .inl t_tape)), (a_t_numbers, .inl (k 0, 4, .inl t_numbers))] s.heap.size = A at hD ⊢
  have hA : ∀ q : Nat, s.heap.size ≤ q → A q := fun q h => by rw [← hAe]; exact Or.inr h
  have hH : HOK D A s.heap [(a_t, .inr (10, [v_t_thrown, .ref a_t_g, .ref a_t_ahead, .ref a_t_history, v_t_historyMany, .ref a_t_saved, v_t_hasSaved, .ref a_t_tape, .int t_taped, .int t_at, v_t_impossibleAt, v_t_letter, .ref a_t_numbers, .ref a_t_plan, v_t_detail, v_t_keptReason, v_t_keptDetail, v_t_above, v_t_below, v_t_bestAbove, v_t_bestBelow, .ref a_t_bestPlan, .ref a_t_sort, .ref a_t_size, .ref a_t_whole, .ref a_t_parts])), (a_t_tape, .inl (k 1, 80, .inl t_tape)), (a_t_numbers, .inl (k 0, 4, .inl t_numbers))] s.heap [] := ⟨hP, hD, va_S.rf⟩
  have hl := lv_entry ([.ref a_t]) (n := 1) (Nat.le_of_ble_eq_true rfl)
  rw [lg_entry_eq]
  generalize (lg_sl ([.ref a_t]) ++ List.replicate (1 - (lg_sl ([.ref a_t])).length) Slot.unset).toArray = ls at hl ⊢
  have hl : lv_has ls 1 [(0, .ref a_t)] := hl
  generalize hQ : MQ below (postI D k r.1 [(a_t, .inr (10, [v_t_thrown, .ref a_t_g, .ref a_t_ahead, .ref a_t_history, v_t_historyMany, .ref a_t_saved, v_t_hasSaved, .ref a_t_tape, .int t_taped, .int t_at, v_t_impossibleAt, v_t_letter, .ref a_t_numbers, .ref a_t_plan, v_t_detail, v_t_keptReason, v_t_keptDetail, v_t_above, v_t_below, v_t_bestAbove, v_t_bestBelow, .ref a_t_bestPlan, .ref a_t_sort, .ref a_t_size, .ref a_t_whole, .ref a_t_parts])), (a_t_tape, .inl (k 1, 80, .inl t_tape)), (a_t_numbers, .inl (k 0, 4, .inl t_numbers))] [(a_t, .inr (10, [v_t_thrown, .ref a_t_g, .ref a_t_ahead, .ref a_t_history, v_t_historyMany, .ref a_t_saved, v_t_hasSaved, .ref a_t_tape, .int t_taped, .int r.2.1, v_t_impossibleAt, .int r.2.2.1, .ref a_t_numbers, .ref a_t_plan, v_t_detail, v_t_keptReason, v_t_keptDetail, v_t_above, v_t_below, v_t_bestAbove, v_t_bestBelow, .ref a_t_bestPlan, .ref a_t_sort, .ref a_t_size, .ref a_t_whole, .ref a_t_parts])), (a_t_tape, .inl (k 1, 80, .inl t_tape)), (a_t_numbers, .inl (k 0, 4, .inl r.2.2.2))] s.heap.size) (List.toArray [.ref a_t]) s 0 0 A = Q
  clear hP hD hD0
  suffices K : ∀ (H : Heap) (locs : List Loc), HOK D A s.heap [(a_t, .inr (10, [v_t_thrown, .ref a_t_g, .ref a_t_ahead, .ref a_t_history, v_t_historyMany, .ref a_t_saved, v_t_hasSaved, .ref a_t_tape, .int t_taped, .int t_at, v_t_impossibleAt, v_t_letter, .ref a_t_numbers, .ref a_t_plan, v_t_detail, v_t_keptReason, v_t_keptDetail, v_t_above, v_t_below, v_t_bestAbove, v_t_bestBelow, .ref a_t_bestPlan, .ref a_t_sort, .ref a_t_size, .ref a_t_whole, .ref a_t_parts])), (a_t_tape, .inl (k 1, 80, .inl t_tape)), (a_t_numbers, .inl (k 0, 4, .inl t_numbers))] H locs → W p l e ({ frames := 2, cells := 0, slots := 0, locals := 45 } : Room) s m (List.toArray [.ref a_t]) below meth c H locs 0 0 Q (F0 m 0 ls []) from K s.heap [] hH
  intro H locs hH
  rw [fX11_readsStatement] at h
  refine lv_aload_n hx hb dX11_readsStatement_0 rfl (lv_at hl 0 rfl) ?_
  refine lv_aload_n hx hb dX11_readsStatement_1 rfl (lv_at hl 0 rfl) ?_
  obtain ⟨q1, hqq1, h⟩ := dc_bind h
  refine gc_Vi (ws' := [(a_t, .inr (10, [v_t_thrown, .ref a_t_g, .ref a_t_ahead, .ref a_t_history, v_t_historyMany, .ref a_t_saved, v_t_hasSaved, .ref a_t_tape, .int t_taped, .int t_at, v_t_impossibleAt, v_t_letter, .ref a_t_numbers, .ref a_t_plan, v_t_detail, v_t_keptReason, v_t_keptDetail, v_t_above, v_t_below, v_t_bestAbove, v_t_bestBelow, .ref a_t_bestPlan, .ref a_t_sort, .ref a_t_size, .ref a_t_whole, .ref a_t_parts])), (a_t_tape, .inl (k 1, 80, .inl t_tape)), (a_t_numbers, .inl (k 0, 4, .inl t_numbers))]) (As := []) (rest := [.ref a_t]) (n := 0) (ci := 10) (cq := (RX11, TX11, 26)) hTs ⟨hx, hb, hml, hown, hts⟩ (mX11_here l Ts hTs D k H.size a_t a_t_g a_t_ahead a_t_history a_t_saved a_t_tape a_t_numbers a_t_plan a_t_bestPlan a_t_sort a_t_size a_t_whole a_t_parts t_at t_tape t_taped v_t_above v_t_below v_t_bestAbove v_t_bestBelow v_t_detail v_t_hasSaved v_t_historyMany v_t_impossibleAt v_t_keptDetail v_t_keptReason v_t_letter v_t_thrown q1 hqq1) u_ml_X11_75 u_im_X11_here u_se_X11_here u_in_X11 u_co_X11_here hd_X11_here ⟨Nat.le_of_ble_eq_true rfl, Nat.le_of_ble_eq_true rfl⟩ ⟨rfl, rfl⟩ hK hH hA (cut0 (isC := [0, 1]) rfl rfl rfl) rfl rfl rfl rfl hl.1 (Nat.le_of_ble_eq_true rfl) dX11_readsStatement_2 ⟨Nat.le_of_ble_eq_true rfl, Nat.le_of_ble_eq_true rfl⟩ (fun H locs hH => ?_)
  refine gk_put (ci := 10) (C := RX11) (T := TX11) (N := 26) hx hb hts u_ws_X11 tyX11_ok nmX11 hown hK hH 0 rfl rfl 11 (by decide) u_fl_X11_79 rfl rfl rfl (Nat.le_of_ble_eq_true rfl) dX11_readsStatement_5 [(a_t, .inr (10, [v_t_thrown, .ref a_t_g, .ref a_t_ahead, .ref a_t_history, v_t_historyMany, .ref a_t_saved, v_t_hasSaved, .ref a_t_tape, .int t_taped, .int t_at, v_t_impossibleAt, .int q1, .ref a_t_numbers, .ref a_t_plan, v_t_detail, v_t_keptReason, v_t_keptDetail, v_t_above, v_t_below, v_t_bestAbove, v_t_bestBelow, .ref a_t_bestPlan, .ref a_t_sort, .ref a_t_size, .ref a_t_whole, .ref a_t_parts])), (a_t_tape, .inl (k 1, 80, .inl t_tape)), (a_t_numbers, .inl (k 0, 4, .inl t_numbers))] rfl (fun H locs hH => ?_)
  refine lv_aload_n hx hb dX11_readsStatement_8 rfl (lv_at hl 0 rfl) ?_
  refine gk_get (ci := 10) (C := RX11) (T := TX11) (N := 26) hx hb hts u_ws_X11 hown hK hH 0 rfl rfl 11 (by decide) u_fl_X11_79 rfl dX11_readsStatement_9 ?_
  refine lv_bipush (v := 117) hx hb dX11_readsStatement_12 (by decide) ?_
  refine lv_icmp_eq (tgt := 37) hx hb dX11_readsStatement_14 (by decide) (fun c2 => ?_) (fun c2 => ?_)
  · replace h := dc_pos c2 h
    refine lv_aload_n hx hb dX11_readsStatement_37 rfl (lv_at hl 0 rfl) ?_
    refine lv_dup hx hb dX11_readsStatement_38 rfl ?_
    refine gk_get (ci := 10) (C := RX11) (T := TX11) (N := 26) hx hb hts u_ws_X11 hown hK hH 0 rfl rfl 9 (by decide) u_fl_X11_72 rfl dX11_readsStatement_39 ?_
    refine lv_iconst (v := 1) hx hb dX11_readsStatement_42 (by decide) ?_
    refine lv_iadd hx hb dX11_readsStatement_43 ?_
    refine gk_put (ci := 10) (C := RX11) (T := TX11) (N := 26) hx hb hts u_ws_X11 tyX11_ok nmX11 hown hK hH 0 rfl rfl 9 (by decide) u_fl_X11_72 rfl rfl rfl (Nat.le_of_ble_eq_true rfl) dX11_readsStatement_44 [(a_t, .inr (10, [v_t_thrown, .ref a_t_g, .ref a_t_ahead, .ref a_t_history, v_t_historyMany, .ref a_t_saved, v_t_hasSaved, .ref a_t_tape, .int t_taped, .int (t_at + (1 : Int32)), v_t_impossibleAt, .int q1, .ref a_t_numbers, .ref a_t_plan, v_t_detail, v_t_keptReason, v_t_keptDetail, v_t_above, v_t_below, v_t_bestAbove, v_t_bestBelow, .ref a_t_bestPlan, .ref a_t_sort, .ref a_t_size, .ref a_t_whole, .ref a_t_parts])), (a_t_tape, .inl (k 1, 80, .inl t_tape)), (a_t_numbers, .inl (k 0, 4, .inl t_numbers))] rfl (fun H locs hH => ?_)
    refine lv_aload_n hx hb dX11_readsStatement_47 rfl (lv_at hl 0 rfl) ?_
    refine gk_get (ci := 10) (C := RX11) (T := TX11) (N := 26) hx hb hts u_ws_X11 hown hK hH 0 rfl rfl 12 (by decide) u_fl_X11_30 rfl dX11_readsStatement_48 ?_
    refine lv_iconst (v := 2) hx hb dX11_readsStatement_51 (by decide) ?_
    refine lv_iconst (v := -1) hx hb dX11_readsStatement_52 (by decide) ?_
    refine gk_iast hx hb hK hH 2 rfl (dk_in (by decide)) dX11_readsStatement_53 [(a_t, .inr (10, [v_t_thrown, .ref a_t_g, .ref a_t_ahead, .ref a_t_history, v_t_historyMany, .ref a_t_saved, v_t_hasSaved, .ref a_t_tape, .int t_taped, .int (t_at + (1 : Int32)), v_t_impossibleAt, .int q1, .ref a_t_numbers, .ref a_t_plan, v_t_detail, v_t_keptReason, v_t_keptDetail, v_t_above, v_t_below, v_t_bestAbove, v_t_bestBelow, .ref a_t_bestPlan, .ref a_t_sort, .ref a_t_size, .ref a_t_whole, .ref a_t_parts])), (a_t_tape, .inl (k 1, 80, .inl t_tape)), (a_t_numbers, .inl (k 0, 4, .inl (upd t_numbers (2 : Int32).toNatClampNeg (-1 : Int32))))] rfl (fun H locs hH => ?_)
    refine lv_aload_n hx hb dX11_readsStatement_54 rfl (lv_at hl 0 rfl) ?_
    refine gk_get (ci := 10) (C := RX11) (T := TX11) (N := 26) hx hb hts u_ws_X11 hown hK hH 0 rfl rfl 12 (by decide) u_fl_X11_30 rfl dX11_readsStatement_55 ?_
    refine lv_iconst (v := 3) hx hb dX11_readsStatement_58 (by decide) ?_
    refine lv_iconst (v := 0) hx hb dX11_readsStatement_59 (by decide) ?_
    refine gk_iast hx hb hK hH 2 rfl (dk_in (by decide)) dX11_readsStatement_60 [(a_t, .inr (10, [v_t_thrown, .ref a_t_g, .ref a_t_ahead, .ref a_t_history, v_t_historyMany, .ref a_t_saved, v_t_hasSaved, .ref a_t_tape, .int t_taped, .int (t_at + (1 : Int32)), v_t_impossibleAt, .int q1, .ref a_t_numbers, .ref a_t_plan, v_t_detail, v_t_keptReason, v_t_keptDetail, v_t_above, v_t_below, v_t_bestAbove, v_t_bestBelow, .ref a_t_bestPlan, .ref a_t_sort, .ref a_t_size, .ref a_t_whole, .ref a_t_parts])), (a_t_tape, .inl (k 1, 80, .inl t_tape)), (a_t_numbers, .inl (k 0, 4, .inl (upd (upd t_numbers (2 : Int32).toNatClampNeg (-1 : Int32)) (3 : Int32).toNatClampNeg (0 : Int32))))] rfl (fun H locs hH => ?_)
    refine lv_aload_n hx hb dX11_readsStatement_61 rfl (lv_at hl 0 rfl) ?_
    refine lv_iconst (v := 0) hx hb dX11_readsStatement_62 (by decide) ?_
    refine lv_iconst (v := 2) hx hb dX11_readsStatement_63 (by decide) ?_
    obtain ⟨q3, hqq3, h⟩ := dc_bind h
    refine gc_Vi (ws' := [(a_t, .inr (10, [v_t_thrown, .ref a_t_g, .ref a_t_ahead, .ref a_t_history, v_t_historyMany, .ref a_t_saved, v_t_hasSaved, .ref a_t_tape, .int t_taped, .int q3.2.1, v_t_impossibleAt, .int q1, .ref a_t_numbers, .ref a_t_plan, v_t_detail, v_t_keptReason, v_t_keptDetail, v_t_above, v_t_below, v_t_bestAbove, v_t_bestBelow, .ref a_t_bestPlan, .ref a_t_sort, .ref a_t_size, .ref a_t_whole, .ref a_t_parts])), (a_t_tape, .inl (k 1, 80, .inl t_tape)), (a_t_numbers, .inl (k 0, 4, .inl q3.2.2))]) (As := [.int (0 : Int32), .int (2 : Int32)]) (rest := []) (n := 2) (ci := 10) (cq := (RX11, TX11, 26)) hTs ⟨hx, hb, hml, hown, hts⟩ (mX11_readsNumber l Ts hTs D k H.size a_t a_t_g a_t_ahead a_t_history a_t_saved a_t_tape a_t_numbers a_t_plan a_t_bestPlan a_t_sort a_t_size a_t_whole a_t_parts (t_at + (1 : Int32)) (upd (upd t_numbers (2 : Int32).toNatClampNeg (-1 : Int32)) (3 : Int32).toNatClampNeg (0 : Int32)) t_tape t_taped v_t_above v_t_below v_t_bestAbove v_t_bestBelow v_t_detail v_t_hasSaved v_t_historyMany v_t_impossibleAt v_t_keptDetail v_t_keptReason (.int q1) v_t_thrown (0 : Int32) (2 : Int32) q3 hqq3) u_ml_X11_82 u_im_X11_readsNumber u_se_X11_readsNumber u_in_X11 u_co_X11_readsNumber hd_X11_readsNumber ⟨Nat.le_of_ble_eq_true rfl, Nat.le_of_ble_eq_true rfl⟩ ⟨rfl, rfl⟩ hK hH hA (cutM (isC := [0, 2, 1]) [some 0, some 2, some 1] 3 rfl rfl rfl rfl rfl rfl rfl) rfl rfl rfl rfl hl.1 (Nat.le_of_ble_eq_true rfl) dX11_readsStatement_64 ⟨Nat.le_of_ble_eq_true rfl, Nat.le_of_ble_eq_true rfl⟩ (fun H locs hH => ?_)
    refine lv_if_ne (tgt := 72) hx hb dX11_readsStatement_67 (by decide) (fun c4 => ?_) (fun c4 => ?_)
    · replace h := dc_neg c4 h
      refine lv_aload_n hx hb dX11_readsStatement_72 rfl (lv_at hl 0 rfl) ?_
      refine gk_get (ci := 10) (C := RX11) (T := TX11) (N := 26) hx hb hts u_ws_X11 hown hK hH 0 rfl rfl 11 (by decide) u_fl_X11_79 rfl dX11_readsStatement_73 ?_
      refine lv_bipush (v := 111) hx hb dX11_readsStatement_76 (by decide) ?_
      refine lv_icmp_ne (tgt := 105) hx hb dX11_readsStatement_78 (by decide) (fun c5 => ?_) (fun c5 => ?_)
      · replace h := dc_neg c5 h
        refine lv_aload_n hx hb dX11_readsStatement_105 rfl (lv_at hl 0 rfl) ?_
        refine lv_aload_n hx hb dX11_readsStatement_106 rfl (lv_at hl 0 rfl) ?_
        refine gk_get (ci := 10) (C := RX11) (T := TX11) (N := 26) hx hb hts u_ws_X11 hown hK hH 0 rfl rfl 11 (by decide) u_fl_X11_79 rfl dX11_readsStatement_107 ?_
        refine lv_bipush (v := 117) hx hb dX11_readsStatement_110 (by decide) ?_
        refine lv_icmp_ne (tgt := 120) hx hb dX11_readsStatement_112 (by decide) (fun c => absurd c2 c) (fun _ => ?_)
        refine lv_bipush (v := 47) hx hb dX11_readsStatement_115 (by decide) ?_
        refine lv_goto (tgt := 122) hx hb dX11_readsStatement_117 (by decide) ?_
        obtain ⟨q10, hqq10, h⟩ := dc_bind h
        refine gc_Vi (ws' := [(a_t, .inr (10, [v_t_thrown, .ref a_t_g, .ref a_t_ahead, .ref a_t_history, v_t_historyMany, .ref a_t_saved, v_t_hasSaved, .ref a_t_tape, .int t_taped, .int q10.2, v_t_impossibleAt, .int q1, .ref a_t_numbers, .ref a_t_plan, v_t_detail, v_t_keptReason, v_t_keptDetail, v_t_above, v_t_below, v_t_bestAbove, v_t_bestBelow, .ref a_t_bestPlan, .ref a_t_sort, .ref a_t_size, .ref a_t_whole, .ref a_t_parts])), (a_t_tape, .inl (k 1, 80, .inl t_tape)), (a_t_numbers, .inl (k 0, 4, .inl q3.2.2))]) (As := [.int (47 : Int32)]) (rest := []) (n := 1) (ci := 10) (cq := (RX11, TX11, 26)) hTs ⟨hx, hb, hml, hown, hts⟩ (mX11_eats l Ts hTs D k H.size a_t a_t_g a_t_ahead a_t_history a_t_saved a_t_tape a_t_numbers a_t_plan a_t_bestPlan a_t_sort a_t_size a_t_whole a_t_parts q3.2.1 t_tape t_taped v_t_above v_t_below v_t_bestAbove v_t_bestBelow v_t_detail v_t_hasSaved v_t_historyMany v_t_impossibleAt v_t_keptDetail v_t_keptReason (.int q1) v_t_thrown (47 : Int32) q10 hqq10) u_ml_X11_86 u_im_X11_eats u_se_X11_eats u_in_X11 u_co_X11_eats hd_X11_eats ⟨Nat.le_of_ble_eq_true rfl, Nat.le_of_ble_eq_true rfl⟩ ⟨rfl, rfl⟩ hK hH hA (cutM (isC := [0, 1]) [some 0, some 1, none] 3 rfl rfl rfl rfl rfl rfl rfl) rfl rfl rfl rfl hl.1 (Nat.le_of_ble_eq_true rfl) dX11_readsStatement_122 ⟨Nat.le_of_ble_eq_true rfl, Nat.le_of_ble_eq_true rfl⟩ (fun H locs hH => ?_)
        refine lv_if_eq (tgt := 137) hx hb dX11_readsStatement_125 (by decide) (fun c11 => ?_) (fun c11 => ?_)
        · replace h := dc_pos c11 h
          refine lv_iconst (v := 0) hx hb dX11_readsStatement_137 (by decide) ?_
          have h := Option.some.inj h
          subst h
          exact ge_z hx hb hr rfl hlocks hQ hK hH hAe rfl dX11_readsStatement_138
        · replace h := dc_neg c11 h
          refine lv_aload_n hx hb dX11_readsStatement_128 rfl (lv_at hl 0 rfl) ?_
          refine lv_iconst (v := 1) hx hb dX11_readsStatement_129 (by decide) ?_
          refine lv_iconst (v := 2) hx hb dX11_readsStatement_130 (by decide) ?_
          obtain ⟨q12, hqq12, h⟩ := dc_bind h
          refine gc_Vi (ws' := [(a_t, .inr (10, [v_t_thrown, .ref a_t_g, .ref a_t_ahead, .ref a_t_history, v_t_historyMany, .ref a_t_saved, v_t_hasSaved, .ref a_t_tape, .int t_taped, .int q12.2.1, v_t_impossibleAt, .int q1, .ref a_t_numbers, .ref a_t_plan, v_t_detail, v_t_keptReason, v_t_keptDetail, v_t_above, v_t_below, v_t_bestAbove, v_t_bestBelow, .ref a_t_bestPlan, .ref a_t_sort, .ref a_t_size, .ref a_t_whole, .ref a_t_parts])), (a_t_tape, .inl (k 1, 80, .inl t_tape)), (a_t_numbers, .inl (k 0, 4, .inl q12.2.2))]) (As := [.int (1 : Int32), .int (2 : Int32)]) (rest := []) (n := 2) (ci := 10) (cq := (RX11, TX11, 26)) hTs ⟨hx, hb, hml, hown, hts⟩ (mX11_readsNumber l Ts hTs D k H.size a_t a_t_g a_t_ahead a_t_history a_t_saved a_t_tape a_t_numbers a_t_plan a_t_bestPlan a_t_sort a_t_size a_t_whole a_t_parts q10.2 q3.2.2 t_tape t_taped v_t_above v_t_below v_t_bestAbove v_t_bestBelow v_t_detail v_t_hasSaved v_t_historyMany v_t_impossibleAt v_t_keptDetail v_t_keptReason (.int q1) v_t_thrown (1 : Int32) (2 : Int32) q12 hqq12) u_ml_X11_82 u_im_X11_readsNumber u_se_X11_readsNumber u_in_X11 u_co_X11_readsNumber hd_X11_readsNumber ⟨Nat.le_of_ble_eq_true rfl, Nat.le_of_ble_eq_true rfl⟩ ⟨rfl, rfl⟩ hK hH hA (cutM (isC := [0, 2, 1]) [some 0, some 2, some 1] 3 rfl rfl rfl rfl rfl rfl rfl) rfl rfl rfl rfl hl.1 (Nat.le_of_ble_eq_true rfl) dX11_readsStatement_131 ⟨Nat.le_of_ble_eq_true rfl, Nat.le_of_ble_eq_true rfl⟩ (fun H locs hH => ?_)
          refine lv_if_ne (tgt := 139) hx hb dX11_readsStatement_134 (by decide) (fun c13 => ?_) (fun c13 => ?_)
          · replace h := dc_neg c13 h
            refine lv_aload_n hx hb dX11_readsStatement_139 rfl (lv_at hl 0 rfl) ?_
            refine gk_get (ci := 10) (C := RX11) (T := TX11) (N := 26) hx hb hts u_ws_X11 hown hK hH 0 rfl rfl 11 (by decide) u_fl_X11_79 rfl dX11_readsStatement_140 ?_
            refine lv_bipush (v := 98) hx hb dX11_readsStatement_143 (by decide) ?_
            refine lv_icmp_ne (tgt := 172) hx hb dX11_readsStatement_145 (by decide) (fun c14 => ?_) (fun c14 => ?_)
            · replace h := dc_neg c14 h
              refine lv_aload_n hx hb dX11_readsStatement_172 rfl (lv_at hl 0 rfl) ?_
              refine lv_bipush (v := 64) hx hb dX11_readsStatement_173 (by decide) ?_
              obtain ⟨q19, hqq19, h⟩ := dc_bind h
              refine gc_Vi (ws' := [(a_t, .inr (10, [v_t_thrown, .ref a_t_g, .ref a_t_ahead, .ref a_t_history, v_t_historyMany, .ref a_t_saved, v_t_hasSaved, .ref a_t_tape, .int t_taped, .int q19.2, v_t_impossibleAt, .int q1, .ref a_t_numbers, .ref a_t_plan, v_t_detail, v_t_keptReason, v_t_keptDetail, v_t_above, v_t_below, v_t_bestAbove, v_t_bestBelow, .ref a_t_bestPlan, .ref a_t_sort, .ref a_t_size, .ref a_t_whole, .ref a_t_parts])), (a_t_tape, .inl (k 1, 80, .inl t_tape)), (a_t_numbers, .inl (k 0, 4, .inl q12.2.2))]) (As := [.int (64 : Int32)]) (rest := []) (n := 1) (ci := 10) (cq := (RX11, TX11, 26)) hTs ⟨hx, hb, hml, hown, hts⟩ (mX11_eats l Ts hTs D k H.size a_t a_t_g a_t_ahead a_t_history a_t_saved a_t_tape a_t_numbers a_t_plan a_t_bestPlan a_t_sort a_t_size a_t_whole a_t_parts q12.2.1 t_tape t_taped v_t_above v_t_below v_t_bestAbove v_t_bestBelow v_t_detail v_t_hasSaved v_t_historyMany v_t_impossibleAt v_t_keptDetail v_t_keptReason (.int q1) v_t_thrown (64 : Int32) q19 hqq19) u_ml_X11_86 u_im_X11_eats u_se_X11_eats u_in_X11 u_co_X11_eats hd_X11_eats ⟨Nat.le_of_ble_eq_true rfl, Nat.le_of_ble_eq_true rfl⟩ ⟨rfl, rfl⟩ hK hH hA (cutM (isC := [0, 1]) [some 0, some 1, none] 3 rfl rfl rfl rfl rfl rfl rfl) rfl rfl rfl rfl hl.1 (Nat.le_of_ble_eq_true rfl) dX11_readsStatement_175 ⟨Nat.le_of_ble_eq_true rfl, Nat.le_of_ble_eq_true rfl⟩ (fun H locs hH => ?_)
              refine lv_if_eq (tgt := 212) hx hb dX11_readsStatement_178 (by decide) (fun c20 => ?_) (fun c20 => ?_)
              · replace h := dc_pos c20 h
                refine lv_iconst (v := 1) hx hb dX11_readsStatement_212 (by decide) ?_
                have h := Option.some.inj h
                subst h
                exact ge_z hx hb hr rfl hlocks hQ hK hH hAe rfl dX11_readsStatement_213
              · replace h := dc_neg c20 h
                refine lv_aload_n hx hb dX11_readsStatement_181 rfl (lv_at hl 0 rfl) ?_
                refine lv_iconst (v := 2) hx hb dX11_readsStatement_182 (by decide) ?_
                refine lv_iconst (v := 1) hx hb dX11_readsStatement_183 (by decide) ?_
                obtain ⟨q21, hqq21, h⟩ := dc_bind h
                refine gc_Vi (ws' := [(a_t, .inr (10, [v_t_thrown, .ref a_t_g, .ref a_t_ahead, .ref a_t_history, v_t_historyMany, .ref a_t_saved, v_t_hasSaved, .ref a_t_tape, .int t_taped, .int q21.2.1, v_t_impossibleAt, .int q1, .ref a_t_numbers, .ref a_t_plan, v_t_detail, v_t_keptReason, v_t_keptDetail, v_t_above, v_t_below, v_t_bestAbove, v_t_bestBelow, .ref a_t_bestPlan, .ref a_t_sort, .ref a_t_size, .ref a_t_whole, .ref a_t_parts])), (a_t_tape, .inl (k 1, 80, .inl t_tape)), (a_t_numbers, .inl (k 0, 4, .inl q21.2.2))]) (As := [.int (2 : Int32), .int (1 : Int32)]) (rest := []) (n := 2) (ci := 10) (cq := (RX11, TX11, 26)) hTs ⟨hx, hb, hml, hown, hts⟩ (mX11_readsNumber l Ts hTs D k H.size a_t a_t_g a_t_ahead a_t_history a_t_saved a_t_tape a_t_numbers a_t_plan a_t_bestPlan a_t_sort a_t_size a_t_whole a_t_parts q19.2 q12.2.2 t_tape t_taped v_t_above v_t_below v_t_bestAbove v_t_bestBelow v_t_detail v_t_hasSaved v_t_historyMany v_t_impossibleAt v_t_keptDetail v_t_keptReason (.int q1) v_t_thrown (2 : Int32) (1 : Int32) q21 hqq21) u_ml_X11_82 u_im_X11_readsNumber u_se_X11_readsNumber u_in_X11 u_co_X11_readsNumber hd_X11_readsNumber ⟨Nat.le_of_ble_eq_true rfl, Nat.le_of_ble_eq_true rfl⟩ ⟨rfl, rfl⟩ hK hH hA (cutM (isC := [0, 2, 1]) [some 0, some 2, some 1] 3 rfl rfl rfl rfl rfl rfl rfl) rfl rfl rfl rfl hl.1 (Nat.le_of_ble_eq_true rfl) dX11_readsStatement_184 ⟨Nat.le_of_ble_eq_true rfl, Nat.le_of_ble_eq_true rfl⟩ (fun H locs hH => ?_)
                refine lv_if_ne (tgt := 192) hx hb dX11_readsStatement_187 (by decide) (fun c22 => ?_) (fun c22 => ?_)
                · replace h := dc_neg c22 h
                  refine lv_aload_n hx hb dX11_readsStatement_192 rfl (lv_at hl 0 rfl) ?_
                  refine gk_get (ci := 10) (C := RX11) (T := TX11) (N := 26) hx hb hts u_ws_X11 hown hK hH 0 rfl rfl 12 (by decide) u_fl_X11_30 rfl dX11_readsStatement_193 ?_
                  refine lv_iconst (v := 3) hx hb dX11_readsStatement_196 (by decide) ?_
                  refine lv_aload_n hx hb dX11_readsStatement_197 rfl (lv_at hl 0 rfl) ?_
                  refine lv_bipush (v := 33) hx hb dX11_readsStatement_198 (by decide) ?_
                  obtain ⟨q23, hqq23, h⟩ := dc_bind h
                  refine gc_Vi (ws' := [(a_t, .inr (10, [v_t_thrown, .ref a_t_g, .ref a_t_ahead, .ref a_t_history, v_t_historyMany, .ref a_t_saved, v_t_hasSaved, .ref a_t_tape, .int t_taped, .int q23.2, v_t_impossibleAt, .int q1, .ref a_t_numbers, .ref a_t_plan, v_t_detail, v_t_keptReason, v_t_keptDetail, v_t_above, v_t_below, v_t_bestAbove, v_t_bestBelow, .ref a_t_bestPlan, .ref a_t_sort, .ref a_t_size, .ref a_t_whole, .ref a_t_parts])), (a_t_tape, .inl (k 1, 80, .inl t_tape)), (a_t_numbers, .inl (k 0, 4, .inl q21.2.2))]) (As := [.int (33 : Int32)]) (rest := [.int (3 : Int32), .ref a_t_numbers]) (n := 1) (ci := 10) (cq := (RX11, TX11, 26)) hTs ⟨hx, hb, hml, hown, hts⟩ (mX11_eats l Ts hTs D k H.size a_t a_t_g a_t_ahead a_t_history a_t_saved a_t_tape a_t_numbers a_t_plan a_t_bestPlan a_t_sort a_t_size a_t_whole a_t_parts q21.2.1 t_tape t_taped v_t_above v_t_below v_t_bestAbove v_t_bestBelow v_t_detail v_t_hasSaved v_t_historyMany v_t_impossibleAt v_t_keptDetail v_t_keptReason (.int q1) v_t_thrown (33 : Int32) q23 hqq23) u_ml_X11_86 u_im_X11_eats u_se_X11_eats u_in_X11 u_co_X11_eats hd_X11_eats ⟨Nat.le_of_ble_eq_true rfl, Nat.le_of_ble_eq_true rfl⟩ ⟨rfl, rfl⟩ hK hH hA (cutM (isC := [0, 1]) [some 0, some 1, none] 3 rfl rfl rfl rfl rfl rfl rfl) rfl rfl rfl rfl hl.1 (Nat.le_of_ble_eq_true rfl) dX11_readsStatement_200 ⟨Nat.le_of_ble_eq_true rfl, Nat.le_of_ble_eq_true rfl⟩ (fun H locs hH => ?_)
                  refine lv_if_eq (tgt := 210) hx hb dX11_readsStatement_203 (by decide) (fun c24 => ?_) (fun c24 => ?_)
                  · replace h := dc_pos c24 h
                    refine lv_iconst (v := 0) hx hb dX11_readsStatement_210 (by decide) ?_
                    refine gk_iast hx hb hK hH 2 rfl (dk_in (by decide)) dX11_readsStatement_211 [(a_t, .inr (10, [v_t_thrown, .ref a_t_g, .ref a_t_ahead, .ref a_t_history, v_t_historyMany, .ref a_t_saved, v_t_hasSaved, .ref a_t_tape, .int t_taped, .int q23.2, v_t_impossibleAt, .int q1, .ref a_t_numbers, .ref a_t_plan, v_t_detail, v_t_keptReason, v_t_keptDetail, v_t_above, v_t_below, v_t_bestAbove, v_t_bestBelow, .ref a_t_bestPlan, .ref a_t_sort, .ref a_t_size, .ref a_t_whole, .ref a_t_parts])), (a_t_tape, .inl (k 1, 80, .inl t_tape)), (a_t_numbers, .inl (k 0, 4, .inl (upd q21.2.2 (3 : Int32).toNatClampNeg (0 : Int32))))] rfl (fun H locs hH => ?_)
                    refine lv_iconst (v := 1) hx hb dX11_readsStatement_212 (by decide) ?_
                    have h := Option.some.inj h
                    subst h
                    exact ge_z hx hb hr rfl hlocks hQ hK hH hAe rfl dX11_readsStatement_213
                  · replace h := dc_neg c24 h
                    refine lv_iconst (v := 1) hx hb dX11_readsStatement_206 (by decide) ?_
                    refine lv_goto (tgt := 211) hx hb dX11_readsStatement_207 (by decide) ?_
                    refine gk_iast hx hb hK hH 2 rfl (dk_in (by decide)) dX11_readsStatement_211 [(a_t, .inr (10, [v_t_thrown, .ref a_t_g, .ref a_t_ahead, .ref a_t_history, v_t_historyMany, .ref a_t_saved, v_t_hasSaved, .ref a_t_tape, .int t_taped, .int q23.2, v_t_impossibleAt, .int q1, .ref a_t_numbers, .ref a_t_plan, v_t_detail, v_t_keptReason, v_t_keptDetail, v_t_above, v_t_below, v_t_bestAbove, v_t_bestBelow, .ref a_t_bestPlan, .ref a_t_sort, .ref a_t_size, .ref a_t_whole, .ref a_t_parts])), (a_t_tape, .inl (k 1, 80, .inl t_tape)), (a_t_numbers, .inl (k 0, 4, .inl (upd q21.2.2 (3 : Int32).toNatClampNeg (1 : Int32))))] rfl (fun H locs hH => ?_)
                    refine lv_iconst (v := 1) hx hb dX11_readsStatement_212 (by decide) ?_
                    have h := Option.some.inj h
                    subst h
                    exact ge_z hx hb hr rfl hlocks hQ hK hH hAe rfl dX11_readsStatement_213
                · replace h := dc_pos c22 h
                  refine lv_iconst (v := 0) hx hb dX11_readsStatement_190 (by decide) ?_
                  have h := Option.some.inj h
                  subst h
                  exact ge_z hx hb hr rfl hlocks hQ hK hH hAe rfl dX11_readsStatement_191
            · replace h := dc_pos c14 h
              refine lv_aload_n hx hb dX11_readsStatement_148 rfl (lv_at hl 0 rfl) ?_
              refine lv_bipush (v := 58) hx hb dX11_readsStatement_149 (by decide) ?_
              obtain ⟨q15, hqq15, h⟩ := dc_bind h
              refine gc_Vi (ws' := [(a_t, .inr (10, [v_t_thrown, .ref a_t_g, .ref a_t_ahead, .ref a_t_history, v_t_historyMany, .ref a_t_saved, v_t_hasSaved, .ref a_t_tape, .int t_taped, .int q15.2, v_t_impossibleAt, .int q1, .ref a_t_numbers, .ref a_t_plan, v_t_detail, v_t_keptReason, v_t_keptDetail, v_t_above, v_t_below, v_t_bestAbove, v_t_bestBelow, .ref a_t_bestPlan, .ref a_t_sort, .ref a_t_size, .ref a_t_whole, .ref a_t_parts])), (a_t_tape, .inl (k 1, 80, .inl t_tape)), (a_t_numbers, .inl (k 0, 4, .inl q12.2.2))]) (As := [.int (58 : Int32)]) (rest := []) (n := 1) (ci := 10) (cq := (RX11, TX11, 26)) hTs ⟨hx, hb, hml, hown, hts⟩ (mX11_eats l Ts hTs D k H.size a_t a_t_g a_t_ahead a_t_history a_t_saved a_t_tape a_t_numbers a_t_plan a_t_bestPlan a_t_sort a_t_size a_t_whole a_t_parts q12.2.1 t_tape t_taped v_t_above v_t_below v_t_bestAbove v_t_bestBelow v_t_detail v_t_hasSaved v_t_historyMany v_t_impossibleAt v_t_keptDetail v_t_keptReason (.int q1) v_t_thrown (58 : Int32) q15 hqq15) u_ml_X11_86 u_im_X11_eats u_se_X11_eats u_in_X11 u_co_X11_eats hd_X11_eats ⟨Nat.le_of_ble_eq_true rfl, Nat.le_of_ble_eq_true rfl⟩ ⟨rfl, rfl⟩ hK hH hA (cutM (isC := [0, 1]) [some 0, some 1, none] 3 rfl rfl rfl rfl rfl rfl rfl) rfl rfl rfl rfl hl.1 (Nat.le_of_ble_eq_true rfl) dX11_readsStatement_151 ⟨Nat.le_of_ble_eq_true rfl, Nat.le_of_ble_eq_true rfl⟩ (fun H locs hH => ?_)
              refine lv_if_eq (tgt := 170) hx hb dX11_readsStatement_154 (by decide) (fun c16 => ?_) (fun c16 => ?_)
              · replace h := dc_pos c16 h
                refine lv_iconst (v := 0) hx hb dX11_readsStatement_170 (by decide) ?_
                have h := Option.some.inj h
                subst h
                exact ge_z hx hb hr rfl hlocks hQ hK hH hAe rfl dX11_readsStatement_171
              · replace h := dc_neg c16 h
                refine lv_aload_n hx hb dX11_readsStatement_157 rfl (lv_at hl 0 rfl) ?_
                refine lv_iconst (v := 2) hx hb dX11_readsStatement_158 (by decide) ?_
                refine lv_iconst (v := 1) hx hb dX11_readsStatement_159 (by decide) ?_
                obtain ⟨q17, hqq17, h⟩ := dc_bind h
                refine gc_Vi (ws' := [(a_t, .inr (10, [v_t_thrown, .ref a_t_g, .ref a_t_ahead, .ref a_t_history, v_t_historyMany, .ref a_t_saved, v_t_hasSaved, .ref a_t_tape, .int t_taped, .int q17.2.1, v_t_impossibleAt, .int q1, .ref a_t_numbers, .ref a_t_plan, v_t_detail, v_t_keptReason, v_t_keptDetail, v_t_above, v_t_below, v_t_bestAbove, v_t_bestBelow, .ref a_t_bestPlan, .ref a_t_sort, .ref a_t_size, .ref a_t_whole, .ref a_t_parts])), (a_t_tape, .inl (k 1, 80, .inl t_tape)), (a_t_numbers, .inl (k 0, 4, .inl q17.2.2))]) (As := [.int (2 : Int32), .int (1 : Int32)]) (rest := []) (n := 2) (ci := 10) (cq := (RX11, TX11, 26)) hTs ⟨hx, hb, hml, hown, hts⟩ (mX11_readsNumber l Ts hTs D k H.size a_t a_t_g a_t_ahead a_t_history a_t_saved a_t_tape a_t_numbers a_t_plan a_t_bestPlan a_t_sort a_t_size a_t_whole a_t_parts q15.2 q12.2.2 t_tape t_taped v_t_above v_t_below v_t_bestAbove v_t_bestBelow v_t_detail v_t_hasSaved v_t_historyMany v_t_impossibleAt v_t_keptDetail v_t_keptReason (.int q1) v_t_thrown (2 : Int32) (1 : Int32) q17 hqq17) u_ml_X11_82 u_im_X11_readsNumber u_se_X11_readsNumber u_in_X11 u_co_X11_readsNumber hd_X11_readsNumber ⟨Nat.le_of_ble_eq_true rfl, Nat.le_of_ble_eq_true rfl⟩ ⟨rfl, rfl⟩ hK hH hA (cutM (isC := [0, 2, 1]) [some 0, some 2, some 1] 3 rfl rfl rfl rfl rfl rfl rfl) rfl rfl rfl rfl hl.1 (Nat.le_of_ble_eq_true rfl) dX11_readsStatement_160 ⟨Nat.le_of_ble_eq_true rfl, Nat.le_of_ble_eq_true rfl⟩ (fun H locs hH => ?_)
                refine lv_if_eq (tgt := 170) hx hb dX11_readsStatement_163 (by decide) (fun c18 => ?_) (fun c18 => ?_)
                · replace h := dc_pos c18 h
                  refine lv_iconst (v := 0) hx hb dX11_readsStatement_170 (by decide) ?_
                  have h := Option.some.inj h
                  subst h
                  exact ge_z hx hb hr rfl hlocks hQ hK hH hAe rfl dX11_readsStatement_171
                · replace h := dc_neg c18 h
                  refine lv_iconst (v := 1) hx hb dX11_readsStatement_166 (by decide) ?_
                  refine lv_goto (tgt := 171) hx hb dX11_readsStatement_167 (by decide) ?_
                  have h := Option.some.inj h
                  subst h
                  exact ge_z hx hb hr rfl hlocks hQ hK hH hAe rfl dX11_readsStatement_171
          · replace h := dc_pos c13 h
            refine lv_iconst (v := 0) hx hb dX11_readsStatement_137 (by decide) ?_
            have h := Option.some.inj h
            subst h
            exact ge_z hx hb hr rfl hlocks hQ hK hH hAe rfl dX11_readsStatement_138
      · replace h := dc_pos c5 h
        refine lv_aload_n hx hb dX11_readsStatement_81 rfl (lv_at hl 0 rfl) ?_
        refine lv_bipush (v := 58) hx hb dX11_readsStatement_82 (by decide) ?_
        obtain ⟨q6, hqq6, h⟩ := dc_bind h
        refine gc_Vi (ws' := [(a_t, .inr (10, [v_t_thrown, .ref a_t_g, .ref a_t_ahead, .ref a_t_history, v_t_historyMany, .ref a_t_saved, v_t_hasSaved, .ref a_t_tape, .int t_taped, .int q6.2, v_t_impossibleAt, .int q1, .ref a_t_numbers, .ref a_t_plan, v_t_detail, v_t_keptReason, v_t_keptDetail, v_t_above, v_t_below, v_t_bestAbove, v_t_bestBelow, .ref a_t_bestPlan, .ref a_t_sort, .ref a_t_size, .ref a_t_whole, .ref a_t_parts])), (a_t_tape, .inl (k 1, 80, .inl t_tape)), (a_t_numbers, .inl (k 0, 4, .inl q3.2.2))]) (As := [.int (58 : Int32)]) (rest := []) (n := 1) (ci := 10) (cq := (RX11, TX11, 26)) hTs ⟨hx, hb, hml, hown, hts⟩ (mX11_eats l Ts hTs D k H.size a_t a_t_g a_t_ahead a_t_history a_t_saved a_t_tape a_t_numbers a_t_plan a_t_bestPlan a_t_sort a_t_size a_t_whole a_t_parts q3.2.1 t_tape t_taped v_t_above v_t_below v_t_bestAbove v_t_bestBelow v_t_detail v_t_hasSaved v_t_historyMany v_t_impossibleAt v_t_keptDetail v_t_keptReason (.int q1) v_t_thrown (58 : Int32) q6 hqq6) u_ml_X11_86 u_im_X11_eats u_se_X11_eats u_in_X11 u_co_X11_eats hd_X11_eats ⟨Nat.le_of_ble_eq_true rfl, Nat.le_of_ble_eq_true rfl⟩ ⟨rfl, rfl⟩ hK hH hA (cutM (isC := [0, 1]) [some 0, some 1, none] 3 rfl rfl rfl rfl rfl rfl rfl) rfl rfl rfl rfl hl.1 (Nat.le_of_ble_eq_true rfl) dX11_readsStatement_84 ⟨Nat.le_of_ble_eq_true rfl, Nat.le_of_ble_eq_true rfl⟩ (fun H locs hH => ?_)
        refine lv_if_eq (tgt := 103) hx hb dX11_readsStatement_87 (by decide) (fun c7 => ?_) (fun c7 => ?_)
        · replace h := dc_pos c7 h
          refine lv_iconst (v := 0) hx hb dX11_readsStatement_103 (by decide) ?_
          have h := Option.some.inj h
          subst h
          exact ge_z hx hb hr rfl hlocks hQ hK hH hAe rfl dX11_readsStatement_104
        · replace h := dc_neg c7 h
          refine lv_aload_n hx hb dX11_readsStatement_90 rfl (lv_at hl 0 rfl) ?_
          refine lv_iconst (v := 2) hx hb dX11_readsStatement_91 (by decide) ?_
          refine lv_iconst (v := 1) hx hb dX11_readsStatement_92 (by decide) ?_
          obtain ⟨q8, hqq8, h⟩ := dc_bind h
          refine gc_Vi (ws' := [(a_t, .inr (10, [v_t_thrown, .ref a_t_g, .ref a_t_ahead, .ref a_t_history, v_t_historyMany, .ref a_t_saved, v_t_hasSaved, .ref a_t_tape, .int t_taped, .int q8.2.1, v_t_impossibleAt, .int q1, .ref a_t_numbers, .ref a_t_plan, v_t_detail, v_t_keptReason, v_t_keptDetail, v_t_above, v_t_below, v_t_bestAbove, v_t_bestBelow, .ref a_t_bestPlan, .ref a_t_sort, .ref a_t_size, .ref a_t_whole, .ref a_t_parts])), (a_t_tape, .inl (k 1, 80, .inl t_tape)), (a_t_numbers, .inl (k 0, 4, .inl q8.2.2))]) (As := [.int (2 : Int32), .int (1 : Int32)]) (rest := []) (n := 2) (ci := 10) (cq := (RX11, TX11, 26)) hTs ⟨hx, hb, hml, hown, hts⟩ (mX11_readsNumber l Ts hTs D k H.size a_t a_t_g a_t_ahead a_t_history a_t_saved a_t_tape a_t_numbers a_t_plan a_t_bestPlan a_t_sort a_t_size a_t_whole a_t_parts q6.2 q3.2.2 t_tape t_taped v_t_above v_t_below v_t_bestAbove v_t_bestBelow v_t_detail v_t_hasSaved v_t_historyMany v_t_impossibleAt v_t_keptDetail v_t_keptReason (.int q1) v_t_thrown (2 : Int32) (1 : Int32) q8 hqq8) u_ml_X11_82 u_im_X11_readsNumber u_se_X11_readsNumber u_in_X11 u_co_X11_readsNumber hd_X11_readsNumber ⟨Nat.le_of_ble_eq_true rfl, Nat.le_of_ble_eq_true rfl⟩ ⟨rfl, rfl⟩ hK hH hA (cutM (isC := [0, 2, 1]) [some 0, some 2, some 1] 3 rfl rfl rfl rfl rfl rfl rfl) rfl rfl rfl rfl hl.1 (Nat.le_of_ble_eq_true rfl) dX11_readsStatement_93 ⟨Nat.le_of_ble_eq_true rfl, Nat.le_of_ble_eq_true rfl⟩ (fun H locs hH => ?_)
          refine lv_if_eq (tgt := 103) hx hb dX11_readsStatement_96 (by decide) (fun c9 => ?_) (fun c9 => ?_)
          · replace h := dc_pos c9 h
            refine lv_iconst (v := 0) hx hb dX11_readsStatement_103 (by decide) ?_
            have h := Option.some.inj h
            subst h
            exact ge_z hx hb hr rfl hlocks hQ hK hH hAe rfl dX11_readsStatement_104
          · replace h := dc_neg c9 h
            refine lv_iconst (v := 1) hx hb dX11_readsStatement_99 (by decide) ?_
            refine lv_goto (tgt := 104) hx hb dX11_readsStatement_100 (by decide) ?_
            have h := Option.some.inj h
            subst h
            exact ge_z hx hb hr rfl hlocks hQ hK hH hAe rfl dX11_readsStatement_104
    · replace h := dc_pos c4 h
      refine lv_iconst (v := 0) hx hb dX11_readsStatement_70 (by decide) ?_
      have h := Option.some.inj h
      subst h
      exact ge_z hx hb hr rfl hlocks hQ hK hH hAe rfl dX11_readsStatement_71
  · replace h := dc_neg c2 h
    refine lv_aload_n hx hb dX11_readsStatement_17 rfl (lv_at hl 0 rfl) ?_
    refine gk_get (ci := 10) (C := RX11) (T := TX11) (N := 26) hx hb hts u_ws_X11 hown hK hH 0 rfl rfl 11 (by decide) u_fl_X11_79 rfl dX11_readsStatement_18 ?_
    refine lv_bipush (v := 98) hx hb dX11_readsStatement_21 (by decide) ?_
    refine lv_icmp_eq (tgt := 37) hx hb dX11_readsStatement_23 (by decide) (fun c25 => ?_) (fun c25 => ?_)
    · replace h := dc_pos c25 h
      refine lv_aload_n hx hb dX11_readsStatement_37 rfl (lv_at hl 0 rfl) ?_
      refine lv_dup hx hb dX11_readsStatement_38 rfl ?_
      refine gk_get (ci := 10) (C := RX11) (T := TX11) (N := 26) hx hb hts u_ws_X11 hown hK hH 0 rfl rfl 9 (by decide) u_fl_X11_72 rfl dX11_readsStatement_39 ?_
      refine lv_iconst (v := 1) hx hb dX11_readsStatement_42 (by decide) ?_
      refine lv_iadd hx hb dX11_readsStatement_43 ?_
      refine gk_put (ci := 10) (C := RX11) (T := TX11) (N := 26) hx hb hts u_ws_X11 tyX11_ok nmX11 hown hK hH 0 rfl rfl 9 (by decide) u_fl_X11_72 rfl rfl rfl (Nat.le_of_ble_eq_true rfl) dX11_readsStatement_44 [(a_t, .inr (10, [v_t_thrown, .ref a_t_g, .ref a_t_ahead, .ref a_t_history, v_t_historyMany, .ref a_t_saved, v_t_hasSaved, .ref a_t_tape, .int t_taped, .int (t_at + (1 : Int32)), v_t_impossibleAt, .int q1, .ref a_t_numbers, .ref a_t_plan, v_t_detail, v_t_keptReason, v_t_keptDetail, v_t_above, v_t_below, v_t_bestAbove, v_t_bestBelow, .ref a_t_bestPlan, .ref a_t_sort, .ref a_t_size, .ref a_t_whole, .ref a_t_parts])), (a_t_tape, .inl (k 1, 80, .inl t_tape)), (a_t_numbers, .inl (k 0, 4, .inl t_numbers))] rfl (fun H locs hH => ?_)
      refine lv_aload_n hx hb dX11_readsStatement_47 rfl (lv_at hl 0 rfl) ?_
      refine gk_get (ci := 10) (C := RX11) (T := TX11) (N := 26) hx hb hts u_ws_X11 hown hK hH 0 rfl rfl 12 (by decide) u_fl_X11_30 rfl dX11_readsStatement_48 ?_
      refine lv_iconst (v := 2) hx hb dX11_readsStatement_51 (by decide) ?_
      refine lv_iconst (v := -1) hx hb dX11_readsStatement_52 (by decide) ?_
      refine gk_iast hx hb hK hH 2 rfl (dk_in (by decide)) dX11_readsStatement_53 [(a_t, .inr (10, [v_t_thrown, .ref a_t_g, .ref a_t_ahead, .ref a_t_history, v_t_historyMany, .ref a_t_saved, v_t_hasSaved, .ref a_t_tape, .int t_taped, .int (t_at + (1 : Int32)), v_t_impossibleAt, .int q1, .ref a_t_numbers, .ref a_t_plan, v_t_detail, v_t_keptReason, v_t_keptDetail, v_t_above, v_t_below, v_t_bestAbove, v_t_bestBelow, .ref a_t_bestPlan, .ref a_t_sort, .ref a_t_size, .ref a_t_whole, .ref a_t_parts])), (a_t_tape, .inl (k 1, 80, .inl t_tape)), (a_t_numbers, .inl (k 0, 4, .inl (upd t_numbers (2 : Int32).toNatClampNeg (-1 : Int32))))] rfl (fun H locs hH => ?_)
      refine lv_aload_n hx hb dX11_readsStatement_54 rfl (lv_at hl 0 rfl) ?_
      refine gk_get (ci := 10) (C := RX11) (T := TX11) (N := 26) hx hb hts u_ws_X11 hown hK hH 0 rfl rfl 12 (by decide) u_fl_X11_30 rfl dX11_readsStatement_55 ?_
      refine lv_iconst (v := 3) hx hb dX11_readsStatement_58 (by decide) ?_
      refine lv_iconst (v := 0) hx hb dX11_readsStatement_59 (by decide) ?_
      refine gk_iast hx hb hK hH 2 rfl (dk_in (by decide)) dX11_readsStatement_60 [(a_t, .inr (10, [v_t_thrown, .ref a_t_g, .ref a_t_ahead, .ref a_t_history, v_t_historyMany, .ref a_t_saved, v_t_hasSaved, .ref a_t_tape, .int t_taped, .int (t_at + (1 : Int32)), v_t_impossibleAt, .int q1, .ref a_t_numbers, .ref a_t_plan, v_t_detail, v_t_keptReason, v_t_keptDetail, v_t_above, v_t_below, v_t_bestAbove, v_t_bestBelow, .ref a_t_bestPlan, .ref a_t_sort, .ref a_t_size, .ref a_t_whole, .ref a_t_parts])), (a_t_tape, .inl (k 1, 80, .inl t_tape)), (a_t_numbers, .inl (k 0, 4, .inl (upd (upd t_numbers (2 : Int32).toNatClampNeg (-1 : Int32)) (3 : Int32).toNatClampNeg (0 : Int32))))] rfl (fun H locs hH => ?_)
      refine lv_aload_n hx hb dX11_readsStatement_61 rfl (lv_at hl 0 rfl) ?_
      refine lv_iconst (v := 0) hx hb dX11_readsStatement_62 (by decide) ?_
      refine lv_iconst (v := 2) hx hb dX11_readsStatement_63 (by decide) ?_
      obtain ⟨q26, hqq26, h⟩ := dc_bind h
      refine gc_Vi (ws' := [(a_t, .inr (10, [v_t_thrown, .ref a_t_g, .ref a_t_ahead, .ref a_t_history, v_t_historyMany, .ref a_t_saved, v_t_hasSaved, .ref a_t_tape, .int t_taped, .int q26.2.1, v_t_impossibleAt, .int q1, .ref a_t_numbers, .ref a_t_plan, v_t_detail, v_t_keptReason, v_t_keptDetail, v_t_above, v_t_below, v_t_bestAbove, v_t_bestBelow, .ref a_t_bestPlan, .ref a_t_sort, .ref a_t_size, .ref a_t_whole, .ref a_t_parts])), (a_t_tape, .inl (k 1, 80, .inl t_tape)), (a_t_numbers, .inl (k 0, 4, .inl q26.2.2))]) (As := [.int (0 : Int32), .int (2 : Int32)]) (rest := []) (n := 2) (ci := 10) (cq := (RX11, TX11, 26)) hTs ⟨hx, hb, hml, hown, hts⟩ (mX11_readsNumber l Ts hTs D k H.size a_t a_t_g a_t_ahead a_t_history a_t_saved a_t_tape a_t_numbers a_t_plan a_t_bestPlan a_t_sort a_t_size a_t_whole a_t_parts (t_at + (1 : Int32)) (upd (upd t_numbers (2 : Int32).toNatClampNeg (-1 : Int32)) (3 : Int32).toNatClampNeg (0 : Int32)) t_tape t_taped v_t_above v_t_below v_t_bestAbove v_t_bestBelow v_t_detail v_t_hasSaved v_t_historyMany v_t_impossibleAt v_t_keptDetail v_t_keptReason (.int q1) v_t_thrown (0 : Int32) (2 : Int32) q26 hqq26) u_ml_X11_82 u_im_X11_readsNumber u_se_X11_readsNumber u_in_X11 u_co_X11_readsNumber hd_X11_readsNumber ⟨Nat.le_of_ble_eq_true rfl, Nat.le_of_ble_eq_true rfl⟩ ⟨rfl, rfl⟩ hK hH hA (cutM (isC := [0, 2, 1]) [some 0, some 2, some 1] 3 rfl rfl rfl rfl rfl rfl rfl) rfl rfl rfl rfl hl.1 (Nat.le_of_ble_eq_true rfl) dX11_readsStatement_64 ⟨Nat.le_of_ble_eq_true rfl, Nat.le_of_ble_eq_true rfl⟩ (fun H locs hH => ?_)
      refine lv_if_ne (tgt := 72) hx hb dX11_readsStatement_67 (by decide) (fun c27 => ?_) (fun c27 => ?_)
      · replace h := dc_neg c27 h
        refine lv_aload_n hx hb dX11_readsStatement_72 rfl (lv_at hl 0 rfl) ?_
        refine gk_get (ci := 10) (C := RX11) (T := TX11) (N := 26) hx hb hts u_ws_X11 hown hK hH 0 rfl rfl 11 (by decide) u_fl_X11_79 rfl dX11_readsStatement_73 ?_
        refine lv_bipush (v := 111) hx hb dX11_readsStatement_76 (by decide) ?_
        refine lv_icmp_ne (tgt := 105) hx hb dX11_readsStatement_78 (by decide) (fun c28 => ?_) (fun c28 => ?_)
        · replace h := dc_neg c28 h
          refine lv_aload_n hx hb dX11_readsStatement_105 rfl (lv_at hl 0 rfl) ?_
          refine lv_aload_n hx hb dX11_readsStatement_106 rfl (lv_at hl 0 rfl) ?_
          refine gk_get (ci := 10) (C := RX11) (T := TX11) (N := 26) hx hb hts u_ws_X11 hown hK hH 0 rfl rfl 11 (by decide) u_fl_X11_79 rfl dX11_readsStatement_107 ?_
          refine lv_bipush (v := 117) hx hb dX11_readsStatement_110 (by decide) ?_
          refine lv_icmp_ne (tgt := 120) hx hb dX11_readsStatement_112 (by decide) (fun _ => ?_) (fun c => absurd c c2)
          refine lv_bipush (v := 45) hx hb dX11_readsStatement_120 (by decide) ?_
          obtain ⟨q33, hqq33, h⟩ := dc_bind h
          refine gc_Vi (ws' := [(a_t, .inr (10, [v_t_thrown, .ref a_t_g, .ref a_t_ahead, .ref a_t_history, v_t_historyMany, .ref a_t_saved, v_t_hasSaved, .ref a_t_tape, .int t_taped, .int q33.2, v_t_impossibleAt, .int q1, .ref a_t_numbers, .ref a_t_plan, v_t_detail, v_t_keptReason, v_t_keptDetail, v_t_above, v_t_below, v_t_bestAbove, v_t_bestBelow, .ref a_t_bestPlan, .ref a_t_sort, .ref a_t_size, .ref a_t_whole, .ref a_t_parts])), (a_t_tape, .inl (k 1, 80, .inl t_tape)), (a_t_numbers, .inl (k 0, 4, .inl q26.2.2))]) (As := [.int (45 : Int32)]) (rest := []) (n := 1) (ci := 10) (cq := (RX11, TX11, 26)) hTs ⟨hx, hb, hml, hown, hts⟩ (mX11_eats l Ts hTs D k H.size a_t a_t_g a_t_ahead a_t_history a_t_saved a_t_tape a_t_numbers a_t_plan a_t_bestPlan a_t_sort a_t_size a_t_whole a_t_parts q26.2.1 t_tape t_taped v_t_above v_t_below v_t_bestAbove v_t_bestBelow v_t_detail v_t_hasSaved v_t_historyMany v_t_impossibleAt v_t_keptDetail v_t_keptReason (.int q1) v_t_thrown (45 : Int32) q33 hqq33) u_ml_X11_86 u_im_X11_eats u_se_X11_eats u_in_X11 u_co_X11_eats hd_X11_eats ⟨Nat.le_of_ble_eq_true rfl, Nat.le_of_ble_eq_true rfl⟩ ⟨rfl, rfl⟩ hK hH hA (cutM (isC := [0, 1]) [some 0, some 1, none] 3 rfl rfl rfl rfl rfl rfl rfl) rfl rfl rfl rfl hl.1 (Nat.le_of_ble_eq_true rfl) dX11_readsStatement_122 ⟨Nat.le_of_ble_eq_true rfl, Nat.le_of_ble_eq_true rfl⟩ (fun H locs hH => ?_)
          refine lv_if_eq (tgt := 137) hx hb dX11_readsStatement_125 (by decide) (fun c34 => ?_) (fun c34 => ?_)
          · replace h := dc_pos c34 h
            refine lv_iconst (v := 0) hx hb dX11_readsStatement_137 (by decide) ?_
            have h := Option.some.inj h
            subst h
            exact ge_z hx hb hr rfl hlocks hQ hK hH hAe rfl dX11_readsStatement_138
          · replace h := dc_neg c34 h
            refine lv_aload_n hx hb dX11_readsStatement_128 rfl (lv_at hl 0 rfl) ?_
            refine lv_iconst (v := 1) hx hb dX11_readsStatement_129 (by decide) ?_
            refine lv_iconst (v := 2) hx hb dX11_readsStatement_130 (by decide) ?_
            obtain ⟨q35, hqq35, h⟩ := dc_bind h
            refine gc_Vi (ws' := [(a_t, .inr (10, [v_t_thrown, .ref a_t_g, .ref a_t_ahead, .ref a_t_history, v_t_historyMany, .ref a_t_saved, v_t_hasSaved, .ref a_t_tape, .int t_taped, .int q35.2.1, v_t_impossibleAt, .int q1, .ref a_t_numbers, .ref a_t_plan, v_t_detail, v_t_keptReason, v_t_keptDetail, v_t_above, v_t_below, v_t_bestAbove, v_t_bestBelow, .ref a_t_bestPlan, .ref a_t_sort, .ref a_t_size, .ref a_t_whole, .ref a_t_parts])), (a_t_tape, .inl (k 1, 80, .inl t_tape)), (a_t_numbers, .inl (k 0, 4, .inl q35.2.2))]) (As := [.int (1 : Int32), .int (2 : Int32)]) (rest := []) (n := 2) (ci := 10) (cq := (RX11, TX11, 26)) hTs ⟨hx, hb, hml, hown, hts⟩ (mX11_readsNumber l Ts hTs D k H.size a_t a_t_g a_t_ahead a_t_history a_t_saved a_t_tape a_t_numbers a_t_plan a_t_bestPlan a_t_sort a_t_size a_t_whole a_t_parts q33.2 q26.2.2 t_tape t_taped v_t_above v_t_below v_t_bestAbove v_t_bestBelow v_t_detail v_t_hasSaved v_t_historyMany v_t_impossibleAt v_t_keptDetail v_t_keptReason (.int q1) v_t_thrown (1 : Int32) (2 : Int32) q35 hqq35) u_ml_X11_82 u_im_X11_readsNumber u_se_X11_readsNumber u_in_X11 u_co_X11_readsNumber hd_X11_readsNumber ⟨Nat.le_of_ble_eq_true rfl, Nat.le_of_ble_eq_true rfl⟩ ⟨rfl, rfl⟩ hK hH hA (cutM (isC := [0, 2, 1]) [some 0, some 2, some 1] 3 rfl rfl rfl rfl rfl rfl rfl) rfl rfl rfl rfl hl.1 (Nat.le_of_ble_eq_true rfl) dX11_readsStatement_131 ⟨Nat.le_of_ble_eq_true rfl, Nat.le_of_ble_eq_true rfl⟩ (fun H locs hH => ?_)
            refine lv_if_ne (tgt := 139) hx hb dX11_readsStatement_134 (by decide) (fun c36 => ?_) (fun c36 => ?_)
            · replace h := dc_neg c36 h
              refine lv_aload_n hx hb dX11_readsStatement_139 rfl (lv_at hl 0 rfl) ?_
              refine gk_get (ci := 10) (C := RX11) (T := TX11) (N := 26) hx hb hts u_ws_X11 hown hK hH 0 rfl rfl 11 (by decide) u_fl_X11_79 rfl dX11_readsStatement_140 ?_
              refine lv_bipush (v := 98) hx hb dX11_readsStatement_143 (by decide) ?_
              refine lv_icmp_ne (tgt := 172) hx hb dX11_readsStatement_145 (by decide) (fun c => absurd c25 c) (fun _ => ?_)
              refine lv_aload_n hx hb dX11_readsStatement_148 rfl (lv_at hl 0 rfl) ?_
              refine lv_bipush (v := 58) hx hb dX11_readsStatement_149 (by decide) ?_
              obtain ⟨q37, hqq37, h⟩ := dc_bind h
              refine gc_Vi (ws' := [(a_t, .inr (10, [v_t_thrown, .ref a_t_g, .ref a_t_ahead, .ref a_t_history, v_t_historyMany, .ref a_t_saved, v_t_hasSaved, .ref a_t_tape, .int t_taped, .int q37.2, v_t_impossibleAt, .int q1, .ref a_t_numbers, .ref a_t_plan, v_t_detail, v_t_keptReason, v_t_keptDetail, v_t_above, v_t_below, v_t_bestAbove, v_t_bestBelow, .ref a_t_bestPlan, .ref a_t_sort, .ref a_t_size, .ref a_t_whole, .ref a_t_parts])), (a_t_tape, .inl (k 1, 80, .inl t_tape)), (a_t_numbers, .inl (k 0, 4, .inl q35.2.2))]) (As := [.int (58 : Int32)]) (rest := []) (n := 1) (ci := 10) (cq := (RX11, TX11, 26)) hTs ⟨hx, hb, hml, hown, hts⟩ (mX11_eats l Ts hTs D k H.size a_t a_t_g a_t_ahead a_t_history a_t_saved a_t_tape a_t_numbers a_t_plan a_t_bestPlan a_t_sort a_t_size a_t_whole a_t_parts q35.2.1 t_tape t_taped v_t_above v_t_below v_t_bestAbove v_t_bestBelow v_t_detail v_t_hasSaved v_t_historyMany v_t_impossibleAt v_t_keptDetail v_t_keptReason (.int q1) v_t_thrown (58 : Int32) q37 hqq37) u_ml_X11_86 u_im_X11_eats u_se_X11_eats u_in_X11 u_co_X11_eats hd_X11_eats ⟨Nat.le_of_ble_eq_true rfl, Nat.le_of_ble_eq_true rfl⟩ ⟨rfl, rfl⟩ hK hH hA (cutM (isC := [0, 1]) [some 0, some 1, none] 3 rfl rfl rfl rfl rfl rfl rfl) rfl rfl rfl rfl hl.1 (Nat.le_of_ble_eq_true rfl) dX11_readsStatement_151 ⟨Nat.le_of_ble_eq_true rfl, Nat.le_of_ble_eq_true rfl⟩ (fun H locs hH => ?_)
              refine lv_if_eq (tgt := 170) hx hb dX11_readsStatement_154 (by decide) (fun c38 => ?_) (fun c38 => ?_)
              · replace h := dc_pos c38 h
                refine lv_iconst (v := 0) hx hb dX11_readsStatement_170 (by decide) ?_
                have h := Option.some.inj h
                subst h
                exact ge_z hx hb hr rfl hlocks hQ hK hH hAe rfl dX11_readsStatement_171
              · replace h := dc_neg c38 h
                refine lv_aload_n hx hb dX11_readsStatement_157 rfl (lv_at hl 0 rfl) ?_
                refine lv_iconst (v := 2) hx hb dX11_readsStatement_158 (by decide) ?_
                refine lv_iconst (v := 1) hx hb dX11_readsStatement_159 (by decide) ?_
                obtain ⟨q39, hqq39, h⟩ := dc_bind h
                refine gc_Vi (ws' := [(a_t, .inr (10, [v_t_thrown, .ref a_t_g, .ref a_t_ahead, .ref a_t_history, v_t_historyMany, .ref a_t_saved, v_t_hasSaved, .ref a_t_tape, .int t_taped, .int q39.2.1, v_t_impossibleAt, .int q1, .ref a_t_numbers, .ref a_t_plan, v_t_detail, v_t_keptReason, v_t_keptDetail, v_t_above, v_t_below, v_t_bestAbove, v_t_bestBelow, .ref a_t_bestPlan, .ref a_t_sort, .ref a_t_size, .ref a_t_whole, .ref a_t_parts])), (a_t_tape, .inl (k 1, 80, .inl t_tape)), (a_t_numbers, .inl (k 0, 4, .inl q39.2.2))]) (As := [.int (2 : Int32), .int (1 : Int32)]) (rest := []) (n := 2) (ci := 10) (cq := (RX11, TX11, 26)) hTs ⟨hx, hb, hml, hown, hts⟩ (mX11_readsNumber l Ts hTs D k H.size a_t a_t_g a_t_ahead a_t_history a_t_saved a_t_tape a_t_numbers a_t_plan a_t_bestPlan a_t_sort a_t_size a_t_whole a_t_parts q37.2 q35.2.2 t_tape t_taped v_t_above v_t_below v_t_bestAbove v_t_bestBelow v_t_detail v_t_hasSaved v_t_historyMany v_t_impossibleAt v_t_keptDetail v_t_keptReason (.int q1) v_t_thrown (2 : Int32) (1 : Int32) q39 hqq39) u_ml_X11_82 u_im_X11_readsNumber u_se_X11_readsNumber u_in_X11 u_co_X11_readsNumber hd_X11_readsNumber ⟨Nat.le_of_ble_eq_true rfl, Nat.le_of_ble_eq_true rfl⟩ ⟨rfl, rfl⟩ hK hH hA (cutM (isC := [0, 2, 1]) [some 0, some 2, some 1] 3 rfl rfl rfl rfl rfl rfl rfl) rfl rfl rfl rfl hl.1 (Nat.le_of_ble_eq_true rfl) dX11_readsStatement_160 ⟨Nat.le_of_ble_eq_true rfl, Nat.le_of_ble_eq_true rfl⟩ (fun H locs hH => ?_)
                refine lv_if_eq (tgt := 170) hx hb dX11_readsStatement_163 (by decide) (fun c40 => ?_) (fun c40 => ?_)
                · replace h := dc_pos c40 h
                  refine lv_iconst (v := 0) hx hb dX11_readsStatement_170 (by decide) ?_
                  have h := Option.some.inj h
                  subst h
                  exact ge_z hx hb hr rfl hlocks hQ hK hH hAe rfl dX11_readsStatement_171
                · replace h := dc_neg c40 h
                  refine lv_iconst (v := 1) hx hb dX11_readsStatement_166 (by decide) ?_
                  refine lv_goto (tgt := 171) hx hb dX11_readsStatement_167 (by decide) ?_
                  have h := Option.some.inj h
                  subst h
                  exact ge_z hx hb hr rfl hlocks hQ hK hH hAe rfl dX11_readsStatement_171
            · replace h := dc_pos c36 h
              refine lv_iconst (v := 0) hx hb dX11_readsStatement_137 (by decide) ?_
              have h := Option.some.inj h
              subst h
              exact ge_z hx hb hr rfl hlocks hQ hK hH hAe rfl dX11_readsStatement_138
        · replace h := dc_pos c28 h
          refine lv_aload_n hx hb dX11_readsStatement_81 rfl (lv_at hl 0 rfl) ?_
          refine lv_bipush (v := 58) hx hb dX11_readsStatement_82 (by decide) ?_
          obtain ⟨q29, hqq29, h⟩ := dc_bind h
          refine gc_Vi (ws' := [(a_t, .inr (10, [v_t_thrown, .ref a_t_g, .ref a_t_ahead, .ref a_t_history, v_t_historyMany, .ref a_t_saved, v_t_hasSaved, .ref a_t_tape, .int t_taped, .int q29.2, v_t_impossibleAt, .int q1, .ref a_t_numbers, .ref a_t_plan, v_t_detail, v_t_keptReason, v_t_keptDetail, v_t_above, v_t_below, v_t_bestAbove, v_t_bestBelow, .ref a_t_bestPlan, .ref a_t_sort, .ref a_t_size, .ref a_t_whole, .ref a_t_parts])), (a_t_tape, .inl (k 1, 80, .inl t_tape)), (a_t_numbers, .inl (k 0, 4, .inl q26.2.2))]) (As := [.int (58 : Int32)]) (rest := []) (n := 1) (ci := 10) (cq := (RX11, TX11, 26)) hTs ⟨hx, hb, hml, hown, hts⟩ (mX11_eats l Ts hTs D k H.size a_t a_t_g a_t_ahead a_t_history a_t_saved a_t_tape a_t_numbers a_t_plan a_t_bestPlan a_t_sort a_t_size a_t_whole a_t_parts q26.2.1 t_tape t_taped v_t_above v_t_below v_t_bestAbove v_t_bestBelow v_t_detail v_t_hasSaved v_t_historyMany v_t_impossibleAt v_t_keptDetail v_t_keptReason (.int q1) v_t_thrown (58 : Int32) q29 hqq29) u_ml_X11_86 u_im_X11_eats u_se_X11_eats u_in_X11 u_co_X11_eats hd_X11_eats ⟨Nat.le_of_ble_eq_true rfl, Nat.le_of_ble_eq_true rfl⟩ ⟨rfl, rfl⟩ hK hH hA (cutM (isC := [0, 1]) [some 0, some 1, none] 3 rfl rfl rfl rfl rfl rfl rfl) rfl rfl rfl rfl hl.1 (Nat.le_of_ble_eq_true rfl) dX11_readsStatement_84 ⟨Nat.le_of_ble_eq_true rfl, Nat.le_of_ble_eq_true rfl⟩ (fun H locs hH => ?_)
          refine lv_if_eq (tgt := 103) hx hb dX11_readsStatement_87 (by decide) (fun c30 => ?_) (fun c30 => ?_)
          · replace h := dc_pos c30 h
            refine lv_iconst (v := 0) hx hb dX11_readsStatement_103 (by decide) ?_
            have h := Option.some.inj h
            subst h
            exact ge_z hx hb hr rfl hlocks hQ hK hH hAe rfl dX11_readsStatement_104
          · replace h := dc_neg c30 h
            refine lv_aload_n hx hb dX11_readsStatement_90 rfl (lv_at hl 0 rfl) ?_
            refine lv_iconst (v := 2) hx hb dX11_readsStatement_91 (by decide) ?_
            refine lv_iconst (v := 1) hx hb dX11_readsStatement_92 (by decide) ?_
            obtain ⟨q31, hqq31, h⟩ := dc_bind h
            refine gc_Vi (ws' := [(a_t, .inr (10, [v_t_thrown, .ref a_t_g, .ref a_t_ahead, .ref a_t_history, v_t_historyMany, .ref a_t_saved, v_t_hasSaved, .ref a_t_tape, .int t_taped, .int q31.2.1, v_t_impossibleAt, .int q1, .ref a_t_numbers, .ref a_t_plan, v_t_detail, v_t_keptReason, v_t_keptDetail, v_t_above, v_t_below, v_t_bestAbove, v_t_bestBelow, .ref a_t_bestPlan, .ref a_t_sort, .ref a_t_size, .ref a_t_whole, .ref a_t_parts])), (a_t_tape, .inl (k 1, 80, .inl t_tape)), (a_t_numbers, .inl (k 0, 4, .inl q31.2.2))]) (As := [.int (2 : Int32), .int (1 : Int32)]) (rest := []) (n := 2) (ci := 10) (cq := (RX11, TX11, 26)) hTs ⟨hx, hb, hml, hown, hts⟩ (mX11_readsNumber l Ts hTs D k H.size a_t a_t_g a_t_ahead a_t_history a_t_saved a_t_tape a_t_numbers a_t_plan a_t_bestPlan a_t_sort a_t_size a_t_whole a_t_parts q29.2 q26.2.2 t_tape t_taped v_t_above v_t_below v_t_bestAbove v_t_bestBelow v_t_detail v_t_hasSaved v_t_historyMany v_t_impossibleAt v_t_keptDetail v_t_keptReason (.int q1) v_t_thrown (2 : Int32) (1 : Int32) q31 hqq31) u_ml_X11_82 u_im_X11_readsNumber u_se_X11_readsNumber u_in_X11 u_co_X11_readsNumber hd_X11_readsNumber ⟨Nat.le_of_ble_eq_true rfl, Nat.le_of_ble_eq_true rfl⟩ ⟨rfl, rfl⟩ hK hH hA (cutM (isC := [0, 2, 1]) [some 0, some 2, some 1] 3 rfl rfl rfl rfl rfl rfl rfl) rfl rfl rfl rfl hl.1 (Nat.le_of_ble_eq_true rfl) dX11_readsStatement_93 ⟨Nat.le_of_ble_eq_true rfl, Nat.le_of_ble_eq_true rfl⟩ (fun H locs hH => ?_)
            refine lv_if_eq (tgt := 103) hx hb dX11_readsStatement_96 (by decide) (fun c32 => ?_) (fun c32 => ?_)
            · replace h := dc_pos c32 h
              refine lv_iconst (v := 0) hx hb dX11_readsStatement_103 (by decide) ?_
              have h := Option.some.inj h
              subst h
              exact ge_z hx hb hr rfl hlocks hQ hK hH hAe rfl dX11_readsStatement_104
            · replace h := dc_neg c32 h
              refine lv_iconst (v := 1) hx hb dX11_readsStatement_99 (by decide) ?_
              refine lv_goto (tgt := 104) hx hb dX11_readsStatement_100 (by decide) ?_
              have h := Option.some.inj h
              subst h
              exact ge_z hx hb hr rfl hlocks hQ hK hH hAe rfl dX11_readsStatement_104
      · replace h := dc_pos c27 h
        refine lv_iconst (v := 0) hx hb dX11_readsStatement_70 (by decide) ?_
        have h := Option.some.inj h
        subst h
        exact ge_z hx hb hr rfl hlocks hQ hK hH hAe rfl dX11_readsStatement_71
    · replace h := dc_neg c25 h
      refine lv_aload_n hx hb dX11_readsStatement_26 rfl (lv_at hl 0 rfl) ?_
      refine gk_get (ci := 10) (C := RX11) (T := TX11) (N := 26) hx hb hts u_ws_X11 hown hK hH 0 rfl rfl 11 (by decide) u_fl_X11_79 rfl dX11_readsStatement_27 ?_
      refine lv_bipush (v := 111) hx hb dX11_readsStatement_30 (by decide) ?_
      refine lv_icmp_eq (tgt := 37) hx hb dX11_readsStatement_32 (by decide) (fun c41 => ?_) (fun c41 => ?_)
      · replace h := dc_pos c41 h
        refine lv_aload_n hx hb dX11_readsStatement_37 rfl (lv_at hl 0 rfl) ?_
        refine lv_dup hx hb dX11_readsStatement_38 rfl ?_
        refine gk_get (ci := 10) (C := RX11) (T := TX11) (N := 26) hx hb hts u_ws_X11 hown hK hH 0 rfl rfl 9 (by decide) u_fl_X11_72 rfl dX11_readsStatement_39 ?_
        refine lv_iconst (v := 1) hx hb dX11_readsStatement_42 (by decide) ?_
        refine lv_iadd hx hb dX11_readsStatement_43 ?_
        refine gk_put (ci := 10) (C := RX11) (T := TX11) (N := 26) hx hb hts u_ws_X11 tyX11_ok nmX11 hown hK hH 0 rfl rfl 9 (by decide) u_fl_X11_72 rfl rfl rfl (Nat.le_of_ble_eq_true rfl) dX11_readsStatement_44 [(a_t, .inr (10, [v_t_thrown, .ref a_t_g, .ref a_t_ahead, .ref a_t_history, v_t_historyMany, .ref a_t_saved, v_t_hasSaved, .ref a_t_tape, .int t_taped, .int (t_at + (1 : Int32)), v_t_impossibleAt, .int q1, .ref a_t_numbers, .ref a_t_plan, v_t_detail, v_t_keptReason, v_t_keptDetail, v_t_above, v_t_below, v_t_bestAbove, v_t_bestBelow, .ref a_t_bestPlan, .ref a_t_sort, .ref a_t_size, .ref a_t_whole, .ref a_t_parts])), (a_t_tape, .inl (k 1, 80, .inl t_tape)), (a_t_numbers, .inl (k 0, 4, .inl t_numbers))] rfl (fun H locs hH => ?_)
        refine lv_aload_n hx hb dX11_readsStatement_47 rfl (lv_at hl 0 rfl) ?_
        refine gk_get (ci := 10) (C := RX11) (T := TX11) (N := 26) hx hb hts u_ws_X11 hown hK hH 0 rfl rfl 12 (by decide) u_fl_X11_30 rfl dX11_readsStatement_48 ?_
        refine lv_iconst (v := 2) hx hb dX11_readsStatement_51 (by decide) ?_
        refine lv_iconst (v := -1) hx hb dX11_readsStatement_52 (by decide) ?_
        refine gk_iast hx hb hK hH 2 rfl (dk_in (by decide)) dX11_readsStatement_53 [(a_t, .inr (10, [v_t_thrown, .ref a_t_g, .ref a_t_ahead, .ref a_t_history, v_t_historyMany, .ref a_t_saved, v_t_hasSaved, .ref a_t_tape, .int t_taped, .int (t_at + (1 : Int32)), v_t_impossibleAt, .int q1, .ref a_t_numbers, .ref a_t_plan, v_t_detail, v_t_keptReason, v_t_keptDetail, v_t_above, v_t_below, v_t_bestAbove, v_t_bestBelow, .ref a_t_bestPlan, .ref a_t_sort, .ref a_t_size, .ref a_t_whole, .ref a_t_parts])), (a_t_tape, .inl (k 1, 80, .inl t_tape)), (a_t_numbers, .inl (k 0, 4, .inl (upd t_numbers (2 : Int32).toNatClampNeg (-1 : Int32))))] rfl (fun H locs hH => ?_)
        refine lv_aload_n hx hb dX11_readsStatement_54 rfl (lv_at hl 0 rfl) ?_
        refine gk_get (ci := 10) (C := RX11) (T := TX11) (N := 26) hx hb hts u_ws_X11 hown hK hH 0 rfl rfl 12 (by decide) u_fl_X11_30 rfl dX11_readsStatement_55 ?_
        refine lv_iconst (v := 3) hx hb dX11_readsStatement_58 (by decide) ?_
        refine lv_iconst (v := 0) hx hb dX11_readsStatement_59 (by decide) ?_
        refine gk_iast hx hb hK hH 2 rfl (dk_in (by decide)) dX11_readsStatement_60 [(a_t, .inr (10, [v_t_thrown, .ref a_t_g, .ref a_t_ahead, .ref a_t_history, v_t_historyMany, .ref a_t_saved, v_t_hasSaved, .ref a_t_tape, .int t_taped, .int (t_at + (1 : Int32)), v_t_impossibleAt, .int q1, .ref a_t_numbers, .ref a_t_plan, v_t_detail, v_t_keptReason, v_t_keptDetail, v_t_above, v_t_below, v_t_bestAbove, v_t_bestBelow, .ref a_t_bestPlan, .ref a_t_sort, .ref a_t_size, .ref a_t_whole, .ref a_t_parts])), (a_t_tape, .inl (k 1, 80, .inl t_tape)), (a_t_numbers, .inl (k 0, 4, .inl (upd (upd t_numbers (2 : Int32).toNatClampNeg (-1 : Int32)) (3 : Int32).toNatClampNeg (0 : Int32))))] rfl (fun H locs hH => ?_)
        refine lv_aload_n hx hb dX11_readsStatement_61 rfl (lv_at hl 0 rfl) ?_
        refine lv_iconst (v := 0) hx hb dX11_readsStatement_62 (by decide) ?_
        refine lv_iconst (v := 2) hx hb dX11_readsStatement_63 (by decide) ?_
        obtain ⟨q42, hqq42, h⟩ := dc_bind h
        refine gc_Vi (ws' := [(a_t, .inr (10, [v_t_thrown, .ref a_t_g, .ref a_t_ahead, .ref a_t_history, v_t_historyMany, .ref a_t_saved, v_t_hasSaved, .ref a_t_tape, .int t_taped, .int q42.2.1, v_t_impossibleAt, .int q1, .ref a_t_numbers, .ref a_t_plan, v_t_detail, v_t_keptReason, v_t_keptDetail, v_t_above, v_t_below, v_t_bestAbove, v_t_bestBelow, .ref a_t_bestPlan, .ref a_t_sort, .ref a_t_size, .ref a_t_whole, .ref a_t_parts])), (a_t_tape, .inl (k 1, 80, .inl t_tape)), (a_t_numbers, .inl (k 0, 4, .inl q42.2.2))]) (As := [.int (0 : Int32), .int (2 : Int32)]) (rest := []) (n := 2) (ci := 10) (cq := (RX11, TX11, 26)) hTs ⟨hx, hb, hml, hown, hts⟩ (mX11_readsNumber l Ts hTs D k H.size a_t a_t_g a_t_ahead a_t_history a_t_saved a_t_tape a_t_numbers a_t_plan a_t_bestPlan a_t_sort a_t_size a_t_whole a_t_parts (t_at + (1 : Int32)) (upd (upd t_numbers (2 : Int32).toNatClampNeg (-1 : Int32)) (3 : Int32).toNatClampNeg (0 : Int32)) t_tape t_taped v_t_above v_t_below v_t_bestAbove v_t_bestBelow v_t_detail v_t_hasSaved v_t_historyMany v_t_impossibleAt v_t_keptDetail v_t_keptReason (.int q1) v_t_thrown (0 : Int32) (2 : Int32) q42 hqq42) u_ml_X11_82 u_im_X11_readsNumber u_se_X11_readsNumber u_in_X11 u_co_X11_readsNumber hd_X11_readsNumber ⟨Nat.le_of_ble_eq_true rfl, Nat.le_of_ble_eq_true rfl⟩ ⟨rfl, rfl⟩ hK hH hA (cutM (isC := [0, 2, 1]) [some 0, some 2, some 1] 3 rfl rfl rfl rfl rfl rfl rfl) rfl rfl rfl rfl hl.1 (Nat.le_of_ble_eq_true rfl) dX11_readsStatement_64 ⟨Nat.le_of_ble_eq_true rfl, Nat.le_of_ble_eq_true rfl⟩ (fun H locs hH => ?_)
        refine lv_if_ne (tgt := 72) hx hb dX11_readsStatement_67 (by decide) (fun c43 => ?_) (fun c43 => ?_)
        · replace h := dc_neg c43 h
          refine lv_aload_n hx hb dX11_readsStatement_72 rfl (lv_at hl 0 rfl) ?_
          refine gk_get (ci := 10) (C := RX11) (T := TX11) (N := 26) hx hb hts u_ws_X11 hown hK hH 0 rfl rfl 11 (by decide) u_fl_X11_79 rfl dX11_readsStatement_73 ?_
          refine lv_bipush (v := 111) hx hb dX11_readsStatement_76 (by decide) ?_
          refine lv_icmp_ne (tgt := 105) hx hb dX11_readsStatement_78 (by decide) (fun c => absurd c41 c) (fun _ => ?_)
          refine lv_aload_n hx hb dX11_readsStatement_81 rfl (lv_at hl 0 rfl) ?_
          refine lv_bipush (v := 58) hx hb dX11_readsStatement_82 (by decide) ?_
          obtain ⟨q44, hqq44, h⟩ := dc_bind h
          refine gc_Vi (ws' := [(a_t, .inr (10, [v_t_thrown, .ref a_t_g, .ref a_t_ahead, .ref a_t_history, v_t_historyMany, .ref a_t_saved, v_t_hasSaved, .ref a_t_tape, .int t_taped, .int q44.2, v_t_impossibleAt, .int q1, .ref a_t_numbers, .ref a_t_plan, v_t_detail, v_t_keptReason, v_t_keptDetail, v_t_above, v_t_below, v_t_bestAbove, v_t_bestBelow, .ref a_t_bestPlan, .ref a_t_sort, .ref a_t_size, .ref a_t_whole, .ref a_t_parts])), (a_t_tape, .inl (k 1, 80, .inl t_tape)), (a_t_numbers, .inl (k 0, 4, .inl q42.2.2))]) (As := [.int (58 : Int32)]) (rest := []) (n := 1) (ci := 10) (cq := (RX11, TX11, 26)) hTs ⟨hx, hb, hml, hown, hts⟩ (mX11_eats l Ts hTs D k H.size a_t a_t_g a_t_ahead a_t_history a_t_saved a_t_tape a_t_numbers a_t_plan a_t_bestPlan a_t_sort a_t_size a_t_whole a_t_parts q42.2.1 t_tape t_taped v_t_above v_t_below v_t_bestAbove v_t_bestBelow v_t_detail v_t_hasSaved v_t_historyMany v_t_impossibleAt v_t_keptDetail v_t_keptReason (.int q1) v_t_thrown (58 : Int32) q44 hqq44) u_ml_X11_86 u_im_X11_eats u_se_X11_eats u_in_X11 u_co_X11_eats hd_X11_eats ⟨Nat.le_of_ble_eq_true rfl, Nat.le_of_ble_eq_true rfl⟩ ⟨rfl, rfl⟩ hK hH hA (cutM (isC := [0, 1]) [some 0, some 1, none] 3 rfl rfl rfl rfl rfl rfl rfl) rfl rfl rfl rfl hl.1 (Nat.le_of_ble_eq_true rfl) dX11_readsStatement_84 ⟨Nat.le_of_ble_eq_true rfl, Nat.le_of_ble_eq_true rfl⟩ (fun H locs hH => ?_)
          refine lv_if_eq (tgt := 103) hx hb dX11_readsStatement_87 (by decide) (fun c45 => ?_) (fun c45 => ?_)
          · replace h := dc_pos c45 h
            refine lv_iconst (v := 0) hx hb dX11_readsStatement_103 (by decide) ?_
            have h := Option.some.inj h
            subst h
            exact ge_z hx hb hr rfl hlocks hQ hK hH hAe rfl dX11_readsStatement_104
          · replace h := dc_neg c45 h
            refine lv_aload_n hx hb dX11_readsStatement_90 rfl (lv_at hl 0 rfl) ?_
            refine lv_iconst (v := 2) hx hb dX11_readsStatement_91 (by decide) ?_
            refine lv_iconst (v := 1) hx hb dX11_readsStatement_92 (by decide) ?_
            obtain ⟨q46, hqq46, h⟩ := dc_bind h
            refine gc_Vi (ws' := [(a_t, .inr (10, [v_t_thrown, .ref a_t_g, .ref a_t_ahead, .ref a_t_history, v_t_historyMany, .ref a_t_saved, v_t_hasSaved, .ref a_t_tape, .int t_taped, .int q46.2.1, v_t_impossibleAt, .int q1, .ref a_t_numbers, .ref a_t_plan, v_t_detail, v_t_keptReason, v_t_keptDetail, v_t_above, v_t_below, v_t_bestAbove, v_t_bestBelow, .ref a_t_bestPlan, .ref a_t_sort, .ref a_t_size, .ref a_t_whole, .ref a_t_parts])), (a_t_tape, .inl (k 1, 80, .inl t_tape)), (a_t_numbers, .inl (k 0, 4, .inl q46.2.2))]) (As := [.int (2 : Int32), .int (1 : Int32)]) (rest := []) (n := 2) (ci := 10) (cq := (RX11, TX11, 26)) hTs ⟨hx, hb, hml, hown, hts⟩ (mX11_readsNumber l Ts hTs D k H.size a_t a_t_g a_t_ahead a_t_history a_t_saved a_t_tape a_t_numbers a_t_plan a_t_bestPlan a_t_sort a_t_size a_t_whole a_t_parts q44.2 q42.2.2 t_tape t_taped v_t_above v_t_below v_t_bestAbove v_t_bestBelow v_t_detail v_t_hasSaved v_t_historyMany v_t_impossibleAt v_t_keptDetail v_t_keptReason (.int q1) v_t_thrown (2 : Int32) (1 : Int32) q46 hqq46) u_ml_X11_82 u_im_X11_readsNumber u_se_X11_readsNumber u_in_X11 u_co_X11_readsNumber hd_X11_readsNumber ⟨Nat.le_of_ble_eq_true rfl, Nat.le_of_ble_eq_true rfl⟩ ⟨rfl, rfl⟩ hK hH hA (cutM (isC := [0, 2, 1]) [some 0, some 2, some 1] 3 rfl rfl rfl rfl rfl rfl rfl) rfl rfl rfl rfl hl.1 (Nat.le_of_ble_eq_true rfl) dX11_readsStatement_93 ⟨Nat.le_of_ble_eq_true rfl, Nat.le_of_ble_eq_true rfl⟩ (fun H locs hH => ?_)
            refine lv_if_eq (tgt := 103) hx hb dX11_readsStatement_96 (by decide) (fun c47 => ?_) (fun c47 => ?_)
            · replace h := dc_pos c47 h
              refine lv_iconst (v := 0) hx hb dX11_readsStatement_103 (by decide) ?_
              have h := Option.some.inj h
              subst h
              exact ge_z hx hb hr rfl hlocks hQ hK hH hAe rfl dX11_readsStatement_104
            · replace h := dc_neg c47 h
              refine lv_iconst (v := 1) hx hb dX11_readsStatement_99 (by decide) ?_
              refine lv_goto (tgt := 104) hx hb dX11_readsStatement_100 (by decide) ?_
              have h := Option.some.inj h
              subst h
              exact ge_z hx hb hr rfl hlocks hQ hK hH hAe rfl dX11_readsStatement_104
        · replace h := dc_pos c43 h
          refine lv_iconst (v := 0) hx hb dX11_readsStatement_70 (by decide) ?_
          have h := Option.some.inj h
          subst h
          exact ge_z hx hb hr rfl hlocks hQ hK hH hAe rfl dX11_readsStatement_71
      · replace h := dc_neg c41 h
        refine lv_iconst (v := 0) hx hb dX11_readsStatement_35 (by decide) ?_
        have h := Option.some.inj h
        subst h
        exact ge_z hx hb hr rfl hlocks hQ hK hH hAe rfl dX11_readsStatement_36
