theorem hd_X11_letter : yX11_letter.cls = RX11 ∧ yX11_letter.cls ≠ "java/lang/invoke/MethodHandle" ∧ yX11_letter.cls ≠ "java/lang/invoke/VarHandle" ∧ (parseMethodDescriptor yX11_letter.desc).map (fun d => d.parameters.length) = some 1 := by decide +kernel
set_option maxHeartbeats 4000000 in
set_option maxRecDepth 100000 in
theorem mX11_letter (l : Launch) (Ts : List Cond) (hTs : ∀ w, w ∈ Ts ↔ w ∈ uT) (D : va_G) (k : Nat → ClassId) (sz : Nat) (a_t : Nat) (a_t_g : Nat) (a_t_ahead : Nat) (a_t_history : Nat) (a_t_saved : Nat) (a_t_tape : Nat) (a_t_numbers : Nat) (a_t_plan : Nat) (a_t_bestPlan : Nat) (a_t_sort : Nat) (a_t_size : Nat) (a_t_whole : Nat) (a_t_parts : Nat) (t_g : Nat → Int32) (v_t_above : Value) (v_t_at : Value) (v_t_below : Value) (v_t_bestAbove : Value) (v_t_bestBelow : Value) (v_t_detail : Value) (v_t_hasSaved : Value) (v_t_historyMany : Value) (v_t_impossibleAt : Value) (v_t_keptDetail : Value) (v_t_keptReason : Value) (v_t_letter : Value) (v_t_taped : Value) (v_t_thrown : Value) (x1 : Int32) (r : Int32 × Int32) (h : fX11_letter t_g x1 = some r) : Met l yX11_letter (Cond.code yX11_letter cX11_letter 2 (some .char) :: Ts) ({ frames := 2, cells := 0, slots := 0, locals := 43 } : Room) (preM D k [.ref a_t, .int x1] [(a_t, .inr (10, [v_t_thrown, .ref a_t_g, .ref a_t_ahead, .ref a_t_history, v_t_historyMany, .ref a_t_saved, v_t_hasSaved, .ref a_t_tape, v_t_taped, v_t_at, v_t_impossibleAt, v_t_letter, .ref a_t_numbers, .ref a_t_plan, v_t_detail, v_t_keptReason, v_t_keptDetail, v_t_above, v_t_below, v_t_bestAbove, v_t_bestBelow, .ref a_t_bestPlan, .ref a_t_sort, .ref a_t_size, .ref a_t_whole, .ref a_t_parts])), (a_t_g, .inl (k 0, 221, .inl t_g))] sz) (postI D k r.1 [(a_t, .inr (10, [v_t_thrown, .ref a_t_g, .ref a_t_ahead, .ref a_t_history, v_t_historyMany, .ref a_t_saved, v_t_hasSaved, .ref a_t_tape, v_t_taped, v_t_at, v_t_impossibleAt, v_t_letter, .ref a_t_numbers, .ref a_t_plan, v_t_detail, v_t_keptReason, v_t_keptDetail, v_t_above, v_t_below, v_t_bestAbove, v_t_bestBelow, .ref a_t_bestPlan, .ref a_t_sort, .ref a_t_size, .ref a_t_whole, .ref a_t_parts])), (a_t_g, .inl (k 0, 221, .inl t_g))] [(a_t, .inr (10, [.int r.2, .ref a_t_g, .ref a_t_ahead, .ref a_t_history, v_t_historyMany, .ref a_t_saved, v_t_hasSaved, .ref a_t_tape, v_t_taped, v_t_at, v_t_impossibleAt, v_t_letter, .ref a_t_numbers, .ref a_t_plan, v_t_detail, v_t_keptReason, v_t_keptDetail, v_t_above, v_t_below, v_t_bestAbove, v_t_bestBelow, .ref a_t_bestPlan, .ref a_t_sort, .ref a_t_size, .ref a_t_whole, .ref a_t_parts])), (a_t_g, .inl (k 0, 221, .inl t_g))] sz) 0 0 (va_A [(a_t, .inr (10, [v_t_thrown, .ref a_t_g, .ref a_t_ahead, .ref a_t_history, v_t_historyMany, .ref a_t_saved, v_t_hasSaved, .ref a_t_tape, v_t_taped, v_t_at, v_t_impossibleAt, v_t_letter, .ref a_t_numbers, .ref a_t_plan, v_t_detail, v_t_keptReason, v_t_keptDetail, v_t_above, v_t_below, v_t_bestAbove, v_t_bestBelow, .ref a_t_bestPlan, .ref a_t_sort, .ref a_t_size, .ref a_t_whole, .ref a_t_parts])), (a_t_g, .inl (k 0, 221, .inl t_g))] sz) := by
  refine Met.ofW (cc := cX11_letter) (maxL := 2) (ret := (some .char)) (by decide) rfl ?_
  intro p e s m args below meth c s₁ B hml hv
  obtain ⟨rfl, hsz, hP, hK, hD0⟩ := hv
  have hx := B.exec
  have hb := B.bytes
  have hr := B.returns
  have hts0 := atoms_spec (ws := (Cond.code yX11_letter cX11_letter 2 (some .char) :: Ts)) B.pre
  have hts : ∀ w ∈ uT, w.before _ s = true := fun w h => hts0 w (List.mem_cons_of_mem _ ((hTs w).mpr h))
  clear hts0
  have hown : s.vm.findClass RX11 = some m.cls := findClass_of_methodNamed B.named
  have hlocks := B.notSynchronized
  subst hsz
  have hD := hD0.self (sz := s.heap.size)
  generalize hAe : va_A [(a_t, .inr (10, [v_t_thrown, .ref a_t_g, .ref a_t_ahead, .ref a_t_history, v_t_historyMany, .ref a_t_saved, v_t_hasSaved, .ref a_t_tape, v_t_taped, v_t_at, v_t_impossibleAt, v_t_letter, .ref a_t_numbers, .ref a_t_plan, v_t_detail, v_t_keptReason, v_t_keptDetail, v_t_above, v_t_below, v_t_bestAbove, v_t_bestBelow, .ref a_t_bestPlan, .ref a_t_sort, .ref a_t_size, .ref a_t_whole, .ref a_t_parts])), (a_t_g, .inl (k 0, 221, .inl t_g))] s.heap.size = A at hD ⊢
  have hA : ∀ q : Nat, s.heap.size ≤ q → A q := fun q h => by rw [← hAe]; exact Or.inr h
  have hH : HOK D A s.heap [(a_t, .inr (10, [v_t_thrown, .ref a_t_g, .ref a_t_ahead, .ref a_t_history, v_t_historyMany, .ref a_t_saved, v_t_hasSaved, .ref a_t_tape, v_t_taped, v_t_at, v_t_impossibleAt, v_t_letter, .ref a_t_numbers, .ref a_t_plan, v_t_detail, v_t_keptReason, v_t_keptDetail, v_t_above, v_t_below, v_t_bestAbove, v_t_bestBelow, .ref a_t_bestPlan, .ref a_t_sort, .ref a_t_size, .ref a_t_whole, .ref a_t_parts])), (a_t_g, .inl (k 0, 221, .inl t_g))] s.heap [] := ⟨hP, hD, va_S.rf⟩
  have hl := lv_entry ([.ref a_t, .int x1]) (n := 2) (Nat.le_of_ble_eq_true rfl)
  rw [lg_entry_eq]
  generalize (lg_sl ([.ref a_t, .int x1]) ++ List.replicate (2 - (lg_sl ([.ref a_t, .int x1])).length) Slot.unset).toArray = ls at hl ⊢
  have hl : lv_has ls 2 [(0, .ref a_t), (1, .int x1)] := hl
  generalize hQ : MQ below (postI D k r.1 [(a_t, .inr (10, [v_t_thrown, .ref a_t_g, .ref a_t_ahead, .ref a_t_history, v_t_historyMany, .ref a_t_saved, v_t_hasSaved, .ref a_t_tape, v_t_taped, v_t_at, v_t_impossibleAt, v_t_letter, .ref a_t_numbers, .ref a_t_plan, v_t_detail, v_t_keptReason, v_t_keptDetail, v_t_above, v_t_below, v_t_bestAbove, v_t_bestBelow, .ref a_t_bestPlan, .ref a_t_sort, .ref a_t_size, .ref a_t_whole, .ref a_t_parts])), (a_t_g, .inl (k 0, 221, .inl t_g))] [(a_t, .inr (10, [.int r.2, .ref a_t_g, .ref a_t_ahead, .ref a_t_history, v_t_historyMany, .ref a_t_saved, v_t_hasSaved, .ref a_t_tape, v_t_taped, v_t_at, v_t_impossibleAt, v_t_letter, .ref a_t_numbers, .ref a_t_plan, v_t_detail, v_t_keptReason, v_t_keptDetail, v_t_above, v_t_below, v_t_bestAbove, v_t_bestBelow, .ref a_t_bestPlan, .ref a_t_sort, .ref a_t_size, .ref a_t_whole, .ref a_t_parts])), (a_t_g, .inl (k 0, 221, .inl t_g))] s.heap.size) (List.toArray [.ref a_t, .int x1]) s 0 0 A = Q
  clear hP hD hD0
  suffices K : ∀ (H : Heap) (locs : List Loc), HOK D A s.heap [(a_t, .inr (10, [v_t_thrown, .ref a_t_g, .ref a_t_ahead, .ref a_t_history, v_t_historyMany, .ref a_t_saved, v_t_hasSaved, .ref a_t_tape, v_t_taped, v_t_at, v_t_impossibleAt, v_t_letter, .ref a_t_numbers, .ref a_t_plan, v_t_detail, v_t_keptReason, v_t_keptDetail, v_t_above, v_t_below, v_t_bestAbove, v_t_bestBelow, .ref a_t_bestPlan, .ref a_t_sort, .ref a_t_size, .ref a_t_whole, .ref a_t_parts])), (a_t_g, .inl (k 0, 221, .inl t_g))] H locs → W p l e ({ frames := 2, cells := 0, slots := 0, locals := 43 } : Room) s m (List.toArray [.ref a_t, .int x1]) below meth c H locs 0 0 Q (F0 m 0 ls []) from K s.heap [] hH
  intro H locs hH
  rw [fX11_letter] at h
  refine lv_aload_n hx hb dX11_letter_0 rfl (lv_at hl 0 rfl) ?_
  refine lv_aload_n hx hb dX11_letter_1 rfl (lv_at hl 0 rfl) ?_
  refine lv_iload_n hx hb dX11_letter_2 rfl (lv_at hl 1 rfl) ?_
  obtain ⟨q1, hqq1, h⟩ := dc_bind h
  refine gc_Vi (ws' := [(a_t, .inr (10, [v_t_thrown, .ref a_t_g, .ref a_t_ahead, .ref a_t_history, v_t_historyMany, .ref a_t_saved, v_t_hasSaved, .ref a_t_tape, v_t_taped, v_t_at, v_t_impossibleAt, v_t_letter, .ref a_t_numbers, .ref a_t_plan, v_t_detail, v_t_keptReason, v_t_keptDetail, v_t_above, v_t_below, v_t_bestAbove, v_t_bestBelow, .ref a_t_bestPlan, .ref a_t_sort, .ref a_t_size, .ref a_t_whole, .ref a_t_parts])), (a_t_g, .inl (k 0, 221, .inl t_g))]) (As := [.int x1]) (rest := [.ref a_t]) (n := 1) (ci := 10) (cq := (RX11, TX11, 26)) hTs ⟨hx, hb, hml, hown, hts⟩ (mX11_isUnit l Ts hTs D k H.size a_t a_t_g a_t_ahead a_t_history a_t_saved a_t_tape a_t_numbers a_t_plan a_t_bestPlan a_t_sort a_t_size a_t_whole a_t_parts t_g v_t_above v_t_at v_t_below v_t_bestAbove v_t_bestBelow v_t_detail v_t_hasSaved v_t_historyMany v_t_impossibleAt v_t_keptDetail v_t_keptReason v_t_letter v_t_taped v_t_thrown x1 q1 hqq1) u_ml_X11_90 u_im_X11_isUnit u_se_X11_isUnit u_in_X11 u_co_X11_isUnit hd_X11_isUnit ⟨Nat.le_of_ble_eq_true rfl, Nat.le_of_ble_eq_true rfl⟩ ⟨rfl, rfl⟩ hK hH hA (cut0 (isC := [0, 1]) rfl rfl rfl) rfl rfl rfl rfl hl.1 (Nat.le_of_ble_eq_true rfl) dX11_letter_3 ⟨Nat.le_of_ble_eq_true rfl, Nat.le_of_ble_eq_true rfl⟩ (fun H locs hH => ?_)
  refine lv_if_ne (tgt := 13) hx hb dX11_letter_6 (by decide) (fun c2 => ?_) (fun c2 => ?_)
  · replace h := dc_neg c2 h
    refine lv_aload_n hx hb dX11_letter_13 rfl (lv_at hl 0 rfl) ?_
    refine gk_get (ci := 10) (C := RX11) (T := TX11) (N := 26) hx hb hts u_ws_X11 hown hK hH 0 rfl rfl 1 (by decide) u_fl_X11_7 rfl dX11_letter_14 ?_
    refine lv_sipush (v := 219) hx hb dX11_letter_17 (by decide) ?_
    refine gk_iald hx hb hK hH 1 rfl (dk_in (by decide)) dX11_letter_20 ?_
    refine lv_if_ne (tgt := 28) hx hb dX11_letter_21 (by decide) (fun c3 => ?_) (fun c3 => ?_)
    · replace h := dc_neg c3 h
      refine lv_iconst (v := 0) hx hb dX11_letter_28 (by decide) ?_
      refine gk_put (ci := 10) (C := RX11) (T := TX11) (N := 26) hx hb hts u_ws_X11 tyX11_ok nmX11 hown hK hH 0 rfl rfl 0 (by decide) u_fl_X11_52 rfl rfl rfl (Nat.le_of_ble_eq_true rfl) dX11_letter_29 [(a_t, .inr (10, [.int (0 : Int32), .ref a_t_g, .ref a_t_ahead, .ref a_t_history, v_t_historyMany, .ref a_t_saved, v_t_hasSaved, .ref a_t_tape, v_t_taped, v_t_at, v_t_impossibleAt, v_t_letter, .ref a_t_numbers, .ref a_t_plan, v_t_detail, v_t_keptReason, v_t_keptDetail, v_t_above, v_t_below, v_t_bestAbove, v_t_bestBelow, .ref a_t_bestPlan, .ref a_t_sort, .ref a_t_size, .ref a_t_whole, .ref a_t_parts])), (a_t_g, .inl (k 0, 221, .inl t_g))] rfl (fun H locs hH => ?_)
      refine lv_aload_n hx hb dX11_letter_32 rfl (lv_at hl 0 rfl) ?_
      refine gk_get (ci := 10) (C := RX11) (T := TX11) (N := 26) hx hb hts u_ws_X11 hown hK hH 0 rfl rfl 0 (by decide) u_fl_X11_52 rfl dX11_letter_33 ?_
      refine lv_if_ne (tgt := 56) hx hb dX11_letter_36 (by decide) (fun c => absurd c (by decide)) (fun _ => ?_)
      refine lv_bipush (v := 65) hx hb dX11_letter_39 (by decide) ?_
      refine lv_aload_n hx hb dX11_letter_41 rfl (lv_at hl 0 rfl) ?_
      refine gk_get (ci := 10) (C := RX11) (T := TX11) (N := 26) hx hb hts u_ws_X11 hown hK hH 0 rfl rfl 1 (by decide) u_fl_X11_7 rfl dX11_letter_42 ?_
      refine lv_sipush (v := 207) hx hb dX11_letter_45 (by decide) ?_
      refine lv_iload_n hx hb dX11_letter_48 rfl (lv_at hl 1 rfl) ?_
      refine lv_iadd hx hb dX11_letter_49 ?_
      obtain ⟨g4, h⟩ := dc_need h
      refine gk_iald hx hb hK hH 1 rfl (dk_in g4) dX11_letter_50 ?_
      refine lv_iadd hx hb dX11_letter_51 ?_
      refine lv_i2c (v := ((Int32.toUInt32 ((65 : Int32) + (t_g ((207 : Int32) + x1).toNatClampNeg))) % 65536).toInt32) hx hb dX11_letter_52 rfl ?_
      refine lv_goto (tgt := 58) hx hb dX11_letter_53 (by decide) ?_
      have h := Option.some.inj h
      subst h
      exact ge_z hx hb hr (pk_nc _) hlocks hQ hK hH hAe rfl dX11_letter_58
    · replace h := dc_pos c3 h
      refine lv_iconst (v := 2) hx hb dX11_letter_24 (by decide) ?_
      refine lv_goto (tgt := 29) hx hb dX11_letter_25 (by decide) ?_
      refine gk_put (ci := 10) (C := RX11) (T := TX11) (N := 26) hx hb hts u_ws_X11 tyX11_ok nmX11 hown hK hH 0 rfl rfl 0 (by decide) u_fl_X11_52 rfl rfl rfl (Nat.le_of_ble_eq_true rfl) dX11_letter_29 [(a_t, .inr (10, [.int (2 : Int32), .ref a_t_g, .ref a_t_ahead, .ref a_t_history, v_t_historyMany, .ref a_t_saved, v_t_hasSaved, .ref a_t_tape, v_t_taped, v_t_at, v_t_impossibleAt, v_t_letter, .ref a_t_numbers, .ref a_t_plan, v_t_detail, v_t_keptReason, v_t_keptDetail, v_t_above, v_t_below, v_t_bestAbove, v_t_bestBelow, .ref a_t_bestPlan, .ref a_t_sort, .ref a_t_size, .ref a_t_whole, .ref a_t_parts])), (a_t_g, .inl (k 0, 221, .inl t_g))] rfl (fun H locs hH => ?_)
      refine lv_aload_n hx hb dX11_letter_32 rfl (lv_at hl 0 rfl) ?_
      refine gk_get (ci := 10) (C := RX11) (T := TX11) (N := 26) hx hb hts u_ws_X11 hown hK hH 0 rfl rfl 0 (by decide) u_fl_X11_52 rfl dX11_letter_33 ?_
      refine lv_if_ne (tgt := 56) hx hb dX11_letter_36 (by decide) (fun _ => ?_) (fun c => absurd c (by decide))
      refine lv_bipush (v := 97) hx hb dX11_letter_56 (by decide) ?_
      have h := Option.some.inj h
      subst h
      exact ge_z hx hb hr rfl hlocks hQ hK hH hAe rfl dX11_letter_58
  · replace h := dc_pos c2 h
    refine lv_iconst (v := 1) hx hb dX11_letter_9 (by decide) ?_
    refine lv_goto (tgt := 29) hx hb dX11_letter_10 (by decide) ?_
    refine gk_put (ci := 10) (C := RX11) (T := TX11) (N := 26) hx hb hts u_ws_X11 tyX11_ok nmX11 hown hK hH 0 rfl rfl 0 (by decide) u_fl_X11_52 rfl rfl rfl (Nat.le_of_ble_eq_true rfl) dX11_letter_29 [(a_t, .inr (10, [.int (1 : Int32), .ref a_t_g, .ref a_t_ahead, .ref a_t_history, v_t_historyMany, .ref a_t_saved, v_t_hasSaved, .ref a_t_tape, v_t_taped, v_t_at, v_t_impossibleAt, v_t_letter, .ref a_t_numbers, .ref a_t_plan, v_t_detail, v_t_keptReason, v_t_keptDetail, v_t_above, v_t_below, v_t_bestAbove, v_t_bestBelow, .ref a_t_bestPlan, .ref a_t_sort, .ref a_t_size, .ref a_t_whole, .ref a_t_parts])), (a_t_g, .inl (k 0, 221, .inl t_g))] rfl (fun H locs hH => ?_)
    refine lv_aload_n hx hb dX11_letter_32 rfl (lv_at hl 0 rfl) ?_
    refine gk_get (ci := 10) (C := RX11) (T := TX11) (N := 26) hx hb hts u_ws_X11 hown hK hH 0 rfl rfl 0 (by decide) u_fl_X11_52 rfl dX11_letter_33 ?_
    refine lv_if_ne (tgt := 56) hx hb dX11_letter_36 (by decide) (fun _ => ?_) (fun c => absurd c (by decide))
    refine lv_bipush (v := 97) hx hb dX11_letter_56 (by decide) ?_
    have h := Option.some.inj h
    subst h
    exact ge_z hx hb hr rfl hlocks hQ hK hH hAe rfl dX11_letter_58
