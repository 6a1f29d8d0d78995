theorem hd_Jxf58ca_floatToIntBits_5c35a : yJxf58ca_floatToIntBits_5c35a.cls ≠ "java/lang/invoke/MethodHandle" ∧ yJxf58ca_floatToIntBits_5c35a.cls ≠ "java/lang/invoke/VarHandle" ∧ (parseMethodDescriptor yJxf58ca_floatToIntBits_5c35a.desc).map (fun d => d.parameters.length) = some 1 := by decide +kernel
set_option maxHeartbeats 4000000 in
set_option maxRecDepth 100000 in
theorem mJxf58ca_floatToIntBits_5c35a (l : Launch) (Ts : List Cond) (hTs : ∀ w, w ∈ Ts ↔ w ∈ uT) (D : va_G) (k : Nat → ClassId) (sz : Nat) (x0 : UInt32) (r : Int32) (h : fJxf58ca_floatToIntBits_5c35a x0 = some r) : Met l yJxf58ca_floatToIntBits_5c35a (Cond.code yJxf58ca_floatToIntBits_5c35a cJxf58ca_floatToIntBits_5c35a 1 (some .int) :: Ts) ({ frames := 1, cells := 0, slots := 0, locals := 64 } : Room) (preM D k [.float x0] [] sz) (postI D k r [] [] sz) 0 0 (va_A [] sz) := by
  refine met_ofWF (cc := cJxf58ca_floatToIntBits_5c35a) (maxL := 1) (ret := (some .int)) (by decide +kernel) rfl ?_
  intro p e s m args below meth c s₁ B hml hv
  obtain ⟨rfl, hsz, hP, hK, hD0⟩ := hv
  have hx := B.exec
  have hb := B.bytes
  have hr := B.returns
  have hts0 := atoms_spec (ws := (Cond.code yJxf58ca_floatToIntBits_5c35a cJxf58ca_floatToIntBits_5c35a 1 (some .int) :: Ts)) B.pre
  have hts : ∀ w ∈ uT, w.before _ s = true := fun w h => hts0 w (List.mem_cons_of_mem _ ((hTs w).mpr h))
  clear hts0
  have hown : s.vm.findClass RJxf58ca = some m.cls := findClass_of_methodNamed B.named
  have hlocks := B.notSynchronized
  subst hsz
  have hD := hD0.self (sz := s.heap.size)
  generalize hAe : va_A [] s.heap.size = A at hD ⊢
  have hA : ∀ q : Nat, s.heap.size ≤ q → A q := fun q h => by rw [← hAe]; exact Or.inr h
  have hH : HOK D A s.heap [] s.heap [] := ⟨hP, hD, va_S.rf⟩
  have hl := lv_entry ([.float x0]) (n := 1) (Nat.le_of_ble_eq_true rfl)
  rw [lg_entry_eq]
  generalize (lg_sl ([.float x0]) ++ List.replicate (1 - (lg_sl ([.float x0])).length) Slot.unset).toArray = ls at hl ⊢
  have hl : lv_has ls 1 [(0, .float x0)] := hl
  generalize hQ : MQ below (postI D k r [] [] s.heap.size) (List.toArray [.float x0]) s 0 0 A = Q
  clear hP hD hD0
  suffices K : ∀ (H : Heap) (locs : List Loc), HOK D A s.heap [] H locs → W p l e ({ frames := 1, cells := 0, slots := 0, locals := 64 } : Room) s m (List.toArray [.float x0]) below meth c H locs 0 0 Q (F0 m 0 ls []) from K s.heap [] hH
  intro H locs hH
  rw [fJxf58ca_floatToIntBits_5c35a] at h
  refine lv_fload_n hx hb dJxf58ca_floatToIntBits_5c35a_0 rfl (lv_at hl 0 rfl) ?_
  obtain ⟨q1, hqq1, h⟩ := dc_bind h
  refine gc_Si (ws' := []) (As := [.float x0]) (rest := []) (n := 1) hTs ⟨hx, hb, hml, hown, hts⟩ (mJxf58ca_isNaN_12338 l Ts hTs D k H.size x0 q1 hqq1) u_ml_Jxf58ca_59 u_st_Jxf58ca_isNaN_12338 u_in_Jxf58ca u_co_Jxf58ca_isNaN_12338 hd_Jxf58ca_isNaN_12338 ⟨Nat.le_of_ble_eq_true rfl, Nat.le_of_ble_eq_true rfl⟩ ⟨rfl, rfl⟩ hK hH hA (cut0 (isC := []) rfl rfl rfl) rfl rfl hl.1 (Nat.le_of_ble_eq_true rfl) dJxf58ca_floatToIntBits_5c35a_1 ⟨Nat.le_of_ble_eq_true rfl, Nat.le_of_ble_eq_true rfl⟩ (fun H locs hH => ?_)
  refine lv_if_ne (tgt := 12) hx hb dJxf58ca_floatToIntBits_5c35a_4 (by decide) (fun c2 => ?_) (fun c2 => ?_)
  · replace h := dc_neg c2 h
    refine lv_ldc hx hb hown (hts _ u_k_Jxf58ca_77) dJxf58ca_floatToIntBits_5c35a_12 ?_
    have h := Option.some.inj h
    subst h
    exact ge_i hx hb hr hlocks hQ hK hH hAe rfl dJxf58ca_floatToIntBits_5c35a_14
  · replace h := dc_pos c2 h
    refine lv_fload_n hx hb dJxf58ca_floatToIntBits_5c35a_7 rfl (lv_at hl 0 rfl) ?_
    refine vn_f2i hx hb (hml.trans hl.1.symm) hown (hts _ u_ml_Jxf58ca_74) (hts _ u_na_Float_floatToRawIntBits) (hts _ u_st_Float_floatToRawIntBits) (hts _ u_in_Jxf58ca) (Nat.le_of_ble_eq_true rfl) (Nat.le_of_ble_eq_true rfl) dJxf58ca_floatToIntBits_5c35a_8 ?_
    have h := Option.some.inj h
    subst h
    exact ge_i hx hb hr hlocks hQ hK hH hAe rfl dJxf58ca_floatToIntBits_5c35a_11
theorem hd_X11_bits : yX11_bits.cls = RX11 ∧ yX11_bits.cls ≠ "java/lang/invoke/MethodHandle" ∧ yX11_bits.cls ≠ "java/lang/invoke/VarHandle" ∧ (parseMethodDescriptor yX11_bits.desc).map (fun d => d.parameters.length) = some 2 := by decide +kernel
set_option maxHeartbeats 4000000 in
set_option maxRecDepth 100000 in
theorem mX11_bits (l : Launch) (Ts : List Cond) (hTs : ∀ w, w ∈ Ts ↔ w ∈ uT) (D : va_G) (k : Nat → ClassId) (sz : Nat) (a_t : Nat) (a_t_g : Nat) (a_t_ahead : Nat) (a_t_history : Nat) (a_t_saved : Nat) (a_t_tape : Nat) (a_t_numbers : Nat) (a_t_plan : Nat) (a_t_bestPlan : Nat) (a_t_sort : Nat) (a_t_size : Nat) (a_t_whole : Nat) (a_t_parts : Nat) (t_parts : Nat → UInt32) (t_size : Nat → Int32) (t_sort : Nat → Int32) (t_whole : Nat → Int32) (v_t_above : Value) (v_t_at : Value) (v_t_below : Value) (v_t_bestAbove : Value) (v_t_bestBelow : Value) (v_t_detail : Value) (v_t_hasSaved : Value) (v_t_historyMany : Value) (v_t_impossibleAt : Value) (v_t_keptDetail : Value) (v_t_keptReason : Value) (v_t_letter : Value) (v_t_taped : Value) (v_t_thrown : Value) (x1 : Int32) (x2 : Int32) (r : Int32 × Int32) (h : fX11_bits t_parts t_size t_sort t_whole x1 x2 = some r) : Met l yX11_bits (Cond.code yX11_bits cX11_bits 3 (some .int) :: Ts) ({ frames := 2, cells := 0, slots := 0, locals := 84 } : Room) (preM D k [.ref a_t, .int x1, .int x2] [(a_t, .inr (10, [v_t_thrown, .ref a_t_g, .ref a_t_ahead, .ref a_t_history, v_t_historyMany, .ref a_t_saved, v_t_hasSaved, .ref a_t_tape, v_t_taped, v_t_at, v_t_impossibleAt, v_t_letter, .ref a_t_numbers, .ref a_t_plan, v_t_detail, v_t_keptReason, v_t_keptDetail, v_t_above, v_t_below, v_t_bestAbove, v_t_bestBelow, .ref a_t_bestPlan, .ref a_t_sort, .ref a_t_size, .ref a_t_whole, .ref a_t_parts])), (a_t_sort, .inl (k 0, 3, .inl t_sort)), (a_t_size, .inl (k 0, 3, .inl t_size)), (a_t_whole, .inl (k 0, 12, .inl t_whole)), (a_t_parts, .inl (k 3, 12, .inr (.inr (.inl t_parts))))] sz) (postI D k r.1 [(a_t, .inr (10, [v_t_thrown, .ref a_t_g, .ref a_t_ahead, .ref a_t_history, v_t_historyMany, .ref a_t_saved, v_t_hasSaved, .ref a_t_tape, v_t_taped, v_t_at, v_t_impossibleAt, v_t_letter, .ref a_t_numbers, .ref a_t_plan, v_t_detail, v_t_keptReason, v_t_keptDetail, v_t_above, v_t_below, v_t_bestAbove, v_t_bestBelow, .ref a_t_bestPlan, .ref a_t_sort, .ref a_t_size, .ref a_t_whole, .ref a_t_parts])), (a_t_sort, .inl (k 0, 3, .inl t_sort)), (a_t_size, .inl (k 0, 3, .inl t_size)), (a_t_whole, .inl (k 0, 12, .inl t_whole)), (a_t_parts, .inl (k 3, 12, .inr (.inr (.inl t_parts))))] [(a_t, .inr (10, [.int r.2, .ref a_t_g, .ref a_t_ahead, .ref a_t_history, v_t_historyMany, .ref a_t_saved, v_t_hasSaved, .ref a_t_tape, v_t_taped, v_t_at, v_t_impossibleAt, v_t_letter, .ref a_t_numbers, .ref a_t_plan, v_t_detail, v_t_keptReason, v_t_keptDetail, v_t_above, v_t_below, v_t_bestAbove, v_t_bestBelow, .ref a_t_bestPlan, .ref a_t_sort, .ref a_t_size, .ref a_t_whole, .ref a_t_parts])), (a_t_sort, .inl (k 0, 3, .inl t_sort)), (a_t_size, .inl (k 0, 3, .inl t_size)), (a_t_whole, .inl (k 0, 12, .inl t_whole)), (a_t_parts, .inl (k 3, 12, .inr (.inr (.inl t_parts))))] sz) 0 0 (va_A [(a_t, .inr (10, [v_t_thrown, .ref a_t_g, .ref a_t_ahead, .ref a_t_history, v_t_historyMany, .ref a_t_saved, v_t_hasSaved, .ref a_t_tape, v_t_taped, v_t_at, v_t_impossibleAt, v_t_letter, .ref a_t_numbers, .ref a_t_plan, v_t_detail, v_t_keptReason, v_t_keptDetail, v_t_above, v_t_below, v_t_bestAbove, v_t_bestBelow, .ref a_t_bestPlan, .ref a_t_sort, .ref a_t_size, .ref a_t_whole, .ref a_t_parts])), (a_t_sort, .inl (k 0, 3, .inl t_sort)), (a_t_size, .inl (k 0, 3, .inl t_size)), (a_t_whole, .inl (k 0, 12, .inl t_whole)), (a_t_parts, .inl (k 3, 12, .inr (.inr (.inl t_parts))))] sz) := by
  refine Met.ofW (cc := cX11_bits) (maxL := 3) (ret := (some .int)) (by decide) rfl ?_
  intro p e s m args below meth c s₁ B hml hv
  obtain ⟨rfl, hsz, hP, hK, hD0⟩ := hv
  have hx := B.exec
  have hb := B.bytes
  have hr := B.returns
  have hts0 := atoms_spec (ws := (Cond.code yX11_bits cX11_bits 3 (some .int) :: Ts)) B.pre
  have hts : ∀ w ∈ uT, w.before _ s = true := fun w h => hts0 w (List.mem_cons_of_mem _ ((hTs w).mpr h))
  clear hts0
  have hown : s.vm.findClass RX11 = some m.cls := findClass_of_methodNamed B.named
  have hlocks := B.notSynchronized
  subst hsz
  have hD := hD0.self (sz := s.heap.size)
  generalize hAe : va_A [(a_t, .inr (10, [v_t_thrown, .ref a_t_g, .ref a_t_ahead, .ref a_t_history, v_t_historyMany, .ref a_t_saved, v_t_hasSaved, .ref a_t_tape, v_t_taped, v_t_at, v_t_impossibleAt, v_t_letter, .ref a_t_numbers, .ref a_t_plan, v_t_detail, v_t_keptReason, v_t_keptDetail, v_t_above, v_t_below, v_t_bestAbove, v_t_bestBelow, .ref a_t_bestPlan, .ref a_t_sort, .ref a_t_size, .ref a_t_whole, .ref a_t_parts])), (a_t_sort, .inl (k 0, 3, .inl t_sort)), (a_t_size, .inl (k 0, 3, .inl t_size)), (a_t_whole, .inl (k 0, 12, .inl t_whole)), (a_t_parts, .inl (k 3, 12, .inr (.inr (.inl t_parts))))] s.heap.size = A at hD ⊢
  have hA : ∀ q : Nat, s.heap.size ≤ q → A q := fun q h => by rw [← hAe]; exact Or.inr h
  have hH : HOK D A s.heap [(a_t, .inr (10, [v_t_thrown, .ref a_t_g, .ref a_t_ahead, .ref a_t_history, v_t_historyMany, .ref a_t_saved, v_t_hasSaved, .ref a_t_tape, v_t_taped, v_t_at, v_t_impossibleAt, v_t_letter, .ref a_t_numbers, .ref a_t_plan, v_t_detail, v_t_keptReason, v_t_keptDetail, v_t_above, v_t_below, v_t_bestAbove, v_t_bestBelow, .ref a_t_bestPlan, .ref a_t_sort, .ref a_t_size, .ref a_t_whole, .ref a_t_parts])), (a_t_sort, .inl (k 0, 3, .inl t_sort)), (a_t_size, .inl (k 0, 3, .inl t_size)), (a_t_whole, .inl (k 0, 12, .inl t_whole)), (a_t_parts, .inl (k 3, 12, .inr (.inr (.inl t_parts))))] s.heap [] := ⟨hP, hD, va_S.rf⟩
  have hl := lv_entry ([.ref a_t, .int x1, .int x2]) (n := 3) (Nat.le_of_ble_eq_true rfl)
  rw [lg_entry_eq]
  generalize (lg_sl ([.ref a_t, .int x1, .int x2]) ++ List.replicate (3 - (lg_sl ([.ref a_t, .int x1, .int x2])).length) Slot.unset).toArray = ls at hl ⊢
  have hl : lv_has ls 3 [(0, .ref a_t), (1, .int x1), (2, .int x2)] := hl
  generalize hQ : MQ below (postI D k r.1 [(a_t, .inr (10, [v_t_thrown, .ref a_t_g, .ref a_t_ahead, .ref a_t_history, v_t_historyMany, .ref a_t_saved, v_t_hasSaved, .ref a_t_tape, v_t_taped, v_t_at, v_t_impossibleAt, v_t_letter, .ref a_t_numbers, .ref a_t_plan, v_t_detail, v_t_keptReason, v_t_keptDetail, v_t_above, v_t_below, v_t_bestAbove, v_t_bestBelow, .ref a_t_bestPlan, .ref a_t_sort, .ref a_t_size, .ref a_t_whole, .ref a_t_parts])), (a_t_sort, .inl (k 0, 3, .inl t_sort)), (a_t_size, .inl (k 0, 3, .inl t_size)), (a_t_whole, .inl (k 0, 12, .inl t_whole)), (a_t_parts, .inl (k 3, 12, .inr (.inr (.inl t_parts))))] [(a_t, .inr (10, [.int r.2, .ref a_t_g, .ref a_t_ahead, .ref a_t_history, v_t_historyMany, .ref a_t_saved, v_t_hasSaved, .ref a_t_tape, v_t_taped, v_t_at, v_t_impossibleAt, v_t_letter, .ref a_t_numbers, .ref a_t_plan, v_t_detail, v_t_keptReason, v_t_keptDetail, v_t_above, v_t_below, v_t_bestAbove, v_t_bestBelow, .ref a_t_bestPlan, .ref a_t_sort, .ref a_t_size, .ref a_t_whole, .ref a_t_parts])), (a_t_sort, .inl (k 0, 3, .inl t_sort)), (a_t_size, .inl (k 0, 3, .inl t_size)), (a_t_whole, .inl (k 0, 12, .inl t_whole)), (a_t_parts, .inl (k 3, 12, .inr (.inr (.inl t_parts))))] s.heap.size) (List.toArray [.ref a_t, .int x1, .int x2]) s 0 0 A = Q
  clear hP hD hD0
  suffices K : ∀ (H : Heap) (locs : List Loc), HOK D A s.heap [(a_t, .inr (10, [v_t_thrown, .ref a_t_g, .ref a_t_ahead, .ref a_t_history, v_t_historyMany, .ref a_t_saved, v_t_hasSaved, .ref a_t_tape, v_t_taped, v_t_at, v_t_impossibleAt, v_t_letter, .ref a_t_numbers, .ref a_t_plan, v_t_detail, v_t_keptReason, v_t_keptDetail, v_t_above, v_t_below, v_t_bestAbove, v_t_bestBelow, .ref a_t_bestPlan, .ref a_t_sort, .ref a_t_size, .ref a_t_whole, .ref a_t_parts])), (a_t_sort, .inl (k 0, 3, .inl t_sort)), (a_t_size, .inl (k 0, 3, .inl t_size)), (a_t_whole, .inl (k 0, 12, .inl t_whole)), (a_t_parts, .inl (k 3, 12, .inr (.inr (.inl t_parts))))] H locs → W p l e ({ frames := 2, cells := 0, slots := 0, locals := 84 } : Room) s m (List.toArray [.ref a_t, .int x1, .int x2]) below meth c H locs 0 0 Q (F0 m 0 ls []) from K s.heap [] hH
  intro H locs hH
  rw [fX11_bits] at h
  refine lv_iload_n hx hb dX11_bits_0 rfl (lv_at hl 1 rfl) ?_
  obtain ⟨q1, hqq1, h⟩ := dc_bind h
  refine gc_Si (ws' := [(a_t, .inr (10, [v_t_thrown, .ref a_t_g, .ref a_t_ahead, .ref a_t_history, v_t_historyMany, .ref a_t_saved, v_t_hasSaved, .ref a_t_tape, v_t_taped, v_t_at, v_t_impossibleAt, v_t_letter, .ref a_t_numbers, .ref a_t_plan, v_t_detail, v_t_keptReason, v_t_keptDetail, v_t_above, v_t_below, v_t_bestAbove, v_t_bestBelow, .ref a_t_bestPlan, .ref a_t_sort, .ref a_t_size, .ref a_t_whole, .ref a_t_parts])), (a_t_sort, .inl (k 0, 3, .inl t_sort)), (a_t_size, .inl (k 0, 3, .inl t_size)), (a_t_whole, .inl (k 0, 12, .inl t_whole)), (a_t_parts, .inl (k 3, 12, .inr (.inr (.inl t_parts))))]) (As := [.int x1]) (rest := []) (n := 1) hTs ⟨hx, hb, hml, hown, hts⟩ (mX11_isRow l Ts hTs D k H.size x1 q1 hqq1) u_ml_X11_241 u_st_X11_isRow u_in_X11 u_co_X11_isRow hd_X11_isRow ⟨Nat.le_of_ble_eq_true rfl, Nat.le_of_ble_eq_true rfl⟩ ⟨rfl, rfl⟩ hK hH hA (cut0 (isC := []) rfl rfl rfl) rfl rfl hl.1 (Nat.le_of_ble_eq_true rfl) dX11_bits_1 ⟨Nat.le_of_ble_eq_true rfl, Nat.le_of_ble_eq_true rfl⟩ (fun H locs hH => ?_)
  refine lv_if_ne (tgt := 13) hx hb dX11_bits_4 (by decide) (fun c2 => ?_) (fun c2 => ?_)
  · replace h := dc_neg c2 h
    refine lv_aload_n hx hb dX11_bits_13 rfl (lv_at hl 0 rfl) ?_
    refine gk_get (ci := 10) (C := RX11) (T := TX11) (N := 26) hx hb hts u_ws_X11 hown hK hH 0 rfl rfl 22 (by decide) u_fl_X11_39 rfl dX11_bits_14 ?_
    refine lv_iload_n hx hb dX11_bits_17 rfl (lv_at hl 1 rfl) ?_
    obtain ⟨g4, h⟩ := dc_need h
    refine gk_iald hx hb hK hH 1 rfl (dk_in g4) dX11_bits_18 ?_
    refine lv_if_eq (tgt := 38) hx hb dX11_bits_19 (by decide) (fun c5 => ?_) (fun c5 => ?_)
    · replace h := dc_pos c5 h
      refine lv_aload_n hx hb dX11_bits_38 rfl (lv_at hl 0 rfl) ?_
      refine lv_iconst (v := 2) hx hb dX11_bits_39 (by decide) ?_
      obtain ⟨q6, hqq6, h⟩ := dc_bind h
      refine gc_Vi (ws' := [(a_t, .inr (10, [.int q6.2, .ref a_t_g, .ref a_t_ahead, .ref a_t_history, v_t_historyMany, .ref a_t_saved, v_t_hasSaved, .ref a_t_tape, v_t_taped, v_t_at, v_t_impossibleAt, v_t_letter, .ref a_t_numbers, .ref a_t_plan, v_t_detail, v_t_keptReason, v_t_keptDetail, v_t_above, v_t_below, v_t_bestAbove, v_t_bestBelow, .ref a_t_bestPlan, .ref a_t_sort, .ref a_t_size, .ref a_t_whole, .ref a_t_parts])), (a_t_sort, .inl (k 0, 3, .inl t_sort)), (a_t_size, .inl (k 0, 3, .inl t_size)), (a_t_whole, .inl (k 0, 12, .inl t_whole)), (a_t_parts, .inl (k 3, 12, .inr (.inr (.inl t_parts))))]) (As := [.int (2 : Int32)]) (rest := []) (n := 1) (ci := 10) (cq := (RX11, TX11, 26)) hTs ⟨hx, hb, hml, hown, hts⟩ (mX11_fails l Ts hTs D k H.size a_t a_t_g a_t_ahead a_t_history a_t_saved a_t_tape a_t_numbers a_t_plan a_t_bestPlan a_t_sort a_t_size a_t_whole a_t_parts v_t_above v_t_at v_t_below v_t_bestAbove v_t_bestBelow v_t_detail v_t_hasSaved v_t_historyMany v_t_impossibleAt v_t_keptDetail v_t_keptReason v_t_letter v_t_taped v_t_thrown (2 : Int32) q6 hqq6) u_ml_X11_65 u_im_X11_fails u_se_X11_fails u_in_X11 u_co_X11_fails hd_X11_fails ⟨Nat.le_of_ble_eq_true rfl, Nat.le_of_ble_eq_true rfl⟩ ⟨rfl, rfl⟩ hK hH hA (cutM (isC := [0]) [some 0, none, none, none, none] 5 rfl rfl rfl rfl rfl rfl rfl) rfl rfl rfl rfl hl.1 (Nat.le_of_ble_eq_true rfl) dX11_bits_40 ⟨Nat.le_of_ble_eq_true rfl, Nat.le_of_ble_eq_true rfl⟩ (fun H locs hH => ?_)
      have h := Option.some.inj h
      subst h
      exact ge_i hx hb hr hlocks hQ hK hH hAe rfl dX11_bits_43
    · replace h := dc_neg c5 h
      refine lv_iload_n hx hb dX11_bits_22 rfl (lv_at hl 2 rfl) ?_
      refine lv_iconst (v := 0) hx hb dX11_bits_23 (by decide) ?_
      refine lv_aload_n hx hb dX11_bits_24 rfl (lv_at hl 0 rfl) ?_
      refine gk_get (ci := 10) (C := RX11) (T := TX11) (N := 26) hx hb hts u_ws_X11 hown hK hH 0 rfl rfl 23 (by decide) u_fl_X11_42 rfl dX11_bits_25 ?_
      refine lv_iload_n hx hb dX11_bits_28 rfl (lv_at hl 1 rfl) ?_
      obtain ⟨g7, h⟩ := dc_need h
      refine gk_iald hx hb hK hH 2 rfl (dk_in g7) dX11_bits_29 ?_
      refine lv_iconst (v := 1) hx hb dX11_bits_30 (by decide) ?_
      refine lv_isub hx hb dX11_bits_31 ?_
      obtain ⟨q8, hqq8, h⟩ := dc_bind h
      refine gc_Si (ws' := [(a_t, .inr (10, [v_t_thrown, .ref a_t_g, .ref a_t_ahead, .ref a_t_history, v_t_historyMany, .ref a_t_saved, v_t_hasSaved, .ref a_t_tape, v_t_taped, v_t_at, v_t_impossibleAt, v_t_letter, .ref a_t_numbers, .ref a_t_plan, v_t_detail, v_t_keptReason, v_t_keptDetail, v_t_above, v_t_below, v_t_bestAbove, v_t_bestBelow, .ref a_t_bestPlan, .ref a_t_sort, .ref a_t_size, .ref a_t_whole, .ref a_t_parts])), (a_t_sort, .inl (k 0, 3, .inl t_sort)), (a_t_size, .inl (k 0, 3, .inl t_size)), (a_t_whole, .inl (k 0, 12, .inl t_whole)), (a_t_parts, .inl (k 3, 12, .inr (.inr (.inl t_parts))))]) (As := [.int x2, .int (0 : Int32), .int ((t_size x1.toNatClampNeg) - (1 : Int32))]) (rest := []) (n := 3) hTs ⟨hx, hb, hml, hown, hts⟩ (mX11_in l Ts hTs D k H.size x2 (0 : Int32) ((t_size x1.toNatClampNeg) - (1 : Int32)) q8 hqq8) u_ml_X11_55 u_st_X11_in u_in_X11 u_co_X11_in hd_X11_in ⟨Nat.le_of_ble_eq_true rfl, Nat.le_of_ble_eq_true rfl⟩ ⟨rfl, rfl⟩ hK hH hA (cut0 (isC := []) rfl rfl rfl) rfl rfl hl.1 (Nat.le_of_ble_eq_true rfl) dX11_bits_32 ⟨Nat.le_of_ble_eq_true rfl, Nat.le_of_ble_eq_true rfl⟩ (fun H locs hH => ?_)
      refine lv_if_ne (tgt := 44) hx hb dX11_bits_35 (by decide) (fun c9 => ?_) (fun c9 => ?_)
      · replace h := dc_neg c9 h
        refine lv_aload_n hx hb dX11_bits_44 rfl (lv_at hl 0 rfl) ?_
        refine lv_aload_n hx hb dX11_bits_45 rfl (lv_at hl 0 rfl) ?_
        refine gk_get (ci := 10) (C := RX11) (T := TX11) (N := 26) hx hb hts u_ws_X11 hown hK hH 0 rfl rfl 22 (by decide) u_fl_X11_39 rfl dX11_bits_46 ?_
        refine lv_iload_n hx hb dX11_bits_49 rfl (lv_at hl 1 rfl) ?_
        obtain ⟨g11, h⟩ := dc_need h
        refine gk_iald hx hb hK hH 1 rfl (dk_in g11) dX11_bits_50 ?_
        refine lv_iconst (v := 1) hx hb dX11_bits_51 (by decide) ?_
        refine lv_icmp_ne (tgt := 69) hx hb dX11_bits_52 (by decide) (fun c12 => ?_) (fun c12 => ?_)
        · replace h := dc_neg c12 h
          refine lv_aload_n hx hb dX11_bits_69 rfl (lv_at hl 0 rfl) ?_
          refine gk_get (ci := 10) (C := RX11) (T := TX11) (N := 26) hx hb hts u_ws_X11 hown hK hH 0 rfl rfl 25 (by decide) u_fl_X11_48 rfl dX11_bits_70 ?_
          refine lv_iconst (v := 4) hx hb dX11_bits_73 (by decide) ?_
          refine lv_iload_n hx hb dX11_bits_74 rfl (lv_at hl 1 rfl) ?_
          refine lv_imul hx hb dX11_bits_75 ?_
          refine lv_iload_n hx hb dX11_bits_76 rfl (lv_at hl 2 rfl) ?_
          refine lv_iadd hx hb dX11_bits_77 ?_
          obtain ⟨g16, h⟩ := dc_need h
          refine gk_fald hx hb hK hH 4 rfl (dk_in g16) dX11_bits_78 ?_
          obtain ⟨q17, hqq17, h⟩ := dc_bind h
          refine gc_Si (ws' := [(a_t, .inr (10, [v_t_thrown, .ref a_t_g, .ref a_t_ahead, .ref a_t_history, v_t_historyMany, .ref a_t_saved, v_t_hasSaved, .ref a_t_tape, v_t_taped, v_t_at, v_t_impossibleAt, v_t_letter, .ref a_t_numbers, .ref a_t_plan, v_t_detail, v_t_keptReason, v_t_keptDetail, v_t_above, v_t_below, v_t_bestAbove, v_t_bestBelow, .ref a_t_bestPlan, .ref a_t_sort, .ref a_t_size, .ref a_t_whole, .ref a_t_parts])), (a_t_sort, .inl (k 0, 3, .inl t_sort)), (a_t_size, .inl (k 0, 3, .inl t_size)), (a_t_whole, .inl (k 0, 12, .inl t_whole)), (a_t_parts, .inl (k 3, 12, .inr (.inr (.inl t_parts))))]) (As := [.float (t_parts (((4 : Int32) * x1) + x2).toNatClampNeg)]) (rest := [.ref a_t]) (n := 1) hTs ⟨hx, hb, hml, hown, hts⟩ (mJxf58ca_floatToIntBits_5c35a l Ts hTs D k H.size (t_parts (((4 : Int32) * x1) + x2).toNatClampNeg) q17 hqq17) u_ml_X11_244 u_st_Jxf58ca_floatToIntBits_5c35a u_in_Jxf58ca u_co_Jxf58ca_floatToIntBits_5c35a hd_Jxf58ca_floatToIntBits_5c35a ⟨Nat.le_of_ble_eq_true rfl, Nat.le_of_ble_eq_true rfl⟩ ⟨rfl, rfl⟩ hK hH hA (cut0 (isC := []) rfl rfl rfl) rfl rfl hl.1 (Nat.le_of_ble_eq_true rfl) dX11_bits_79 ⟨Nat.le_of_ble_eq_true rfl, Nat.le_of_ble_eq_true rfl⟩ (fun H locs hH => ?_)
          obtain ⟨q18, hqq18, h⟩ := dc_bind h
          refine gc_Vi (ws' := [(a_t, .inr (10, [.int q18.2, .ref a_t_g, .ref a_t_ahead, .ref a_t_history, v_t_historyMany, .ref a_t_saved, v_t_hasSaved, .ref a_t_tape, v_t_taped, v_t_at, v_t_impossibleAt, v_t_letter, .ref a_t_numbers, .ref a_t_plan, v_t_detail, v_t_keptReason, v_t_keptDetail, v_t_above, v_t_below, v_t_bestAbove, v_t_bestBelow, .ref a_t_bestPlan, .ref a_t_sort, .ref a_t_size, .ref a_t_whole, .ref a_t_parts])), (a_t_sort, .inl (k 0, 3, .inl t_sort)), (a_t_size, .inl (k 0, 3, .inl t_size)), (a_t_whole, .inl (k 0, 12, .inl t_whole)), (a_t_parts, .inl (k 3, 12, .inr (.inr (.inl t_parts))))]) (As := [.int q17]) (rest := []) (n := 1) (ci := 10) (cq := (RX11, TX11, 26)) hTs ⟨hx, hb, hml, hown, hts⟩ (mX11_done l Ts hTs D k H.size a_t a_t_g a_t_ahead a_t_history a_t_saved a_t_tape a_t_numbers a_t_plan a_t_bestPlan a_t_sort a_t_size a_t_whole a_t_parts v_t_above v_t_at v_t_below v_t_bestAbove v_t_bestBelow v_t_detail v_t_hasSaved v_t_historyMany v_t_impossibleAt v_t_keptDetail v_t_keptReason v_t_letter v_t_taped v_t_thrown q17 q18 hqq18) u_ml_X11_69 u_im_X11_done u_se_X11_done u_in_X11 u_co_X11_done hd_X11_done ⟨Nat.le_of_ble_eq_true rfl, Nat.le_of_ble_eq_true rfl⟩ ⟨rfl, rfl⟩ hK hH hA (cutM (isC := [0]) [some 0, none, none, none, none] 5 rfl rfl rfl rfl rfl rfl rfl) rfl rfl rfl rfl hl.1 (Nat.le_of_ble_eq_true rfl) dX11_bits_82 ⟨Nat.le_of_ble_eq_true rfl, Nat.le_of_ble_eq_true rfl⟩ (fun H locs hH => ?_)
          have h := Option.some.inj h
          subst h
          exact ge_i hx hb hr hlocks hQ hK hH hAe rfl dX11_bits_85
        · replace h := dc_pos c12 h
          refine lv_aload_n hx hb dX11_bits_55 rfl (lv_at hl 0 rfl) ?_
          refine gk_get (ci := 10) (C := RX11) (T := TX11) (N := 26) hx hb hts u_ws_X11 hown hK hH 0 rfl rfl 24 (by decide) u_fl_X11_45 rfl dX11_bits_56 ?_
          refine lv_iconst (v := 4) hx hb dX11_bits_59 (by decide) ?_
          refine lv_iload_n hx hb dX11_bits_60 rfl (lv_at hl 1 rfl) ?_
          refine lv_imul hx hb dX11_bits_61 ?_
          refine lv_iload_n hx hb dX11_bits_62 rfl (lv_at hl 2 rfl) ?_
          refine lv_iadd hx hb dX11_bits_63 ?_
          obtain ⟨g13, h⟩ := dc_need h
          refine gk_iald hx hb hK hH 3 rfl (dk_in g13) dX11_bits_64 ?_
          refine lv_i2f hx hb dX11_bits_65 ?_
          refine lv_goto (tgt := 79) hx hb dX11_bits_66 (by decide) ?_
          obtain ⟨q14, hqq14, h⟩ := dc_bind h
          refine gc_Si (ws' := [(a_t, .inr (10, [v_t_thrown, .ref a_t_g, .ref a_t_ahead, .ref a_t_history, v_t_historyMany, .ref a_t_saved, v_t_hasSaved, .ref a_t_tape, v_t_taped, v_t_at, v_t_impossibleAt, v_t_letter, .ref a_t_numbers, .ref a_t_plan, v_t_detail, v_t_keptReason, v_t_keptDetail, v_t_above, v_t_below, v_t_bestAbove, v_t_bestBelow, .ref a_t_bestPlan, .ref a_t_sort, .ref a_t_size, .ref a_t_whole, .ref a_t_parts])), (a_t_sort, .inl (k 0, 3, .inl t_sort)), (a_t_size, .inl (k 0, 3, .inl t_size)), (a_t_whole, .inl (k 0, 12, .inl t_whole)), (a_t_parts, .inl (k 3, 12, .inr (.inr (.inl t_parts))))]) (As := [.float (FP.i2f (t_whole (((4 : Int32) * x1) + x2).toNatClampNeg))]) (rest := [.ref a_t]) (n := 1) hTs ⟨hx, hb, hml, hown, hts⟩ (mJxf58ca_floatToIntBits_5c35a l Ts hTs D k H.size (FP.i2f (t_whole (((4 : Int32) * x1) + x2).toNatClampNeg)) q14 hqq14) u_ml_X11_244 u_st_Jxf58ca_floatToIntBits_5c35a u_in_Jxf58ca u_co_Jxf58ca_floatToIntBits_5c35a hd_Jxf58ca_floatToIntBits_5c35a ⟨Nat.le_of_ble_eq_true rfl, Nat.le_of_ble_eq_true rfl⟩ ⟨rfl, rfl⟩ hK hH hA (cut0 (isC := []) rfl rfl rfl) rfl rfl hl.1 (Nat.le_of_ble_eq_true rfl) dX11_bits_79 ⟨Nat.le_of_ble_eq_true rfl, Nat.le_of_ble_eq_true rfl⟩ (fun H locs hH => ?_)
          obtain ⟨q15, hqq15, h⟩ := dc_bind h
          refine gc_Vi (ws' := [(a_t, .inr (10, [.int q15.2, .ref a_t_g, .ref a_t_ahead, .ref a_t_history, v_t_historyMany, .ref a_t_saved, v_t_hasSaved, .ref a_t_tape, v_t_taped, v_t_at, v_t_impossibleAt, v_t_letter, .ref a_t_numbers, .ref a_t_plan, v_t_detail, v_t_keptReason, v_t_keptDetail, v_t_above, v_t_below, v_t_bestAbove, v_t_bestBelow, .ref a_t_bestPlan, .ref a_t_sort, .ref a_t_size, .ref a_t_whole, .ref a_t_parts])), (a_t_sort, .inl (k 0, 3, .inl t_sort)), (a_t_size, .inl (k 0, 3, .inl t_size)), (a_t_whole, .inl (k 0, 12, .inl t_whole)), (a_t_parts, .inl (k 3, 12, .inr (.inr (.inl t_parts))))]) (As := [.int q14]) (rest := []) (n := 1) (ci := 10) (cq := (RX11, TX11, 26)) hTs ⟨hx, hb, hml, hown, hts⟩ (mX11_done l Ts hTs D k H.size a_t a_t_g a_t_ahead a_t_history a_t_saved a_t_tape a_t_numbers a_t_plan a_t_bestPlan a_t_sort a_t_size a_t_whole a_t_parts v_t_above v_t_at v_t_below v_t_bestAbove v_t_bestBelow v_t_detail v_t_hasSaved v_t_historyMany v_t_impossibleAt v_t_keptDetail v_t_keptReason v_t_letter v_t_taped v_t_thrown q14 q15 hqq15) u_ml_X11_69 u_im_X11_done u_se_X11_done u_in_X11 u_co_X11_done hd_X11_done ⟨Nat.le_of_ble_eq_true rfl, Nat.le_of_ble_eq_true rfl⟩ ⟨rfl, rfl⟩ hK hH hA (cutM (isC := [0]) [some 0, none, none, none, none] 5 rfl rfl rfl rfl rfl rfl rfl) rfl rfl rfl rfl hl.1 (Nat.le_of_ble_eq_true rfl) dX11_bits_82 ⟨Nat.le_of_ble_eq_true rfl, Nat.le_of_ble_eq_true rfl⟩ (fun H locs hH => ?_)
          have h := Option.some.inj h
          subst h
          exact ge_i hx hb hr hlocks hQ hK hH hAe rfl dX11_bits_85
      · replace h := dc_pos c9 h
        refine lv_aload_n hx hb dX11_bits_38 rfl (lv_at hl 0 rfl) ?_
        refine lv_iconst (v := 2) hx hb dX11_bits_39 (by decide) ?_
        obtain ⟨q10, hqq10, h⟩ := dc_bind h
        refine gc_Vi (ws' := [(a_t, .inr (10, [.int q10.2, .ref a_t_g, .ref a_t_ahead, .ref a_t_history, v_t_historyMany, .ref a_t_saved, v_t_hasSaved, .ref a_t_tape, v_t_taped, v_t_at, v_t_impossibleAt, v_t_letter, .ref a_t_numbers, .ref a_t_plan, v_t_detail, v_t_keptReason, v_t_keptDetail, v_t_above, v_t_below, v_t_bestAbove, v_t_bestBelow, .ref a_t_bestPlan, .ref a_t_sort, .ref a_t_size, .ref a_t_whole, .ref a_t_parts])), (a_t_sort, .inl (k 0, 3, .inl t_sort)), (a_t_size, .inl (k 0, 3, .inl t_size)), (a_t_whole, .inl (k 0, 12, .inl t_whole)), (a_t_parts, .inl (k 3, 12, .inr (.inr (.inl t_parts))))]) (As := [.int (2 : Int32)]) (rest := []) (n := 1) (ci := 10) (cq := (RX11, TX11, 26)) hTs ⟨hx, hb, hml, hown, hts⟩ (mX11_fails l Ts hTs D k H.size a_t a_t_g a_t_ahead a_t_history a_t_saved a_t_tape a_t_numbers a_t_plan a_t_bestPlan a_t_sort a_t_size a_t_whole a_t_parts v_t_above v_t_at v_t_below v_t_bestAbove v_t_bestBelow v_t_detail v_t_hasSaved v_t_historyMany v_t_impossibleAt v_t_keptDetail v_t_keptReason v_t_letter v_t_taped v_t_thrown (2 : Int32) q10 hqq10) u_ml_X11_65 u_im_X11_fails u_se_X11_fails u_in_X11 u_co_X11_fails hd_X11_fails ⟨Nat.le_of_ble_eq_true rfl, Nat.le_of_ble_eq_true rfl⟩ ⟨rfl, rfl⟩ hK hH hA (cutM (isC := [0]) [some 0, none, none, none, none] 5 rfl rfl rfl rfl rfl rfl rfl) rfl rfl rfl rfl hl.1 (Nat.le_of_ble_eq_true rfl) dX11_bits_40 ⟨Nat.le_of_ble_eq_true rfl, Nat.le_of_ble_eq_true rfl⟩ (fun H locs hH => ?_)
        have h := Option.some.inj h
        subst h
        exact ge_i hx hb hr hlocks hQ hK hH hAe rfl dX11_bits_43
  · replace h := dc_pos c2 h
    refine lv_aload_n hx hb dX11_bits_7 rfl (lv_at hl 0 rfl) ?_
    refine lv_iconst (v := 1) hx hb dX11_bits_8 (by decide) ?_
    obtain ⟨q3, hqq3, h⟩ := dc_bind h
    refine gc_Vi (ws' := [(a_t, .inr (10, [.int q3.2, .ref a_t_g, .ref a_t_ahead, .ref a_t_history, v_t_historyMany, .ref a_t_saved, v_t_hasSaved, .ref a_t_tape, v_t_taped, v_t_at, v_t_impossibleAt, v_t_letter, .ref a_t_numbers, .ref a_t_plan, v_t_detail, v_t_keptReason, v_t_keptDetail, v_t_above, v_t_below, v_t_bestAbove, v_t_bestBelow, .ref a_t_bestPlan, .ref a_t_sort, .ref a_t_size, .ref a_t_whole, .ref a_t_parts])), (a_t_sort, .inl (k 0, 3, .inl t_sort)), (a_t_size, .inl (k 0, 3, .inl t_size)), (a_t_whole, .inl (k 0, 12, .inl t_whole)), (a_t_parts, .inl (k 3, 12, .inr (.inr (.inl t_parts))))]) (As := [.int (1 : Int32)]) (rest := []) (n := 1) (ci := 10) (cq := (RX11, TX11, 26)) hTs ⟨hx, hb, hml, hown, hts⟩ (mX11_fails l Ts hTs D k H.size a_t a_t_g a_t_ahead a_t_history a_t_saved a_t_tape a_t_numbers a_t_plan a_t_bestPlan a_t_sort a_t_size a_t_whole a_t_parts v_t_above v_t_at v_t_below v_t_bestAbove v_t_bestBelow v_t_detail v_t_hasSaved v_t_historyMany v_t_impossibleAt v_t_keptDetail v_t_keptReason v_t_letter v_t_taped v_t_thrown (1 : Int32) q3 hqq3) u_ml_X11_65 u_im_X11_fails u_se_X11_fails u_in_X11 u_co_X11_fails hd_X11_fails ⟨Nat.le_of_ble_eq_true rfl, Nat.le_of_ble_eq_true rfl⟩ ⟨rfl, rfl⟩ hK hH hA (cutM (isC := [0]) [some 0, none, none, none, none] 5 rfl rfl rfl rfl rfl rfl rfl) rfl rfl rfl rfl hl.1 (Nat.le_of_ble_eq_true rfl) dX11_bits_9 ⟨Nat.le_of_ble_eq_true rfl, Nat.le_of_ble_eq_true rfl⟩ (fun H locs hH => ?_)
    have h := Option.some.inj h
    subst h
    exact ge_i hx hb hr hlocks hQ hK hH hAe rfl dX11_bits_12
theorem hd_X11_undo : yX11_undo.cls = RX11 ∧ yX11_undo.cls ≠ "java/lang/invoke/MethodHandle" ∧ yX11_undo.cls ≠ "java/lang/invoke/VarHandle" ∧ (parseMethodDescriptor yX11_undo.desc).map (fun d => d.parameters.length) = some 0 := by decide +kernel
set_option maxHeartbeats 4000000 in
set_option maxRecDepth 100000 in
theorem mX11_undo (l : Launch) (Ts : List Cond) (hTs : ∀ w, w ∈ Ts ↔ w ∈ uT) (D : va_G) (k : Nat → ClassId) (sz : Nat) (a_t : Nat) (a_t_g : Nat) (a_t_ahead : Nat) (a_t_history : Nat) (a_t_saved : Nat) (a_t_tape : Nat) (a_t_numbers : Nat) (a_t_plan : Nat) (a_t_bestPlan : Nat) (a_t_sort : Nat) (a_t_size : Nat) (a_t_whole : Nat) (a_t_parts : Nat) (t_g : Nat → Int32) (t_history : Nat → Int32) (t_historyMany : Int32) (v_t_above : Value) (v_t_at : Value) (v_t_below : Value) (v_t_bestAbove : Value) (v_t_bestBelow : Value) (v_t_detail : Value) (v_t_hasSaved : Value) (v_t_impossibleAt : Value) (v_t_keptDetail : Value) (v_t_keptReason : Value) (v_t_letter : Value) (v_t_taped : Value) (v_t_thrown : Value) (r : Int32 × (Nat → Int32) × Int32 × Int32) (h : fX11_undo t_g t_history t_historyMany = some r) : Met l yX11_undo (Cond.code yX11_undo cX11_undo 2 (some .int) :: Ts) ({ frames := 1, cells := 0, slots := 0, locals := 21 } : Room) (preM D k [.ref a_t] [(a_t, .inr (10, [v_t_thrown, .ref a_t_g, .ref a_t_ahead, .ref a_t_history, .int t_historyMany, .ref a_t_saved, v_t_hasSaved, .ref a_t_tape, v_t_taped, v_t_at, v_t_impossibleAt, v_t_letter, .ref a_t_numbers, .ref a_t_plan, v_t_detail, v_t_keptReason, v_t_keptDetail, v_t_above, v_t_below, v_t_bestAbove, v_t_bestBelow, .ref a_t_bestPlan, .ref a_t_sort, .ref a_t_size, .ref a_t_whole, .ref a_t_parts])), (a_t_history, .inl (k 0, 1768, .inl t_history)), (a_t_g, .inl (k 0, 221, .inl t_g))] sz) (postI D k r.1 [(a_t, .inr (10, [v_t_thrown, .ref a_t_g, .ref a_t_ahead, .ref a_t_history, .int t_historyMany, .ref a_t_saved, v_t_hasSaved, .ref a_t_tape, v_t_taped, v_t_at, v_t_impossibleAt, v_t_letter, .ref a_t_numbers, .ref a_t_plan, v_t_detail, v_t_keptReason, v_t_keptDetail, v_t_above, v_t_below, v_t_bestAbove, v_t_bestBelow, .ref a_t_bestPlan, .ref a_t_sort, .ref a_t_size, .ref a_t_whole, .ref a_t_parts])), (a_t_history, .inl (k 0, 1768, .inl t_history)), (a_t_g, .inl (k 0, 221, .inl t_g))] [(a_t, .inr (10, [.int r.2.2.2, .ref a_t_g, .ref a_t_ahead, .ref a_t_history, .int r.2.2.1, .ref a_t_saved, v_t_hasSaved, .ref a_t_tape, v_t_taped, v_t_at, v_t_impossibleAt, v_t_letter, .ref a_t_numbers, .ref a_t_plan, v_t_detail, v_t_keptReason, v_t_keptDetail, v_t_above, v_t_below, v_t_bestAbove, v_t_bestBelow, .ref a_t_bestPlan, .ref a_t_sort, .ref a_t_size, .ref a_t_whole, .ref a_t_parts])), (a_t_history, .inl (k 0, 1768, .inl t_history)), (a_t_g, .inl (k 0, 221, .inl r.2.1))] sz) 0 0 (va_A [(a_t, .inr (10, [v_t_thrown, .ref a_t_g, .ref a_t_ahead, .ref a_t_history, .int t_historyMany, .ref a_t_saved, v_t_hasSaved, .ref a_t_tape, v_t_taped, v_t_at, v_t_impossibleAt, v_t_letter, .ref a_t_numbers, .ref a_t_plan, v_t_detail, v_t_keptReason, v_t_keptDetail, v_t_above, v_t_below, v_t_bestAbove, v_t_bestBelow, .ref a_t_bestPlan, .ref a_t_sort, .ref a_t_size, .ref a_t_whole, .ref a_t_parts])), (a_t_history, .inl (k 0, 1768, .inl t_history)), (a_t_g, .inl (k 0, 221, .inl t_g))] sz) := by
  refine Met.ofW (cc := cX11_undo) (maxL := 2) (ret := (some .int)) (by decide) rfl ?_
  intro p e s m args below meth c s₁ B hml hv
  obtain ⟨rfl, hsz, hP, hK, hD0⟩ := hv
  have hx := B.exec
  have hb := B.bytes
  have hr := B.returns
  have hts0 := atoms_spec (ws := (Cond.code yX11_undo cX11_undo 2 (some .int) :: Ts)) B.pre
  have hts : ∀ w ∈ uT, w.before _ s = true := fun w h => hts0 w (List.mem_cons_of_mem _ ((hTs w).mpr h))
  clear hts0
  have hown : s.vm.findClass RX11 = some m.cls := findClass_of_methodNamed B.named
  have hlocks := B.notSynchronized
  subst hsz
  have hD := hD0.self (sz := s.heap.size)
  generalize hAe : va_A [(a_t, .inr (10, [v_t_thrown, .ref a_t_g, .ref a_t_ahead, .ref a_t_history, .int t_historyMany, .ref a_t_saved, v_t_hasSaved, .ref a_t_tape, v_t_taped, v_t_at, v_t_impossibleAt, v_t_letter, .ref a_t_numbers, .ref a_t_plan, v_t_detail, v_t_keptReason, v_t_keptDetail, v_t_above, v_t_below, v_t_bestAbove, v_t_bestBelow, .ref a_t_bestPlan, .ref a_t_sort, .ref a_t_size, .ref a_t_whole, .ref a_t_parts])), (a_t_history, .inl (k 0, 1768, .inl t_history)), (a_t_g, .inl (k 0, 221, .inl t_g))] s.heap.size = A at hD ⊢
  have hA : ∀ q : Nat, s.heap.size ≤ q → A q := fun q h => by rw [← hAe]; exact Or.inr h
  have hH : HOK D A s.heap [(a_t, .inr (10, [v_t_thrown, .ref a_t_g, .ref a_t_ahead, .ref a_t_history, .int t_historyMany, .ref a_t_saved, v_t_hasSaved, .ref a_t_tape, v_t_taped, v_t_at, v_t_impossibleAt, v_t_letter, .ref a_t_numbers, .ref a_t_plan, v_t_detail, v_t_keptReason, v_t_keptDetail, v_t_above, v_t_below, v_t_bestAbove, v_t_bestBelow, .ref a_t_bestPlan, .ref a_t_sort, .ref a_t_size, .ref a_t_whole, .ref a_t_parts])), (a_t_history, .inl (k 0, 1768, .inl t_history)), (a_t_g, .inl (k 0, 221, .inl t_g))] s.heap [] := ⟨hP, hD, va_S.rf⟩
  have hl := lv_entry ([.ref a_t]) (n := 2) (Nat.le_of_ble_eq_true rfl)
  rw [lg_entry_eq]
  generalize (lg_sl ([.ref a_t]) ++ List.replicate (2 - (lg_sl ([.ref a_t])).length) Slot.unset).toArray = ls at hl ⊢
  have hl : lv_has ls 2 [(0, .ref a_t)] := hl
  generalize hQ : MQ below (postI D k r.1 [(a_t, .inr (10, [v_t_thrown, .ref a_t_g, .ref a_t_ahead, .ref a_t_history, .int t_historyMany, .ref a_t_saved, v_t_hasSaved, .ref a_t_tape, v_t_taped, v_t_at, v_t_impossibleAt, v_t_letter, .ref a_t_numbers, .ref a_t_plan, v_t_detail, v_t_keptReason, v_t_keptDetail, v_t_above, v_t_below, v_t_bestAbove, v_t_bestBelow, .ref a_t_bestPlan, .ref a_t_sort, .ref a_t_size, .ref a_t_whole, .ref a_t_parts])), (a_t_history, .inl (k 0, 1768, .inl t_history)), (a_t_g, .inl (k 0, 221, .inl t_g))] [(a_t, .inr (10, [.int r.2.2.2, .ref a_t_g, .ref a_t_ahead, .ref a_t_history, .int r.2.2.1, .ref a_t_saved, v_t_hasSaved, .ref a_t_tape, v_t_taped, v_t_at, v_t_impossibleAt, v_t_letter, .ref a_t_numbers, .ref a_t_plan, v_t_detail, v_t_keptReason, v_t_keptDetail, v_t_above, v_t_below, v_t_bestAbove, v_t_bestBelow, .ref a_t_bestPlan, .ref a_t_sort, .ref a_t_size, .ref a_t_whole, .ref a_t_parts])), (a_t_history, .inl (k 0, 1768, .inl t_history)), (a_t_g, .inl (k 0, 221, .inl r.2.1))] s.heap.size) (List.toArray [.ref a_t]) s 0 0 A = Q
  clear hP hD hD0
  suffices K : ∀ (H : Heap) (locs : List Loc), HOK D A s.heap [(a_t, .inr (10, [v_t_thrown, .ref a_t_g, .ref a_t_ahead, .ref a_t_history, .int t_historyMany, .ref a_t_saved, v_t_hasSaved, .ref a_t_tape, v_t_taped, v_t_at, v_t_impossibleAt, v_t_letter, .ref a_t_numbers, .ref a_t_plan, v_t_detail, v_t_keptReason, v_t_keptDetail, v_t_above, v_t_below, v_t_bestAbove, v_t_bestBelow, .ref a_t_bestPlan, .ref a_t_sort, .ref a_t_size, .ref a_t_whole, .ref a_t_parts])), (a_t_history, .inl (k 0, 1768, .inl t_history)), (a_t_g, .inl (k 0, 221, .inl t_g))] H locs → W p l e ({ frames := 1, cells := 0, slots := 0, locals := 21 } : Room) s m (List.toArray [.ref a_t]) below meth c H locs 0 0 Q (F0 m 0 ls []) from K s.heap [] hH
  intro H locs hH
  have L25 : ∀ (y25_t_historyMany : Int32) (n : Nat), ∀ (kf : (Nat → Int32) → Option (Int32 × (Nat → Int32) × Int32 × Int32)) (y25_1 : Int32) (y25_t_g : Nat → Int32), fX11_undo_L25 t_history y25_t_historyMany n kf y25_1 y25_t_g = some r → (∀ (z25_t_g : Nat → Int32) (H : Heap) (locs : List Loc) (ls : Array Slot), kf z25_t_g = some r → HOK D A s.heap [(a_t, .inr (10, [v_t_thrown, .ref a_t_g, .ref a_t_ahead, .ref a_t_history, .int y25_t_historyMany, .ref a_t_saved, v_t_hasSaved, .ref a_t_tape, v_t_taped, v_t_at, v_t_impossibleAt, v_t_letter, .ref a_t_numbers, .ref a_t_plan, v_t_detail, v_t_keptReason, v_t_keptDetail, v_t_above, v_t_below, v_t_bestAbove, v_t_bestBelow, .ref a_t_bestPlan, .ref a_t_sort, .ref a_t_size, .ref a_t_whole, .ref a_t_parts])), (a_t_history, .inl (k 0, 1768, .inl t_history)), (a_t_g, .inl (k 0, 221, .inl z25_t_g))] H locs → lv_has ls 2 [(0, .ref a_t)] → W p l e ({ frames := 1, cells := 0, slots := 0, locals := 21 } : Room) s m (List.toArray [.ref a_t]) below meth c H locs 0 0 Q (F0 m 59 ls [])) → ∀ (H : Heap) (locs : List Loc) (ls : Array Slot), HOK D A s.heap [(a_t, .inr (10, [v_t_thrown, .ref a_t_g, .ref a_t_ahead, .ref a_t_history, .int y25_t_historyMany, .ref a_t_saved, v_t_hasSaved, .ref a_t_tape, v_t_taped, v_t_at, v_t_impossibleAt, v_t_letter, .ref a_t_numbers, .ref a_t_plan, v_t_detail, v_t_keptReason, v_t_keptDetail, v_t_above, v_t_below, v_t_bestAbove, v_t_bestBelow, .ref a_t_bestPlan, .ref a_t_sort, .ref a_t_size, .ref a_t_whole, .ref a_t_parts])), (a_t_history, .inl (k 0, 1768, .inl t_history)), (a_t_g, .inl (k 0, 221, .inl y25_t_g))] H locs → lv_has ls 2 [(0, .ref a_t), (1, .int y25_1)] → W p l e ({ frames := 1, cells := 0, slots := 0, locals := 21 } : Room) s m (List.toArray [.ref a_t]) below meth c H locs 0 0 Q (F0 m 25 ls []) := by
    intro y25_t_historyMany n
    induction n with
    | zero =>
      intro kf y25_1 y25_t_g h
      exact absurd h (by rw [fX11_undo_L25]; exact fun q => by cases q)
    | succ n ih =>
      intro kf y25_1 y25_t_g h kk H locs ls hH hl
      rw [fX11_undo_L25] at h
      refine lv_iload_n hx hb dX11_undo_25 rfl (lv_at hl 1 rfl) ?_
      refine lv_sipush (v := 221) hx hb dX11_undo_26 (by decide) ?_
      refine lv_icmp_ge (tgt := 59) hx hb dX11_undo_29 (by decide) (fun c3 => ?_) (fun c3 => ?_)
      · replace h := dc_pos c3 h
        exact kk y25_t_g H locs ls h hH (lv_sub hl [0] rfl)
      · replace h := dc_neg c3 h
        refine lv_aload_n hx hb dX11_undo_32 rfl (lv_at hl 0 rfl) ?_
        refine gk_get (ci := 10) (C := RX11) (T := TX11) (N := 26) hx hb hts u_ws_X11 hown hK hH 0 rfl rfl 1 (by decide) u_fl_X11_7 rfl dX11_undo_33 ?_
        refine lv_iload_n hx hb dX11_undo_36 rfl (lv_at hl 1 rfl) ?_
        refine lv_aload_n hx hb dX11_undo_37 rfl (lv_at hl 0 rfl) ?_
        refine gk_get (ci := 10) (C := RX11) (T := TX11) (N := 26) hx hb hts u_ws_X11 hown hK hH 0 rfl rfl 3 (by decide) u_fl_X11_16 rfl dX11_undo_38 ?_
        refine lv_sipush (v := 221) hx hb dX11_undo_41 (by decide) ?_
        refine lv_aload_n hx hb dX11_undo_44 rfl (lv_at hl 0 rfl) ?_
        refine gk_get (ci := 10) (C := RX11) (T := TX11) (N := 26) hx hb hts u_ws_X11 hown hK hH 0 rfl rfl 4 (by decide) u_fl_X11_59 rfl dX11_undo_45 ?_
        refine lv_imul hx hb dX11_undo_48 ?_
        refine lv_iload_n hx hb dX11_undo_49 rfl (lv_at hl 1 rfl) ?_
        refine lv_iadd hx hb dX11_undo_50 ?_
        obtain ⟨g4, h⟩ := dc_need h
        refine gk_iald hx hb hK hH 1 rfl (dk_in g4) dX11_undo_51 ?_
        obtain ⟨g5, h⟩ := dc_need h
        refine gk_iast hx hb hK hH 2 rfl (dk_in g5) dX11_undo_52 [(a_t, .inr (10, [v_t_thrown, .ref a_t_g, .ref a_t_ahead, .ref a_t_history, .int y25_t_historyMany, .ref a_t_saved, v_t_hasSaved, .ref a_t_tape, v_t_taped, v_t_at, v_t_impossibleAt, v_t_letter, .ref a_t_numbers, .ref a_t_plan, v_t_detail, v_t_keptReason, v_t_keptDetail, v_t_above, v_t_below, v_t_bestAbove, v_t_bestBelow, .ref a_t_bestPlan, .ref a_t_sort, .ref a_t_size, .ref a_t_whole, .ref a_t_parts])), (a_t_history, .inl (k 0, 1768, .inl t_history)), (a_t_g, .inl (k 0, 221, .inl (upd y25_t_g y25_1.toNatClampNeg (t_history (((221 : Int32) * y25_t_historyMany) + y25_1).toNatClampNeg))))] rfl (fun H locs hH => ?_)
        refine lv_iinc (v := (y25_1 + (1 : Int32))) (lv' := [(1, .int (y25_1 + (1 : Int32))), (0, .ref a_t)]) hx hb dX11_undo_53 hl (k := 1) rfl rfl (by decide) rfl (fun ls hl => ?_)
        refine lv_goto (tgt := 25) hx hb dX11_undo_56 (by decide) ?_
        exact ih kf (y25_1 + (1 : Int32)) (upd y25_t_g y25_1.toNatClampNeg (t_history (((221 : Int32) * y25_t_historyMany) + y25_1).toNatClampNeg)) h kk H locs ls hH (lv_sub hl [1, 0] rfl)
  rw [fX11_undo] at h
  refine lv_aload_n hx hb dX11_undo_0 rfl (lv_at hl 0 rfl) ?_
  refine gk_get (ci := 10) (C := RX11) (T := TX11) (N := 26) hx hb hts u_ws_X11 hown hK hH 0 rfl rfl 4 (by decide) u_fl_X11_59 rfl dX11_undo_1 ?_
  refine lv_if_ne (tgt := 13) hx hb dX11_undo_4 (by decide) (fun c1 => ?_) (fun c1 => ?_)
  · replace h := dc_neg c1 h
    refine lv_aload_n hx hb dX11_undo_13 rfl (lv_at hl 0 rfl) ?_
    refine lv_dup hx hb dX11_undo_14 rfl ?_
    refine gk_get (ci := 10) (C := RX11) (T := TX11) (N := 26) hx hb hts u_ws_X11 hown hK hH 0 rfl rfl 4 (by decide) u_fl_X11_59 rfl dX11_undo_15 ?_
    refine lv_iconst (v := 1) hx hb dX11_undo_18 (by decide) ?_
    refine lv_isub hx hb dX11_undo_19 ?_
    refine gk_put (ci := 10) (C := RX11) (T := TX11) (N := 26) hx hb hts u_ws_X11 tyX11_ok nmX11 hown hK hH 0 rfl rfl 4 (by decide) u_fl_X11_59 rfl rfl rfl (Nat.le_of_ble_eq_true rfl) dX11_undo_20 [(a_t, .inr (10, [v_t_thrown, .ref a_t_g, .ref a_t_ahead, .ref a_t_history, .int (t_historyMany - (1 : Int32)), .ref a_t_saved, v_t_hasSaved, .ref a_t_tape, v_t_taped, v_t_at, v_t_impossibleAt, v_t_letter, .ref a_t_numbers, .ref a_t_plan, v_t_detail, v_t_keptReason, v_t_keptDetail, v_t_above, v_t_below, v_t_bestAbove, v_t_bestBelow, .ref a_t_bestPlan, .ref a_t_sort, .ref a_t_size, .ref a_t_whole, .ref a_t_parts])), (a_t_history, .inl (k 0, 1768, .inl t_history)), (a_t_g, .inl (k 0, 221, .inl t_g))] rfl (fun H locs hH => ?_)
    refine lv_iconst (v := 0) hx hb dX11_undo_23 (by decide) ?_
    refine lv_istore_n (lv' := [(1, .int (0 : Int32)), (0, .ref a_t)]) hx hb dX11_undo_24 rfl hl (by decide) rfl (fun ls hl => ?_)
    refine L25 (t_historyMany - (1 : Int32)) _ _ (0 : Int32) t_g h (fun z25_t_g H locs ls h hH hl => ?_) H locs ls hH (lv_sub hl [1, 0] rfl)
    refine lv_aload_n hx hb dX11_undo_59 rfl (lv_at hl 0 rfl) ?_
    refine lv_aload_n hx hb dX11_undo_60 rfl (lv_at hl 0 rfl) ?_
    refine gk_get (ci := 10) (C := RX11) (T := TX11) (N := 26) hx hb hts u_ws_X11 hown hK hH 0 rfl rfl 4 (by decide) u_fl_X11_59 rfl dX11_undo_61 ?_
    obtain ⟨q6, hqq6, h⟩ := dc_bind h
    refine gc_Vi (ws' := [(a_t, .inr (10, [.int q6.2, .ref a_t_g, .ref a_t_ahead, .ref a_t_history, .int (t_historyMany - (1 : Int32)), .ref a_t_saved, v_t_hasSaved, .ref a_t_tape, v_t_taped, v_t_at, v_t_impossibleAt, v_t_letter, .ref a_t_numbers, .ref a_t_plan, v_t_detail, v_t_keptReason, v_t_keptDetail, v_t_above, v_t_below, v_t_bestAbove, v_t_bestBelow, .ref a_t_bestPlan, .ref a_t_sort, .ref a_t_size, .ref a_t_whole, .ref a_t_parts])), (a_t_history, .inl (k 0, 1768, .inl t_history)), (a_t_g, .inl (k 0, 221, .inl z25_t_g))]) (As := [.int (t_historyMany - (1 : Int32))]) (rest := []) (n := 1) (ci := 10) (cq := (RX11, TX11, 26)) hTs ⟨hx, hb, hml, hown, hts⟩ (mX11_done l Ts hTs D k H.size a_t a_t_g a_t_ahead a_t_history a_t_saved a_t_tape a_t_numbers a_t_plan a_t_bestPlan a_t_sort a_t_size a_t_whole a_t_parts v_t_above v_t_at v_t_below v_t_bestAbove v_t_bestBelow v_t_detail v_t_hasSaved (.int (t_historyMany - (1 : Int32))) v_t_impossibleAt v_t_keptDetail v_t_keptReason v_t_letter v_t_taped v_t_thrown (t_historyMany - (1 : Int32)) q6 hqq6) u_ml_X11_69 u_im_X11_done u_se_X11_done u_in_X11 u_co_X11_done hd_X11_done ⟨Nat.le_of_ble_eq_true rfl, Nat.le_of_ble_eq_true rfl⟩ ⟨rfl, rfl⟩ hK hH hA (cutM (isC := [0]) [some 0, none, none] 3 rfl rfl rfl rfl rfl rfl rfl) rfl rfl rfl rfl hl.1 (Nat.le_of_ble_eq_true rfl) dX11_undo_64 ⟨Nat.le_of_ble_eq_true rfl, Nat.le_of_ble_eq_true rfl⟩ (fun H locs hH => ?_)
    have h := Option.some.inj h
    subst h
    exact ge_i hx hb hr hlocks hQ hK hH hAe rfl dX11_undo_67
  · replace h := dc_pos c1 h
    refine lv_aload_n hx hb dX11_undo_7 rfl (lv_at hl 0 rfl) ?_
    refine lv_iconst (v := 1) hx hb dX11_undo_8 (by decide) ?_
    obtain ⟨q2, hqq2, h⟩ := dc_bind h
    refine gc_Vi (ws' := [(a_t, .inr (10, [.int q2.2, .ref a_t_g, .ref a_t_ahead, .ref a_t_history, .int t_historyMany, .ref a_t_saved, v_t_hasSaved, .ref a_t_tape, v_t_taped, v_t_at, v_t_impossibleAt, v_t_letter, .ref a_t_numbers, .ref a_t_plan, v_t_detail, v_t_keptReason, v_t_keptDetail, v_t_above, v_t_below, v_t_bestAbove, v_t_bestBelow, .ref a_t_bestPlan, .ref a_t_sort, .ref a_t_size, .ref a_t_whole, .ref a_t_parts])), (a_t_history, .inl (k 0, 1768, .inl t_history)), (a_t_g, .inl (k 0, 221, .inl t_g))]) (As := [.int (1 : Int32)]) (rest := []) (n := 1) (ci := 10) (cq := (RX11, TX11, 26)) hTs ⟨hx, hb, hml, hown, hts⟩ (mX11_fails l Ts hTs D k H.size a_t a_t_g a_t_ahead a_t_history a_t_saved a_t_tape a_t_numbers a_t_plan a_t_bestPlan a_t_sort a_t_size a_t_whole a_t_parts v_t_above v_t_at v_t_below v_t_bestAbove v_t_bestBelow v_t_detail v_t_hasSaved (.int t_historyMany) v_t_impossibleAt v_t_keptDetail v_t_keptReason v_t_letter v_t_taped v_t_thrown (1 : Int32) q2 hqq2) u_ml_X11_65 u_im_X11_fails u_se_X11_fails u_in_X11 u_co_X11_fails hd_X11_fails ⟨Nat.le_of_ble_eq_true rfl, Nat.le_of_ble_eq_true rfl⟩ ⟨rfl, rfl⟩ hK hH hA (cutM (isC := [0]) [some 0, none, none] 3 rfl rfl rfl rfl rfl rfl rfl) rfl rfl rfl rfl hl.1 (Nat.le_of_ble_eq_true rfl) dX11_undo_9 ⟨Nat.le_of_ble_eq_true rfl, Nat.le_of_ble_eq_true rfl⟩ (fun H locs hH => ?_)
    have h := Option.some.inj h
    subst h
    exact ge_i hx hb hr hlocks hQ hK hH hAe rfl dX11_undo_12
theorem hd_X11_saveSnapshot : yX11_saveSnapshot.cls = RX11 ∧ yX11_saveSnapshot.cls ≠ "java/lang/invoke/MethodHandle" ∧ yX11_saveSnapshot.cls ≠ "java/lang/invoke/VarHandle" ∧ (parseMethodDescriptor yX11_saveSnapshot.desc).map (fun d => d.parameters.length) = some 0 := by decide +kernel
set_option maxHeartbeats 4000000 in
set_option maxRecDepth 100000 in
theorem mX11_saveSnapshot (l : Launch) (Ts : List Cond) (hTs : ∀ w, w ∈ Ts ↔ w ∈ uT) (D : va_G) (k : Nat → ClassId) (sz : Nat) (a_t : Nat) (a_t_g : Nat) (a_t_ahead : Nat) (a_t_history : Nat) (a_t_saved : Nat) (a_t_tape : Nat) (a_t_numbers : Nat) (a_t_plan : Nat) (a_t_bestPlan : Nat) (a_t_sort : Nat) (a_t_size : Nat) (a_t_whole : Nat) (a_t_parts : Nat) (t_g : Nat → Int32) (t_saved : Nat → Int32) (v_t_above : Value) (v_t_at : Value) (v_t_below : Value) (v_t_bestAbove : Value) (v_t_bestBelow : Value) (v_t_detail : Value) (v_t_hasSaved : Value) (v_t_historyMany : Value) (v_t_impossibleAt : Value) (v_t_keptDetail : Value) (v_t_keptReason : Value) (v_t_letter : Value) (v_t_taped : Value) (v_t_thrown : Value) (r : Int32 × Int32 × (Nat → Int32) × Int32) (h : fX11_saveSnapshot t_g t_saved = some r) : Met l yX11_saveSnapshot (Cond.code yX11_saveSnapshot cX11_saveSnapshot 2 (some .int) :: Ts) ({ frames := 1, cells := 0, slots := 0, locals := 21 } : Room) (preM D k [.ref a_t] [(a_t, .inr (10, [v_t_thrown, .ref a_t_g, .ref a_t_ahead, .ref a_t_history, v_t_historyMany, .ref a_t_saved, v_t_hasSaved, .ref a_t_tape, v_t_taped, v_t_at, v_t_impossibleAt, v_t_letter, .ref a_t_numbers, .ref a_t_plan, v_t_detail, v_t_keptReason, v_t_keptDetail, v_t_above, v_t_below, v_t_bestAbove, v_t_bestBelow, .ref a_t_bestPlan, .ref a_t_sort, .ref a_t_size, .ref a_t_whole, .ref a_t_parts])), (a_t_g, .inl (k 0, 221, .inl t_g)), (a_t_saved, .inl (k 0, 221, .inl t_saved))] sz) (postI D k r.1 [(a_t, .inr (10, [v_t_thrown, .ref a_t_g, .ref a_t_ahead, .ref a_t_history, v_t_historyMany, .ref a_t_saved, v_t_hasSaved, .ref a_t_tape, v_t_taped, v_t_at, v_t_impossibleAt, v_t_letter, .ref a_t_numbers, .ref a_t_plan, v_t_detail, v_t_keptReason, v_t_keptDetail, v_t_above, v_t_below, v_t_bestAbove, v_t_bestBelow, .ref a_t_bestPlan, .ref a_t_sort, .ref a_t_size, .ref a_t_whole, .ref a_t_parts])), (a_t_g, .inl (k 0, 221, .inl t_g)), (a_t_saved, .inl (k 0, 221, .inl t_saved))] [(a_t, .inr (10, [.int r.2.2.2, .ref a_t_g, .ref a_t_ahead, .ref a_t_history, v_t_historyMany, .ref a_t_saved, .int r.2.1, .ref a_t_tape, v_t_taped, v_t_at, v_t_impossibleAt, v_t_letter, .ref a_t_numbers, .ref a_t_plan, v_t_detail, v_t_keptReason, v_t_keptDetail, v_t_above, v_t_below, v_t_bestAbove, v_t_bestBelow, .ref a_t_bestPlan, .ref a_t_sort, .ref a_t_size, .ref a_t_whole, .ref a_t_parts])), (a_t_g, .inl (k 0, 221, .inl t_g)), (a_t_saved, .inl (k 0, 221, .inl r.2.2.1))] sz) 0 0 (va_A [(a_t, .inr (10, [v_t_thrown, .ref a_t_g, .ref a_t_ahead, .ref a_t_history, v_t_historyMany, .ref a_t_saved, v_t_hasSaved, .ref a_t_tape, v_t_taped, v_t_at, v_t_impossibleAt, v_t_letter, .ref a_t_numbers, .ref a_t_plan, v_t_detail, v_t_keptReason, v_t_keptDetail, v_t_above, v_t_below, v_t_bestAbove, v_t_bestBelow, .ref a_t_bestPlan, .ref a_t_sort, .ref a_t_size, .ref a_t_whole, .ref a_t_parts])), (a_t_g, .inl (k 0, 221, .inl t_g)), (a_t_saved, .inl (k 0, 221, .inl t_saved))] sz) := by
  refine Met.ofW (cc := cX11_saveSnapshot) (maxL := 2) (ret := (some .int)) (by decide) rfl ?_
  intro p e s m args below meth c s₁ B hml hv
  obtain ⟨rfl, hsz, hP, hK, hD0⟩ := hv
  have hx := B.exec
  have hb := B.bytes
  have hr := B.returns
  have hts0 := atoms_spec (ws := (Cond.code yX11_saveSnapshot cX11_saveSnapshot 2 (some .int) :: Ts)) B.pre
  have hts : ∀ w ∈ uT, w.before _ s = true := fun w h => hts0 w (List.mem_cons_of_mem _ ((hTs w).mpr h))
  clear hts0
  have hown : s.vm.findClass RX11 = some m.cls := findClass_of_methodNamed B.named
  have hlocks := B.notSynchronized
  subst hsz
  have hD := hD0.self (sz := s.heap.size)
  generalize hAe : va_A [(a_t, .inr (10, [v_t_thrown, .ref a_t_g, .ref a_t_ahead, .ref a_t_history, v_t_historyMany, .ref a_t_saved, v_t_hasSaved, .ref a_t_tape, v_t_taped, v_t_at, v_t_impossibleAt, v_t_letter, .ref a_t_numbers, .ref a_t_plan, v_t_detail, v_t_keptReason, v_t_keptDetail, v_t_above, v_t_below, v_t_bestAbove, v_t_bestBelow, .ref a_t_bestPlan, .ref a_t_sort, .ref a_t_size, .ref a_t_whole, .ref a_t_parts])), (a_t_g, .inl (k 0, 221, .inl t_g)), (a_t_saved, .inl (k 0, 221, .inl t_saved))] s.heap.size = A at hD ⊢
  have hA : ∀ q : Nat, s.heap.size ≤ q → A q := fun q h => by rw [← hAe]; exact Or.inr h
  have hH : HOK D A s.heap [(a_t, .inr (10, [v_t_thrown, .ref a_t_g, .ref a_t_ahead, .ref a_t_history, v_t_historyMany, .ref a_t_saved, v_t_hasSaved, .ref a_t_tape, v_t_taped, v_t_at, v_t_impossibleAt, v_t_letter, .ref a_t_numbers, .ref a_t_plan, v_t_detail, v_t_keptReason, v_t_keptDetail, v_t_above, v_t_below, v_t_bestAbove, v_t_bestBelow, .ref a_t_bestPlan, .ref a_t_sort, .ref a_t_size, .ref a_t_whole, .ref a_t_parts])), (a_t_g, .inl (k 0, 221, .inl t_g)), (a_t_saved, .inl (k 0, 221, .inl t_saved))] s.heap [] := ⟨hP, hD, va_S.rf⟩
  have hl := lv_entry ([.ref a_t]) (n := 2) (Nat.le_of_ble_eq_true rfl)
  rw [lg_entry_eq]
  generalize (lg_sl ([.ref a_t]) ++ List.replicate (2 - (lg_sl ([.ref a_t])).length) Slot.unset).toArray = ls at hl ⊢
  have hl : lv_has ls 2 [(0, .ref a_t)] := hl
  generalize hQ : MQ below (postI D k r.1 [(a_t, .inr (10, [v_t_thrown, .ref a_t_g, .ref a_t_ahead, .ref a_t_history, v_t_historyMany, .ref a_t_saved, v_t_hasSaved, .ref a_t_tape, v_t_taped, v_t_at, v_t_impossibleAt, v_t_letter, .ref a_t_numbers, .ref a_t_plan, v_t_detail, v_t_keptReason, v_t_keptDetail, v_t_above, v_t_below, v_t_bestAbove, v_t_bestBelow, .ref a_t_bestPlan, .ref a_t_sort, .ref a_t_size, .ref a_t_whole, .ref a_t_parts])), (a_t_g, .inl (k 0, 221, .inl t_g)), (a_t_saved, .inl (k 0, 221, .inl t_saved))] [(a_t, .inr (10, [.int r.2.2.2, .ref a_t_g, .ref a_t_ahead, .ref a_t_history, v_t_historyMany, .ref a_t_saved, .int r.2.1, .ref a_t_tape, v_t_taped, v_t_at, v_t_impossibleAt, v_t_letter, .ref a_t_numbers, .ref a_t_plan, v_t_detail, v_t_keptReason, v_t_keptDetail, v_t_above, v_t_below, v_t_bestAbove, v_t_bestBelow, .ref a_t_bestPlan, .ref a_t_sort, .ref a_t_size, .ref a_t_whole, .ref a_t_parts])), (a_t_g, .inl (k 0, 221, .inl t_g)), (a_t_saved, .inl (k 0, 221, .inl r.2.2.1))] s.heap.size) (List.toArray [.ref a_t]) s 0 0 A = Q
  clear hP hD hD0
  suffices K : ∀ (H : Heap) (locs : List Loc), HOK D A s.heap [(a_t, .inr (10, [v_t_thrown, .ref a_t_g, .ref a_t_ahead, .ref a_t_history, v_t_historyMany, .ref a_t_saved, v_t_hasSaved, .ref a_t_tape, v_t_taped, v_t_at, v_t_impossibleAt, v_t_letter, .ref a_t_numbers, .ref a_t_plan, v_t_detail, v_t_keptReason, v_t_keptDetail, v_t_above, v_t_below, v_t_bestAbove, v_t_bestBelow, .ref a_t_bestPlan, .ref a_t_sort, .ref a_t_size, .ref a_t_whole, .ref a_t_parts])), (a_t_g, .inl (k 0, 221, .inl t_g)), (a_t_saved, .inl (k 0, 221, .inl t_saved))] H locs → W p l e ({ frames := 1, cells := 0, slots := 0, locals := 21 } : Room) s m (List.toArray [.ref a_t]) below meth c H locs 0 0 Q (F0 m 0 ls []) from K s.heap [] hH
  intro H locs hH
  have L7 : ∀ (y7_t_hasSaved : Int32) (n : Nat), ∀ (kf : (Nat → Int32) → Option (Int32 × Int32 × (Nat → Int32) × Int32)) (y7_1 : Int32) (y7_t_saved : Nat → Int32), fX11_saveSnapshot_L7 t_g y7_t_hasSaved n kf y7_1 y7_t_saved = some r → (∀ (z7_t_saved : Nat → Int32) (H : Heap) (locs : List Loc) (ls : Array Slot), kf z7_t_saved = some r → HOK D A s.heap [(a_t, .inr (10, [v_t_thrown, .ref a_t_g, .ref a_t_ahead, .ref a_t_history, v_t_historyMany, .ref a_t_saved, .int y7_t_hasSaved, .ref a_t_tape, v_t_taped, v_t_at, v_t_impossibleAt, v_t_letter, .ref a_t_numbers, .ref a_t_plan, v_t_detail, v_t_keptReason, v_t_keptDetail, v_t_above, v_t_below, v_t_bestAbove, v_t_bestBelow, .ref a_t_bestPlan, .ref a_t_sort, .ref a_t_size, .ref a_t_whole, .ref a_t_parts])), (a_t_g, .inl (k 0, 221, .inl t_g)), (a_t_saved, .inl (k 0, 221, .inl z7_t_saved))] H locs → lv_has ls 2 [(0, .ref a_t)] → W p l e ({ frames := 1, cells := 0, slots := 0, locals := 21 } : Room) s m (List.toArray [.ref a_t]) below meth c H locs 0 0 Q (F0 m 32 ls [])) → ∀ (H : Heap) (locs : List Loc) (ls : Array Slot), HOK D A s.heap [(a_t, .inr (10, [v_t_thrown, .ref a_t_g, .ref a_t_ahead, .ref a_t_history, v_t_historyMany, .ref a_t_saved, .int y7_t_hasSaved, .ref a_t_tape, v_t_taped, v_t_at, v_t_impossibleAt, v_t_letter, .ref a_t_numbers, .ref a_t_plan, v_t_detail, v_t_keptReason, v_t_keptDetail, v_t_above, v_t_below, v_t_bestAbove, v_t_bestBelow, .ref a_t_bestPlan, .ref a_t_sort, .ref a_t_size, .ref a_t_whole, .ref a_t_parts])), (a_t_g, .inl (k 0, 221, .inl t_g)), (a_t_saved, .inl (k 0, 221, .inl y7_t_saved))] H locs → lv_has ls 2 [(0, .ref a_t), (1, .int y7_1)] → W p l e ({ frames := 1, cells := 0, slots := 0, locals := 21 } : Room) s m (List.toArray [.ref a_t]) below meth c H locs 0 0 Q (F0 m 7 ls []) := by
    intro y7_t_hasSaved n
    induction n with
    | zero =>
      intro kf y7_1 y7_t_saved h
      exact absurd h (by rw [fX11_saveSnapshot_L7]; exact fun q => by cases q)
    | succ n ih =>
      intro kf y7_1 y7_t_saved h kk H locs ls hH hl
      rw [fX11_saveSnapshot_L7] at h
      refine lv_iload_n hx hb dX11_saveSnapshot_7 rfl (lv_at hl 1 rfl) ?_
      refine lv_sipush (v := 221) hx hb dX11_saveSnapshot_8 (by decide) ?_
      refine lv_icmp_ge (tgt := 32) hx hb dX11_saveSnapshot_11 (by decide) (fun c1 => ?_) (fun c1 => ?_)
      · replace h := dc_pos c1 h
        exact kk y7_t_saved H locs ls h hH (lv_sub hl [0] rfl)
      · replace h := dc_neg c1 h
        refine lv_aload_n hx hb dX11_saveSnapshot_14 rfl (lv_at hl 0 rfl) ?_
        refine gk_get (ci := 10) (C := RX11) (T := TX11) (N := 26) hx hb hts u_ws_X11 hown hK hH 0 rfl rfl 5 (by decide) u_fl_X11_19 rfl dX11_saveSnapshot_15 ?_
        refine lv_iload_n hx hb dX11_saveSnapshot_18 rfl (lv_at hl 1 rfl) ?_
        refine lv_aload_n hx hb dX11_saveSnapshot_19 rfl (lv_at hl 0 rfl) ?_
        refine gk_get (ci := 10) (C := RX11) (T := TX11) (N := 26) hx hb hts u_ws_X11 hown hK hH 0 rfl rfl 1 (by decide) u_fl_X11_7 rfl dX11_saveSnapshot_20 ?_
        refine lv_iload_n hx hb dX11_saveSnapshot_23 rfl (lv_at hl 1 rfl) ?_
        obtain ⟨g2, h⟩ := dc_need h
        refine gk_iald hx hb hK hH 1 rfl (dk_in g2) dX11_saveSnapshot_24 ?_
        obtain ⟨g3, h⟩ := dc_need h
        refine gk_iast hx hb hK hH 2 rfl (dk_in g3) dX11_saveSnapshot_25 [(a_t, .inr (10, [v_t_thrown, .ref a_t_g, .ref a_t_ahead, .ref a_t_history, v_t_historyMany, .ref a_t_saved, .int y7_t_hasSaved, .ref a_t_tape, v_t_taped, v_t_at, v_t_impossibleAt, v_t_letter, .ref a_t_numbers, .ref a_t_plan, v_t_detail, v_t_keptReason, v_t_keptDetail, v_t_above, v_t_below, v_t_bestAbove, v_t_bestBelow, .ref a_t_bestPlan, .ref a_t_sort, .ref a_t_size, .ref a_t_whole, .ref a_t_parts])), (a_t_g, .inl (k 0, 221, .inl t_g)), (a_t_saved, .inl (k 0, 221, .inl (upd y7_t_saved y7_1.toNatClampNeg (t_g y7_1.toNatClampNeg))))] rfl (fun H locs hH => ?_)
        refine lv_iinc (v := (y7_1 + (1 : Int32))) (lv' := [(1, .int (y7_1 + (1 : Int32))), (0, .ref a_t)]) hx hb dX11_saveSnapshot_26 hl (k := 1) rfl rfl (by decide) rfl (fun ls hl => ?_)
        refine lv_goto (tgt := 7) hx hb dX11_saveSnapshot_29 (by decide) ?_
        exact ih kf (y7_1 + (1 : Int32)) (upd y7_t_saved y7_1.toNatClampNeg (t_g y7_1.toNatClampNeg)) h kk H locs ls hH (lv_sub hl [1, 0] rfl)
  rw [fX11_saveSnapshot] at h
  refine lv_aload_n hx hb dX11_saveSnapshot_0 rfl (lv_at hl 0 rfl) ?_
  refine lv_iconst (v := 1) hx hb dX11_saveSnapshot_1 (by decide) ?_
  refine gk_put (ci := 10) (C := RX11) (T := TX11) (N := 26) hx hb hts u_ws_X11 tyX11_ok nmX11 hown hK hH 0 rfl rfl 6 (by decide) u_fl_X11_250 rfl rfl rfl (Nat.le_of_ble_eq_true rfl) dX11_saveSnapshot_2 [(a_t, .inr (10, [v_t_thrown, .ref a_t_g, .ref a_t_ahead, .ref a_t_history, v_t_historyMany, .ref a_t_saved, .int (1 : Int32), .ref a_t_tape, v_t_taped, v_t_at, v_t_impossibleAt, v_t_letter, .ref a_t_numbers, .ref a_t_plan, v_t_detail, v_t_keptReason, v_t_keptDetail, v_t_above, v_t_below, v_t_bestAbove, v_t_bestBelow, .ref a_t_bestPlan, .ref a_t_sort, .ref a_t_size, .ref a_t_whole, .ref a_t_parts])), (a_t_g, .inl (k 0, 221, .inl t_g)), (a_t_saved, .inl (k 0, 221, .inl t_saved))] rfl (fun H locs hH => ?_)
  refine lv_iconst (v := 0) hx hb dX11_saveSnapshot_5 (by decide) ?_
  refine lv_istore_n (lv' := [(1, .int (0 : Int32)), (0, .ref a_t)]) hx hb dX11_saveSnapshot_6 rfl hl (by decide) rfl (fun ls hl => ?_)
  refine L7 (1 : Int32) _ _ (0 : Int32) t_saved h (fun z7_t_saved H locs ls h hH hl => ?_) H locs ls hH (lv_sub hl [1, 0] rfl)
  refine lv_aload_n hx hb dX11_saveSnapshot_32 rfl (lv_at hl 0 rfl) ?_
  refine lv_aload_n hx hb dX11_saveSnapshot_33 rfl (lv_at hl 0 rfl) ?_
  refine gk_get (ci := 10) (C := RX11) (T := TX11) (N := 26) hx hb hts u_ws_X11 hown hK hH 0 rfl rfl 1 (by decide) u_fl_X11_7 rfl dX11_saveSnapshot_34 ?_
  refine lv_sipush (v := 204) hx hb dX11_saveSnapshot_37 (by decide) ?_
  refine gk_iald hx hb hK hH 1 rfl (dk_in (by decide)) dX11_saveSnapshot_40 ?_
  obtain ⟨q4, hqq4, h⟩ := dc_bind h
  refine gc_Vi (ws' := [(a_t, .inr (10, [.int q4.2, .ref a_t_g, .ref a_t_ahead, .ref a_t_history, v_t_historyMany, .ref a_t_saved, .int (1 : Int32), .ref a_t_tape, v_t_taped, v_t_at, v_t_impossibleAt, v_t_letter, .ref a_t_numbers, .ref a_t_plan, v_t_detail, v_t_keptReason, v_t_keptDetail, v_t_above, v_t_below, v_t_bestAbove, v_t_bestBelow, .ref a_t_bestPlan, .ref a_t_sort, .ref a_t_size, .ref a_t_whole, .ref a_t_parts])), (a_t_g, .inl (k 0, 221, .inl t_g)), (a_t_saved, .inl (k 0, 221, .inl z7_t_saved))]) (As := [.int (t_g (204 : Int32).toNatClampNeg)]) (rest := []) (n := 1) (ci := 10) (cq := (RX11, TX11, 26)) hTs ⟨hx, hb, hml, hown, hts⟩ (mX11_done l Ts hTs D k H.size a_t a_t_g a_t_ahead a_t_history a_t_saved a_t_tape a_t_numbers a_t_plan a_t_bestPlan a_t_sort a_t_size a_t_whole a_t_parts v_t_above v_t_at v_t_below v_t_bestAbove v_t_bestBelow v_t_detail (.int (1 : Int32)) v_t_historyMany v_t_impossibleAt v_t_keptDetail v_t_keptReason v_t_letter v_t_taped v_t_thrown (t_g (204 : Int32).toNatClampNeg) q4 hqq4) u_ml_X11_69 u_im_X11_done u_se_X11_done u_in_X11 u_co_X11_done hd_X11_done ⟨Nat.le_of_ble_eq_true rfl, Nat.le_of_ble_eq_true rfl⟩ ⟨rfl, rfl⟩ hK hH hA (cutM (isC := [0]) [some 0, none, none] 3 rfl rfl rfl rfl rfl rfl rfl) rfl rfl rfl rfl hl.1 (Nat.le_of_ble_eq_true rfl) dX11_saveSnapshot_41 ⟨Nat.le_of_ble_eq_true rfl, Nat.le_of_ble_eq_true rfl⟩ (fun H locs hH => ?_)
  have h := Option.some.inj h
  subst h
  exact ge_i hx hb hr hlocks hQ hK hH hAe rfl dX11_saveSnapshot_44
theorem hd_X11_restoreSnapshot : yX11_restoreSnapshot.cls = RX11 ∧ yX11_restoreSnapshot.cls ≠ "java/lang/invoke/MethodHandle" ∧ yX11_restoreSnapshot.cls ≠ "java/lang/invoke/VarHandle" ∧ (parseMethodDescriptor yX11_restoreSnapshot.desc).map (fun d => d.parameters.length) = some 0 := by decide +kernel
set_option maxHeartbeats 4000000 in
set_option maxRecDepth 100000 in
theorem mX11_restoreSnapshot (l : Launch) (Ts : List Cond) (hTs : ∀ w, w ∈ Ts ↔ w ∈ uT) (D : va_G) (k : Nat → ClassId) (sz : Nat) (a_t : Nat) (a_t_g : Nat) (a_t_ahead : Nat) (a_t_history : Nat) (a_t_saved : Nat) (a_t_tape : Nat) (a_t_numbers : Nat) (a_t_plan : Nat) (a_t_bestPlan : Nat) (a_t_sort : Nat) (a_t_size : Nat) (a_t_whole : Nat) (a_t_parts : Nat) (t_g : Nat → Int32) (t_hasSaved : Int32) (t_historyMany : Int32) (t_saved : Nat → Int32) (v_t_above : Value) (v_t_at : Value) (v_t_below : Value) (v_t_bestAbove : Value) (v_t_bestBelow : Value) (v_t_detail : Value) (v_t_impossibleAt : Value) (v_t_keptDetail : Value) (v_t_keptReason : Value) (v_t_letter : Value) (v_t_taped : Value) (v_t_thrown : Value) (r : Int32 × (Nat → Int32) × Int32 × Int32) (h : fX11_restoreSnapshot t_g t_hasSaved t_historyMany t_saved = some r) : Met l yX11_restoreSnapshot (Cond.code yX11_restoreSnapshot cX11_restoreSnapshot 2 (some .int) :: Ts) ({ frames := 1, cells := 0, slots := 0, locals := 21 } : Room) (preM D k [.ref a_t] [(a_t, .inr (10, [v_t_thrown, .ref a_t_g, .ref a_t_ahead, .ref a_t_history, .int t_historyMany, .ref a_t_saved, .int t_hasSaved, .ref a_t_tape, v_t_taped, v_t_at, v_t_impossibleAt, v_t_letter, .ref a_t_numbers, .ref a_t_plan, v_t_detail, v_t_keptReason, v_t_keptDetail, v_t_above, v_t_below, v_t_bestAbove, v_t_bestBelow, .ref a_t_bestPlan, .ref a_t_sort, .ref a_t_size, .ref a_t_whole, .ref a_t_parts])), (a_t_saved, .inl (k 0, 221, .inl t_saved)), (a_t_g, .inl (k 0, 221, .inl t_g))] sz) (postI D k r.1 [(a_t, .inr (10, [v_t_thrown, .ref a_t_g, .ref a_t_ahead, .ref a_t_history, .int t_historyMany, .ref a_t_saved, .int t_hasSaved, .ref a_t_tape, v_t_taped, v_t_at, v_t_impossibleAt, v_t_letter, .ref a_t_numbers, .ref a_t_plan, v_t_detail, v_t_keptReason, v_t_keptDetail, v_t_above, v_t_below, v_t_bestAbove, v_t_bestBelow, .ref a_t_bestPlan, .ref a_t_sort, .ref a_t_size, .ref a_t_whole, .ref a_t_parts])), (a_t_saved, .inl (k 0, 221, .inl t_saved)), (a_t_g, .inl (k 0, 221, .inl t_g))] [(a_t, .inr (10, [.int r.2.2.2, .ref a_t_g, .ref a_t_ahead, .ref a_t_history, .int r.2.2.1, .ref a_t_saved, .int t_hasSaved, .ref a_t_tape, v_t_taped, v_t_at, v_t_impossibleAt, v_t_letter, .ref a_t_numbers, .ref a_t_plan, v_t_detail, v_t_keptReason, v_t_keptDetail, v_t_above, v_t_below, v_t_bestAbove, v_t_bestBelow, .ref a_t_bestPlan, .ref a_t_sort, .ref a_t_size, .ref a_t_whole, .ref a_t_parts])), (a_t_saved, .inl (k 0, 221, .inl t_saved)), (a_t_g, .inl (k 0, 221, .inl r.2.1))] sz) 0 0 (va_A [(a_t, .inr (10, [v_t_thrown, .ref a_t_g, .ref a_t_ahead, .ref a_t_history, .int t_historyMany, .ref a_t_saved, .int t_hasSaved, .ref a_t_tape, v_t_taped, v_t_at, v_t_impossibleAt, v_t_letter, .ref a_t_numbers, .ref a_t_plan, v_t_detail, v_t_keptReason, v_t_keptDetail, v_t_above, v_t_below, v_t_bestAbove, v_t_bestBelow, .ref a_t_bestPlan, .ref a_t_sort, .ref a_t_size, .ref a_t_whole, .ref a_t_parts])), (a_t_saved, .inl (k 0, 221, .inl t_saved)), (a_t_g, .inl (k 0, 221, .inl t_g))] sz) := by
  refine Met.ofW (cc := cX11_restoreSnapshot) (maxL := 2) (ret := (some .int)) (by decide) rfl ?_
  intro p e s m args below meth c s₁ B hml hv
  obtain ⟨rfl, hsz, hP, hK, hD0⟩ := hv
  have hx := B.exec
  have hb := B.bytes
  have hr := B.returns
  have hts0 := atoms_spec (ws := (Cond.code yX11_restoreSnapshot cX11_restoreSnapshot 2 (some .int) :: Ts)) B.pre
  have hts : ∀ w ∈ uT, w.before _ s = true := fun w h => hts0 w (List.mem_cons_of_mem _ ((hTs w).mpr h))
  clear hts0
  have hown : s.vm.findClass RX11 = some m.cls := findClass_of_methodNamed B.named
  have hlocks := B.notSynchronized
  subst hsz
  have hD := hD0.self (sz := s.heap.size)
  generalize hAe : va_A [(a_t, .inr (10, [v_t_thrown, .ref a_t_g, .ref a_t_ahead, .ref a_t_history, .int t_historyMany, .ref a_t_saved, .int t_hasSaved, .ref a_t_tape, v_t_taped, v_t_at, v_t_impossibleAt, v_t_letter, .ref a_t_numbers, .ref a_t_plan, v_t_detail, v_t_keptReason, v_t_keptDetail, v_t_above, v_t_below, v_t_bestAbove, v_t_bestBelow, .ref a_t_bestPlan, .ref a_t_sort, .ref a_t_size, .ref a_t_whole, .ref a_t_parts])), (a_t_saved, .inl (k 0, 221, .inl t_saved)), (a_t_g, .inl (k 0, 221, .inl t_g))] s.heap.size = A at hD ⊢
  have hA : ∀ q : Nat, s.heap.size ≤ q → A q := fun q h => by rw [← hAe]; exact Or.inr h
  have hH : HOK D A s.heap [(a_t, .inr (10, [v_t_thrown, .ref a_t_g, .ref a_t_ahead, .ref a_t_history, .int t_historyMany, .ref a_t_saved, .int t_hasSaved, .ref a_t_tape, v_t_taped, v_t_at, v_t_impossibleAt, v_t_letter, .ref a_t_numbers, .ref a_t_plan, v_t_detail, v_t_keptReason, v_t_keptDetail, v_t_above, v_t_below, v_t_bestAbove, v_t_bestBelow, .ref a_t_bestPlan, .ref a_t_sort, .ref a_t_size, .ref a_t_whole, .ref a_t_parts])), (a_t_saved, .inl (k 0, 221, .inl t_saved)), (a_t_g, .inl (k 0, 221, .inl t_g))] s.heap [] := ⟨hP, hD, va_S.rf⟩
  have hl := lv_entry ([.ref a_t]) (n := 2) (Nat.le_of_ble_eq_true rfl)
  rw [lg_entry_eq]
  generalize (lg_sl ([.ref a_t]) ++ List.replicate (2 - (lg_sl ([.ref a_t])).length) Slot.unset).toArray = ls at hl ⊢
  have hl : lv_has ls 2 [(0, .ref a_t)] := hl
  generalize hQ : MQ below (postI D k r.1 [(a_t, .inr (10, [v_t_thrown, .ref a_t_g, .ref a_t_ahead, .ref a_t_history, .int t_historyMany, .ref a_t_saved, .int t_hasSaved, .ref a_t_tape, v_t_taped, v_t_at, v_t_impossibleAt, v_t_letter, .ref a_t_numbers, .ref a_t_plan, v_t_detail, v_t_keptReason, v_t_keptDetail, v_t_above, v_t_below, v_t_bestAbove, v_t_bestBelow, .ref a_t_bestPlan, .ref a_t_sort, .ref a_t_size, .ref a_t_whole, .ref a_t_parts])), (a_t_saved, .inl (k 0, 221, .inl t_saved)), (a_t_g, .inl (k 0, 221, .inl t_g))] [(a_t, .inr (10, [.int r.2.2.2, .ref a_t_g, .ref a_t_ahead, .ref a_t_history, .int r.2.2.1, .ref a_t_saved, .int t_hasSaved, .ref a_t_tape, v_t_taped, v_t_at, v_t_impossibleAt, v_t_letter, .ref a_t_numbers, .ref a_t_plan, v_t_detail, v_t_keptReason, v_t_keptDetail, v_t_above, v_t_below, v_t_bestAbove, v_t_bestBelow, .ref a_t_bestPlan, .ref a_t_sort, .ref a_t_size, .ref a_t_whole, .ref a_t_parts])), (a_t_saved, .inl (k 0, 221, .inl t_saved)), (a_t_g, .inl (k 0, 221, .inl r.2.1))] s.heap.size) (List.toArray [.ref a_t]) s 0 0 A = Q
  clear hP hD hD0
  suffices K : ∀ (H : Heap) (locs : List Loc), HOK D A s.heap [(a_t, .inr (10, [v_t_thrown, .ref a_t_g, .ref a_t_ahead, .ref a_t_history, .int t_historyMany, .ref a_t_saved, .int t_hasSaved, .ref a_t_tape, v_t_taped, v_t_at, v_t_impossibleAt, v_t_letter, .ref a_t_numbers, .ref a_t_plan, v_t_detail, v_t_keptReason, v_t_keptDetail, v_t_above, v_t_below, v_t_bestAbove, v_t_bestBelow, .ref a_t_bestPlan, .ref a_t_sort, .ref a_t_size, .ref a_t_whole, .ref a_t_parts])), (a_t_saved, .inl (k 0, 221, .inl t_saved)), (a_t_g, .inl (k 0, 221, .inl t_g))] H locs → W p l e ({ frames := 1, cells := 0, slots := 0, locals := 21 } : Room) s m (List.toArray [.ref a_t]) below meth c H locs 0 0 Q (F0 m 0 ls []) from K s.heap [] hH
  intro H locs hH
  have L15 : ∀ (n : Nat), ∀ (kf : (Nat → Int32) → Option (Int32 × (Nat → Int32) × Int32 × Int32)) (y15_1 : Int32) (y15_t_g : Nat → Int32), fX11_restoreSnapshot_L15 t_saved n kf y15_1 y15_t_g = some r → (∀ (z15_t_g : Nat → Int32) (H : Heap) (locs : List Loc) (ls : Array Slot), kf z15_t_g = some r → HOK D A s.heap [(a_t, .inr (10, [v_t_thrown, .ref a_t_g, .ref a_t_ahead, .ref a_t_history, .int t_historyMany, .ref a_t_saved, .int t_hasSaved, .ref a_t_tape, v_t_taped, v_t_at, v_t_impossibleAt, v_t_letter, .ref a_t_numbers, .ref a_t_plan, v_t_detail, v_t_keptReason, v_t_keptDetail, v_t_above, v_t_below, v_t_bestAbove, v_t_bestBelow, .ref a_t_bestPlan, .ref a_t_sort, .ref a_t_size, .ref a_t_whole, .ref a_t_parts])), (a_t_saved, .inl (k 0, 221, .inl t_saved)), (a_t_g, .inl (k 0, 221, .inl z15_t_g))] H locs → lv_has ls 2 [(0, .ref a_t)] → W p l e ({ frames := 1, cells := 0, slots := 0, locals := 21 } : Room) s m (List.toArray [.ref a_t]) below meth c H locs 0 0 Q (F0 m 40 ls [])) → ∀ (H : Heap) (locs : List Loc) (ls : Array Slot), HOK D A s.heap [(a_t, .inr (10, [v_t_thrown, .ref a_t_g, .ref a_t_ahead, .ref a_t_history, .int t_historyMany, .ref a_t_saved, .int t_hasSaved, .ref a_t_tape, v_t_taped, v_t_at, v_t_impossibleAt, v_t_letter, .ref a_t_numbers, .ref a_t_plan, v_t_detail, v_t_keptReason, v_t_keptDetail, v_t_above, v_t_below, v_t_bestAbove, v_t_bestBelow, .ref a_t_bestPlan, .ref a_t_sort, .ref a_t_size, .ref a_t_whole, .ref a_t_parts])), (a_t_saved, .inl (k 0, 221, .inl t_saved)), (a_t_g, .inl (k 0, 221, .inl y15_t_g))] H locs → lv_has ls 2 [(0, .ref a_t), (1, .int y15_1)] → W p l e ({ frames := 1, cells := 0, slots := 0, locals := 21 } : Room) s m (List.toArray [.ref a_t]) below meth c H locs 0 0 Q (F0 m 15 ls []) := by
    intro n
    induction n with
    | zero =>
      intro kf y15_1 y15_t_g h
      exact absurd h (by rw [fX11_restoreSnapshot_L15]; exact fun q => by cases q)
    | succ n ih =>
      intro kf y15_1 y15_t_g h kk H locs ls hH hl
      rw [fX11_restoreSnapshot_L15] at h
      refine lv_iload_n hx hb dX11_restoreSnapshot_15 rfl (lv_at hl 1 rfl) ?_
      refine lv_sipush (v := 221) hx hb dX11_restoreSnapshot_16 (by decide) ?_
      refine lv_icmp_ge (tgt := 40) hx hb dX11_restoreSnapshot_19 (by decide) (fun c3 => ?_) (fun c3 => ?_)
      · replace h := dc_pos c3 h
        exact kk y15_t_g H locs ls h hH (lv_sub hl [0] rfl)
      · replace h := dc_neg c3 h
        refine lv_aload_n hx hb dX11_restoreSnapshot_22 rfl (lv_at hl 0 rfl) ?_
        refine gk_get (ci := 10) (C := RX11) (T := TX11) (N := 26) hx hb hts u_ws_X11 hown hK hH 0 rfl rfl 1 (by decide) u_fl_X11_7 rfl dX11_restoreSnapshot_23 ?_
        refine lv_iload_n hx hb dX11_restoreSnapshot_26 rfl (lv_at hl 1 rfl) ?_
        refine lv_aload_n hx hb dX11_restoreSnapshot_27 rfl (lv_at hl 0 rfl) ?_
        refine gk_get (ci := 10) (C := RX11) (T := TX11) (N := 26) hx hb hts u_ws_X11 hown hK hH 0 rfl rfl 5 (by decide) u_fl_X11_19 rfl dX11_restoreSnapshot_28 ?_
        refine lv_iload_n hx hb dX11_restoreSnapshot_31 rfl (lv_at hl 1 rfl) ?_
        obtain ⟨g4, h⟩ := dc_need h
        refine gk_iald hx hb hK hH 1 rfl (dk_in g4) dX11_restoreSnapshot_32 ?_
        obtain ⟨g5, h⟩ := dc_need h
        refine gk_iast hx hb hK hH 2 rfl (dk_in g5) dX11_restoreSnapshot_33 [(a_t, .inr (10, [v_t_thrown, .ref a_t_g, .ref a_t_ahead, .ref a_t_history, .int t_historyMany, .ref a_t_saved, .int t_hasSaved, .ref a_t_tape, v_t_taped, v_t_at, v_t_impossibleAt, v_t_letter, .ref a_t_numbers, .ref a_t_plan, v_t_detail, v_t_keptReason, v_t_keptDetail, v_t_above, v_t_below, v_t_bestAbove, v_t_bestBelow, .ref a_t_bestPlan, .ref a_t_sort, .ref a_t_size, .ref a_t_whole, .ref a_t_parts])), (a_t_saved, .inl (k 0, 221, .inl t_saved)), (a_t_g, .inl (k 0, 221, .inl (upd y15_t_g y15_1.toNatClampNeg (t_saved y15_1.toNatClampNeg))))] rfl (fun H locs hH => ?_)
        refine lv_iinc (v := (y15_1 + (1 : Int32))) (lv' := [(1, .int (y15_1 + (1 : Int32))), (0, .ref a_t)]) hx hb dX11_restoreSnapshot_34 hl (k := 1) rfl rfl (by decide) rfl (fun ls hl => ?_)
        refine lv_goto (tgt := 15) hx hb dX11_restoreSnapshot_37 (by decide) ?_
        exact ih kf (y15_1 + (1 : Int32)) (upd y15_t_g y15_1.toNatClampNeg (t_saved y15_1.toNatClampNeg)) h kk H locs ls hH (lv_sub hl [1, 0] rfl)
  rw [fX11_restoreSnapshot] at h
  refine lv_aload_n hx hb dX11_restoreSnapshot_0 rfl (lv_at hl 0 rfl) ?_
  refine gk_get (ci := 10) (C := RX11) (T := TX11) (N := 26) hx hb hts u_ws_X11 hown hK hH 0 rfl rfl 6 (by decide) u_fl_X11_250 rfl dX11_restoreSnapshot_1 ?_
  refine lv_if_ne (tgt := 13) hx hb dX11_restoreSnapshot_4 (by decide) (fun c1 => ?_) (fun c1 => ?_)
  · replace h := dc_neg c1 h
    refine lv_iconst (v := 0) hx hb dX11_restoreSnapshot_13 (by decide) ?_
    refine lv_istore_n (lv' := [(1, .int (0 : Int32)), (0, .ref a_t)]) hx hb dX11_restoreSnapshot_14 rfl hl (by decide) rfl (fun ls hl => ?_)
    refine L15 _ _ (0 : Int32) t_g h (fun z15_t_g H locs ls h hH hl => ?_) H locs ls hH (lv_sub hl [1, 0] rfl)
    refine lv_aload_n hx hb dX11_restoreSnapshot_40 rfl (lv_at hl 0 rfl) ?_
    refine lv_iconst (v := 0) hx hb dX11_restoreSnapshot_41 (by decide) ?_
    refine gk_put (ci := 10) (C := RX11) (T := TX11) (N := 26) hx hb hts u_ws_X11 tyX11_ok nmX11 hown hK hH 0 rfl rfl 4 (by decide) u_fl_X11_59 rfl rfl rfl (Nat.le_of_ble_eq_true rfl) dX11_restoreSnapshot_42 [(a_t, .inr (10, [v_t_thrown, .ref a_t_g, .ref a_t_ahead, .ref a_t_history, .int (0 : Int32), .ref a_t_saved, .int t_hasSaved, .ref a_t_tape, v_t_taped, v_t_at, v_t_impossibleAt, v_t_letter, .ref a_t_numbers, .ref a_t_plan, v_t_detail, v_t_keptReason, v_t_keptDetail, v_t_above, v_t_below, v_t_bestAbove, v_t_bestBelow, .ref a_t_bestPlan, .ref a_t_sort, .ref a_t_size, .ref a_t_whole, .ref a_t_parts])), (a_t_saved, .inl (k 0, 221, .inl t_saved)), (a_t_g, .inl (k 0, 221, .inl z15_t_g))] rfl (fun H locs hH => ?_)
    refine lv_aload_n hx hb dX11_restoreSnapshot_45 rfl (lv_at hl 0 rfl) ?_
    refine lv_aload_n hx hb dX11_restoreSnapshot_46 rfl (lv_at hl 0 rfl) ?_
    refine gk_get (ci := 10) (C := RX11) (T := TX11) (N := 26) hx hb hts u_ws_X11 hown hK hH 0 rfl rfl 1 (by decide) u_fl_X11_7 rfl dX11_restoreSnapshot_47 ?_
    refine lv_sipush (v := 204) hx hb dX11_restoreSnapshot_50 (by decide) ?_
    refine gk_iald hx hb hK hH 2 rfl (dk_in (by decide)) dX11_restoreSnapshot_53 ?_
    obtain ⟨q6, hqq6, h⟩ := dc_bind h
    refine gc_Vi (ws' := [(a_t, .inr (10, [.int q6.2, .ref a_t_g, .ref a_t_ahead, .ref a_t_history, .int (0 : Int32), .ref a_t_saved, .int t_hasSaved, .ref a_t_tape, v_t_taped, v_t_at, v_t_impossibleAt, v_t_letter, .ref a_t_numbers, .ref a_t_plan, v_t_detail, v_t_keptReason, v_t_keptDetail, v_t_above, v_t_below, v_t_bestAbove, v_t_bestBelow, .ref a_t_bestPlan, .ref a_t_sort, .ref a_t_size, .ref a_t_whole, .ref a_t_parts])), (a_t_saved, .inl (k 0, 221, .inl t_saved)), (a_t_g, .inl (k 0, 221, .inl z15_t_g))]) (As := [.int (z15_t_g (204 : Int32).toNatClampNeg)]) (rest := []) (n := 1) (ci := 10) (cq := (RX11, TX11, 26)) hTs ⟨hx, hb, hml, hown, hts⟩ (mX11_done l Ts hTs D k H.size a_t a_t_g a_t_ahead a_t_history a_t_saved a_t_tape a_t_numbers a_t_plan a_t_bestPlan a_t_sort a_t_size a_t_whole a_t_parts v_t_above v_t_at v_t_below v_t_bestAbove v_t_bestBelow v_t_detail (.int t_hasSaved) (.int (0 : Int32)) v_t_impossibleAt v_t_keptDetail v_t_keptReason v_t_letter v_t_taped v_t_thrown (z15_t_g (204 : Int32).toNatClampNeg) q6 hqq6) u_ml_X11_69 u_im_X11_done u_se_X11_done u_in_X11 u_co_X11_done hd_X11_done ⟨Nat.le_of_ble_eq_true rfl, Nat.le_of_ble_eq_true rfl⟩ ⟨rfl, rfl⟩ hK hH hA (cutM (isC := [0]) [some 0, none, none] 3 rfl rfl rfl rfl rfl rfl rfl) rfl rfl rfl rfl hl.1 (Nat.le_of_ble_eq_true rfl) dX11_restoreSnapshot_54 ⟨Nat.le_of_ble_eq_true rfl, Nat.le_of_ble_eq_true rfl⟩ (fun H locs hH => ?_)
    have h := Option.some.inj h
    subst h
    exact ge_i hx hb hr hlocks hQ hK hH hAe rfl dX11_restoreSnapshot_57
  · replace h := dc_pos c1 h
    refine lv_aload_n hx hb dX11_restoreSnapshot_7 rfl (lv_at hl 0 rfl) ?_
    refine lv_iconst (v := 1) hx hb dX11_restoreSnapshot_8 (by decide) ?_
    obtain ⟨q2, hqq2, h⟩ := dc_bind h
    refine gc_Vi (ws' := [(a_t, .inr (10, [.int q2.2, .ref a_t_g, .ref a_t_ahead, .ref a_t_history, .int t_historyMany, .ref a_t_saved, .int t_hasSaved, .ref a_t_tape, v_t_taped, v_t_at, v_t_impossibleAt, v_t_letter, .ref a_t_numbers, .ref a_t_plan, v_t_detail, v_t_keptReason, v_t_keptDetail, v_t_above, v_t_below, v_t_bestAbove, v_t_bestBelow, .ref a_t_bestPlan, .ref a_t_sort, .ref a_t_size, .ref a_t_whole, .ref a_t_parts])), (a_t_saved, .inl (k 0, 221, .inl t_saved)), (a_t_g, .inl (k 0, 221, .inl t_g))]) (As := [.int (1 : Int32)]) (rest := []) (n := 1) (ci := 10) (cq := (RX11, TX11, 26)) hTs ⟨hx, hb, hml, hown, hts⟩ (mX11_fails l Ts hTs D k H.size a_t a_t_g a_t_ahead a_t_history a_t_saved a_t_tape a_t_numbers a_t_plan a_t_bestPlan a_t_sort a_t_size a_t_whole a_t_parts v_t_above v_t_at v_t_below v_t_bestAbove v_t_bestBelow v_t_detail (.int t_hasSaved) (.int t_historyMany) v_t_impossibleAt v_t_keptDetail v_t_keptReason v_t_letter v_t_taped v_t_thrown (1 : Int32) q2 hqq2) u_ml_X11_65 u_im_X11_fails u_se_X11_fails u_in_X11 u_co_X11_fails hd_X11_fails ⟨Nat.le_of_ble_eq_true rfl, Nat.le_of_ble_eq_true rfl⟩ ⟨rfl, rfl⟩ hK hH hA (cutM (isC := [0]) [some 0, none, none] 3 rfl rfl rfl rfl rfl rfl rfl) rfl rfl rfl rfl hl.1 (Nat.le_of_ble_eq_true rfl) dX11_restoreSnapshot_9 ⟨Nat.le_of_ble_eq_true rfl, Nat.le_of_ble_eq_true rfl⟩ (fun H locs hH => ?_)
    have h := Option.some.inj h
    subst h
    exact ge_i hx hb hr hlocks hQ hK hH hAe rfl dX11_restoreSnapshot_12
