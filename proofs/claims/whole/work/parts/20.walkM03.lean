theorem hd_X11_does : yX11_does.cls = RX11 ∧ yX11_does.cls ≠ "java/lang/invoke/MethodHandle" ∧ yX11_does.cls ≠ "java/lang/invoke/VarHandle" ∧ (parseMethodDescriptor yX11_does.desc).map (fun d => d.parameters.length) = some 0 := by decide +kernel
set_option maxHeartbeats 4000000 in
set_option maxRecDepth 100000 in
theorem mX11_does (l : Launch) (Ts : List Cond) (hTs : ∀ w, w ∈ Ts ↔ w ∈ uT) (D : va_G) (k : Nat → ClassId) (sz : Nat) (a_t : Nat) (a_t_g : Nat) (a_t_ahead : Nat) (a_t_history : Nat) (a_t_saved : Nat) (a_t_tape : Nat) (a_t_numbers : Nat) (a_t_plan : Nat) (a_t_bestPlan : Nat) (a_t_sort : Nat) (a_t_size : Nat) (a_t_whole : Nat) (a_t_parts : Nat) (t_g : Nat → Int32) (t_letter : Int32) (t_numbers : Nat → Int32) (v_t_above : Value) (v_t_at : Value) (v_t_below : Value) (v_t_bestAbove : Value) (v_t_bestBelow : Value) (v_t_detail : Value) (v_t_hasSaved : Value) (v_t_historyMany : Value) (v_t_impossibleAt : Value) (v_t_keptDetail : Value) (v_t_keptReason : Value) (v_t_taped : Value) (v_t_thrown : Value) (r : Int32 × (Nat → Int32)) (h : fX11_does t_g t_letter t_numbers = some r) : Met l yX11_does (Cond.code yX11_does cX11_does 2 (some .boolean) :: Ts) ({ frames := 2, cells := 0, slots := 0, locals := 43 } : Room) (preM D k [.ref a_t] [(a_t, .inr (10, [v_t_thrown, .ref a_t_g, .ref a_t_ahead, .ref a_t_history, v_t_historyMany, .ref a_t_saved, v_t_hasSaved, .ref a_t_tape, v_t_taped, v_t_at, v_t_impossibleAt, .int t_letter, .ref a_t_numbers, .ref a_t_plan, v_t_detail, v_t_keptReason, v_t_keptDetail, v_t_above, v_t_below, v_t_bestAbove, v_t_bestBelow, .ref a_t_bestPlan, .ref a_t_sort, .ref a_t_size, .ref a_t_whole, .ref a_t_parts])), (a_t_g, .inl (k 0, 221, .inl t_g)), (a_t_numbers, .inl (k 0, 4, .inl t_numbers))] sz) (postI D k r.1 [(a_t, .inr (10, [v_t_thrown, .ref a_t_g, .ref a_t_ahead, .ref a_t_history, v_t_historyMany, .ref a_t_saved, v_t_hasSaved, .ref a_t_tape, v_t_taped, v_t_at, v_t_impossibleAt, .int t_letter, .ref a_t_numbers, .ref a_t_plan, v_t_detail, v_t_keptReason, v_t_keptDetail, v_t_above, v_t_below, v_t_bestAbove, v_t_bestBelow, .ref a_t_bestPlan, .ref a_t_sort, .ref a_t_size, .ref a_t_whole, .ref a_t_parts])), (a_t_g, .inl (k 0, 221, .inl t_g)), (a_t_numbers, .inl (k 0, 4, .inl t_numbers))] [(a_t, .inr (10, [v_t_thrown, .ref a_t_g, .ref a_t_ahead, .ref a_t_history, v_t_historyMany, .ref a_t_saved, v_t_hasSaved, .ref a_t_tape, v_t_taped, v_t_at, v_t_impossibleAt, .int t_letter, .ref a_t_numbers, .ref a_t_plan, v_t_detail, v_t_keptReason, v_t_keptDetail, v_t_above, v_t_below, v_t_bestAbove, v_t_bestBelow, .ref a_t_bestPlan, .ref a_t_sort, .ref a_t_size, .ref a_t_whole, .ref a_t_parts])), (a_t_g, .inl (k 0, 221, .inl r.2)), (a_t_numbers, .inl (k 0, 4, .inl t_numbers))] sz) 0 0 (va_A [(a_t, .inr (10, [v_t_thrown, .ref a_t_g, .ref a_t_ahead, .ref a_t_history, v_t_historyMany, .ref a_t_saved, v_t_hasSaved, .ref a_t_tape, v_t_taped, v_t_at, v_t_impossibleAt, .int t_letter, .ref a_t_numbers, .ref a_t_plan, v_t_detail, v_t_keptReason, v_t_keptDetail, v_t_above, v_t_below, v_t_bestAbove, v_t_bestBelow, .ref a_t_bestPlan, .ref a_t_sort, .ref a_t_size, .ref a_t_whole, .ref a_t_parts])), (a_t_g, .inl (k 0, 221, .inl t_g)), (a_t_numbers, .inl (k 0, 4, .inl t_numbers))] sz) := by
  refine Met.ofW (cc := cX11_does) (maxL := 2) (ret := (some .boolean)) (by decide) rfl ?_
  intro p e s m args below meth c s₁ B hml hv
  obtain ⟨rfl, hsz, hP, hK, hD0⟩ := hv
  have hx := B.exec
  have hb := B.bytes
  have hr := B.returns
  have hts0 := atoms_spec (ws := (Cond.code yX11_does cX11_does 2 (some .boolean) :: Ts)) B.pre
  have hts : ∀ w ∈ uT, w.before _ s = true := fun w h => hts0 w (List.mem_cons_of_mem _ ((hTs w).mpr h))
  clear hts0
  have hown : s.vm.findClass RX11 = some m.cls := findClass_of_methodNamed B.named
  have hlocks := B.notSynchronized
  subst hsz
  have hD := hD0.self (sz := s.heap.size)
  generalize hAe : va_A [(a_t, .inr (10, [v_t_thrown, .ref a_t_g, .ref a_t_ahead, .ref a_t_history, v_t_historyMany, .ref a_t_saved, v_t_hasSaved, .ref a_t_tape, v_t_taped, v_t_at, v_t_impossibleAt, .int t_letter, .ref a_t_numbers, .ref a_t_plan, v_t_detail, v_t_keptReason, v_t_keptDetail, v_t_above, v_t_below, v_t_bestAbove, v_t_bestBelow, .ref a_t_bestPlan, .ref a_t_sort, .ref a_t_size, .ref a_t_whole, .ref a_t_parts])), (a_t_g, .inl (k 0, 221, .inl t_g)), (a_t_numbers, .inl (k 0, 4, .inl t_numbers))] s.heap.size = A at hD ⊢
  have hA : ∀ q : Nat, s.heap.size ≤ q → A q := fun q h => by rw [← hAe]; exact Or.inr h
  have hH : HOK D A s.heap [(a_t, .inr (10, [v_t_thrown, .ref a_t_g, .ref a_t_ahead, .ref a_t_history, v_t_historyMany, .ref a_t_saved, v_t_hasSaved, .ref a_t_tape, v_t_taped, v_t_at, v_t_impossibleAt, .int t_letter, .ref a_t_numbers, .ref a_t_plan, v_t_detail, v_t_keptReason, v_t_keptDetail, v_t_above, v_t_below, v_t_bestAbove, v_t_bestBelow, .ref a_t_bestPlan, .ref a_t_sort, .ref a_t_size, .ref a_t_whole, .ref a_t_parts])), (a_t_g, .inl (k 0, 221, .inl t_g)), (a_t_numbers, .inl (k 0, 4, .inl t_numbers))] s.heap [] := ⟨hP, hD, va_S.rf⟩
  have hl := lv_entry ([.ref a_t]) (n := 2) (Nat.le_of_ble_eq_true rfl)
  rw [lg_entry_eq]
  generalize (lg_sl ([.ref a_t]) ++ List.replicate (2 - (lg_sl ([.ref a_t])).length) Slot.unset).toArray = ls at hl ⊢
  have hl : lv_has ls 2 [(0, .ref a_t)] := hl
  generalize hQ : MQ below (postI D k r.1 [(a_t, .inr (10, [v_t_thrown, .ref a_t_g, .ref a_t_ahead, .ref a_t_history, v_t_historyMany, .ref a_t_saved, v_t_hasSaved, .ref a_t_tape, v_t_taped, v_t_at, v_t_impossibleAt, .int t_letter, .ref a_t_numbers, .ref a_t_plan, v_t_detail, v_t_keptReason, v_t_keptDetail, v_t_above, v_t_below, v_t_bestAbove, v_t_bestBelow, .ref a_t_bestPlan, .ref a_t_sort, .ref a_t_size, .ref a_t_whole, .ref a_t_parts])), (a_t_g, .inl (k 0, 221, .inl t_g)), (a_t_numbers, .inl (k 0, 4, .inl t_numbers))] [(a_t, .inr (10, [v_t_thrown, .ref a_t_g, .ref a_t_ahead, .ref a_t_history, v_t_historyMany, .ref a_t_saved, v_t_hasSaved, .ref a_t_tape, v_t_taped, v_t_at, v_t_impossibleAt, .int t_letter, .ref a_t_numbers, .ref a_t_plan, v_t_detail, v_t_keptReason, v_t_keptDetail, v_t_above, v_t_below, v_t_bestAbove, v_t_bestBelow, .ref a_t_bestPlan, .ref a_t_sort, .ref a_t_size, .ref a_t_whole, .ref a_t_parts])), (a_t_g, .inl (k 0, 221, .inl r.2)), (a_t_numbers, .inl (k 0, 4, .inl t_numbers))] s.heap.size) (List.toArray [.ref a_t]) s 0 0 A = Q
  clear hP hD hD0
  suffices K : ∀ (H : Heap) (locs : List Loc), HOK D A s.heap [(a_t, .inr (10, [v_t_thrown, .ref a_t_g, .ref a_t_ahead, .ref a_t_history, v_t_historyMany, .ref a_t_saved, v_t_hasSaved, .ref a_t_tape, v_t_taped, v_t_at, v_t_impossibleAt, .int t_letter, .ref a_t_numbers, .ref a_t_plan, v_t_detail, v_t_keptReason, v_t_keptDetail, v_t_above, v_t_below, v_t_bestAbove, v_t_bestBelow, .ref a_t_bestPlan, .ref a_t_sort, .ref a_t_size, .ref a_t_whole, .ref a_t_parts])), (a_t_g, .inl (k 0, 221, .inl t_g)), (a_t_numbers, .inl (k 0, 4, .inl t_numbers))] H locs → W p l e ({ frames := 2, cells := 0, slots := 0, locals := 43 } : Room) s m (List.toArray [.ref a_t]) below meth c H locs 0 0 Q (F0 m 0 ls []) from K s.heap [] hH
  intro H locs hH
  have L54 : ∀ (n : Nat), ∀ (kf : (Nat → Int32) → Option (Int32 × (Nat → Int32))) (y54_1 : Int32) (y54_t_g : Nat → Int32), fX11_does_L54 t_numbers n kf y54_1 y54_t_g = some r → (∀ (z54_t_g : Nat → Int32) (H : Heap) (locs : List Loc) (ls : Array Slot), kf z54_t_g = some r → HOK D A s.heap [(a_t, .inr (10, [v_t_thrown, .ref a_t_g, .ref a_t_ahead, .ref a_t_history, v_t_historyMany, .ref a_t_saved, v_t_hasSaved, .ref a_t_tape, v_t_taped, v_t_at, v_t_impossibleAt, .int t_letter, .ref a_t_numbers, .ref a_t_plan, v_t_detail, v_t_keptReason, v_t_keptDetail, v_t_above, v_t_below, v_t_bestAbove, v_t_bestBelow, .ref a_t_bestPlan, .ref a_t_sort, .ref a_t_size, .ref a_t_whole, .ref a_t_parts])), (a_t_g, .inl (k 0, 221, .inl z54_t_g)), (a_t_numbers, .inl (k 0, 4, .inl t_numbers))] H locs → lv_has ls 2 [(0, .ref a_t)] → W p l e ({ frames := 2, cells := 0, slots := 0, locals := 43 } : Room) s m (List.toArray [.ref a_t]) below meth c H locs 0 0 Q (F0 m 90 ls [])) → ∀ (H : Heap) (locs : List Loc) (ls : Array Slot), HOK D A s.heap [(a_t, .inr (10, [v_t_thrown, .ref a_t_g, .ref a_t_ahead, .ref a_t_history, v_t_historyMany, .ref a_t_saved, v_t_hasSaved, .ref a_t_tape, v_t_taped, v_t_at, v_t_impossibleAt, .int t_letter, .ref a_t_numbers, .ref a_t_plan, v_t_detail, v_t_keptReason, v_t_keptDetail, v_t_above, v_t_below, v_t_bestAbove, v_t_bestBelow, .ref a_t_bestPlan, .ref a_t_sort, .ref a_t_size, .ref a_t_whole, .ref a_t_parts])), (a_t_g, .inl (k 0, 221, .inl y54_t_g)), (a_t_numbers, .inl (k 0, 4, .inl t_numbers))] H locs → lv_has ls 2 [(0, .ref a_t), (1, .int y54_1)] → W p l e ({ frames := 2, cells := 0, slots := 0, locals := 43 } : Room) s m (List.toArray [.ref a_t]) below meth c H locs 0 0 Q (F0 m 54 ls []) := by
    intro n
    induction n with
    | zero =>
      intro kf y54_1 y54_t_g h
      exact absurd h (by rw [fX11_does_L54]; exact fun q => by cases q)
    | succ n ih =>
      intro kf y54_1 y54_t_g h kk H locs ls hH hl
      rw [fX11_does_L54] at h
      refine lv_iload_n hx hb dX11_does_54 rfl (lv_at hl 1 rfl) ?_
      refine lv_iconst (v := 4) hx hb dX11_does_55 (by decide) ?_
      refine lv_icmp_ge (tgt := 90) hx hb dX11_does_56 (by decide) (fun c6 => ?_) (fun c6 => ?_)
      · replace h := dc_pos c6 h
        exact kk y54_t_g H locs ls h hH (lv_sub hl [0] rfl)
      · replace h := dc_neg c6 h
        refine lv_aload_n hx hb dX11_does_59 rfl (lv_at hl 0 rfl) ?_
        refine gk_get (ci := 10) (C := RX11) (T := TX11) (N := 26) hx hb hts u_ws_X11 hown hK hH 0 rfl rfl 1 (by decide) u_fl_X11_7 rfl dX11_does_60 ?_
        refine lv_iconst (v := 0) hx hb dX11_does_63 (by decide) ?_
        refine lv_iconst (v := 5) hx hb dX11_does_64 (by decide) ?_
        refine lv_aload_n hx hb dX11_does_65 rfl (lv_at hl 0 rfl) ?_
        refine gk_get (ci := 10) (C := RX11) (T := TX11) (N := 26) hx hb hts u_ws_X11 hown hK hH 0 rfl rfl 1 (by decide) u_fl_X11_7 rfl dX11_does_66 ?_
        refine lv_sipush (v := 204) hx hb dX11_does_69 (by decide) ?_
        refine gk_iald hx hb hK hH 1 rfl (dk_in (by decide)) dX11_does_72 ?_
        refine lv_imul hx hb dX11_does_73 ?_
        refine lv_iadd hx hb dX11_does_74 ?_
        refine lv_iload_n hx hb dX11_does_75 rfl (lv_at hl 1 rfl) ?_
        refine lv_iadd hx hb dX11_does_76 ?_
        refine lv_aload_n hx hb dX11_does_77 rfl (lv_at hl 0 rfl) ?_
        refine gk_get (ci := 10) (C := RX11) (T := TX11) (N := 26) hx hb hts u_ws_X11 hown hK hH 0 rfl rfl 12 (by decide) u_fl_X11_30 rfl dX11_does_78 ?_
        refine lv_iload_n hx hb dX11_does_81 rfl (lv_at hl 1 rfl) ?_
        obtain ⟨g7, h⟩ := dc_need h
        refine gk_iald hx hb hK hH 2 rfl (dk_in g7) dX11_does_82 ?_
        obtain ⟨g8, h⟩ := dc_need h
        refine gk_iast hx hb hK hH 1 rfl (dk_in g8) dX11_does_83 [(a_t, .inr (10, [v_t_thrown, .ref a_t_g, .ref a_t_ahead, .ref a_t_history, v_t_historyMany, .ref a_t_saved, v_t_hasSaved, .ref a_t_tape, v_t_taped, v_t_at, v_t_impossibleAt, .int t_letter, .ref a_t_numbers, .ref a_t_plan, v_t_detail, v_t_keptReason, v_t_keptDetail, v_t_above, v_t_below, v_t_bestAbove, v_t_bestBelow, .ref a_t_bestPlan, .ref a_t_sort, .ref a_t_size, .ref a_t_whole, .ref a_t_parts])), (a_t_g, .inl (k 0, 221, .inl (upd y54_t_g (((0 : Int32) + ((5 : Int32) * (y54_t_g (204 : Int32).toNatClampNeg))) + y54_1).toNatClampNeg (t_numbers y54_1.toNatClampNeg)))), (a_t_numbers, .inl (k 0, 4, .inl t_numbers))] rfl (fun H locs hH => ?_)
        refine lv_iinc (v := (y54_1 + (1 : Int32))) (lv' := [(1, .int (y54_1 + (1 : Int32))), (0, .ref a_t)]) hx hb dX11_does_84 hl (k := 1) rfl rfl (by decide) rfl (fun ls hl => ?_)
        refine lv_goto (tgt := 54) hx hb dX11_does_87 (by decide) ?_
        exact ih kf (y54_1 + (1 : Int32)) (upd y54_t_g (((0 : Int32) + ((5 : Int32) * (y54_t_g (204 : Int32).toNatClampNeg))) + y54_1).toNatClampNeg (t_numbers y54_1.toNatClampNeg)) h kk H locs ls hH (lv_sub hl [1, 0] rfl)
  have L112 : ∀ (n : Nat), ∀ (kf : (Nat → Int32) → Option (Int32 × (Nat → Int32))) (y112_1 : Int32) (y112_t_g : Nat → Int32), fX11_does_L112 n kf y112_1 y112_t_g = some r → (∀ (z112_t_g : Nat → Int32) (H : Heap) (locs : List Loc) (ls : Array Slot), kf z112_t_g = some r → HOK D A s.heap [(a_t, .inr (10, [v_t_thrown, .ref a_t_g, .ref a_t_ahead, .ref a_t_history, v_t_historyMany, .ref a_t_saved, v_t_hasSaved, .ref a_t_tape, v_t_taped, v_t_at, v_t_impossibleAt, .int t_letter, .ref a_t_numbers, .ref a_t_plan, v_t_detail, v_t_keptReason, v_t_keptDetail, v_t_above, v_t_below, v_t_bestAbove, v_t_bestBelow, .ref a_t_bestPlan, .ref a_t_sort, .ref a_t_size, .ref a_t_whole, .ref a_t_parts])), (a_t_g, .inl (k 0, 221, .inl z112_t_g)), (a_t_numbers, .inl (k 0, 4, .inl t_numbers))] H locs → lv_has ls 2 [(0, .ref a_t)] → W p l e ({ frames := 2, cells := 0, slots := 0, locals := 43 } : Room) s m (List.toArray [.ref a_t]) below meth c H locs 0 0 Q (F0 m 168 ls [])) → ∀ (H : Heap) (locs : List Loc) (ls : Array Slot), HOK D A s.heap [(a_t, .inr (10, [v_t_thrown, .ref a_t_g, .ref a_t_ahead, .ref a_t_history, v_t_historyMany, .ref a_t_saved, v_t_hasSaved, .ref a_t_tape, v_t_taped, v_t_at, v_t_impossibleAt, .int t_letter, .ref a_t_numbers, .ref a_t_plan, v_t_detail, v_t_keptReason, v_t_keptDetail, v_t_above, v_t_below, v_t_bestAbove, v_t_bestBelow, .ref a_t_bestPlan, .ref a_t_sort, .ref a_t_size, .ref a_t_whole, .ref a_t_parts])), (a_t_g, .inl (k 0, 221, .inl y112_t_g)), (a_t_numbers, .inl (k 0, 4, .inl t_numbers))] H locs → lv_has ls 2 [(0, .ref a_t), (1, .int y112_1)] → W p l e ({ frames := 2, cells := 0, slots := 0, locals := 43 } : Room) s m (List.toArray [.ref a_t]) below meth c H locs 0 0 Q (F0 m 112 ls []) := by
    intro n
    induction n with
    | zero =>
      intro kf y112_1 y112_t_g h
      exact absurd h (by rw [fX11_does_L112]; exact fun q => by cases q)
    | succ n ih =>
      intro kf y112_1 y112_t_g h kk H locs ls hH hl
      rw [fX11_does_L112] at h
      refine lv_iload_n hx hb dX11_does_112 rfl (lv_at hl 1 rfl) ?_
      refine lv_bipush (v := 12) hx hb dX11_does_113 (by decide) ?_
      refine lv_icmp_ge (tgt := 168) hx hb dX11_does_115 (by decide) (fun c10 => ?_) (fun c10 => ?_)
      · replace h := dc_pos c10 h
        exact kk y112_t_g H locs ls h hH (lv_sub hl [0] rfl)
      · replace h := dc_neg c10 h
        refine lv_aload_n hx hb dX11_does_118 rfl (lv_at hl 0 rfl) ?_
        refine gk_get (ci := 10) (C := RX11) (T := TX11) (N := 26) hx hb hts u_ws_X11 hown hK hH 0 rfl rfl 1 (by decide) u_fl_X11_7 rfl dX11_does_119 ?_
        refine lv_bipush (v := 60) hx hb dX11_does_122 (by decide) ?_
        refine lv_bipush (v := 12) hx hb dX11_does_124 (by decide) ?_
        refine lv_aload_n hx hb dX11_does_126 rfl (lv_at hl 0 rfl) ?_
        refine gk_get (ci := 10) (C := RX11) (T := TX11) (N := 26) hx hb hts u_ws_X11 hown hK hH 0 rfl rfl 1 (by decide) u_fl_X11_7 rfl dX11_does_127 ?_
        refine lv_sipush (v := 204) hx hb dX11_does_130 (by decide) ?_
        refine gk_iald hx hb hK hH 1 rfl (dk_in (by decide)) dX11_does_133 ?_
        refine lv_imul hx hb dX11_does_134 ?_
        refine lv_iadd hx hb dX11_does_135 ?_
        refine lv_iload_n hx hb dX11_does_136 rfl (lv_at hl 1 rfl) ?_
        refine lv_iadd hx hb dX11_does_137 ?_
        refine lv_iconst (v := 0) hx hb dX11_does_138 (by decide) ?_
        obtain ⟨g11, h⟩ := dc_need h
        refine gk_iast hx hb hK hH 1 rfl (dk_in g11) dX11_does_139 [(a_t, .inr (10, [v_t_thrown, .ref a_t_g, .ref a_t_ahead, .ref a_t_history, v_t_historyMany, .ref a_t_saved, v_t_hasSaved, .ref a_t_tape, v_t_taped, v_t_at, v_t_impossibleAt, .int t_letter, .ref a_t_numbers, .ref a_t_plan, v_t_detail, v_t_keptReason, v_t_keptDetail, v_t_above, v_t_below, v_t_bestAbove, v_t_bestBelow, .ref a_t_bestPlan, .ref a_t_sort, .ref a_t_size, .ref a_t_whole, .ref a_t_parts])), (a_t_g, .inl (k 0, 221, .inl (upd y112_t_g (((60 : Int32) + ((12 : Int32) * (y112_t_g (204 : Int32).toNatClampNeg))) + y112_1).toNatClampNeg (0 : Int32)))), (a_t_numbers, .inl (k 0, 4, .inl t_numbers))] rfl (fun H locs hH => ?_)
        refine lv_aload_n hx hb dX11_does_140 rfl (lv_at hl 0 rfl) ?_
        refine gk_get (ci := 10) (C := RX11) (T := TX11) (N := 26) hx hb hts u_ws_X11 hown hK hH 0 rfl rfl 1 (by decide) u_fl_X11_7 rfl dX11_does_141 ?_
        refine lv_bipush (v := 60) hx hb dX11_does_144 (by decide) ?_
        refine lv_bipush (v := 12) hx hb dX11_does_146 (by decide) ?_
        refine lv_iload_n hx hb dX11_does_148 rfl (lv_at hl 1 rfl) ?_
        refine lv_imul hx hb dX11_does_149 ?_
        refine lv_iadd hx hb dX11_does_150 ?_
        refine lv_aload_n hx hb dX11_does_151 rfl (lv_at hl 0 rfl) ?_
        refine gk_get (ci := 10) (C := RX11) (T := TX11) (N := 26) hx hb hts u_ws_X11 hown hK hH 0 rfl rfl 1 (by decide) u_fl_X11_7 rfl dX11_does_152 ?_
        refine lv_sipush (v := 204) hx hb dX11_does_155 (by decide) ?_
        refine gk_iald hx hb hK hH 1 rfl (dk_in (by decide)) dX11_does_158 ?_
        refine lv_iadd hx hb dX11_does_159 ?_
        refine lv_iconst (v := 0) hx hb dX11_does_160 (by decide) ?_
        obtain ⟨g12, h⟩ := dc_need h
        refine gk_iast hx hb hK hH 1 rfl (dk_in g12) dX11_does_161 [(a_t, .inr (10, [v_t_thrown, .ref a_t_g, .ref a_t_ahead, .ref a_t_history, v_t_historyMany, .ref a_t_saved, v_t_hasSaved, .ref a_t_tape, v_t_taped, v_t_at, v_t_impossibleAt, .int t_letter, .ref a_t_numbers, .ref a_t_plan, v_t_detail, v_t_keptReason, v_t_keptDetail, v_t_above, v_t_below, v_t_bestAbove, v_t_bestBelow, .ref a_t_bestPlan, .ref a_t_sort, .ref a_t_size, .ref a_t_whole, .ref a_t_parts])), (a_t_g, .inl (k 0, 221, .inl (upd (upd y112_t_g (((60 : Int32) + ((12 : Int32) * (y112_t_g (204 : Int32).toNatClampNeg))) + y112_1).toNatClampNeg (0 : Int32)) (((60 : Int32) + ((12 : Int32) * y112_1)) + ((upd y112_t_g (((60 : Int32) + ((12 : Int32) * (y112_t_g (204 : Int32).toNatClampNeg))) + y112_1).toNatClampNeg (0 : Int32)) (204 : Int32).toNatClampNeg)).toNatClampNeg (0 : Int32)))), (a_t_numbers, .inl (k 0, 4, .inl t_numbers))] rfl (fun H locs hH => ?_)
        refine lv_iinc (v := (y112_1 + (1 : Int32))) (lv' := [(1, .int (y112_1 + (1 : Int32))), (0, .ref a_t)]) hx hb dX11_does_162 hl (k := 1) rfl rfl (by decide) rfl (fun ls hl => ?_)
        refine lv_goto (tgt := 112) hx hb dX11_does_165 (by decide) ?_
        exact ih kf (y112_1 + (1 : Int32)) (upd (upd y112_t_g (((60 : Int32) + ((12 : Int32) * (y112_t_g (204 : Int32).toNatClampNeg))) + y112_1).toNatClampNeg (0 : Int32)) (((60 : Int32) + ((12 : Int32) * y112_1)) + ((upd y112_t_g (((60 : Int32) + ((12 : Int32) * (y112_t_g (204 : Int32).toNatClampNeg))) + y112_1).toNatClampNeg (0 : Int32)) (204 : Int32).toNatClampNeg)).toNatClampNeg (0 : Int32)) h kk H locs ls hH (lv_sub hl [1, 0] rfl)
  rw [fX11_does] at h
  refine lv_aload_n hx hb dX11_does_0 rfl (lv_at hl 0 rfl) ?_
  refine gk_get (ci := 10) (C := RX11) (T := TX11) (N := 26) hx hb hts u_ws_X11 hown hK hH 0 rfl rfl 11 (by decide) u_fl_X11_79 rfl dX11_does_1 ?_
  refine lv_bipush (v := 117) hx hb dX11_does_4 (by decide) ?_
  refine lv_icmp_ne (tgt := 182) hx hb dX11_does_6 (by decide) (fun c1 => ?_) (fun c1 => ?_)
  · replace h := dc_neg c1 h
    refine lv_aload_n hx hb dX11_does_182 rfl (lv_at hl 0 rfl) ?_
    refine lv_aload_n hx hb dX11_does_183 rfl (lv_at hl 0 rfl) ?_
    refine gk_get (ci := 10) (C := RX11) (T := TX11) (N := 26) hx hb hts u_ws_X11 hown hK hH 0 rfl rfl 12 (by decide) u_fl_X11_30 rfl dX11_does_184 ?_
    refine lv_iconst (v := 0) hx hb dX11_does_187 (by decide) ?_
    refine gk_iald hx hb hK hH 2 rfl (dk_in (by decide)) dX11_does_188 ?_
    obtain ⟨q13, hqq13, h⟩ := dc_bind h
    refine gc_Vi (ws' := [(a_t, .inr (10, [v_t_thrown, .ref a_t_g, .ref a_t_ahead, .ref a_t_history, v_t_historyMany, .ref a_t_saved, v_t_hasSaved, .ref a_t_tape, v_t_taped, v_t_at, v_t_impossibleAt, .int t_letter, .ref a_t_numbers, .ref a_t_plan, v_t_detail, v_t_keptReason, v_t_keptDetail, v_t_above, v_t_below, v_t_bestAbove, v_t_bestBelow, .ref a_t_bestPlan, .ref a_t_sort, .ref a_t_size, .ref a_t_whole, .ref a_t_parts])), (a_t_g, .inl (k 0, 221, .inl t_g)), (a_t_numbers, .inl (k 0, 4, .inl t_numbers))]) (As := [.int (t_numbers (0 : Int32).toNatClampNeg)]) (rest := []) (n := 1) (ci := 10) (cq := (RX11, TX11, 26)) hTs ⟨hx, hb, hml, hown, hts⟩ (mX11_isUnit l Ts hTs D k H.size a_t a_t_g a_t_ahead a_t_history a_t_saved a_t_tape a_t_numbers a_t_plan a_t_bestPlan a_t_sort a_t_size a_t_whole a_t_parts t_g v_t_above v_t_at v_t_below v_t_bestAbove v_t_bestBelow v_t_detail v_t_hasSaved v_t_historyMany v_t_impossibleAt v_t_keptDetail v_t_keptReason (.int t_letter) v_t_taped v_t_thrown (t_numbers (0 : Int32).toNatClampNeg) q13 hqq13) u_ml_X11_90 u_im_X11_isUnit u_se_X11_isUnit u_in_X11 u_co_X11_isUnit hd_X11_isUnit ⟨Nat.le_of_ble_eq_true rfl, Nat.le_of_ble_eq_true rfl⟩ ⟨rfl, rfl⟩ hK hH hA (cut0 (isC := [0, 1]) rfl rfl rfl) rfl rfl rfl rfl hl.1 (Nat.le_of_ble_eq_true rfl) dX11_does_189 ⟨Nat.le_of_ble_eq_true rfl, Nat.le_of_ble_eq_true rfl⟩ (fun H locs hH => ?_)
    refine lv_if_ne (tgt := 197) hx hb dX11_does_192 (by decide) (fun c14 => ?_) (fun c14 => ?_)
    · replace h := dc_neg c14 h
      refine lv_aload_n hx hb dX11_does_197 rfl (lv_at hl 0 rfl) ?_
      refine gk_get (ci := 10) (C := RX11) (T := TX11) (N := 26) hx hb hts u_ws_X11 hown hK hH 0 rfl rfl 11 (by decide) u_fl_X11_79 rfl dX11_does_198 ?_
      refine lv_bipush (v := 111) hx hb dX11_does_201 (by decide) ?_
      refine lv_icmp_ne (tgt := 231) hx hb dX11_does_203 (by decide) (fun c15 => ?_) (fun c15 => ?_)
      · replace h := dc_neg c15 h
        refine lv_aload_n hx hb dX11_does_231 rfl (lv_at hl 0 rfl) ?_
        refine lv_aload_n hx hb dX11_does_232 rfl (lv_at hl 0 rfl) ?_
        refine gk_get (ci := 10) (C := RX11) (T := TX11) (N := 26) hx hb hts u_ws_X11 hown hK hH 0 rfl rfl 12 (by decide) u_fl_X11_30 rfl dX11_does_233 ?_
        refine lv_iconst (v := 1) hx hb dX11_does_236 (by decide) ?_
        refine gk_iald hx hb hK hH 2 rfl (dk_in (by decide)) dX11_does_237 ?_
        obtain ⟨q17, hqq17, h⟩ := dc_bind h
        refine gc_Vi (ws' := [(a_t, .inr (10, [v_t_thrown, .ref a_t_g, .ref a_t_ahead, .ref a_t_history, v_t_historyMany, .ref a_t_saved, v_t_hasSaved, .ref a_t_tape, v_t_taped, v_t_at, v_t_impossibleAt, .int t_letter, .ref a_t_numbers, .ref a_t_plan, v_t_detail, v_t_keptReason, v_t_keptDetail, v_t_above, v_t_below, v_t_bestAbove, v_t_bestBelow, .ref a_t_bestPlan, .ref a_t_sort, .ref a_t_size, .ref a_t_whole, .ref a_t_parts])), (a_t_g, .inl (k 0, 221, .inl t_g)), (a_t_numbers, .inl (k 0, 4, .inl t_numbers))]) (As := [.int (t_numbers (1 : Int32).toNatClampNeg)]) (rest := []) (n := 1) (ci := 10) (cq := (RX11, TX11, 26)) hTs ⟨hx, hb, hml, hown, hts⟩ (mX11_isUnit l Ts hTs D k H.size a_t a_t_g a_t_ahead a_t_history a_t_saved a_t_tape a_t_numbers a_t_plan a_t_bestPlan a_t_sort a_t_size a_t_whole a_t_parts t_g v_t_above v_t_at v_t_below v_t_bestAbove v_t_bestBelow v_t_detail v_t_hasSaved v_t_historyMany v_t_impossibleAt v_t_keptDetail v_t_keptReason (.int t_letter) v_t_taped v_t_thrown (t_numbers (1 : Int32).toNatClampNeg) q17 hqq17) u_ml_X11_90 u_im_X11_isUnit u_se_X11_isUnit u_in_X11 u_co_X11_isUnit hd_X11_isUnit ⟨Nat.le_of_ble_eq_true rfl, Nat.le_of_ble_eq_true rfl⟩ ⟨rfl, rfl⟩ hK hH hA (cut0 (isC := [0, 1]) rfl rfl rfl) rfl rfl rfl rfl hl.1 (Nat.le_of_ble_eq_true rfl) dX11_does_238 ⟨Nat.le_of_ble_eq_true rfl, Nat.le_of_ble_eq_true rfl⟩ (fun H locs hH => ?_)
        refine lv_if_eq (tgt := 287) hx hb dX11_does_241 (by decide) (fun c18 => ?_) (fun c18 => ?_)
        · replace h := dc_pos c18 h
          refine lv_iconst (v := 0) hx hb dX11_does_287 (by decide) ?_
          have h := Option.some.inj h
          subst h
          exact ge_z hx hb hr rfl hlocks hQ hK hH hAe rfl dX11_does_288
        · replace h := dc_neg c18 h
          refine lv_aload_n hx hb dX11_does_244 rfl (lv_at hl 0 rfl) ?_
          refine gk_get (ci := 10) (C := RX11) (T := TX11) (N := 26) hx hb hts u_ws_X11 hown hK hH 0 rfl rfl 12 (by decide) u_fl_X11_30 rfl dX11_does_245 ?_
          refine lv_iconst (v := 0) hx hb dX11_does_248 (by decide) ?_
          refine gk_iald hx hb hK hH 2 rfl (dk_in (by decide)) dX11_does_249 ?_
          refine lv_aload_n hx hb dX11_does_250 rfl (lv_at hl 0 rfl) ?_
          refine gk_get (ci := 10) (C := RX11) (T := TX11) (N := 26) hx hb hts u_ws_X11 hown hK hH 0 rfl rfl 12 (by decide) u_fl_X11_30 rfl dX11_does_251 ?_
          refine lv_iconst (v := 1) hx hb dX11_does_254 (by decide) ?_
          refine gk_iald hx hb hK hH 2 rfl (dk_in (by decide)) dX11_does_255 ?_
          refine lv_icmp_eq (tgt := 287) hx hb dX11_does_256 (by decide) (fun c19 => ?_) (fun c19 => ?_)
          · replace h := dc_pos c19 h
            refine lv_iconst (v := 0) hx hb dX11_does_287 (by decide) ?_
            have h := Option.some.inj h
            subst h
            exact ge_z hx hb hr rfl hlocks hQ hK hH hAe rfl dX11_does_288
          · replace h := dc_neg c19 h
            refine lv_aload_n hx hb dX11_does_259 rfl (lv_at hl 0 rfl) ?_
            refine gk_get (ci := 10) (C := RX11) (T := TX11) (N := 26) hx hb hts u_ws_X11 hown hK hH 0 rfl rfl 12 (by decide) u_fl_X11_30 rfl dX11_does_260 ?_
            refine lv_iconst (v := 2) hx hb dX11_does_263 (by decide) ?_
            refine gk_iald hx hb hK hH 2 rfl (dk_in (by decide)) dX11_does_264 ?_
            refine lv_if_ne (tgt := 289) hx hb dX11_does_265 (by decide) (fun c20 => ?_) (fun c20 => ?_)
            · replace h := dc_neg c20 h
              refine lv_aload_n hx hb dX11_does_289 rfl (lv_at hl 0 rfl) ?_
              refine gk_get (ci := 10) (C := RX11) (T := TX11) (N := 26) hx hb hts u_ws_X11 hown hK hH 0 rfl rfl 1 (by decide) u_fl_X11_7 rfl dX11_does_290 ?_
              refine lv_bipush (v := 60) hx hb dX11_does_293 (by decide) ?_
              refine lv_bipush (v := 12) hx hb dX11_does_295 (by decide) ?_
              refine lv_aload_n hx hb dX11_does_297 rfl (lv_at hl 0 rfl) ?_
              refine gk_get (ci := 10) (C := RX11) (T := TX11) (N := 26) hx hb hts u_ws_X11 hown hK hH 0 rfl rfl 12 (by decide) u_fl_X11_30 rfl dX11_does_298 ?_
              refine lv_iconst (v := 0) hx hb dX11_does_301 (by decide) ?_
              refine gk_iald hx hb hK hH 2 rfl (dk_in (by decide)) dX11_does_302 ?_
              refine lv_imul hx hb dX11_does_303 ?_
              refine lv_iadd hx hb dX11_does_304 ?_
              refine lv_aload_n hx hb dX11_does_305 rfl (lv_at hl 0 rfl) ?_
              refine gk_get (ci := 10) (C := RX11) (T := TX11) (N := 26) hx hb hts u_ws_X11 hown hK hH 0 rfl rfl 12 (by decide) u_fl_X11_30 rfl dX11_does_306 ?_
              refine lv_iconst (v := 1) hx hb dX11_does_309 (by decide) ?_
              refine gk_iald hx hb hK hH 2 rfl (dk_in (by decide)) dX11_does_310 ?_
              refine lv_iadd hx hb dX11_does_311 ?_
              refine lv_aload_n hx hb dX11_does_312 rfl (lv_at hl 0 rfl) ?_
              refine gk_get (ci := 10) (C := RX11) (T := TX11) (N := 26) hx hb hts u_ws_X11 hown hK hH 0 rfl rfl 12 (by decide) u_fl_X11_30 rfl dX11_does_313 ?_
              refine lv_iconst (v := 2) hx hb dX11_does_316 (by decide) ?_
              refine gk_iald hx hb hK hH 2 rfl (dk_in (by decide)) dX11_does_317 ?_
              obtain ⟨g25, h⟩ := dc_need h
              refine gk_iast hx hb hK hH 1 rfl (dk_in g25) dX11_does_318 [(a_t, .inr (10, [v_t_thrown, .ref a_t_g, .ref a_t_ahead, .ref a_t_history, v_t_historyMany, .ref a_t_saved, v_t_hasSaved, .ref a_t_tape, v_t_taped, v_t_at, v_t_impossibleAt, .int t_letter, .ref a_t_numbers, .ref a_t_plan, v_t_detail, v_t_keptReason, v_t_keptDetail, v_t_above, v_t_below, v_t_bestAbove, v_t_bestBelow, .ref a_t_bestPlan, .ref a_t_sort, .ref a_t_size, .ref a_t_whole, .ref a_t_parts])), (a_t_g, .inl (k 0, 221, .inl (upd t_g (((60 : Int32) + ((12 : Int32) * (t_numbers (0 : Int32).toNatClampNeg))) + (t_numbers (1 : Int32).toNatClampNeg)).toNatClampNeg (t_numbers (2 : Int32).toNatClampNeg)))), (a_t_numbers, .inl (k 0, 4, .inl t_numbers))] rfl (fun H locs hH => ?_)
              refine lv_aload_n hx hb dX11_does_319 rfl (lv_at hl 0 rfl) ?_
              refine gk_get (ci := 10) (C := RX11) (T := TX11) (N := 26) hx hb hts u_ws_X11 hown hK hH 0 rfl rfl 1 (by decide) u_fl_X11_7 rfl dX11_does_320 ?_
              refine lv_bipush (v := 60) hx hb dX11_does_323 (by decide) ?_
              refine lv_bipush (v := 12) hx hb dX11_does_325 (by decide) ?_
              refine lv_aload_n hx hb dX11_does_327 rfl (lv_at hl 0 rfl) ?_
              refine gk_get (ci := 10) (C := RX11) (T := TX11) (N := 26) hx hb hts u_ws_X11 hown hK hH 0 rfl rfl 12 (by decide) u_fl_X11_30 rfl dX11_does_328 ?_
              refine lv_iconst (v := 1) hx hb dX11_does_331 (by decide) ?_
              refine gk_iald hx hb hK hH 2 rfl (dk_in (by decide)) dX11_does_332 ?_
              refine lv_imul hx hb dX11_does_333 ?_
              refine lv_iadd hx hb dX11_does_334 ?_
              refine lv_aload_n hx hb dX11_does_335 rfl (lv_at hl 0 rfl) ?_
              refine gk_get (ci := 10) (C := RX11) (T := TX11) (N := 26) hx hb hts u_ws_X11 hown hK hH 0 rfl rfl 12 (by decide) u_fl_X11_30 rfl dX11_does_336 ?_
              refine lv_iconst (v := 0) hx hb dX11_does_339 (by decide) ?_
              refine gk_iald hx hb hK hH 2 rfl (dk_in (by decide)) dX11_does_340 ?_
              refine lv_iadd hx hb dX11_does_341 ?_
              refine lv_aload_n hx hb dX11_does_342 rfl (lv_at hl 0 rfl) ?_
              refine gk_get (ci := 10) (C := RX11) (T := TX11) (N := 26) hx hb hts u_ws_X11 hown hK hH 0 rfl rfl 12 (by decide) u_fl_X11_30 rfl dX11_does_343 ?_
              refine lv_iconst (v := 2) hx hb dX11_does_346 (by decide) ?_
              refine gk_iald hx hb hK hH 2 rfl (dk_in (by decide)) dX11_does_347 ?_
              obtain ⟨g26, h⟩ := dc_need h
              refine gk_iast hx hb hK hH 1 rfl (dk_in g26) dX11_does_348 [(a_t, .inr (10, [v_t_thrown, .ref a_t_g, .ref a_t_ahead, .ref a_t_history, v_t_historyMany, .ref a_t_saved, v_t_hasSaved, .ref a_t_tape, v_t_taped, v_t_at, v_t_impossibleAt, .int t_letter, .ref a_t_numbers, .ref a_t_plan, v_t_detail, v_t_keptReason, v_t_keptDetail, v_t_above, v_t_below, v_t_bestAbove, v_t_bestBelow, .ref a_t_bestPlan, .ref a_t_sort, .ref a_t_size, .ref a_t_whole, .ref a_t_parts])), (a_t_g, .inl (k 0, 221, .inl (upd (upd t_g (((60 : Int32) + ((12 : Int32) * (t_numbers (0 : Int32).toNatClampNeg))) + (t_numbers (1 : Int32).toNatClampNeg)).toNatClampNeg (t_numbers (2 : Int32).toNatClampNeg)) (((60 : Int32) + ((12 : Int32) * (t_numbers (1 : Int32).toNatClampNeg))) + (t_numbers (0 : Int32).toNatClampNeg)).toNatClampNeg (t_numbers (2 : Int32).toNatClampNeg)))), (a_t_numbers, .inl (k 0, 4, .inl t_numbers))] rfl (fun H locs hH => ?_)
              refine lv_iconst (v := 1) hx hb dX11_does_349 (by decide) ?_
              have h := Option.some.inj h
              subst h
              exact ge_z hx hb hr rfl hlocks hQ hK hH hAe rfl dX11_does_350
            · replace h := dc_pos c20 h
              refine lv_aload_n hx hb dX11_does_268 rfl (lv_at hl 0 rfl) ?_
              refine lv_aload_n hx hb dX11_does_269 rfl (lv_at hl 0 rfl) ?_
              refine gk_get (ci := 10) (C := RX11) (T := TX11) (N := 26) hx hb hts u_ws_X11 hown hK hH 0 rfl rfl 12 (by decide) u_fl_X11_30 rfl dX11_does_270 ?_
              refine lv_iconst (v := 0) hx hb dX11_does_273 (by decide) ?_
              refine gk_iald hx hb hK hH 2 rfl (dk_in (by decide)) dX11_does_274 ?_
              refine lv_aload_n hx hb dX11_does_275 rfl (lv_at hl 0 rfl) ?_
              refine gk_get (ci := 10) (C := RX11) (T := TX11) (N := 26) hx hb hts u_ws_X11 hown hK hH 0 rfl rfl 12 (by decide) u_fl_X11_30 rfl dX11_does_276 ?_
              refine lv_iconst (v := 1) hx hb dX11_does_279 (by decide) ?_
              refine gk_iald hx hb hK hH 2 rfl (dk_in (by decide)) dX11_does_280 ?_
              obtain ⟨q21, hqq21, h⟩ := dc_bind h
              refine gc_Vi (ws' := [(a_t, .inr (10, [v_t_thrown, .ref a_t_g, .ref a_t_ahead, .ref a_t_history, v_t_historyMany, .ref a_t_saved, v_t_hasSaved, .ref a_t_tape, v_t_taped, v_t_at, v_t_impossibleAt, .int t_letter, .ref a_t_numbers, .ref a_t_plan, v_t_detail, v_t_keptReason, v_t_keptDetail, v_t_above, v_t_below, v_t_bestAbove, v_t_bestBelow, .ref a_t_bestPlan, .ref a_t_sort, .ref a_t_size, .ref a_t_whole, .ref a_t_parts])), (a_t_g, .inl (k 0, 221, .inl t_g)), (a_t_numbers, .inl (k 0, 4, .inl t_numbers))]) (As := [.int (t_numbers (0 : Int32).toNatClampNeg), .int (t_numbers (1 : Int32).toNatClampNeg)]) (rest := []) (n := 2) (ci := 10) (cq := (RX11, TX11, 26)) hTs ⟨hx, hb, hml, hown, hts⟩ (mX11_borderOf l Ts hTs D k H.size a_t a_t_g a_t_ahead a_t_history a_t_saved a_t_tape a_t_numbers a_t_plan a_t_bestPlan a_t_sort a_t_size a_t_whole a_t_parts t_g v_t_above v_t_at v_t_below v_t_bestAbove v_t_bestBelow v_t_detail v_t_hasSaved v_t_historyMany v_t_impossibleAt v_t_keptDetail v_t_keptReason (.int t_letter) v_t_taped v_t_thrown (t_numbers (0 : Int32).toNatClampNeg) (t_numbers (1 : Int32).toNatClampNeg) q21 hqq21) u_ml_X11_93 u_im_X11_borderOf u_se_X11_borderOf u_in_X11 u_co_X11_borderOf hd_X11_borderOf ⟨Nat.le_of_ble_eq_true rfl, Nat.le_of_ble_eq_true rfl⟩ ⟨rfl, rfl⟩ hK hH hA (cut0 (isC := [0, 1]) rfl rfl rfl) rfl rfl rfl rfl hl.1 (Nat.le_of_ble_eq_true rfl) dX11_does_281 ⟨Nat.le_of_ble_eq_true rfl, Nat.le_of_ble_eq_true rfl⟩ (fun H locs hH => ?_)
              refine lv_if_ne (tgt := 289) hx hb dX11_does_284 (by decide) (fun c22 => ?_) (fun c22 => ?_)
              · replace h := dc_neg c22 h
                refine lv_aload_n hx hb dX11_does_289 rfl (lv_at hl 0 rfl) ?_
                refine gk_get (ci := 10) (C := RX11) (T := TX11) (N := 26) hx hb hts u_ws_X11 hown hK hH 0 rfl rfl 1 (by decide) u_fl_X11_7 rfl dX11_does_290 ?_
                refine lv_bipush (v := 60) hx hb dX11_does_293 (by decide) ?_
                refine lv_bipush (v := 12) hx hb dX11_does_295 (by decide) ?_
                refine lv_aload_n hx hb dX11_does_297 rfl (lv_at hl 0 rfl) ?_
                refine gk_get (ci := 10) (C := RX11) (T := TX11) (N := 26) hx hb hts u_ws_X11 hown hK hH 0 rfl rfl 12 (by decide) u_fl_X11_30 rfl dX11_does_298 ?_
                refine lv_iconst (v := 0) hx hb dX11_does_301 (by decide) ?_
                refine gk_iald hx hb hK hH 2 rfl (dk_in (by decide)) dX11_does_302 ?_
                refine lv_imul hx hb dX11_does_303 ?_
                refine lv_iadd hx hb dX11_does_304 ?_
                refine lv_aload_n hx hb dX11_does_305 rfl (lv_at hl 0 rfl) ?_
                refine gk_get (ci := 10) (C := RX11) (T := TX11) (N := 26) hx hb hts u_ws_X11 hown hK hH 0 rfl rfl 12 (by decide) u_fl_X11_30 rfl dX11_does_306 ?_
                refine lv_iconst (v := 1) hx hb dX11_does_309 (by decide) ?_
                refine gk_iald hx hb hK hH 2 rfl (dk_in (by decide)) dX11_does_310 ?_
                refine lv_iadd hx hb dX11_does_311 ?_
                refine lv_aload_n hx hb dX11_does_312 rfl (lv_at hl 0 rfl) ?_
                refine gk_get (ci := 10) (C := RX11) (T := TX11) (N := 26) hx hb hts u_ws_X11 hown hK hH 0 rfl rfl 12 (by decide) u_fl_X11_30 rfl dX11_does_313 ?_
                refine lv_iconst (v := 2) hx hb dX11_does_316 (by decide) ?_
                refine gk_iald hx hb hK hH 2 rfl (dk_in (by decide)) dX11_does_317 ?_
                obtain ⟨g23, h⟩ := dc_need h
                refine gk_iast hx hb hK hH 1 rfl (dk_in g23) dX11_does_318 [(a_t, .inr (10, [v_t_thrown, .ref a_t_g, .ref a_t_ahead, .ref a_t_history, v_t_historyMany, .ref a_t_saved, v_t_hasSaved, .ref a_t_tape, v_t_taped, v_t_at, v_t_impossibleAt, .int t_letter, .ref a_t_numbers, .ref a_t_plan, v_t_detail, v_t_keptReason, v_t_keptDetail, v_t_above, v_t_below, v_t_bestAbove, v_t_bestBelow, .ref a_t_bestPlan, .ref a_t_sort, .ref a_t_size, .ref a_t_whole, .ref a_t_parts])), (a_t_g, .inl (k 0, 221, .inl (upd t_g (((60 : Int32) + ((12 : Int32) * (t_numbers (0 : Int32).toNatClampNeg))) + (t_numbers (1 : Int32).toNatClampNeg)).toNatClampNeg (t_numbers (2 : Int32).toNatClampNeg)))), (a_t_numbers, .inl (k 0, 4, .inl t_numbers))] rfl (fun H locs hH => ?_)
                refine lv_aload_n hx hb dX11_does_319 rfl (lv_at hl 0 rfl) ?_
                refine gk_get (ci := 10) (C := RX11) (T := TX11) (N := 26) hx hb hts u_ws_X11 hown hK hH 0 rfl rfl 1 (by decide) u_fl_X11_7 rfl dX11_does_320 ?_
                refine lv_bipush (v := 60) hx hb dX11_does_323 (by decide) ?_
                refine lv_bipush (v := 12) hx hb dX11_does_325 (by decide) ?_
                refine lv_aload_n hx hb dX11_does_327 rfl (lv_at hl 0 rfl) ?_
                refine gk_get (ci := 10) (C := RX11) (T := TX11) (N := 26) hx hb hts u_ws_X11 hown hK hH 0 rfl rfl 12 (by decide) u_fl_X11_30 rfl dX11_does_328 ?_
                refine lv_iconst (v := 1) hx hb dX11_does_331 (by decide) ?_
                refine gk_iald hx hb hK hH 2 rfl (dk_in (by decide)) dX11_does_332 ?_
                refine lv_imul hx hb dX11_does_333 ?_
                refine lv_iadd hx hb dX11_does_334 ?_
                refine lv_aload_n hx hb dX11_does_335 rfl (lv_at hl 0 rfl) ?_
                refine gk_get (ci := 10) (C := RX11) (T := TX11) (N := 26) hx hb hts u_ws_X11 hown hK hH 0 rfl rfl 12 (by decide) u_fl_X11_30 rfl dX11_does_336 ?_
                refine lv_iconst (v := 0) hx hb dX11_does_339 (by decide) ?_
                refine gk_iald hx hb hK hH 2 rfl (dk_in (by decide)) dX11_does_340 ?_
                refine lv_iadd hx hb dX11_does_341 ?_
                refine lv_aload_n hx hb dX11_does_342 rfl (lv_at hl 0 rfl) ?_
                refine gk_get (ci := 10) (C := RX11) (T := TX11) (N := 26) hx hb hts u_ws_X11 hown hK hH 0 rfl rfl 12 (by decide) u_fl_X11_30 rfl dX11_does_343 ?_
                refine lv_iconst (v := 2) hx hb dX11_does_346 (by decide) ?_
                refine gk_iald hx hb hK hH 2 rfl (dk_in (by decide)) dX11_does_347 ?_
                obtain ⟨g24, h⟩ := dc_need h
                refine gk_iast hx hb hK hH 1 rfl (dk_in g24) dX11_does_348 [(a_t, .inr (10, [v_t_thrown, .ref a_t_g, .ref a_t_ahead, .ref a_t_history, v_t_historyMany, .ref a_t_saved, v_t_hasSaved, .ref a_t_tape, v_t_taped, v_t_at, v_t_impossibleAt, .int t_letter, .ref a_t_numbers, .ref a_t_plan, v_t_detail, v_t_keptReason, v_t_keptDetail, v_t_above, v_t_below, v_t_bestAbove, v_t_bestBelow, .ref a_t_bestPlan, .ref a_t_sort, .ref a_t_size, .ref a_t_whole, .ref a_t_parts])), (a_t_g, .inl (k 0, 221, .inl (upd (upd t_g (((60 : Int32) + ((12 : Int32) * (t_numbers (0 : Int32).toNatClampNeg))) + (t_numbers (1 : Int32).toNatClampNeg)).toNatClampNeg (t_numbers (2 : Int32).toNatClampNeg)) (((60 : Int32) + ((12 : Int32) * (t_numbers (1 : Int32).toNatClampNeg))) + (t_numbers (0 : Int32).toNatClampNeg)).toNatClampNeg (t_numbers (2 : Int32).toNatClampNeg)))), (a_t_numbers, .inl (k 0, 4, .inl t_numbers))] rfl (fun H locs hH => ?_)
                refine lv_iconst (v := 1) hx hb dX11_does_349 (by decide) ?_
                have h := Option.some.inj h
                subst h
                exact ge_z hx hb hr rfl hlocks hQ hK hH hAe rfl dX11_does_350
              · replace h := dc_pos c22 h
                refine lv_iconst (v := 0) hx hb dX11_does_287 (by decide) ?_
                have h := Option.some.inj h
                subst h
                exact ge_z hx hb hr rfl hlocks hQ hK hH hAe rfl dX11_does_288
      · replace h := dc_pos c15 h
        refine lv_aload_n hx hb dX11_does_206 rfl (lv_at hl 0 rfl) ?_
        refine gk_get (ci := 10) (C := RX11) (T := TX11) (N := 26) hx hb hts u_ws_X11 hown hK hH 0 rfl rfl 1 (by decide) u_fl_X11_7 rfl dX11_does_207 ?_
        refine lv_iconst (v := 0) hx hb dX11_does_210 (by decide) ?_
        refine lv_iconst (v := 5) hx hb dX11_does_211 (by decide) ?_
        refine lv_aload_n hx hb dX11_does_212 rfl (lv_at hl 0 rfl) ?_
        refine gk_get (ci := 10) (C := RX11) (T := TX11) (N := 26) hx hb hts u_ws_X11 hown hK hH 0 rfl rfl 12 (by decide) u_fl_X11_30 rfl dX11_does_213 ?_
        refine lv_iconst (v := 0) hx hb dX11_does_216 (by decide) ?_
        refine gk_iald hx hb hK hH 2 rfl (dk_in (by decide)) dX11_does_217 ?_
        refine lv_imul hx hb dX11_does_218 ?_
        refine lv_iadd hx hb dX11_does_219 ?_
        refine lv_iconst (v := 4) hx hb dX11_does_220 (by decide) ?_
        refine lv_iadd hx hb dX11_does_221 ?_
        refine lv_aload_n hx hb dX11_does_222 rfl (lv_at hl 0 rfl) ?_
        refine gk_get (ci := 10) (C := RX11) (T := TX11) (N := 26) hx hb hts u_ws_X11 hown hK hH 0 rfl rfl 12 (by decide) u_fl_X11_30 rfl dX11_does_223 ?_
        refine lv_iconst (v := 2) hx hb dX11_does_226 (by decide) ?_
        refine gk_iald hx hb hK hH 2 rfl (dk_in (by decide)) dX11_does_227 ?_
        obtain ⟨g16, h⟩ := dc_need h
        refine gk_iast hx hb hK hH 1 rfl (dk_in g16) dX11_does_228 [(a_t, .inr (10, [v_t_thrown, .ref a_t_g, .ref a_t_ahead, .ref a_t_history, v_t_historyMany, .ref a_t_saved, v_t_hasSaved, .ref a_t_tape, v_t_taped, v_t_at, v_t_impossibleAt, .int t_letter, .ref a_t_numbers, .ref a_t_plan, v_t_detail, v_t_keptReason, v_t_keptDetail, v_t_above, v_t_below, v_t_bestAbove, v_t_bestBelow, .ref a_t_bestPlan, .ref a_t_sort, .ref a_t_size, .ref a_t_whole, .ref a_t_parts])), (a_t_g, .inl (k 0, 221, .inl (upd t_g (((0 : Int32) + ((5 : Int32) * (t_numbers (0 : Int32).toNatClampNeg))) + (4 : Int32)).toNatClampNeg (t_numbers (2 : Int32).toNatClampNeg)))), (a_t_numbers, .inl (k 0, 4, .inl t_numbers))] rfl (fun H locs hH => ?_)
        refine lv_iconst (v := 1) hx hb dX11_does_229 (by decide) ?_
        have h := Option.some.inj h
        subst h
        exact ge_z hx hb hr rfl hlocks hQ hK hH hAe rfl dX11_does_230
    · replace h := dc_pos c14 h
      refine lv_iconst (v := 0) hx hb dX11_does_195 (by decide) ?_
      have h := Option.some.inj h
      subst h
      exact ge_z hx hb hr rfl hlocks hQ hK hH hAe rfl dX11_does_196
  · replace h := dc_pos c1 h
    refine lv_aload_n hx hb dX11_does_9 rfl (lv_at hl 0 rfl) ?_
    refine gk_get (ci := 10) (C := RX11) (T := TX11) (N := 26) hx hb hts u_ws_X11 hown hK hH 0 rfl rfl 1 (by decide) u_fl_X11_7 rfl dX11_does_10 ?_
    refine lv_sipush (v := 204) hx hb dX11_does_13 (by decide) ?_
    refine gk_iald hx hb hK hH 1 rfl (dk_in (by decide)) dX11_does_16 ?_
    refine lv_bipush (v := 12) hx hb dX11_does_17 (by decide) ?_
    refine lv_icmp_eq (tgt := 50) hx hb dX11_does_19 (by decide) (fun c2 => ?_) (fun c2 => ?_)
    · replace h := dc_pos c2 h
      refine lv_iconst (v := 0) hx hb dX11_does_50 (by decide) ?_
      have h := Option.some.inj h
      subst h
      exact ge_z hx hb hr rfl hlocks hQ hK hH hAe rfl dX11_does_51
    · replace h := dc_neg c2 h
      refine lv_aload_n hx hb dX11_does_22 rfl (lv_at hl 0 rfl) ?_
      refine gk_get (ci := 10) (C := RX11) (T := TX11) (N := 26) hx hb hts u_ws_X11 hown hK hH 0 rfl rfl 12 (by decide) u_fl_X11_30 rfl dX11_does_23 ?_
      refine lv_iconst (v := 0) hx hb dX11_does_26 (by decide) ?_
      refine gk_iald hx hb hK hH 2 rfl (dk_in (by decide)) dX11_does_27 ?_
      refine lv_if_eq (tgt := 50) hx hb dX11_does_28 (by decide) (fun c3 => ?_) (fun c3 => ?_)
      · replace h := dc_pos c3 h
        refine lv_iconst (v := 0) hx hb dX11_does_50 (by decide) ?_
        have h := Option.some.inj h
        subst h
        exact ge_z hx hb hr rfl hlocks hQ hK hH hAe rfl dX11_does_51
      · replace h := dc_neg c3 h
        refine lv_aload_n hx hb dX11_does_31 rfl (lv_at hl 0 rfl) ?_
        refine gk_get (ci := 10) (C := RX11) (T := TX11) (N := 26) hx hb hts u_ws_X11 hown hK hH 0 rfl rfl 12 (by decide) u_fl_X11_30 rfl dX11_does_32 ?_
        refine lv_iconst (v := 1) hx hb dX11_does_35 (by decide) ?_
        refine gk_iald hx hb hK hH 2 rfl (dk_in (by decide)) dX11_does_36 ?_
        refine lv_if_eq (tgt := 50) hx hb dX11_does_37 (by decide) (fun c4 => ?_) (fun c4 => ?_)
        · replace h := dc_pos c4 h
          refine lv_iconst (v := 0) hx hb dX11_does_50 (by decide) ?_
          have h := Option.some.inj h
          subst h
          exact ge_z hx hb hr rfl hlocks hQ hK hH hAe rfl dX11_does_51
        · replace h := dc_neg c4 h
          refine lv_aload_n hx hb dX11_does_40 rfl (lv_at hl 0 rfl) ?_
          refine gk_get (ci := 10) (C := RX11) (T := TX11) (N := 26) hx hb hts u_ws_X11 hown hK hH 0 rfl rfl 12 (by decide) u_fl_X11_30 rfl dX11_does_41 ?_
          refine lv_iconst (v := 2) hx hb dX11_does_44 (by decide) ?_
          refine gk_iald hx hb hK hH 2 rfl (dk_in (by decide)) dX11_does_45 ?_
          refine lv_iconst (v := 4) hx hb dX11_does_46 (by decide) ?_
          refine lv_icmp_lt (tgt := 52) hx hb dX11_does_47 (by decide) (fun c5 => ?_) (fun c5 => ?_)
          · replace h := dc_pos c5 h
            refine lv_iconst (v := 0) hx hb dX11_does_52 (by decide) ?_
            refine lv_istore_n (lv' := [(1, .int (0 : Int32)), (0, .ref a_t)]) hx hb dX11_does_53 rfl hl (by decide) rfl (fun ls hl => ?_)
            refine L54 _ _ (0 : Int32) t_g h (fun z54_t_g H locs ls h hH hl => ?_) H locs ls hH (lv_sub hl [1, 0] rfl)
            refine lv_aload_n hx hb dX11_does_90 rfl (lv_at hl 0 rfl) ?_
            refine gk_get (ci := 10) (C := RX11) (T := TX11) (N := 26) hx hb hts u_ws_X11 hown hK hH 0 rfl rfl 1 (by decide) u_fl_X11_7 rfl dX11_does_91 ?_
            refine lv_iconst (v := 0) hx hb dX11_does_94 (by decide) ?_
            refine lv_iconst (v := 5) hx hb dX11_does_95 (by decide) ?_
            refine lv_aload_n hx hb dX11_does_96 rfl (lv_at hl 0 rfl) ?_
            refine gk_get (ci := 10) (C := RX11) (T := TX11) (N := 26) hx hb hts u_ws_X11 hown hK hH 0 rfl rfl 1 (by decide) u_fl_X11_7 rfl dX11_does_97 ?_
            refine lv_sipush (v := 204) hx hb dX11_does_100 (by decide) ?_
            refine gk_iald hx hb hK hH 1 rfl (dk_in (by decide)) dX11_does_103 ?_
            refine lv_imul hx hb dX11_does_104 ?_
            refine lv_iadd hx hb dX11_does_105 ?_
            refine lv_iconst (v := 4) hx hb dX11_does_106 (by decide) ?_
            refine lv_iadd hx hb dX11_does_107 ?_
            refine lv_iconst (v := 0) hx hb dX11_does_108 (by decide) ?_
            obtain ⟨g9, h⟩ := dc_need h
            refine gk_iast hx hb hK hH 1 rfl (dk_in g9) dX11_does_109 [(a_t, .inr (10, [v_t_thrown, .ref a_t_g, .ref a_t_ahead, .ref a_t_history, v_t_historyMany, .ref a_t_saved, v_t_hasSaved, .ref a_t_tape, v_t_taped, v_t_at, v_t_impossibleAt, .int t_letter, .ref a_t_numbers, .ref a_t_plan, v_t_detail, v_t_keptReason, v_t_keptDetail, v_t_above, v_t_below, v_t_bestAbove, v_t_bestBelow, .ref a_t_bestPlan, .ref a_t_sort, .ref a_t_size, .ref a_t_whole, .ref a_t_parts])), (a_t_g, .inl (k 0, 221, .inl (upd z54_t_g (((0 : Int32) + ((5 : Int32) * (z54_t_g (204 : Int32).toNatClampNeg))) + (4 : Int32)).toNatClampNeg (0 : Int32)))), (a_t_numbers, .inl (k 0, 4, .inl t_numbers))] rfl (fun H locs hH => ?_)
            refine lv_iconst (v := 0) hx hb dX11_does_110 (by decide) ?_
            refine lv_istore_n (lv' := [(1, .int (0 : Int32)), (0, .ref a_t)]) hx hb dX11_does_111 rfl hl (by decide) rfl (fun ls hl => ?_)
            refine L112 _ _ (0 : Int32) (upd z54_t_g (((0 : Int32) + ((5 : Int32) * (z54_t_g (204 : Int32).toNatClampNeg))) + (4 : Int32)).toNatClampNeg (0 : Int32)) h (fun z112_t_g H locs ls h hH hl => ?_) H locs ls hH (lv_sub hl [1, 0] rfl)
            refine lv_aload_n hx hb dX11_does_168 rfl (lv_at hl 0 rfl) ?_
            refine gk_get (ci := 10) (C := RX11) (T := TX11) (N := 26) hx hb hts u_ws_X11 hown hK hH 0 rfl rfl 1 (by decide) u_fl_X11_7 rfl dX11_does_169 ?_
            refine lv_sipush (v := 204) hx hb dX11_does_172 (by decide) ?_
            refine lv_dup2_11 hx hb dX11_does_175 rfl rfl ?_
            refine gk_iald hx hb hK hH 1 rfl (dk_in (by decide)) dX11_does_176 ?_
            refine lv_iconst (v := 1) hx hb dX11_does_177 (by decide) ?_
            refine lv_iadd hx hb dX11_does_178 ?_
            refine gk_iast hx hb hK hH 1 rfl (dk_in (by decide)) dX11_does_179 [(a_t, .inr (10, [v_t_thrown, .ref a_t_g, .ref a_t_ahead, .ref a_t_history, v_t_historyMany, .ref a_t_saved, v_t_hasSaved, .ref a_t_tape, v_t_taped, v_t_at, v_t_impossibleAt, .int t_letter, .ref a_t_numbers, .ref a_t_plan, v_t_detail, v_t_keptReason, v_t_keptDetail, v_t_above, v_t_below, v_t_bestAbove, v_t_bestBelow, .ref a_t_bestPlan, .ref a_t_sort, .ref a_t_size, .ref a_t_whole, .ref a_t_parts])), (a_t_g, .inl (k 0, 221, .inl (upd z112_t_g (204 : Int32).toNatClampNeg ((z112_t_g (204 : Int32).toNatClampNeg) + (1 : Int32))))), (a_t_numbers, .inl (k 0, 4, .inl t_numbers))] rfl (fun H locs hH => ?_)
            refine lv_iconst (v := 1) hx hb dX11_does_180 (by decide) ?_
            have h := Option.some.inj h
            subst h
            exact ge_z hx hb hr rfl hlocks hQ hK hH hAe rfl dX11_does_181
          · replace h := dc_neg c5 h
            refine lv_iconst (v := 0) hx hb dX11_does_50 (by decide) ?_
            have h := Option.some.inj h
            subst h
            exact ge_z hx hb hr rfl hlocks hQ hK hH hAe rfl dX11_does_51
