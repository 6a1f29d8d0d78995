theorem hd_X11_possible : yX11_possible.cls = RX11 ∧ yX11_possible.cls ≠ "java/lang/invoke/MethodHandle" ∧ yX11_possible.cls ≠ "java/lang/invoke/VarHandle" ∧ (parseMethodDescriptor yX11_possible.desc).map (fun d => d.parameters.length) = some 1 := by decide +kernel
set_option maxHeartbeats 4000000 in
set_option maxRecDepth 100000 in
theorem mX11_possible (l : Launch) (Ts : List Cond) (hTs : ∀ w, w ∈ Ts ↔ w ∈ uT) (D : va_G) (k : Nat → ClassId) (sz : Nat) (a_t : Nat) (a_t_g : Nat) (a_t_ahead : Nat) (a_t_history : Nat) (a_t_saved : Nat) (a_t_tape : Nat) (a_t_numbers : Nat) (a_t_plan : Nat) (a_t_bestPlan : Nat) (a_t_sort : Nat) (a_t_size : Nat) (a_t_whole : Nat) (a_t_parts : Nat) (t_detail : Int32) (t_g : Nat → Int32) (t_plan : Nat → Int32) (v_t_above : Value) (v_t_at : Value) (v_t_below : Value) (v_t_bestAbove : Value) (v_t_bestBelow : Value) (v_t_hasSaved : Value) (v_t_historyMany : Value) (v_t_impossibleAt : Value) (v_t_keptDetail : Value) (v_t_keptReason : Value) (v_t_letter : Value) (v_t_taped : Value) (v_t_thrown : Value) (x1 : Int32) (r : Int32 × Int32 × (Nat → Int32) × Int32) (h : fX11_possible t_detail t_g t_plan x1 = some r) : Met l yX11_possible (Cond.code yX11_possible cX11_possible 6 (some .int) :: Ts) ({ frames := 5, cells := 0, slots := 0, locals := 117 } : Room) (preM D k [.ref a_t, .int x1] [(a_t, .inr (10, [v_t_thrown, .ref a_t_g, .ref a_t_ahead, .ref a_t_history, v_t_historyMany, .ref a_t_saved, v_t_hasSaved, .ref a_t_tape, v_t_taped, v_t_at, v_t_impossibleAt, v_t_letter, .ref a_t_numbers, .ref a_t_plan, .int t_detail, v_t_keptReason, v_t_keptDetail, v_t_above, v_t_below, v_t_bestAbove, v_t_bestBelow, .ref a_t_bestPlan, .ref a_t_sort, .ref a_t_size, .ref a_t_whole, .ref a_t_parts])), (a_t_g, .inl (k 0, 221, .inl t_g)), (a_t_plan, .inl (k 0, 12, .inl t_plan))] sz) (postI D k r.1 [(a_t, .inr (10, [v_t_thrown, .ref a_t_g, .ref a_t_ahead, .ref a_t_history, v_t_historyMany, .ref a_t_saved, v_t_hasSaved, .ref a_t_tape, v_t_taped, v_t_at, v_t_impossibleAt, v_t_letter, .ref a_t_numbers, .ref a_t_plan, .int t_detail, v_t_keptReason, v_t_keptDetail, v_t_above, v_t_below, v_t_bestAbove, v_t_bestBelow, .ref a_t_bestPlan, .ref a_t_sort, .ref a_t_size, .ref a_t_whole, .ref a_t_parts])), (a_t_g, .inl (k 0, 221, .inl t_g)), (a_t_plan, .inl (k 0, 12, .inl t_plan))] [(a_t, .inr (10, [.int r.2.2.2, .ref a_t_g, .ref a_t_ahead, .ref a_t_history, v_t_historyMany, .ref a_t_saved, v_t_hasSaved, .ref a_t_tape, v_t_taped, v_t_at, v_t_impossibleAt, v_t_letter, .ref a_t_numbers, .ref a_t_plan, .int r.2.1, v_t_keptReason, v_t_keptDetail, v_t_above, v_t_below, v_t_bestAbove, v_t_bestBelow, .ref a_t_bestPlan, .ref a_t_sort, .ref a_t_size, .ref a_t_whole, .ref a_t_parts])), (a_t_g, .inl (k 0, 221, .inl t_g)), (a_t_plan, .inl (k 0, 12, .inl r.2.2.1))] sz) 0 0 (va_A [(a_t, .inr (10, [v_t_thrown, .ref a_t_g, .ref a_t_ahead, .ref a_t_history, v_t_historyMany, .ref a_t_saved, v_t_hasSaved, .ref a_t_tape, v_t_taped, v_t_at, v_t_impossibleAt, v_t_letter, .ref a_t_numbers, .ref a_t_plan, .int t_detail, v_t_keptReason, v_t_keptDetail, v_t_above, v_t_below, v_t_bestAbove, v_t_bestBelow, .ref a_t_bestPlan, .ref a_t_sort, .ref a_t_size, .ref a_t_whole, .ref a_t_parts])), (a_t_g, .inl (k 0, 221, .inl t_g)), (a_t_plan, .inl (k 0, 12, .inl t_plan))] sz) := by
  refine Met.ofW (cc := cX11_possible) (maxL := 6) (ret := (some .int)) (by decide) rfl ?_
  intro p e s m args below meth c s₁ B hml hv
  obtain ⟨rfl, hsz, hP, hK, hD0⟩ := hv
  have hx := B.exec
  have hb := B.bytes
  have hr := B.returns
  have hts0 := atoms_spec (ws := (Cond.code yX11_possible cX11_possible 6 (some .int) :: Ts)) B.pre
  have hts : ∀ w ∈ uT, w.before _ s = true := fun w h => hts0 w (List.mem_cons_of_mem _ ((hTs w).mpr h))
  clear hts0
  have hown : s.vm.findClass RX11 = some m.cls := findClass_of_methodNamed B.named
  have hlocks := B.notSynchronized
  subst hsz
  have hD := hD0.self (sz := s.heap.size)
  generalize hAe : va_A [(a_t, .inr (10, [v_t_thrown, .ref a_t_g, .ref a_t_ahead, .ref a_t_history, v_t_historyMany, .ref a_t_saved, v_t_hasSaved, .ref a_t_tape, v_t_taped, v_t_at, v_t_impossibleAt, v_t_letter, .ref a_t_numbers, .ref a_t_plan, .int t_detail, v_t_keptReason, v_t_keptDetail, v_t_above, v_t_below, v_t_bestAbove, v_t_bestBelow, .ref a_t_bestPlan, .ref a_t_sort, .ref a_t_size, .ref a_t_whole, .ref a_t_parts])), (a_t_g, .inl (k 0, 221, .inl t_g)), (a_t_plan, .inl (k 0, 12, .inl t_plan))] s.heap.size = A at hD ⊢
  have hA : ∀ q : Nat, s.heap.size ≤ q → A q := fun q h => by rw [← hAe]; exact Or.inr h
  have hH : HOK D A s.heap [(a_t, .inr (10, [v_t_thrown, .ref a_t_g, .ref a_t_ahead, .ref a_t_history, v_t_historyMany, .ref a_t_saved, v_t_hasSaved, .ref a_t_tape, v_t_taped, v_t_at, v_t_impossibleAt, v_t_letter, .ref a_t_numbers, .ref a_t_plan, .int t_detail, v_t_keptReason, v_t_keptDetail, v_t_above, v_t_below, v_t_bestAbove, v_t_bestBelow, .ref a_t_bestPlan, .ref a_t_sort, .ref a_t_size, .ref a_t_whole, .ref a_t_parts])), (a_t_g, .inl (k 0, 221, .inl t_g)), (a_t_plan, .inl (k 0, 12, .inl t_plan))] s.heap [] := ⟨hP, hD, va_S.rf⟩
  have hl := lv_entry ([.ref a_t, .int x1]) (n := 6) (Nat.le_of_ble_eq_true rfl)
  rw [lg_entry_eq]
  generalize (lg_sl ([.ref a_t, .int x1]) ++ List.replicate (6 - (lg_sl ([.ref a_t, .int x1])).length) Slot.unset).toArray = ls at hl ⊢
  have hl : lv_has ls 6 [(0, .ref a_t), (1, .int x1)] := hl
  generalize hQ : MQ below (postI D k r.1 [(a_t, .inr (10, [v_t_thrown, .ref a_t_g, .ref a_t_ahead, .ref a_t_history, v_t_historyMany, .ref a_t_saved, v_t_hasSaved, .ref a_t_tape, v_t_taped, v_t_at, v_t_impossibleAt, v_t_letter, .ref a_t_numbers, .ref a_t_plan, .int t_detail, v_t_keptReason, v_t_keptDetail, v_t_above, v_t_below, v_t_bestAbove, v_t_bestBelow, .ref a_t_bestPlan, .ref a_t_sort, .ref a_t_size, .ref a_t_whole, .ref a_t_parts])), (a_t_g, .inl (k 0, 221, .inl t_g)), (a_t_plan, .inl (k 0, 12, .inl t_plan))] [(a_t, .inr (10, [.int r.2.2.2, .ref a_t_g, .ref a_t_ahead, .ref a_t_history, v_t_historyMany, .ref a_t_saved, v_t_hasSaved, .ref a_t_tape, v_t_taped, v_t_at, v_t_impossibleAt, v_t_letter, .ref a_t_numbers, .ref a_t_plan, .int r.2.1, v_t_keptReason, v_t_keptDetail, v_t_above, v_t_below, v_t_bestAbove, v_t_bestBelow, .ref a_t_bestPlan, .ref a_t_sort, .ref a_t_size, .ref a_t_whole, .ref a_t_parts])), (a_t_g, .inl (k 0, 221, .inl t_g)), (a_t_plan, .inl (k 0, 12, .inl r.2.2.1))] s.heap.size) (List.toArray [.ref a_t, .int x1]) s 0 0 A = Q
  clear hP hD hD0
  suffices K : ∀ (H : Heap) (locs : List Loc), HOK D A s.heap [(a_t, .inr (10, [v_t_thrown, .ref a_t_g, .ref a_t_ahead, .ref a_t_history, v_t_historyMany, .ref a_t_saved, v_t_hasSaved, .ref a_t_tape, v_t_taped, v_t_at, v_t_impossibleAt, v_t_letter, .ref a_t_numbers, .ref a_t_plan, .int t_detail, v_t_keptReason, v_t_keptDetail, v_t_above, v_t_below, v_t_bestAbove, v_t_bestBelow, .ref a_t_bestPlan, .ref a_t_sort, .ref a_t_size, .ref a_t_whole, .ref a_t_parts])), (a_t_g, .inl (k 0, 221, .inl t_g)), (a_t_plan, .inl (k 0, 12, .inl t_plan))] H locs → W p l e ({ frames := 5, cells := 0, slots := 0, locals := 117 } : Room) s m (List.toArray [.ref a_t, .int x1]) below meth c H locs 0 0 Q (F0 m 0 ls []) from K s.heap [] hH
  intro H locs hH
  have L46 : ∀ (y46_3 : Int32) (n : Nat), ∀ (kf : Int32 → Int32 → (Nat → Int32) → Option (Int32 × Int32 × (Nat → Int32) × Int32)) (y46_2 : Int32) (y46_4 : Int32) (y46_t_detail : Int32) (y46_t_plan : Nat → Int32), fX11_possible_L46 t_g x1 y46_3 n kf y46_2 y46_4 y46_t_detail y46_t_plan = some r → (∀ (z46_2 : Int32) (z46_t_detail : Int32) (z46_t_plan : Nat → Int32) (H : Heap) (locs : List Loc) (ls : Array Slot), kf z46_2 z46_t_detail z46_t_plan = some r → HOK D A s.heap [(a_t, .inr (10, [v_t_thrown, .ref a_t_g, .ref a_t_ahead, .ref a_t_history, v_t_historyMany, .ref a_t_saved, v_t_hasSaved, .ref a_t_tape, v_t_taped, v_t_at, v_t_impossibleAt, v_t_letter, .ref a_t_numbers, .ref a_t_plan, .int z46_t_detail, v_t_keptReason, v_t_keptDetail, v_t_above, v_t_below, v_t_bestAbove, v_t_bestBelow, .ref a_t_bestPlan, .ref a_t_sort, .ref a_t_size, .ref a_t_whole, .ref a_t_parts])), (a_t_g, .inl (k 0, 221, .inl t_g)), (a_t_plan, .inl (k 0, 12, .inl z46_t_plan))] H locs → lv_has ls 6 [(0, .ref a_t), (1, .int x1), (2, .int z46_2), (3, .int y46_3)] → W p l e ({ frames := 5, cells := 0, slots := 0, locals := 117 } : Room) s m (List.toArray [.ref a_t, .int x1]) below meth c H locs 0 0 Q (F0 m 163 ls [])) → ∀ (H : Heap) (locs : List Loc) (ls : Array Slot), HOK D A s.heap [(a_t, .inr (10, [v_t_thrown, .ref a_t_g, .ref a_t_ahead, .ref a_t_history, v_t_historyMany, .ref a_t_saved, v_t_hasSaved, .ref a_t_tape, v_t_taped, v_t_at, v_t_impossibleAt, v_t_letter, .ref a_t_numbers, .ref a_t_plan, .int y46_t_detail, v_t_keptReason, v_t_keptDetail, v_t_above, v_t_below, v_t_bestAbove, v_t_bestBelow, .ref a_t_bestPlan, .ref a_t_sort, .ref a_t_size, .ref a_t_whole, .ref a_t_parts])), (a_t_g, .inl (k 0, 221, .inl t_g)), (a_t_plan, .inl (k 0, 12, .inl y46_t_plan))] H locs → lv_has ls 6 [(0, .ref a_t), (1, .int x1), (2, .int y46_2), (3, .int y46_3), (4, .int y46_4)] → W p l e ({ frames := 5, cells := 0, slots := 0, locals := 117 } : Room) s m (List.toArray [.ref a_t, .int x1]) below meth c H locs 0 0 Q (F0 m 46 ls []) := by
    intro y46_3 n
    induction n with
    | zero =>
      intro kf y46_2 y46_4 y46_t_detail y46_t_plan h
      exact absurd h (by rw [fX11_possible_L46]; exact fun q => by cases q)
    | succ n ih =>
      intro kf y46_2 y46_4 y46_t_detail y46_t_plan h kk H locs ls hH hl
      rw [fX11_possible_L46] at h
      refine lv_iload hx hb dX11_possible_46 (lv_at hl 4 rfl) ?_
      refine lv_iload_n hx hb dX11_possible_48 rfl (lv_at hl 1 rfl) ?_
      refine lv_if_eq (tgt := 63) hx hb dX11_possible_49 (by decide) (fun c5 => ?_) (fun c5 => ?_)
      · replace h := dc_pos c5 h
        refine lv_aload_n hx hb dX11_possible_63 rfl (lv_at hl 0 rfl) ?_
        refine gk_get (ci := 10) (C := RX11) (T := TX11) (N := 26) hx hb hts u_ws_X11 hown hK hH 0 rfl rfl 1 (by decide) u_fl_X11_7 rfl dX11_possible_64 ?_
        refine lv_sipush (v := 205) hx hb dX11_possible_67 (by decide) ?_
        refine gk_iald hx hb hK hH 1 rfl (dk_in (by decide)) dX11_possible_70 ?_
        refine lv_icmp_ge (tgt := 163) hx hb dX11_possible_71 (by decide) (fun c6 => ?_) (fun c6 => ?_)
        · replace h := dc_pos c6 h
          exact kk y46_2 y46_t_detail y46_t_plan H locs ls h hH (lv_sub hl [0, 1, 2, 3] rfl)
        · replace h := dc_neg c6 h
          refine lv_aload_n hx hb dX11_possible_74 rfl (lv_at hl 0 rfl) ?_
          obtain ⟨q7, hqq7, h⟩ := dc_bind h
          refine gc_Vv (ws' := [(a_t, .inr (10, [v_t_thrown, .ref a_t_g, .ref a_t_ahead, .ref a_t_history, v_t_historyMany, .ref a_t_saved, v_t_hasSaved, .ref a_t_tape, v_t_taped, v_t_at, v_t_impossibleAt, v_t_letter, .ref a_t_numbers, .ref a_t_plan, .int y46_t_detail, v_t_keptReason, v_t_keptDetail, v_t_above, v_t_below, v_t_bestAbove, v_t_bestBelow, .ref a_t_bestPlan, .ref a_t_sort, .ref a_t_size, .ref a_t_whole, .ref a_t_parts])), (a_t_g, .inl (k 0, 221, .inl t_g)), (a_t_plan, .inl (k 0, 12, .inl q7))]) (As := []) (rest := []) (n := 0) (ci := 10) (cq := (RX11, TX11, 26)) hTs ⟨hx, hb, hml, hown, hts⟩ (mX11_tells l Ts hTs D k H.size a_t a_t_g a_t_ahead a_t_history a_t_saved a_t_tape a_t_numbers a_t_plan a_t_bestPlan a_t_sort a_t_size a_t_whole a_t_parts t_g y46_t_plan v_t_above v_t_at v_t_below v_t_bestAbove v_t_bestBelow (.int y46_t_detail) v_t_hasSaved v_t_historyMany v_t_impossibleAt v_t_keptDetail v_t_keptReason v_t_letter v_t_taped v_t_thrown q7 hqq7) u_ml_X11_164 u_im_X11_tells u_se_X11_tells u_in_X11 u_co_X11_tells hd_X11_tells ⟨Nat.le_of_ble_eq_true rfl, Nat.le_of_ble_eq_true rfl⟩ ⟨rfl, rfl⟩ hK hH hA (cutM (isC := [0, 1, 2]) [some 0, some 1, some 2] 3 rfl rfl rfl rfl rfl rfl rfl) rfl rfl rfl rfl hl.1 (Nat.le_of_ble_eq_true rfl) dX11_possible_75 ⟨Nat.le_of_ble_eq_true rfl, Nat.le_of_ble_eq_true rfl⟩ (fun H locs hH => ?_)
          refine lv_iload_n hx hb dX11_possible_78 rfl (lv_at hl 1 rfl) ?_
          refine lv_if_eq (tgt := 116) hx hb dX11_possible_79 (by decide) (fun _ => ?_) (fun c => absurd c5 c)
          refine lv_aload_n hx hb dX11_possible_116 rfl (lv_at hl 0 rfl) ?_
          refine gk_get (ci := 10) (C := RX11) (T := TX11) (N := 26) hx hb hts u_ws_X11 hown hK hH 0 rfl rfl 13 (by decide) u_fl_X11_33 rfl dX11_possible_117 ?_
          refine lv_iload_n hx hb dX11_possible_120 rfl (lv_at hl 3 rfl) ?_
          obtain ⟨g8, h⟩ := dc_need h
          refine gk_iald hx hb hK hH 2 rfl (dk_in g8) dX11_possible_121 ?_
          refine lv_iload hx hb dX11_possible_122 (lv_at hl 4 rfl) ?_
          refine lv_icmp_eq (tgt := 141) hx hb dX11_possible_124 (by decide) (fun c9 => ?_) (fun c9 => ?_)
          · replace h := dc_pos c9 h
            refine lv_iconst (v := 0) hx hb dX11_possible_141 (by decide) ?_
            refine lv_istore (lv' := [(5, .int (0 : Int32)), (0, .ref a_t), (1, .int x1), (2, .int y46_2), (3, .int y46_3), (4, .int y46_4)]) hx hb dX11_possible_142 hl (by decide) rfl (fun ls hl => ?_)
            refine lv_iload_n hx hb dX11_possible_144 rfl (lv_at hl 3 rfl) ?_
            refine lv_iload hx hb dX11_possible_145 (lv_at hl 0 rfl) ?_
            refine lv_if_eq (tgt := 154) hx hb dX11_possible_147 (by decide) (fun _ => ?_) (fun c => absurd c (by decide))
            refine lv_iconst (v := 0) hx hb dX11_possible_154 (by decide) ?_
            refine lv_iadd hx hb dX11_possible_155 ?_
            refine lv_istore_n (lv' := [(2, .int (y46_2 + (0 : Int32))), (5, .int (0 : Int32)), (0, .ref a_t), (1, .int x1), (3, .int y46_3), (4, .int y46_4)]) hx hb dX11_possible_156 rfl hl (by decide) rfl (fun ls hl => ?_)
            refine lv_iinc (v := (y46_4 + (1 : Int32))) (lv' := [(4, .int (y46_4 + (1 : Int32))), (2, .int (y46_2 + (0 : Int32))), (5, .int (0 : Int32)), (0, .ref a_t), (1, .int x1), (3, .int y46_3)]) hx hb dX11_possible_157 hl (k := 5) rfl rfl (by decide) rfl (fun ls hl => ?_)
            refine lv_goto (tgt := 46) hx hb dX11_possible_160 (by decide) ?_
            exact ih kf (y46_2 + (0 : Int32)) (y46_4 + (1 : Int32)) y46_t_detail q7 h kk H locs ls hH (lv_sub hl [3, 4, 1, 5, 0] rfl)
          · replace h := dc_neg c9 h
            refine lv_aload_n hx hb dX11_possible_127 rfl (lv_at hl 0 rfl) ?_
            refine lv_iload_n hx hb dX11_possible_128 rfl (lv_at hl 3 rfl) ?_
            refine lv_iload hx hb dX11_possible_129 (lv_at hl 4 rfl) ?_
            obtain ⟨q10, hqq10, h⟩ := dc_bind h
            refine gc_Vi (ws' := [(a_t, .inr (10, [v_t_thrown, .ref a_t_g, .ref a_t_ahead, .ref a_t_history, v_t_historyMany, .ref a_t_saved, v_t_hasSaved, .ref a_t_tape, v_t_taped, v_t_at, v_t_impossibleAt, v_t_letter, .ref a_t_numbers, .ref a_t_plan, .int q10.2.1, v_t_keptReason, v_t_keptDetail, v_t_above, v_t_below, v_t_bestAbove, v_t_bestBelow, .ref a_t_bestPlan, .ref a_t_sort, .ref a_t_size, .ref a_t_whole, .ref a_t_parts])), (a_t_g, .inl (k 0, 221, .inl t_g)), (a_t_plan, .inl (k 0, 12, .inl q10.2.2))]) (As := [.int y46_3, .int y46_4]) (rest := []) (n := 2) (ci := 10) (cq := (RX11, TX11, 26)) hTs ⟨hx, hb, hml, hown, hts⟩ (mX11_moves l Ts hTs D k H.size a_t a_t_g a_t_ahead a_t_history a_t_saved a_t_tape a_t_numbers a_t_plan a_t_bestPlan a_t_sort a_t_size a_t_whole a_t_parts y46_t_detail t_g q7 v_t_above v_t_at v_t_below v_t_bestAbove v_t_bestBelow v_t_hasSaved v_t_historyMany v_t_impossibleAt v_t_keptDetail v_t_keptReason v_t_letter v_t_taped v_t_thrown y46_3 y46_4 q10 hqq10) u_ml_X11_167 u_im_X11_moves u_se_X11_moves u_in_X11 u_co_X11_moves hd_X11_moves ⟨Nat.le_of_ble_eq_true rfl, Nat.le_of_ble_eq_true rfl⟩ ⟨rfl, rfl⟩ hK hH hA (cutM (isC := [0, 1, 2]) [some 0, some 1, some 2] 3 rfl rfl rfl rfl rfl rfl rfl) rfl rfl rfl rfl hl.1 (Nat.le_of_ble_eq_true rfl) dX11_possible_131 ⟨Nat.le_of_ble_eq_true rfl, Nat.le_of_ble_eq_true rfl⟩ (fun H locs hH => ?_)
            refine lv_if_ne (tgt := 141) hx hb dX11_possible_134 (by decide) (fun c11 => ?_) (fun c11 => ?_)
            · replace h := dc_neg c11 h
              refine lv_iconst (v := 0) hx hb dX11_possible_141 (by decide) ?_
              refine lv_istore (lv' := [(5, .int (0 : Int32)), (0, .ref a_t), (1, .int x1), (2, .int y46_2), (3, .int y46_3), (4, .int y46_4)]) hx hb dX11_possible_142 hl (by decide) rfl (fun ls hl => ?_)
              refine lv_iload_n hx hb dX11_possible_144 rfl (lv_at hl 3 rfl) ?_
              refine lv_iload hx hb dX11_possible_145 (lv_at hl 0 rfl) ?_
              refine lv_if_eq (tgt := 154) hx hb dX11_possible_147 (by decide) (fun _ => ?_) (fun c => absurd c (by decide))
              refine lv_iconst (v := 0) hx hb dX11_possible_154 (by decide) ?_
              refine lv_iadd hx hb dX11_possible_155 ?_
              refine lv_istore_n (lv' := [(2, .int (y46_2 + (0 : Int32))), (5, .int (0 : Int32)), (0, .ref a_t), (1, .int x1), (3, .int y46_3), (4, .int y46_4)]) hx hb dX11_possible_156 rfl hl (by decide) rfl (fun ls hl => ?_)
              refine lv_iinc (v := (y46_4 + (1 : Int32))) (lv' := [(4, .int (y46_4 + (1 : Int32))), (2, .int (y46_2 + (0 : Int32))), (5, .int (0 : Int32)), (0, .ref a_t), (1, .int x1), (3, .int y46_3)]) hx hb dX11_possible_157 hl (k := 5) rfl rfl (by decide) rfl (fun ls hl => ?_)
              refine lv_goto (tgt := 46) hx hb dX11_possible_160 (by decide) ?_
              exact ih kf (y46_2 + (0 : Int32)) (y46_4 + (1 : Int32)) q10.2.1 q10.2.2 h kk H locs ls hH (lv_sub hl [3, 4, 1, 5, 0] rfl)
            · replace h := dc_pos c11 h
              refine lv_iconst (v := 1) hx hb dX11_possible_137 (by decide) ?_
              refine lv_goto (tgt := 142) hx hb dX11_possible_138 (by decide) ?_
              refine lv_istore (lv' := [(5, .int (1 : Int32)), (0, .ref a_t), (1, .int x1), (2, .int y46_2), (3, .int y46_3), (4, .int y46_4)]) hx hb dX11_possible_142 hl (by decide) rfl (fun ls hl => ?_)
              refine lv_iload_n hx hb dX11_possible_144 rfl (lv_at hl 3 rfl) ?_
              refine lv_iload hx hb dX11_possible_145 (lv_at hl 0 rfl) ?_
              refine lv_if_eq (tgt := 154) hx hb dX11_possible_147 (by decide) (fun c => absurd c (by decide)) (fun _ => ?_)
              refine lv_iconst (v := 1) hx hb dX11_possible_150 (by decide) ?_
              refine lv_goto (tgt := 155) hx hb dX11_possible_151 (by decide) ?_
              refine lv_iadd hx hb dX11_possible_155 ?_
              refine lv_istore_n (lv' := [(2, .int (y46_2 + (1 : Int32))), (5, .int (1 : Int32)), (0, .ref a_t), (1, .int x1), (3, .int y46_3), (4, .int y46_4)]) hx hb dX11_possible_156 rfl hl (by decide) rfl (fun ls hl => ?_)
              refine lv_iinc (v := (y46_4 + (1 : Int32))) (lv' := [(4, .int (y46_4 + (1 : Int32))), (2, .int (y46_2 + (1 : Int32))), (5, .int (1 : Int32)), (0, .ref a_t), (1, .int x1), (3, .int y46_3)]) hx hb dX11_possible_157 hl (k := 5) rfl rfl (by decide) rfl (fun ls hl => ?_)
              refine lv_goto (tgt := 46) hx hb dX11_possible_160 (by decide) ?_
              exact ih kf (y46_2 + (1 : Int32)) (y46_4 + (1 : Int32)) q10.2.1 q10.2.2 h kk H locs ls hH (lv_sub hl [3, 4, 1, 5, 0] rfl)
      · replace h := dc_neg c5 h
        refine lv_aload_n hx hb dX11_possible_52 rfl (lv_at hl 0 rfl) ?_
        refine gk_get (ci := 10) (C := RX11) (T := TX11) (N := 26) hx hb hts u_ws_X11 hown hK hH 0 rfl rfl 1 (by decide) u_fl_X11_7 rfl dX11_possible_53 ?_
        refine lv_sipush (v := 204) hx hb dX11_possible_56 (by decide) ?_
        refine gk_iald hx hb hK hH 1 rfl (dk_in (by decide)) dX11_possible_59 ?_
        refine lv_goto (tgt := 71) hx hb dX11_possible_60 (by decide) ?_
        refine lv_icmp_ge (tgt := 163) hx hb dX11_possible_71 (by decide) (fun c12 => ?_) (fun c12 => ?_)
        · replace h := dc_pos c12 h
          exact kk y46_2 y46_t_detail y46_t_plan H locs ls h hH (lv_sub hl [0, 1, 2, 3] rfl)
        · replace h := dc_neg c12 h
          refine lv_aload_n hx hb dX11_possible_74 rfl (lv_at hl 0 rfl) ?_
          obtain ⟨q13, hqq13, h⟩ := dc_bind h
          refine gc_Vv (ws' := [(a_t, .inr (10, [v_t_thrown, .ref a_t_g, .ref a_t_ahead, .ref a_t_history, v_t_historyMany, .ref a_t_saved, v_t_hasSaved, .ref a_t_tape, v_t_taped, v_t_at, v_t_impossibleAt, v_t_letter, .ref a_t_numbers, .ref a_t_plan, .int y46_t_detail, v_t_keptReason, v_t_keptDetail, v_t_above, v_t_below, v_t_bestAbove, v_t_bestBelow, .ref a_t_bestPlan, .ref a_t_sort, .ref a_t_size, .ref a_t_whole, .ref a_t_parts])), (a_t_g, .inl (k 0, 221, .inl t_g)), (a_t_plan, .inl (k 0, 12, .inl q13))]) (As := []) (rest := []) (n := 0) (ci := 10) (cq := (RX11, TX11, 26)) hTs ⟨hx, hb, hml, hown, hts⟩ (mX11_tells l Ts hTs D k H.size a_t a_t_g a_t_ahead a_t_history a_t_saved a_t_tape a_t_numbers a_t_plan a_t_bestPlan a_t_sort a_t_size a_t_whole a_t_parts t_g y46_t_plan v_t_above v_t_at v_t_below v_t_bestAbove v_t_bestBelow (.int y46_t_detail) v_t_hasSaved v_t_historyMany v_t_impossibleAt v_t_keptDetail v_t_keptReason v_t_letter v_t_taped v_t_thrown q13 hqq13) u_ml_X11_164 u_im_X11_tells u_se_X11_tells u_in_X11 u_co_X11_tells hd_X11_tells ⟨Nat.le_of_ble_eq_true rfl, Nat.le_of_ble_eq_true rfl⟩ ⟨rfl, rfl⟩ hK hH hA (cutM (isC := [0, 1, 2]) [some 0, some 1, some 2] 3 rfl rfl rfl rfl rfl rfl rfl) rfl rfl rfl rfl hl.1 (Nat.le_of_ble_eq_true rfl) dX11_possible_75 ⟨Nat.le_of_ble_eq_true rfl, Nat.le_of_ble_eq_true rfl⟩ (fun H locs hH => ?_)
          refine lv_iload_n hx hb dX11_possible_78 rfl (lv_at hl 1 rfl) ?_
          refine lv_if_eq (tgt := 116) hx hb dX11_possible_79 (by decide) (fun c => absurd c c5) (fun _ => ?_)
          refine lv_aload_n hx hb dX11_possible_82 rfl (lv_at hl 0 rfl) ?_
          refine gk_get (ci := 10) (C := RX11) (T := TX11) (N := 26) hx hb hts u_ws_X11 hown hK hH 0 rfl rfl 13 (by decide) u_fl_X11_33 rfl dX11_possible_83 ?_
          refine lv_iload_n hx hb dX11_possible_86 rfl (lv_at hl 3 rfl) ?_
          obtain ⟨g14, h⟩ := dc_need h
          refine gk_iald hx hb hK hH 2 rfl (dk_in g14) dX11_possible_87 ?_
          refine lv_aload_n hx hb dX11_possible_88 rfl (lv_at hl 0 rfl) ?_
          refine gk_get (ci := 10) (C := RX11) (T := TX11) (N := 26) hx hb hts u_ws_X11 hown hK hH 0 rfl rfl 13 (by decide) u_fl_X11_33 rfl dX11_possible_89 ?_
          refine lv_iload hx hb dX11_possible_92 (lv_at hl 4 rfl) ?_
          obtain ⟨g15, h⟩ := dc_need h
          refine gk_iald hx hb hK hH 2 rfl (dk_in g15) dX11_possible_94 ?_
          refine lv_icmp_eq (tgt := 112) hx hb dX11_possible_95 (by decide) (fun c16 => ?_) (fun c16 => ?_)
          · replace h := dc_pos c16 h
            refine lv_iconst (v := 0) hx hb dX11_possible_112 (by decide) ?_
            refine lv_goto (tgt := 142) hx hb dX11_possible_113 (by decide) ?_
            refine lv_istore (lv' := [(5, .int (0 : Int32)), (0, .ref a_t), (1, .int x1), (2, .int y46_2), (3, .int y46_3), (4, .int y46_4)]) hx hb dX11_possible_142 hl (by decide) rfl (fun ls hl => ?_)
            refine lv_iload_n hx hb dX11_possible_144 rfl (lv_at hl 3 rfl) ?_
            refine lv_iload hx hb dX11_possible_145 (lv_at hl 0 rfl) ?_
            refine lv_if_eq (tgt := 154) hx hb dX11_possible_147 (by decide) (fun _ => ?_) (fun c => absurd c (by decide))
            refine lv_iconst (v := 0) hx hb dX11_possible_154 (by decide) ?_
            refine lv_iadd hx hb dX11_possible_155 ?_
            refine lv_istore_n (lv' := [(2, .int (y46_2 + (0 : Int32))), (5, .int (0 : Int32)), (0, .ref a_t), (1, .int x1), (3, .int y46_3), (4, .int y46_4)]) hx hb dX11_possible_156 rfl hl (by decide) rfl (fun ls hl => ?_)
            refine lv_iinc (v := (y46_4 + (1 : Int32))) (lv' := [(4, .int (y46_4 + (1 : Int32))), (2, .int (y46_2 + (0 : Int32))), (5, .int (0 : Int32)), (0, .ref a_t), (1, .int x1), (3, .int y46_3)]) hx hb dX11_possible_157 hl (k := 5) rfl rfl (by decide) rfl (fun ls hl => ?_)
            refine lv_goto (tgt := 46) hx hb dX11_possible_160 (by decide) ?_
            exact ih kf (y46_2 + (0 : Int32)) (y46_4 + (1 : Int32)) y46_t_detail q13 h kk H locs ls hH (lv_sub hl [3, 4, 1, 5, 0] rfl)
          · replace h := dc_neg c16 h
            refine lv_aload_n hx hb dX11_possible_98 rfl (lv_at hl 0 rfl) ?_
            refine lv_iload_n hx hb dX11_possible_99 rfl (lv_at hl 3 rfl) ?_
            refine lv_iload hx hb dX11_possible_100 (lv_at hl 4 rfl) ?_
            obtain ⟨q17, hqq17, h⟩ := dc_bind h
            refine gc_Vi (ws' := [(a_t, .inr (10, [v_t_thrown, .ref a_t_g, .ref a_t_ahead, .ref a_t_history, v_t_historyMany, .ref a_t_saved, v_t_hasSaved, .ref a_t_tape, v_t_taped, v_t_at, v_t_impossibleAt, v_t_letter, .ref a_t_numbers, .ref a_t_plan, .int q17.2.1, v_t_keptReason, v_t_keptDetail, v_t_above, v_t_below, v_t_bestAbove, v_t_bestBelow, .ref a_t_bestPlan, .ref a_t_sort, .ref a_t_size, .ref a_t_whole, .ref a_t_parts])), (a_t_g, .inl (k 0, 221, .inl t_g)), (a_t_plan, .inl (k 0, 12, .inl q17.2.2))]) (As := [.int y46_3, .int y46_4]) (rest := []) (n := 2) (ci := 10) (cq := (RX11, TX11, 26)) hTs ⟨hx, hb, hml, hown, hts⟩ (mX11_swaps l Ts hTs D k H.size a_t a_t_g a_t_ahead a_t_history a_t_saved a_t_tape a_t_numbers a_t_plan a_t_bestPlan a_t_sort a_t_size a_t_whole a_t_parts y46_t_detail t_g q13 v_t_above v_t_at v_t_below v_t_bestAbove v_t_bestBelow v_t_hasSaved v_t_historyMany v_t_impossibleAt v_t_keptDetail v_t_keptReason v_t_letter v_t_taped v_t_thrown y46_3 y46_4 q17 hqq17) u_ml_X11_170 u_im_X11_swaps u_se_X11_swaps u_in_X11 u_co_X11_swaps hd_X11_swaps ⟨Nat.le_of_ble_eq_true rfl, Nat.le_of_ble_eq_true rfl⟩ ⟨rfl, rfl⟩ hK hH hA (cutM (isC := [0, 2, 1]) [some 0, some 2, some 1] 3 rfl rfl rfl rfl rfl rfl rfl) rfl rfl rfl rfl hl.1 (Nat.le_of_ble_eq_true rfl) dX11_possible_102 ⟨Nat.le_of_ble_eq_true rfl, Nat.le_of_ble_eq_true rfl⟩ (fun H locs hH => ?_)
            refine lv_if_ne (tgt := 112) hx hb dX11_possible_105 (by decide) (fun c18 => ?_) (fun c18 => ?_)
            · replace h := dc_neg c18 h
              refine lv_iconst (v := 0) hx hb dX11_possible_112 (by decide) ?_
              refine lv_goto (tgt := 142) hx hb dX11_possible_113 (by decide) ?_
              refine lv_istore (lv' := [(5, .int (0 : Int32)), (0, .ref a_t), (1, .int x1), (2, .int y46_2), (3, .int y46_3), (4, .int y46_4)]) hx hb dX11_possible_142 hl (by decide) rfl (fun ls hl => ?_)
              refine lv_iload_n hx hb dX11_possible_144 rfl (lv_at hl 3 rfl) ?_
              refine lv_iload hx hb dX11_possible_145 (lv_at hl 0 rfl) ?_
              refine lv_if_eq (tgt := 154) hx hb dX11_possible_147 (by decide) (fun _ => ?_) (fun c => absurd c (by decide))
              refine lv_iconst (v := 0) hx hb dX11_possible_154 (by decide) ?_
              refine lv_iadd hx hb dX11_possible_155 ?_
              refine lv_istore_n (lv' := [(2, .int (y46_2 + (0 : Int32))), (5, .int (0 : Int32)), (0, .ref a_t), (1, .int x1), (3, .int y46_3), (4, .int y46_4)]) hx hb dX11_possible_156 rfl hl (by decide) rfl (fun ls hl => ?_)
              refine lv_iinc (v := (y46_4 + (1 : Int32))) (lv' := [(4, .int (y46_4 + (1 : Int32))), (2, .int (y46_2 + (0 : Int32))), (5, .int (0 : Int32)), (0, .ref a_t), (1, .int x1), (3, .int y46_3)]) hx hb dX11_possible_157 hl (k := 5) rfl rfl (by decide) rfl (fun ls hl => ?_)
              refine lv_goto (tgt := 46) hx hb dX11_possible_160 (by decide) ?_
              exact ih kf (y46_2 + (0 : Int32)) (y46_4 + (1 : Int32)) q17.2.1 q17.2.2 h kk H locs ls hH (lv_sub hl [3, 4, 1, 5, 0] rfl)
            · replace h := dc_pos c18 h
              refine lv_iconst (v := 1) hx hb dX11_possible_108 (by decide) ?_
              refine lv_goto (tgt := 142) hx hb dX11_possible_109 (by decide) ?_
              refine lv_istore (lv' := [(5, .int (1 : Int32)), (0, .ref a_t), (1, .int x1), (2, .int y46_2), (3, .int y46_3), (4, .int y46_4)]) hx hb dX11_possible_142 hl (by decide) rfl (fun ls hl => ?_)
              refine lv_iload_n hx hb dX11_possible_144 rfl (lv_at hl 3 rfl) ?_
              refine lv_iload hx hb dX11_possible_145 (lv_at hl 0 rfl) ?_
              refine lv_if_eq (tgt := 154) hx hb dX11_possible_147 (by decide) (fun c => absurd c (by decide)) (fun _ => ?_)
              refine lv_iconst (v := 1) hx hb dX11_possible_150 (by decide) ?_
              refine lv_goto (tgt := 155) hx hb dX11_possible_151 (by decide) ?_
              refine lv_iadd hx hb dX11_possible_155 ?_
              refine lv_istore_n (lv' := [(2, .int (y46_2 + (1 : Int32))), (5, .int (1 : Int32)), (0, .ref a_t), (1, .int x1), (3, .int y46_3), (4, .int y46_4)]) hx hb dX11_possible_156 rfl hl (by decide) rfl (fun ls hl => ?_)
              refine lv_iinc (v := (y46_4 + (1 : Int32))) (lv' := [(4, .int (y46_4 + (1 : Int32))), (2, .int (y46_2 + (1 : Int32))), (5, .int (1 : Int32)), (0, .ref a_t), (1, .int x1), (3, .int y46_3)]) hx hb dX11_possible_157 hl (k := 5) rfl rfl (by decide) rfl (fun ls hl => ?_)
              refine lv_goto (tgt := 46) hx hb dX11_possible_160 (by decide) ?_
              exact ih kf (y46_2 + (1 : Int32)) (y46_4 + (1 : Int32)) q17.2.1 q17.2.2 h kk H locs ls hH (lv_sub hl [3, 4, 1, 5, 0] rfl)
  have L21 : ∀ (n : Nat), ∀ (kf : Int32 → Int32 → (Nat → Int32) → Option (Int32 × Int32 × (Nat → Int32) × Int32)) (y21_2 : Int32) (y21_3 : Int32) (y21_t_detail : Int32) (y21_t_plan : Nat → Int32), fX11_possible_L21 t_g x1 n kf y21_2 y21_3 y21_t_detail y21_t_plan = some r → (∀ (z21_2 : Int32) (z21_t_detail : Int32) (z21_t_plan : Nat → Int32) (H : Heap) (locs : List Loc) (ls : Array Slot), kf z21_2 z21_t_detail z21_t_plan = some r → HOK D A s.heap [(a_t, .inr (10, [v_t_thrown, .ref a_t_g, .ref a_t_ahead, .ref a_t_history, v_t_historyMany, .ref a_t_saved, v_t_hasSaved, .ref a_t_tape, v_t_taped, v_t_at, v_t_impossibleAt, v_t_letter, .ref a_t_numbers, .ref a_t_plan, .int z21_t_detail, v_t_keptReason, v_t_keptDetail, v_t_above, v_t_below, v_t_bestAbove, v_t_bestBelow, .ref a_t_bestPlan, .ref a_t_sort, .ref a_t_size, .ref a_t_whole, .ref a_t_parts])), (a_t_g, .inl (k 0, 221, .inl t_g)), (a_t_plan, .inl (k 0, 12, .inl z21_t_plan))] H locs → lv_has ls 6 [(0, .ref a_t), (2, .int z21_2)] → W p l e ({ frames := 5, cells := 0, slots := 0, locals := 117 } : Room) s m (List.toArray [.ref a_t, .int x1]) below meth c H locs 0 0 Q (F0 m 169 ls [])) → ∀ (H : Heap) (locs : List Loc) (ls : Array Slot), HOK D A s.heap [(a_t, .inr (10, [v_t_thrown, .ref a_t_g, .ref a_t_ahead, .ref a_t_history, v_t_historyMany, .ref a_t_saved, v_t_hasSaved, .ref a_t_tape, v_t_taped, v_t_at, v_t_impossibleAt, v_t_letter, .ref a_t_numbers, .ref a_t_plan, .int y21_t_detail, v_t_keptReason, v_t_keptDetail, v_t_above, v_t_below, v_t_bestAbove, v_t_bestBelow, .ref a_t_bestPlan, .ref a_t_sort, .ref a_t_size, .ref a_t_whole, .ref a_t_parts])), (a_t_g, .inl (k 0, 221, .inl t_g)), (a_t_plan, .inl (k 0, 12, .inl y21_t_plan))] H locs → lv_has ls 6 [(0, .ref a_t), (1, .int x1), (2, .int y21_2), (3, .int y21_3)] → W p l e ({ frames := 5, cells := 0, slots := 0, locals := 117 } : Room) s m (List.toArray [.ref a_t, .int x1]) below meth c H locs 0 0 Q (F0 m 21 ls []) := by
    intro n
    induction n with
    | zero =>
      intro kf y21_2 y21_3 y21_t_detail y21_t_plan h
      exact absurd h (by rw [fX11_possible_L21]; exact fun q => by cases q)
    | succ n ih =>
      intro kf y21_2 y21_3 y21_t_detail y21_t_plan h kk H locs ls hH hl
      rw [fX11_possible_L21] at h
      refine lv_iload_n hx hb dX11_possible_21 rfl (lv_at hl 3 rfl) ?_
      refine lv_aload_n hx hb dX11_possible_22 rfl (lv_at hl 0 rfl) ?_
      refine gk_get (ci := 10) (C := RX11) (T := TX11) (N := 26) hx hb hts u_ws_X11 hown hK hH 0 rfl rfl 1 (by decide) u_fl_X11_7 rfl dX11_possible_23 ?_
      refine lv_sipush (v := 204) hx hb dX11_possible_26 (by decide) ?_
      refine gk_iald hx hb hK hH 1 rfl (dk_in (by decide)) dX11_possible_29 ?_
      refine lv_icmp_ge (tgt := 169) hx hb dX11_possible_30 (by decide) (fun c3 => ?_) (fun c3 => ?_)
      · replace h := dc_pos c3 h
        exact kk y21_2 y21_t_detail y21_t_plan H locs ls h hH (lv_sub hl [0, 2] rfl)
      · replace h := dc_neg c3 h
        refine lv_iload_n hx hb dX11_possible_33 rfl (lv_at hl 1 rfl) ?_
        refine lv_if_eq (tgt := 43) hx hb dX11_possible_34 (by decide) (fun c4 => ?_) (fun c4 => ?_)
        · replace h := dc_pos c4 h
          refine lv_iconst (v := 0) hx hb dX11_possible_43 (by decide) ?_
          refine lv_istore (lv' := [(4, .int (0 : Int32)), (0, .ref a_t), (1, .int x1), (2, .int y21_2), (3, .int y21_3)]) hx hb dX11_possible_44 hl (by decide) rfl (fun ls hl => ?_)
          refine L46 y21_3 _ _ y21_2 (0 : Int32) y21_t_detail y21_t_plan h (fun z46_2 z46_t_detail z46_t_plan H locs ls h hH hl => ?_) H locs ls hH (lv_sub hl [1, 2, 3, 4, 0] rfl)
          refine lv_iinc (v := (y21_3 + (1 : Int32))) (lv' := [(3, .int (y21_3 + (1 : Int32))), (0, .ref a_t), (1, .int x1), (2, .int z46_2)]) hx hb dX11_possible_163 hl (k := 3) rfl rfl (by decide) rfl (fun ls hl => ?_)
          refine lv_goto (tgt := 21) hx hb dX11_possible_166 (by decide) ?_
          exact ih kf z46_2 (y21_3 + (1 : Int32)) z46_t_detail z46_t_plan h kk H locs ls hH (lv_sub hl [1, 2, 3, 0] rfl)
        · replace h := dc_neg c4 h
          refine lv_iload_n hx hb dX11_possible_37 rfl (lv_at hl 3 rfl) ?_
          refine lv_iconst (v := 1) hx hb dX11_possible_38 (by decide) ?_
          refine lv_iadd hx hb dX11_possible_39 ?_
          refine lv_goto (tgt := 44) hx hb dX11_possible_40 (by decide) ?_
          refine lv_istore (lv' := [(4, .int (y21_3 + (1 : Int32))), (0, .ref a_t), (1, .int x1), (2, .int y21_2), (3, .int y21_3)]) hx hb dX11_possible_44 hl (by decide) rfl (fun ls hl => ?_)
          refine L46 y21_3 _ _ y21_2 (y21_3 + (1 : Int32)) y21_t_detail y21_t_plan h (fun z46_2 z46_t_detail z46_t_plan H locs ls h hH hl => ?_) H locs ls hH (lv_sub hl [1, 2, 3, 4, 0] rfl)
          refine lv_iinc (v := (y21_3 + (1 : Int32))) (lv' := [(3, .int (y21_3 + (1 : Int32))), (0, .ref a_t), (1, .int x1), (2, .int z46_2)]) hx hb dX11_possible_163 hl (k := 3) rfl rfl (by decide) rfl (fun ls hl => ?_)
          refine lv_goto (tgt := 21) hx hb dX11_possible_166 (by decide) ?_
          exact ih kf z46_2 (y21_3 + (1 : Int32)) z46_t_detail z46_t_plan h kk H locs ls hH (lv_sub hl [1, 2, 3, 0] rfl)
  rw [fX11_possible] at h
  refine lv_aload_n hx hb dX11_possible_0 rfl (lv_at hl 0 rfl) ?_
  refine gk_get (ci := 10) (C := RX11) (T := TX11) (N := 26) hx hb hts u_ws_X11 hown hK hH 0 rfl rfl 1 (by decide) u_fl_X11_7 rfl dX11_possible_1 ?_
  refine lv_sipush (v := 219) hx hb dX11_possible_4 (by decide) ?_
  refine gk_iald hx hb hK hH 1 rfl (dk_in (by decide)) dX11_possible_7 ?_
  refine lv_if_ne (tgt := 17) hx hb dX11_possible_8 (by decide) (fun c1 => ?_) (fun c1 => ?_)
  · replace h := dc_neg c1 h
    refine lv_iconst (v := 0) hx hb dX11_possible_17 (by decide) ?_
    refine lv_istore_n (lv' := [(2, .int (0 : Int32)), (0, .ref a_t), (1, .int x1)]) hx hb dX11_possible_18 rfl hl (by decide) rfl (fun ls hl => ?_)
    refine lv_iconst (v := 0) hx hb dX11_possible_19 (by decide) ?_
    refine lv_istore_n (lv' := [(3, .int (0 : Int32)), (2, .int (0 : Int32)), (0, .ref a_t), (1, .int x1)]) hx hb dX11_possible_20 rfl hl (by decide) rfl (fun ls hl => ?_)
    refine L21 _ _ (0 : Int32) (0 : Int32) t_detail t_plan h (fun z21_2 z21_t_detail z21_t_plan H locs ls h hH hl => ?_) H locs ls hH (lv_sub hl [2, 3, 1, 0] rfl)
    refine lv_aload_n hx hb dX11_possible_169 rfl (lv_at hl 0 rfl) ?_
    refine lv_iload_n hx hb dX11_possible_170 rfl (lv_at hl 1 rfl) ?_
    obtain ⟨q19, hqq19, h⟩ := dc_bind h
    refine gc_Vi (ws' := [(a_t, .inr (10, [.int q19.2, .ref a_t_g, .ref a_t_ahead, .ref a_t_history, v_t_historyMany, .ref a_t_saved, v_t_hasSaved, .ref a_t_tape, v_t_taped, v_t_at, v_t_impossibleAt, v_t_letter, .ref a_t_numbers, .ref a_t_plan, .int z21_t_detail, v_t_keptReason, v_t_keptDetail, v_t_above, v_t_below, v_t_bestAbove, v_t_bestBelow, .ref a_t_bestPlan, .ref a_t_sort, .ref a_t_size, .ref a_t_whole, .ref a_t_parts])), (a_t_g, .inl (k 0, 221, .inl t_g)), (a_t_plan, .inl (k 0, 12, .inl z21_t_plan))]) (As := [.int z21_2]) (rest := []) (n := 1) (ci := 10) (cq := (RX11, TX11, 26)) hTs ⟨hx, hb, hml, hown, hts⟩ (mX11_done l Ts hTs D k H.size a_t a_t_g a_t_ahead a_t_history a_t_saved a_t_tape a_t_numbers a_t_plan a_t_bestPlan a_t_sort a_t_size a_t_whole a_t_parts v_t_above v_t_at v_t_below v_t_bestAbove v_t_bestBelow (.int z21_t_detail) v_t_hasSaved v_t_historyMany v_t_impossibleAt v_t_keptDetail v_t_keptReason v_t_letter v_t_taped v_t_thrown z21_2 q19 hqq19) u_ml_X11_69 u_im_X11_done u_se_X11_done u_in_X11 u_co_X11_done hd_X11_done ⟨Nat.le_of_ble_eq_true rfl, Nat.le_of_ble_eq_true rfl⟩ ⟨rfl, rfl⟩ hK hH hA (cutM (isC := [0]) [some 0, none, none] 3 rfl rfl rfl rfl rfl rfl rfl) rfl rfl rfl rfl hl.1 (Nat.le_of_ble_eq_true rfl) dX11_possible_171 ⟨Nat.le_of_ble_eq_true rfl, Nat.le_of_ble_eq_true rfl⟩ (fun H locs hH => ?_)
    have h := Option.some.inj h
    subst h
    exact ge_i hx hb hr hlocks hQ hK hH hAe rfl dX11_possible_174
  · replace h := dc_pos c1 h
    refine lv_aload_n hx hb dX11_possible_11 rfl (lv_at hl 0 rfl) ?_
    refine lv_iconst (v := 1) hx hb dX11_possible_12 (by decide) ?_
    obtain ⟨q2, hqq2, h⟩ := dc_bind h
    refine gc_Vi (ws' := [(a_t, .inr (10, [.int q2.2, .ref a_t_g, .ref a_t_ahead, .ref a_t_history, v_t_historyMany, .ref a_t_saved, v_t_hasSaved, .ref a_t_tape, v_t_taped, v_t_at, v_t_impossibleAt, v_t_letter, .ref a_t_numbers, .ref a_t_plan, .int t_detail, v_t_keptReason, v_t_keptDetail, v_t_above, v_t_below, v_t_bestAbove, v_t_bestBelow, .ref a_t_bestPlan, .ref a_t_sort, .ref a_t_size, .ref a_t_whole, .ref a_t_parts])), (a_t_g, .inl (k 0, 221, .inl t_g)), (a_t_plan, .inl (k 0, 12, .inl t_plan))]) (As := [.int (1 : Int32)]) (rest := []) (n := 1) (ci := 10) (cq := (RX11, TX11, 26)) hTs ⟨hx, hb, hml, hown, hts⟩ (mX11_fails l Ts hTs D k H.size a_t a_t_g a_t_ahead a_t_history a_t_saved a_t_tape a_t_numbers a_t_plan a_t_bestPlan a_t_sort a_t_size a_t_whole a_t_parts v_t_above v_t_at v_t_below v_t_bestAbove v_t_bestBelow (.int t_detail) v_t_hasSaved v_t_historyMany v_t_impossibleAt v_t_keptDetail v_t_keptReason v_t_letter v_t_taped v_t_thrown (1 : Int32) q2 hqq2) u_ml_X11_65 u_im_X11_fails u_se_X11_fails u_in_X11 u_co_X11_fails hd_X11_fails ⟨Nat.le_of_ble_eq_true rfl, Nat.le_of_ble_eq_true rfl⟩ ⟨rfl, rfl⟩ hK hH hA (cutM (isC := [0]) [some 0, none, none] 3 rfl rfl rfl rfl rfl rfl rfl) rfl rfl rfl rfl hl.1 (Nat.le_of_ble_eq_true rfl) dX11_possible_13 ⟨Nat.le_of_ble_eq_true rfl, Nat.le_of_ble_eq_true rfl⟩ (fun H locs hH => ?_)
    have h := Option.some.inj h
    subst h
    exact ge_i hx hb hr hlocks hQ hK hH hAe rfl dX11_possible_16
theorem hd_X11_isSmall : yX11_isSmall.cls = RX11 ∧ yX11_isSmall.cls ≠ "java/lang/invoke/MethodHandle" ∧ yX11_isSmall.cls ≠ "java/lang/invoke/VarHandle" ∧ (parseMethodDescriptor yX11_isSmall.desc).map (fun d => d.parameters.length) = some 0 := by decide +kernel
set_option maxHeartbeats 4000000 in
set_option maxRecDepth 100000 in
theorem mX11_isSmall (l : Launch) (Ts : List Cond) (hTs : ∀ w, w ∈ Ts ↔ w ∈ uT) (D : va_G) (k : Nat → ClassId) (sz : Nat) (a_t : Nat) (a_t_g : Nat) (a_t_ahead : Nat) (a_t_history : Nat) (a_t_saved : Nat) (a_t_tape : Nat) (a_t_numbers : Nat) (a_t_plan : Nat) (a_t_bestPlan : Nat) (a_t_sort : Nat) (a_t_size : Nat) (a_t_whole : Nat) (a_t_parts : Nat) (t_g : Nat → Int32) (v_t_above : Value) (v_t_at : Value) (v_t_below : Value) (v_t_bestAbove : Value) (v_t_bestBelow : Value) (v_t_detail : Value) (v_t_hasSaved : Value) (v_t_historyMany : Value) (v_t_impossibleAt : Value) (v_t_keptDetail : Value) (v_t_keptReason : Value) (v_t_letter : Value) (v_t_taped : Value) (v_t_thrown : Value) (r : Int32) (h : fX11_isSmall t_g = some r) : Met l yX11_isSmall (Cond.code yX11_isSmall cX11_isSmall 1 (some .boolean) :: Ts) ({ frames := 1, cells := 0, slots := 0, locals := 22 } : Room) (preM D k [.ref a_t] [(a_t, .inr (10, [v_t_thrown, .ref a_t_g, .ref a_t_ahead, .ref a_t_history, v_t_historyMany, .ref a_t_saved, v_t_hasSaved, .ref a_t_tape, v_t_taped, v_t_at, v_t_impossibleAt, v_t_letter, .ref a_t_numbers, .ref a_t_plan, v_t_detail, v_t_keptReason, v_t_keptDetail, v_t_above, v_t_below, v_t_bestAbove, v_t_bestBelow, .ref a_t_bestPlan, .ref a_t_sort, .ref a_t_size, .ref a_t_whole, .ref a_t_parts])), (a_t_g, .inl (k 0, 221, .inl t_g))] sz) (postI D k r [(a_t, .inr (10, [v_t_thrown, .ref a_t_g, .ref a_t_ahead, .ref a_t_history, v_t_historyMany, .ref a_t_saved, v_t_hasSaved, .ref a_t_tape, v_t_taped, v_t_at, v_t_impossibleAt, v_t_letter, .ref a_t_numbers, .ref a_t_plan, v_t_detail, v_t_keptReason, v_t_keptDetail, v_t_above, v_t_below, v_t_bestAbove, v_t_bestBelow, .ref a_t_bestPlan, .ref a_t_sort, .ref a_t_size, .ref a_t_whole, .ref a_t_parts])), (a_t_g, .inl (k 0, 221, .inl t_g))] [(a_t, .inr (10, [v_t_thrown, .ref a_t_g, .ref a_t_ahead, .ref a_t_history, v_t_historyMany, .ref a_t_saved, v_t_hasSaved, .ref a_t_tape, v_t_taped, v_t_at, v_t_impossibleAt, v_t_letter, .ref a_t_numbers, .ref a_t_plan, v_t_detail, v_t_keptReason, v_t_keptDetail, v_t_above, v_t_below, v_t_bestAbove, v_t_bestBelow, .ref a_t_bestPlan, .ref a_t_sort, .ref a_t_size, .ref a_t_whole, .ref a_t_parts])), (a_t_g, .inl (k 0, 221, .inl t_g))] sz) 0 0 (va_A [(a_t, .inr (10, [v_t_thrown, .ref a_t_g, .ref a_t_ahead, .ref a_t_history, v_t_historyMany, .ref a_t_saved, v_t_hasSaved, .ref a_t_tape, v_t_taped, v_t_at, v_t_impossibleAt, v_t_letter, .ref a_t_numbers, .ref a_t_plan, v_t_detail, v_t_keptReason, v_t_keptDetail, v_t_above, v_t_below, v_t_bestAbove, v_t_bestBelow, .ref a_t_bestPlan, .ref a_t_sort, .ref a_t_size, .ref a_t_whole, .ref a_t_parts])), (a_t_g, .inl (k 0, 221, .inl t_g))] sz) := by
  refine Met.ofW (cc := cX11_isSmall) (maxL := 1) (ret := (some .boolean)) (by decide) rfl ?_
  intro p e s m args below meth c s₁ B hml hv
  obtain ⟨rfl, hsz, hP, hK, hD0⟩ := hv
  have hx := B.exec
  have hb := B.bytes
  have hr := B.returns
  have hts0 := atoms_spec (ws := (Cond.code yX11_isSmall cX11_isSmall 1 (some .boolean) :: Ts)) B.pre
  have hts : ∀ w ∈ uT, w.before _ s = true := fun w h => hts0 w (List.mem_cons_of_mem _ ((hTs w).mpr h))
  clear hts0
  have hown : s.vm.findClass RX11 = some m.cls := findClass_of_methodNamed B.named
  have hlocks := B.notSynchronized
  subst hsz
  have hD := hD0.self (sz := s.heap.size)
  generalize hAe : va_A [(a_t, .inr (10, [v_t_thrown, .ref a_t_g, .ref a_t_ahead, .ref a_t_history, v_t_historyMany, .ref a_t_saved, v_t_hasSaved, .ref a_t_tape, v_t_taped, v_t_at, v_t_impossibleAt, v_t_letter, .ref a_t_numbers, .ref a_t_plan, v_t_detail, v_t_keptReason, v_t_keptDetail, v_t_above, v_t_below, v_t_bestAbove, v_t_bestBelow, .ref a_t_bestPlan, .ref a_t_sort, .ref a_t_size, .ref a_t_whole, .ref a_t_parts])), (a_t_g, .inl (k 0, 221, .inl t_g))] s.heap.size = A at hD ⊢
  have hA : ∀ q : Nat, s.heap.size ≤ q → A q := fun q h => by rw [← hAe]; exact Or.inr h
  have hH : HOK D A s.heap [(a_t, .inr (10, [v_t_thrown, .ref a_t_g, .ref a_t_ahead, .ref a_t_history, v_t_historyMany, .ref a_t_saved, v_t_hasSaved, .ref a_t_tape, v_t_taped, v_t_at, v_t_impossibleAt, v_t_letter, .ref a_t_numbers, .ref a_t_plan, v_t_detail, v_t_keptReason, v_t_keptDetail, v_t_above, v_t_below, v_t_bestAbove, v_t_bestBelow, .ref a_t_bestPlan, .ref a_t_sort, .ref a_t_size, .ref a_t_whole, .ref a_t_parts])), (a_t_g, .inl (k 0, 221, .inl t_g))] s.heap [] := ⟨hP, hD, va_S.rf⟩
  have hl := lv_entry ([.ref a_t]) (n := 1) (Nat.le_of_ble_eq_true rfl)
  rw [lg_entry_eq]
  generalize (lg_sl ([.ref a_t]) ++ List.replicate (1 - (lg_sl ([.ref a_t])).length) Slot.unset).toArray = ls at hl ⊢
  have hl : lv_has ls 1 [(0, .ref a_t)] := hl
  generalize hQ : MQ below (postI D k r [(a_t, .inr (10, [v_t_thrown, .ref a_t_g, .ref a_t_ahead, .ref a_t_history, v_t_historyMany, .ref a_t_saved, v_t_hasSaved, .ref a_t_tape, v_t_taped, v_t_at, v_t_impossibleAt, v_t_letter, .ref a_t_numbers, .ref a_t_plan, v_t_detail, v_t_keptReason, v_t_keptDetail, v_t_above, v_t_below, v_t_bestAbove, v_t_bestBelow, .ref a_t_bestPlan, .ref a_t_sort, .ref a_t_size, .ref a_t_whole, .ref a_t_parts])), (a_t_g, .inl (k 0, 221, .inl t_g))] [(a_t, .inr (10, [v_t_thrown, .ref a_t_g, .ref a_t_ahead, .ref a_t_history, v_t_historyMany, .ref a_t_saved, v_t_hasSaved, .ref a_t_tape, v_t_taped, v_t_at, v_t_impossibleAt, v_t_letter, .ref a_t_numbers, .ref a_t_plan, v_t_detail, v_t_keptReason, v_t_keptDetail, v_t_above, v_t_below, v_t_bestAbove, v_t_bestBelow, .ref a_t_bestPlan, .ref a_t_sort, .ref a_t_size, .ref a_t_whole, .ref a_t_parts])), (a_t_g, .inl (k 0, 221, .inl t_g))] s.heap.size) (List.toArray [.ref a_t]) s 0 0 A = Q
  clear hP hD hD0
  suffices K : ∀ (H : Heap) (locs : List Loc), HOK D A s.heap [(a_t, .inr (10, [v_t_thrown, .ref a_t_g, .ref a_t_ahead, .ref a_t_history, v_t_historyMany, .ref a_t_saved, v_t_hasSaved, .ref a_t_tape, v_t_taped, v_t_at, v_t_impossibleAt, v_t_letter, .ref a_t_numbers, .ref a_t_plan, v_t_detail, v_t_keptReason, v_t_keptDetail, v_t_above, v_t_below, v_t_bestAbove, v_t_bestBelow, .ref a_t_bestPlan, .ref a_t_sort, .ref a_t_size, .ref a_t_whole, .ref a_t_parts])), (a_t_g, .inl (k 0, 221, .inl t_g))] H locs → W p l e ({ frames := 1, cells := 0, slots := 0, locals := 22 } : Room) s m (List.toArray [.ref a_t]) below meth c H locs 0 0 Q (F0 m 0 ls []) from K s.heap [] hH
  intro H locs hH
  rw [fX11_isSmall] at h
  refine lv_aload_n hx hb dX11_isSmall_0 rfl (lv_at hl 0 rfl) ?_
  refine gk_get (ci := 10) (C := RX11) (T := TX11) (N := 26) hx hb hts u_ws_X11 hown hK hH 0 rfl rfl 1 (by decide) u_fl_X11_7 rfl dX11_isSmall_1 ?_
  refine lv_sipush (v := 204) hx hb dX11_isSmall_4 (by decide) ?_
  refine gk_iald hx hb hK hH 1 rfl (dk_in (by decide)) dX11_isSmall_7 ?_
  refine lv_iconst (v := 1) hx hb dX11_isSmall_8 (by decide) ?_
  refine lv_bipush (v := 9) hx hb dX11_isSmall_9 (by decide) ?_
  obtain ⟨q1, hqq1, h⟩ := dc_bind h
  refine gc_Si (ws' := [(a_t, .inr (10, [v_t_thrown, .ref a_t_g, .ref a_t_ahead, .ref a_t_history, v_t_historyMany, .ref a_t_saved, v_t_hasSaved, .ref a_t_tape, v_t_taped, v_t_at, v_t_impossibleAt, v_t_letter, .ref a_t_numbers, .ref a_t_plan, v_t_detail, v_t_keptReason, v_t_keptDetail, v_t_above, v_t_below, v_t_bestAbove, v_t_bestBelow, .ref a_t_bestPlan, .ref a_t_sort, .ref a_t_size, .ref a_t_whole, .ref a_t_parts])), (a_t_g, .inl (k 0, 221, .inl t_g))]) (As := [.int (t_g (204 : Int32).toNatClampNeg), .int (1 : Int32), .int (9 : Int32)]) (rest := []) (n := 3) hTs ⟨hx, hb, hml, hown, hts⟩ (mX11_in l Ts hTs D k H.size (t_g (204 : Int32).toNatClampNeg) (1 : Int32) (9 : Int32) q1 hqq1) u_ml_X11_55 u_st_X11_in u_in_X11 u_co_X11_in hd_X11_in ⟨Nat.le_of_ble_eq_true rfl, Nat.le_of_ble_eq_true rfl⟩ ⟨rfl, rfl⟩ hK hH hA (cut0 (isC := []) rfl rfl rfl) rfl rfl hl.1 (Nat.le_of_ble_eq_true rfl) dX11_isSmall_11 ⟨Nat.le_of_ble_eq_true rfl, Nat.le_of_ble_eq_true rfl⟩ (fun H locs hH => ?_)
  obtain ⟨g2, h⟩ := dc_need h
  have h := Option.some.inj h
  subst h
  exact ge_z hx hb hr (dk_bit g2).1 hlocks hQ hK hH hAe rfl dX11_isSmall_14
theorem hd_X11_begins : yX11_begins.cls = RX11 ∧ yX11_begins.cls ≠ "java/lang/invoke/MethodHandle" ∧ yX11_begins.cls ≠ "java/lang/invoke/VarHandle" ∧ (parseMethodDescriptor yX11_begins.desc).map (fun d => d.parameters.length) = some 0 := by decide +kernel
set_option maxHeartbeats 4000000 in
set_option maxRecDepth 100000 in
theorem mX11_begins (l : Launch) (Ts : List Cond) (hTs : ∀ w, w ∈ Ts ↔ w ∈ uT) (D : va_G) (k : Nat → ClassId) (sz : Nat) (a_t : Nat) (a_t_g : Nat) (a_t_ahead : Nat) (a_t_history : Nat) (a_t_saved : Nat) (a_t_tape : Nat) (a_t_numbers : Nat) (a_t_plan : Nat) (a_t_bestPlan : Nat) (a_t_sort : Nat) (a_t_size : Nat) (a_t_whole : Nat) (a_t_parts : Nat) (t_plan : Nat → Int32) (v_t_above : Value) (v_t_at : Value) (v_t_below : Value) (v_t_bestAbove : Value) (v_t_bestBelow : Value) (v_t_detail : Value) (v_t_hasSaved : Value) (v_t_historyMany : Value) (v_t_impossibleAt : Value) (v_t_keptDetail : Value) (v_t_keptReason : Value) (v_t_letter : Value) (v_t_taped : Value) (v_t_thrown : Value) (r : (Nat → Int32)) (h : fX11_begins t_plan = some r) : Met l yX11_begins (Cond.code yX11_begins cX11_begins 2 none :: Ts) ({ frames := 0, cells := 0, slots := 0, locals := 0 } : Room) (preM D k [.ref a_t] [(a_t, .inr (10, [v_t_thrown, .ref a_t_g, .ref a_t_ahead, .ref a_t_history, v_t_historyMany, .ref a_t_saved, v_t_hasSaved, .ref a_t_tape, v_t_taped, v_t_at, v_t_impossibleAt, v_t_letter, .ref a_t_numbers, .ref a_t_plan, v_t_detail, v_t_keptReason, v_t_keptDetail, v_t_above, v_t_below, v_t_bestAbove, v_t_bestBelow, .ref a_t_bestPlan, .ref a_t_sort, .ref a_t_size, .ref a_t_whole, .ref a_t_parts])), (a_t_plan, .inl (k 0, 12, .inl t_plan))] sz) (postV D k [(a_t, .inr (10, [v_t_thrown, .ref a_t_g, .ref a_t_ahead, .ref a_t_history, v_t_historyMany, .ref a_t_saved, v_t_hasSaved, .ref a_t_tape, v_t_taped, v_t_at, v_t_impossibleAt, v_t_letter, .ref a_t_numbers, .ref a_t_plan, v_t_detail, v_t_keptReason, v_t_keptDetail, v_t_above, v_t_below, v_t_bestAbove, v_t_bestBelow, .ref a_t_bestPlan, .ref a_t_sort, .ref a_t_size, .ref a_t_whole, .ref a_t_parts])), (a_t_plan, .inl (k 0, 12, .inl t_plan))] [(a_t, .inr (10, [v_t_thrown, .ref a_t_g, .ref a_t_ahead, .ref a_t_history, v_t_historyMany, .ref a_t_saved, v_t_hasSaved, .ref a_t_tape, v_t_taped, v_t_at, v_t_impossibleAt, v_t_letter, .ref a_t_numbers, .ref a_t_plan, v_t_detail, v_t_keptReason, v_t_keptDetail, v_t_above, v_t_below, v_t_bestAbove, v_t_bestBelow, .ref a_t_bestPlan, .ref a_t_sort, .ref a_t_size, .ref a_t_whole, .ref a_t_parts])), (a_t_plan, .inl (k 0, 12, .inl r))] sz) 0 0 (va_A [(a_t, .inr (10, [v_t_thrown, .ref a_t_g, .ref a_t_ahead, .ref a_t_history, v_t_historyMany, .ref a_t_saved, v_t_hasSaved, .ref a_t_tape, v_t_taped, v_t_at, v_t_impossibleAt, v_t_letter, .ref a_t_numbers, .ref a_t_plan, v_t_detail, v_t_keptReason, v_t_keptDetail, v_t_above, v_t_below, v_t_bestAbove, v_t_bestBelow, .ref a_t_bestPlan, .ref a_t_sort, .ref a_t_size, .ref a_t_whole, .ref a_t_parts])), (a_t_plan, .inl (k 0, 12, .inl t_plan))] sz) := by
  refine Met.ofW (cc := cX11_begins) (maxL := 2) (ret := none) (by decide) rfl ?_
  intro p e s m args below meth c s₁ B hml hv
  obtain ⟨rfl, hsz, hP, hK, hD0⟩ := hv
  have hx := B.exec
  have hb := B.bytes
  have hr := B.returns
  have hts0 := atoms_spec (ws := (Cond.code yX11_begins cX11_begins 2 none :: Ts)) B.pre
  have hts : ∀ w ∈ uT, w.before _ s = true := fun w h => hts0 w (List.mem_cons_of_mem _ ((hTs w).mpr h))
  clear hts0
  have hown : s.vm.findClass RX11 = some m.cls := findClass_of_methodNamed B.named
  have hlocks := B.notSynchronized
  subst hsz
  have hD := hD0.self (sz := s.heap.size)
  generalize hAe : va_A [(a_t, .inr (10, [v_t_thrown, .ref a_t_g, .ref a_t_ahead, .ref a_t_history, v_t_historyMany, .ref a_t_saved, v_t_hasSaved, .ref a_t_tape, v_t_taped, v_t_at, v_t_impossibleAt, v_t_letter, .ref a_t_numbers, .ref a_t_plan, v_t_detail, v_t_keptReason, v_t_keptDetail, v_t_above, v_t_below, v_t_bestAbove, v_t_bestBelow, .ref a_t_bestPlan, .ref a_t_sort, .ref a_t_size, .ref a_t_whole, .ref a_t_parts])), (a_t_plan, .inl (k 0, 12, .inl t_plan))] s.heap.size = A at hD ⊢
  have hA : ∀ q : Nat, s.heap.size ≤ q → A q := fun q h => by rw [← hAe]; exact Or.inr h
  have hH : HOK D A s.heap [(a_t, .inr (10, [v_t_thrown, .ref a_t_g, .ref a_t_ahead, .ref a_t_history, v_t_historyMany, .ref a_t_saved, v_t_hasSaved, .ref a_t_tape, v_t_taped, v_t_at, v_t_impossibleAt, v_t_letter, .ref a_t_numbers, .ref a_t_plan, v_t_detail, v_t_keptReason, v_t_keptDetail, v_t_above, v_t_below, v_t_bestAbove, v_t_bestBelow, .ref a_t_bestPlan, .ref a_t_sort, .ref a_t_size, .ref a_t_whole, .ref a_t_parts])), (a_t_plan, .inl (k 0, 12, .inl t_plan))] s.heap [] := ⟨hP, hD, va_S.rf⟩
  have hl := lv_entry ([.ref a_t]) (n := 2) (Nat.le_of_ble_eq_true rfl)
  rw [lg_entry_eq]
  generalize (lg_sl ([.ref a_t]) ++ List.replicate (2 - (lg_sl ([.ref a_t])).length) Slot.unset).toArray = ls at hl ⊢
  have hl : lv_has ls 2 [(0, .ref a_t)] := hl
  generalize hQ : MQ below (postV D k [(a_t, .inr (10, [v_t_thrown, .ref a_t_g, .ref a_t_ahead, .ref a_t_history, v_t_historyMany, .ref a_t_saved, v_t_hasSaved, .ref a_t_tape, v_t_taped, v_t_at, v_t_impossibleAt, v_t_letter, .ref a_t_numbers, .ref a_t_plan, v_t_detail, v_t_keptReason, v_t_keptDetail, v_t_above, v_t_below, v_t_bestAbove, v_t_bestBelow, .ref a_t_bestPlan, .ref a_t_sort, .ref a_t_size, .ref a_t_whole, .ref a_t_parts])), (a_t_plan, .inl (k 0, 12, .inl t_plan))] [(a_t, .inr (10, [v_t_thrown, .ref a_t_g, .ref a_t_ahead, .ref a_t_history, v_t_historyMany, .ref a_t_saved, v_t_hasSaved, .ref a_t_tape, v_t_taped, v_t_at, v_t_impossibleAt, v_t_letter, .ref a_t_numbers, .ref a_t_plan, v_t_detail, v_t_keptReason, v_t_keptDetail, v_t_above, v_t_below, v_t_bestAbove, v_t_bestBelow, .ref a_t_bestPlan, .ref a_t_sort, .ref a_t_size, .ref a_t_whole, .ref a_t_parts])), (a_t_plan, .inl (k 0, 12, .inl r))] s.heap.size) (List.toArray [.ref a_t]) s 0 0 A = Q
  clear hP hD hD0
  suffices K : ∀ (H : Heap) (locs : List Loc), HOK D A s.heap [(a_t, .inr (10, [v_t_thrown, .ref a_t_g, .ref a_t_ahead, .ref a_t_history, v_t_historyMany, .ref a_t_saved, v_t_hasSaved, .ref a_t_tape, v_t_taped, v_t_at, v_t_impossibleAt, v_t_letter, .ref a_t_numbers, .ref a_t_plan, v_t_detail, v_t_keptReason, v_t_keptDetail, v_t_above, v_t_below, v_t_bestAbove, v_t_bestBelow, .ref a_t_bestPlan, .ref a_t_sort, .ref a_t_size, .ref a_t_whole, .ref a_t_parts])), (a_t_plan, .inl (k 0, 12, .inl t_plan))] H locs → W p l e ({ frames := 0, cells := 0, slots := 0, locals := 0 } : Room) s m (List.toArray [.ref a_t]) below meth c H locs 0 0 Q (F0 m 0 ls []) from K s.heap [] hH
  intro H locs hH
  have L2 : ∀ (n : Nat), ∀ (kf : (Nat → Int32) → Option ((Nat → Int32))) (y2_1 : Int32) (y2_t_plan : Nat → Int32), fX11_begins_L2 n kf y2_1 y2_t_plan = some r → (∀ (z2_t_plan : Nat → Int32) (H : Heap) (locs : List Loc) (ls : Array Slot), kf z2_t_plan = some r → HOK D A s.heap [(a_t, .inr (10, [v_t_thrown, .ref a_t_g, .ref a_t_ahead, .ref a_t_history, v_t_historyMany, .ref a_t_saved, v_t_hasSaved, .ref a_t_tape, v_t_taped, v_t_at, v_t_impossibleAt, v_t_letter, .ref a_t_numbers, .ref a_t_plan, v_t_detail, v_t_keptReason, v_t_keptDetail, v_t_above, v_t_below, v_t_bestAbove, v_t_bestBelow, .ref a_t_bestPlan, .ref a_t_sort, .ref a_t_size, .ref a_t_whole, .ref a_t_parts])), (a_t_plan, .inl (k 0, 12, .inl z2_t_plan))] H locs → lv_has ls 2 [] → W p l e ({ frames := 0, cells := 0, slots := 0, locals := 0 } : Room) s m (List.toArray [.ref a_t]) below meth c H locs 0 0 Q (F0 m 21 ls [])) → ∀ (H : Heap) (locs : List Loc) (ls : Array Slot), HOK D A s.heap [(a_t, .inr (10, [v_t_thrown, .ref a_t_g, .ref a_t_ahead, .ref a_t_history, v_t_historyMany, .ref a_t_saved, v_t_hasSaved, .ref a_t_tape, v_t_taped, v_t_at, v_t_impossibleAt, v_t_letter, .ref a_t_numbers, .ref a_t_plan, v_t_detail, v_t_keptReason, v_t_keptDetail, v_t_above, v_t_below, v_t_bestAbove, v_t_bestBelow, .ref a_t_bestPlan, .ref a_t_sort, .ref a_t_size, .ref a_t_whole, .ref a_t_parts])), (a_t_plan, .inl (k 0, 12, .inl y2_t_plan))] H locs → lv_has ls 2 [(0, .ref a_t), (1, .int y2_1)] → W p l e ({ frames := 0, cells := 0, slots := 0, locals := 0 } : Room) s m (List.toArray [.ref a_t]) below meth c H locs 0 0 Q (F0 m 2 ls []) := by
    intro n
    induction n with
    | zero =>
      intro kf y2_1 y2_t_plan h
      exact absurd h (by rw [fX11_begins_L2]; exact fun q => by cases q)
    | succ n ih =>
      intro kf y2_1 y2_t_plan h kk H locs ls hH hl
      rw [fX11_begins_L2] at h
      refine lv_iload_n hx hb dX11_begins_2 rfl (lv_at hl 1 rfl) ?_
      refine lv_bipush (v := 12) hx hb dX11_begins_3 (by decide) ?_
      refine lv_icmp_ge (tgt := 21) hx hb dX11_begins_5 (by decide) (fun c1 => ?_) (fun c1 => ?_)
      · replace h := dc_pos c1 h
        exact kk y2_t_plan H locs ls h hH (lv_sub hl [] rfl)
      · replace h := dc_neg c1 h
        refine lv_aload_n hx hb dX11_begins_8 rfl (lv_at hl 0 rfl) ?_
        refine gk_get (ci := 10) (C := RX11) (T := TX11) (N := 26) hx hb hts u_ws_X11 hown hK hH 0 rfl rfl 13 (by decide) u_fl_X11_33 rfl dX11_begins_9 ?_
        refine lv_iload_n hx hb dX11_begins_12 rfl (lv_at hl 1 rfl) ?_
        refine lv_iconst (v := 0) hx hb dX11_begins_13 (by decide) ?_
        obtain ⟨g2, h⟩ := dc_need h
        refine gk_iast hx hb hK hH 1 rfl (dk_in g2) dX11_begins_14 [(a_t, .inr (10, [v_t_thrown, .ref a_t_g, .ref a_t_ahead, .ref a_t_history, v_t_historyMany, .ref a_t_saved, v_t_hasSaved, .ref a_t_tape, v_t_taped, v_t_at, v_t_impossibleAt, v_t_letter, .ref a_t_numbers, .ref a_t_plan, v_t_detail, v_t_keptReason, v_t_keptDetail, v_t_above, v_t_below, v_t_bestAbove, v_t_bestBelow, .ref a_t_bestPlan, .ref a_t_sort, .ref a_t_size, .ref a_t_whole, .ref a_t_parts])), (a_t_plan, .inl (k 0, 12, .inl (upd y2_t_plan y2_1.toNatClampNeg (0 : Int32))))] rfl (fun H locs hH => ?_)
        refine lv_iinc (v := (y2_1 + (1 : Int32))) (lv' := [(1, .int (y2_1 + (1 : Int32))), (0, .ref a_t)]) hx hb dX11_begins_15 hl (k := 1) rfl rfl (by decide) rfl (fun ls hl => ?_)
        refine lv_goto (tgt := 2) hx hb dX11_begins_18 (by decide) ?_
        exact ih kf (y2_1 + (1 : Int32)) (upd y2_t_plan y2_1.toNatClampNeg (0 : Int32)) h kk H locs ls hH (lv_sub hl [1, 0] rfl)
  rw [fX11_begins] at h
  refine lv_iconst (v := 0) hx hb dX11_begins_0 (by decide) ?_
  refine lv_istore_n (lv' := [(1, .int (0 : Int32)), (0, .ref a_t)]) hx hb dX11_begins_1 rfl hl (by decide) rfl (fun ls hl => ?_)
  refine L2 _ _ (0 : Int32) t_plan h (fun z2_t_plan H locs ls h hH hl => ?_) H locs ls hH (lv_sub hl [1, 0] rfl)
  have h := Option.some.inj h
  subst h
  exact ge_v hx hb hr hlocks hQ hK hH hAe dX11_begins_21
theorem hd_X11_goesOn : yX11_goesOn.cls = RX11 ∧ yX11_goesOn.cls ≠ "java/lang/invoke/MethodHandle" ∧ yX11_goesOn.cls ≠ "java/lang/invoke/VarHandle" ∧ (parseMethodDescriptor yX11_goesOn.desc).map (fun d => d.parameters.length) = some 0 := by decide +kernel
set_option maxHeartbeats 4000000 in
set_option maxRecDepth 100000 in
theorem mX11_goesOn (l : Launch) (Ts : List Cond) (hTs : ∀ w, w ∈ Ts ↔ w ∈ uT) (D : va_G) (k : Nat → ClassId) (sz : Nat) (a_t : Nat) (a_t_g : Nat) (a_t_ahead : Nat) (a_t_history : Nat) (a_t_saved : Nat) (a_t_tape : Nat) (a_t_numbers : Nat) (a_t_plan : Nat) (a_t_bestPlan : Nat) (a_t_sort : Nat) (a_t_size : Nat) (a_t_whole : Nat) (a_t_parts : Nat) (t_g : Nat → Int32) (t_plan : Nat → Int32) (v_t_above : Value) (v_t_at : Value) (v_t_below : Value) (v_t_bestAbove : Value) (v_t_bestBelow : Value) (v_t_detail : Value) (v_t_hasSaved : Value) (v_t_historyMany : Value) (v_t_impossibleAt : Value) (v_t_keptDetail : Value) (v_t_keptReason : Value) (v_t_letter : Value) (v_t_taped : Value) (v_t_thrown : Value) (r : Int32 × (Nat → Int32)) (h : fX11_goesOn t_g t_plan = some r) : Met l yX11_goesOn (Cond.code yX11_goesOn cX11_goesOn 4 (some .boolean) :: Ts) ({ frames := 0, cells := 0, slots := 0, locals := 0 } : Room) (preM D k [.ref a_t] [(a_t, .inr (10, [v_t_thrown, .ref a_t_g, .ref a_t_ahead, .ref a_t_history, v_t_historyMany, .ref a_t_saved, v_t_hasSaved, .ref a_t_tape, v_t_taped, v_t_at, v_t_impossibleAt, v_t_letter, .ref a_t_numbers, .ref a_t_plan, v_t_detail, v_t_keptReason, v_t_keptDetail, v_t_above, v_t_below, v_t_bestAbove, v_t_bestBelow, .ref a_t_bestPlan, .ref a_t_sort, .ref a_t_size, .ref a_t_whole, .ref a_t_parts])), (a_t_g, .inl (k 0, 221, .inl t_g)), (a_t_plan, .inl (k 0, 12, .inl t_plan))] sz) (postI D k r.1 [(a_t, .inr (10, [v_t_thrown, .ref a_t_g, .ref a_t_ahead, .ref a_t_history, v_t_historyMany, .ref a_t_saved, v_t_hasSaved, .ref a_t_tape, v_t_taped, v_t_at, v_t_impossibleAt, v_t_letter, .ref a_t_numbers, .ref a_t_plan, v_t_detail, v_t_keptReason, v_t_keptDetail, v_t_above, v_t_below, v_t_bestAbove, v_t_bestBelow, .ref a_t_bestPlan, .ref a_t_sort, .ref a_t_size, .ref a_t_whole, .ref a_t_parts])), (a_t_g, .inl (k 0, 221, .inl t_g)), (a_t_plan, .inl (k 0, 12, .inl t_plan))] [(a_t, .inr (10, [v_t_thrown, .ref a_t_g, .ref a_t_ahead, .ref a_t_history, v_t_historyMany, .ref a_t_saved, v_t_hasSaved, .ref a_t_tape, v_t_taped, v_t_at, v_t_impossibleAt, v_t_letter, .ref a_t_numbers, .ref a_t_plan, v_t_detail, v_t_keptReason, v_t_keptDetail, v_t_above, v_t_below, v_t_bestAbove, v_t_bestBelow, .ref a_t_bestPlan, .ref a_t_sort, .ref a_t_size, .ref a_t_whole, .ref a_t_parts])), (a_t_g, .inl (k 0, 221, .inl t_g)), (a_t_plan, .inl (k 0, 12, .inl r.2))] sz) 0 0 (va_A [(a_t, .inr (10, [v_t_thrown, .ref a_t_g, .ref a_t_ahead, .ref a_t_history, v_t_historyMany, .ref a_t_saved, v_t_hasSaved, .ref a_t_tape, v_t_taped, v_t_at, v_t_impossibleAt, v_t_letter, .ref a_t_numbers, .ref a_t_plan, v_t_detail, v_t_keptReason, v_t_keptDetail, v_t_above, v_t_below, v_t_bestAbove, v_t_bestBelow, .ref a_t_bestPlan, .ref a_t_sort, .ref a_t_size, .ref a_t_whole, .ref a_t_parts])), (a_t_g, .inl (k 0, 221, .inl t_g)), (a_t_plan, .inl (k 0, 12, .inl t_plan))] sz) := by
  refine Met.ofW (cc := cX11_goesOn) (maxL := 4) (ret := (some .boolean)) (by decide) rfl ?_
  intro p e s m args below meth c s₁ B hml hv
  obtain ⟨rfl, hsz, hP, hK, hD0⟩ := hv
  have hx := B.exec
  have hb := B.bytes
  have hr := B.returns
  have hts0 := atoms_spec (ws := (Cond.code yX11_goesOn cX11_goesOn 4 (some .boolean) :: Ts)) B.pre
  have hts : ∀ w ∈ uT, w.before _ s = true := fun w h => hts0 w (List.mem_cons_of_mem _ ((hTs w).mpr h))
  clear hts0
  have hown : s.vm.findClass RX11 = some m.cls := findClass_of_methodNamed B.named
  have hlocks := B.notSynchronized
  subst hsz
  have hD := hD0.self (sz := s.heap.size)
  generalize hAe : va_A [(a_t, .inr (10, [v_t_thrown, .ref a_t_g, .ref a_t_ahead, .ref a_t_history, v_t_historyMany, .ref a_t_saved, v_t_hasSaved, .ref a_t_tape, v_t_taped, v_t_at, v_t_impossibleAt, v_t_letter, .ref a_t_numbers, .ref a_t_plan, v_t_detail, v_t_keptReason, v_t_keptDetail, v_t_above, v_t_below, v_t_bestAbove, v_t_bestBelow, .ref a_t_bestPlan, .ref a_t_sort, .ref a_t_size, .ref a_t_whole, .ref a_t_parts])), (a_t_g, .inl (k 0, 221, .inl t_g)), (a_t_plan, .inl (k 0, 12, .inl t_plan))] s.heap.size = A at hD ⊢
  have hA : ∀ q : Nat, s.heap.size ≤ q → A q := fun q h => by rw [← hAe]; exact Or.inr h
  have hH : HOK D A s.heap [(a_t, .inr (10, [v_t_thrown, .ref a_t_g, .ref a_t_ahead, .ref a_t_history, v_t_historyMany, .ref a_t_saved, v_t_hasSaved, .ref a_t_tape, v_t_taped, v_t_at, v_t_impossibleAt, v_t_letter, .ref a_t_numbers, .ref a_t_plan, v_t_detail, v_t_keptReason, v_t_keptDetail, v_t_above, v_t_below, v_t_bestAbove, v_t_bestBelow, .ref a_t_bestPlan, .ref a_t_sort, .ref a_t_size, .ref a_t_whole, .ref a_t_parts])), (a_t_g, .inl (k 0, 221, .inl t_g)), (a_t_plan, .inl (k 0, 12, .inl t_plan))] s.heap [] := ⟨hP, hD, va_S.rf⟩
  have hl := lv_entry ([.ref a_t]) (n := 4) (Nat.le_of_ble_eq_true rfl)
  rw [lg_entry_eq]
  generalize (lg_sl ([.ref a_t]) ++ List.replicate (4 - (lg_sl ([.ref a_t])).length) Slot.unset).toArray = ls at hl ⊢
  have hl : lv_has ls 4 [(0, .ref a_t)] := hl
  generalize hQ : MQ below (postI D k r.1 [(a_t, .inr (10, [v_t_thrown, .ref a_t_g, .ref a_t_ahead, .ref a_t_history, v_t_historyMany, .ref a_t_saved, v_t_hasSaved, .ref a_t_tape, v_t_taped, v_t_at, v_t_impossibleAt, v_t_letter, .ref a_t_numbers, .ref a_t_plan, v_t_detail, v_t_keptReason, v_t_keptDetail, v_t_above, v_t_below, v_t_bestAbove, v_t_bestBelow, .ref a_t_bestPlan, .ref a_t_sort, .ref a_t_size, .ref a_t_whole, .ref a_t_parts])), (a_t_g, .inl (k 0, 221, .inl t_g)), (a_t_plan, .inl (k 0, 12, .inl t_plan))] [(a_t, .inr (10, [v_t_thrown, .ref a_t_g, .ref a_t_ahead, .ref a_t_history, v_t_historyMany, .ref a_t_saved, v_t_hasSaved, .ref a_t_tape, v_t_taped, v_t_at, v_t_impossibleAt, v_t_letter, .ref a_t_numbers, .ref a_t_plan, v_t_detail, v_t_keptReason, v_t_keptDetail, v_t_above, v_t_below, v_t_bestAbove, v_t_bestBelow, .ref a_t_bestPlan, .ref a_t_sort, .ref a_t_size, .ref a_t_whole, .ref a_t_parts])), (a_t_g, .inl (k 0, 221, .inl t_g)), (a_t_plan, .inl (k 0, 12, .inl r.2))] s.heap.size) (List.toArray [.ref a_t]) s 0 0 A = Q
  clear hP hD hD0
  suffices K : ∀ (H : Heap) (locs : List Loc), HOK D A s.heap [(a_t, .inr (10, [v_t_thrown, .ref a_t_g, .ref a_t_ahead, .ref a_t_history, v_t_historyMany, .ref a_t_saved, v_t_hasSaved, .ref a_t_tape, v_t_taped, v_t_at, v_t_impossibleAt, v_t_letter, .ref a_t_numbers, .ref a_t_plan, v_t_detail, v_t_keptReason, v_t_keptDetail, v_t_above, v_t_below, v_t_bestAbove, v_t_bestBelow, .ref a_t_bestPlan, .ref a_t_sort, .ref a_t_size, .ref a_t_whole, .ref a_t_parts])), (a_t_g, .inl (k 0, 221, .inl t_g)), (a_t_plan, .inl (k 0, 12, .inl t_plan))] H locs → W p l e ({ frames := 0, cells := 0, slots := 0, locals := 0 } : Room) s m (List.toArray [.ref a_t]) below meth c H locs 0 0 Q (F0 m 0 ls []) from K s.heap [] hH
  intro H locs hH
  have L94 : ∀ (n : Nat), ∀ (kf : (Nat → Int32) → Option (Int32 × (Nat → Int32))) (y94_3 : Int32) (y94_t_plan : Nat → Int32), fX11_goesOn_L94 t_g n kf y94_3 y94_t_plan = some r → (∀ (z94_t_plan : Nat → Int32) (H : Heap) (locs : List Loc) (ls : Array Slot), kf z94_t_plan = some r → HOK D A s.heap [(a_t, .inr (10, [v_t_thrown, .ref a_t_g, .ref a_t_ahead, .ref a_t_history, v_t_historyMany, .ref a_t_saved, v_t_hasSaved, .ref a_t_tape, v_t_taped, v_t_at, v_t_impossibleAt, v_t_letter, .ref a_t_numbers, .ref a_t_plan, v_t_detail, v_t_keptReason, v_t_keptDetail, v_t_above, v_t_below, v_t_bestAbove, v_t_bestBelow, .ref a_t_bestPlan, .ref a_t_sort, .ref a_t_size, .ref a_t_whole, .ref a_t_parts])), (a_t_g, .inl (k 0, 221, .inl t_g)), (a_t_plan, .inl (k 0, 12, .inl z94_t_plan))] H locs → lv_has ls 4 [] → W p l e ({ frames := 0, cells := 0, slots := 0, locals := 0 } : Room) s m (List.toArray [.ref a_t]) below meth c H locs 0 0 Q (F0 m 119 ls [])) → ∀ (H : Heap) (locs : List Loc) (ls : Array Slot), HOK D A s.heap [(a_t, .inr (10, [v_t_thrown, .ref a_t_g, .ref a_t_ahead, .ref a_t_history, v_t_historyMany, .ref a_t_saved, v_t_hasSaved, .ref a_t_tape, v_t_taped, v_t_at, v_t_impossibleAt, v_t_letter, .ref a_t_numbers, .ref a_t_plan, v_t_detail, v_t_keptReason, v_t_keptDetail, v_t_above, v_t_below, v_t_bestAbove, v_t_bestBelow, .ref a_t_bestPlan, .ref a_t_sort, .ref a_t_size, .ref a_t_whole, .ref a_t_parts])), (a_t_g, .inl (k 0, 221, .inl t_g)), (a_t_plan, .inl (k 0, 12, .inl y94_t_plan))] H locs → lv_has ls 4 [(0, .ref a_t), (3, .int y94_3)] → W p l e ({ frames := 0, cells := 0, slots := 0, locals := 0 } : Room) s m (List.toArray [.ref a_t]) below meth c H locs 0 0 Q (F0 m 94 ls []) := by
    intro n
    induction n with
    | zero =>
      intro kf y94_3 y94_t_plan h
      exact absurd h (by rw [fX11_goesOn_L94]; exact fun q => by cases q)
    | succ n ih =>
      intro kf y94_3 y94_t_plan h kk H locs ls hH hl
      rw [fX11_goesOn_L94] at h
      refine lv_iload_n hx hb dX11_goesOn_94 rfl (lv_at hl 1 rfl) ?_
      refine lv_aload_n hx hb dX11_goesOn_95 rfl (lv_at hl 0 rfl) ?_
      refine gk_get (ci := 10) (C := RX11) (T := TX11) (N := 26) hx hb hts u_ws_X11 hown hK hH 0 rfl rfl 1 (by decide) u_fl_X11_7 rfl dX11_goesOn_96 ?_
      refine lv_sipush (v := 204) hx hb dX11_goesOn_99 (by decide) ?_
      refine gk_iald hx hb hK hH 1 rfl (dk_in (by decide)) dX11_goesOn_102 ?_
      refine lv_icmp_ge (tgt := 119) hx hb dX11_goesOn_103 (by decide) (fun c12 => ?_) (fun c12 => ?_)
      · replace h := dc_pos c12 h
        exact kk y94_t_plan H locs ls h hH (lv_sub hl [] rfl)
      · replace h := dc_neg c12 h
        refine lv_aload_n hx hb dX11_goesOn_106 rfl (lv_at hl 0 rfl) ?_
        refine gk_get (ci := 10) (C := RX11) (T := TX11) (N := 26) hx hb hts u_ws_X11 hown hK hH 0 rfl rfl 13 (by decide) u_fl_X11_33 rfl dX11_goesOn_107 ?_
        refine lv_iload_n hx hb dX11_goesOn_110 rfl (lv_at hl 1 rfl) ?_
        refine lv_iconst (v := 0) hx hb dX11_goesOn_111 (by decide) ?_
        obtain ⟨g13, h⟩ := dc_need h
        refine gk_iast hx hb hK hH 2 rfl (dk_in g13) dX11_goesOn_112 [(a_t, .inr (10, [v_t_thrown, .ref a_t_g, .ref a_t_ahead, .ref a_t_history, v_t_historyMany, .ref a_t_saved, v_t_hasSaved, .ref a_t_tape, v_t_taped, v_t_at, v_t_impossibleAt, v_t_letter, .ref a_t_numbers, .ref a_t_plan, v_t_detail, v_t_keptReason, v_t_keptDetail, v_t_above, v_t_below, v_t_bestAbove, v_t_bestBelow, .ref a_t_bestPlan, .ref a_t_sort, .ref a_t_size, .ref a_t_whole, .ref a_t_parts])), (a_t_g, .inl (k 0, 221, .inl t_g)), (a_t_plan, .inl (k 0, 12, .inl (upd y94_t_plan y94_3.toNatClampNeg (0 : Int32))))] rfl (fun H locs hH => ?_)
        refine lv_iinc (v := (y94_3 + (1 : Int32))) (lv' := [(3, .int (y94_3 + (1 : Int32))), (0, .ref a_t)]) hx hb dX11_goesOn_113 hl (k := 1) rfl rfl (by decide) rfl (fun ls hl => ?_)
        refine lv_goto (tgt := 94) hx hb dX11_goesOn_116 (by decide) ?_
        exact ih kf (y94_3 + (1 : Int32)) (upd y94_t_plan y94_3.toNatClampNeg (0 : Int32)) h kk H locs ls hH (lv_sub hl [1, 0] rfl)
  have L19 : ∀ (y19_1 : Int32) (y19_t_plan : Nat → Int32) (n : Nat), ∀ (kf : Int32 → Option (Int32 × (Nat → Int32))) (y19_2 : Int32) (y19_3 : Int32), fX11_goesOn_L19 y19_1 y19_t_plan n kf y19_2 y19_3 = some r → (∀ (z19_2 : Int32) (H : Heap) (locs : List Loc) (ls : Array Slot), kf z19_2 = some r → HOK D A s.heap [(a_t, .inr (10, [v_t_thrown, .ref a_t_g, .ref a_t_ahead, .ref a_t_history, v_t_historyMany, .ref a_t_saved, v_t_hasSaved, .ref a_t_tape, v_t_taped, v_t_at, v_t_impossibleAt, v_t_letter, .ref a_t_numbers, .ref a_t_plan, v_t_detail, v_t_keptReason, v_t_keptDetail, v_t_above, v_t_below, v_t_bestAbove, v_t_bestBelow, .ref a_t_bestPlan, .ref a_t_sort, .ref a_t_size, .ref a_t_whole, .ref a_t_parts])), (a_t_g, .inl (k 0, 221, .inl t_g)), (a_t_plan, .inl (k 0, 12, .inl y19_t_plan))] H locs → lv_has ls 4 [(0, .ref a_t), (1, .int y19_1), (2, .int z19_2)] → W p l e ({ frames := 0, cells := 0, slots := 0, locals := 0 } : Room) s m (List.toArray [.ref a_t]) below meth c H locs 0 0 Q (F0 m 51 ls [])) → ∀ (H : Heap) (locs : List Loc) (ls : Array Slot), HOK D A s.heap [(a_t, .inr (10, [v_t_thrown, .ref a_t_g, .ref a_t_ahead, .ref a_t_history, v_t_historyMany, .ref a_t_saved, v_t_hasSaved, .ref a_t_tape, v_t_taped, v_t_at, v_t_impossibleAt, v_t_letter, .ref a_t_numbers, .ref a_t_plan, v_t_detail, v_t_keptReason, v_t_keptDetail, v_t_above, v_t_below, v_t_bestAbove, v_t_bestBelow, .ref a_t_bestPlan, .ref a_t_sort, .ref a_t_size, .ref a_t_whole, .ref a_t_parts])), (a_t_g, .inl (k 0, 221, .inl t_g)), (a_t_plan, .inl (k 0, 12, .inl y19_t_plan))] H locs → lv_has ls 4 [(0, .ref a_t), (1, .int y19_1), (2, .int y19_2), (3, .int y19_3)] → W p l e ({ frames := 0, cells := 0, slots := 0, locals := 0 } : Room) s m (List.toArray [.ref a_t]) below meth c H locs 0 0 Q (F0 m 19 ls []) := by
    intro y19_1 y19_t_plan n
    induction n with
    | zero =>
      intro kf y19_2 y19_3 h
      exact absurd h (by rw [fX11_goesOn_L19]; exact fun q => by cases q)
    | succ n ih =>
      intro kf y19_2 y19_3 h kk H locs ls hH hl
      rw [fX11_goesOn_L19] at h
      refine lv_iload_n hx hb dX11_goesOn_19 rfl (lv_at hl 3 rfl) ?_
      refine lv_iload_n hx hb dX11_goesOn_20 rfl (lv_at hl 1 rfl) ?_
      refine lv_icmp_ge (tgt := 51) hx hb dX11_goesOn_21 (by decide) (fun c2 => ?_) (fun c2 => ?_)
      · replace h := dc_pos c2 h
        exact kk y19_2 H locs ls h hH (lv_sub hl [0, 1, 2] rfl)
      · replace h := dc_neg c2 h
        refine lv_aload_n hx hb dX11_goesOn_24 rfl (lv_at hl 0 rfl) ?_
        refine gk_get (ci := 10) (C := RX11) (T := TX11) (N := 26) hx hb hts u_ws_X11 hown hK hH 0 rfl rfl 13 (by decide) u_fl_X11_33 rfl dX11_goesOn_25 ?_
        refine lv_iload_n hx hb dX11_goesOn_28 rfl (lv_at hl 3 rfl) ?_
        obtain ⟨g3, h⟩ := dc_need h
        refine gk_iald hx hb hK hH 2 rfl (dk_in g3) dX11_goesOn_29 ?_
        refine lv_iload_n hx hb dX11_goesOn_30 rfl (lv_at hl 2 rfl) ?_
        refine lv_icmp_le (tgt := 43) hx hb dX11_goesOn_31 (by decide) (fun c4 => ?_) (fun c4 => ?_)
        · replace h := dc_pos c4 h
          refine lv_iload_n hx hb dX11_goesOn_43 rfl (lv_at hl 2 rfl) ?_
          refine lv_istore_n (lv' := [(2, .int y19_2), (0, .ref a_t), (1, .int y19_1), (3, .int y19_3)]) hx hb dX11_goesOn_44 rfl hl (by decide) rfl (fun ls hl => ?_)
          refine lv_iinc (v := (y19_3 + (1 : Int32))) (lv' := [(3, .int (y19_3 + (1 : Int32))), (2, .int y19_2), (0, .ref a_t), (1, .int y19_1)]) hx hb dX11_goesOn_45 hl (k := 3) rfl rfl (by decide) rfl (fun ls hl => ?_)
          refine lv_goto (tgt := 19) hx hb dX11_goesOn_48 (by decide) ?_
          exact ih kf y19_2 (y19_3 + (1 : Int32)) h kk H locs ls hH (lv_sub hl [2, 3, 1, 0] rfl)
        · replace h := dc_neg c4 h
          refine lv_aload_n hx hb dX11_goesOn_34 rfl (lv_at hl 0 rfl) ?_
          refine gk_get (ci := 10) (C := RX11) (T := TX11) (N := 26) hx hb hts u_ws_X11 hown hK hH 0 rfl rfl 13 (by decide) u_fl_X11_33 rfl dX11_goesOn_35 ?_
          refine lv_iload_n hx hb dX11_goesOn_38 rfl (lv_at hl 3 rfl) ?_
          obtain ⟨g5, h⟩ := dc_need h
          refine gk_iald hx hb hK hH 2 rfl (dk_in g5) dX11_goesOn_39 ?_
          refine lv_goto (tgt := 44) hx hb dX11_goesOn_40 (by decide) ?_
          refine lv_istore_n (lv' := [(2, .int (y19_t_plan y19_3.toNatClampNeg)), (0, .ref a_t), (1, .int y19_1), (3, .int y19_3)]) hx hb dX11_goesOn_44 rfl hl (by decide) rfl (fun ls hl => ?_)
          refine lv_iinc (v := (y19_3 + (1 : Int32))) (lv' := [(3, .int (y19_3 + (1 : Int32))), (2, .int (y19_t_plan y19_3.toNatClampNeg)), (0, .ref a_t), (1, .int y19_1)]) hx hb dX11_goesOn_45 hl (k := 3) rfl rfl (by decide) rfl (fun ls hl => ?_)
          refine lv_goto (tgt := 19) hx hb dX11_goesOn_48 (by decide) ?_
          exact ih kf (y19_t_plan y19_3.toNatClampNeg) (y19_3 + (1 : Int32)) h kk H locs ls hH (lv_sub hl [2, 3, 1, 0] rfl)
  have L11 : ∀ (n : Nat), ∀ (kf : (Nat → Int32) → Option (Int32 × (Nat → Int32))) (y11_1 : Int32) (y11_t_plan : Nat → Int32), fX11_goesOn_L11 t_g n kf y11_1 y11_t_plan = some r → (∀ (z11_t_plan : Nat → Int32) (H : Heap) (locs : List Loc) (ls : Array Slot), kf z11_t_plan = some r → HOK D A s.heap [(a_t, .inr (10, [v_t_thrown, .ref a_t_g, .ref a_t_ahead, .ref a_t_history, v_t_historyMany, .ref a_t_saved, v_t_hasSaved, .ref a_t_tape, v_t_taped, v_t_at, v_t_impossibleAt, v_t_letter, .ref a_t_numbers, .ref a_t_plan, v_t_detail, v_t_keptReason, v_t_keptDetail, v_t_above, v_t_below, v_t_bestAbove, v_t_bestBelow, .ref a_t_bestPlan, .ref a_t_sort, .ref a_t_size, .ref a_t_whole, .ref a_t_parts])), (a_t_g, .inl (k 0, 221, .inl t_g)), (a_t_plan, .inl (k 0, 12, .inl z11_t_plan))] H locs → lv_has ls 4 [] → W p l e ({ frames := 0, cells := 0, slots := 0, locals := 0 } : Room) s m (List.toArray [.ref a_t]) below meth c H locs 0 0 Q (F0 m 127 ls [])) → ∀ (H : Heap) (locs : List Loc) (ls : Array Slot), HOK D A s.heap [(a_t, .inr (10, [v_t_thrown, .ref a_t_g, .ref a_t_ahead, .ref a_t_history, v_t_historyMany, .ref a_t_saved, v_t_hasSaved, .ref a_t_tape, v_t_taped, v_t_at, v_t_impossibleAt, v_t_letter, .ref a_t_numbers, .ref a_t_plan, v_t_detail, v_t_keptReason, v_t_keptDetail, v_t_above, v_t_below, v_t_bestAbove, v_t_bestBelow, .ref a_t_bestPlan, .ref a_t_sort, .ref a_t_size, .ref a_t_whole, .ref a_t_parts])), (a_t_g, .inl (k 0, 221, .inl t_g)), (a_t_plan, .inl (k 0, 12, .inl y11_t_plan))] H locs → lv_has ls 4 [(0, .ref a_t), (1, .int y11_1)] → W p l e ({ frames := 0, cells := 0, slots := 0, locals := 0 } : Room) s m (List.toArray [.ref a_t]) below meth c H locs 0 0 Q (F0 m 11 ls []) := by
    intro n
    induction n with
    | zero =>
      intro kf y11_1 y11_t_plan h
      exact absurd h (by rw [fX11_goesOn_L11]; exact fun q => by cases q)
    | succ n ih =>
      intro kf y11_1 y11_t_plan h kk H locs ls hH hl
      rw [fX11_goesOn_L11] at h
      refine lv_iload_n hx hb dX11_goesOn_11 rfl (lv_at hl 1 rfl) ?_
      refine lv_if_le (tgt := 127) hx hb dX11_goesOn_12 (by decide) (fun c1 => ?_) (fun c1 => ?_)
      · replace h := dc_pos c1 h
        exact kk y11_t_plan H locs ls h hH (lv_sub hl [] rfl)
      · replace h := dc_neg c1 h
        refine lv_iconst (v := 0) hx hb dX11_goesOn_15 (by decide) ?_
        refine lv_istore_n (lv' := [(2, .int (0 : Int32)), (0, .ref a_t), (1, .int y11_1)]) hx hb dX11_goesOn_16 rfl hl (by decide) rfl (fun ls hl => ?_)
        refine lv_iconst (v := 0) hx hb dX11_goesOn_17 (by decide) ?_
        refine lv_istore_n (lv' := [(3, .int (0 : Int32)), (2, .int (0 : Int32)), (0, .ref a_t), (1, .int y11_1)]) hx hb dX11_goesOn_18 rfl hl (by decide) rfl (fun ls hl => ?_)
        refine L19 y11_1 y11_t_plan _ _ (0 : Int32) (0 : Int32) h (fun z19_2 H locs ls h hH hl => ?_) H locs ls hH (lv_sub hl [2, 3, 1, 0] rfl)
        refine lv_aload_n hx hb dX11_goesOn_51 rfl (lv_at hl 0 rfl) ?_
        refine gk_get (ci := 10) (C := RX11) (T := TX11) (N := 26) hx hb hts u_ws_X11 hown hK hH 0 rfl rfl 13 (by decide) u_fl_X11_33 rfl dX11_goesOn_52 ?_
        refine lv_iload_n hx hb dX11_goesOn_55 rfl (lv_at hl 1 rfl) ?_
        obtain ⟨g6, h⟩ := dc_need h
        refine gk_iald hx hb hK hH 2 rfl (dk_in g6) dX11_goesOn_56 ?_
        refine lv_iload_n hx hb dX11_goesOn_57 rfl (lv_at hl 2 rfl) ?_
        refine lv_icmp_gt (tgt := 121) hx hb dX11_goesOn_58 (by decide) (fun c7 => ?_) (fun c7 => ?_)
        · replace h := dc_pos c7 h
          refine lv_iinc (v := (y11_1 + (-1 : Int32))) (lv' := [(1, .int (y11_1 + (-1 : Int32))), (0, .ref a_t), (2, .int z19_2)]) hx hb dX11_goesOn_121 hl (k := 1) rfl rfl (by decide) rfl (fun ls hl => ?_)
          refine lv_goto (tgt := 11) hx hb dX11_goesOn_124 (by decide) ?_
          exact ih kf (y11_1 + (-1 : Int32)) y11_t_plan h kk H locs ls hH (lv_sub hl [1, 0] rfl)
        · replace h := dc_neg c7 h
          refine lv_aload_n hx hb dX11_goesOn_61 rfl (lv_at hl 0 rfl) ?_
          refine gk_get (ci := 10) (C := RX11) (T := TX11) (N := 26) hx hb hts u_ws_X11 hown hK hH 0 rfl rfl 13 (by decide) u_fl_X11_33 rfl dX11_goesOn_62 ?_
          refine lv_iload_n hx hb dX11_goesOn_65 rfl (lv_at hl 1 rfl) ?_
          obtain ⟨g8, h⟩ := dc_need h
          refine gk_iald hx hb hK hH 2 rfl (dk_in g8) dX11_goesOn_66 ?_
          refine lv_aload_n hx hb dX11_goesOn_67 rfl (lv_at hl 0 rfl) ?_
          refine gk_get (ci := 10) (C := RX11) (T := TX11) (N := 26) hx hb hts u_ws_X11 hown hK hH 0 rfl rfl 1 (by decide) u_fl_X11_7 rfl dX11_goesOn_68 ?_
          refine lv_sipush (v := 205) hx hb dX11_goesOn_71 (by decide) ?_
          refine gk_iald hx hb hK hH 1 rfl (dk_in (by decide)) dX11_goesOn_74 ?_
          refine lv_iconst (v := 1) hx hb dX11_goesOn_75 (by decide) ?_
          refine lv_isub hx hb dX11_goesOn_76 ?_
          refine lv_icmp_ge (tgt := 121) hx hb dX11_goesOn_77 (by decide) (fun c9 => ?_) (fun c9 => ?_)
          · replace h := dc_pos c9 h
            refine lv_iinc (v := (y11_1 + (-1 : Int32))) (lv' := [(1, .int (y11_1 + (-1 : Int32))), (0, .ref a_t), (2, .int z19_2)]) hx hb dX11_goesOn_121 hl (k := 1) rfl rfl (by decide) rfl (fun ls hl => ?_)
            refine lv_goto (tgt := 11) hx hb dX11_goesOn_124 (by decide) ?_
            exact ih kf (y11_1 + (-1 : Int32)) y11_t_plan h kk H locs ls hH (lv_sub hl [1, 0] rfl)
          · replace h := dc_neg c9 h
            refine lv_aload_n hx hb dX11_goesOn_80 rfl (lv_at hl 0 rfl) ?_
            refine gk_get (ci := 10) (C := RX11) (T := TX11) (N := 26) hx hb hts u_ws_X11 hown hK hH 0 rfl rfl 13 (by decide) u_fl_X11_33 rfl dX11_goesOn_81 ?_
            refine lv_iload_n hx hb dX11_goesOn_84 rfl (lv_at hl 1 rfl) ?_
            refine lv_dup2_11 hx hb dX11_goesOn_85 rfl rfl ?_
            obtain ⟨g10, h⟩ := dc_need h
            refine gk_iald hx hb hK hH 2 rfl (dk_in g10) dX11_goesOn_86 ?_
            refine lv_iconst (v := 1) hx hb dX11_goesOn_87 (by decide) ?_
            refine lv_iadd hx hb dX11_goesOn_88 ?_
            obtain ⟨g11, h⟩ := dc_need h
            refine gk_iast hx hb hK hH 2 rfl (dk_in g11) dX11_goesOn_89 [(a_t, .inr (10, [v_t_thrown, .ref a_t_g, .ref a_t_ahead, .ref a_t_history, v_t_historyMany, .ref a_t_saved, v_t_hasSaved, .ref a_t_tape, v_t_taped, v_t_at, v_t_impossibleAt, v_t_letter, .ref a_t_numbers, .ref a_t_plan, v_t_detail, v_t_keptReason, v_t_keptDetail, v_t_above, v_t_below, v_t_bestAbove, v_t_bestBelow, .ref a_t_bestPlan, .ref a_t_sort, .ref a_t_size, .ref a_t_whole, .ref a_t_parts])), (a_t_g, .inl (k 0, 221, .inl t_g)), (a_t_plan, .inl (k 0, 12, .inl (upd y11_t_plan y11_1.toNatClampNeg ((y11_t_plan y11_1.toNatClampNeg) + (1 : Int32)))))] rfl (fun H locs hH => ?_)
            refine lv_iload_n hx hb dX11_goesOn_90 rfl (lv_at hl 1 rfl) ?_
            refine lv_iconst (v := 1) hx hb dX11_goesOn_91 (by decide) ?_
            refine lv_iadd hx hb dX11_goesOn_92 ?_
            refine lv_istore_n (lv' := [(3, .int (y11_1 + (1 : Int32))), (0, .ref a_t), (1, .int y11_1), (2, .int z19_2)]) hx hb dX11_goesOn_93 rfl hl (by decide) rfl (fun ls hl => ?_)
            refine L94 _ _ (y11_1 + (1 : Int32)) (upd y11_t_plan y11_1.toNatClampNeg ((y11_t_plan y11_1.toNatClampNeg) + (1 : Int32))) h (fun z94_t_plan H locs ls h hH hl => ?_) H locs ls hH (lv_sub hl [1, 0] rfl)
            refine lv_iconst (v := 1) hx hb dX11_goesOn_119 (by decide) ?_
            have h := Option.some.inj h
            subst h
            exact ge_z hx hb hr rfl hlocks hQ hK hH hAe rfl dX11_goesOn_120
  rw [fX11_goesOn] at h
  refine lv_aload_n hx hb dX11_goesOn_0 rfl (lv_at hl 0 rfl) ?_
  refine gk_get (ci := 10) (C := RX11) (T := TX11) (N := 26) hx hb hts u_ws_X11 hown hK hH 0 rfl rfl 1 (by decide) u_fl_X11_7 rfl dX11_goesOn_1 ?_
  refine lv_sipush (v := 204) hx hb dX11_goesOn_4 (by decide) ?_
  refine gk_iald hx hb hK hH 1 rfl (dk_in (by decide)) dX11_goesOn_7 ?_
  refine lv_iconst (v := 1) hx hb dX11_goesOn_8 (by decide) ?_
  refine lv_isub hx hb dX11_goesOn_9 ?_
  refine lv_istore_n (lv' := [(1, .int ((t_g (204 : Int32).toNatClampNeg) - (1 : Int32))), (0, .ref a_t)]) hx hb dX11_goesOn_10 rfl hl (by decide) rfl (fun ls hl => ?_)
  refine L11 _ _ ((t_g (204 : Int32).toNatClampNeg) - (1 : Int32)) t_plan h (fun z11_t_plan H locs ls h hH hl => ?_) H locs ls hH (lv_sub hl [1, 0] rfl)
  refine lv_iconst (v := 0) hx hb dX11_goesOn_127 (by decide) ?_
  have h := Option.some.inj h
  subst h
  exact ge_z hx hb hr rfl hlocks hQ hK hH hAe rfl dX11_goesOn_128
