theorem hd_X11_tellMeasure : yX11_tellMeasure.cls = RX11 ∧ yX11_tellMeasure.cls ≠ "java/lang/invoke/MethodHandle" ∧ yX11_tellMeasure.cls ≠ "java/lang/invoke/VarHandle" ∧ (parseMethodDescriptor yX11_tellMeasure.desc).map (fun d => d.parameters.length) = some 1 := by decide +kernel
set_option maxHeartbeats 4000000 in
set_option maxRecDepth 100000 in
theorem mX11_tellMeasure (l : Launch) (Ts : List Cond) (hTs : ∀ w, w ∈ Ts ↔ w ∈ uT) (D : va_G) (k : Nat → ClassId) (sz : Nat) (a_t : Nat) (a_t_g : Nat) (a_t_ahead : Nat) (a_t_history : Nat) (a_t_saved : Nat) (a_t_tape : Nat) (a_t_numbers : Nat) (a_t_plan : Nat) (a_t_bestPlan : Nat) (a_t_sort : Nat) (a_t_size : Nat) (a_t_whole : Nat) (a_t_parts : Nat) (t_above : Int64) (t_g : Nat → Int32) (t_plan : Nat → Int32) (v_t_at : Value) (v_t_below : Value) (v_t_bestAbove : Value) (v_t_bestBelow : Value) (v_t_detail : Value) (v_t_hasSaved : Value) (v_t_historyMany : Value) (v_t_impossibleAt : Value) (v_t_keptDetail : Value) (v_t_keptReason : Value) (v_t_letter : Value) (v_t_taped : Value) (v_t_thrown : Value) (x1 : Int32) (r : Int64 × Int64) (h : fX11_tellMeasure t_above t_g t_plan x1 = some r) : Met l yX11_tellMeasure (Cond.code yX11_tellMeasure cX11_tellMeasure 7 none :: Ts) ({ frames := 4, cells := 0, slots := 0, locals := 93 } : Room) (preM D k [.ref a_t, .int x1] [(a_t, .inr (10, [v_t_thrown, .ref a_t_g, .ref a_t_ahead, .ref a_t_history, v_t_historyMany, .ref a_t_saved, v_t_hasSaved, .ref a_t_tape, v_t_taped, v_t_at, v_t_impossibleAt, v_t_letter, .ref a_t_numbers, .ref a_t_plan, v_t_detail, v_t_keptReason, v_t_keptDetail, .long t_above, v_t_below, v_t_bestAbove, v_t_bestBelow, .ref a_t_bestPlan, .ref a_t_sort, .ref a_t_size, .ref a_t_whole, .ref a_t_parts])), (a_t_g, .inl (k 0, 221, .inl t_g)), (a_t_plan, .inl (k 0, 12, .inl t_plan))] sz) (postV D k [(a_t, .inr (10, [v_t_thrown, .ref a_t_g, .ref a_t_ahead, .ref a_t_history, v_t_historyMany, .ref a_t_saved, v_t_hasSaved, .ref a_t_tape, v_t_taped, v_t_at, v_t_impossibleAt, v_t_letter, .ref a_t_numbers, .ref a_t_plan, v_t_detail, v_t_keptReason, v_t_keptDetail, .long t_above, v_t_below, v_t_bestAbove, v_t_bestBelow, .ref a_t_bestPlan, .ref a_t_sort, .ref a_t_size, .ref a_t_whole, .ref a_t_parts])), (a_t_g, .inl (k 0, 221, .inl t_g)), (a_t_plan, .inl (k 0, 12, .inl t_plan))] [(a_t, .inr (10, [v_t_thrown, .ref a_t_g, .ref a_t_ahead, .ref a_t_history, v_t_historyMany, .ref a_t_saved, v_t_hasSaved, .ref a_t_tape, v_t_taped, v_t_at, v_t_impossibleAt, v_t_letter, .ref a_t_numbers, .ref a_t_plan, v_t_detail, v_t_keptReason, v_t_keptDetail, .long r.1, .long r.2, v_t_bestAbove, v_t_bestBelow, .ref a_t_bestPlan, .ref a_t_sort, .ref a_t_size, .ref a_t_whole, .ref a_t_parts])), (a_t_g, .inl (k 0, 221, .inl t_g)), (a_t_plan, .inl (k 0, 12, .inl t_plan))] sz) 0 0 (va_A [(a_t, .inr (10, [v_t_thrown, .ref a_t_g, .ref a_t_ahead, .ref a_t_history, v_t_historyMany, .ref a_t_saved, v_t_hasSaved, .ref a_t_tape, v_t_taped, v_t_at, v_t_impossibleAt, v_t_letter, .ref a_t_numbers, .ref a_t_plan, v_t_detail, v_t_keptReason, v_t_keptDetail, .long t_above, v_t_below, v_t_bestAbove, v_t_bestBelow, .ref a_t_bestPlan, .ref a_t_sort, .ref a_t_size, .ref a_t_whole, .ref a_t_parts])), (a_t_g, .inl (k 0, 221, .inl t_g)), (a_t_plan, .inl (k 0, 12, .inl t_plan))] sz) := by
  refine Met.ofW (cc := cX11_tellMeasure) (maxL := 7) (ret := none) (by decide) rfl ?_
  intro p e s m args below meth c s₁ B hml hv
  obtain ⟨rfl, hsz, hP, hK, hD0⟩ := hv
  have hx := B.exec
  have hb := B.bytes
  have hr := B.returns
  have hts0 := atoms_spec (ws := (Cond.code yX11_tellMeasure cX11_tellMeasure 7 none :: Ts)) B.pre
  have hts : ∀ w ∈ uT, w.before _ s = true := fun w h => hts0 w (List.mem_cons_of_mem _ ((hTs w).mpr h))
  clear hts0
  have hown : s.vm.findClass RX11 = some m.cls := findClass_of_methodNamed B.named
  have hlocks := B.notSynchronized
  subst hsz
  have hD := hD0.self (sz := s.heap.size)
  generalize hAe : va_A [(a_t, .inr (10, [v_t_thrown, .ref a_t_g, .ref a_t_ahead, .ref a_t_history, v_t_historyMany, .ref a_t_saved, v_t_hasSaved, .ref a_t_tape, v_t_taped, v_t_at, v_t_impossibleAt, v_t_letter, .ref a_t_numbers, .ref a_t_plan, v_t_detail, v_t_keptReason, v_t_keptDetail, .long t_above, v_t_below, v_t_bestAbove, v_t_bestBelow, .ref a_t_bestPlan, .ref a_t_sort, .ref a_t_size, .ref a_t_whole, .ref a_t_parts])), (a_t_g, .inl (k 0, 221, .inl t_g)), (a_t_plan, .inl (k 0, 12, .inl t_plan))] s.heap.size = A at hD ⊢
  have hA : ∀ q : Nat, s.heap.size ≤ q → A q := fun q h => by rw [← hAe]; exact Or.inr h
  have hH : HOK D A s.heap [(a_t, .inr (10, [v_t_thrown, .ref a_t_g, .ref a_t_ahead, .ref a_t_history, v_t_historyMany, .ref a_t_saved, v_t_hasSaved, .ref a_t_tape, v_t_taped, v_t_at, v_t_impossibleAt, v_t_letter, .ref a_t_numbers, .ref a_t_plan, v_t_detail, v_t_keptReason, v_t_keptDetail, .long t_above, v_t_below, v_t_bestAbove, v_t_bestBelow, .ref a_t_bestPlan, .ref a_t_sort, .ref a_t_size, .ref a_t_whole, .ref a_t_parts])), (a_t_g, .inl (k 0, 221, .inl t_g)), (a_t_plan, .inl (k 0, 12, .inl t_plan))] s.heap [] := ⟨hP, hD, va_S.rf⟩
  have hl := lv_entry ([.ref a_t, .int x1]) (n := 7) (Nat.le_of_ble_eq_true rfl)
  rw [lg_entry_eq]
  generalize (lg_sl ([.ref a_t, .int x1]) ++ List.replicate (7 - (lg_sl ([.ref a_t, .int x1])).length) Slot.unset).toArray = ls at hl ⊢
  have hl : lv_has ls 7 [(0, .ref a_t), (1, .int x1)] := hl
  generalize hQ : MQ below (postV D k [(a_t, .inr (10, [v_t_thrown, .ref a_t_g, .ref a_t_ahead, .ref a_t_history, v_t_historyMany, .ref a_t_saved, v_t_hasSaved, .ref a_t_tape, v_t_taped, v_t_at, v_t_impossibleAt, v_t_letter, .ref a_t_numbers, .ref a_t_plan, v_t_detail, v_t_keptReason, v_t_keptDetail, .long t_above, v_t_below, v_t_bestAbove, v_t_bestBelow, .ref a_t_bestPlan, .ref a_t_sort, .ref a_t_size, .ref a_t_whole, .ref a_t_parts])), (a_t_g, .inl (k 0, 221, .inl t_g)), (a_t_plan, .inl (k 0, 12, .inl t_plan))] [(a_t, .inr (10, [v_t_thrown, .ref a_t_g, .ref a_t_ahead, .ref a_t_history, v_t_historyMany, .ref a_t_saved, v_t_hasSaved, .ref a_t_tape, v_t_taped, v_t_at, v_t_impossibleAt, v_t_letter, .ref a_t_numbers, .ref a_t_plan, v_t_detail, v_t_keptReason, v_t_keptDetail, .long r.1, .long r.2, v_t_bestAbove, v_t_bestBelow, .ref a_t_bestPlan, .ref a_t_sort, .ref a_t_size, .ref a_t_whole, .ref a_t_parts])), (a_t_g, .inl (k 0, 221, .inl t_g)), (a_t_plan, .inl (k 0, 12, .inl t_plan))] s.heap.size) (List.toArray [.ref a_t, .int x1]) s 0 0 A = Q
  clear hP hD hD0
  suffices K : ∀ (H : Heap) (locs : List Loc), HOK D A s.heap [(a_t, .inr (10, [v_t_thrown, .ref a_t_g, .ref a_t_ahead, .ref a_t_history, v_t_historyMany, .ref a_t_saved, v_t_hasSaved, .ref a_t_tape, v_t_taped, v_t_at, v_t_impossibleAt, v_t_letter, .ref a_t_numbers, .ref a_t_plan, v_t_detail, v_t_keptReason, v_t_keptDetail, .long t_above, v_t_below, v_t_bestAbove, v_t_bestBelow, .ref a_t_bestPlan, .ref a_t_sort, .ref a_t_size, .ref a_t_whole, .ref a_t_parts])), (a_t_g, .inl (k 0, 221, .inl t_g)), (a_t_plan, .inl (k 0, 12, .inl t_plan))] H locs → W p l e ({ frames := 4, cells := 0, slots := 0, locals := 93 } : Room) s m (List.toArray [.ref a_t, .int x1]) below meth c H locs 0 0 Q (F0 m 0 ls []) from K s.heap [] hH
  intro H locs hH
  have L129 : ∀ (y129_t_below : Int64) (n : Nat), ∀ (kf : Int32 → Option (Int64 × Int64)) (y129_2 : Int32) (y129_3 : Int32), fX11_tellMeasure_L129 t_g t_plan y129_t_below n kf y129_2 y129_3 = some r → (∀ (z129_2 : Int32) (H : Heap) (locs : List Loc) (ls : Array Slot), kf z129_2 = some r → HOK D A s.heap [(a_t, .inr (10, [v_t_thrown, .ref a_t_g, .ref a_t_ahead, .ref a_t_history, v_t_historyMany, .ref a_t_saved, v_t_hasSaved, .ref a_t_tape, v_t_taped, v_t_at, v_t_impossibleAt, v_t_letter, .ref a_t_numbers, .ref a_t_plan, v_t_detail, v_t_keptReason, v_t_keptDetail, .long t_above, .long y129_t_below, v_t_bestAbove, v_t_bestBelow, .ref a_t_bestPlan, .ref a_t_sort, .ref a_t_size, .ref a_t_whole, .ref a_t_parts])), (a_t_g, .inl (k 0, 221, .inl t_g)), (a_t_plan, .inl (k 0, 12, .inl t_plan))] H locs → lv_has ls 7 [(0, .ref a_t), (2, .int z129_2)] → W p l e ({ frames := 4, cells := 0, slots := 0, locals := 93 } : Room) s m (List.toArray [.ref a_t, .int x1]) below meth c H locs 0 0 Q (F0 m 166 ls [])) → ∀ (H : Heap) (locs : List Loc) (ls : Array Slot), HOK D A s.heap [(a_t, .inr (10, [v_t_thrown, .ref a_t_g, .ref a_t_ahead, .ref a_t_history, v_t_historyMany, .ref a_t_saved, v_t_hasSaved, .ref a_t_tape, v_t_taped, v_t_at, v_t_impossibleAt, v_t_letter, .ref a_t_numbers, .ref a_t_plan, v_t_detail, v_t_keptReason, v_t_keptDetail, .long t_above, .long y129_t_below, v_t_bestAbove, v_t_bestBelow, .ref a_t_bestPlan, .ref a_t_sort, .ref a_t_size, .ref a_t_whole, .ref a_t_parts])), (a_t_g, .inl (k 0, 221, .inl t_g)), (a_t_plan, .inl (k 0, 12, .inl t_plan))] H locs → lv_has ls 7 [(0, .ref a_t), (2, .int y129_2), (3, .int y129_3)] → W p l e ({ frames := 4, cells := 0, slots := 0, locals := 93 } : Room) s m (List.toArray [.ref a_t, .int x1]) below meth c H locs 0 0 Q (F0 m 129 ls []) := by
    intro y129_t_below n
    induction n with
    | zero =>
      intro kf y129_2 y129_3 h
      exact absurd h (by rw [fX11_tellMeasure_L129]; exact fun q => by cases q)
    | succ n ih =>
      intro kf y129_2 y129_3 h kk H locs ls hH hl
      rw [fX11_tellMeasure_L129] at h
      refine lv_iload_n hx hb dX11_tellMeasure_129 rfl (lv_at hl 2 rfl) ?_
      refine lv_aload_n hx hb dX11_tellMeasure_130 rfl (lv_at hl 0 rfl) ?_
      refine gk_get (ci := 10) (C := RX11) (T := TX11) (N := 26) hx hb hts u_ws_X11 hown hK hH 0 rfl rfl 1 (by decide) u_fl_X11_7 rfl dX11_tellMeasure_131 ?_
      refine lv_sipush (v := 205) hx hb dX11_tellMeasure_134 (by decide) ?_
      refine gk_iald hx hb hK hH 1 rfl (dk_in (by decide)) dX11_tellMeasure_137 ?_
      refine lv_icmp_ge (tgt := 166) hx hb dX11_tellMeasure_138 (by decide) (fun c19 => ?_) (fun c19 => ?_)
      · replace h := dc_pos c19 h
        exact kk y129_2 H locs ls h hH (lv_sub hl [0, 1] rfl)
      · replace h := dc_neg c19 h
        refine lv_aload_n hx hb dX11_tellMeasure_141 rfl (lv_at hl 0 rfl) ?_
        refine lv_iload_n hx hb dX11_tellMeasure_142 rfl (lv_at hl 2 rfl) ?_
        obtain ⟨q20, hqq20, h⟩ := dc_bind h
        refine gc_Vi (ws' := [(a_t, .inr (10, [v_t_thrown, .ref a_t_g, .ref a_t_ahead, .ref a_t_history, v_t_historyMany, .ref a_t_saved, v_t_hasSaved, .ref a_t_tape, v_t_taped, v_t_at, v_t_impossibleAt, v_t_letter, .ref a_t_numbers, .ref a_t_plan, v_t_detail, v_t_keptReason, v_t_keptDetail, .long t_above, .long y129_t_below, v_t_bestAbove, v_t_bestBelow, .ref a_t_bestPlan, .ref a_t_sort, .ref a_t_size, .ref a_t_whole, .ref a_t_parts])), (a_t_g, .inl (k 0, 221, .inl t_g)), (a_t_plan, .inl (k 0, 12, .inl t_plan))]) (As := [.int y129_3]) (rest := []) (n := 1) (ci := 10) (cq := (RX11, TX11, 26)) hTs ⟨hx, hb, hml, hown, hts⟩ (mX11_off l Ts hTs D k H.size a_t a_t_g a_t_ahead a_t_history a_t_saved a_t_tape a_t_numbers a_t_plan a_t_bestPlan a_t_sort a_t_size a_t_whole a_t_parts t_g t_plan (.long t_above) v_t_at (.long y129_t_below) v_t_bestAbove v_t_bestBelow v_t_detail v_t_hasSaved v_t_historyMany v_t_impossibleAt v_t_keptDetail v_t_keptReason v_t_letter v_t_taped v_t_thrown y129_3 q20 hqq20) u_ml_X11_137 u_im_X11_off u_se_X11_off u_in_X11 u_co_X11_off hd_X11_off ⟨Nat.le_of_ble_eq_true rfl, Nat.le_of_ble_eq_true rfl⟩ ⟨rfl, rfl⟩ hK hH hA (cut0 (isC := [0, 1, 2]) rfl rfl rfl) rfl rfl rfl rfl hl.1 (Nat.le_of_ble_eq_true rfl) dX11_tellMeasure_143 ⟨Nat.le_of_ble_eq_true rfl, Nat.le_of_ble_eq_true rfl⟩ (fun H locs hH => ?_)
        refine lv_iload_n hx hb dX11_tellMeasure_146 rfl (lv_at hl 1 rfl) ?_
        refine lv_icmp_le (tgt := 158) hx hb dX11_tellMeasure_147 (by decide) (fun c21 => ?_) (fun c21 => ?_)
        · replace h := dc_pos c21 h
          refine lv_iload_n hx hb dX11_tellMeasure_158 rfl (lv_at hl 1 rfl) ?_
          refine lv_istore_n (lv' := [(2, .int y129_2), (0, .ref a_t), (3, .int y129_3)]) hx hb dX11_tellMeasure_159 rfl hl (by decide) rfl (fun ls hl => ?_)
          refine lv_iinc (v := (y129_3 + (1 : Int32))) (lv' := [(3, .int (y129_3 + (1 : Int32))), (2, .int y129_2), (0, .ref a_t)]) hx hb dX11_tellMeasure_160 hl (k := 2) rfl rfl (by decide) rfl (fun ls hl => ?_)
          refine lv_goto (tgt := 129) hx hb dX11_tellMeasure_163 (by decide) ?_
          exact ih kf y129_2 (y129_3 + (1 : Int32)) h kk H locs ls hH (lv_sub hl [2, 1, 0] rfl)
        · replace h := dc_neg c21 h
          refine lv_aload_n hx hb dX11_tellMeasure_150 rfl (lv_at hl 0 rfl) ?_
          refine lv_iload_n hx hb dX11_tellMeasure_151 rfl (lv_at hl 2 rfl) ?_
          obtain ⟨q22, hqq22, h⟩ := dc_bind h
          refine gc_Vi (ws' := [(a_t, .inr (10, [v_t_thrown, .ref a_t_g, .ref a_t_ahead, .ref a_t_history, v_t_historyMany, .ref a_t_saved, v_t_hasSaved, .ref a_t_tape, v_t_taped, v_t_at, v_t_impossibleAt, v_t_letter, .ref a_t_numbers, .ref a_t_plan, v_t_detail, v_t_keptReason, v_t_keptDetail, .long t_above, .long y129_t_below, v_t_bestAbove, v_t_bestBelow, .ref a_t_bestPlan, .ref a_t_sort, .ref a_t_size, .ref a_t_whole, .ref a_t_parts])), (a_t_g, .inl (k 0, 221, .inl t_g)), (a_t_plan, .inl (k 0, 12, .inl t_plan))]) (As := [.int y129_3]) (rest := []) (n := 1) (ci := 10) (cq := (RX11, TX11, 26)) hTs ⟨hx, hb, hml, hown, hts⟩ (mX11_off l Ts hTs D k H.size a_t a_t_g a_t_ahead a_t_history a_t_saved a_t_tape a_t_numbers a_t_plan a_t_bestPlan a_t_sort a_t_size a_t_whole a_t_parts t_g t_plan (.long t_above) v_t_at (.long y129_t_below) v_t_bestAbove v_t_bestBelow v_t_detail v_t_hasSaved v_t_historyMany v_t_impossibleAt v_t_keptDetail v_t_keptReason v_t_letter v_t_taped v_t_thrown y129_3 q22 hqq22) u_ml_X11_137 u_im_X11_off u_se_X11_off u_in_X11 u_co_X11_off hd_X11_off ⟨Nat.le_of_ble_eq_true rfl, Nat.le_of_ble_eq_true rfl⟩ ⟨rfl, rfl⟩ hK hH hA (cut0 (isC := [0, 1, 2]) rfl rfl rfl) rfl rfl rfl rfl hl.1 (Nat.le_of_ble_eq_true rfl) dX11_tellMeasure_152 ⟨Nat.le_of_ble_eq_true rfl, Nat.le_of_ble_eq_true rfl⟩ (fun H locs hH => ?_)
          refine lv_goto (tgt := 159) hx hb dX11_tellMeasure_155 (by decide) ?_
          refine lv_istore_n (lv' := [(2, .int q22), (0, .ref a_t), (3, .int y129_3)]) hx hb dX11_tellMeasure_159 rfl hl (by decide) rfl (fun ls hl => ?_)
          refine lv_iinc (v := (y129_3 + (1 : Int32))) (lv' := [(3, .int (y129_3 + (1 : Int32))), (2, .int q22), (0, .ref a_t)]) hx hb dX11_tellMeasure_160 hl (k := 2) rfl rfl (by decide) rfl (fun ls hl => ?_)
          refine lv_goto (tgt := 129) hx hb dX11_tellMeasure_163 (by decide) ?_
          exact ih kf q22 (y129_3 + (1 : Int32)) h kk H locs ls hH (lv_sub hl [2, 1, 0] rfl)
  have L17 : ∀ (n : Nat), ∀ (kf : Int64 → Int64 → Int64 → Int64 → Option (Int64 × Int64)) (y17_2 : Int64) (y17_4 : Int64) (y17_6 : Int32) (y17_t_above : Int64) (y17_t_below : Int64), fX11_tellMeasure_L17 t_g t_plan n kf y17_2 y17_4 y17_6 y17_t_above y17_t_below = some r → (∀ (z17_2 : Int64) (z17_4 : Int64) (z17_t_above : Int64) (z17_t_below : Int64) (H : Heap) (locs : List Loc) (ls : Array Slot), kf z17_2 z17_4 z17_t_above z17_t_below = some r → HOK D A s.heap [(a_t, .inr (10, [v_t_thrown, .ref a_t_g, .ref a_t_ahead, .ref a_t_history, v_t_historyMany, .ref a_t_saved, v_t_hasSaved, .ref a_t_tape, v_t_taped, v_t_at, v_t_impossibleAt, v_t_letter, .ref a_t_numbers, .ref a_t_plan, v_t_detail, v_t_keptReason, v_t_keptDetail, .long z17_t_above, .long z17_t_below, v_t_bestAbove, v_t_bestBelow, .ref a_t_bestPlan, .ref a_t_sort, .ref a_t_size, .ref a_t_whole, .ref a_t_parts])), (a_t_g, .inl (k 0, 221, .inl t_g)), (a_t_plan, .inl (k 0, 12, .inl t_plan))] H locs → lv_has ls 7 [(0, .ref a_t), (2, .long z17_2), (4, .long z17_4)] → W p l e ({ frames := 4, cells := 0, slots := 0, locals := 93 } : Room) s m (List.toArray [.ref a_t, .int x1]) below meth c H locs 0 0 Q (F0 m 77 ls [])) → ∀ (H : Heap) (locs : List Loc) (ls : Array Slot), HOK D A s.heap [(a_t, .inr (10, [v_t_thrown, .ref a_t_g, .ref a_t_ahead, .ref a_t_history, v_t_historyMany, .ref a_t_saved, v_t_hasSaved, .ref a_t_tape, v_t_taped, v_t_at, v_t_impossibleAt, v_t_letter, .ref a_t_numbers, .ref a_t_plan, v_t_detail, v_t_keptReason, v_t_keptDetail, .long y17_t_above, .long y17_t_below, v_t_bestAbove, v_t_bestBelow, .ref a_t_bestPlan, .ref a_t_sort, .ref a_t_size, .ref a_t_whole, .ref a_t_parts])), (a_t_g, .inl (k 0, 221, .inl t_g)), (a_t_plan, .inl (k 0, 12, .inl t_plan))] H locs → lv_has ls 7 [(0, .ref a_t), (2, .long y17_2), (4, .long y17_4), (6, .int y17_6)] → W p l e ({ frames := 4, cells := 0, slots := 0, locals := 93 } : Room) s m (List.toArray [.ref a_t, .int x1]) below meth c H locs 0 0 Q (F0 m 17 ls []) := by
    intro n
    induction n with
    | zero =>
      intro kf y17_2 y17_4 y17_6 y17_t_above y17_t_below h
      exact absurd h (by rw [fX11_tellMeasure_L17]; exact fun q => by cases q)
    | succ n ih =>
      intro kf y17_2 y17_4 y17_6 y17_t_above y17_t_below h kk H locs ls hH hl
      rw [fX11_tellMeasure_L17] at h
      refine lv_iload hx hb dX11_tellMeasure_17 (lv_at hl 3 rfl) ?_
      refine lv_aload_n hx hb dX11_tellMeasure_19 rfl (lv_at hl 0 rfl) ?_
      refine gk_get (ci := 10) (C := RX11) (T := TX11) (N := 26) hx hb hts u_ws_X11 hown hK hH 0 rfl rfl 1 (by decide) u_fl_X11_7 rfl dX11_tellMeasure_20 ?_
      refine lv_sipush (v := 205) hx hb dX11_tellMeasure_23 (by decide) ?_
      refine gk_iald hx hb hK hH 1 rfl (dk_in (by decide)) dX11_tellMeasure_26 ?_
      refine lv_icmp_ge (tgt := 77) hx hb dX11_tellMeasure_27 (by decide) (fun c2 => ?_) (fun c2 => ?_)
      · replace h := dc_pos c2 h
        exact kk y17_2 y17_4 y17_t_above y17_t_below H locs ls h hH (lv_sub hl [0, 1, 2] rfl)
      · replace h := dc_neg c2 h
        refine lv_aload_n hx hb dX11_tellMeasure_30 rfl (lv_at hl 0 rfl) ?_
        refine lv_iload hx hb dX11_tellMeasure_31 (lv_at hl 3 rfl) ?_
        obtain ⟨q3, hqq3, h⟩ := dc_bind h
        refine gc_Vv (ws' := [(a_t, .inr (10, [v_t_thrown, .ref a_t_g, .ref a_t_ahead, .ref a_t_history, v_t_historyMany, .ref a_t_saved, v_t_hasSaved, .ref a_t_tape, v_t_taped, v_t_at, v_t_impossibleAt, v_t_letter, .ref a_t_numbers, .ref a_t_plan, v_t_detail, v_t_keptReason, v_t_keptDetail, .long q3.1, .long q3.2, v_t_bestAbove, v_t_bestBelow, .ref a_t_bestPlan, .ref a_t_sort, .ref a_t_size, .ref a_t_whole, .ref a_t_parts])), (a_t_g, .inl (k 0, 221, .inl t_g)), (a_t_plan, .inl (k 0, 12, .inl t_plan))]) (As := [.int y17_6]) (rest := []) (n := 1) (ci := 10) (cq := (RX11, TX11, 26)) hTs ⟨hx, hb, hml, hown, hts⟩ (mX11_tellCompactness l Ts hTs D k H.size a_t a_t_g a_t_ahead a_t_history a_t_saved a_t_tape a_t_numbers a_t_plan a_t_bestPlan a_t_sort a_t_size a_t_whole a_t_parts t_g t_plan (.long y17_t_above) v_t_at (.long y17_t_below) v_t_bestAbove v_t_bestBelow v_t_detail v_t_hasSaved v_t_historyMany v_t_impossibleAt v_t_keptDetail v_t_keptReason v_t_letter v_t_taped v_t_thrown y17_6 q3 hqq3) u_ml_X11_188 u_im_X11_tellCompactness u_se_X11_tellCompactness u_in_X11 u_co_X11_tellCompactness hd_X11_tellCompactness ⟨Nat.le_of_ble_eq_true rfl, Nat.le_of_ble_eq_true rfl⟩ ⟨rfl, rfl⟩ hK hH hA (cutM (isC := [0, 1, 2]) [some 0, some 1, some 2] 3 rfl rfl rfl rfl rfl rfl rfl) rfl rfl rfl rfl hl.1 (Nat.le_of_ble_eq_true rfl) dX11_tellMeasure_33 ⟨Nat.le_of_ble_eq_true rfl, Nat.le_of_ble_eq_true rfl⟩ (fun H locs hH => ?_)
        refine lv_lload hx hb dX11_tellMeasure_36 (lv_at hl 2 rfl) ?_
        refine lv_lconst (v := 0) hx hb dX11_tellMeasure_38 (by decide) ?_
        refine W.lcmp hx hb dX11_tellMeasure_39 ?_
        refine lv_if_eq (tgt := 60) hx hb dX11_tellMeasure_40 (by decide) (fun c4 => ?_) (fun c4 => ?_)
        · replace h := dc_pos c4 h
          refine lv_aload_n hx hb dX11_tellMeasure_60 rfl (lv_at hl 0 rfl) ?_
          refine gk_get (ci := 10) (C := RX11) (T := TX11) (N := 26) hx hb hts u_ws_X11 hown hK hH 0 rfl rfl 17 (by decide) u_fl_X11_181 rfl dX11_tellMeasure_61 ?_
          refine lv_lstore_n (lv' := [(2, .long q3.1), (0, .ref a_t), (4, .long y17_4), (6, .int y17_6)]) hx hb dX11_tellMeasure_64 rfl hl (by decide) rfl (fun ls hl => ?_)
          refine lv_aload_n hx hb dX11_tellMeasure_65 rfl (lv_at hl 1 rfl) ?_
          refine gk_get (ci := 10) (C := RX11) (T := TX11) (N := 26) hx hb hts u_ws_X11 hown hK hH 0 rfl rfl 18 (by decide) u_fl_X11_185 rfl dX11_tellMeasure_66 ?_
          refine lv_lstore (lv' := [(4, .long q3.2), (2, .long q3.1), (0, .ref a_t), (6, .int y17_6)]) hx hb dX11_tellMeasure_69 hl (by decide) rfl (fun ls hl => ?_)
          refine lv_iinc (v := (y17_6 + (1 : Int32))) (lv' := [(6, .int (y17_6 + (1 : Int32))), (4, .long q3.2), (2, .long q3.1), (0, .ref a_t)]) hx hb dX11_tellMeasure_71 hl (k := 3) rfl rfl (by decide) rfl (fun ls hl => ?_)
          refine lv_goto (tgt := 17) hx hb dX11_tellMeasure_74 (by decide) ?_
          exact ih kf q3.1 q3.2 (y17_6 + (1 : Int32)) q3.1 q3.2 h kk H locs ls hH (lv_sub hl [3, 2, 1, 0] rfl)
        · replace h := dc_neg c4 h
          refine lv_aload_n hx hb dX11_tellMeasure_43 rfl (lv_at hl 0 rfl) ?_
          refine gk_get (ci := 10) (C := RX11) (T := TX11) (N := 26) hx hb hts u_ws_X11 hown hK hH 0 rfl rfl 17 (by decide) u_fl_X11_181 rfl dX11_tellMeasure_44 ?_
          refine lv_lload hx hb dX11_tellMeasure_47 (lv_at hl 2 rfl) ?_
          refine lv_lmul hx hb dX11_tellMeasure_49 ?_
          refine lv_lload_n hx hb dX11_tellMeasure_50 rfl (lv_at hl 1 rfl) ?_
          refine lv_aload_n hx hb dX11_tellMeasure_51 rfl (lv_at hl 0 rfl) ?_
          refine gk_get (ci := 10) (C := RX11) (T := TX11) (N := 26) hx hb hts u_ws_X11 hown hK hH 0 rfl rfl 18 (by decide) u_fl_X11_185 rfl dX11_tellMeasure_52 ?_
          refine lv_lmul hx hb dX11_tellMeasure_55 ?_
          refine W.lcmp hx hb dX11_tellMeasure_56 ?_
          refine lv_if_ge (tgt := 71) hx hb dX11_tellMeasure_57 (by decide) (fun c5 => ?_) (fun c5 => ?_)
          · replace h := dc_pos c5 h
            refine lv_iinc (v := (y17_6 + (1 : Int32))) (lv' := [(6, .int (y17_6 + (1 : Int32))), (0, .ref a_t), (2, .long y17_2), (4, .long y17_4)]) hx hb dX11_tellMeasure_71 hl (k := 3) rfl rfl (by decide) rfl (fun ls hl => ?_)
            refine lv_goto (tgt := 17) hx hb dX11_tellMeasure_74 (by decide) ?_
            exact ih kf y17_2 y17_4 (y17_6 + (1 : Int32)) q3.1 q3.2 h kk H locs ls hH (lv_sub hl [1, 2, 3, 0] rfl)
          · replace h := dc_neg c5 h
            refine lv_aload_n hx hb dX11_tellMeasure_60 rfl (lv_at hl 0 rfl) ?_
            refine gk_get (ci := 10) (C := RX11) (T := TX11) (N := 26) hx hb hts u_ws_X11 hown hK hH 0 rfl rfl 17 (by decide) u_fl_X11_181 rfl dX11_tellMeasure_61 ?_
            refine lv_lstore_n (lv' := [(2, .long q3.1), (0, .ref a_t), (4, .long y17_4), (6, .int y17_6)]) hx hb dX11_tellMeasure_64 rfl hl (by decide) rfl (fun ls hl => ?_)
            refine lv_aload_n hx hb dX11_tellMeasure_65 rfl (lv_at hl 1 rfl) ?_
            refine gk_get (ci := 10) (C := RX11) (T := TX11) (N := 26) hx hb hts u_ws_X11 hown hK hH 0 rfl rfl 18 (by decide) u_fl_X11_185 rfl dX11_tellMeasure_66 ?_
            refine lv_lstore (lv' := [(4, .long q3.2), (2, .long q3.1), (0, .ref a_t), (6, .int y17_6)]) hx hb dX11_tellMeasure_69 hl (by decide) rfl (fun ls hl => ?_)
            refine lv_iinc (v := (y17_6 + (1 : Int32))) (lv' := [(6, .int (y17_6 + (1 : Int32))), (4, .long q3.2), (2, .long q3.1), (0, .ref a_t)]) hx hb dX11_tellMeasure_71 hl (k := 3) rfl rfl (by decide) rfl (fun ls hl => ?_)
            refine lv_goto (tgt := 17) hx hb dX11_tellMeasure_74 (by decide) ?_
            exact ih kf q3.1 q3.2 (y17_6 + (1 : Int32)) q3.1 q3.2 h kk H locs ls hH (lv_sub hl [3, 2, 1, 0] rfl)
  rw [fX11_tellMeasure] at h
  refine lv_aload_n hx hb dX11_tellMeasure_0 rfl (lv_at hl 0 rfl) ?_
  refine lv_lconst (v := 1) hx hb dX11_tellMeasure_1 (by decide) ?_
  refine gk_put (ci := 10) (C := RX11) (T := TX11) (N := 26) hx hb hts u_ws_X11 tyX11_ok nmX11 hown hK hH 0 rfl rfl 18 (by decide) u_fl_X11_185 rfl rfl rfl (Nat.le_of_ble_eq_true rfl) dX11_tellMeasure_2 [(a_t, .inr (10, [v_t_thrown, .ref a_t_g, .ref a_t_ahead, .ref a_t_history, v_t_historyMany, .ref a_t_saved, v_t_hasSaved, .ref a_t_tape, v_t_taped, v_t_at, v_t_impossibleAt, v_t_letter, .ref a_t_numbers, .ref a_t_plan, v_t_detail, v_t_keptReason, v_t_keptDetail, .long t_above, .long (1 : Int64), v_t_bestAbove, v_t_bestBelow, .ref a_t_bestPlan, .ref a_t_sort, .ref a_t_size, .ref a_t_whole, .ref a_t_parts])), (a_t_g, .inl (k 0, 221, .inl t_g)), (a_t_plan, .inl (k 0, 12, .inl t_plan))] rfl (fun H locs hH => ?_)
  refine lv_iload_n hx hb dX11_tellMeasure_5 rfl (lv_at hl 1 rfl) ?_
  refine lv_if_ne (tgt := 91) hx hb dX11_tellMeasure_6 (by decide) (fun c1 => ?_) (fun c1 => ?_)
  · replace h := dc_neg c1 h
    refine lv_iload_n hx hb dX11_tellMeasure_91 rfl (lv_at hl 1 rfl) ?_
    refine lv_iconst (v := 1) hx hb dX11_tellMeasure_92 (by decide) ?_
    refine lv_icmp_ne (tgt := 108) hx hb dX11_tellMeasure_93 (by decide) (fun c9 => ?_) (fun c9 => ?_)
    · replace h := dc_neg c9 h
      refine lv_iload_n hx hb dX11_tellMeasure_108 rfl (lv_at hl 1 rfl) ?_
      refine lv_iconst (v := 2) hx hb dX11_tellMeasure_109 (by decide) ?_
      refine lv_icmp_ne (tgt := 125) hx hb dX11_tellMeasure_110 (by decide) (fun c14 => ?_) (fun c14 => ?_)
      · replace h := dc_neg c14 h
        refine lv_iconst (v := 0) hx hb dX11_tellMeasure_125 (by decide) ?_
        refine lv_istore_n (lv' := [(2, .int (0 : Int32)), (0, .ref a_t), (1, .int x1)]) hx hb dX11_tellMeasure_126 rfl hl (by decide) rfl (fun ls hl => ?_)
        refine lv_iconst (v := 0) hx hb dX11_tellMeasure_127 (by decide) ?_
        refine lv_istore_n (lv' := [(3, .int (0 : Int32)), (2, .int (0 : Int32)), (0, .ref a_t), (1, .int x1)]) hx hb dX11_tellMeasure_128 rfl hl (by decide) rfl (fun ls hl => ?_)
        refine L129 (1 : Int64) _ _ (0 : Int32) (0 : Int32) h (fun z129_2 H locs ls h hH hl => ?_) H locs ls hH (lv_sub hl [2, 1, 0] rfl)
        refine lv_aload_n hx hb dX11_tellMeasure_166 rfl (lv_at hl 0 rfl) ?_
        refine lv_iload_n hx hb dX11_tellMeasure_167 rfl (lv_at hl 1 rfl) ?_
        refine lv_i2l (v := (Int32.toInt64 z129_2)) hx hb dX11_tellMeasure_168 rfl ?_
        refine gk_put (ci := 10) (C := RX11) (T := TX11) (N := 26) hx hb hts u_ws_X11 tyX11_ok nmX11 hown hK hH 0 rfl rfl 17 (by decide) u_fl_X11_181 rfl rfl rfl (Nat.le_of_ble_eq_true rfl) dX11_tellMeasure_169 [(a_t, .inr (10, [v_t_thrown, .ref a_t_g, .ref a_t_ahead, .ref a_t_history, v_t_historyMany, .ref a_t_saved, v_t_hasSaved, .ref a_t_tape, v_t_taped, v_t_at, v_t_impossibleAt, v_t_letter, .ref a_t_numbers, .ref a_t_plan, v_t_detail, v_t_keptReason, v_t_keptDetail, .long (Int32.toInt64 z129_2), .long (1 : Int64), v_t_bestAbove, v_t_bestBelow, .ref a_t_bestPlan, .ref a_t_sort, .ref a_t_size, .ref a_t_whole, .ref a_t_parts])), (a_t_g, .inl (k 0, 221, .inl t_g)), (a_t_plan, .inl (k 0, 12, .inl t_plan))] rfl (fun H locs hH => ?_)
        refine lv_aload_n hx hb dX11_tellMeasure_172 rfl (lv_at hl 0 rfl) ?_
        refine lv_aload_n hx hb dX11_tellMeasure_173 rfl (lv_at hl 0 rfl) ?_
        refine lv_aload_n hx hb dX11_tellMeasure_174 rfl (lv_at hl 0 rfl) ?_
        obtain ⟨q23, hqq23, h⟩ := dc_bind h
        refine gc_Vi (ws' := [(a_t, .inr (10, [v_t_thrown, .ref a_t_g, .ref a_t_ahead, .ref a_t_history, v_t_historyMany, .ref a_t_saved, v_t_hasSaved, .ref a_t_tape, v_t_taped, v_t_at, v_t_impossibleAt, v_t_letter, .ref a_t_numbers, .ref a_t_plan, v_t_detail, v_t_keptReason, v_t_keptDetail, .long (Int32.toInt64 z129_2), .long (1 : Int64), v_t_bestAbove, v_t_bestBelow, .ref a_t_bestPlan, .ref a_t_sort, .ref a_t_size, .ref a_t_whole, .ref a_t_parts])), (a_t_g, .inl (k 0, 221, .inl t_g)), (a_t_plan, .inl (k 0, 12, .inl t_plan))]) (As := []) (rest := [.ref a_t, .ref a_t]) (n := 0) (ci := 10) (cq := (RX11, TX11, 26)) hTs ⟨hx, hb, hml, hown, hts⟩ (mX11_all l Ts hTs D k H.size a_t a_t_g a_t_ahead a_t_history a_t_saved a_t_tape a_t_numbers a_t_plan a_t_bestPlan a_t_sort a_t_size a_t_whole a_t_parts t_g (.long (Int32.toInt64 z129_2)) v_t_at (.long (1 : Int64)) v_t_bestAbove v_t_bestBelow v_t_detail v_t_hasSaved v_t_historyMany v_t_impossibleAt v_t_keptDetail v_t_keptReason v_t_letter v_t_taped v_t_thrown q23 hqq23) u_ml_X11_119 u_im_X11_all u_se_X11_all u_in_X11 u_co_X11_all hd_X11_all ⟨Nat.le_of_ble_eq_true rfl, Nat.le_of_ble_eq_true rfl⟩ ⟨rfl, rfl⟩ hK hH hA (cut0 (isC := [0, 1]) rfl rfl rfl) rfl rfl rfl rfl hl.1 (Nat.le_of_ble_eq_true rfl) dX11_tellMeasure_175 ⟨Nat.le_of_ble_eq_true rfl, Nat.le_of_ble_eq_true rfl⟩ (fun H locs hH => ?_)
        refine lv_iconst (v := 0) hx hb dX11_tellMeasure_178 (by decide) ?_
        obtain ⟨q24, hqq24, h⟩ := dc_bind h
        refine gc_Vi (ws' := [(a_t, .inr (10, [v_t_thrown, .ref a_t_g, .ref a_t_ahead, .ref a_t_history, v_t_historyMany, .ref a_t_saved, v_t_hasSaved, .ref a_t_tape, v_t_taped, v_t_at, v_t_impossibleAt, v_t_letter, .ref a_t_numbers, .ref a_t_plan, v_t_detail, v_t_keptReason, v_t_keptDetail, .long (Int32.toInt64 z129_2), .long (1 : Int64), v_t_bestAbove, v_t_bestBelow, .ref a_t_bestPlan, .ref a_t_sort, .ref a_t_size, .ref a_t_whole, .ref a_t_parts])), (a_t_g, .inl (k 0, 221, .inl t_g)), (a_t_plan, .inl (k 0, 12, .inl t_plan))]) (As := [.int q23, .int (0 : Int32)]) (rest := [.ref a_t]) (n := 2) (ci := 10) (cq := (RX11, TX11, 26)) hTs ⟨hx, hb, hml, hown, hts⟩ (mX11_sum l Ts hTs D k H.size a_t a_t_g a_t_ahead a_t_history a_t_saved a_t_tape a_t_numbers a_t_plan a_t_bestPlan a_t_sort a_t_size a_t_whole a_t_parts t_g (.long (Int32.toInt64 z129_2)) v_t_at (.long (1 : Int64)) v_t_bestAbove v_t_bestBelow v_t_detail v_t_hasSaved v_t_historyMany v_t_impossibleAt v_t_keptDetail v_t_keptReason v_t_letter v_t_taped v_t_thrown q23 (0 : Int32) q24 hqq24) u_ml_X11_122 u_im_X11_sum u_se_X11_sum u_in_X11 u_co_X11_sum hd_X11_sum ⟨Nat.le_of_ble_eq_true rfl, Nat.le_of_ble_eq_true rfl⟩ ⟨rfl, rfl⟩ hK hH hA (cut0 (isC := [0, 1]) rfl rfl rfl) rfl rfl rfl rfl hl.1 (Nat.le_of_ble_eq_true rfl) dX11_tellMeasure_179 ⟨Nat.le_of_ble_eq_true rfl, Nat.le_of_ble_eq_true rfl⟩ (fun H locs hH => ?_)
        refine lv_i2l (v := (Int32.toInt64 q24)) hx hb dX11_tellMeasure_182 rfl ?_
        refine gk_put (ci := 10) (C := RX11) (T := TX11) (N := 26) hx hb hts u_ws_X11 tyX11_ok nmX11 hown hK hH 0 rfl rfl 18 (by decide) u_fl_X11_185 rfl rfl rfl (Nat.le_of_ble_eq_true rfl) dX11_tellMeasure_183 [(a_t, .inr (10, [v_t_thrown, .ref a_t_g, .ref a_t_ahead, .ref a_t_history, v_t_historyMany, .ref a_t_saved, v_t_hasSaved, .ref a_t_tape, v_t_taped, v_t_at, v_t_impossibleAt, v_t_letter, .ref a_t_numbers, .ref a_t_plan, v_t_detail, v_t_keptReason, v_t_keptDetail, .long (Int32.toInt64 z129_2), .long (Int32.toInt64 q24), v_t_bestAbove, v_t_bestBelow, .ref a_t_bestPlan, .ref a_t_sort, .ref a_t_size, .ref a_t_whole, .ref a_t_parts])), (a_t_g, .inl (k 0, 221, .inl t_g)), (a_t_plan, .inl (k 0, 12, .inl t_plan))] rfl (fun H locs hH => ?_)
        refine lv_aload_n hx hb dX11_tellMeasure_186 rfl (lv_at hl 0 rfl) ?_
        refine gk_get (ci := 10) (C := RX11) (T := TX11) (N := 26) hx hb hts u_ws_X11 hown hK hH 0 rfl rfl 17 (by decide) u_fl_X11_181 rfl dX11_tellMeasure_187 ?_
        refine lv_aload_n hx hb dX11_tellMeasure_190 rfl (lv_at hl 0 rfl) ?_
        refine gk_get (ci := 10) (C := RX11) (T := TX11) (N := 26) hx hb hts u_ws_X11 hown hK hH 0 rfl rfl 18 (by decide) u_fl_X11_185 rfl dX11_tellMeasure_191 ?_
        obtain ⟨q25, hqq25, h⟩ := dc_bind h
        refine gc_Sl (ws' := [(a_t, .inr (10, [v_t_thrown, .ref a_t_g, .ref a_t_ahead, .ref a_t_history, v_t_historyMany, .ref a_t_saved, v_t_hasSaved, .ref a_t_tape, v_t_taped, v_t_at, v_t_impossibleAt, v_t_letter, .ref a_t_numbers, .ref a_t_plan, v_t_detail, v_t_keptReason, v_t_keptDetail, .long (Int32.toInt64 z129_2), .long (Int32.toInt64 q24), v_t_bestAbove, v_t_bestBelow, .ref a_t_bestPlan, .ref a_t_sort, .ref a_t_size, .ref a_t_whole, .ref a_t_parts])), (a_t_g, .inl (k 0, 221, .inl t_g)), (a_t_plan, .inl (k 0, 12, .inl t_plan))]) (As := [.long (Int32.toInt64 z129_2), .long (Int32.toInt64 q24)]) (rest := []) (n := 2) hTs ⟨hx, hb, hml, hown, hts⟩ (mX11_divisor l Ts hTs D k H.size (Int32.toInt64 z129_2) (Int32.toInt64 q24) q25 hqq25) u_ml_X11_198 u_st_X11_divisor u_in_X11 u_co_X11_divisor hd_X11_divisor ⟨Nat.le_of_ble_eq_true rfl, Nat.le_of_ble_eq_true rfl⟩ ⟨rfl, rfl⟩ hK hH hA (cut0 (isC := []) rfl rfl rfl) rfl rfl hl.1 (Nat.le_of_ble_eq_true rfl) dX11_tellMeasure_194 ⟨Nat.le_of_ble_eq_true rfl, Nat.le_of_ble_eq_true rfl⟩ (fun H locs hH => ?_)
        refine lv_lstore_n (lv' := [(2, .long q25), (0, .ref a_t)]) hx hb dX11_tellMeasure_197 rfl hl (by decide) rfl (fun ls hl => ?_)
        refine lv_aload_n hx hb dX11_tellMeasure_198 rfl (lv_at hl 1 rfl) ?_
        refine lv_dup hx hb dX11_tellMeasure_199 rfl ?_
        refine gk_get (ci := 10) (C := RX11) (T := TX11) (N := 26) hx hb hts u_ws_X11 hown hK hH 0 rfl rfl 17 (by decide) u_fl_X11_181 rfl dX11_tellMeasure_200 ?_
        refine lv_lload_n hx hb dX11_tellMeasure_203 rfl (lv_at hl 0 rfl) ?_
        obtain ⟨g26, h⟩ := dc_neL h
        refine lv_ldiv hx hb dX11_tellMeasure_204 g26 ?_
        refine gk_put (ci := 10) (C := RX11) (T := TX11) (N := 26) hx hb hts u_ws_X11 tyX11_ok nmX11 hown hK hH 0 rfl rfl 17 (by decide) u_fl_X11_181 rfl rfl rfl (Nat.le_of_ble_eq_true rfl) dX11_tellMeasure_205 [(a_t, .inr (10, [v_t_thrown, .ref a_t_g, .ref a_t_ahead, .ref a_t_history, v_t_historyMany, .ref a_t_saved, v_t_hasSaved, .ref a_t_tape, v_t_taped, v_t_at, v_t_impossibleAt, v_t_letter, .ref a_t_numbers, .ref a_t_plan, v_t_detail, v_t_keptReason, v_t_keptDetail, .long ((Int32.toInt64 z129_2) / q25), .long (Int32.toInt64 q24), v_t_bestAbove, v_t_bestBelow, .ref a_t_bestPlan, .ref a_t_sort, .ref a_t_size, .ref a_t_whole, .ref a_t_parts])), (a_t_g, .inl (k 0, 221, .inl t_g)), (a_t_plan, .inl (k 0, 12, .inl t_plan))] rfl (fun H locs hH => ?_)
        refine lv_aload_n hx hb dX11_tellMeasure_208 rfl (lv_at hl 1 rfl) ?_
        refine lv_dup hx hb dX11_tellMeasure_209 rfl ?_
        refine gk_get (ci := 10) (C := RX11) (T := TX11) (N := 26) hx hb hts u_ws_X11 hown hK hH 0 rfl rfl 18 (by decide) u_fl_X11_185 rfl dX11_tellMeasure_210 ?_
        refine lv_lload_n hx hb dX11_tellMeasure_213 rfl (lv_at hl 0 rfl) ?_
        obtain ⟨g27, h⟩ := dc_neL h
        refine lv_ldiv hx hb dX11_tellMeasure_214 g27 ?_
        refine gk_put (ci := 10) (C := RX11) (T := TX11) (N := 26) hx hb hts u_ws_X11 tyX11_ok nmX11 hown hK hH 0 rfl rfl 18 (by decide) u_fl_X11_185 rfl rfl rfl (Nat.le_of_ble_eq_true rfl) dX11_tellMeasure_215 [(a_t, .inr (10, [v_t_thrown, .ref a_t_g, .ref a_t_ahead, .ref a_t_history, v_t_historyMany, .ref a_t_saved, v_t_hasSaved, .ref a_t_tape, v_t_taped, v_t_at, v_t_impossibleAt, v_t_letter, .ref a_t_numbers, .ref a_t_plan, v_t_detail, v_t_keptReason, v_t_keptDetail, .long ((Int32.toInt64 z129_2) / q25), .long ((Int32.toInt64 q24) / q25), v_t_bestAbove, v_t_bestBelow, .ref a_t_bestPlan, .ref a_t_sort, .ref a_t_size, .ref a_t_whole, .ref a_t_parts])), (a_t_g, .inl (k 0, 221, .inl t_g)), (a_t_plan, .inl (k 0, 12, .inl t_plan))] rfl (fun H locs hH => ?_)
        have h := Option.some.inj h
        subst h
        exact ge_v hx hb hr hlocks hQ hK hH hAe dX11_tellMeasure_218
      · replace h := dc_pos c14 h
        refine lv_aload_n hx hb dX11_tellMeasure_113 rfl (lv_at hl 0 rfl) ?_
        refine lv_aload_n hx hb dX11_tellMeasure_114 rfl (lv_at hl 0 rfl) ?_
        obtain ⟨q15, hqq15, h⟩ := dc_bind h
        refine gc_Vi (ws' := [(a_t, .inr (10, [v_t_thrown, .ref a_t_g, .ref a_t_ahead, .ref a_t_history, v_t_historyMany, .ref a_t_saved, v_t_hasSaved, .ref a_t_tape, v_t_taped, v_t_at, v_t_impossibleAt, v_t_letter, .ref a_t_numbers, .ref a_t_plan, v_t_detail, v_t_keptReason, v_t_keptDetail, .long t_above, .long (1 : Int64), v_t_bestAbove, v_t_bestBelow, .ref a_t_bestPlan, .ref a_t_sort, .ref a_t_size, .ref a_t_whole, .ref a_t_parts])), (a_t_g, .inl (k 0, 221, .inl t_g)), (a_t_plan, .inl (k 0, 12, .inl t_plan))]) (As := []) (rest := [.ref a_t]) (n := 0) (ci := 10) (cq := (RX11, TX11, 26)) hTs ⟨hx, hb, hml, hown, hts⟩ (mX11_torn l Ts hTs D k H.size a_t a_t_g a_t_ahead a_t_history a_t_saved a_t_tape a_t_numbers a_t_plan a_t_bestPlan a_t_sort a_t_size a_t_whole a_t_parts t_g t_plan (.long t_above) v_t_at (.long (1 : Int64)) v_t_bestAbove v_t_bestBelow v_t_detail v_t_hasSaved v_t_historyMany v_t_impossibleAt v_t_keptDetail v_t_keptReason v_t_letter v_t_taped v_t_thrown q15 hqq15) u_ml_X11_195 u_im_X11_torn u_se_X11_torn u_in_X11 u_co_X11_torn hd_X11_torn ⟨Nat.le_of_ble_eq_true rfl, Nat.le_of_ble_eq_true rfl⟩ ⟨rfl, rfl⟩ hK hH hA (cut0 (isC := [0, 1, 2]) rfl rfl rfl) rfl rfl rfl rfl hl.1 (Nat.le_of_ble_eq_true rfl) dX11_tellMeasure_115 ⟨Nat.le_of_ble_eq_true rfl, Nat.le_of_ble_eq_true rfl⟩ (fun H locs hH => ?_)
        refine lv_i2l (v := (Int32.toInt64 q15)) hx hb dX11_tellMeasure_118 rfl ?_
        refine gk_put (ci := 10) (C := RX11) (T := TX11) (N := 26) hx hb hts u_ws_X11 tyX11_ok nmX11 hown hK hH 0 rfl rfl 17 (by decide) u_fl_X11_181 rfl rfl rfl (Nat.le_of_ble_eq_true rfl) dX11_tellMeasure_119 [(a_t, .inr (10, [v_t_thrown, .ref a_t_g, .ref a_t_ahead, .ref a_t_history, v_t_historyMany, .ref a_t_saved, v_t_hasSaved, .ref a_t_tape, v_t_taped, v_t_at, v_t_impossibleAt, v_t_letter, .ref a_t_numbers, .ref a_t_plan, v_t_detail, v_t_keptReason, v_t_keptDetail, .long (Int32.toInt64 q15), .long (1 : Int64), v_t_bestAbove, v_t_bestBelow, .ref a_t_bestPlan, .ref a_t_sort, .ref a_t_size, .ref a_t_whole, .ref a_t_parts])), (a_t_g, .inl (k 0, 221, .inl t_g)), (a_t_plan, .inl (k 0, 12, .inl t_plan))] rfl (fun H locs hH => ?_)
        refine lv_goto (tgt := 186) hx hb dX11_tellMeasure_122 (by decide) ?_
        refine lv_aload_n hx hb dX11_tellMeasure_186 rfl (lv_at hl 0 rfl) ?_
        refine gk_get (ci := 10) (C := RX11) (T := TX11) (N := 26) hx hb hts u_ws_X11 hown hK hH 0 rfl rfl 17 (by decide) u_fl_X11_181 rfl dX11_tellMeasure_187 ?_
        refine lv_aload_n hx hb dX11_tellMeasure_190 rfl (lv_at hl 0 rfl) ?_
        refine gk_get (ci := 10) (C := RX11) (T := TX11) (N := 26) hx hb hts u_ws_X11 hown hK hH 0 rfl rfl 18 (by decide) u_fl_X11_185 rfl dX11_tellMeasure_191 ?_
        obtain ⟨q16, hqq16, h⟩ := dc_bind h
        refine gc_Sl (ws' := [(a_t, .inr (10, [v_t_thrown, .ref a_t_g, .ref a_t_ahead, .ref a_t_history, v_t_historyMany, .ref a_t_saved, v_t_hasSaved, .ref a_t_tape, v_t_taped, v_t_at, v_t_impossibleAt, v_t_letter, .ref a_t_numbers, .ref a_t_plan, v_t_detail, v_t_keptReason, v_t_keptDetail, .long (Int32.toInt64 q15), .long (1 : Int64), v_t_bestAbove, v_t_bestBelow, .ref a_t_bestPlan, .ref a_t_sort, .ref a_t_size, .ref a_t_whole, .ref a_t_parts])), (a_t_g, .inl (k 0, 221, .inl t_g)), (a_t_plan, .inl (k 0, 12, .inl t_plan))]) (As := [.long (Int32.toInt64 q15), .long (1 : Int64)]) (rest := []) (n := 2) hTs ⟨hx, hb, hml, hown, hts⟩ (mX11_divisor l Ts hTs D k H.size (Int32.toInt64 q15) (1 : Int64) q16 hqq16) u_ml_X11_198 u_st_X11_divisor u_in_X11 u_co_X11_divisor hd_X11_divisor ⟨Nat.le_of_ble_eq_true rfl, Nat.le_of_ble_eq_true rfl⟩ ⟨rfl, rfl⟩ hK hH hA (cut0 (isC := []) rfl rfl rfl) rfl rfl hl.1 (Nat.le_of_ble_eq_true rfl) dX11_tellMeasure_194 ⟨Nat.le_of_ble_eq_true rfl, Nat.le_of_ble_eq_true rfl⟩ (fun H locs hH => ?_)
        refine lv_lstore_n (lv' := [(2, .long q16), (0, .ref a_t), (1, .int x1)]) hx hb dX11_tellMeasure_197 rfl hl (by decide) rfl (fun ls hl => ?_)
        refine lv_aload_n hx hb dX11_tellMeasure_198 rfl (lv_at hl 1 rfl) ?_
        refine lv_dup hx hb dX11_tellMeasure_199 rfl ?_
        refine gk_get (ci := 10) (C := RX11) (T := TX11) (N := 26) hx hb hts u_ws_X11 hown hK hH 0 rfl rfl 17 (by decide) u_fl_X11_181 rfl dX11_tellMeasure_200 ?_
        refine lv_lload_n hx hb dX11_tellMeasure_203 rfl (lv_at hl 0 rfl) ?_
        obtain ⟨g17, h⟩ := dc_neL h
        refine lv_ldiv hx hb dX11_tellMeasure_204 g17 ?_
        refine gk_put (ci := 10) (C := RX11) (T := TX11) (N := 26) hx hb hts u_ws_X11 tyX11_ok nmX11 hown hK hH 0 rfl rfl 17 (by decide) u_fl_X11_181 rfl rfl rfl (Nat.le_of_ble_eq_true rfl) dX11_tellMeasure_205 [(a_t, .inr (10, [v_t_thrown, .ref a_t_g, .ref a_t_ahead, .ref a_t_history, v_t_historyMany, .ref a_t_saved, v_t_hasSaved, .ref a_t_tape, v_t_taped, v_t_at, v_t_impossibleAt, v_t_letter, .ref a_t_numbers, .ref a_t_plan, v_t_detail, v_t_keptReason, v_t_keptDetail, .long ((Int32.toInt64 q15) / q16), .long (1 : Int64), v_t_bestAbove, v_t_bestBelow, .ref a_t_bestPlan, .ref a_t_sort, .ref a_t_size, .ref a_t_whole, .ref a_t_parts])), (a_t_g, .inl (k 0, 221, .inl t_g)), (a_t_plan, .inl (k 0, 12, .inl t_plan))] rfl (fun H locs hH => ?_)
        refine lv_aload_n hx hb dX11_tellMeasure_208 rfl (lv_at hl 1 rfl) ?_
        refine lv_dup hx hb dX11_tellMeasure_209 rfl ?_
        refine gk_get (ci := 10) (C := RX11) (T := TX11) (N := 26) hx hb hts u_ws_X11 hown hK hH 0 rfl rfl 18 (by decide) u_fl_X11_185 rfl dX11_tellMeasure_210 ?_
        refine lv_lload_n hx hb dX11_tellMeasure_213 rfl (lv_at hl 0 rfl) ?_
        obtain ⟨g18, h⟩ := dc_neL h
        refine lv_ldiv hx hb dX11_tellMeasure_214 g18 ?_
        refine gk_put (ci := 10) (C := RX11) (T := TX11) (N := 26) hx hb hts u_ws_X11 tyX11_ok nmX11 hown hK hH 0 rfl rfl 18 (by decide) u_fl_X11_185 rfl rfl rfl (Nat.le_of_ble_eq_true rfl) dX11_tellMeasure_215 [(a_t, .inr (10, [v_t_thrown, .ref a_t_g, .ref a_t_ahead, .ref a_t_history, v_t_historyMany, .ref a_t_saved, v_t_hasSaved, .ref a_t_tape, v_t_taped, v_t_at, v_t_impossibleAt, v_t_letter, .ref a_t_numbers, .ref a_t_plan, v_t_detail, v_t_keptReason, v_t_keptDetail, .long ((Int32.toInt64 q15) / q16), .long ((1 : Int64) / q16), v_t_bestAbove, v_t_bestBelow, .ref a_t_bestPlan, .ref a_t_sort, .ref a_t_size, .ref a_t_whole, .ref a_t_parts])), (a_t_g, .inl (k 0, 221, .inl t_g)), (a_t_plan, .inl (k 0, 12, .inl t_plan))] rfl (fun H locs hH => ?_)
        have h := Option.some.inj h
        subst h
        exact ge_v hx hb hr hlocks hQ hK hH hAe dX11_tellMeasure_218
    · replace h := dc_pos c9 h
      refine lv_aload_n hx hb dX11_tellMeasure_96 rfl (lv_at hl 0 rfl) ?_
      refine lv_aload_n hx hb dX11_tellMeasure_97 rfl (lv_at hl 0 rfl) ?_
      obtain ⟨q10, hqq10, h⟩ := dc_bind h
      refine gc_Vi (ws' := [(a_t, .inr (10, [v_t_thrown, .ref a_t_g, .ref a_t_ahead, .ref a_t_history, v_t_historyMany, .ref a_t_saved, v_t_hasSaved, .ref a_t_tape, v_t_taped, v_t_at, v_t_impossibleAt, v_t_letter, .ref a_t_numbers, .ref a_t_plan, v_t_detail, v_t_keptReason, v_t_keptDetail, .long t_above, .long (1 : Int64), v_t_bestAbove, v_t_bestBelow, .ref a_t_bestPlan, .ref a_t_sort, .ref a_t_size, .ref a_t_whole, .ref a_t_parts])), (a_t_g, .inl (k 0, 221, .inl t_g)), (a_t_plan, .inl (k 0, 12, .inl t_plan))]) (As := []) (rest := [.ref a_t]) (n := 0) (ci := 10) (cq := (RX11, TX11, 26)) hTs ⟨hx, hb, hml, hown, hts⟩ (mX11_cutLengths l Ts hTs D k H.size a_t a_t_g a_t_ahead a_t_history a_t_saved a_t_tape a_t_numbers a_t_plan a_t_bestPlan a_t_sort a_t_size a_t_whole a_t_parts t_g t_plan (.long t_above) v_t_at (.long (1 : Int64)) v_t_bestAbove v_t_bestBelow v_t_detail v_t_hasSaved v_t_historyMany v_t_impossibleAt v_t_keptDetail v_t_keptReason v_t_letter v_t_taped v_t_thrown q10 hqq10) u_ml_X11_192 u_im_X11_cutLengths u_se_X11_cutLengths u_in_X11 u_co_X11_cutLengths hd_X11_cutLengths ⟨Nat.le_of_ble_eq_true rfl, Nat.le_of_ble_eq_true rfl⟩ ⟨rfl, rfl⟩ hK hH hA (cut0 (isC := [0, 1, 2]) rfl rfl rfl) rfl rfl rfl rfl hl.1 (Nat.le_of_ble_eq_true rfl) dX11_tellMeasure_98 ⟨Nat.le_of_ble_eq_true rfl, Nat.le_of_ble_eq_true rfl⟩ (fun H locs hH => ?_)
      refine lv_i2l (v := (Int32.toInt64 q10)) hx hb dX11_tellMeasure_101 rfl ?_
      refine gk_put (ci := 10) (C := RX11) (T := TX11) (N := 26) hx hb hts u_ws_X11 tyX11_ok nmX11 hown hK hH 0 rfl rfl 17 (by decide) u_fl_X11_181 rfl rfl rfl (Nat.le_of_ble_eq_true rfl) dX11_tellMeasure_102 [(a_t, .inr (10, [v_t_thrown, .ref a_t_g, .ref a_t_ahead, .ref a_t_history, v_t_historyMany, .ref a_t_saved, v_t_hasSaved, .ref a_t_tape, v_t_taped, v_t_at, v_t_impossibleAt, v_t_letter, .ref a_t_numbers, .ref a_t_plan, v_t_detail, v_t_keptReason, v_t_keptDetail, .long (Int32.toInt64 q10), .long (1 : Int64), v_t_bestAbove, v_t_bestBelow, .ref a_t_bestPlan, .ref a_t_sort, .ref a_t_size, .ref a_t_whole, .ref a_t_parts])), (a_t_g, .inl (k 0, 221, .inl t_g)), (a_t_plan, .inl (k 0, 12, .inl t_plan))] rfl (fun H locs hH => ?_)
      refine lv_goto (tgt := 186) hx hb dX11_tellMeasure_105 (by decide) ?_
      refine lv_aload_n hx hb dX11_tellMeasure_186 rfl (lv_at hl 0 rfl) ?_
      refine gk_get (ci := 10) (C := RX11) (T := TX11) (N := 26) hx hb hts u_ws_X11 hown hK hH 0 rfl rfl 17 (by decide) u_fl_X11_181 rfl dX11_tellMeasure_187 ?_
      refine lv_aload_n hx hb dX11_tellMeasure_190 rfl (lv_at hl 0 rfl) ?_
      refine gk_get (ci := 10) (C := RX11) (T := TX11) (N := 26) hx hb hts u_ws_X11 hown hK hH 0 rfl rfl 18 (by decide) u_fl_X11_185 rfl dX11_tellMeasure_191 ?_
      obtain ⟨q11, hqq11, h⟩ := dc_bind h
      refine gc_Sl (ws' := [(a_t, .inr (10, [v_t_thrown, .ref a_t_g, .ref a_t_ahead, .ref a_t_history, v_t_historyMany, .ref a_t_saved, v_t_hasSaved, .ref a_t_tape, v_t_taped, v_t_at, v_t_impossibleAt, v_t_letter, .ref a_t_numbers, .ref a_t_plan, v_t_detail, v_t_keptReason, v_t_keptDetail, .long (Int32.toInt64 q10), .long (1 : Int64), v_t_bestAbove, v_t_bestBelow, .ref a_t_bestPlan, .ref a_t_sort, .ref a_t_size, .ref a_t_whole, .ref a_t_parts])), (a_t_g, .inl (k 0, 221, .inl t_g)), (a_t_plan, .inl (k 0, 12, .inl t_plan))]) (As := [.long (Int32.toInt64 q10), .long (1 : Int64)]) (rest := []) (n := 2) hTs ⟨hx, hb, hml, hown, hts⟩ (mX11_divisor l Ts hTs D k H.size (Int32.toInt64 q10) (1 : Int64) q11 hqq11) u_ml_X11_198 u_st_X11_divisor u_in_X11 u_co_X11_divisor hd_X11_divisor ⟨Nat.le_of_ble_eq_true rfl, Nat.le_of_ble_eq_true rfl⟩ ⟨rfl, rfl⟩ hK hH hA (cut0 (isC := []) rfl rfl rfl) rfl rfl hl.1 (Nat.le_of_ble_eq_true rfl) dX11_tellMeasure_194 ⟨Nat.le_of_ble_eq_true rfl, Nat.le_of_ble_eq_true rfl⟩ (fun H locs hH => ?_)
      refine lv_lstore_n (lv' := [(2, .long q11), (0, .ref a_t), (1, .int x1)]) hx hb dX11_tellMeasure_197 rfl hl (by decide) rfl (fun ls hl => ?_)
      refine lv_aload_n hx hb dX11_tellMeasure_198 rfl (lv_at hl 1 rfl) ?_
      refine lv_dup hx hb dX11_tellMeasure_199 rfl ?_
      refine gk_get (ci := 10) (C := RX11) (T := TX11) (N := 26) hx hb hts u_ws_X11 hown hK hH 0 rfl rfl 17 (by decide) u_fl_X11_181 rfl dX11_tellMeasure_200 ?_
      refine lv_lload_n hx hb dX11_tellMeasure_203 rfl (lv_at hl 0 rfl) ?_
      obtain ⟨g12, h⟩ := dc_neL h
      refine lv_ldiv hx hb dX11_tellMeasure_204 g12 ?_
      refine gk_put (ci := 10) (C := RX11) (T := TX11) (N := 26) hx hb hts u_ws_X11 tyX11_ok nmX11 hown hK hH 0 rfl rfl 17 (by decide) u_fl_X11_181 rfl rfl rfl (Nat.le_of_ble_eq_true rfl) dX11_tellMeasure_205 [(a_t, .inr (10, [v_t_thrown, .ref a_t_g, .ref a_t_ahead, .ref a_t_history, v_t_historyMany, .ref a_t_saved, v_t_hasSaved, .ref a_t_tape, v_t_taped, v_t_at, v_t_impossibleAt, v_t_letter, .ref a_t_numbers, .ref a_t_plan, v_t_detail, v_t_keptReason, v_t_keptDetail, .long ((Int32.toInt64 q10) / q11), .long (1 : Int64), v_t_bestAbove, v_t_bestBelow, .ref a_t_bestPlan, .ref a_t_sort, .ref a_t_size, .ref a_t_whole, .ref a_t_parts])), (a_t_g, .inl (k 0, 221, .inl t_g)), (a_t_plan, .inl (k 0, 12, .inl t_plan))] rfl (fun H locs hH => ?_)
      refine lv_aload_n hx hb dX11_tellMeasure_208 rfl (lv_at hl 1 rfl) ?_
      refine lv_dup hx hb dX11_tellMeasure_209 rfl ?_
      refine gk_get (ci := 10) (C := RX11) (T := TX11) (N := 26) hx hb hts u_ws_X11 hown hK hH 0 rfl rfl 18 (by decide) u_fl_X11_185 rfl dX11_tellMeasure_210 ?_
      refine lv_lload_n hx hb dX11_tellMeasure_213 rfl (lv_at hl 0 rfl) ?_
      obtain ⟨g13, h⟩ := dc_neL h
      refine lv_ldiv hx hb dX11_tellMeasure_214 g13 ?_
      refine gk_put (ci := 10) (C := RX11) (T := TX11) (N := 26) hx hb hts u_ws_X11 tyX11_ok nmX11 hown hK hH 0 rfl rfl 18 (by decide) u_fl_X11_185 rfl rfl rfl (Nat.le_of_ble_eq_true rfl) dX11_tellMeasure_215 [(a_t, .inr (10, [v_t_thrown, .ref a_t_g, .ref a_t_ahead, .ref a_t_history, v_t_historyMany, .ref a_t_saved, v_t_hasSaved, .ref a_t_tape, v_t_taped, v_t_at, v_t_impossibleAt, v_t_letter, .ref a_t_numbers, .ref a_t_plan, v_t_detail, v_t_keptReason, v_t_keptDetail, .long ((Int32.toInt64 q10) / q11), .long ((1 : Int64) / q11), v_t_bestAbove, v_t_bestBelow, .ref a_t_bestPlan, .ref a_t_sort, .ref a_t_size, .ref a_t_whole, .ref a_t_parts])), (a_t_g, .inl (k 0, 221, .inl t_g)), (a_t_plan, .inl (k 0, 12, .inl t_plan))] rfl (fun H locs hH => ?_)
      have h := Option.some.inj h
      subst h
      exact ge_v hx hb hr hlocks hQ hK hH hAe dX11_tellMeasure_218
  · replace h := dc_pos c1 h
    refine lv_lconst (v := 0) hx hb dX11_tellMeasure_9 (by decide) ?_
    refine lv_lstore_n (lv' := [(2, .long (0 : Int64)), (0, .ref a_t), (1, .int x1)]) hx hb dX11_tellMeasure_10 rfl hl (by decide) rfl (fun ls hl => ?_)
    refine lv_lconst (v := 0) hx hb dX11_tellMeasure_11 (by decide) ?_
    refine lv_lstore (lv' := [(4, .long (0 : Int64)), (2, .long (0 : Int64)), (0, .ref a_t), (1, .int x1)]) hx hb dX11_tellMeasure_12 hl (by decide) rfl (fun ls hl => ?_)
    refine lv_iconst (v := 0) hx hb dX11_tellMeasure_14 (by decide) ?_
    refine lv_istore (lv' := [(6, .int (0 : Int32)), (4, .long (0 : Int64)), (2, .long (0 : Int64)), (0, .ref a_t), (1, .int x1)]) hx hb dX11_tellMeasure_15 hl (by decide) rfl (fun ls hl => ?_)
    refine L17 _ _ (0 : Int64) (0 : Int64) (0 : Int32) t_above (1 : Int64) h (fun z17_2 z17_4 z17_t_above z17_t_below H locs ls h hH hl => ?_) H locs ls hH (lv_sub hl [3, 2, 1, 0] rfl)
    refine lv_aload_n hx hb dX11_tellMeasure_77 rfl (lv_at hl 0 rfl) ?_
    refine lv_lload_n hx hb dX11_tellMeasure_78 rfl (lv_at hl 1 rfl) ?_
    refine gk_put (ci := 10) (C := RX11) (T := TX11) (N := 26) hx hb hts u_ws_X11 tyX11_ok nmX11 hown hK hH 0 rfl rfl 17 (by decide) u_fl_X11_181 rfl rfl rfl (Nat.le_of_ble_eq_true rfl) dX11_tellMeasure_79 [(a_t, .inr (10, [v_t_thrown, .ref a_t_g, .ref a_t_ahead, .ref a_t_history, v_t_historyMany, .ref a_t_saved, v_t_hasSaved, .ref a_t_tape, v_t_taped, v_t_at, v_t_impossibleAt, v_t_letter, .ref a_t_numbers, .ref a_t_plan, v_t_detail, v_t_keptReason, v_t_keptDetail, .long z17_2, .long z17_t_below, v_t_bestAbove, v_t_bestBelow, .ref a_t_bestPlan, .ref a_t_sort, .ref a_t_size, .ref a_t_whole, .ref a_t_parts])), (a_t_g, .inl (k 0, 221, .inl t_g)), (a_t_plan, .inl (k 0, 12, .inl t_plan))] rfl (fun H locs hH => ?_)
    refine lv_aload_n hx hb dX11_tellMeasure_82 rfl (lv_at hl 0 rfl) ?_
    refine lv_lload hx hb dX11_tellMeasure_83 (lv_at hl 2 rfl) ?_
    refine gk_put (ci := 10) (C := RX11) (T := TX11) (N := 26) hx hb hts u_ws_X11 tyX11_ok nmX11 hown hK hH 0 rfl rfl 18 (by decide) u_fl_X11_185 rfl rfl rfl (Nat.le_of_ble_eq_true rfl) dX11_tellMeasure_85 [(a_t, .inr (10, [v_t_thrown, .ref a_t_g, .ref a_t_ahead, .ref a_t_history, v_t_historyMany, .ref a_t_saved, v_t_hasSaved, .ref a_t_tape, v_t_taped, v_t_at, v_t_impossibleAt, v_t_letter, .ref a_t_numbers, .ref a_t_plan, v_t_detail, v_t_keptReason, v_t_keptDetail, .long z17_2, .long z17_4, v_t_bestAbove, v_t_bestBelow, .ref a_t_bestPlan, .ref a_t_sort, .ref a_t_size, .ref a_t_whole, .ref a_t_parts])), (a_t_g, .inl (k 0, 221, .inl t_g)), (a_t_plan, .inl (k 0, 12, .inl t_plan))] rfl (fun H locs hH => ?_)
    refine lv_goto (tgt := 186) hx hb dX11_tellMeasure_88 (by decide) ?_
    refine lv_aload_n hx hb dX11_tellMeasure_186 rfl (lv_at hl 0 rfl) ?_
    refine gk_get (ci := 10) (C := RX11) (T := TX11) (N := 26) hx hb hts u_ws_X11 hown hK hH 0 rfl rfl 17 (by decide) u_fl_X11_181 rfl dX11_tellMeasure_187 ?_
    refine lv_aload_n hx hb dX11_tellMeasure_190 rfl (lv_at hl 0 rfl) ?_
    refine gk_get (ci := 10) (C := RX11) (T := TX11) (N := 26) hx hb hts u_ws_X11 hown hK hH 0 rfl rfl 18 (by decide) u_fl_X11_185 rfl dX11_tellMeasure_191 ?_
    obtain ⟨q6, hqq6, h⟩ := dc_bind h
    refine gc_Sl (ws' := [(a_t, .inr (10, [v_t_thrown, .ref a_t_g, .ref a_t_ahead, .ref a_t_history, v_t_historyMany, .ref a_t_saved, v_t_hasSaved, .ref a_t_tape, v_t_taped, v_t_at, v_t_impossibleAt, v_t_letter, .ref a_t_numbers, .ref a_t_plan, v_t_detail, v_t_keptReason, v_t_keptDetail, .long z17_2, .long z17_4, v_t_bestAbove, v_t_bestBelow, .ref a_t_bestPlan, .ref a_t_sort, .ref a_t_size, .ref a_t_whole, .ref a_t_parts])), (a_t_g, .inl (k 0, 221, .inl t_g)), (a_t_plan, .inl (k 0, 12, .inl t_plan))]) (As := [.long z17_2, .long z17_4]) (rest := []) (n := 2) hTs ⟨hx, hb, hml, hown, hts⟩ (mX11_divisor l Ts hTs D k H.size z17_2 z17_4 q6 hqq6) u_ml_X11_198 u_st_X11_divisor u_in_X11 u_co_X11_divisor hd_X11_divisor ⟨Nat.le_of_ble_eq_true rfl, Nat.le_of_ble_eq_true rfl⟩ ⟨rfl, rfl⟩ hK hH hA (cut0 (isC := []) rfl rfl rfl) rfl rfl hl.1 (Nat.le_of_ble_eq_true rfl) dX11_tellMeasure_194 ⟨Nat.le_of_ble_eq_true rfl, Nat.le_of_ble_eq_true rfl⟩ (fun H locs hH => ?_)
    refine lv_lstore_n (lv' := [(2, .long q6), (0, .ref a_t), (4, .long z17_4)]) hx hb dX11_tellMeasure_197 rfl hl (by decide) rfl (fun ls hl => ?_)
    refine lv_aload_n hx hb dX11_tellMeasure_198 rfl (lv_at hl 1 rfl) ?_
    refine lv_dup hx hb dX11_tellMeasure_199 rfl ?_
    refine gk_get (ci := 10) (C := RX11) (T := TX11) (N := 26) hx hb hts u_ws_X11 hown hK hH 0 rfl rfl 17 (by decide) u_fl_X11_181 rfl dX11_tellMeasure_200 ?_
    refine lv_lload_n hx hb dX11_tellMeasure_203 rfl (lv_at hl 0 rfl) ?_
    obtain ⟨g7, h⟩ := dc_neL h
    refine lv_ldiv hx hb dX11_tellMeasure_204 g7 ?_
    refine gk_put (ci := 10) (C := RX11) (T := TX11) (N := 26) hx hb hts u_ws_X11 tyX11_ok nmX11 hown hK hH 0 rfl rfl 17 (by decide) u_fl_X11_181 rfl rfl rfl (Nat.le_of_ble_eq_true rfl) dX11_tellMeasure_205 [(a_t, .inr (10, [v_t_thrown, .ref a_t_g, .ref a_t_ahead, .ref a_t_history, v_t_historyMany, .ref a_t_saved, v_t_hasSaved, .ref a_t_tape, v_t_taped, v_t_at, v_t_impossibleAt, v_t_letter, .ref a_t_numbers, .ref a_t_plan, v_t_detail, v_t_keptReason, v_t_keptDetail, .long (z17_2 / q6), .long z17_4, v_t_bestAbove, v_t_bestBelow, .ref a_t_bestPlan, .ref a_t_sort, .ref a_t_size, .ref a_t_whole, .ref a_t_parts])), (a_t_g, .inl (k 0, 221, .inl t_g)), (a_t_plan, .inl (k 0, 12, .inl t_plan))] rfl (fun H locs hH => ?_)
    refine lv_aload_n hx hb dX11_tellMeasure_208 rfl (lv_at hl 1 rfl) ?_
    refine lv_dup hx hb dX11_tellMeasure_209 rfl ?_
    refine gk_get (ci := 10) (C := RX11) (T := TX11) (N := 26) hx hb hts u_ws_X11 hown hK hH 0 rfl rfl 18 (by decide) u_fl_X11_185 rfl dX11_tellMeasure_210 ?_
    refine lv_lload_n hx hb dX11_tellMeasure_213 rfl (lv_at hl 0 rfl) ?_
    obtain ⟨g8, h⟩ := dc_neL h
    refine lv_ldiv hx hb dX11_tellMeasure_214 g8 ?_
    refine gk_put (ci := 10) (C := RX11) (T := TX11) (N := 26) hx hb hts u_ws_X11 tyX11_ok nmX11 hown hK hH 0 rfl rfl 18 (by decide) u_fl_X11_185 rfl rfl rfl (Nat.le_of_ble_eq_true rfl) dX11_tellMeasure_215 [(a_t, .inr (10, [v_t_thrown, .ref a_t_g, .ref a_t_ahead, .ref a_t_history, v_t_historyMany, .ref a_t_saved, v_t_hasSaved, .ref a_t_tape, v_t_taped, v_t_at, v_t_impossibleAt, v_t_letter, .ref a_t_numbers, .ref a_t_plan, v_t_detail, v_t_keptReason, v_t_keptDetail, .long (z17_2 / q6), .long (z17_4 / q6), v_t_bestAbove, v_t_bestBelow, .ref a_t_bestPlan, .ref a_t_sort, .ref a_t_size, .ref a_t_whole, .ref a_t_parts])), (a_t_g, .inl (k 0, 221, .inl t_g)), (a_t_plan, .inl (k 0, 12, .inl t_plan))] rfl (fun H locs hH => ?_)
    have h := Option.some.inj h
    subst h
    exact ge_v hx hb hr hlocks hQ hK hH hAe dX11_tellMeasure_218
theorem hd_X11_measure : yX11_measure.cls = RX11 ∧ yX11_measure.cls ≠ "java/lang/invoke/MethodHandle" ∧ yX11_measure.cls ≠ "java/lang/invoke/VarHandle" ∧ (parseMethodDescriptor yX11_measure.desc).map (fun d => d.parameters.length) = some 2 := by decide +kernel
set_option maxHeartbeats 4000000 in
set_option maxRecDepth 100000 in
theorem mX11_measure (l : Launch) (Ts : List Cond) (hTs : ∀ w, w ∈ Ts ↔ w ∈ uT) (D : va_G) (k : Nat → ClassId) (sz : Nat) (a_t : Nat) (a_t_g : Nat) (a_t_ahead : Nat) (a_t_history : Nat) (a_t_saved : Nat) (a_t_tape : Nat) (a_t_numbers : Nat) (a_t_plan : Nat) (a_t_bestPlan : Nat) (a_t_sort : Nat) (a_t_size : Nat) (a_t_whole : Nat) (a_t_parts : Nat) (t_above : Int64) (t_below : Int64) (t_g : Nat → Int32) (t_plan : Nat → Int32) (v_t_at : Value) (v_t_bestAbove : Value) (v_t_bestBelow : Value) (v_t_detail : Value) (v_t_hasSaved : Value) (v_t_historyMany : Value) (v_t_impossibleAt : Value) (v_t_keptDetail : Value) (v_t_keptReason : Value) (v_t_letter : Value) (v_t_taped : Value) (v_t_thrown : Value) (x1 : Int32) (x2 : Int32) (r : Int64 × Int64 × Int64 × (Nat → Int32) × Int32) (h : fX11_measure t_above t_below t_g t_plan x1 x2 = some r) : Met l yX11_measure (Cond.code yX11_measure cX11_measure 3 (some .long) :: Ts) ({ frames := 5, cells := 0, slots := 0, locals := 119 } : Room) (preM D k [.ref a_t, .int x1, .int x2] [(a_t, .inr (10, [v_t_thrown, .ref a_t_g, .ref a_t_ahead, .ref a_t_history, v_t_historyMany, .ref a_t_saved, v_t_hasSaved, .ref a_t_tape, v_t_taped, v_t_at, v_t_impossibleAt, v_t_letter, .ref a_t_numbers, .ref a_t_plan, v_t_detail, v_t_keptReason, v_t_keptDetail, .long t_above, .long t_below, v_t_bestAbove, v_t_bestBelow, .ref a_t_bestPlan, .ref a_t_sort, .ref a_t_size, .ref a_t_whole, .ref a_t_parts])), (a_t_g, .inl (k 0, 221, .inl t_g)), (a_t_plan, .inl (k 0, 12, .inl t_plan))] sz) (postL D k r.1 [(a_t, .inr (10, [v_t_thrown, .ref a_t_g, .ref a_t_ahead, .ref a_t_history, v_t_historyMany, .ref a_t_saved, v_t_hasSaved, .ref a_t_tape, v_t_taped, v_t_at, v_t_impossibleAt, v_t_letter, .ref a_t_numbers, .ref a_t_plan, v_t_detail, v_t_keptReason, v_t_keptDetail, .long t_above, .long t_below, v_t_bestAbove, v_t_bestBelow, .ref a_t_bestPlan, .ref a_t_sort, .ref a_t_size, .ref a_t_whole, .ref a_t_parts])), (a_t_g, .inl (k 0, 221, .inl t_g)), (a_t_plan, .inl (k 0, 12, .inl t_plan))] [(a_t, .inr (10, [.int r.2.2.2.2, .ref a_t_g, .ref a_t_ahead, .ref a_t_history, v_t_historyMany, .ref a_t_saved, v_t_hasSaved, .ref a_t_tape, v_t_taped, v_t_at, v_t_impossibleAt, v_t_letter, .ref a_t_numbers, .ref a_t_plan, v_t_detail, v_t_keptReason, v_t_keptDetail, .long r.2.1, .long r.2.2.1, v_t_bestAbove, v_t_bestBelow, .ref a_t_bestPlan, .ref a_t_sort, .ref a_t_size, .ref a_t_whole, .ref a_t_parts])), (a_t_g, .inl (k 0, 221, .inl t_g)), (a_t_plan, .inl (k 0, 12, .inl r.2.2.2.1))] sz) 0 0 (va_A [(a_t, .inr (10, [v_t_thrown, .ref a_t_g, .ref a_t_ahead, .ref a_t_history, v_t_historyMany, .ref a_t_saved, v_t_hasSaved, .ref a_t_tape, v_t_taped, v_t_at, v_t_impossibleAt, v_t_letter, .ref a_t_numbers, .ref a_t_plan, v_t_detail, v_t_keptReason, v_t_keptDetail, .long t_above, .long t_below, v_t_bestAbove, v_t_bestBelow, .ref a_t_bestPlan, .ref a_t_sort, .ref a_t_size, .ref a_t_whole, .ref a_t_parts])), (a_t_g, .inl (k 0, 221, .inl t_g)), (a_t_plan, .inl (k 0, 12, .inl t_plan))] sz) := by
  refine Met.ofW (cc := cX11_measure) (maxL := 3) (ret := (some .long)) (by decide) rfl ?_
  intro p e s m args below meth c s₁ B hml hv
  obtain ⟨rfl, hsz, hP, hK, hD0⟩ := hv
  have hx := B.exec
  have hb := B.bytes
  have hr := B.returns
  have hts0 := atoms_spec (ws := (Cond.code yX11_measure cX11_measure 3 (some .long) :: Ts)) B.pre
  have hts : ∀ w ∈ uT, w.before _ s = true := fun w h => hts0 w (List.mem_cons_of_mem _ ((hTs w).mpr h))
  clear hts0
  have hown : s.vm.findClass RX11 = some m.cls := findClass_of_methodNamed B.named
  have hlocks := B.notSynchronized
  subst hsz
  have hD := hD0.self (sz := s.heap.size)
  generalize hAe : va_A [(a_t, .inr (10, [v_t_thrown, .ref a_t_g, .ref a_t_ahead, .ref a_t_history, v_t_historyMany, .ref a_t_saved, v_t_hasSaved, .ref a_t_tape, v_t_taped, v_t_at, v_t_impossibleAt, v_t_letter, .ref a_t_numbers, .ref a_t_plan, v_t_detail, v_t_keptReason, v_t_keptDetail, .long t_above, .long t_below, v_t_bestAbove, v_t_bestBelow, .ref a_t_bestPlan, .ref a_t_sort, .ref a_t_size, .ref a_t_whole, .ref a_t_parts])), (a_t_g, .inl (k 0, 221, .inl t_g)), (a_t_plan, .inl (k 0, 12, .inl t_plan))] s.heap.size = A at hD ⊢
  have hA : ∀ q : Nat, s.heap.size ≤ q → A q := fun q h => by rw [← hAe]; exact Or.inr h
  have hH : HOK D A s.heap [(a_t, .inr (10, [v_t_thrown, .ref a_t_g, .ref a_t_ahead, .ref a_t_history, v_t_historyMany, .ref a_t_saved, v_t_hasSaved, .ref a_t_tape, v_t_taped, v_t_at, v_t_impossibleAt, v_t_letter, .ref a_t_numbers, .ref a_t_plan, v_t_detail, v_t_keptReason, v_t_keptDetail, .long t_above, .long t_below, v_t_bestAbove, v_t_bestBelow, .ref a_t_bestPlan, .ref a_t_sort, .ref a_t_size, .ref a_t_whole, .ref a_t_parts])), (a_t_g, .inl (k 0, 221, .inl t_g)), (a_t_plan, .inl (k 0, 12, .inl t_plan))] s.heap [] := ⟨hP, hD, va_S.rf⟩
  have hl := lv_entry ([.ref a_t, .int x1, .int x2]) (n := 3) (Nat.le_of_ble_eq_true rfl)
  rw [lg_entry_eq]
  generalize (lg_sl ([.ref a_t, .int x1, .int x2]) ++ List.replicate (3 - (lg_sl ([.ref a_t, .int x1, .int x2])).length) Slot.unset).toArray = ls at hl ⊢
  have hl : lv_has ls 3 [(0, .ref a_t), (1, .int x1), (2, .int x2)] := hl
  generalize hQ : MQ below (postL D k r.1 [(a_t, .inr (10, [v_t_thrown, .ref a_t_g, .ref a_t_ahead, .ref a_t_history, v_t_historyMany, .ref a_t_saved, v_t_hasSaved, .ref a_t_tape, v_t_taped, v_t_at, v_t_impossibleAt, v_t_letter, .ref a_t_numbers, .ref a_t_plan, v_t_detail, v_t_keptReason, v_t_keptDetail, .long t_above, .long t_below, v_t_bestAbove, v_t_bestBelow, .ref a_t_bestPlan, .ref a_t_sort, .ref a_t_size, .ref a_t_whole, .ref a_t_parts])), (a_t_g, .inl (k 0, 221, .inl t_g)), (a_t_plan, .inl (k 0, 12, .inl t_plan))] [(a_t, .inr (10, [.int r.2.2.2.2, .ref a_t_g, .ref a_t_ahead, .ref a_t_history, v_t_historyMany, .ref a_t_saved, v_t_hasSaved, .ref a_t_tape, v_t_taped, v_t_at, v_t_impossibleAt, v_t_letter, .ref a_t_numbers, .ref a_t_plan, v_t_detail, v_t_keptReason, v_t_keptDetail, .long r.2.1, .long r.2.2.1, v_t_bestAbove, v_t_bestBelow, .ref a_t_bestPlan, .ref a_t_sort, .ref a_t_size, .ref a_t_whole, .ref a_t_parts])), (a_t_g, .inl (k 0, 221, .inl t_g)), (a_t_plan, .inl (k 0, 12, .inl r.2.2.2.1))] s.heap.size) (List.toArray [.ref a_t, .int x1, .int x2]) s 0 0 A = Q
  clear hP hD hD0
  suffices K : ∀ (H : Heap) (locs : List Loc), HOK D A s.heap [(a_t, .inr (10, [v_t_thrown, .ref a_t_g, .ref a_t_ahead, .ref a_t_history, v_t_historyMany, .ref a_t_saved, v_t_hasSaved, .ref a_t_tape, v_t_taped, v_t_at, v_t_impossibleAt, v_t_letter, .ref a_t_numbers, .ref a_t_plan, v_t_detail, v_t_keptReason, v_t_keptDetail, .long t_above, .long t_below, v_t_bestAbove, v_t_bestBelow, .ref a_t_bestPlan, .ref a_t_sort, .ref a_t_size, .ref a_t_whole, .ref a_t_parts])), (a_t_g, .inl (k 0, 221, .inl t_g)), (a_t_plan, .inl (k 0, 12, .inl t_plan))] H locs → W p l e ({ frames := 5, cells := 0, slots := 0, locals := 119 } : Room) s m (List.toArray [.ref a_t, .int x1, .int x2]) below meth c H locs 0 0 Q (F0 m 0 ls []) from K s.heap [] hH
  intro H locs hH
  rw [fX11_measure] at h
  refine lv_aload_n hx hb dX11_measure_0 rfl (lv_at hl 0 rfl) ?_
  refine lv_iload_n hx hb dX11_measure_1 rfl (lv_at hl 1 rfl) ?_
  refine lv_iconst (v := 0) hx hb dX11_measure_2 (by decide) ?_
  refine lv_iconst (v := 3) hx hb dX11_measure_3 (by decide) ?_
  obtain ⟨q1, hqq1, h⟩ := dc_bind h
  refine gc_Si (ws' := [(a_t, .inr (10, [v_t_thrown, .ref a_t_g, .ref a_t_ahead, .ref a_t_history, v_t_historyMany, .ref a_t_saved, v_t_hasSaved, .ref a_t_tape, v_t_taped, v_t_at, v_t_impossibleAt, v_t_letter, .ref a_t_numbers, .ref a_t_plan, v_t_detail, v_t_keptReason, v_t_keptDetail, .long t_above, .long t_below, v_t_bestAbove, v_t_bestBelow, .ref a_t_bestPlan, .ref a_t_sort, .ref a_t_size, .ref a_t_whole, .ref a_t_parts])), (a_t_g, .inl (k 0, 221, .inl t_g)), (a_t_plan, .inl (k 0, 12, .inl t_plan))]) (As := [.int x1, .int (0 : Int32), .int (3 : Int32)]) (rest := [.ref a_t]) (n := 3) hTs ⟨hx, hb, hml, hown, hts⟩ (mX11_in l Ts hTs D k H.size x1 (0 : Int32) (3 : Int32) q1 hqq1) u_ml_X11_55 u_st_X11_in u_in_X11 u_co_X11_in hd_X11_in ⟨Nat.le_of_ble_eq_true rfl, Nat.le_of_ble_eq_true rfl⟩ ⟨rfl, rfl⟩ hK hH hA (cut0 (isC := []) rfl rfl rfl) rfl rfl hl.1 (Nat.le_of_ble_eq_true rfl) dX11_measure_4 ⟨Nat.le_of_ble_eq_true rfl, Nat.le_of_ble_eq_true rfl⟩ (fun H locs hH => ?_)
  refine lv_if_ne (tgt := 14) hx hb dX11_measure_7 (by decide) (fun c2 => ?_) (fun c2 => ?_)
  · replace h := dc_neg c2 h
    refine lv_aload_n hx hb dX11_measure_14 rfl (lv_at hl 0 rfl) ?_
    refine gk_get (ci := 10) (C := RX11) (T := TX11) (N := 26) hx hb hts u_ws_X11 hown hK hH 0 rfl rfl 1 (by decide) u_fl_X11_7 rfl dX11_measure_15 ?_
    refine lv_sipush (v := 219) hx hb dX11_measure_18 (by decide) ?_
    refine gk_iald hx hb hK hH 1 rfl (dk_in (by decide)) dX11_measure_21 ?_
    refine lv_if_ne (tgt := 29) hx hb dX11_measure_22 (by decide) (fun c3 => ?_) (fun c3 => ?_)
    · replace h := dc_neg c3 h
      refine lv_iconst (v := 0) hx hb dX11_measure_29 (by decide) ?_
      refine gk_put (ci := 10) (C := RX11) (T := TX11) (N := 26) hx hb hts u_ws_X11 tyX11_ok nmX11 hown hK hH 0 rfl rfl 0 (by decide) u_fl_X11_52 rfl rfl rfl (Nat.le_of_ble_eq_true rfl) dX11_measure_30 [(a_t, .inr (10, [.int (0 : Int32), .ref a_t_g, .ref a_t_ahead, .ref a_t_history, v_t_historyMany, .ref a_t_saved, v_t_hasSaved, .ref a_t_tape, v_t_taped, v_t_at, v_t_impossibleAt, v_t_letter, .ref a_t_numbers, .ref a_t_plan, v_t_detail, v_t_keptReason, v_t_keptDetail, .long t_above, .long t_below, v_t_bestAbove, v_t_bestBelow, .ref a_t_bestPlan, .ref a_t_sort, .ref a_t_size, .ref a_t_whole, .ref a_t_parts])), (a_t_g, .inl (k 0, 221, .inl t_g)), (a_t_plan, .inl (k 0, 12, .inl t_plan))] rfl (fun H locs hH => ?_)
      refine lv_aload_n hx hb dX11_measure_33 rfl (lv_at hl 0 rfl) ?_
      refine gk_get (ci := 10) (C := RX11) (T := TX11) (N := 26) hx hb hts u_ws_X11 hown hK hH 0 rfl rfl 0 (by decide) u_fl_X11_52 rfl dX11_measure_34 ?_
      refine lv_if_eq (tgt := 42) hx hb dX11_measure_37 (by decide) (fun _ => ?_) (fun c => absurd c (by decide))
      refine lv_aload_n hx hb dX11_measure_42 rfl (lv_at hl 0 rfl) ?_
      obtain ⟨q4, hqq4, h⟩ := dc_bind h
      refine gc_Vv (ws' := [(a_t, .inr (10, [.int (0 : Int32), .ref a_t_g, .ref a_t_ahead, .ref a_t_history, v_t_historyMany, .ref a_t_saved, v_t_hasSaved, .ref a_t_tape, v_t_taped, v_t_at, v_t_impossibleAt, v_t_letter, .ref a_t_numbers, .ref a_t_plan, v_t_detail, v_t_keptReason, v_t_keptDetail, .long t_above, .long t_below, v_t_bestAbove, v_t_bestBelow, .ref a_t_bestPlan, .ref a_t_sort, .ref a_t_size, .ref a_t_whole, .ref a_t_parts])), (a_t_g, .inl (k 0, 221, .inl t_g)), (a_t_plan, .inl (k 0, 12, .inl q4))]) (As := []) (rest := []) (n := 0) (ci := 10) (cq := (RX11, TX11, 26)) hTs ⟨hx, hb, hml, hown, hts⟩ (mX11_tells l Ts hTs D k H.size a_t a_t_g a_t_ahead a_t_history a_t_saved a_t_tape a_t_numbers a_t_plan a_t_bestPlan a_t_sort a_t_size a_t_whole a_t_parts t_g t_plan (.long t_above) v_t_at (.long t_below) v_t_bestAbove v_t_bestBelow v_t_detail v_t_hasSaved v_t_historyMany v_t_impossibleAt v_t_keptDetail v_t_keptReason v_t_letter v_t_taped (.int (0 : Int32)) q4 hqq4) u_ml_X11_164 u_im_X11_tells u_se_X11_tells u_in_X11 u_co_X11_tells hd_X11_tells ⟨Nat.le_of_ble_eq_true rfl, Nat.le_of_ble_eq_true rfl⟩ ⟨rfl, rfl⟩ hK hH hA (cutM (isC := [0, 1, 2]) [some 0, some 1, some 2] 3 rfl rfl rfl rfl rfl rfl rfl) rfl rfl rfl rfl hl.1 (Nat.le_of_ble_eq_true rfl) dX11_measure_43 ⟨Nat.le_of_ble_eq_true rfl, Nat.le_of_ble_eq_true rfl⟩ (fun H locs hH => ?_)
      refine lv_aload_n hx hb dX11_measure_46 rfl (lv_at hl 0 rfl) ?_
      refine lv_iload_n hx hb dX11_measure_47 rfl (lv_at hl 1 rfl) ?_
      obtain ⟨q5, hqq5, h⟩ := dc_bind h
      refine gc_Vv (ws' := [(a_t, .inr (10, [.int (0 : Int32), .ref a_t_g, .ref a_t_ahead, .ref a_t_history, v_t_historyMany, .ref a_t_saved, v_t_hasSaved, .ref a_t_tape, v_t_taped, v_t_at, v_t_impossibleAt, v_t_letter, .ref a_t_numbers, .ref a_t_plan, v_t_detail, v_t_keptReason, v_t_keptDetail, .long q5.1, .long q5.2, v_t_bestAbove, v_t_bestBelow, .ref a_t_bestPlan, .ref a_t_sort, .ref a_t_size, .ref a_t_whole, .ref a_t_parts])), (a_t_g, .inl (k 0, 221, .inl t_g)), (a_t_plan, .inl (k 0, 12, .inl q4))]) (As := [.int x1]) (rest := []) (n := 1) (ci := 10) (cq := (RX11, TX11, 26)) hTs ⟨hx, hb, hml, hown, hts⟩ (mX11_tellMeasure l Ts hTs D k H.size a_t a_t_g a_t_ahead a_t_history a_t_saved a_t_tape a_t_numbers a_t_plan a_t_bestPlan a_t_sort a_t_size a_t_whole a_t_parts t_above t_g q4 v_t_at (.long t_below) v_t_bestAbove v_t_bestBelow v_t_detail v_t_hasSaved v_t_historyMany v_t_impossibleAt v_t_keptDetail v_t_keptReason v_t_letter v_t_taped (.int (0 : Int32)) x1 q5 hqq5) u_ml_X11_202 u_im_X11_tellMeasure u_se_X11_tellMeasure u_in_X11 u_co_X11_tellMeasure hd_X11_tellMeasure ⟨Nat.le_of_ble_eq_true rfl, Nat.le_of_ble_eq_true rfl⟩ ⟨rfl, rfl⟩ hK hH hA (cutM (isC := [0, 1, 2]) [some 0, some 1, some 2] 3 rfl rfl rfl rfl rfl rfl rfl) rfl rfl rfl rfl hl.1 (Nat.le_of_ble_eq_true rfl) dX11_measure_48 ⟨Nat.le_of_ble_eq_true rfl, Nat.le_of_ble_eq_true rfl⟩ (fun H locs hH => ?_)
      refine lv_iload_n hx hb dX11_measure_51 rfl (lv_at hl 2 rfl) ?_
      refine lv_if_eq (tgt := 62) hx hb dX11_measure_52 (by decide) (fun c6 => ?_) (fun c6 => ?_)
      · replace h := dc_pos c6 h
        refine lv_aload_n hx hb dX11_measure_62 rfl (lv_at hl 0 rfl) ?_
        refine gk_get (ci := 10) (C := RX11) (T := TX11) (N := 26) hx hb hts u_ws_X11 hown hK hH 0 rfl rfl 17 (by decide) u_fl_X11_181 rfl dX11_measure_63 ?_
        have h := Option.some.inj h
        subst h
        exact ge_l hx hb hr hlocks hQ hK hH hAe rfl dX11_measure_66
      · replace h := dc_neg c6 h
        refine lv_aload_n hx hb dX11_measure_55 rfl (lv_at hl 0 rfl) ?_
        refine gk_get (ci := 10) (C := RX11) (T := TX11) (N := 26) hx hb hts u_ws_X11 hown hK hH 0 rfl rfl 18 (by decide) u_fl_X11_185 rfl dX11_measure_56 ?_
        refine lv_goto (tgt := 66) hx hb dX11_measure_59 (by decide) ?_
        have h := Option.some.inj h
        subst h
        exact ge_l hx hb hr hlocks hQ hK hH hAe rfl dX11_measure_66
    · replace h := dc_pos c3 h
      refine lv_iconst (v := 2) hx hb dX11_measure_25 (by decide) ?_
      refine lv_goto (tgt := 30) hx hb dX11_measure_26 (by decide) ?_
      refine gk_put (ci := 10) (C := RX11) (T := TX11) (N := 26) hx hb hts u_ws_X11 tyX11_ok nmX11 hown hK hH 0 rfl rfl 0 (by decide) u_fl_X11_52 rfl rfl rfl (Nat.le_of_ble_eq_true rfl) dX11_measure_30 [(a_t, .inr (10, [.int (2 : Int32), .ref a_t_g, .ref a_t_ahead, .ref a_t_history, v_t_historyMany, .ref a_t_saved, v_t_hasSaved, .ref a_t_tape, v_t_taped, v_t_at, v_t_impossibleAt, v_t_letter, .ref a_t_numbers, .ref a_t_plan, v_t_detail, v_t_keptReason, v_t_keptDetail, .long t_above, .long t_below, v_t_bestAbove, v_t_bestBelow, .ref a_t_bestPlan, .ref a_t_sort, .ref a_t_size, .ref a_t_whole, .ref a_t_parts])), (a_t_g, .inl (k 0, 221, .inl t_g)), (a_t_plan, .inl (k 0, 12, .inl t_plan))] rfl (fun H locs hH => ?_)
      refine lv_aload_n hx hb dX11_measure_33 rfl (lv_at hl 0 rfl) ?_
      refine gk_get (ci := 10) (C := RX11) (T := TX11) (N := 26) hx hb hts u_ws_X11 hown hK hH 0 rfl rfl 0 (by decide) u_fl_X11_52 rfl dX11_measure_34 ?_
      refine lv_if_eq (tgt := 42) hx hb dX11_measure_37 (by decide) (fun c => absurd c (by decide)) (fun _ => ?_)
      refine lv_lconst (v := 0) hx hb dX11_measure_40 (by decide) ?_
      have h := Option.some.inj h
      subst h
      exact ge_l hx hb hr hlocks hQ hK hH hAe rfl dX11_measure_41
  · replace h := dc_pos c2 h
    refine lv_iconst (v := 1) hx hb dX11_measure_10 (by decide) ?_
    refine lv_goto (tgt := 30) hx hb dX11_measure_11 (by decide) ?_
    refine gk_put (ci := 10) (C := RX11) (T := TX11) (N := 26) hx hb hts u_ws_X11 tyX11_ok nmX11 hown hK hH 0 rfl rfl 0 (by decide) u_fl_X11_52 rfl rfl rfl (Nat.le_of_ble_eq_true rfl) dX11_measure_30 [(a_t, .inr (10, [.int (1 : Int32), .ref a_t_g, .ref a_t_ahead, .ref a_t_history, v_t_historyMany, .ref a_t_saved, v_t_hasSaved, .ref a_t_tape, v_t_taped, v_t_at, v_t_impossibleAt, v_t_letter, .ref a_t_numbers, .ref a_t_plan, v_t_detail, v_t_keptReason, v_t_keptDetail, .long t_above, .long t_below, v_t_bestAbove, v_t_bestBelow, .ref a_t_bestPlan, .ref a_t_sort, .ref a_t_size, .ref a_t_whole, .ref a_t_parts])), (a_t_g, .inl (k 0, 221, .inl t_g)), (a_t_plan, .inl (k 0, 12, .inl t_plan))] rfl (fun H locs hH => ?_)
    refine lv_aload_n hx hb dX11_measure_33 rfl (lv_at hl 0 rfl) ?_
    refine gk_get (ci := 10) (C := RX11) (T := TX11) (N := 26) hx hb hts u_ws_X11 hown hK hH 0 rfl rfl 0 (by decide) u_fl_X11_52 rfl dX11_measure_34 ?_
    refine lv_if_eq (tgt := 42) hx hb dX11_measure_37 (by decide) (fun c => absurd c (by decide)) (fun _ => ?_)
    refine lv_lconst (v := 0) hx hb dX11_measure_40 (by decide) ?_
    have h := Option.some.inj h
    subst h
    exact ge_l hx hb hr hlocks hQ hK hH hAe rfl dX11_measure_41
theorem hd_X11_compactness : yX11_compactness.cls = RX11 ∧ yX11_compactness.cls ≠ "java/lang/invoke/MethodHandle" ∧ yX11_compactness.cls ≠ "java/lang/invoke/VarHandle" ∧ (parseMethodDescriptor yX11_compactness.desc).map (fun d => d.parameters.length) = some 1 := by decide +kernel
set_option maxHeartbeats 4000000 in
set_option maxRecDepth 100000 in
theorem mX11_compactness (l : Launch) (Ts : List Cond) (hTs : ∀ w, w ∈ Ts ↔ w ∈ uT) (D : va_G) (k : Nat → ClassId) (sz : Nat) (a_t : Nat) (a_t_g : Nat) (a_t_ahead : Nat) (a_t_history : Nat) (a_t_saved : Nat) (a_t_tape : Nat) (a_t_numbers : Nat) (a_t_plan : Nat) (a_t_bestPlan : Nat) (a_t_sort : Nat) (a_t_size : Nat) (a_t_whole : Nat) (a_t_parts : Nat) (t_g : Nat → Int32) (t_plan : Nat → Int32) (v_t_above : Value) (v_t_at : Value) (v_t_below : Value) (v_t_bestAbove : Value) (v_t_bestBelow : Value) (v_t_detail : Value) (v_t_hasSaved : Value) (v_t_historyMany : Value) (v_t_impossibleAt : Value) (v_t_keptDetail : Value) (v_t_keptReason : Value) (v_t_letter : Value) (v_t_taped : Value) (v_t_thrown : Value) (x1 : Int32) (r : UInt32) (h : fX11_compactness t_g t_plan x1 = some r) : Met l yX11_compactness (Cond.code yX11_compactness cX11_compactness 3 (some .float) :: Ts) ({ frames := 3, cells := 0, slots := 0, locals := 70 } : Room) (preM D k [.ref a_t, .int x1] [(a_t, .inr (10, [v_t_thrown, .ref a_t_g, .ref a_t_ahead, .ref a_t_history, v_t_historyMany, .ref a_t_saved, v_t_hasSaved, .ref a_t_tape, v_t_taped, v_t_at, v_t_impossibleAt, v_t_letter, .ref a_t_numbers, .ref a_t_plan, v_t_detail, v_t_keptReason, v_t_keptDetail, v_t_above, v_t_below, v_t_bestAbove, v_t_bestBelow, .ref a_t_bestPlan, .ref a_t_sort, .ref a_t_size, .ref a_t_whole, .ref a_t_parts])), (a_t_g, .inl (k 0, 221, .inl t_g)), (a_t_plan, .inl (k 0, 12, .inl t_plan))] sz) (postF D k r [(a_t, .inr (10, [v_t_thrown, .ref a_t_g, .ref a_t_ahead, .ref a_t_history, v_t_historyMany, .ref a_t_saved, v_t_hasSaved, .ref a_t_tape, v_t_taped, v_t_at, v_t_impossibleAt, v_t_letter, .ref a_t_numbers, .ref a_t_plan, v_t_detail, v_t_keptReason, v_t_keptDetail, v_t_above, v_t_below, v_t_bestAbove, v_t_bestBelow, .ref a_t_bestPlan, .ref a_t_sort, .ref a_t_size, .ref a_t_whole, .ref a_t_parts])), (a_t_g, .inl (k 0, 221, .inl t_g)), (a_t_plan, .inl (k 0, 12, .inl t_plan))] [(a_t, .inr (10, [v_t_thrown, .ref a_t_g, .ref a_t_ahead, .ref a_t_history, v_t_historyMany, .ref a_t_saved, v_t_hasSaved, .ref a_t_tape, v_t_taped, v_t_at, v_t_impossibleAt, v_t_letter, .ref a_t_numbers, .ref a_t_plan, v_t_detail, v_t_keptReason, v_t_keptDetail, v_t_above, v_t_below, v_t_bestAbove, v_t_bestBelow, .ref a_t_bestPlan, .ref a_t_sort, .ref a_t_size, .ref a_t_whole, .ref a_t_parts])), (a_t_g, .inl (k 0, 221, .inl t_g)), (a_t_plan, .inl (k 0, 12, .inl t_plan))] sz) 0 0 (va_A [(a_t, .inr (10, [v_t_thrown, .ref a_t_g, .ref a_t_ahead, .ref a_t_history, v_t_historyMany, .ref a_t_saved, v_t_hasSaved, .ref a_t_tape, v_t_taped, v_t_at, v_t_impossibleAt, v_t_letter, .ref a_t_numbers, .ref a_t_plan, v_t_detail, v_t_keptReason, v_t_keptDetail, v_t_above, v_t_below, v_t_bestAbove, v_t_bestBelow, .ref a_t_bestPlan, .ref a_t_sort, .ref a_t_size, .ref a_t_whole, .ref a_t_parts])), (a_t_g, .inl (k 0, 221, .inl t_g)), (a_t_plan, .inl (k 0, 12, .inl t_plan))] sz) := by
  refine Met.ofW (cc := cX11_compactness) (maxL := 3) (ret := (some .float)) (by decide) rfl ?_
  intro p e s m args below meth c s₁ B hml hv
  obtain ⟨rfl, hsz, hP, hK, hD0⟩ := hv
  have hx := B.exec
  have hb := B.bytes
  have hr := B.returns
  have hts0 := atoms_spec (ws := (Cond.code yX11_compactness cX11_compactness 3 (some .float) :: Ts)) B.pre
  have hts : ∀ w ∈ uT, w.before _ s = true := fun w h => hts0 w (List.mem_cons_of_mem _ ((hTs w).mpr h))
  clear hts0
  have hown : s.vm.findClass RX11 = some m.cls := findClass_of_methodNamed B.named
  have hlocks := B.notSynchronized
  subst hsz
  have hD := hD0.self (sz := s.heap.size)
  generalize hAe : va_A [(a_t, .inr (10, [v_t_thrown, .ref a_t_g, .ref a_t_ahead, .ref a_t_history, v_t_historyMany, .ref a_t_saved, v_t_hasSaved, .ref a_t_tape, v_t_taped, v_t_at, v_t_impossibleAt, v_t_letter, .ref a_t_numbers, .ref a_t_plan, v_t_detail, v_t_keptReason, v_t_keptDetail, v_t_above, v_t_below, v_t_bestAbove, v_t_bestBelow, .ref a_t_bestPlan, .ref a_t_sort, .ref a_t_size, .ref a_t_whole, .ref a_t_parts])), (a_t_g, .inl (k 0, 221, .inl t_g)), (a_t_plan, .inl (k 0, 12, .inl t_plan))] s.heap.size = A at hD ⊢
  have hA : ∀ q : Nat, s.heap.size ≤ q → A q := fun q h => by rw [← hAe]; exact Or.inr h
  have hH : HOK D A s.heap [(a_t, .inr (10, [v_t_thrown, .ref a_t_g, .ref a_t_ahead, .ref a_t_history, v_t_historyMany, .ref a_t_saved, v_t_hasSaved, .ref a_t_tape, v_t_taped, v_t_at, v_t_impossibleAt, v_t_letter, .ref a_t_numbers, .ref a_t_plan, v_t_detail, v_t_keptReason, v_t_keptDetail, v_t_above, v_t_below, v_t_bestAbove, v_t_bestBelow, .ref a_t_bestPlan, .ref a_t_sort, .ref a_t_size, .ref a_t_whole, .ref a_t_parts])), (a_t_g, .inl (k 0, 221, .inl t_g)), (a_t_plan, .inl (k 0, 12, .inl t_plan))] s.heap [] := ⟨hP, hD, va_S.rf⟩
  have hl := lv_entry ([.ref a_t, .int x1]) (n := 3) (Nat.le_of_ble_eq_true rfl)
  rw [lg_entry_eq]
  generalize (lg_sl ([.ref a_t, .int x1]) ++ List.replicate (3 - (lg_sl ([.ref a_t, .int x1])).length) Slot.unset).toArray = ls at hl ⊢
  have hl : lv_has ls 3 [(0, .ref a_t), (1, .int x1)] := hl
  generalize hQ : MQ below (postF D k r [(a_t, .inr (10, [v_t_thrown, .ref a_t_g, .ref a_t_ahead, .ref a_t_history, v_t_historyMany, .ref a_t_saved, v_t_hasSaved, .ref a_t_tape, v_t_taped, v_t_at, v_t_impossibleAt, v_t_letter, .ref a_t_numbers, .ref a_t_plan, v_t_detail, v_t_keptReason, v_t_keptDetail, v_t_above, v_t_below, v_t_bestAbove, v_t_bestBelow, .ref a_t_bestPlan, .ref a_t_sort, .ref a_t_size, .ref a_t_whole, .ref a_t_parts])), (a_t_g, .inl (k 0, 221, .inl t_g)), (a_t_plan, .inl (k 0, 12, .inl t_plan))] [(a_t, .inr (10, [v_t_thrown, .ref a_t_g, .ref a_t_ahead, .ref a_t_history, v_t_historyMany, .ref a_t_saved, v_t_hasSaved, .ref a_t_tape, v_t_taped, v_t_at, v_t_impossibleAt, v_t_letter, .ref a_t_numbers, .ref a_t_plan, v_t_detail, v_t_keptReason, v_t_keptDetail, v_t_above, v_t_below, v_t_bestAbove, v_t_bestBelow, .ref a_t_bestPlan, .ref a_t_sort, .ref a_t_size, .ref a_t_whole, .ref a_t_parts])), (a_t_g, .inl (k 0, 221, .inl t_g)), (a_t_plan, .inl (k 0, 12, .inl t_plan))] s.heap.size) (List.toArray [.ref a_t, .int x1]) s 0 0 A = Q
  clear hP hD hD0
  suffices K : ∀ (H : Heap) (locs : List Loc), HOK D A s.heap [(a_t, .inr (10, [v_t_thrown, .ref a_t_g, .ref a_t_ahead, .ref a_t_history, v_t_historyMany, .ref a_t_saved, v_t_hasSaved, .ref a_t_tape, v_t_taped, v_t_at, v_t_impossibleAt, v_t_letter, .ref a_t_numbers, .ref a_t_plan, v_t_detail, v_t_keptReason, v_t_keptDetail, v_t_above, v_t_below, v_t_bestAbove, v_t_bestBelow, .ref a_t_bestPlan, .ref a_t_sort, .ref a_t_size, .ref a_t_whole, .ref a_t_parts])), (a_t_g, .inl (k 0, 221, .inl t_g)), (a_t_plan, .inl (k 0, 12, .inl t_plan))] H locs → W p l e ({ frames := 3, cells := 0, slots := 0, locals := 70 } : Room) s m (List.toArray [.ref a_t, .int x1]) below meth c H locs 0 0 Q (F0 m 0 ls []) from K s.heap [] hH
  intro H locs hH
  rw [fX11_compactness] at h
  refine lv_aload_n hx hb dX11_compactness_0 rfl (lv_at hl 0 rfl) ?_
  refine lv_iload_n hx hb dX11_compactness_1 rfl (lv_at hl 1 rfl) ?_
  obtain ⟨q1, hqq1, h⟩ := dc_bind h
  refine gc_Vi (ws' := [(a_t, .inr (10, [v_t_thrown, .ref a_t_g, .ref a_t_ahead, .ref a_t_history, v_t_historyMany, .ref a_t_saved, v_t_hasSaved, .ref a_t_tape, v_t_taped, v_t_at, v_t_impossibleAt, v_t_letter, .ref a_t_numbers, .ref a_t_plan, v_t_detail, v_t_keptReason, v_t_keptDetail, v_t_above, v_t_below, v_t_bestAbove, v_t_bestBelow, .ref a_t_bestPlan, .ref a_t_sort, .ref a_t_size, .ref a_t_whole, .ref a_t_parts])), (a_t_g, .inl (k 0, 221, .inl t_g)), (a_t_plan, .inl (k 0, 12, .inl t_plan))]) (As := [.int x1]) (rest := []) (n := 1) (ci := 10) (cq := (RX11, TX11, 26)) hTs ⟨hx, hb, hml, hown, hts⟩ (mX11_perimeter l Ts hTs D k H.size a_t a_t_g a_t_ahead a_t_history a_t_saved a_t_tape a_t_numbers a_t_plan a_t_bestPlan a_t_sort a_t_size a_t_whole a_t_parts t_g t_plan v_t_above v_t_at v_t_below v_t_bestAbove v_t_bestBelow v_t_detail v_t_hasSaved v_t_historyMany v_t_impossibleAt v_t_keptDetail v_t_keptReason v_t_letter v_t_taped v_t_thrown x1 q1 hqq1) u_ml_X11_173 u_im_X11_perimeter u_se_X11_perimeter u_in_X11 u_co_X11_perimeter hd_X11_perimeter ⟨Nat.le_of_ble_eq_true rfl, Nat.le_of_ble_eq_true rfl⟩ ⟨rfl, rfl⟩ hK hH hA (cut0 (isC := [0, 1, 2]) rfl rfl rfl) rfl rfl rfl rfl hl.1 (Nat.le_of_ble_eq_true rfl) dX11_compactness_2 ⟨Nat.le_of_ble_eq_true rfl, Nat.le_of_ble_eq_true rfl⟩ (fun H locs hH => ?_)
  refine lv_istore_n (lv' := [(2, .int q1), (0, .ref a_t), (1, .int x1)]) hx hb dX11_compactness_5 rfl hl (by decide) rfl (fun ls hl => ?_)
  refine lv_iload_n hx hb dX11_compactness_6 rfl (lv_at hl 0 rfl) ?_
  refine lv_if_ne (tgt := 14) hx hb dX11_compactness_7 (by decide) (fun c2 => ?_) (fun c2 => ?_)
  · replace h := dc_neg c2 h
    refine lv_bipush (v := 16) hx hb dX11_compactness_14 (by decide) ?_
    refine lv_aload_n hx hb dX11_compactness_16 rfl (lv_at hl 1 rfl) ?_
    refine lv_aload_n hx hb dX11_compactness_17 rfl (lv_at hl 1 rfl) ?_
    refine lv_iload_n hx hb dX11_compactness_18 rfl (lv_at hl 2 rfl) ?_
    obtain ⟨q3, hqq3, h⟩ := dc_bind h
    refine gc_Vi (ws' := [(a_t, .inr (10, [v_t_thrown, .ref a_t_g, .ref a_t_ahead, .ref a_t_history, v_t_historyMany, .ref a_t_saved, v_t_hasSaved, .ref a_t_tape, v_t_taped, v_t_at, v_t_impossibleAt, v_t_letter, .ref a_t_numbers, .ref a_t_plan, v_t_detail, v_t_keptReason, v_t_keptDetail, v_t_above, v_t_below, v_t_bestAbove, v_t_bestBelow, .ref a_t_bestPlan, .ref a_t_sort, .ref a_t_size, .ref a_t_whole, .ref a_t_parts])), (a_t_g, .inl (k 0, 221, .inl t_g)), (a_t_plan, .inl (k 0, 12, .inl t_plan))]) (As := [.int x1]) (rest := [.ref a_t, .int (16 : Int32)]) (n := 1) (ci := 10) (cq := (RX11, TX11, 26)) hTs ⟨hx, hb, hml, hown, hts⟩ (mX11_set l Ts hTs D k H.size a_t a_t_g a_t_ahead a_t_history a_t_saved a_t_tape a_t_numbers a_t_plan a_t_bestPlan a_t_sort a_t_size a_t_whole a_t_parts t_g t_plan v_t_above v_t_at v_t_below v_t_bestAbove v_t_bestBelow v_t_detail v_t_hasSaved v_t_historyMany v_t_impossibleAt v_t_keptDetail v_t_keptReason v_t_letter v_t_taped v_t_thrown x1 q3 hqq3) u_ml_X11_131 u_im_X11_set u_se_X11_set u_in_X11 u_co_X11_set hd_X11_set ⟨Nat.le_of_ble_eq_true rfl, Nat.le_of_ble_eq_true rfl⟩ ⟨rfl, rfl⟩ hK hH hA (cut0 (isC := [0, 1, 2]) rfl rfl rfl) rfl rfl rfl rfl hl.1 (Nat.le_of_ble_eq_true rfl) dX11_compactness_19 ⟨Nat.le_of_ble_eq_true rfl, Nat.le_of_ble_eq_true rfl⟩ (fun H locs hH => ?_)
    refine lv_iconst (v := 1) hx hb dX11_compactness_22 (by decide) ?_
    obtain ⟨q4, hqq4, h⟩ := dc_bind h
    refine gc_Vi (ws' := [(a_t, .inr (10, [v_t_thrown, .ref a_t_g, .ref a_t_ahead, .ref a_t_history, v_t_historyMany, .ref a_t_saved, v_t_hasSaved, .ref a_t_tape, v_t_taped, v_t_at, v_t_impossibleAt, v_t_letter, .ref a_t_numbers, .ref a_t_plan, v_t_detail, v_t_keptReason, v_t_keptDetail, v_t_above, v_t_below, v_t_bestAbove, v_t_bestBelow, .ref a_t_bestPlan, .ref a_t_sort, .ref a_t_size, .ref a_t_whole, .ref a_t_parts])), (a_t_g, .inl (k 0, 221, .inl t_g)), (a_t_plan, .inl (k 0, 12, .inl t_plan))]) (As := [.int q3, .int (1 : Int32)]) (rest := [.int (16 : Int32)]) (n := 2) (ci := 10) (cq := (RX11, TX11, 26)) hTs ⟨hx, hb, hml, hown, hts⟩ (mX11_sum l Ts hTs D k H.size a_t a_t_g a_t_ahead a_t_history a_t_saved a_t_tape a_t_numbers a_t_plan a_t_bestPlan a_t_sort a_t_size a_t_whole a_t_parts t_g v_t_above v_t_at v_t_below v_t_bestAbove v_t_bestBelow v_t_detail v_t_hasSaved v_t_historyMany v_t_impossibleAt v_t_keptDetail v_t_keptReason v_t_letter v_t_taped v_t_thrown q3 (1 : Int32) q4 hqq4) u_ml_X11_122 u_im_X11_sum u_se_X11_sum u_in_X11 u_co_X11_sum hd_X11_sum ⟨Nat.le_of_ble_eq_true rfl, Nat.le_of_ble_eq_true rfl⟩ ⟨rfl, rfl⟩ hK hH hA (cut0 (isC := [0, 1]) rfl rfl rfl) rfl rfl rfl rfl hl.1 (Nat.le_of_ble_eq_true rfl) dX11_compactness_23 ⟨Nat.le_of_ble_eq_true rfl, Nat.le_of_ble_eq_true rfl⟩ (fun H locs hH => ?_)
    refine lv_imul hx hb dX11_compactness_26 ?_
    refine lv_i2f hx hb dX11_compactness_27 ?_
    refine lv_iload_n hx hb dX11_compactness_28 rfl (lv_at hl 0 rfl) ?_
    refine lv_iload_n hx hb dX11_compactness_29 rfl (lv_at hl 0 rfl) ?_
    refine lv_imul hx hb dX11_compactness_30 ?_
    refine lv_i2f hx hb dX11_compactness_31 ?_
    obtain ⟨g5, h⟩ := dc_need h
    refine lv_fdiv hx hb dX11_compactness_32 g5 ?_
    have h := Option.some.inj h
    subst h
    exact ge_f hx hb hr hlocks hQ hK hH hAe rfl dX11_compactness_33
  · replace h := dc_pos c2 h
    refine lv_fconst0 hx hb dX11_compactness_10 ?_
    refine lv_goto (tgt := 33) hx hb dX11_compactness_11 (by decide) ?_
    have h := Option.some.inj h
    subst h
    exact ge_f hx hb hr hlocks hQ hK hH hAe rfl dX11_compactness_33
