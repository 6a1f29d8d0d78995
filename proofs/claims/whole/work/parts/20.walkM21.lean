theorem hd_X11_store : yX11_store.cls = RX11 ∧ yX11_store.cls ≠ "java/lang/invoke/MethodHandle" ∧ yX11_store.cls ≠ "java/lang/invoke/VarHandle" ∧ (parseMethodDescriptor yX11_store.desc).map (fun d => d.parameters.length) = some 2 := by decide +kernel
set_option maxHeartbeats 4000000 in
set_option maxRecDepth 100000 in
theorem mX11_store (l : Launch) (Ts : List Cond) (hTs : ∀ w, w ∈ Ts ↔ w ∈ uT) (D : va_G) (k : Nat → ClassId) (sz : Nat) (a_t : Nat) (a_t_g : Nat) (a_t_ahead : Nat) (a_t_history : Nat) (a_t_saved : Nat) (a_t_tape : Nat) (a_t_numbers : Nat) (a_t_plan : Nat) (a_t_bestPlan : Nat) (a_t_sort : Nat) (a_t_size : Nat) (a_t_whole : Nat) (a_t_parts : Nat) (t_g : Nat → Int32) (t_parts : Nat → UInt32) (t_plan : Nat → Int32) (t_size : Nat → Int32) (t_sort : Nat → Int32) (t_whole : Nat → Int32) (v_t_above : Value) (v_t_at : Value) (v_t_below : Value) (v_t_bestAbove : Value) (v_t_bestBelow : Value) (v_t_detail : Value) (v_t_hasSaved : Value) (v_t_historyMany : Value) (v_t_impossibleAt : Value) (v_t_keptDetail : Value) (v_t_keptReason : Value) (v_t_letter : Value) (v_t_taped : Value) (v_t_thrown : Value) (x1 : Int32) (x2 : Int32) (r : Int32 × (Nat → UInt32) × (Nat → Int32) × (Nat → Int32) × (Nat → Int32) × Int32 × (Nat → Int32)) (h : fX11_store t_g t_parts t_plan t_size t_sort t_whole x1 x2 = some r) : Met l yX11_store (Cond.code yX11_store cX11_store 4 (some .int) :: Ts) ({ frames := 4, cells := 0, slots := 0, locals := 92 } : Room) (preM D k [.ref a_t, .int x1, .int x2] [(a_t, .inr (10, [v_t_thrown, .ref a_t_g, .ref a_t_ahead, .ref a_t_history, v_t_historyMany, .ref a_t_saved, v_t_hasSaved, .ref a_t_tape, v_t_taped, v_t_at, v_t_impossibleAt, v_t_letter, .ref a_t_numbers, .ref a_t_plan, v_t_detail, v_t_keptReason, v_t_keptDetail, v_t_above, v_t_below, v_t_bestAbove, v_t_bestBelow, .ref a_t_bestPlan, .ref a_t_sort, .ref a_t_size, .ref a_t_whole, .ref a_t_parts])), (a_t_g, .inl (k 0, 221, .inl t_g)), (a_t_plan, .inl (k 0, 12, .inl t_plan)), (a_t_sort, .inl (k 0, 3, .inl t_sort)), (a_t_size, .inl (k 0, 3, .inl t_size)), (a_t_whole, .inl (k 0, 12, .inl t_whole)), (a_t_parts, .inl (k 3, 12, .inr (.inr (.inl t_parts))))] sz) (postI D k r.1 [(a_t, .inr (10, [v_t_thrown, .ref a_t_g, .ref a_t_ahead, .ref a_t_history, v_t_historyMany, .ref a_t_saved, v_t_hasSaved, .ref a_t_tape, v_t_taped, v_t_at, v_t_impossibleAt, v_t_letter, .ref a_t_numbers, .ref a_t_plan, v_t_detail, v_t_keptReason, v_t_keptDetail, v_t_above, v_t_below, v_t_bestAbove, v_t_bestBelow, .ref a_t_bestPlan, .ref a_t_sort, .ref a_t_size, .ref a_t_whole, .ref a_t_parts])), (a_t_g, .inl (k 0, 221, .inl t_g)), (a_t_plan, .inl (k 0, 12, .inl t_plan)), (a_t_sort, .inl (k 0, 3, .inl t_sort)), (a_t_size, .inl (k 0, 3, .inl t_size)), (a_t_whole, .inl (k 0, 12, .inl t_whole)), (a_t_parts, .inl (k 3, 12, .inr (.inr (.inl t_parts))))] [(a_t, .inr (10, [.int r.2.2.2.2.2.1, .ref a_t_g, .ref a_t_ahead, .ref a_t_history, v_t_historyMany, .ref a_t_saved, v_t_hasSaved, .ref a_t_tape, v_t_taped, v_t_at, v_t_impossibleAt, v_t_letter, .ref a_t_numbers, .ref a_t_plan, v_t_detail, v_t_keptReason, v_t_keptDetail, v_t_above, v_t_below, v_t_bestAbove, v_t_bestBelow, .ref a_t_bestPlan, .ref a_t_sort, .ref a_t_size, .ref a_t_whole, .ref a_t_parts])), (a_t_g, .inl (k 0, 221, .inl t_g)), (a_t_plan, .inl (k 0, 12, .inl r.2.2.1)), (a_t_sort, .inl (k 0, 3, .inl r.2.2.2.2.1)), (a_t_size, .inl (k 0, 3, .inl r.2.2.2.1)), (a_t_whole, .inl (k 0, 12, .inl r.2.2.2.2.2.2)), (a_t_parts, .inl (k 3, 12, .inr (.inr (.inl r.2.1))))] sz) 0 0 (va_A [(a_t, .inr (10, [v_t_thrown, .ref a_t_g, .ref a_t_ahead, .ref a_t_history, v_t_historyMany, .ref a_t_saved, v_t_hasSaved, .ref a_t_tape, v_t_taped, v_t_at, v_t_impossibleAt, v_t_letter, .ref a_t_numbers, .ref a_t_plan, v_t_detail, v_t_keptReason, v_t_keptDetail, v_t_above, v_t_below, v_t_bestAbove, v_t_bestBelow, .ref a_t_bestPlan, .ref a_t_sort, .ref a_t_size, .ref a_t_whole, .ref a_t_parts])), (a_t_g, .inl (k 0, 221, .inl t_g)), (a_t_plan, .inl (k 0, 12, .inl t_plan)), (a_t_sort, .inl (k 0, 3, .inl t_sort)), (a_t_size, .inl (k 0, 3, .inl t_size)), (a_t_whole, .inl (k 0, 12, .inl t_whole)), (a_t_parts, .inl (k 3, 12, .inr (.inr (.inl t_parts))))] sz) := by
  refine Met.ofW (cc := cX11_store) (maxL := 4) (ret := (some .int)) (by decide) rfl ?_
  intro p e s m args below meth c s₁ B hml hv
  obtain ⟨rfl, hsz, hP, hK, hD0⟩ := hv
  have hx := B.exec
  have hb := B.bytes
  have hr := B.returns
  have hts0 := atoms_spec (ws := (Cond.code yX11_store cX11_store 4 (some .int) :: Ts)) B.pre
  have hts : ∀ w ∈ uT, w.before _ s = true := fun w h => hts0 w (List.mem_cons_of_mem _ ((hTs w).mpr h))
  clear hts0
  have hown : s.vm.findClass RX11 = some m.cls := findClass_of_methodNamed B.named
  have hlocks := B.notSynchronized
  subst hsz
  have hD := hD0.self (sz := s.heap.size)
  generalize hAe : va_A [(a_t, .inr (10, [v_t_thrown, .ref a_t_g, .ref a_t_ahead, .ref a_t_history, v_t_historyMany, .ref a_t_saved, v_t_hasSaved, .ref a_t_tape, v_t_taped, v_t_at, v_t_impossibleAt, v_t_letter, .ref a_t_numbers, .ref a_t_plan, v_t_detail, v_t_keptReason, v_t_keptDetail, v_t_above, v_t_below, v_t_bestAbove, v_t_bestBelow, .ref a_t_bestPlan, .ref a_t_sort, .ref a_t_size, .ref a_t_whole, .ref a_t_parts])), (a_t_g, .inl (k 0, 221, .inl t_g)), (a_t_plan, .inl (k 0, 12, .inl t_plan)), (a_t_sort, .inl (k 0, 3, .inl t_sort)), (a_t_size, .inl (k 0, 3, .inl t_size)), (a_t_whole, .inl (k 0, 12, .inl t_whole)), (a_t_parts, .inl (k 3, 12, .inr (.inr (.inl t_parts))))] s.heap.size = A at hD ⊢
  have hA : ∀ q : Nat, s.heap.size ≤ q → A q := fun q h => by rw [← hAe]; exact Or.inr h
  have hH : HOK D A s.heap [(a_t, .inr (10, [v_t_thrown, .ref a_t_g, .ref a_t_ahead, .ref a_t_history, v_t_historyMany, .ref a_t_saved, v_t_hasSaved, .ref a_t_tape, v_t_taped, v_t_at, v_t_impossibleAt, v_t_letter, .ref a_t_numbers, .ref a_t_plan, v_t_detail, v_t_keptReason, v_t_keptDetail, v_t_above, v_t_below, v_t_bestAbove, v_t_bestBelow, .ref a_t_bestPlan, .ref a_t_sort, .ref a_t_size, .ref a_t_whole, .ref a_t_parts])), (a_t_g, .inl (k 0, 221, .inl t_g)), (a_t_plan, .inl (k 0, 12, .inl t_plan)), (a_t_sort, .inl (k 0, 3, .inl t_sort)), (a_t_size, .inl (k 0, 3, .inl t_size)), (a_t_whole, .inl (k 0, 12, .inl t_whole)), (a_t_parts, .inl (k 3, 12, .inr (.inr (.inl t_parts))))] s.heap [] := ⟨hP, hD, va_S.rf⟩
  have hl := lv_entry ([.ref a_t, .int x1, .int x2]) (n := 4) (Nat.le_of_ble_eq_true rfl)
  rw [lg_entry_eq]
  generalize (lg_sl ([.ref a_t, .int x1, .int x2]) ++ List.replicate (4 - (lg_sl ([.ref a_t, .int x1, .int x2])).length) Slot.unset).toArray = ls at hl ⊢
  have hl : lv_has ls 4 [(0, .ref a_t), (1, .int x1), (2, .int x2)] := hl
  generalize hQ : MQ below (postI D k r.1 [(a_t, .inr (10, [v_t_thrown, .ref a_t_g, .ref a_t_ahead, .ref a_t_history, v_t_historyMany, .ref a_t_saved, v_t_hasSaved, .ref a_t_tape, v_t_taped, v_t_at, v_t_impossibleAt, v_t_letter, .ref a_t_numbers, .ref a_t_plan, v_t_detail, v_t_keptReason, v_t_keptDetail, v_t_above, v_t_below, v_t_bestAbove, v_t_bestBelow, .ref a_t_bestPlan, .ref a_t_sort, .ref a_t_size, .ref a_t_whole, .ref a_t_parts])), (a_t_g, .inl (k 0, 221, .inl t_g)), (a_t_plan, .inl (k 0, 12, .inl t_plan)), (a_t_sort, .inl (k 0, 3, .inl t_sort)), (a_t_size, .inl (k 0, 3, .inl t_size)), (a_t_whole, .inl (k 0, 12, .inl t_whole)), (a_t_parts, .inl (k 3, 12, .inr (.inr (.inl t_parts))))] [(a_t, .inr (10, [.int r.2.2.2.2.2.1, .ref a_t_g, .ref a_t_ahead, .ref a_t_history, v_t_historyMany, .ref a_t_saved, v_t_hasSaved, .ref a_t_tape, v_t_taped, v_t_at, v_t_impossibleAt, v_t_letter, .ref a_t_numbers, .ref a_t_plan, v_t_detail, v_t_keptReason, v_t_keptDetail, v_t_above, v_t_below, v_t_bestAbove, v_t_bestBelow, .ref a_t_bestPlan, .ref a_t_sort, .ref a_t_size, .ref a_t_whole, .ref a_t_parts])), (a_t_g, .inl (k 0, 221, .inl t_g)), (a_t_plan, .inl (k 0, 12, .inl r.2.2.1)), (a_t_sort, .inl (k 0, 3, .inl r.2.2.2.2.1)), (a_t_size, .inl (k 0, 3, .inl r.2.2.2.1)), (a_t_whole, .inl (k 0, 12, .inl r.2.2.2.2.2.2)), (a_t_parts, .inl (k 3, 12, .inr (.inr (.inl r.2.1))))] s.heap.size) (List.toArray [.ref a_t, .int x1, .int x2]) s 0 0 A = Q
  clear hP hD hD0
  suffices K : ∀ (H : Heap) (locs : List Loc), HOK D A s.heap [(a_t, .inr (10, [v_t_thrown, .ref a_t_g, .ref a_t_ahead, .ref a_t_history, v_t_historyMany, .ref a_t_saved, v_t_hasSaved, .ref a_t_tape, v_t_taped, v_t_at, v_t_impossibleAt, v_t_letter, .ref a_t_numbers, .ref a_t_plan, v_t_detail, v_t_keptReason, v_t_keptDetail, v_t_above, v_t_below, v_t_bestAbove, v_t_bestBelow, .ref a_t_bestPlan, .ref a_t_sort, .ref a_t_size, .ref a_t_whole, .ref a_t_parts])), (a_t_g, .inl (k 0, 221, .inl t_g)), (a_t_plan, .inl (k 0, 12, .inl t_plan)), (a_t_sort, .inl (k 0, 3, .inl t_sort)), (a_t_size, .inl (k 0, 3, .inl t_size)), (a_t_whole, .inl (k 0, 12, .inl t_whole)), (a_t_parts, .inl (k 3, 12, .inr (.inr (.inl t_parts))))] H locs → W p l e ({ frames := 4, cells := 0, slots := 0, locals := 92 } : Room) s m (List.toArray [.ref a_t, .int x1, .int x2]) below meth c H locs 0 0 Q (F0 m 0 ls []) from K s.heap [] hH
  intro H locs hH
  have L65 : ∀ (y65_t_plan : Nat → Int32) (y65_t_size : Nat → Int32) (y65_t_sort : Nat → Int32) (n : Nat), ∀ (kf : (Nat → UInt32) → (Nat → Int32) → Option (Int32 × (Nat → UInt32) × (Nat → Int32) × (Nat → Int32) × (Nat → Int32) × Int32 × (Nat → Int32))) (y65_3 : Int32) (y65_t_parts : Nat → UInt32) (y65_t_whole : Nat → Int32), fX11_store_L65 t_g x1 y65_t_plan y65_t_size y65_t_sort n kf y65_3 y65_t_parts y65_t_whole = some r → (∀ (z65_t_parts : Nat → UInt32) (z65_t_whole : Nat → Int32) (H : Heap) (locs : List Loc) (ls : Array Slot), kf z65_t_parts z65_t_whole = some r → HOK D A s.heap [(a_t, .inr (10, [v_t_thrown, .ref a_t_g, .ref a_t_ahead, .ref a_t_history, v_t_historyMany, .ref a_t_saved, v_t_hasSaved, .ref a_t_tape, v_t_taped, v_t_at, v_t_impossibleAt, v_t_letter, .ref a_t_numbers, .ref a_t_plan, v_t_detail, v_t_keptReason, v_t_keptDetail, v_t_above, v_t_below, v_t_bestAbove, v_t_bestBelow, .ref a_t_bestPlan, .ref a_t_sort, .ref a_t_size, .ref a_t_whole, .ref a_t_parts])), (a_t_g, .inl (k 0, 221, .inl t_g)), (a_t_plan, .inl (k 0, 12, .inl y65_t_plan)), (a_t_sort, .inl (k 0, 3, .inl y65_t_sort)), (a_t_size, .inl (k 0, 3, .inl y65_t_size)), (a_t_whole, .inl (k 0, 12, .inl z65_t_whole)), (a_t_parts, .inl (k 3, 12, .inr (.inr (.inl z65_t_parts))))] H locs → lv_has ls 4 [(0, .ref a_t)] → W p l e ({ frames := 4, cells := 0, slots := 0, locals := 92 } : Room) s m (List.toArray [.ref a_t, .int x1, .int x2]) below meth c H locs 0 0 Q (F0 m 118 ls [])) → ∀ (H : Heap) (locs : List Loc) (ls : Array Slot), HOK D A s.heap [(a_t, .inr (10, [v_t_thrown, .ref a_t_g, .ref a_t_ahead, .ref a_t_history, v_t_historyMany, .ref a_t_saved, v_t_hasSaved, .ref a_t_tape, v_t_taped, v_t_at, v_t_impossibleAt, v_t_letter, .ref a_t_numbers, .ref a_t_plan, v_t_detail, v_t_keptReason, v_t_keptDetail, v_t_above, v_t_below, v_t_bestAbove, v_t_bestBelow, .ref a_t_bestPlan, .ref a_t_sort, .ref a_t_size, .ref a_t_whole, .ref a_t_parts])), (a_t_g, .inl (k 0, 221, .inl t_g)), (a_t_plan, .inl (k 0, 12, .inl y65_t_plan)), (a_t_sort, .inl (k 0, 3, .inl y65_t_sort)), (a_t_size, .inl (k 0, 3, .inl y65_t_size)), (a_t_whole, .inl (k 0, 12, .inl y65_t_whole)), (a_t_parts, .inl (k 3, 12, .inr (.inr (.inl y65_t_parts))))] H locs → lv_has ls 4 [(0, .ref a_t), (1, .int x1), (3, .int y65_3)] → W p l e ({ frames := 4, cells := 0, slots := 0, locals := 92 } : Room) s m (List.toArray [.ref a_t, .int x1, .int x2]) below meth c H locs 0 0 Q (F0 m 65 ls []) := by
    intro y65_t_plan y65_t_size y65_t_sort n
    induction n with
    | zero =>
      intro kf y65_3 y65_t_parts y65_t_whole h
      exact absurd h (by rw [fX11_store_L65]; exact fun q => by cases q)
    | succ n ih =>
      intro kf y65_3 y65_t_parts y65_t_whole h kk H locs ls hH hl
      rw [fX11_store_L65] at h
      refine lv_iload_n hx hb dX11_store_65 rfl (lv_at hl 2 rfl) ?_
      refine lv_aload_n hx hb dX11_store_66 rfl (lv_at hl 0 rfl) ?_
      refine gk_get (ci := 10) (C := RX11) (T := TX11) (N := 26) hx hb hts u_ws_X11 hown hK hH 0 rfl rfl 1 (by decide) u_fl_X11_7 rfl dX11_store_67 ?_
      refine lv_sipush (v := 205) hx hb dX11_store_70 (by decide) ?_
      refine gk_iald hx hb hK hH 1 rfl (dk_in (by decide)) dX11_store_73 ?_
      refine lv_icmp_ge (tgt := 118) hx hb dX11_store_74 (by decide) (fun c10 => ?_) (fun c10 => ?_)
      · replace h := dc_pos c10 h
        exact kk y65_t_parts y65_t_whole H locs ls h hH (lv_sub hl [0] rfl)
      · replace h := dc_neg c10 h
        refine lv_aload_n hx hb dX11_store_77 rfl (lv_at hl 0 rfl) ?_
        refine gk_get (ci := 10) (C := RX11) (T := TX11) (N := 26) hx hb hts u_ws_X11 hown hK hH 0 rfl rfl 24 (by decide) u_fl_X11_45 rfl dX11_store_78 ?_
        refine lv_iconst (v := 4) hx hb dX11_store_81 (by decide) ?_
        refine lv_iload_n hx hb dX11_store_82 rfl (lv_at hl 1 rfl) ?_
        refine lv_imul hx hb dX11_store_83 ?_
        refine lv_iload_n hx hb dX11_store_84 rfl (lv_at hl 2 rfl) ?_
        refine lv_iadd hx hb dX11_store_85 ?_
        refine lv_aload_n hx hb dX11_store_86 rfl (lv_at hl 0 rfl) ?_
        refine lv_aload_n hx hb dX11_store_87 rfl (lv_at hl 0 rfl) ?_
        refine lv_iload_n hx hb dX11_store_88 rfl (lv_at hl 2 rfl) ?_
        obtain ⟨q11, hqq11, h⟩ := dc_bind h
        refine gc_Vi (ws' := [(a_t, .inr (10, [v_t_thrown, .ref a_t_g, .ref a_t_ahead, .ref a_t_history, v_t_historyMany, .ref a_t_saved, v_t_hasSaved, .ref a_t_tape, v_t_taped, v_t_at, v_t_impossibleAt, v_t_letter, .ref a_t_numbers, .ref a_t_plan, v_t_detail, v_t_keptReason, v_t_keptDetail, v_t_above, v_t_below, v_t_bestAbove, v_t_bestBelow, .ref a_t_bestPlan, .ref a_t_sort, .ref a_t_size, .ref a_t_whole, .ref a_t_parts])), (a_t_g, .inl (k 0, 221, .inl t_g)), (a_t_plan, .inl (k 0, 12, .inl y65_t_plan)), (a_t_sort, .inl (k 0, 3, .inl y65_t_sort)), (a_t_size, .inl (k 0, 3, .inl y65_t_size)), (a_t_whole, .inl (k 0, 12, .inl y65_t_whole)), (a_t_parts, .inl (k 3, 12, .inr (.inr (.inl y65_t_parts))))]) (As := [.int y65_3]) (rest := [.ref a_t, .int (((4 : Int32) * x1) + y65_3), .ref a_t_whole]) (n := 1) (ci := 10) (cq := (RX11, TX11, 26)) hTs ⟨hx, hb, hml, hown, hts⟩ (mX11_set l Ts hTs D k H.size a_t a_t_g a_t_ahead a_t_history a_t_saved a_t_tape a_t_numbers a_t_plan a_t_bestPlan a_t_sort a_t_size a_t_whole a_t_parts t_g y65_t_plan v_t_above v_t_at v_t_below v_t_bestAbove v_t_bestBelow v_t_detail v_t_hasSaved v_t_historyMany v_t_impossibleAt v_t_keptDetail v_t_keptReason v_t_letter v_t_taped v_t_thrown y65_3 q11 hqq11) u_ml_X11_131 u_im_X11_set u_se_X11_set u_in_X11 u_co_X11_set hd_X11_set ⟨Nat.le_of_ble_eq_true rfl, Nat.le_of_ble_eq_true rfl⟩ ⟨rfl, rfl⟩ hK hH hA (cut0 (isC := [0, 1, 2]) rfl rfl rfl) rfl rfl rfl rfl hl.1 (Nat.le_of_ble_eq_true rfl) dX11_store_89 ⟨Nat.le_of_ble_eq_true rfl, Nat.le_of_ble_eq_true rfl⟩ (fun H locs hH => ?_)
        refine lv_iconst (v := 0) hx hb dX11_store_92 (by decide) ?_
        obtain ⟨q12, hqq12, h⟩ := dc_bind h
        refine gc_Vi (ws' := [(a_t, .inr (10, [v_t_thrown, .ref a_t_g, .ref a_t_ahead, .ref a_t_history, v_t_historyMany, .ref a_t_saved, v_t_hasSaved, .ref a_t_tape, v_t_taped, v_t_at, v_t_impossibleAt, v_t_letter, .ref a_t_numbers, .ref a_t_plan, v_t_detail, v_t_keptReason, v_t_keptDetail, v_t_above, v_t_below, v_t_bestAbove, v_t_bestBelow, .ref a_t_bestPlan, .ref a_t_sort, .ref a_t_size, .ref a_t_whole, .ref a_t_parts])), (a_t_g, .inl (k 0, 221, .inl t_g)), (a_t_plan, .inl (k 0, 12, .inl y65_t_plan)), (a_t_sort, .inl (k 0, 3, .inl y65_t_sort)), (a_t_size, .inl (k 0, 3, .inl y65_t_size)), (a_t_whole, .inl (k 0, 12, .inl y65_t_whole)), (a_t_parts, .inl (k 3, 12, .inr (.inr (.inl y65_t_parts))))]) (As := [.int q11, .int (0 : Int32)]) (rest := [.int (((4 : Int32) * x1) + y65_3), .ref a_t_whole]) (n := 2) (ci := 10) (cq := (RX11, TX11, 26)) hTs ⟨hx, hb, hml, hown, hts⟩ (mX11_sum l Ts hTs D k H.size a_t a_t_g a_t_ahead a_t_history a_t_saved a_t_tape a_t_numbers a_t_plan a_t_bestPlan a_t_sort a_t_size a_t_whole a_t_parts t_g v_t_above v_t_at v_t_below v_t_bestAbove v_t_bestBelow v_t_detail v_t_hasSaved v_t_historyMany v_t_impossibleAt v_t_keptDetail v_t_keptReason v_t_letter v_t_taped v_t_thrown q11 (0 : Int32) q12 hqq12) u_ml_X11_122 u_im_X11_sum u_se_X11_sum u_in_X11 u_co_X11_sum hd_X11_sum ⟨Nat.le_of_ble_eq_true rfl, Nat.le_of_ble_eq_true rfl⟩ ⟨rfl, rfl⟩ hK hH hA (cut0 (isC := [0, 1]) rfl rfl rfl) rfl rfl rfl rfl hl.1 (Nat.le_of_ble_eq_true rfl) dX11_store_93 ⟨Nat.le_of_ble_eq_true rfl, Nat.le_of_ble_eq_true rfl⟩ (fun H locs hH => ?_)
        obtain ⟨g13, h⟩ := dc_need h
        refine gk_iast hx hb hK hH 5 rfl (dk_in g13) dX11_store_96 [(a_t, .inr (10, [v_t_thrown, .ref a_t_g, .ref a_t_ahead, .ref a_t_history, v_t_historyMany, .ref a_t_saved, v_t_hasSaved, .ref a_t_tape, v_t_taped, v_t_at, v_t_impossibleAt, v_t_letter, .ref a_t_numbers, .ref a_t_plan, v_t_detail, v_t_keptReason, v_t_keptDetail, v_t_above, v_t_below, v_t_bestAbove, v_t_bestBelow, .ref a_t_bestPlan, .ref a_t_sort, .ref a_t_size, .ref a_t_whole, .ref a_t_parts])), (a_t_g, .inl (k 0, 221, .inl t_g)), (a_t_plan, .inl (k 0, 12, .inl y65_t_plan)), (a_t_sort, .inl (k 0, 3, .inl y65_t_sort)), (a_t_size, .inl (k 0, 3, .inl y65_t_size)), (a_t_whole, .inl (k 0, 12, .inl (upd y65_t_whole (((4 : Int32) * x1) + y65_3).toNatClampNeg q12))), (a_t_parts, .inl (k 3, 12, .inr (.inr (.inl y65_t_parts))))] rfl (fun H locs hH => ?_)
        refine lv_aload_n hx hb dX11_store_97 rfl (lv_at hl 0 rfl) ?_
        refine gk_get (ci := 10) (C := RX11) (T := TX11) (N := 26) hx hb hts u_ws_X11 hown hK hH 0 rfl rfl 25 (by decide) u_fl_X11_48 rfl dX11_store_98 ?_
        refine lv_iconst (v := 4) hx hb dX11_store_101 (by decide) ?_
        refine lv_iload_n hx hb dX11_store_102 rfl (lv_at hl 1 rfl) ?_
        refine lv_imul hx hb dX11_store_103 ?_
        refine lv_iload_n hx hb dX11_store_104 rfl (lv_at hl 2 rfl) ?_
        refine lv_iadd hx hb dX11_store_105 ?_
        refine lv_aload_n hx hb dX11_store_106 rfl (lv_at hl 0 rfl) ?_
        refine lv_iload_n hx hb dX11_store_107 rfl (lv_at hl 2 rfl) ?_
        obtain ⟨q14, hqq14, h⟩ := dc_bind h
        refine gc_Vf (ws' := [(a_t, .inr (10, [v_t_thrown, .ref a_t_g, .ref a_t_ahead, .ref a_t_history, v_t_historyMany, .ref a_t_saved, v_t_hasSaved, .ref a_t_tape, v_t_taped, v_t_at, v_t_impossibleAt, v_t_letter, .ref a_t_numbers, .ref a_t_plan, v_t_detail, v_t_keptReason, v_t_keptDetail, v_t_above, v_t_below, v_t_bestAbove, v_t_bestBelow, .ref a_t_bestPlan, .ref a_t_sort, .ref a_t_size, .ref a_t_whole, .ref a_t_parts])), (a_t_g, .inl (k 0, 221, .inl t_g)), (a_t_plan, .inl (k 0, 12, .inl y65_t_plan)), (a_t_sort, .inl (k 0, 3, .inl y65_t_sort)), (a_t_size, .inl (k 0, 3, .inl y65_t_size)), (a_t_whole, .inl (k 0, 12, .inl (upd y65_t_whole (((4 : Int32) * x1) + y65_3).toNatClampNeg q12))), (a_t_parts, .inl (k 3, 12, .inr (.inr (.inl y65_t_parts))))]) (As := [.int y65_3]) (rest := [.int (((4 : Int32) * x1) + y65_3), .ref a_t_parts]) (n := 1) (ci := 10) (cq := (RX11, TX11, 26)) hTs ⟨hx, hb, hml, hown, hts⟩ (mX11_compactness l Ts hTs D k H.size a_t a_t_g a_t_ahead a_t_history a_t_saved a_t_tape a_t_numbers a_t_plan a_t_bestPlan a_t_sort a_t_size a_t_whole a_t_parts t_g y65_t_plan v_t_above v_t_at v_t_below v_t_bestAbove v_t_bestBelow v_t_detail v_t_hasSaved v_t_historyMany v_t_impossibleAt v_t_keptDetail v_t_keptReason v_t_letter v_t_taped v_t_thrown y65_3 q14 hqq14) u_ml_X11_205 u_im_X11_compactness u_se_X11_compactness u_in_X11 u_co_X11_compactness hd_X11_compactness ⟨Nat.le_of_ble_eq_true rfl, Nat.le_of_ble_eq_true rfl⟩ ⟨rfl, rfl⟩ hK hH hA (cut0 (isC := [0, 1, 2]) rfl rfl rfl) rfl rfl rfl rfl hl.1 (Nat.le_of_ble_eq_true rfl) dX11_store_108 ⟨Nat.le_of_ble_eq_true rfl, Nat.le_of_ble_eq_true rfl⟩ (fun H locs hH => ?_)
        obtain ⟨g15, h⟩ := dc_need h
        refine gk_fast hx hb hK hH 6 rfl (dk_in g15) dX11_store_111 [(a_t, .inr (10, [v_t_thrown, .ref a_t_g, .ref a_t_ahead, .ref a_t_history, v_t_historyMany, .ref a_t_saved, v_t_hasSaved, .ref a_t_tape, v_t_taped, v_t_at, v_t_impossibleAt, v_t_letter, .ref a_t_numbers, .ref a_t_plan, v_t_detail, v_t_keptReason, v_t_keptDetail, v_t_above, v_t_below, v_t_bestAbove, v_t_bestBelow, .ref a_t_bestPlan, .ref a_t_sort, .ref a_t_size, .ref a_t_whole, .ref a_t_parts])), (a_t_g, .inl (k 0, 221, .inl t_g)), (a_t_plan, .inl (k 0, 12, .inl y65_t_plan)), (a_t_sort, .inl (k 0, 3, .inl y65_t_sort)), (a_t_size, .inl (k 0, 3, .inl y65_t_size)), (a_t_whole, .inl (k 0, 12, .inl (upd y65_t_whole (((4 : Int32) * x1) + y65_3).toNatClampNeg q12))), (a_t_parts, .inl (k 3, 12, .inr (.inr (.inl (vf_upd y65_t_parts (((4 : Int32) * x1) + y65_3).toNatClampNeg q14)))))] rfl (fun H locs hH => ?_)
        refine lv_iinc (v := (y65_3 + (1 : Int32))) (lv' := [(3, .int (y65_3 + (1 : Int32))), (0, .ref a_t), (1, .int x1)]) hx hb dX11_store_112 hl (k := 2) rfl rfl (by decide) rfl (fun ls hl => ?_)
        refine lv_goto (tgt := 65) hx hb dX11_store_115 (by decide) ?_
        exact ih kf (y65_3 + (1 : Int32)) (vf_upd y65_t_parts (((4 : Int32) * x1) + y65_3).toNatClampNeg q14) (upd y65_t_whole (((4 : Int32) * x1) + y65_3).toNatClampNeg q12) h kk H locs ls hH (lv_sub hl [1, 2, 0] rfl)
  rw [fX11_store] at h
  refine lv_iload_n hx hb dX11_store_0 rfl (lv_at hl 1 rfl) ?_
  obtain ⟨q1, hqq1, h⟩ := dc_bind h
  refine gc_Si (ws' := [(a_t, .inr (10, [v_t_thrown, .ref a_t_g, .ref a_t_ahead, .ref a_t_history, v_t_historyMany, .ref a_t_saved, v_t_hasSaved, .ref a_t_tape, v_t_taped, v_t_at, v_t_impossibleAt, v_t_letter, .ref a_t_numbers, .ref a_t_plan, v_t_detail, v_t_keptReason, v_t_keptDetail, v_t_above, v_t_below, v_t_bestAbove, v_t_bestBelow, .ref a_t_bestPlan, .ref a_t_sort, .ref a_t_size, .ref a_t_whole, .ref a_t_parts])), (a_t_g, .inl (k 0, 221, .inl t_g)), (a_t_plan, .inl (k 0, 12, .inl t_plan)), (a_t_sort, .inl (k 0, 3, .inl t_sort)), (a_t_size, .inl (k 0, 3, .inl t_size)), (a_t_whole, .inl (k 0, 12, .inl t_whole)), (a_t_parts, .inl (k 3, 12, .inr (.inr (.inl t_parts))))]) (As := [.int x1]) (rest := []) (n := 1) hTs ⟨hx, hb, hml, hown, hts⟩ (mX11_isRow l Ts hTs D k H.size x1 q1 hqq1) u_ml_X11_241 u_st_X11_isRow u_in_X11 u_co_X11_isRow hd_X11_isRow ⟨Nat.le_of_ble_eq_true rfl, Nat.le_of_ble_eq_true rfl⟩ ⟨rfl, rfl⟩ hK hH hA (cut0 (isC := []) rfl rfl rfl) rfl rfl hl.1 (Nat.le_of_ble_eq_true rfl) dX11_store_1 ⟨Nat.le_of_ble_eq_true rfl, Nat.le_of_ble_eq_true rfl⟩ (fun H locs hH => ?_)
  refine lv_if_ne (tgt := 13) hx hb dX11_store_4 (by decide) (fun c2 => ?_) (fun c2 => ?_)
  · replace h := dc_neg c2 h
    refine lv_aload_n hx hb dX11_store_13 rfl (lv_at hl 0 rfl) ?_
    refine gk_get (ci := 10) (C := RX11) (T := TX11) (N := 26) hx hb hts u_ws_X11 hown hK hH 0 rfl rfl 1 (by decide) u_fl_X11_7 rfl dX11_store_14 ?_
    refine lv_sipush (v := 219) hx hb dX11_store_17 (by decide) ?_
    refine gk_iald hx hb hK hH 1 rfl (dk_in (by decide)) dX11_store_20 ?_
    refine lv_if_ne (tgt := 30) hx hb dX11_store_21 (by decide) (fun c4 => ?_) (fun c4 => ?_)
    · replace h := dc_neg c4 h
      refine lv_aload_n hx hb dX11_store_30 rfl (lv_at hl 0 rfl) ?_
      obtain ⟨q6, hqq6, h⟩ := dc_bind h
      refine gc_Vv (ws' := [(a_t, .inr (10, [v_t_thrown, .ref a_t_g, .ref a_t_ahead, .ref a_t_history, v_t_historyMany, .ref a_t_saved, v_t_hasSaved, .ref a_t_tape, v_t_taped, v_t_at, v_t_impossibleAt, v_t_letter, .ref a_t_numbers, .ref a_t_plan, v_t_detail, v_t_keptReason, v_t_keptDetail, v_t_above, v_t_below, v_t_bestAbove, v_t_bestBelow, .ref a_t_bestPlan, .ref a_t_sort, .ref a_t_size, .ref a_t_whole, .ref a_t_parts])), (a_t_g, .inl (k 0, 221, .inl t_g)), (a_t_plan, .inl (k 0, 12, .inl q6)), (a_t_sort, .inl (k 0, 3, .inl t_sort)), (a_t_size, .inl (k 0, 3, .inl t_size)), (a_t_whole, .inl (k 0, 12, .inl t_whole)), (a_t_parts, .inl (k 3, 12, .inr (.inr (.inl t_parts))))]) (As := []) (rest := []) (n := 0) (ci := 10) (cq := (RX11, TX11, 26)) hTs ⟨hx, hb, hml, hown, hts⟩ (mX11_tells l Ts hTs D k H.size a_t a_t_g a_t_ahead a_t_history a_t_saved a_t_tape a_t_numbers a_t_plan a_t_bestPlan a_t_sort a_t_size a_t_whole a_t_parts t_g t_plan v_t_above v_t_at v_t_below v_t_bestAbove v_t_bestBelow v_t_detail v_t_hasSaved v_t_historyMany v_t_impossibleAt v_t_keptDetail v_t_keptReason v_t_letter v_t_taped v_t_thrown q6 hqq6) u_ml_X11_164 u_im_X11_tells u_se_X11_tells u_in_X11 u_co_X11_tells hd_X11_tells ⟨Nat.le_of_ble_eq_true rfl, Nat.le_of_ble_eq_true rfl⟩ ⟨rfl, rfl⟩ hK hH hA (cutM (isC := [0, 1, 2]) [some 0, some 1, some 2, none, none, none, none] 7 rfl rfl rfl rfl rfl rfl rfl) rfl rfl rfl rfl hl.1 (Nat.le_of_ble_eq_true rfl) dX11_store_31 ⟨Nat.le_of_ble_eq_true rfl, Nat.le_of_ble_eq_true rfl⟩ (fun H locs hH => ?_)
      refine lv_aload_n hx hb dX11_store_34 rfl (lv_at hl 0 rfl) ?_
      refine gk_get (ci := 10) (C := RX11) (T := TX11) (N := 26) hx hb hts u_ws_X11 hown hK hH 0 rfl rfl 22 (by decide) u_fl_X11_39 rfl dX11_store_35 ?_
      refine lv_iload_n hx hb dX11_store_38 rfl (lv_at hl 1 rfl) ?_
      refine lv_iload_n hx hb dX11_store_39 rfl (lv_at hl 2 rfl) ?_
      refine lv_if_eq (tgt := 47) hx hb dX11_store_40 (by decide) (fun c7 => ?_) (fun c7 => ?_)
      · replace h := dc_pos c7 h
        refine lv_iconst (v := 2) hx hb dX11_store_47 (by decide) ?_
        obtain ⟨g8, h⟩ := dc_need h
        refine gk_iast hx hb hK hH 3 rfl (dk_in g8) dX11_store_48 [(a_t, .inr (10, [v_t_thrown, .ref a_t_g, .ref a_t_ahead, .ref a_t_history, v_t_historyMany, .ref a_t_saved, v_t_hasSaved, .ref a_t_tape, v_t_taped, v_t_at, v_t_impossibleAt, v_t_letter, .ref a_t_numbers, .ref a_t_plan, v_t_detail, v_t_keptReason, v_t_keptDetail, v_t_above, v_t_below, v_t_bestAbove, v_t_bestBelow, .ref a_t_bestPlan, .ref a_t_sort, .ref a_t_size, .ref a_t_whole, .ref a_t_parts])), (a_t_g, .inl (k 0, 221, .inl t_g)), (a_t_plan, .inl (k 0, 12, .inl q6)), (a_t_sort, .inl (k 0, 3, .inl (upd t_sort x1.toNatClampNeg (2 : Int32)))), (a_t_size, .inl (k 0, 3, .inl t_size)), (a_t_whole, .inl (k 0, 12, .inl t_whole)), (a_t_parts, .inl (k 3, 12, .inr (.inr (.inl t_parts))))] rfl (fun H locs hH => ?_)
        refine lv_aload_n hx hb dX11_store_49 rfl (lv_at hl 0 rfl) ?_
        refine gk_get (ci := 10) (C := RX11) (T := TX11) (N := 26) hx hb hts u_ws_X11 hown hK hH 0 rfl rfl 23 (by decide) u_fl_X11_42 rfl dX11_store_50 ?_
        refine lv_iload_n hx hb dX11_store_53 rfl (lv_at hl 1 rfl) ?_
        refine lv_aload_n hx hb dX11_store_54 rfl (lv_at hl 0 rfl) ?_
        refine gk_get (ci := 10) (C := RX11) (T := TX11) (N := 26) hx hb hts u_ws_X11 hown hK hH 0 rfl rfl 1 (by decide) u_fl_X11_7 rfl dX11_store_55 ?_
        refine lv_sipush (v := 205) hx hb dX11_store_58 (by decide) ?_
        refine gk_iald hx hb hK hH 1 rfl (dk_in (by decide)) dX11_store_61 ?_
        obtain ⟨g9, h⟩ := dc_need h
        refine gk_iast hx hb hK hH 4 rfl (dk_in g9) dX11_store_62 [(a_t, .inr (10, [v_t_thrown, .ref a_t_g, .ref a_t_ahead, .ref a_t_history, v_t_historyMany, .ref a_t_saved, v_t_hasSaved, .ref a_t_tape, v_t_taped, v_t_at, v_t_impossibleAt, v_t_letter, .ref a_t_numbers, .ref a_t_plan, v_t_detail, v_t_keptReason, v_t_keptDetail, v_t_above, v_t_below, v_t_bestAbove, v_t_bestBelow, .ref a_t_bestPlan, .ref a_t_sort, .ref a_t_size, .ref a_t_whole, .ref a_t_parts])), (a_t_g, .inl (k 0, 221, .inl t_g)), (a_t_plan, .inl (k 0, 12, .inl q6)), (a_t_sort, .inl (k 0, 3, .inl (upd t_sort x1.toNatClampNeg (2 : Int32)))), (a_t_size, .inl (k 0, 3, .inl (upd t_size x1.toNatClampNeg (t_g (205 : Int32).toNatClampNeg)))), (a_t_whole, .inl (k 0, 12, .inl t_whole)), (a_t_parts, .inl (k 3, 12, .inr (.inr (.inl t_parts))))] rfl (fun H locs hH => ?_)
        refine lv_iconst (v := 0) hx hb dX11_store_63 (by decide) ?_
        refine lv_istore_n (lv' := [(3, .int (0 : Int32)), (0, .ref a_t), (1, .int x1), (2, .int x2)]) hx hb dX11_store_64 rfl hl (by decide) rfl (fun ls hl => ?_)
        refine L65 q6 (upd t_size x1.toNatClampNeg (t_g (205 : Int32).toNatClampNeg)) (upd t_sort x1.toNatClampNeg (2 : Int32)) _ _ (0 : Int32) t_parts t_whole h (fun z65_t_parts z65_t_whole H locs ls h hH hl => ?_) H locs ls hH (lv_sub hl [1, 2, 0] rfl)
        refine lv_aload_n hx hb dX11_store_118 rfl (lv_at hl 0 rfl) ?_
        refine lv_aload_n hx hb dX11_store_119 rfl (lv_at hl 0 rfl) ?_
        refine gk_get (ci := 10) (C := RX11) (T := TX11) (N := 26) hx hb hts u_ws_X11 hown hK hH 0 rfl rfl 1 (by decide) u_fl_X11_7 rfl dX11_store_120 ?_
        refine lv_sipush (v := 205) hx hb dX11_store_123 (by decide) ?_
        refine gk_iald hx hb hK hH 1 rfl (dk_in (by decide)) dX11_store_126 ?_
        obtain ⟨q16, hqq16, h⟩ := dc_bind h
        refine gc_Vi (ws' := [(a_t, .inr (10, [.int q16.2, .ref a_t_g, .ref a_t_ahead, .ref a_t_history, v_t_historyMany, .ref a_t_saved, v_t_hasSaved, .ref a_t_tape, v_t_taped, v_t_at, v_t_impossibleAt, v_t_letter, .ref a_t_numbers, .ref a_t_plan, v_t_detail, v_t_keptReason, v_t_keptDetail, v_t_above, v_t_below, v_t_bestAbove, v_t_bestBelow, .ref a_t_bestPlan, .ref a_t_sort, .ref a_t_size, .ref a_t_whole, .ref a_t_parts])), (a_t_g, .inl (k 0, 221, .inl t_g)), (a_t_plan, .inl (k 0, 12, .inl q6)), (a_t_sort, .inl (k 0, 3, .inl (upd t_sort x1.toNatClampNeg (2 : Int32)))), (a_t_size, .inl (k 0, 3, .inl (upd t_size x1.toNatClampNeg (t_g (205 : Int32).toNatClampNeg)))), (a_t_whole, .inl (k 0, 12, .inl z65_t_whole)), (a_t_parts, .inl (k 3, 12, .inr (.inr (.inl z65_t_parts))))]) (As := [.int (t_g (205 : Int32).toNatClampNeg)]) (rest := []) (n := 1) (ci := 10) (cq := (RX11, TX11, 26)) hTs ⟨hx, hb, hml, hown, hts⟩ (mX11_done l Ts hTs D k H.size a_t a_t_g a_t_ahead a_t_history a_t_saved a_t_tape a_t_numbers a_t_plan a_t_bestPlan a_t_sort a_t_size a_t_whole a_t_parts v_t_above v_t_at v_t_below v_t_bestAbove v_t_bestBelow v_t_detail v_t_hasSaved v_t_historyMany v_t_impossibleAt v_t_keptDetail v_t_keptReason v_t_letter v_t_taped v_t_thrown (t_g (205 : Int32).toNatClampNeg) q16 hqq16) u_ml_X11_69 u_im_X11_done u_se_X11_done u_in_X11 u_co_X11_done hd_X11_done ⟨Nat.le_of_ble_eq_true rfl, Nat.le_of_ble_eq_true rfl⟩ ⟨rfl, rfl⟩ hK hH hA (cutM (isC := [0]) [some 0, none, none, none, none, none, none] 7 rfl rfl rfl rfl rfl rfl rfl) rfl rfl rfl rfl hl.1 (Nat.le_of_ble_eq_true rfl) dX11_store_127 ⟨Nat.le_of_ble_eq_true rfl, Nat.le_of_ble_eq_true rfl⟩ (fun H locs hH => ?_)
        have h := Option.some.inj h
        subst h
        exact ge_i hx hb hr hlocks hQ hK hH hAe rfl dX11_store_130
      · replace h := dc_neg c7 h
        refine lv_iconst (v := 1) hx hb dX11_store_43 (by decide) ?_
        refine lv_goto (tgt := 48) hx hb dX11_store_44 (by decide) ?_
        obtain ⟨g17, h⟩ := dc_need h
        refine gk_iast hx hb hK hH 3 rfl (dk_in g17) dX11_store_48 [(a_t, .inr (10, [v_t_thrown, .ref a_t_g, .ref a_t_ahead, .ref a_t_history, v_t_historyMany, .ref a_t_saved, v_t_hasSaved, .ref a_t_tape, v_t_taped, v_t_at, v_t_impossibleAt, v_t_letter, .ref a_t_numbers, .ref a_t_plan, v_t_detail, v_t_keptReason, v_t_keptDetail, v_t_above, v_t_below, v_t_bestAbove, v_t_bestBelow, .ref a_t_bestPlan, .ref a_t_sort, .ref a_t_size, .ref a_t_whole, .ref a_t_parts])), (a_t_g, .inl (k 0, 221, .inl t_g)), (a_t_plan, .inl (k 0, 12, .inl q6)), (a_t_sort, .inl (k 0, 3, .inl (upd t_sort x1.toNatClampNeg (1 : Int32)))), (a_t_size, .inl (k 0, 3, .inl t_size)), (a_t_whole, .inl (k 0, 12, .inl t_whole)), (a_t_parts, .inl (k 3, 12, .inr (.inr (.inl t_parts))))] rfl (fun H locs hH => ?_)
        refine lv_aload_n hx hb dX11_store_49 rfl (lv_at hl 0 rfl) ?_
        refine gk_get (ci := 10) (C := RX11) (T := TX11) (N := 26) hx hb hts u_ws_X11 hown hK hH 0 rfl rfl 23 (by decide) u_fl_X11_42 rfl dX11_store_50 ?_
        refine lv_iload_n hx hb dX11_store_53 rfl (lv_at hl 1 rfl) ?_
        refine lv_aload_n hx hb dX11_store_54 rfl (lv_at hl 0 rfl) ?_
        refine gk_get (ci := 10) (C := RX11) (T := TX11) (N := 26) hx hb hts u_ws_X11 hown hK hH 0 rfl rfl 1 (by decide) u_fl_X11_7 rfl dX11_store_55 ?_
        refine lv_sipush (v := 205) hx hb dX11_store_58 (by decide) ?_
        refine gk_iald hx hb hK hH 1 rfl (dk_in (by decide)) dX11_store_61 ?_
        obtain ⟨g18, h⟩ := dc_need h
        refine gk_iast hx hb hK hH 4 rfl (dk_in g18) dX11_store_62 [(a_t, .inr (10, [v_t_thrown, .ref a_t_g, .ref a_t_ahead, .ref a_t_history, v_t_historyMany, .ref a_t_saved, v_t_hasSaved, .ref a_t_tape, v_t_taped, v_t_at, v_t_impossibleAt, v_t_letter, .ref a_t_numbers, .ref a_t_plan, v_t_detail, v_t_keptReason, v_t_keptDetail, v_t_above, v_t_below, v_t_bestAbove, v_t_bestBelow, .ref a_t_bestPlan, .ref a_t_sort, .ref a_t_size, .ref a_t_whole, .ref a_t_parts])), (a_t_g, .inl (k 0, 221, .inl t_g)), (a_t_plan, .inl (k 0, 12, .inl q6)), (a_t_sort, .inl (k 0, 3, .inl (upd t_sort x1.toNatClampNeg (1 : Int32)))), (a_t_size, .inl (k 0, 3, .inl (upd t_size x1.toNatClampNeg (t_g (205 : Int32).toNatClampNeg)))), (a_t_whole, .inl (k 0, 12, .inl t_whole)), (a_t_parts, .inl (k 3, 12, .inr (.inr (.inl t_parts))))] rfl (fun H locs hH => ?_)
        refine lv_iconst (v := 0) hx hb dX11_store_63 (by decide) ?_
        refine lv_istore_n (lv' := [(3, .int (0 : Int32)), (0, .ref a_t), (1, .int x1), (2, .int x2)]) hx hb dX11_store_64 rfl hl (by decide) rfl (fun ls hl => ?_)
        refine L65 q6 (upd t_size x1.toNatClampNeg (t_g (205 : Int32).toNatClampNeg)) (upd t_sort x1.toNatClampNeg (1 : Int32)) _ _ (0 : Int32) t_parts t_whole h (fun z65_t_parts z65_t_whole H locs ls h hH hl => ?_) H locs ls hH (lv_sub hl [1, 2, 0] rfl)
        refine lv_aload_n hx hb dX11_store_118 rfl (lv_at hl 0 rfl) ?_
        refine lv_aload_n hx hb dX11_store_119 rfl (lv_at hl 0 rfl) ?_
        refine gk_get (ci := 10) (C := RX11) (T := TX11) (N := 26) hx hb hts u_ws_X11 hown hK hH 0 rfl rfl 1 (by decide) u_fl_X11_7 rfl dX11_store_120 ?_
        refine lv_sipush (v := 205) hx hb dX11_store_123 (by decide) ?_
        refine gk_iald hx hb hK hH 1 rfl (dk_in (by decide)) dX11_store_126 ?_
        obtain ⟨q19, hqq19, h⟩ := dc_bind h
        refine gc_Vi (ws' := [(a_t, .inr (10, [.int q19.2, .ref a_t_g, .ref a_t_ahead, .ref a_t_history, v_t_historyMany, .ref a_t_saved, v_t_hasSaved, .ref a_t_tape, v_t_taped, v_t_at, v_t_impossibleAt, v_t_letter, .ref a_t_numbers, .ref a_t_plan, v_t_detail, v_t_keptReason, v_t_keptDetail, v_t_above, v_t_below, v_t_bestAbove, v_t_bestBelow, .ref a_t_bestPlan, .ref a_t_sort, .ref a_t_size, .ref a_t_whole, .ref a_t_parts])), (a_t_g, .inl (k 0, 221, .inl t_g)), (a_t_plan, .inl (k 0, 12, .inl q6)), (a_t_sort, .inl (k 0, 3, .inl (upd t_sort x1.toNatClampNeg (1 : Int32)))), (a_t_size, .inl (k 0, 3, .inl (upd t_size x1.toNatClampNeg (t_g (205 : Int32).toNatClampNeg)))), (a_t_whole, .inl (k 0, 12, .inl z65_t_whole)), (a_t_parts, .inl (k 3, 12, .inr (.inr (.inl z65_t_parts))))]) (As := [.int (t_g (205 : Int32).toNatClampNeg)]) (rest := []) (n := 1) (ci := 10) (cq := (RX11, TX11, 26)) hTs ⟨hx, hb, hml, hown, hts⟩ (mX11_done l Ts hTs D k H.size a_t a_t_g a_t_ahead a_t_history a_t_saved a_t_tape a_t_numbers a_t_plan a_t_bestPlan a_t_sort a_t_size a_t_whole a_t_parts v_t_above v_t_at v_t_below v_t_bestAbove v_t_bestBelow v_t_detail v_t_hasSaved v_t_historyMany v_t_impossibleAt v_t_keptDetail v_t_keptReason v_t_letter v_t_taped v_t_thrown (t_g (205 : Int32).toNatClampNeg) q19 hqq19) u_ml_X11_69 u_im_X11_done u_se_X11_done u_in_X11 u_co_X11_done hd_X11_done ⟨Nat.le_of_ble_eq_true rfl, Nat.le_of_ble_eq_true rfl⟩ ⟨rfl, rfl⟩ hK hH hA (cutM (isC := [0]) [some 0, none, none, none, none, none, none] 7 rfl rfl rfl rfl rfl rfl rfl) rfl rfl rfl rfl hl.1 (Nat.le_of_ble_eq_true rfl) dX11_store_127 ⟨Nat.le_of_ble_eq_true rfl, Nat.le_of_ble_eq_true rfl⟩ (fun H locs hH => ?_)
        have h := Option.some.inj h
        subst h
        exact ge_i hx hb hr hlocks hQ hK hH hAe rfl dX11_store_130
    · replace h := dc_pos c4 h
      refine lv_aload_n hx hb dX11_store_24 rfl (lv_at hl 0 rfl) ?_
      refine lv_iconst (v := 2) hx hb dX11_store_25 (by decide) ?_
      obtain ⟨q5, hqq5, h⟩ := dc_bind h
      refine gc_Vi (ws' := [(a_t, .inr (10, [.int q5.2, .ref a_t_g, .ref a_t_ahead, .ref a_t_history, v_t_historyMany, .ref a_t_saved, v_t_hasSaved, .ref a_t_tape, v_t_taped, v_t_at, v_t_impossibleAt, v_t_letter, .ref a_t_numbers, .ref a_t_plan, v_t_detail, v_t_keptReason, v_t_keptDetail, v_t_above, v_t_below, v_t_bestAbove, v_t_bestBelow, .ref a_t_bestPlan, .ref a_t_sort, .ref a_t_size, .ref a_t_whole, .ref a_t_parts])), (a_t_g, .inl (k 0, 221, .inl t_g)), (a_t_plan, .inl (k 0, 12, .inl t_plan)), (a_t_sort, .inl (k 0, 3, .inl t_sort)), (a_t_size, .inl (k 0, 3, .inl t_size)), (a_t_whole, .inl (k 0, 12, .inl t_whole)), (a_t_parts, .inl (k 3, 12, .inr (.inr (.inl t_parts))))]) (As := [.int (2 : Int32)]) (rest := []) (n := 1) (ci := 10) (cq := (RX11, TX11, 26)) hTs ⟨hx, hb, hml, hown, hts⟩ (mX11_fails l Ts hTs D k H.size a_t a_t_g a_t_ahead a_t_history a_t_saved a_t_tape a_t_numbers a_t_plan a_t_bestPlan a_t_sort a_t_size a_t_whole a_t_parts v_t_above v_t_at v_t_below v_t_bestAbove v_t_bestBelow v_t_detail v_t_hasSaved v_t_historyMany v_t_impossibleAt v_t_keptDetail v_t_keptReason v_t_letter v_t_taped v_t_thrown (2 : Int32) q5 hqq5) u_ml_X11_65 u_im_X11_fails u_se_X11_fails u_in_X11 u_co_X11_fails hd_X11_fails ⟨Nat.le_of_ble_eq_true rfl, Nat.le_of_ble_eq_true rfl⟩ ⟨rfl, rfl⟩ hK hH hA (cutM (isC := [0]) [some 0, none, none, none, none, none, none] 7 rfl rfl rfl rfl rfl rfl rfl) rfl rfl rfl rfl hl.1 (Nat.le_of_ble_eq_true rfl) dX11_store_26 ⟨Nat.le_of_ble_eq_true rfl, Nat.le_of_ble_eq_true rfl⟩ (fun H locs hH => ?_)
      have h := Option.some.inj h
      subst h
      exact ge_i hx hb hr hlocks hQ hK hH hAe rfl dX11_store_29
  · replace h := dc_pos c2 h
    refine lv_aload_n hx hb dX11_store_7 rfl (lv_at hl 0 rfl) ?_
    refine lv_iconst (v := 1) hx hb dX11_store_8 (by decide) ?_
    obtain ⟨q3, hqq3, h⟩ := dc_bind h
    refine gc_Vi (ws' := [(a_t, .inr (10, [.int q3.2, .ref a_t_g, .ref a_t_ahead, .ref a_t_history, v_t_historyMany, .ref a_t_saved, v_t_hasSaved, .ref a_t_tape, v_t_taped, v_t_at, v_t_impossibleAt, v_t_letter, .ref a_t_numbers, .ref a_t_plan, v_t_detail, v_t_keptReason, v_t_keptDetail, v_t_above, v_t_below, v_t_bestAbove, v_t_bestBelow, .ref a_t_bestPlan, .ref a_t_sort, .ref a_t_size, .ref a_t_whole, .ref a_t_parts])), (a_t_g, .inl (k 0, 221, .inl t_g)), (a_t_plan, .inl (k 0, 12, .inl t_plan)), (a_t_sort, .inl (k 0, 3, .inl t_sort)), (a_t_size, .inl (k 0, 3, .inl t_size)), (a_t_whole, .inl (k 0, 12, .inl t_whole)), (a_t_parts, .inl (k 3, 12, .inr (.inr (.inl t_parts))))]) (As := [.int (1 : Int32)]) (rest := []) (n := 1) (ci := 10) (cq := (RX11, TX11, 26)) hTs ⟨hx, hb, hml, hown, hts⟩ (mX11_fails l Ts hTs D k H.size a_t a_t_g a_t_ahead a_t_history a_t_saved a_t_tape a_t_numbers a_t_plan a_t_bestPlan a_t_sort a_t_size a_t_whole a_t_parts v_t_above v_t_at v_t_below v_t_bestAbove v_t_bestBelow v_t_detail v_t_hasSaved v_t_historyMany v_t_impossibleAt v_t_keptDetail v_t_keptReason v_t_letter v_t_taped v_t_thrown (1 : Int32) q3 hqq3) u_ml_X11_65 u_im_X11_fails u_se_X11_fails u_in_X11 u_co_X11_fails hd_X11_fails ⟨Nat.le_of_ble_eq_true rfl, Nat.le_of_ble_eq_true rfl⟩ ⟨rfl, rfl⟩ hK hH hA (cutM (isC := [0]) [some 0, none, none, none, none, none, none] 7 rfl rfl rfl rfl rfl rfl rfl) rfl rfl rfl rfl hl.1 (Nat.le_of_ble_eq_true rfl) dX11_store_9 ⟨Nat.le_of_ble_eq_true rfl, Nat.le_of_ble_eq_true rfl⟩ (fun H locs hH => ?_)
    have h := Option.some.inj h
    subst h
    exact ge_i hx hb hr hlocks hQ hK hH hAe rfl dX11_store_12
theorem hd_X11_copyRow : yX11_copyRow.cls = RX11 ∧ yX11_copyRow.cls ≠ "java/lang/invoke/MethodHandle" ∧ yX11_copyRow.cls ≠ "java/lang/invoke/VarHandle" ∧ (parseMethodDescriptor yX11_copyRow.desc).map (fun d => d.parameters.length) = some 3 := by decide +kernel
set_option maxHeartbeats 4000000 in
set_option maxRecDepth 100000 in
theorem mX11_copyRow (l : Launch) (Ts : List Cond) (hTs : ∀ w, w ∈ Ts ↔ w ∈ uT) (D : va_G) (k : Nat → ClassId) (sz : Nat) (a_t : Nat) (a_t_g : Nat) (a_t_ahead : Nat) (a_t_history : Nat) (a_t_saved : Nat) (a_t_tape : Nat) (a_t_numbers : Nat) (a_t_plan : Nat) (a_t_bestPlan : Nat) (a_t_sort : Nat) (a_t_size : Nat) (a_t_whole : Nat) (a_t_parts : Nat) (t_parts : Nat → UInt32) (t_size : Nat → Int32) (t_sort : Nat → Int32) (t_whole : Nat → Int32) (v_t_above : Value) (v_t_at : Value) (v_t_below : Value) (v_t_bestAbove : Value) (v_t_bestBelow : Value) (v_t_detail : Value) (v_t_hasSaved : Value) (v_t_historyMany : Value) (v_t_impossibleAt : Value) (v_t_keptDetail : Value) (v_t_keptReason : Value) (v_t_letter : Value) (v_t_taped : Value) (v_t_thrown : Value) (x1 : Int32) (x2 : Int32) (x3 : Int32) (r : Int32 × (Nat → UInt32) × Int32 × (Nat → Int32)) (h : fX11_copyRow t_parts t_size t_sort t_whole x1 x2 x3 = some r) : Met l yX11_copyRow (Cond.code yX11_copyRow cX11_copyRow 6 (some .int) :: Ts) ({ frames := 2, cells := 0, slots := 0, locals := 42 } : Room) (preM D k [.ref a_t, .int x1, .int x2, .int x3] [(a_t, .inr (10, [v_t_thrown, .ref a_t_g, .ref a_t_ahead, .ref a_t_history, v_t_historyMany, .ref a_t_saved, v_t_hasSaved, .ref a_t_tape, v_t_taped, v_t_at, v_t_impossibleAt, v_t_letter, .ref a_t_numbers, .ref a_t_plan, v_t_detail, v_t_keptReason, v_t_keptDetail, v_t_above, v_t_below, v_t_bestAbove, v_t_bestBelow, .ref a_t_bestPlan, .ref a_t_sort, .ref a_t_size, .ref a_t_whole, .ref a_t_parts])), (a_t_sort, .inl (k 0, 3, .inl t_sort)), (a_t_size, .inl (k 0, 3, .inl t_size)), (a_t_whole, .inl (k 0, 12, .inl t_whole)), (a_t_parts, .inl (k 3, 12, .inr (.inr (.inl t_parts))))] sz) (postI D k r.1 [(a_t, .inr (10, [v_t_thrown, .ref a_t_g, .ref a_t_ahead, .ref a_t_history, v_t_historyMany, .ref a_t_saved, v_t_hasSaved, .ref a_t_tape, v_t_taped, v_t_at, v_t_impossibleAt, v_t_letter, .ref a_t_numbers, .ref a_t_plan, v_t_detail, v_t_keptReason, v_t_keptDetail, v_t_above, v_t_below, v_t_bestAbove, v_t_bestBelow, .ref a_t_bestPlan, .ref a_t_sort, .ref a_t_size, .ref a_t_whole, .ref a_t_parts])), (a_t_sort, .inl (k 0, 3, .inl t_sort)), (a_t_size, .inl (k 0, 3, .inl t_size)), (a_t_whole, .inl (k 0, 12, .inl t_whole)), (a_t_parts, .inl (k 3, 12, .inr (.inr (.inl t_parts))))] [(a_t, .inr (10, [.int r.2.2.1, .ref a_t_g, .ref a_t_ahead, .ref a_t_history, v_t_historyMany, .ref a_t_saved, v_t_hasSaved, .ref a_t_tape, v_t_taped, v_t_at, v_t_impossibleAt, v_t_letter, .ref a_t_numbers, .ref a_t_plan, v_t_detail, v_t_keptReason, v_t_keptDetail, v_t_above, v_t_below, v_t_bestAbove, v_t_bestBelow, .ref a_t_bestPlan, .ref a_t_sort, .ref a_t_size, .ref a_t_whole, .ref a_t_parts])), (a_t_sort, .inl (k 0, 3, .inl t_sort)), (a_t_size, .inl (k 0, 3, .inl t_size)), (a_t_whole, .inl (k 0, 12, .inl r.2.2.2)), (a_t_parts, .inl (k 3, 12, .inr (.inr (.inl r.2.1))))] sz) 0 0 (va_A [(a_t, .inr (10, [v_t_thrown, .ref a_t_g, .ref a_t_ahead, .ref a_t_history, v_t_historyMany, .ref a_t_saved, v_t_hasSaved, .ref a_t_tape, v_t_taped, v_t_at, v_t_impossibleAt, v_t_letter, .ref a_t_numbers, .ref a_t_plan, v_t_detail, v_t_keptReason, v_t_keptDetail, v_t_above, v_t_below, v_t_bestAbove, v_t_bestBelow, .ref a_t_bestPlan, .ref a_t_sort, .ref a_t_size, .ref a_t_whole, .ref a_t_parts])), (a_t_sort, .inl (k 0, 3, .inl t_sort)), (a_t_size, .inl (k 0, 3, .inl t_size)), (a_t_whole, .inl (k 0, 12, .inl t_whole)), (a_t_parts, .inl (k 3, 12, .inr (.inr (.inl t_parts))))] sz) := by
  refine Met.ofW (cc := cX11_copyRow) (maxL := 6) (ret := (some .int)) (by decide) rfl ?_
  intro p e s m args below meth c s₁ B hml hv
  obtain ⟨rfl, hsz, hP, hK, hD0⟩ := hv
  have hx := B.exec
  have hb := B.bytes
  have hr := B.returns
  have hts0 := atoms_spec (ws := (Cond.code yX11_copyRow cX11_copyRow 6 (some .int) :: Ts)) B.pre
  have hts : ∀ w ∈ uT, w.before _ s = true := fun w h => hts0 w (List.mem_cons_of_mem _ ((hTs w).mpr h))
  clear hts0
  have hown : s.vm.findClass RX11 = some m.cls := findClass_of_methodNamed B.named
  have hlocks := B.notSynchronized
  subst hsz
  have hD := hD0.self (sz := s.heap.size)
  generalize hAe : va_A [(a_t, .inr (10, [v_t_thrown, .ref a_t_g, .ref a_t_ahead, .ref a_t_history, v_t_historyMany, .ref a_t_saved, v_t_hasSaved, .ref a_t_tape, v_t_taped, v_t_at, v_t_impossibleAt, v_t_letter, .ref a_t_numbers, .ref a_t_plan, v_t_detail, v_t_keptReason, v_t_keptDetail, v_t_above, v_t_below, v_t_bestAbove, v_t_bestBelow, .ref a_t_bestPlan, .ref a_t_sort, .ref a_t_size, .ref a_t_whole, .ref a_t_parts])), (a_t_sort, .inl (k 0, 3, .inl t_sort)), (a_t_size, .inl (k 0, 3, .inl t_size)), (a_t_whole, .inl (k 0, 12, .inl t_whole)), (a_t_parts, .inl (k 3, 12, .inr (.inr (.inl t_parts))))] s.heap.size = A at hD ⊢
  have hA : ∀ q : Nat, s.heap.size ≤ q → A q := fun q h => by rw [← hAe]; exact Or.inr h
  have hH : HOK D A s.heap [(a_t, .inr (10, [v_t_thrown, .ref a_t_g, .ref a_t_ahead, .ref a_t_history, v_t_historyMany, .ref a_t_saved, v_t_hasSaved, .ref a_t_tape, v_t_taped, v_t_at, v_t_impossibleAt, v_t_letter, .ref a_t_numbers, .ref a_t_plan, v_t_detail, v_t_keptReason, v_t_keptDetail, v_t_above, v_t_below, v_t_bestAbove, v_t_bestBelow, .ref a_t_bestPlan, .ref a_t_sort, .ref a_t_size, .ref a_t_whole, .ref a_t_parts])), (a_t_sort, .inl (k 0, 3, .inl t_sort)), (a_t_size, .inl (k 0, 3, .inl t_size)), (a_t_whole, .inl (k 0, 12, .inl t_whole)), (a_t_parts, .inl (k 3, 12, .inr (.inr (.inl t_parts))))] s.heap [] := ⟨hP, hD, va_S.rf⟩
  have hl := lv_entry ([.ref a_t, .int x1, .int x2, .int x3]) (n := 6) (Nat.le_of_ble_eq_true rfl)
  rw [lg_entry_eq]
  generalize (lg_sl ([.ref a_t, .int x1, .int x2, .int x3]) ++ List.replicate (6 - (lg_sl ([.ref a_t, .int x1, .int x2, .int x3])).length) Slot.unset).toArray = ls at hl ⊢
  have hl : lv_has ls 6 [(0, .ref a_t), (1, .int x1), (2, .int x2), (3, .int x3)] := hl
  generalize hQ : MQ below (postI D k r.1 [(a_t, .inr (10, [v_t_thrown, .ref a_t_g, .ref a_t_ahead, .ref a_t_history, v_t_historyMany, .ref a_t_saved, v_t_hasSaved, .ref a_t_tape, v_t_taped, v_t_at, v_t_impossibleAt, v_t_letter, .ref a_t_numbers, .ref a_t_plan, v_t_detail, v_t_keptReason, v_t_keptDetail, v_t_above, v_t_below, v_t_bestAbove, v_t_bestBelow, .ref a_t_bestPlan, .ref a_t_sort, .ref a_t_size, .ref a_t_whole, .ref a_t_parts])), (a_t_sort, .inl (k 0, 3, .inl t_sort)), (a_t_size, .inl (k 0, 3, .inl t_size)), (a_t_whole, .inl (k 0, 12, .inl t_whole)), (a_t_parts, .inl (k 3, 12, .inr (.inr (.inl t_parts))))] [(a_t, .inr (10, [.int r.2.2.1, .ref a_t_g, .ref a_t_ahead, .ref a_t_history, v_t_historyMany, .ref a_t_saved, v_t_hasSaved, .ref a_t_tape, v_t_taped, v_t_at, v_t_impossibleAt, v_t_letter, .ref a_t_numbers, .ref a_t_plan, v_t_detail, v_t_keptReason, v_t_keptDetail, v_t_above, v_t_below, v_t_bestAbove, v_t_bestBelow, .ref a_t_bestPlan, .ref a_t_sort, .ref a_t_size, .ref a_t_whole, .ref a_t_parts])), (a_t_sort, .inl (k 0, 3, .inl t_sort)), (a_t_size, .inl (k 0, 3, .inl t_size)), (a_t_whole, .inl (k 0, 12, .inl r.2.2.2)), (a_t_parts, .inl (k 3, 12, .inr (.inr (.inl r.2.1))))] s.heap.size) (List.toArray [.ref a_t, .int x1, .int x2, .int x3]) s 0 0 A = Q
  clear hP hD hD0
  suffices K : ∀ (H : Heap) (locs : List Loc), HOK D A s.heap [(a_t, .inr (10, [v_t_thrown, .ref a_t_g, .ref a_t_ahead, .ref a_t_history, v_t_historyMany, .ref a_t_saved, v_t_hasSaved, .ref a_t_tape, v_t_taped, v_t_at, v_t_impossibleAt, v_t_letter, .ref a_t_numbers, .ref a_t_plan, v_t_detail, v_t_keptReason, v_t_keptDetail, v_t_above, v_t_below, v_t_bestAbove, v_t_bestBelow, .ref a_t_bestPlan, .ref a_t_sort, .ref a_t_size, .ref a_t_whole, .ref a_t_parts])), (a_t_sort, .inl (k 0, 3, .inl t_sort)), (a_t_size, .inl (k 0, 3, .inl t_size)), (a_t_whole, .inl (k 0, 12, .inl t_whole)), (a_t_parts, .inl (k 3, 12, .inr (.inr (.inl t_parts))))] H locs → W p l e ({ frames := 2, cells := 0, slots := 0, locals := 42 } : Room) s m (List.toArray [.ref a_t, .int x1, .int x2, .int x3]) below meth c H locs 0 0 Q (F0 m 0 ls []) from K s.heap [] hH
  intro H locs hH
  have L160 : ∀ (y160_t_parts : Nat → UInt32) (y160_t_whole : Nat → Int32) (n : Nat), ∀ (kf : Int32 → Option (Int32 × (Nat → UInt32) × Int32 × (Nat → Int32))) (y160_4 : Int32) (y160_5 : Int32), fX11_copyRow_L160 t_size t_sort x2 y160_t_parts y160_t_whole n kf y160_4 y160_5 = some r → (∀ (z160_4 : Int32) (H : Heap) (locs : List Loc) (ls : Array Slot), kf z160_4 = some r → HOK D A s.heap [(a_t, .inr (10, [v_t_thrown, .ref a_t_g, .ref a_t_ahead, .ref a_t_history, v_t_historyMany, .ref a_t_saved, v_t_hasSaved, .ref a_t_tape, v_t_taped, v_t_at, v_t_impossibleAt, v_t_letter, .ref a_t_numbers, .ref a_t_plan, v_t_detail, v_t_keptReason, v_t_keptDetail, v_t_above, v_t_below, v_t_bestAbove, v_t_bestBelow, .ref a_t_bestPlan, .ref a_t_sort, .ref a_t_size, .ref a_t_whole, .ref a_t_parts])), (a_t_sort, .inl (k 0, 3, .inl t_sort)), (a_t_size, .inl (k 0, 3, .inl t_size)), (a_t_whole, .inl (k 0, 12, .inl y160_t_whole)), (a_t_parts, .inl (k 3, 12, .inr (.inr (.inl y160_t_parts))))] H locs → lv_has ls 6 [(0, .ref a_t), (4, .int z160_4)] → W p l e ({ frames := 2, cells := 0, slots := 0, locals := 42 } : Room) s m (List.toArray [.ref a_t, .int x1, .int x2, .int x3]) below meth c H locs 0 0 Q (F0 m 218 ls [])) → ∀ (H : Heap) (locs : List Loc) (ls : Array Slot), HOK D A s.heap [(a_t, .inr (10, [v_t_thrown, .ref a_t_g, .ref a_t_ahead, .ref a_t_history, v_t_historyMany, .ref a_t_saved, v_t_hasSaved, .ref a_t_tape, v_t_taped, v_t_at, v_t_impossibleAt, v_t_letter, .ref a_t_numbers, .ref a_t_plan, v_t_detail, v_t_keptReason, v_t_keptDetail, v_t_above, v_t_below, v_t_bestAbove, v_t_bestBelow, .ref a_t_bestPlan, .ref a_t_sort, .ref a_t_size, .ref a_t_whole, .ref a_t_parts])), (a_t_sort, .inl (k 0, 3, .inl t_sort)), (a_t_size, .inl (k 0, 3, .inl t_size)), (a_t_whole, .inl (k 0, 12, .inl y160_t_whole)), (a_t_parts, .inl (k 3, 12, .inr (.inr (.inl y160_t_parts))))] H locs → lv_has ls 6 [(0, .ref a_t), (2, .int x2), (4, .int y160_4), (5, .int y160_5)] → W p l e ({ frames := 2, cells := 0, slots := 0, locals := 42 } : Room) s m (List.toArray [.ref a_t, .int x1, .int x2, .int x3]) below meth c H locs 0 0 Q (F0 m 160 ls []) := by
    intro y160_t_parts y160_t_whole n
    induction n with
    | zero =>
      intro kf y160_4 y160_5 h
      exact absurd h (by rw [fX11_copyRow_L160]; exact fun q => by cases q)
    | succ n ih =>
      intro kf y160_4 y160_5 h kk H locs ls hH hl
      rw [fX11_copyRow_L160] at h
      refine lv_iload hx hb dX11_copyRow_160 (lv_at hl 3 rfl) ?_
      refine lv_aload_n hx hb dX11_copyRow_162 rfl (lv_at hl 0 rfl) ?_
      refine gk_get (ci := 10) (C := RX11) (T := TX11) (N := 26) hx hb hts u_ws_X11 hown hK hH 0 rfl rfl 23 (by decide) u_fl_X11_42 rfl dX11_copyRow_163 ?_
      refine lv_iload_n hx hb dX11_copyRow_166 rfl (lv_at hl 1 rfl) ?_
      obtain ⟨g27, h⟩ := dc_need h
      refine gk_iald hx hb hK hH 2 rfl (dk_in g27) dX11_copyRow_167 ?_
      refine lv_icmp_ge (tgt := 218) hx hb dX11_copyRow_168 (by decide) (fun c28 => ?_) (fun c28 => ?_)
      · replace h := dc_pos c28 h
        exact kk y160_4 H locs ls h hH (lv_sub hl [0, 2] rfl)
      · replace h := dc_neg c28 h
        refine lv_iload hx hb dX11_copyRow_171 (lv_at hl 2 rfl) ?_
        refine lv_aload_n hx hb dX11_copyRow_173 rfl (lv_at hl 0 rfl) ?_
        refine gk_get (ci := 10) (C := RX11) (T := TX11) (N := 26) hx hb hts u_ws_X11 hown hK hH 0 rfl rfl 22 (by decide) u_fl_X11_39 rfl dX11_copyRow_174 ?_
        refine lv_iload_n hx hb dX11_copyRow_177 rfl (lv_at hl 1 rfl) ?_
        obtain ⟨g29, h⟩ := dc_need h
        refine gk_iald hx hb hK hH 1 rfl (dk_in g29) dX11_copyRow_178 ?_
        refine lv_iconst (v := 1) hx hb dX11_copyRow_179 (by decide) ?_
        refine lv_icmp_ne (tgt := 197) hx hb dX11_copyRow_180 (by decide) (fun c30 => ?_) (fun c30 => ?_)
        · replace h := dc_neg c30 h
          refine lv_aload_n hx hb dX11_copyRow_197 rfl (lv_at hl 0 rfl) ?_
          refine gk_get (ci := 10) (C := RX11) (T := TX11) (N := 26) hx hb hts u_ws_X11 hown hK hH 0 rfl rfl 25 (by decide) u_fl_X11_48 rfl dX11_copyRow_198 ?_
          refine lv_iconst (v := 4) hx hb dX11_copyRow_201 (by decide) ?_
          refine lv_iload_n hx hb dX11_copyRow_202 rfl (lv_at hl 1 rfl) ?_
          refine lv_imul hx hb dX11_copyRow_203 ?_
          refine lv_iload hx hb dX11_copyRow_204 (lv_at hl 3 rfl) ?_
          refine lv_iadd hx hb dX11_copyRow_206 ?_
          obtain ⟨g33, h⟩ := dc_need h
          refine gk_fald hx hb hK hH 4 rfl (dk_in g33) dX11_copyRow_207 ?_
          refine lv_f2i hx hb dX11_copyRow_208 ?_
          refine lv_iadd hx hb dX11_copyRow_209 ?_
          refine lv_topi (fun n34 en34 => ?_)
          replace h := dc_at en34 h
          refine lv_istore (lv' := [(4, .int n34), (0, .ref a_t), (2, .int x2), (5, .int y160_5)]) hx hb dX11_copyRow_210 hl (by decide) rfl (fun ls hl => ?_)
          refine lv_iinc (v := (y160_5 + (1 : Int32))) (lv' := [(5, .int (y160_5 + (1 : Int32))), (4, .int n34), (0, .ref a_t), (2, .int x2)]) hx hb dX11_copyRow_212 hl (k := 3) rfl rfl (by decide) rfl (fun ls hl => ?_)
          refine lv_goto (tgt := 160) hx hb dX11_copyRow_215 (by decide) ?_
          exact ih kf n34 (y160_5 + (1 : Int32)) h kk H locs ls hH (lv_sub hl [2, 3, 1, 0] rfl)
        · replace h := dc_pos c30 h
          refine lv_aload_n hx hb dX11_copyRow_183 rfl (lv_at hl 0 rfl) ?_
          refine gk_get (ci := 10) (C := RX11) (T := TX11) (N := 26) hx hb hts u_ws_X11 hown hK hH 0 rfl rfl 24 (by decide) u_fl_X11_45 rfl dX11_copyRow_184 ?_
          refine lv_iconst (v := 4) hx hb dX11_copyRow_187 (by decide) ?_
          refine lv_iload_n hx hb dX11_copyRow_188 rfl (lv_at hl 1 rfl) ?_
          refine lv_imul hx hb dX11_copyRow_189 ?_
          refine lv_iload hx hb dX11_copyRow_190 (lv_at hl 3 rfl) ?_
          refine lv_iadd hx hb dX11_copyRow_192 ?_
          obtain ⟨g31, h⟩ := dc_need h
          refine gk_iald hx hb hK hH 3 rfl (dk_in g31) dX11_copyRow_193 ?_
          refine lv_goto (tgt := 209) hx hb dX11_copyRow_194 (by decide) ?_
          refine lv_iadd hx hb dX11_copyRow_209 ?_
          refine lv_topi (fun n32 en32 => ?_)
          replace h := dc_at en32 h
          refine lv_istore (lv' := [(4, .int n32), (0, .ref a_t), (2, .int x2), (5, .int y160_5)]) hx hb dX11_copyRow_210 hl (by decide) rfl (fun ls hl => ?_)
          refine lv_iinc (v := (y160_5 + (1 : Int32))) (lv' := [(5, .int (y160_5 + (1 : Int32))), (4, .int n32), (0, .ref a_t), (2, .int x2)]) hx hb dX11_copyRow_212 hl (k := 3) rfl rfl (by decide) rfl (fun ls hl => ?_)
          refine lv_goto (tgt := 160) hx hb dX11_copyRow_215 (by decide) ?_
          exact ih kf n32 (y160_5 + (1 : Int32)) h kk H locs ls hH (lv_sub hl [2, 3, 1, 0] rfl)
  have L98 : ∀ (n : Nat), ∀ (kf : (Nat → UInt32) → (Nat → Int32) → Option (Int32 × (Nat → UInt32) × Int32 × (Nat → Int32))) (y98_4 : Int32) (y98_t_parts : Nat → UInt32) (y98_t_whole : Nat → Int32), fX11_copyRow_L98 x1 x2 x3 n kf y98_4 y98_t_parts y98_t_whole = some r → (∀ (z98_t_parts : Nat → UInt32) (z98_t_whole : Nat → Int32) (H : Heap) (locs : List Loc) (ls : Array Slot), kf z98_t_parts z98_t_whole = some r → HOK D A s.heap [(a_t, .inr (10, [v_t_thrown, .ref a_t_g, .ref a_t_ahead, .ref a_t_history, v_t_historyMany, .ref a_t_saved, v_t_hasSaved, .ref a_t_tape, v_t_taped, v_t_at, v_t_impossibleAt, v_t_letter, .ref a_t_numbers, .ref a_t_plan, v_t_detail, v_t_keptReason, v_t_keptDetail, v_t_above, v_t_below, v_t_bestAbove, v_t_bestBelow, .ref a_t_bestPlan, .ref a_t_sort, .ref a_t_size, .ref a_t_whole, .ref a_t_parts])), (a_t_sort, .inl (k 0, 3, .inl t_sort)), (a_t_size, .inl (k 0, 3, .inl t_size)), (a_t_whole, .inl (k 0, 12, .inl z98_t_whole)), (a_t_parts, .inl (k 3, 12, .inr (.inr (.inl z98_t_parts))))] H locs → lv_has ls 6 [(0, .ref a_t), (2, .int x2)] → W p l e ({ frames := 2, cells := 0, slots := 0, locals := 42 } : Room) s m (List.toArray [.ref a_t, .int x1, .int x2, .int x3]) below meth c H locs 0 0 Q (F0 m 154 ls [])) → ∀ (H : Heap) (locs : List Loc) (ls : Array Slot), HOK D A s.heap [(a_t, .inr (10, [v_t_thrown, .ref a_t_g, .ref a_t_ahead, .ref a_t_history, v_t_historyMany, .ref a_t_saved, v_t_hasSaved, .ref a_t_tape, v_t_taped, v_t_at, v_t_impossibleAt, v_t_letter, .ref a_t_numbers, .ref a_t_plan, v_t_detail, v_t_keptReason, v_t_keptDetail, v_t_above, v_t_below, v_t_bestAbove, v_t_bestBelow, .ref a_t_bestPlan, .ref a_t_sort, .ref a_t_size, .ref a_t_whole, .ref a_t_parts])), (a_t_sort, .inl (k 0, 3, .inl t_sort)), (a_t_size, .inl (k 0, 3, .inl t_size)), (a_t_whole, .inl (k 0, 12, .inl y98_t_whole)), (a_t_parts, .inl (k 3, 12, .inr (.inr (.inl y98_t_parts))))] H locs → lv_has ls 6 [(0, .ref a_t), (1, .int x1), (2, .int x2), (3, .int x3), (4, .int y98_4)] → W p l e ({ frames := 2, cells := 0, slots := 0, locals := 42 } : Room) s m (List.toArray [.ref a_t, .int x1, .int x2, .int x3]) below meth c H locs 0 0 Q (F0 m 98 ls []) := by
    intro n
    induction n with
    | zero =>
      intro kf y98_4 y98_t_parts y98_t_whole h
      exact absurd h (by rw [fX11_copyRow_L98]; exact fun q => by cases q)
    | succ n ih =>
      intro kf y98_4 y98_t_parts y98_t_whole h kk H locs ls hH hl
      rw [fX11_copyRow_L98] at h
      refine lv_iload hx hb dX11_copyRow_98 (lv_at hl 4 rfl) ?_
      refine lv_iload_n hx hb dX11_copyRow_100 rfl (lv_at hl 3 rfl) ?_
      refine lv_icmp_ge (tgt := 154) hx hb dX11_copyRow_101 (by decide) (fun c22 => ?_) (fun c22 => ?_)
      · replace h := dc_pos c22 h
        exact kk y98_t_parts y98_t_whole H locs ls h hH (lv_sub hl [0, 2] rfl)
      · replace h := dc_neg c22 h
        refine lv_aload_n hx hb dX11_copyRow_104 rfl (lv_at hl 0 rfl) ?_
        refine gk_get (ci := 10) (C := RX11) (T := TX11) (N := 26) hx hb hts u_ws_X11 hown hK hH 0 rfl rfl 24 (by decide) u_fl_X11_45 rfl dX11_copyRow_105 ?_
        refine lv_iconst (v := 4) hx hb dX11_copyRow_108 (by decide) ?_
        refine lv_iload_n hx hb dX11_copyRow_109 rfl (lv_at hl 2 rfl) ?_
        refine lv_imul hx hb dX11_copyRow_110 ?_
        refine lv_iload hx hb dX11_copyRow_111 (lv_at hl 4 rfl) ?_
        refine lv_iadd hx hb dX11_copyRow_113 ?_
        refine lv_aload_n hx hb dX11_copyRow_114 rfl (lv_at hl 0 rfl) ?_
        refine gk_get (ci := 10) (C := RX11) (T := TX11) (N := 26) hx hb hts u_ws_X11 hown hK hH 0 rfl rfl 24 (by decide) u_fl_X11_45 rfl dX11_copyRow_115 ?_
        refine lv_iconst (v := 4) hx hb dX11_copyRow_118 (by decide) ?_
        refine lv_iload_n hx hb dX11_copyRow_119 rfl (lv_at hl 1 rfl) ?_
        refine lv_imul hx hb dX11_copyRow_120 ?_
        refine lv_iload hx hb dX11_copyRow_121 (lv_at hl 4 rfl) ?_
        refine lv_iadd hx hb dX11_copyRow_123 ?_
        obtain ⟨g23, h⟩ := dc_need h
        refine gk_iald hx hb hK hH 3 rfl (dk_in g23) dX11_copyRow_124 ?_
        obtain ⟨g24, h⟩ := dc_need h
        refine gk_iast hx hb hK hH 3 rfl (dk_in g24) dX11_copyRow_125 [(a_t, .inr (10, [v_t_thrown, .ref a_t_g, .ref a_t_ahead, .ref a_t_history, v_t_historyMany, .ref a_t_saved, v_t_hasSaved, .ref a_t_tape, v_t_taped, v_t_at, v_t_impossibleAt, v_t_letter, .ref a_t_numbers, .ref a_t_plan, v_t_detail, v_t_keptReason, v_t_keptDetail, v_t_above, v_t_below, v_t_bestAbove, v_t_bestBelow, .ref a_t_bestPlan, .ref a_t_sort, .ref a_t_size, .ref a_t_whole, .ref a_t_parts])), (a_t_sort, .inl (k 0, 3, .inl t_sort)), (a_t_size, .inl (k 0, 3, .inl t_size)), (a_t_whole, .inl (k 0, 12, .inl (upd y98_t_whole (((4 : Int32) * x2) + y98_4).toNatClampNeg (y98_t_whole (((4 : Int32) * x1) + y98_4).toNatClampNeg)))), (a_t_parts, .inl (k 3, 12, .inr (.inr (.inl y98_t_parts))))] rfl (fun H locs hH => ?_)
        refine lv_aload_n hx hb dX11_copyRow_126 rfl (lv_at hl 0 rfl) ?_
        refine gk_get (ci := 10) (C := RX11) (T := TX11) (N := 26) hx hb hts u_ws_X11 hown hK hH 0 rfl rfl 25 (by decide) u_fl_X11_48 rfl dX11_copyRow_127 ?_
        refine lv_iconst (v := 4) hx hb dX11_copyRow_130 (by decide) ?_
        refine lv_iload_n hx hb dX11_copyRow_131 rfl (lv_at hl 2 rfl) ?_
        refine lv_imul hx hb dX11_copyRow_132 ?_
        refine lv_iload hx hb dX11_copyRow_133 (lv_at hl 4 rfl) ?_
        refine lv_iadd hx hb dX11_copyRow_135 ?_
        refine lv_aload_n hx hb dX11_copyRow_136 rfl (lv_at hl 0 rfl) ?_
        refine gk_get (ci := 10) (C := RX11) (T := TX11) (N := 26) hx hb hts u_ws_X11 hown hK hH 0 rfl rfl 25 (by decide) u_fl_X11_48 rfl dX11_copyRow_137 ?_
        refine lv_iconst (v := 4) hx hb dX11_copyRow_140 (by decide) ?_
        refine lv_iload_n hx hb dX11_copyRow_141 rfl (lv_at hl 1 rfl) ?_
        refine lv_imul hx hb dX11_copyRow_142 ?_
        refine lv_iload hx hb dX11_copyRow_143 (lv_at hl 4 rfl) ?_
        refine lv_iadd hx hb dX11_copyRow_145 ?_
        obtain ⟨g25, h⟩ := dc_need h
        refine gk_fald hx hb hK hH 4 rfl (dk_in g25) dX11_copyRow_146 ?_
        obtain ⟨g26, h⟩ := dc_need h
        refine gk_fast hx hb hK hH 4 rfl (dk_in g26) dX11_copyRow_147 [(a_t, .inr (10, [v_t_thrown, .ref a_t_g, .ref a_t_ahead, .ref a_t_history, v_t_historyMany, .ref a_t_saved, v_t_hasSaved, .ref a_t_tape, v_t_taped, v_t_at, v_t_impossibleAt, v_t_letter, .ref a_t_numbers, .ref a_t_plan, v_t_detail, v_t_keptReason, v_t_keptDetail, v_t_above, v_t_below, v_t_bestAbove, v_t_bestBelow, .ref a_t_bestPlan, .ref a_t_sort, .ref a_t_size, .ref a_t_whole, .ref a_t_parts])), (a_t_sort, .inl (k 0, 3, .inl t_sort)), (a_t_size, .inl (k 0, 3, .inl t_size)), (a_t_whole, .inl (k 0, 12, .inl (upd y98_t_whole (((4 : Int32) * x2) + y98_4).toNatClampNeg (y98_t_whole (((4 : Int32) * x1) + y98_4).toNatClampNeg)))), (a_t_parts, .inl (k 3, 12, .inr (.inr (.inl (vf_upd y98_t_parts (((4 : Int32) * x2) + y98_4).toNatClampNeg (y98_t_parts (((4 : Int32) * x1) + y98_4).toNatClampNeg))))))] rfl (fun H locs hH => ?_)
        refine lv_iinc (v := (y98_4 + (1 : Int32))) (lv' := [(4, .int (y98_4 + (1 : Int32))), (0, .ref a_t), (1, .int x1), (2, .int x2), (3, .int x3)]) hx hb dX11_copyRow_148 hl (k := 4) rfl rfl (by decide) rfl (fun ls hl => ?_)
        refine lv_goto (tgt := 98) hx hb dX11_copyRow_151 (by decide) ?_
        exact ih kf (y98_4 + (1 : Int32)) (vf_upd y98_t_parts (((4 : Int32) * x2) + y98_4).toNatClampNeg (y98_t_parts (((4 : Int32) * x1) + y98_4).toNatClampNeg)) (upd y98_t_whole (((4 : Int32) * x2) + y98_4).toNatClampNeg (y98_t_whole (((4 : Int32) * x1) + y98_4).toNatClampNeg)) h kk H locs ls hH (lv_sub hl [1, 2, 3, 4, 0] rfl)
  rw [fX11_copyRow] at h
  refine lv_iload_n hx hb dX11_copyRow_0 rfl (lv_at hl 1 rfl) ?_
  obtain ⟨q1, hqq1, h⟩ := dc_bind h
  refine gc_Si (ws' := [(a_t, .inr (10, [v_t_thrown, .ref a_t_g, .ref a_t_ahead, .ref a_t_history, v_t_historyMany, .ref a_t_saved, v_t_hasSaved, .ref a_t_tape, v_t_taped, v_t_at, v_t_impossibleAt, v_t_letter, .ref a_t_numbers, .ref a_t_plan, v_t_detail, v_t_keptReason, v_t_keptDetail, v_t_above, v_t_below, v_t_bestAbove, v_t_bestBelow, .ref a_t_bestPlan, .ref a_t_sort, .ref a_t_size, .ref a_t_whole, .ref a_t_parts])), (a_t_sort, .inl (k 0, 3, .inl t_sort)), (a_t_size, .inl (k 0, 3, .inl t_size)), (a_t_whole, .inl (k 0, 12, .inl t_whole)), (a_t_parts, .inl (k 3, 12, .inr (.inr (.inl t_parts))))]) (As := [.int x1]) (rest := []) (n := 1) hTs ⟨hx, hb, hml, hown, hts⟩ (mX11_isRow l Ts hTs D k H.size x1 q1 hqq1) u_ml_X11_241 u_st_X11_isRow u_in_X11 u_co_X11_isRow hd_X11_isRow ⟨Nat.le_of_ble_eq_true rfl, Nat.le_of_ble_eq_true rfl⟩ ⟨rfl, rfl⟩ hK hH hA (cut0 (isC := []) rfl rfl rfl) rfl rfl hl.1 (Nat.le_of_ble_eq_true rfl) dX11_copyRow_1 ⟨Nat.le_of_ble_eq_true rfl, Nat.le_of_ble_eq_true rfl⟩ (fun H locs hH => ?_)
  refine lv_if_eq (tgt := 14) hx hb dX11_copyRow_4 (by decide) (fun c2 => ?_) (fun c2 => ?_)
  · replace h := dc_pos c2 h
    refine lv_aload_n hx hb dX11_copyRow_14 rfl (lv_at hl 0 rfl) ?_
    refine lv_iconst (v := 1) hx hb dX11_copyRow_15 (by decide) ?_
    obtain ⟨q3, hqq3, h⟩ := dc_bind h
    refine gc_Vi (ws' := [(a_t, .inr (10, [.int q3.2, .ref a_t_g, .ref a_t_ahead, .ref a_t_history, v_t_historyMany, .ref a_t_saved, v_t_hasSaved, .ref a_t_tape, v_t_taped, v_t_at, v_t_impossibleAt, v_t_letter, .ref a_t_numbers, .ref a_t_plan, v_t_detail, v_t_keptReason, v_t_keptDetail, v_t_above, v_t_below, v_t_bestAbove, v_t_bestBelow, .ref a_t_bestPlan, .ref a_t_sort, .ref a_t_size, .ref a_t_whole, .ref a_t_parts])), (a_t_sort, .inl (k 0, 3, .inl t_sort)), (a_t_size, .inl (k 0, 3, .inl t_size)), (a_t_whole, .inl (k 0, 12, .inl t_whole)), (a_t_parts, .inl (k 3, 12, .inr (.inr (.inl t_parts))))]) (As := [.int (1 : Int32)]) (rest := []) (n := 1) (ci := 10) (cq := (RX11, TX11, 26)) hTs ⟨hx, hb, hml, hown, hts⟩ (mX11_fails l Ts hTs D k H.size a_t a_t_g a_t_ahead a_t_history a_t_saved a_t_tape a_t_numbers a_t_plan a_t_bestPlan a_t_sort a_t_size a_t_whole a_t_parts v_t_above v_t_at v_t_below v_t_bestAbove v_t_bestBelow v_t_detail v_t_hasSaved v_t_historyMany v_t_impossibleAt v_t_keptDetail v_t_keptReason v_t_letter v_t_taped v_t_thrown (1 : Int32) q3 hqq3) u_ml_X11_65 u_im_X11_fails u_se_X11_fails u_in_X11 u_co_X11_fails hd_X11_fails ⟨Nat.le_of_ble_eq_true rfl, Nat.le_of_ble_eq_true rfl⟩ ⟨rfl, rfl⟩ hK hH hA (cutM (isC := [0]) [some 0, none, none, none, none] 5 rfl rfl rfl rfl rfl rfl rfl) rfl rfl rfl rfl hl.1 (Nat.le_of_ble_eq_true rfl) dX11_copyRow_16 ⟨Nat.le_of_ble_eq_true rfl, Nat.le_of_ble_eq_true rfl⟩ (fun H locs hH => ?_)
    have h := Option.some.inj h
    subst h
    exact ge_i hx hb hr hlocks hQ hK hH hAe rfl dX11_copyRow_19
  · replace h := dc_neg c2 h
    refine lv_iload_n hx hb dX11_copyRow_7 rfl (lv_at hl 2 rfl) ?_
    obtain ⟨q4, hqq4, h⟩ := dc_bind h
    refine gc_Si (ws' := [(a_t, .inr (10, [v_t_thrown, .ref a_t_g, .ref a_t_ahead, .ref a_t_history, v_t_historyMany, .ref a_t_saved, v_t_hasSaved, .ref a_t_tape, v_t_taped, v_t_at, v_t_impossibleAt, v_t_letter, .ref a_t_numbers, .ref a_t_plan, v_t_detail, v_t_keptReason, v_t_keptDetail, v_t_above, v_t_below, v_t_bestAbove, v_t_bestBelow, .ref a_t_bestPlan, .ref a_t_sort, .ref a_t_size, .ref a_t_whole, .ref a_t_parts])), (a_t_sort, .inl (k 0, 3, .inl t_sort)), (a_t_size, .inl (k 0, 3, .inl t_size)), (a_t_whole, .inl (k 0, 12, .inl t_whole)), (a_t_parts, .inl (k 3, 12, .inr (.inr (.inl t_parts))))]) (As := [.int x2]) (rest := []) (n := 1) hTs ⟨hx, hb, hml, hown, hts⟩ (mX11_isRow l Ts hTs D k H.size x2 q4 hqq4) u_ml_X11_241 u_st_X11_isRow u_in_X11 u_co_X11_isRow hd_X11_isRow ⟨Nat.le_of_ble_eq_true rfl, Nat.le_of_ble_eq_true rfl⟩ ⟨rfl, rfl⟩ hK hH hA (cut0 (isC := []) rfl rfl rfl) rfl rfl hl.1 (Nat.le_of_ble_eq_true rfl) dX11_copyRow_8 ⟨Nat.le_of_ble_eq_true rfl, Nat.le_of_ble_eq_true rfl⟩ (fun H locs hH => ?_)
    refine lv_if_ne (tgt := 20) hx hb dX11_copyRow_11 (by decide) (fun c5 => ?_) (fun c5 => ?_)
    · replace h := dc_neg c5 h
      refine lv_aload_n hx hb dX11_copyRow_20 rfl (lv_at hl 0 rfl) ?_
      refine gk_get (ci := 10) (C := RX11) (T := TX11) (N := 26) hx hb hts u_ws_X11 hown hK hH 0 rfl rfl 22 (by decide) u_fl_X11_39 rfl dX11_copyRow_21 ?_
      refine lv_iload_n hx hb dX11_copyRow_24 rfl (lv_at hl 1 rfl) ?_
      obtain ⟨g7, h⟩ := dc_need h
      refine gk_iald hx hb hK hH 1 rfl (dk_in g7) dX11_copyRow_25 ?_
      refine lv_if_eq (tgt := 38) hx hb dX11_copyRow_26 (by decide) (fun c8 => ?_) (fun c8 => ?_)
      · replace h := dc_pos c8 h
        refine lv_aload_n hx hb dX11_copyRow_38 rfl (lv_at hl 0 rfl) ?_
        refine lv_iconst (v := 2) hx hb dX11_copyRow_39 (by decide) ?_
        obtain ⟨q9, hqq9, h⟩ := dc_bind h
        refine gc_Vi (ws' := [(a_t, .inr (10, [.int q9.2, .ref a_t_g, .ref a_t_ahead, .ref a_t_history, v_t_historyMany, .ref a_t_saved, v_t_hasSaved, .ref a_t_tape, v_t_taped, v_t_at, v_t_impossibleAt, v_t_letter, .ref a_t_numbers, .ref a_t_plan, v_t_detail, v_t_keptReason, v_t_keptDetail, v_t_above, v_t_below, v_t_bestAbove, v_t_bestBelow, .ref a_t_bestPlan, .ref a_t_sort, .ref a_t_size, .ref a_t_whole, .ref a_t_parts])), (a_t_sort, .inl (k 0, 3, .inl t_sort)), (a_t_size, .inl (k 0, 3, .inl t_size)), (a_t_whole, .inl (k 0, 12, .inl t_whole)), (a_t_parts, .inl (k 3, 12, .inr (.inr (.inl t_parts))))]) (As := [.int (2 : Int32)]) (rest := []) (n := 1) (ci := 10) (cq := (RX11, TX11, 26)) hTs ⟨hx, hb, hml, hown, hts⟩ (mX11_fails l Ts hTs D k H.size a_t a_t_g a_t_ahead a_t_history a_t_saved a_t_tape a_t_numbers a_t_plan a_t_bestPlan a_t_sort a_t_size a_t_whole a_t_parts v_t_above v_t_at v_t_below v_t_bestAbove v_t_bestBelow v_t_detail v_t_hasSaved v_t_historyMany v_t_impossibleAt v_t_keptDetail v_t_keptReason v_t_letter v_t_taped v_t_thrown (2 : Int32) q9 hqq9) u_ml_X11_65 u_im_X11_fails u_se_X11_fails u_in_X11 u_co_X11_fails hd_X11_fails ⟨Nat.le_of_ble_eq_true rfl, Nat.le_of_ble_eq_true rfl⟩ ⟨rfl, rfl⟩ hK hH hA (cutM (isC := [0]) [some 0, none, none, none, none] 5 rfl rfl rfl rfl rfl rfl rfl) rfl rfl rfl rfl hl.1 (Nat.le_of_ble_eq_true rfl) dX11_copyRow_40 ⟨Nat.le_of_ble_eq_true rfl, Nat.le_of_ble_eq_true rfl⟩ (fun H locs hH => ?_)
        have h := Option.some.inj h
        subst h
        exact ge_i hx hb hr hlocks hQ hK hH hAe rfl dX11_copyRow_43
      · replace h := dc_neg c8 h
        refine lv_aload_n hx hb dX11_copyRow_29 rfl (lv_at hl 0 rfl) ?_
        refine gk_get (ci := 10) (C := RX11) (T := TX11) (N := 26) hx hb hts u_ws_X11 hown hK hH 0 rfl rfl 22 (by decide) u_fl_X11_39 rfl dX11_copyRow_30 ?_
        refine lv_iload_n hx hb dX11_copyRow_33 rfl (lv_at hl 2 rfl) ?_
        obtain ⟨g10, h⟩ := dc_need h
        refine gk_iald hx hb hK hH 1 rfl (dk_in g10) dX11_copyRow_34 ?_
        refine lv_if_ne (tgt := 44) hx hb dX11_copyRow_35 (by decide) (fun c11 => ?_) (fun c11 => ?_)
        · replace h := dc_neg c11 h
          refine lv_aload_n hx hb dX11_copyRow_44 rfl (lv_at hl 0 rfl) ?_
          refine gk_get (ci := 10) (C := RX11) (T := TX11) (N := 26) hx hb hts u_ws_X11 hown hK hH 0 rfl rfl 22 (by decide) u_fl_X11_39 rfl dX11_copyRow_45 ?_
          refine lv_iload_n hx hb dX11_copyRow_48 rfl (lv_at hl 1 rfl) ?_
          obtain ⟨g13, h⟩ := dc_need h
          refine gk_iald hx hb hK hH 1 rfl (dk_in g13) dX11_copyRow_49 ?_
          refine lv_aload_n hx hb dX11_copyRow_50 rfl (lv_at hl 0 rfl) ?_
          refine gk_get (ci := 10) (C := RX11) (T := TX11) (N := 26) hx hb hts u_ws_X11 hown hK hH 0 rfl rfl 22 (by decide) u_fl_X11_39 rfl dX11_copyRow_51 ?_
          refine lv_iload_n hx hb dX11_copyRow_54 rfl (lv_at hl 2 rfl) ?_
          obtain ⟨g14, h⟩ := dc_need h
          refine gk_iald hx hb hK hH 1 rfl (dk_in g14) dX11_copyRow_55 ?_
          refine lv_icmp_eq (tgt := 65) hx hb dX11_copyRow_56 (by decide) (fun c15 => ?_) (fun c15 => ?_)
          · replace h := dc_pos c15 h
            refine lv_iload_n hx hb dX11_copyRow_65 rfl (lv_at hl 3 rfl) ?_
            refine lv_iconst (v := 0) hx hb dX11_copyRow_66 (by decide) ?_
            refine lv_aload_n hx hb dX11_copyRow_67 rfl (lv_at hl 0 rfl) ?_
            refine gk_get (ci := 10) (C := RX11) (T := TX11) (N := 26) hx hb hts u_ws_X11 hown hK hH 0 rfl rfl 23 (by decide) u_fl_X11_42 rfl dX11_copyRow_68 ?_
            refine lv_iload_n hx hb dX11_copyRow_71 rfl (lv_at hl 1 rfl) ?_
            obtain ⟨g16, h⟩ := dc_need h
            refine gk_iald hx hb hK hH 2 rfl (dk_in g16) dX11_copyRow_72 ?_
            obtain ⟨q17, hqq17, h⟩ := dc_bind h
            refine gc_Si (ws' := [(a_t, .inr (10, [v_t_thrown, .ref a_t_g, .ref a_t_ahead, .ref a_t_history, v_t_historyMany, .ref a_t_saved, v_t_hasSaved, .ref a_t_tape, v_t_taped, v_t_at, v_t_impossibleAt, v_t_letter, .ref a_t_numbers, .ref a_t_plan, v_t_detail, v_t_keptReason, v_t_keptDetail, v_t_above, v_t_below, v_t_bestAbove, v_t_bestBelow, .ref a_t_bestPlan, .ref a_t_sort, .ref a_t_size, .ref a_t_whole, .ref a_t_parts])), (a_t_sort, .inl (k 0, 3, .inl t_sort)), (a_t_size, .inl (k 0, 3, .inl t_size)), (a_t_whole, .inl (k 0, 12, .inl t_whole)), (a_t_parts, .inl (k 3, 12, .inr (.inr (.inl t_parts))))]) (As := [.int x3, .int (0 : Int32), .int (t_size x1.toNatClampNeg)]) (rest := []) (n := 3) hTs ⟨hx, hb, hml, hown, hts⟩ (mX11_in l Ts hTs D k H.size x3 (0 : Int32) (t_size x1.toNatClampNeg) q17 hqq17) u_ml_X11_55 u_st_X11_in u_in_X11 u_co_X11_in hd_X11_in ⟨Nat.le_of_ble_eq_true rfl, Nat.le_of_ble_eq_true rfl⟩ ⟨rfl, rfl⟩ hK hH hA (cut0 (isC := []) rfl rfl rfl) rfl rfl hl.1 (Nat.le_of_ble_eq_true rfl) dX11_copyRow_73 ⟨Nat.le_of_ble_eq_true rfl, Nat.le_of_ble_eq_true rfl⟩ (fun H locs hH => ?_)
            refine lv_if_eq (tgt := 89) hx hb dX11_copyRow_76 (by decide) (fun c18 => ?_) (fun c18 => ?_)
            · replace h := dc_pos c18 h
              refine lv_aload_n hx hb dX11_copyRow_89 rfl (lv_at hl 0 rfl) ?_
              refine lv_iconst (v := 4) hx hb dX11_copyRow_90 (by decide) ?_
              obtain ⟨q19, hqq19, h⟩ := dc_bind h
              refine gc_Vi (ws' := [(a_t, .inr (10, [.int q19.2, .ref a_t_g, .ref a_t_ahead, .ref a_t_history, v_t_historyMany, .ref a_t_saved, v_t_hasSaved, .ref a_t_tape, v_t_taped, v_t_at, v_t_impossibleAt, v_t_letter, .ref a_t_numbers, .ref a_t_plan, v_t_detail, v_t_keptReason, v_t_keptDetail, v_t_above, v_t_below, v_t_bestAbove, v_t_bestBelow, .ref a_t_bestPlan, .ref a_t_sort, .ref a_t_size, .ref a_t_whole, .ref a_t_parts])), (a_t_sort, .inl (k 0, 3, .inl t_sort)), (a_t_size, .inl (k 0, 3, .inl t_size)), (a_t_whole, .inl (k 0, 12, .inl t_whole)), (a_t_parts, .inl (k 3, 12, .inr (.inr (.inl t_parts))))]) (As := [.int (4 : Int32)]) (rest := []) (n := 1) (ci := 10) (cq := (RX11, TX11, 26)) hTs ⟨hx, hb, hml, hown, hts⟩ (mX11_fails l Ts hTs D k H.size a_t a_t_g a_t_ahead a_t_history a_t_saved a_t_tape a_t_numbers a_t_plan a_t_bestPlan a_t_sort a_t_size a_t_whole a_t_parts v_t_above v_t_at v_t_below v_t_bestAbove v_t_bestBelow v_t_detail v_t_hasSaved v_t_historyMany v_t_impossibleAt v_t_keptDetail v_t_keptReason v_t_letter v_t_taped v_t_thrown (4 : Int32) q19 hqq19) u_ml_X11_65 u_im_X11_fails u_se_X11_fails u_in_X11 u_co_X11_fails hd_X11_fails ⟨Nat.le_of_ble_eq_true rfl, Nat.le_of_ble_eq_true rfl⟩ ⟨rfl, rfl⟩ hK hH hA (cutM (isC := [0]) [some 0, none, none, none, none] 5 rfl rfl rfl rfl rfl rfl rfl) rfl rfl rfl rfl hl.1 (Nat.le_of_ble_eq_true rfl) dX11_copyRow_91 ⟨Nat.le_of_ble_eq_true rfl, Nat.le_of_ble_eq_true rfl⟩ (fun H locs hH => ?_)
              have h := Option.some.inj h
              subst h
              exact ge_i hx hb hr hlocks hQ hK hH hAe rfl dX11_copyRow_94
            · replace h := dc_neg c18 h
              refine lv_iload_n hx hb dX11_copyRow_79 rfl (lv_at hl 3 rfl) ?_
              refine lv_aload_n hx hb dX11_copyRow_80 rfl (lv_at hl 0 rfl) ?_
              refine gk_get (ci := 10) (C := RX11) (T := TX11) (N := 26) hx hb hts u_ws_X11 hown hK hH 0 rfl rfl 23 (by decide) u_fl_X11_42 rfl dX11_copyRow_81 ?_
              refine lv_iload_n hx hb dX11_copyRow_84 rfl (lv_at hl 2 rfl) ?_
              obtain ⟨g20, h⟩ := dc_need h
              refine gk_iald hx hb hK hH 2 rfl (dk_in g20) dX11_copyRow_85 ?_
              refine lv_icmp_le (tgt := 95) hx hb dX11_copyRow_86 (by decide) (fun c21 => ?_) (fun c21 => ?_)
              · replace h := dc_pos c21 h
                refine lv_iconst (v := 0) hx hb dX11_copyRow_95 (by decide) ?_
                refine lv_istore (lv' := [(4, .int (0 : Int32)), (0, .ref a_t), (1, .int x1), (2, .int x2), (3, .int x3)]) hx hb dX11_copyRow_96 hl (by decide) rfl (fun ls hl => ?_)
                refine L98 _ _ (0 : Int32) t_parts t_whole h (fun z98_t_parts z98_t_whole H locs ls h hH hl => ?_) H locs ls hH (lv_sub hl [1, 2, 3, 4, 0] rfl)
                refine lv_iconst (v := 0) hx hb dX11_copyRow_154 (by decide) ?_
                refine lv_istore (lv' := [(4, .int (0 : Int32)), (0, .ref a_t), (2, .int x2)]) hx hb dX11_copyRow_155 hl (by decide) rfl (fun ls hl => ?_)
                refine lv_iconst (v := 0) hx hb dX11_copyRow_157 (by decide) ?_
                refine lv_istore (lv' := [(5, .int (0 : Int32)), (4, .int (0 : Int32)), (0, .ref a_t), (2, .int x2)]) hx hb dX11_copyRow_158 hl (by decide) rfl (fun ls hl => ?_)
                refine L160 z98_t_parts z98_t_whole _ _ (0 : Int32) (0 : Int32) h (fun z160_4 H locs ls h hH hl => ?_) H locs ls hH (lv_sub hl [2, 3, 1, 0] rfl)
                refine lv_aload_n hx hb dX11_copyRow_218 rfl (lv_at hl 0 rfl) ?_
                refine lv_iload hx hb dX11_copyRow_219 (lv_at hl 1 rfl) ?_
                obtain ⟨q35, hqq35, h⟩ := dc_bind h
                refine gc_Vi (ws' := [(a_t, .inr (10, [.int q35.2, .ref a_t_g, .ref a_t_ahead, .ref a_t_history, v_t_historyMany, .ref a_t_saved, v_t_hasSaved, .ref a_t_tape, v_t_taped, v_t_at, v_t_impossibleAt, v_t_letter, .ref a_t_numbers, .ref a_t_plan, v_t_detail, v_t_keptReason, v_t_keptDetail, v_t_above, v_t_below, v_t_bestAbove, v_t_bestBelow, .ref a_t_bestPlan, .ref a_t_sort, .ref a_t_size, .ref a_t_whole, .ref a_t_parts])), (a_t_sort, .inl (k 0, 3, .inl t_sort)), (a_t_size, .inl (k 0, 3, .inl t_size)), (a_t_whole, .inl (k 0, 12, .inl z98_t_whole)), (a_t_parts, .inl (k 3, 12, .inr (.inr (.inl z98_t_parts))))]) (As := [.int z160_4]) (rest := []) (n := 1) (ci := 10) (cq := (RX11, TX11, 26)) hTs ⟨hx, hb, hml, hown, hts⟩ (mX11_done l Ts hTs D k H.size a_t a_t_g a_t_ahead a_t_history a_t_saved a_t_tape a_t_numbers a_t_plan a_t_bestPlan a_t_sort a_t_size a_t_whole a_t_parts v_t_above v_t_at v_t_below v_t_bestAbove v_t_bestBelow v_t_detail v_t_hasSaved v_t_historyMany v_t_impossibleAt v_t_keptDetail v_t_keptReason v_t_letter v_t_taped v_t_thrown z160_4 q35 hqq35) u_ml_X11_69 u_im_X11_done u_se_X11_done u_in_X11 u_co_X11_done hd_X11_done ⟨Nat.le_of_ble_eq_true rfl, Nat.le_of_ble_eq_true rfl⟩ ⟨rfl, rfl⟩ hK hH hA (cutM (isC := [0]) [some 0, none, none, none, none] 5 rfl rfl rfl rfl rfl rfl rfl) rfl rfl rfl rfl hl.1 (Nat.le_of_ble_eq_true rfl) dX11_copyRow_221 ⟨Nat.le_of_ble_eq_true rfl, Nat.le_of_ble_eq_true rfl⟩ (fun H locs hH => ?_)
                have h := Option.some.inj h
                subst h
                exact ge_i hx hb hr hlocks hQ hK hH hAe rfl dX11_copyRow_224
              · replace h := dc_neg c21 h
                refine lv_aload_n hx hb dX11_copyRow_89 rfl (lv_at hl 0 rfl) ?_
                refine lv_iconst (v := 4) hx hb dX11_copyRow_90 (by decide) ?_
                obtain ⟨q36, hqq36, h⟩ := dc_bind h
                refine gc_Vi (ws' := [(a_t, .inr (10, [.int q36.2, .ref a_t_g, .ref a_t_ahead, .ref a_t_history, v_t_historyMany, .ref a_t_saved, v_t_hasSaved, .ref a_t_tape, v_t_taped, v_t_at, v_t_impossibleAt, v_t_letter, .ref a_t_numbers, .ref a_t_plan, v_t_detail, v_t_keptReason, v_t_keptDetail, v_t_above, v_t_below, v_t_bestAbove, v_t_bestBelow, .ref a_t_bestPlan, .ref a_t_sort, .ref a_t_size, .ref a_t_whole, .ref a_t_parts])), (a_t_sort, .inl (k 0, 3, .inl t_sort)), (a_t_size, .inl (k 0, 3, .inl t_size)), (a_t_whole, .inl (k 0, 12, .inl t_whole)), (a_t_parts, .inl (k 3, 12, .inr (.inr (.inl t_parts))))]) (As := [.int (4 : Int32)]) (rest := []) (n := 1) (ci := 10) (cq := (RX11, TX11, 26)) hTs ⟨hx, hb, hml, hown, hts⟩ (mX11_fails l Ts hTs D k H.size a_t a_t_g a_t_ahead a_t_history a_t_saved a_t_tape a_t_numbers a_t_plan a_t_bestPlan a_t_sort a_t_size a_t_whole a_t_parts v_t_above v_t_at v_t_below v_t_bestAbove v_t_bestBelow v_t_detail v_t_hasSaved v_t_historyMany v_t_impossibleAt v_t_keptDetail v_t_keptReason v_t_letter v_t_taped v_t_thrown (4 : Int32) q36 hqq36) u_ml_X11_65 u_im_X11_fails u_se_X11_fails u_in_X11 u_co_X11_fails hd_X11_fails ⟨Nat.le_of_ble_eq_true rfl, Nat.le_of_ble_eq_true rfl⟩ ⟨rfl, rfl⟩ hK hH hA (cutM (isC := [0]) [some 0, none, none, none, none] 5 rfl rfl rfl rfl rfl rfl rfl) rfl rfl rfl rfl hl.1 (Nat.le_of_ble_eq_true rfl) dX11_copyRow_91 ⟨Nat.le_of_ble_eq_true rfl, Nat.le_of_ble_eq_true rfl⟩ (fun H locs hH => ?_)
                have h := Option.some.inj h
                subst h
                exact ge_i hx hb hr hlocks hQ hK hH hAe rfl dX11_copyRow_94
          · replace h := dc_neg c15 h
            refine lv_aload_n hx hb dX11_copyRow_59 rfl (lv_at hl 0 rfl) ?_
            refine lv_iconst (v := 3) hx hb dX11_copyRow_60 (by decide) ?_
            obtain ⟨q37, hqq37, h⟩ := dc_bind h
            refine gc_Vi (ws' := [(a_t, .inr (10, [.int q37.2, .ref a_t_g, .ref a_t_ahead, .ref a_t_history, v_t_historyMany, .ref a_t_saved, v_t_hasSaved, .ref a_t_tape, v_t_taped, v_t_at, v_t_impossibleAt, v_t_letter, .ref a_t_numbers, .ref a_t_plan, v_t_detail, v_t_keptReason, v_t_keptDetail, v_t_above, v_t_below, v_t_bestAbove, v_t_bestBelow, .ref a_t_bestPlan, .ref a_t_sort, .ref a_t_size, .ref a_t_whole, .ref a_t_parts])), (a_t_sort, .inl (k 0, 3, .inl t_sort)), (a_t_size, .inl (k 0, 3, .inl t_size)), (a_t_whole, .inl (k 0, 12, .inl t_whole)), (a_t_parts, .inl (k 3, 12, .inr (.inr (.inl t_parts))))]) (As := [.int (3 : Int32)]) (rest := []) (n := 1) (ci := 10) (cq := (RX11, TX11, 26)) hTs ⟨hx, hb, hml, hown, hts⟩ (mX11_fails l Ts hTs D k H.size a_t a_t_g a_t_ahead a_t_history a_t_saved a_t_tape a_t_numbers a_t_plan a_t_bestPlan a_t_sort a_t_size a_t_whole a_t_parts v_t_above v_t_at v_t_below v_t_bestAbove v_t_bestBelow v_t_detail v_t_hasSaved v_t_historyMany v_t_impossibleAt v_t_keptDetail v_t_keptReason v_t_letter v_t_taped v_t_thrown (3 : Int32) q37 hqq37) u_ml_X11_65 u_im_X11_fails u_se_X11_fails u_in_X11 u_co_X11_fails hd_X11_fails ⟨Nat.le_of_ble_eq_true rfl, Nat.le_of_ble_eq_true rfl⟩ ⟨rfl, rfl⟩ hK hH hA (cutM (isC := [0]) [some 0, none, none, none, none] 5 rfl rfl rfl rfl rfl rfl rfl) rfl rfl rfl rfl hl.1 (Nat.le_of_ble_eq_true rfl) dX11_copyRow_61 ⟨Nat.le_of_ble_eq_true rfl, Nat.le_of_ble_eq_true rfl⟩ (fun H locs hH => ?_)
            have h := Option.some.inj h
            subst h
            exact ge_i hx hb hr hlocks hQ hK hH hAe rfl dX11_copyRow_64
        · replace h := dc_pos c11 h
          refine lv_aload_n hx hb dX11_copyRow_38 rfl (lv_at hl 0 rfl) ?_
          refine lv_iconst (v := 2) hx hb dX11_copyRow_39 (by decide) ?_
          obtain ⟨q12, hqq12, h⟩ := dc_bind h
          refine gc_Vi (ws' := [(a_t, .inr (10, [.int q12.2, .ref a_t_g, .ref a_t_ahead, .ref a_t_history, v_t_historyMany, .ref a_t_saved, v_t_hasSaved, .ref a_t_tape, v_t_taped, v_t_at, v_t_impossibleAt, v_t_letter, .ref a_t_numbers, .ref a_t_plan, v_t_detail, v_t_keptReason, v_t_keptDetail, v_t_above, v_t_below, v_t_bestAbove, v_t_bestBelow, .ref a_t_bestPlan, .ref a_t_sort, .ref a_t_size, .ref a_t_whole, .ref a_t_parts])), (a_t_sort, .inl (k 0, 3, .inl t_sort)), (a_t_size, .inl (k 0, 3, .inl t_size)), (a_t_whole, .inl (k 0, 12, .inl t_whole)), (a_t_parts, .inl (k 3, 12, .inr (.inr (.inl t_parts))))]) (As := [.int (2 : Int32)]) (rest := []) (n := 1) (ci := 10) (cq := (RX11, TX11, 26)) hTs ⟨hx, hb, hml, hown, hts⟩ (mX11_fails l Ts hTs D k H.size a_t a_t_g a_t_ahead a_t_history a_t_saved a_t_tape a_t_numbers a_t_plan a_t_bestPlan a_t_sort a_t_size a_t_whole a_t_parts v_t_above v_t_at v_t_below v_t_bestAbove v_t_bestBelow v_t_detail v_t_hasSaved v_t_historyMany v_t_impossibleAt v_t_keptDetail v_t_keptReason v_t_letter v_t_taped v_t_thrown (2 : Int32) q12 hqq12) u_ml_X11_65 u_im_X11_fails u_se_X11_fails u_in_X11 u_co_X11_fails hd_X11_fails ⟨Nat.le_of_ble_eq_true rfl, Nat.le_of_ble_eq_true rfl⟩ ⟨rfl, rfl⟩ hK hH hA (cutM (isC := [0]) [some 0, none, none, none, none] 5 rfl rfl rfl rfl rfl rfl rfl) rfl rfl rfl rfl hl.1 (Nat.le_of_ble_eq_true rfl) dX11_copyRow_40 ⟨Nat.le_of_ble_eq_true rfl, Nat.le_of_ble_eq_true rfl⟩ (fun H locs hH => ?_)
          have h := Option.some.inj h
          subst h
          exact ge_i hx hb hr hlocks hQ hK hH hAe rfl dX11_copyRow_43
    · replace h := dc_pos c5 h
      refine lv_aload_n hx hb dX11_copyRow_14 rfl (lv_at hl 0 rfl) ?_
      refine lv_iconst (v := 1) hx hb dX11_copyRow_15 (by decide) ?_
      obtain ⟨q6, hqq6, h⟩ := dc_bind h
      refine gc_Vi (ws' := [(a_t, .inr (10, [.int q6.2, .ref a_t_g, .ref a_t_ahead, .ref a_t_history, v_t_historyMany, .ref a_t_saved, v_t_hasSaved, .ref a_t_tape, v_t_taped, v_t_at, v_t_impossibleAt, v_t_letter, .ref a_t_numbers, .ref a_t_plan, v_t_detail, v_t_keptReason, v_t_keptDetail, v_t_above, v_t_below, v_t_bestAbove, v_t_bestBelow, .ref a_t_bestPlan, .ref a_t_sort, .ref a_t_size, .ref a_t_whole, .ref a_t_parts])), (a_t_sort, .inl (k 0, 3, .inl t_sort)), (a_t_size, .inl (k 0, 3, .inl t_size)), (a_t_whole, .inl (k 0, 12, .inl t_whole)), (a_t_parts, .inl (k 3, 12, .inr (.inr (.inl t_parts))))]) (As := [.int (1 : Int32)]) (rest := []) (n := 1) (ci := 10) (cq := (RX11, TX11, 26)) hTs ⟨hx, hb, hml, hown, hts⟩ (mX11_fails l Ts hTs D k H.size a_t a_t_g a_t_ahead a_t_history a_t_saved a_t_tape a_t_numbers a_t_plan a_t_bestPlan a_t_sort a_t_size a_t_whole a_t_parts v_t_above v_t_at v_t_below v_t_bestAbove v_t_bestBelow v_t_detail v_t_hasSaved v_t_historyMany v_t_impossibleAt v_t_keptDetail v_t_keptReason v_t_letter v_t_taped v_t_thrown (1 : Int32) q6 hqq6) u_ml_X11_65 u_im_X11_fails u_se_X11_fails u_in_X11 u_co_X11_fails hd_X11_fails ⟨Nat.le_of_ble_eq_true rfl, Nat.le_of_ble_eq_true rfl⟩ ⟨rfl, rfl⟩ hK hH hA (cutM (isC := [0]) [some 0, none, none, none, none] 5 rfl rfl rfl rfl rfl rfl rfl) rfl rfl rfl rfl hl.1 (Nat.le_of_ble_eq_true rfl) dX11_copyRow_16 ⟨Nat.le_of_ble_eq_true rfl, Nat.le_of_ble_eq_true rfl⟩ (fun H locs hH => ?_)
      have h := Option.some.inj h
      subst h
      exact ge_i hx hb hr hlocks hQ hK hH hAe rfl dX11_copyRow_19
theorem hd_Jxf58ca_isNaN_12338 : yJxf58ca_isNaN_12338.cls ≠ "java/lang/invoke/MethodHandle" ∧ yJxf58ca_isNaN_12338.cls ≠ "java/lang/invoke/VarHandle" ∧ (parseMethodDescriptor yJxf58ca_isNaN_12338.desc).map (fun d => d.parameters.length) = some 1 := by decide +kernel
set_option maxHeartbeats 4000000 in
set_option maxRecDepth 100000 in
theorem mJxf58ca_isNaN_12338 (l : Launch) (Ts : List Cond) (hTs : ∀ w, w ∈ Ts ↔ w ∈ uT) (D : va_G) (k : Nat → ClassId) (sz : Nat) (x0 : UInt32) (r : Int32) (h : fJxf58ca_isNaN_12338 x0 = some r) : Met l yJxf58ca_isNaN_12338 (Cond.code yJxf58ca_isNaN_12338 cJxf58ca_isNaN_12338 1 (some .boolean) :: Ts) ({ frames := 0, cells := 0, slots := 0, locals := 0 } : Room) (preM D k [.float x0] [] sz) (postI D k r [] [] sz) 0 0 (va_A [] sz) := by
  refine met_ofWF (cc := cJxf58ca_isNaN_12338) (maxL := 1) (ret := (some .boolean)) (by decide +kernel) rfl ?_
  intro p e s m args below meth c s₁ B hml hv
  obtain ⟨rfl, hsz, hP, hK, hD0⟩ := hv
  have hx := B.exec
  have hb := B.bytes
  have hr := B.returns
  have hts0 := atoms_spec (ws := (Cond.code yJxf58ca_isNaN_12338 cJxf58ca_isNaN_12338 1 (some .boolean) :: Ts)) B.pre
  have hts : ∀ w ∈ uT, w.before _ s = true := fun w h => hts0 w (List.mem_cons_of_mem _ ((hTs w).mpr h))
  clear hts0
  have hown : s.vm.findClass RJxf58ca = some m.cls := findClass_of_methodNamed B.named
  have hlocks := B.notSynchronized
  subst hsz
  have hD := hD0.self (sz := s.heap.size)
  generalize hAe : va_A [] s.heap.size = A at hD ⊢
  have hA : ∀ q : Nat, s.heap.size ≤ q → A q := fun q h => by rw [← hAe]; exact Or.inr h
  have hH : HOK D A s.heap [] s.heap [] := ⟨hP, hD, va_S.rf⟩
  have hl := lv_entry ([.float x0]) (n := 1) (Nat.le_of_ble_eq_true rfl)
  rw [lg_entry_eq]
  generalize (lg_sl ([.float x0]) ++ List.replicate (1 - (lg_sl ([.float x0])).length) Slot.unset).toArray = ls at hl ⊢
  have hl : lv_has ls 1 [(0, .float x0)] := hl
  generalize hQ : MQ below (postI D k r [] [] s.heap.size) (List.toArray [.float x0]) s 0 0 A = Q
  clear hP hD hD0
  suffices K : ∀ (H : Heap) (locs : List Loc), HOK D A s.heap [] H locs → W p l e ({ frames := 0, cells := 0, slots := 0, locals := 0 } : Room) s m (List.toArray [.float x0]) below meth c H locs 0 0 Q (F0 m 0 ls []) from K s.heap [] hH
  intro H locs hH
  rw [fJxf58ca_isNaN_12338] at h
  refine lv_fload_n hx hb dJxf58ca_isNaN_12338_0 rfl (lv_at hl 0 rfl) ?_
  refine lv_fload_n hx hb dJxf58ca_isNaN_12338_1 rfl (lv_at hl 0 rfl) ?_
  refine lv_fcmp hx hb dJxf58ca_isNaN_12338_2 ?_
  refine lv_if_eq (tgt := 10) hx hb dJxf58ca_isNaN_12338_3 (by decide) (fun c1 => ?_) (fun c1 => ?_)
  · replace h := dc_pos c1 h
    refine lv_iconst (v := 0) hx hb dJxf58ca_isNaN_12338_10 (by decide) ?_
    have h := Option.some.inj h
    subst h
    exact ge_z hx hb hr rfl hlocks hQ hK hH hAe rfl dJxf58ca_isNaN_12338_11
  · replace h := dc_neg c1 h
    refine lv_iconst (v := 1) hx hb dJxf58ca_isNaN_12338_6 (by decide) ?_
    refine lv_goto (tgt := 11) hx hb dJxf58ca_isNaN_12338_7 (by decide) ?_
    have h := Option.some.inj h
    subst h
    exact ge_z hx hb hr rfl hlocks hQ hK hH hAe rfl dJxf58ca_isNaN_12338_11
