def newX11 (k : Nat → ClassId) (h : Nat) (a : Nat → Nat) : va_W := [(h, .inr (10, [.int 0, .ref (a 0), .ref (a 1), .ref (a 2), .int 0, .ref (a 3), .int 0, .ref (a 4), .int 0, .int 0, .int (-1), .int 0, .ref (a 5), .ref (a 6), .int 0, .int 0, .int 0, .long 0, .long 0, .long 0, .long 0, .ref (a 7), .ref (a 8), .ref (a 9), .ref (a 10), .ref (a 11)])), ((a 0), .inl (k 0, 221, .inl (upd ((upd (fun _ => 0) 205 2)) 206 10))), ((a 1), .inl (k 0, 221, .inl fun _ => 0)), ((a 2), .inl (k 0, 1768, .inl fun _ => 0)), ((a 3), .inl (k 0, 221, .inl fun _ => 0)), ((a 4), .inl (k 1, 80, .inl fun _ => 0)), ((a 5), .inl (k 0, 4, .inl fun _ => 0)), ((a 6), .inl (k 0, 12, .inl fun _ => 0)), ((a 7), .inl (k 0, 12, .inl fun _ => 0)), ((a 8), .inl (k 0, 3, .inl fun _ => 0)), ((a 9), .inl (k 0, 3, .inl fun _ => 0)), ((a 10), .inl (k 0, 12, .inl fun _ => 0)), ((a 11), .inl (k 3, 12, .inr (.inr (.inl fun _ => 0))))]
theorem hd_X11_init : yX11_init.cls ≠ "java/lang/invoke/MethodHandle" ∧ yX11_init.cls ≠ "java/lang/invoke/VarHandle" ∧ (parseMethodDescriptor yX11_init.desc).map (fun d => d.parameters.length) = some 0 := by decide +kernel
set_option maxHeartbeats 8000000 in
set_option maxRecDepth 100000 in
theorem mX11_init (l : Launch) (Ts : List Cond) (hTs : ∀ w, w ∈ Ts ↔ w ∈ uT) (D : va_G) (k : Nat → ClassId) (sz : Nat) (a_t : Nat) : Met l yX11_init (Cond.code yX11_init cX11_init 1 none :: Ts) ({ frames := 1, cells := 12, slots := 2569, locals := 12 } : Room) (preN D k [.ref a_t] [(a_t, .inr (10, [.int 0, .null, .null, .null, .int 0, .null, .int 0, .null, .int 0, .int 0, .int 0, .int 0, .null, .null, .int 0, .int 0, .int 0, .long 0, .long 0, .long 0, .long 0, .null, .null, .null, .null, .null]))] sz) (postN D k (newX11 k a_t) [(a_t, .inr (10, [.int 0, .null, .null, .null, .int 0, .null, .int 0, .null, .int 0, .int 0, .int 0, .int 0, .null, .null, .int 0, .int 0, .int 0, .long 0, .long 0, .long 0, .long 0, .null, .null, .null, .null, .null]))] sz) 12 2569 (va_A [(a_t, .inr (10, [.int 0, .null, .null, .null, .int 0, .null, .int 0, .null, .int 0, .int 0, .int 0, .int 0, .null, .null, .int 0, .int 0, .int 0, .long 0, .long 0, .long 0, .long 0, .null, .null, .null, .null, .null]))] sz) := by
  refine Met.ofW (cc := cX11_init) (maxL := 1) (ret := none) (by decide) rfl ?_
  intro p e s m args below meth c s₁ B hml hv
  obtain ⟨rfl, ⟨hsz, hP, hK, hD0⟩, hC⟩ := hv
  have hx := B.exec
  have hb := B.bytes
  have hr := B.returns
  have hts0 := atoms_spec (ws := (Cond.code yX11_init cX11_init 1 none :: Ts)) B.pre
  have hts : ∀ w ∈ uT, w.before _ s = true := fun w h => hts0 w (List.mem_cons_of_mem _ ((hTs w).mpr h))
  clear hts0
  have hown : s.vm.findClass RX11 = some m.cls := findClass_of_methodNamed B.named
  have hlocks := B.notSynchronized
  have hin : meth.name = "<init>" := (name_of_methodNamed B.named B.method).1
  subst hsz
  have hD := hD0.self (sz := s.heap.size)
  generalize hAe : va_A [(a_t, .inr (10, [.int 0, .null, .null, .null, .int 0, .null, .int 0, .null, .int 0, .int 0, .int 0, .int 0, .null, .null, .int 0, .int 0, .int 0, .long 0, .long 0, .long 0, .long 0, .null, .null, .null, .null, .null]))] s.heap.size = A at hD ⊢
  have hA : ∀ q : Nat, s.heap.size ≤ q → A q := fun q h => by rw [← hAe]; exact Or.inr h
  have hH : HOK D A s.heap ((a_t, .inr (10, [.int 0, .null, .null, .null, .int 0, .null, .int 0, .null, .int 0, .int 0, .int 0, .int 0, .null, .null, .int 0, .int 0, .int 0, .long 0, .long 0, .long 0, .long 0, .null, .null, .null, .null, .null])) :: []) s.heap [] := ⟨hP, hD, va_S.rf⟩
  have hl := lv_entry ([.ref a_t]) (n := 1) (Nat.le_of_ble_eq_true rfl)
  rw [lg_entry_eq]
  generalize (lg_sl ([.ref a_t]) ++ List.replicate (1 - (lg_sl ([.ref a_t])).length) Slot.unset).toArray = ls at hl ⊢
  have hl : lv_has ls 1 [(0, .ref a_t)] := hl
  generalize hQ : MQ below (postN D k (newX11 k a_t) [(a_t, .inr (10, [.int 0, .null, .null, .null, .int 0, .null, .int 0, .null, .int 0, .int 0, .int 0, .int 0, .null, .null, .int 0, .int 0, .int 0, .long 0, .long 0, .long 0, .long 0, .null, .null, .null, .null, .null]))] s.heap.size) (List.toArray [.ref a_t]) s 12 2569 A = Q
  clear hP hD hD0
  suffices K : ∀ (H : Heap) (locs : List Loc), HOK D A s.heap ((a_t, .inr (10, [.int 0, .null, .null, .null, .int 0, .null, .int 0, .null, .int 0, .int 0, .int 0, .int 0, .null, .null, .int 0, .int 0, .int 0, .long 0, .long 0, .long 0, .long 0, .null, .null, .null, .null, .null])) :: []) H locs → W p l e ({ frames := 1, cells := 12, slots := 2569, locals := 12 } : Room) s m (List.toArray [.ref a_t]) below meth c H locs 0 0 Q (F0 m 0 ls []) from K s.heap [] hH
  intro H locs hH
  refine lv_aload_n hx hb dX11_init_0 rfl (lv_at hl 0 rfl) ?_
  refine W.objInit hx hb hown (hts _ u_ml_X11_1) (hts _ u_im_Object__init_) (hts _ u_co_Object_init) rfl (by rw [hml]; exact hl.1) rfl dX11_init_1 (Nat.le_of_ble_eq_true rfl) (Nat.le_of_ble_eq_true rfl) ?_
  refine W.eq (g2 := F0 m 4 ls []) rfl ?_
  refine lv_aload_n hx hb dX11_init_4 rfl (lv_at hl 0 rfl) ?_
  refine lv_sipush (v := 221) hx hb dX11_init_5 (by decide) ?_
  refine gk_newa (atype := .int) (ty := .int) (N' := 221) (a0 := (221, .inl fun _ => 0)) hx hb hts rfl u_ac_int hK hH hA 0 rfl (fun _ => rfl) (by decide) (by decide) (by decide) (Nat.le_of_ble_eq_true rfl) (Nat.le_of_ble_eq_true rfl) dX11_init_8 (fun q8 H hH => ?_)
  obtain ⟨t1, ht1⟩ : ∃ t : va_W, t = [] ++ [(q8, .inl (k 0, 221, .inl fun _ => 0))] := ⟨_, rfl⟩
  have hH : HOK D A s.heap ((a_t, .inr (10, [.int 0, .null, .null, .null, .int 0, .null, .int 0, .null, .int 0, .int 0, .int 0, .int 0, .null, .null, .int 0, .int 0, .int 0, .long 0, .long 0, .long 0, .long 0, .null, .null, .null, .null, .null])) :: t1) H locs := by rw [ht1]; exact hH
  refine gk_putF (ci := 10) (C := RX11) (T := TX11) (N := 26) hx hb hts u_ws_X11 tyX11_ok nmX11 hown hK hH 0 rfl rfl 1 (by decide) u_fl_X11_7 rfl hin rfl rfl rfl (Nat.le_of_ble_eq_true rfl) dX11_init_10 ((a_t, .inr (10, [.int 0, .ref q8, .null, .null, .int 0, .null, .int 0, .null, .int 0, .int 0, .int 0, .int 0, .null, .null, .int 0, .int 0, .int 0, .long 0, .long 0, .long 0, .long 0, .null, .null, .null, .null, .null])) :: t1) rfl (fun H locs hH => ?_)
  refine lv_aload_n hx hb dX11_init_13 rfl (lv_at hl 0 rfl) ?_
  refine lv_sipush (v := 221) hx hb dX11_init_14 (by decide) ?_
  refine gk_newa (atype := .int) (ty := .int) (N' := 221) (a0 := (221, .inl fun _ => 0)) hx hb hts rfl u_ac_int hK hH hA 0 rfl (fun _ => rfl) (by decide) (by decide) (by decide) (Nat.le_of_ble_eq_true rfl) (Nat.le_of_ble_eq_true rfl) dX11_init_17 (fun q17 H hH => ?_)
  obtain ⟨t2, ht2⟩ : ∃ t : va_W, t = t1 ++ [(q17, .inl (k 0, 221, .inl fun _ => 0))] := ⟨_, rfl⟩
  have hH : HOK D A s.heap ((a_t, .inr (10, [.int 0, .ref q8, .null, .null, .int 0, .null, .int 0, .null, .int 0, .int 0, .int 0, .int 0, .null, .null, .int 0, .int 0, .int 0, .long 0, .long 0, .long 0, .long 0, .null, .null, .null, .null, .null])) :: t2) H locs := by rw [ht2]; exact hH
  refine gk_putF (ci := 10) (C := RX11) (T := TX11) (N := 26) hx hb hts u_ws_X11 tyX11_ok nmX11 hown hK hH 0 rfl rfl 2 (by decide) u_fl_X11_13 rfl hin rfl rfl rfl (Nat.le_of_ble_eq_true rfl) dX11_init_19 ((a_t, .inr (10, [.int 0, .ref q8, .ref q17, .null, .int 0, .null, .int 0, .null, .int 0, .int 0, .int 0, .int 0, .null, .null, .int 0, .int 0, .int 0, .long 0, .long 0, .long 0, .long 0, .null, .null, .null, .null, .null])) :: t2) rfl (fun H locs hH => ?_)
  refine lv_aload_n hx hb dX11_init_22 rfl (lv_at hl 0 rfl) ?_
  refine lv_sipush (v := 1768) hx hb dX11_init_23 (by decide) ?_
  refine gk_newa (atype := .int) (ty := .int) (N' := 1768) (a0 := (1768, .inl fun _ => 0)) hx hb hts rfl u_ac_int hK hH hA 0 rfl (fun _ => rfl) (by decide) (by decide) (by decide) (Nat.le_of_ble_eq_true rfl) (Nat.le_of_ble_eq_true rfl) dX11_init_26 (fun q26 H hH => ?_)
  obtain ⟨t3, ht3⟩ : ∃ t : va_W, t = t2 ++ [(q26, .inl (k 0, 1768, .inl fun _ => 0))] := ⟨_, rfl⟩
  have hH : HOK D A s.heap ((a_t, .inr (10, [.int 0, .ref q8, .ref q17, .null, .int 0, .null, .int 0, .null, .int 0, .int 0, .int 0, .int 0, .null, .null, .int 0, .int 0, .int 0, .long 0, .long 0, .long 0, .long 0, .null, .null, .null, .null, .null])) :: t3) H locs := by rw [ht3]; exact hH
  refine gk_putF (ci := 10) (C := RX11) (T := TX11) (N := 26) hx hb hts u_ws_X11 tyX11_ok nmX11 hown hK hH 0 rfl rfl 3 (by decide) u_fl_X11_16 rfl hin rfl rfl rfl (Nat.le_of_ble_eq_true rfl) dX11_init_28 ((a_t, .inr (10, [.int 0, .ref q8, .ref q17, .ref q26, .int 0, .null, .int 0, .null, .int 0, .int 0, .int 0, .int 0, .null, .null, .int 0, .int 0, .int 0, .long 0, .long 0, .long 0, .long 0, .null, .null, .null, .null, .null])) :: t3) rfl (fun H locs hH => ?_)
  refine lv_aload_n hx hb dX11_init_31 rfl (lv_at hl 0 rfl) ?_
  refine lv_sipush (v := 221) hx hb dX11_init_32 (by decide) ?_
  refine gk_newa (atype := .int) (ty := .int) (N' := 221) (a0 := (221, .inl fun _ => 0)) hx hb hts rfl u_ac_int hK hH hA 0 rfl (fun _ => rfl) (by decide) (by decide) (by decide) (Nat.le_of_ble_eq_true rfl) (Nat.le_of_ble_eq_true rfl) dX11_init_35 (fun q35 H hH => ?_)
  obtain ⟨t4, ht4⟩ : ∃ t : va_W, t = t3 ++ [(q35, .inl (k 0, 221, .inl fun _ => 0))] := ⟨_, rfl⟩
  have hH : HOK D A s.heap ((a_t, .inr (10, [.int 0, .ref q8, .ref q17, .ref q26, .int 0, .null, .int 0, .null, .int 0, .int 0, .int 0, .int 0, .null, .null, .int 0, .int 0, .int 0, .long 0, .long 0, .long 0, .long 0, .null, .null, .null, .null, .null])) :: t4) H locs := by rw [ht4]; exact hH
  refine gk_putF (ci := 10) (C := RX11) (T := TX11) (N := 26) hx hb hts u_ws_X11 tyX11_ok nmX11 hown hK hH 0 rfl rfl 5 (by decide) u_fl_X11_19 rfl hin rfl rfl rfl (Nat.le_of_ble_eq_true rfl) dX11_init_37 ((a_t, .inr (10, [.int 0, .ref q8, .ref q17, .ref q26, .int 0, .ref q35, .int 0, .null, .int 0, .int 0, .int 0, .int 0, .null, .null, .int 0, .int 0, .int 0, .long 0, .long 0, .long 0, .long 0, .null, .null, .null, .null, .null])) :: t4) rfl (fun H locs hH => ?_)
  refine lv_aload_n hx hb dX11_init_40 rfl (lv_at hl 0 rfl) ?_
  refine lv_bipush (v := 80) hx hb dX11_init_41 (by decide) ?_
  refine gk_newa (atype := .char) (ty := .char) (N' := 80) (a0 := (80, .inl fun _ => 0)) hx hb hts rfl u_ac_char hK hH hA 1 rfl (fun _ => rfl) (by decide) (by decide) (by decide) (Nat.le_of_ble_eq_true rfl) (Nat.le_of_ble_eq_true rfl) dX11_init_43 (fun q43 H hH => ?_)
  obtain ⟨t5, ht5⟩ : ∃ t : va_W, t = t4 ++ [(q43, .inl (k 1, 80, .inl fun _ => 0))] := ⟨_, rfl⟩
  have hH : HOK D A s.heap ((a_t, .inr (10, [.int 0, .ref q8, .ref q17, .ref q26, .int 0, .ref q35, .int 0, .null, .int 0, .int 0, .int 0, .int 0, .null, .null, .int 0, .int 0, .int 0, .long 0, .long 0, .long 0, .long 0, .null, .null, .null, .null, .null])) :: t5) H locs := by rw [ht5]; exact hH
  refine gk_putF (ci := 10) (C := RX11) (T := TX11) (N := 26) hx hb hts u_ws_X11 tyX11_ok nmX11 hown hK hH 0 rfl rfl 7 (by decide) u_fl_X11_22 rfl hin rfl rfl rfl (Nat.le_of_ble_eq_true rfl) dX11_init_45 ((a_t, .inr (10, [.int 0, .ref q8, .ref q17, .ref q26, .int 0, .ref q35, .int 0, .ref q43, .int 0, .int 0, .int 0, .int 0, .null, .null, .int 0, .int 0, .int 0, .long 0, .long 0, .long 0, .long 0, .null, .null, .null, .null, .null])) :: t5) rfl (fun H locs hH => ?_)
  refine lv_aload_n hx hb dX11_init_48 rfl (lv_at hl 0 rfl) ?_
  refine lv_iconst (v := (-1)) hx hb dX11_init_49 (by decide) ?_
  refine gk_put (ci := 10) (C := RX11) (T := TX11) (N := 26) hx hb hts u_ws_X11 tyX11_ok nmX11 hown hK hH 0 rfl rfl 10 (by decide) u_fl_X11_26 rfl rfl rfl (Nat.le_of_ble_eq_true rfl) dX11_init_50 ((a_t, .inr (10, [.int 0, .ref q8, .ref q17, .ref q26, .int 0, .ref q35, .int 0, .ref q43, .int 0, .int 0, .int (-1), .int 0, .null, .null, .int 0, .int 0, .int 0, .long 0, .long 0, .long 0, .long 0, .null, .null, .null, .null, .null])) :: t5) rfl (fun H locs hH => ?_)
  refine lv_aload_n hx hb dX11_init_53 rfl (lv_at hl 0 rfl) ?_
  refine lv_iconst (v := 4) hx hb dX11_init_54 (by decide) ?_
  refine gk_newa (atype := .int) (ty := .int) (N' := 4) (a0 := (4, .inl fun _ => 0)) hx hb hts rfl u_ac_int hK hH hA 0 rfl (fun _ => rfl) (by decide) (by decide) (by decide) (Nat.le_of_ble_eq_true rfl) (Nat.le_of_ble_eq_true rfl) dX11_init_55 (fun q55 H hH => ?_)
  obtain ⟨t6, ht6⟩ : ∃ t : va_W, t = t5 ++ [(q55, .inl (k 0, 4, .inl fun _ => 0))] := ⟨_, rfl⟩
  have hH : HOK D A s.heap ((a_t, .inr (10, [.int 0, .ref q8, .ref q17, .ref q26, .int 0, .ref q35, .int 0, .ref q43, .int 0, .int 0, .int (-1), .int 0, .null, .null, .int 0, .int 0, .int 0, .long 0, .long 0, .long 0, .long 0, .null, .null, .null, .null, .null])) :: t6) H locs := by rw [ht6]; exact hH
  refine gk_putF (ci := 10) (C := RX11) (T := TX11) (N := 26) hx hb hts u_ws_X11 tyX11_ok nmX11 hown hK hH 0 rfl rfl 12 (by decide) u_fl_X11_30 rfl hin rfl rfl rfl (Nat.le_of_ble_eq_true rfl) dX11_init_57 ((a_t, .inr (10, [.int 0, .ref q8, .ref q17, .ref q26, .int 0, .ref q35, .int 0, .ref q43, .int 0, .int 0, .int (-1), .int 0, .ref q55, .null, .int 0, .int 0, .int 0, .long 0, .long 0, .long 0, .long 0, .null, .null, .null, .null, .null])) :: t6) rfl (fun H locs hH => ?_)
  refine lv_aload_n hx hb dX11_init_60 rfl (lv_at hl 0 rfl) ?_
  refine lv_bipush (v := 12) hx hb dX11_init_61 (by decide) ?_
  refine gk_newa (atype := .int) (ty := .int) (N' := 12) (a0 := (12, .inl fun _ => 0)) hx hb hts rfl u_ac_int hK hH hA 0 rfl (fun _ => rfl) (by decide) (by decide) (by decide) (Nat.le_of_ble_eq_true rfl) (Nat.le_of_ble_eq_true rfl) dX11_init_63 (fun q63 H hH => ?_)
  obtain ⟨t7, ht7⟩ : ∃ t : va_W, t = t6 ++ [(q63, .inl (k 0, 12, .inl fun _ => 0))] := ⟨_, rfl⟩
  have hH : HOK D A s.heap ((a_t, .inr (10, [.int 0, .ref q8, .ref q17, .ref q26, .int 0, .ref q35, .int 0, .ref q43, .int 0, .int 0, .int (-1), .int 0, .ref q55, .null, .int 0, .int 0, .int 0, .long 0, .long 0, .long 0, .long 0, .null, .null, .null, .null, .null])) :: t7) H locs := by rw [ht7]; exact hH
  refine gk_putF (ci := 10) (C := RX11) (T := TX11) (N := 26) hx hb hts u_ws_X11 tyX11_ok nmX11 hown hK hH 0 rfl rfl 13 (by decide) u_fl_X11_33 rfl hin rfl rfl rfl (Nat.le_of_ble_eq_true rfl) dX11_init_65 ((a_t, .inr (10, [.int 0, .ref q8, .ref q17, .ref q26, .int 0, .ref q35, .int 0, .ref q43, .int 0, .int 0, .int (-1), .int 0, .ref q55, .ref q63, .int 0, .int 0, .int 0, .long 0, .long 0, .long 0, .long 0, .null, .null, .null, .null, .null])) :: t7) rfl (fun H locs hH => ?_)
  refine lv_aload_n hx hb dX11_init_68 rfl (lv_at hl 0 rfl) ?_
  refine lv_bipush (v := 12) hx hb dX11_init_69 (by decide) ?_
  refine gk_newa (atype := .int) (ty := .int) (N' := 12) (a0 := (12, .inl fun _ => 0)) hx hb hts rfl u_ac_int hK hH hA 0 rfl (fun _ => rfl) (by decide) (by decide) (by decide) (Nat.le_of_ble_eq_true rfl) (Nat.le_of_ble_eq_true rfl) dX11_init_71 (fun q71 H hH => ?_)
  obtain ⟨t8, ht8⟩ : ∃ t : va_W, t = t7 ++ [(q71, .inl (k 0, 12, .inl fun _ => 0))] := ⟨_, rfl⟩
  have hH : HOK D A s.heap ((a_t, .inr (10, [.int 0, .ref q8, .ref q17, .ref q26, .int 0, .ref q35, .int 0, .ref q43, .int 0, .int 0, .int (-1), .int 0, .ref q55, .ref q63, .int 0, .int 0, .int 0, .long 0, .long 0, .long 0, .long 0, .null, .null, .null, .null, .null])) :: t8) H locs := by rw [ht8]; exact hH
  refine gk_putF (ci := 10) (C := RX11) (T := TX11) (N := 26) hx hb hts u_ws_X11 tyX11_ok nmX11 hown hK hH 0 rfl rfl 21 (by decide) u_fl_X11_36 rfl hin rfl rfl rfl (Nat.le_of_ble_eq_true rfl) dX11_init_73 ((a_t, .inr (10, [.int 0, .ref q8, .ref q17, .ref q26, .int 0, .ref q35, .int 0, .ref q43, .int 0, .int 0, .int (-1), .int 0, .ref q55, .ref q63, .int 0, .int 0, .int 0, .long 0, .long 0, .long 0, .long 0, .ref q71, .null, .null, .null, .null])) :: t8) rfl (fun H locs hH => ?_)
  refine lv_aload_n hx hb dX11_init_76 rfl (lv_at hl 0 rfl) ?_
  refine lv_iconst (v := 3) hx hb dX11_init_77 (by decide) ?_
  refine gk_newa (atype := .int) (ty := .int) (N' := 3) (a0 := (3, .inl fun _ => 0)) hx hb hts rfl u_ac_int hK hH hA 0 rfl (fun _ => rfl) (by decide) (by decide) (by decide) (Nat.le_of_ble_eq_true rfl) (Nat.le_of_ble_eq_true rfl) dX11_init_78 (fun q78 H hH => ?_)
  obtain ⟨t9, ht9⟩ : ∃ t : va_W, t = t8 ++ [(q78, .inl (k 0, 3, .inl fun _ => 0))] := ⟨_, rfl⟩
  have hH : HOK D A s.heap ((a_t, .inr (10, [.int 0, .ref q8, .ref q17, .ref q26, .int 0, .ref q35, .int 0, .ref q43, .int 0, .int 0, .int (-1), .int 0, .ref q55, .ref q63, .int 0, .int 0, .int 0, .long 0, .long 0, .long 0, .long 0, .ref q71, .null, .null, .null, .null])) :: t9) H locs := by rw [ht9]; exact hH
  refine gk_putF (ci := 10) (C := RX11) (T := TX11) (N := 26) hx hb hts u_ws_X11 tyX11_ok nmX11 hown hK hH 0 rfl rfl 22 (by decide) u_fl_X11_39 rfl hin rfl rfl rfl (Nat.le_of_ble_eq_true rfl) dX11_init_80 ((a_t, .inr (10, [.int 0, .ref q8, .ref q17, .ref q26, .int 0, .ref q35, .int 0, .ref q43, .int 0, .int 0, .int (-1), .int 0, .ref q55, .ref q63, .int 0, .int 0, .int 0, .long 0, .long 0, .long 0, .long 0, .ref q71, .ref q78, .null, .null, .null])) :: t9) rfl (fun H locs hH => ?_)
  refine lv_aload_n hx hb dX11_init_83 rfl (lv_at hl 0 rfl) ?_
  refine lv_iconst (v := 3) hx hb dX11_init_84 (by decide) ?_
  refine gk_newa (atype := .int) (ty := .int) (N' := 3) (a0 := (3, .inl fun _ => 0)) hx hb hts rfl u_ac_int hK hH hA 0 rfl (fun _ => rfl) (by decide) (by decide) (by decide) (Nat.le_of_ble_eq_true rfl) (Nat.le_of_ble_eq_true rfl) dX11_init_85 (fun q85 H hH => ?_)
  obtain ⟨t10, ht10⟩ : ∃ t : va_W, t = t9 ++ [(q85, .inl (k 0, 3, .inl fun _ => 0))] := ⟨_, rfl⟩
  have hH : HOK D A s.heap ((a_t, .inr (10, [.int 0, .ref q8, .ref q17, .ref q26, .int 0, .ref q35, .int 0, .ref q43, .int 0, .int 0, .int (-1), .int 0, .ref q55, .ref q63, .int 0, .int 0, .int 0, .long 0, .long 0, .long 0, .long 0, .ref q71, .ref q78, .null, .null, .null])) :: t10) H locs := by rw [ht10]; exact hH
  refine gk_putF (ci := 10) (C := RX11) (T := TX11) (N := 26) hx hb hts u_ws_X11 tyX11_ok nmX11 hown hK hH 0 rfl rfl 23 (by decide) u_fl_X11_42 rfl hin rfl rfl rfl (Nat.le_of_ble_eq_true rfl) dX11_init_87 ((a_t, .inr (10, [.int 0, .ref q8, .ref q17, .ref q26, .int 0, .ref q35, .int 0, .ref q43, .int 0, .int 0, .int (-1), .int 0, .ref q55, .ref q63, .int 0, .int 0, .int 0, .long 0, .long 0, .long 0, .long 0, .ref q71, .ref q78, .ref q85, .null, .null])) :: t10) rfl (fun H locs hH => ?_)
  refine lv_aload_n hx hb dX11_init_90 rfl (lv_at hl 0 rfl) ?_
  refine lv_bipush (v := 12) hx hb dX11_init_91 (by decide) ?_
  refine gk_newa (atype := .int) (ty := .int) (N' := 12) (a0 := (12, .inl fun _ => 0)) hx hb hts rfl u_ac_int hK hH hA 0 rfl (fun _ => rfl) (by decide) (by decide) (by decide) (Nat.le_of_ble_eq_true rfl) (Nat.le_of_ble_eq_true rfl) dX11_init_93 (fun q93 H hH => ?_)
  obtain ⟨t11, ht11⟩ : ∃ t : va_W, t = t10 ++ [(q93, .inl (k 0, 12, .inl fun _ => 0))] := ⟨_, rfl⟩
  have hH : HOK D A s.heap ((a_t, .inr (10, [.int 0, .ref q8, .ref q17, .ref q26, .int 0, .ref q35, .int 0, .ref q43, .int 0, .int 0, .int (-1), .int 0, .ref q55, .ref q63, .int 0, .int 0, .int 0, .long 0, .long 0, .long 0, .long 0, .ref q71, .ref q78, .ref q85, .null, .null])) :: t11) H locs := by rw [ht11]; exact hH
  refine gk_putF (ci := 10) (C := RX11) (T := TX11) (N := 26) hx hb hts u_ws_X11 tyX11_ok nmX11 hown hK hH 0 rfl rfl 24 (by decide) u_fl_X11_45 rfl hin rfl rfl rfl (Nat.le_of_ble_eq_true rfl) dX11_init_95 ((a_t, .inr (10, [.int 0, .ref q8, .ref q17, .ref q26, .int 0, .ref q35, .int 0, .ref q43, .int 0, .int 0, .int (-1), .int 0, .ref q55, .ref q63, .int 0, .int 0, .int 0, .long 0, .long 0, .long 0, .long 0, .ref q71, .ref q78, .ref q85, .ref q93, .null])) :: t11) rfl (fun H locs hH => ?_)
  refine lv_aload_n hx hb dX11_init_98 rfl (lv_at hl 0 rfl) ?_
  refine lv_bipush (v := 12) hx hb dX11_init_99 (by decide) ?_
  refine gk_newa (atype := .float) (ty := .float) (N' := 12) (a0 := (12, .inr (.inr (.inl fun _ => 0)))) hx hb hts rfl u_ac_float hK hH hA 3 rfl (fun _ => rfl) (by decide) (by decide) (by decide) (Nat.le_of_ble_eq_true rfl) (Nat.le_of_ble_eq_true rfl) dX11_init_101 (fun q101 H hH => ?_)
  obtain ⟨t12, ht12⟩ : ∃ t : va_W, t = t11 ++ [(q101, .inl (k 3, 12, .inr (.inr (.inl fun _ => 0))))] := ⟨_, rfl⟩
  have hH : HOK D A s.heap ((a_t, .inr (10, [.int 0, .ref q8, .ref q17, .ref q26, .int 0, .ref q35, .int 0, .ref q43, .int 0, .int 0, .int (-1), .int 0, .ref q55, .ref q63, .int 0, .int 0, .int 0, .long 0, .long 0, .long 0, .long 0, .ref q71, .ref q78, .ref q85, .ref q93, .null])) :: t12) H locs := by rw [ht12]; exact hH
  refine gk_putF (ci := 10) (C := RX11) (T := TX11) (N := 26) hx hb hts u_ws_X11 tyX11_ok nmX11 hown hK hH 0 rfl rfl 25 (by decide) u_fl_X11_48 rfl hin rfl rfl rfl (Nat.le_of_ble_eq_true rfl) dX11_init_103 ((a_t, .inr (10, [.int 0, .ref q8, .ref q17, .ref q26, .int 0, .ref q35, .int 0, .ref q43, .int 0, .int 0, .int (-1), .int 0, .ref q55, .ref q63, .int 0, .int 0, .int 0, .long 0, .long 0, .long 0, .long 0, .ref q71, .ref q78, .ref q85, .ref q93, .ref q101])) :: t12) rfl (fun H locs hH => ?_)
  refine lv_aload_n hx hb dX11_init_106 rfl (lv_at hl 0 rfl) ?_
  refine gk_get (ci := 10) (C := RX11) (T := TX11) (N := 26) hx hb hts u_ws_X11 hown hK hH 0 rfl rfl 1 (by decide) u_fl_X11_7 rfl dX11_init_107 ?_
  refine lv_sipush (v := 205) hx hb dX11_init_110 (by decide) ?_
  refine lv_iconst (v := 2) hx hb dX11_init_113 (by decide) ?_
  rw [ht12, ht11, ht10, ht9, ht8, ht7, ht6, ht5, ht4, ht3, ht2, ht1] at hH
  have hH : HOK D A s.heap ((a_t, .inr (10, [.int 0, .ref q8, .ref q17, .ref q26, .int 0, .ref q35, .int 0, .ref q43, .int 0, .int 0, .int (-1), .int 0, .ref q55, .ref q63, .int 0, .int 0, .int 0, .long 0, .long 0, .long 0, .long 0, .ref q71, .ref q78, .ref q85, .ref q93, .ref q101])) :: [(q8, .inl (k 0, 221, .inl fun _ => 0)), (q17, .inl (k 0, 221, .inl fun _ => 0)), (q26, .inl (k 0, 1768, .inl fun _ => 0)), (q35, .inl (k 0, 221, .inl fun _ => 0)), (q43, .inl (k 1, 80, .inl fun _ => 0)), (q55, .inl (k 0, 4, .inl fun _ => 0)), (q63, .inl (k 0, 12, .inl fun _ => 0)), (q71, .inl (k 0, 12, .inl fun _ => 0)), (q78, .inl (k 0, 3, .inl fun _ => 0)), (q85, .inl (k 0, 3, .inl fun _ => 0)), (q93, .inl (k 0, 12, .inl fun _ => 0)), (q101, .inl (k 3, 12, .inr (.inr (.inl fun _ => 0))))]) H locs := hH
  refine gk_iast hx hb hK hH 1 rfl (dk_in (by decide)) dX11_init_114 ((a_t, .inr (10, [.int 0, .ref q8, .ref q17, .ref q26, .int 0, .ref q35, .int 0, .ref q43, .int 0, .int 0, .int (-1), .int 0, .ref q55, .ref q63, .int 0, .int 0, .int 0, .long 0, .long 0, .long 0, .long 0, .ref q71, .ref q78, .ref q85, .ref q93, .ref q101])) :: [(q8, .inl (k 0, 221, .inl (upd (fun _ => 0) 205 2))), (q17, .inl (k 0, 221, .inl fun _ => 0)), (q26, .inl (k 0, 1768, .inl fun _ => 0)), (q35, .inl (k 0, 221, .inl fun _ => 0)), (q43, .inl (k 1, 80, .inl fun _ => 0)), (q55, .inl (k 0, 4, .inl fun _ => 0)), (q63, .inl (k 0, 12, .inl fun _ => 0)), (q71, .inl (k 0, 12, .inl fun _ => 0)), (q78, .inl (k 0, 3, .inl fun _ => 0)), (q85, .inl (k 0, 3, .inl fun _ => 0)), (q93, .inl (k 0, 12, .inl fun _ => 0)), (q101, .inl (k 3, 12, .inr (.inr (.inl fun _ => 0))))]) rfl (fun H locs hH => ?_)
  refine lv_aload_n hx hb dX11_init_115 rfl (lv_at hl 0 rfl) ?_
  refine gk_get (ci := 10) (C := RX11) (T := TX11) (N := 26) hx hb hts u_ws_X11 hown hK hH 0 rfl rfl 1 (by decide) u_fl_X11_7 rfl dX11_init_116 ?_
  refine lv_sipush (v := 206) hx hb dX11_init_119 (by decide) ?_
  refine lv_bipush (v := 10) hx hb dX11_init_122 (by decide) ?_
  refine gk_iast hx hb hK hH 1 rfl (dk_in (by decide)) dX11_init_124 ((a_t, .inr (10, [.int 0, .ref q8, .ref q17, .ref q26, .int 0, .ref q35, .int 0, .ref q43, .int 0, .int 0, .int (-1), .int 0, .ref q55, .ref q63, .int 0, .int 0, .int 0, .long 0, .long 0, .long 0, .long 0, .ref q71, .ref q78, .ref q85, .ref q93, .ref q101])) :: [(q8, .inl (k 0, 221, .inl (upd ((upd (fun _ => 0) 205 2)) 206 10))), (q17, .inl (k 0, 221, .inl fun _ => 0)), (q26, .inl (k 0, 1768, .inl fun _ => 0)), (q35, .inl (k 0, 221, .inl fun _ => 0)), (q43, .inl (k 1, 80, .inl fun _ => 0)), (q55, .inl (k 0, 4, .inl fun _ => 0)), (q63, .inl (k 0, 12, .inl fun _ => 0)), (q71, .inl (k 0, 12, .inl fun _ => 0)), (q78, .inl (k 0, 3, .inl fun _ => 0)), (q85, .inl (k 0, 3, .inl fun _ => 0)), (q93, .inl (k 0, 12, .inl fun _ => 0)), (q101, .inl (k 3, 12, .inr (.inr (.inl fun _ => 0))))]) rfl (fun H locs hH => ?_)
  have hH : HOK D A s.heap (newX11 k a_t (fun j => [q8, q17, q26, q35, q43, q55, q63, q71, q78, q85, q93, q101].getD j 0)) H locs := hH
  exact gn_end (fun j => [q8, q17, q26, q35, q43, q55, q63, q71, q78, q85, q93, q101].getD j 0) hx hb hr hlocks hQ hK hH hAe dX11_init_125
