def newX4 (k : Nat → ClassId) (h : Nat) (a : Nat → Nat) : va_W := [(h, .inr (4, [.ref (a 0), .ref (a 1)])), ((a 0), .inl (k 0, 12, .inl fun _ => 0)), ((a 1), .inl (k 0, 4, .inl fun _ => 0))]
theorem hd_X4_init : yX4_init.cls ≠ "java/lang/invoke/MethodHandle" ∧ yX4_init.cls ≠ "java/lang/invoke/VarHandle" ∧ (parseMethodDescriptor yX4_init.desc).map (fun d => d.parameters.length) = some 0 := by decide +kernel
set_option maxHeartbeats 8000000 in
set_option maxRecDepth 100000 in
theorem mX4_init (l : Launch) (Ts : List Cond) (hTs : ∀ w, w ∈ Ts ↔ w ∈ uT) (D : va_G) (k : Nat → ClassId) (sz : Nat) (a_t : Nat) : Met l yX4_init (Cond.code yX4_init cX4_init 1 none :: Ts) ({ frames := 1, cells := 2, slots := 16, locals := 12 } : Room) (preN D k [.ref a_t] [(a_t, .inr (4, [.null, .null]))] sz) (postN D k (newX4 k a_t) [(a_t, .inr (4, [.null, .null]))] sz) 2 16 (va_A [(a_t, .inr (4, [.null, .null]))] sz) := by
  refine Met.ofW (cc := cX4_init) (maxL := 1) (ret := none) (by decide) rfl ?_
  intro p e s m args below meth c s₁ B hml hv
  obtain ⟨rfl, ⟨hsz, hP, hK, hD0⟩, hC⟩ := hv
  have hx := B.exec
  have hb := B.bytes
  have hr := B.returns
  have hts0 := atoms_spec (ws := (Cond.code yX4_init cX4_init 1 none :: Ts)) B.pre
  have hts : ∀ w ∈ uT, w.before _ s = true := fun w h => hts0 w (List.mem_cons_of_mem _ ((hTs w).mpr h))
  clear hts0
  have hown : s.vm.findClass RX4 = some m.cls := findClass_of_methodNamed B.named
  have hlocks := B.notSynchronized
  have hin : meth.name = "<init>" := (name_of_methodNamed B.named B.method).1
  subst hsz
  have hD := hD0.self (sz := s.heap.size)
  generalize hAe : va_A [(a_t, .inr (4, [.null, .null]))] s.heap.size = A at hD ⊢
  have hA : ∀ q : Nat, s.heap.size ≤ q → A q := fun q h => by rw [← hAe]; exact Or.inr h
  have hH : HOK D A s.heap ((a_t, .inr (4, [.null, .null])) :: []) s.heap [] := ⟨hP, hD, va_S.rf⟩
  have hl := lv_entry ([.ref a_t]) (n := 1) (Nat.le_of_ble_eq_true rfl)
  rw [lg_entry_eq]
  generalize (lg_sl ([.ref a_t]) ++ List.replicate (1 - (lg_sl ([.ref a_t])).length) Slot.unset).toArray = ls at hl ⊢
  have hl : lv_has ls 1 [(0, .ref a_t)] := hl
  generalize hQ : MQ below (postN D k (newX4 k a_t) [(a_t, .inr (4, [.null, .null]))] s.heap.size) (List.toArray [.ref a_t]) s 2 16 A = Q
  clear hP hD hD0
  suffices K : ∀ (H : Heap) (locs : List Loc), HOK D A s.heap ((a_t, .inr (4, [.null, .null])) :: []) H locs → W p l e ({ frames := 1, cells := 2, slots := 16, locals := 12 } : Room) s m (List.toArray [.ref a_t]) below meth c H locs 0 0 Q (F0 m 0 ls []) from K s.heap [] hH
  intro H locs hH
  refine lv_aload_n hx hb dX4_init_0 rfl (lv_at hl 0 rfl) ?_
  refine W.objInit hx hb hown (hts _ u_ml_X4_3) (hts _ u_im_Object__init_) (hts _ u_co_Object_init) rfl (by rw [hml]; exact hl.1) rfl dX4_init_1 (Nat.le_of_ble_eq_true rfl) (Nat.le_of_ble_eq_true rfl) ?_
  refine W.eq (g2 := F0 m 4 ls []) rfl ?_
  refine lv_aload_n hx hb dX4_init_4 rfl (lv_at hl 0 rfl) ?_
  refine lv_bipush (v := 12) hx hb dX4_init_5 (by decide) ?_
  refine gk_newa (atype := .int) (ty := .int) (N' := 12) (a0 := (12, .inl fun _ => 0)) hx hb hts rfl u_ac_int hK hH hA 0 rfl (fun _ => rfl) (by decide) (by decide) (by decide) (Nat.le_of_ble_eq_true rfl) (Nat.le_of_ble_eq_true rfl) dX4_init_7 (fun q7 H hH => ?_)
  have hH : HOK D A s.heap ((a_t, .inr (4, [.null, .null])) :: ([] ++ [(q7, .inl (k 0, 12, .inl fun _ => 0))])) H locs := hH
  refine gk_putF (ci := 4) (C := RX4) (T := TX4) (N := 2) hx hb hts u_ws_X4 tyX4_ok nmX4 hown hK hH 0 rfl rfl 0 (by decide) u_fl_X4_9 rfl hin rfl rfl rfl (Nat.le_of_ble_eq_true rfl) dX4_init_9 ((a_t, .inr (4, [.ref q7, .null])) :: ([] ++ [(q7, .inl (k 0, 12, .inl fun _ => 0))])) rfl (fun H locs hH => ?_)
  refine lv_aload_n hx hb dX4_init_12 rfl (lv_at hl 0 rfl) ?_
  refine lv_iconst (v := 4) hx hb dX4_init_13 (by decide) ?_
  refine gk_newa (atype := .int) (ty := .int) (N' := 4) (a0 := (4, .inl fun _ => 0)) hx hb hts rfl u_ac_int hK hH hA 0 rfl (fun _ => rfl) (by decide) (by decide) (by decide) (Nat.le_of_ble_eq_true rfl) (Nat.le_of_ble_eq_true rfl) dX4_init_14 (fun q14 H hH => ?_)
  have hH : HOK D A s.heap ((a_t, .inr (4, [.ref q7, .null])) :: (([] ++ [(q7, .inl (k 0, 12, .inl fun _ => 0))]) ++ [(q14, .inl (k 0, 4, .inl fun _ => 0))])) H locs := hH
  refine gk_putF (ci := 4) (C := RX4) (T := TX4) (N := 2) hx hb hts u_ws_X4 tyX4_ok nmX4 hown hK hH 0 rfl rfl 1 (by decide) u_fl_X4_15 rfl hin rfl rfl rfl (Nat.le_of_ble_eq_true rfl) dX4_init_16 ((a_t, .inr (4, [.ref q7, .ref q14])) :: (([] ++ [(q7, .inl (k 0, 12, .inl fun _ => 0))]) ++ [(q14, .inl (k 0, 4, .inl fun _ => 0))])) rfl (fun H locs hH => ?_)
  have hH : HOK D A s.heap (newX4 k a_t (fun j => [q7, q14].getD j 0)) H locs := hH
  exact gn_end (fun j => [q7, q14].getD j 0) hx hb hr hlocks hQ hK hH hAe dX4_init_19
def newX1 (k : Nat → ClassId) (h : Nat) (a : Nat → Nat) : va_W := [(h, .inr (1, [.long 0, .long 1]))]
theorem hd_X1_init : yX1_init.cls ≠ "java/lang/invoke/MethodHandle" ∧ yX1_init.cls ≠ "java/lang/invoke/VarHandle" ∧ (parseMethodDescriptor yX1_init.desc).map (fun d => d.parameters.length) = some 0 := by decide +kernel
set_option maxHeartbeats 8000000 in
set_option maxRecDepth 100000 in
theorem mX1_init (l : Launch) (Ts : List Cond) (hTs : ∀ w, w ∈ Ts ↔ w ∈ uT) (D : va_G) (k : Nat → ClassId) (sz : Nat) (a_t : Nat) : Met l yX1_init (Cond.code yX1_init cX1_init 1 none :: Ts) ({ frames := 1, cells := 0, slots := 0, locals := 12 } : Room) (preN D k [.ref a_t] [(a_t, .inr (1, [.long 0, .long 0]))] sz) (postN D k (newX1 k a_t) [(a_t, .inr (1, [.long 0, .long 0]))] sz) 0 0 (va_A [(a_t, .inr (1, [.long 0, .long 0]))] sz) := by
  refine Met.ofW (cc := cX1_init) (maxL := 1) (ret := none) (by decide) rfl ?_
  intro p e s m args below meth c s₁ B hml hv
  obtain ⟨rfl, ⟨hsz, hP, hK, hD0⟩, hC⟩ := hv
  have hx := B.exec
  have hb := B.bytes
  have hr := B.returns
  have hts0 := atoms_spec (ws := (Cond.code yX1_init cX1_init 1 none :: Ts)) B.pre
  have hts : ∀ w ∈ uT, w.before _ s = true := fun w h => hts0 w (List.mem_cons_of_mem _ ((hTs w).mpr h))
  clear hts0
  have hown : s.vm.findClass RX1 = some m.cls := findClass_of_methodNamed B.named
  have hlocks := B.notSynchronized
  have hin : meth.name = "<init>" := (name_of_methodNamed B.named B.method).1
  subst hsz
  have hD := hD0.self (sz := s.heap.size)
  generalize hAe : va_A [(a_t, .inr (1, [.long 0, .long 0]))] s.heap.size = A at hD ⊢
  have hA : ∀ q : Nat, s.heap.size ≤ q → A q := fun q h => by rw [← hAe]; exact Or.inr h
  have hH : HOK D A s.heap ((a_t, .inr (1, [.long 0, .long 0])) :: []) s.heap [] := ⟨hP, hD, va_S.rf⟩
  have hl := lv_entry ([.ref a_t]) (n := 1) (Nat.le_of_ble_eq_true rfl)
  rw [lg_entry_eq]
  generalize (lg_sl ([.ref a_t]) ++ List.replicate (1 - (lg_sl ([.ref a_t])).length) Slot.unset).toArray = ls at hl ⊢
  have hl : lv_has ls 1 [(0, .ref a_t)] := hl
  generalize hQ : MQ below (postN D k (newX1 k a_t) [(a_t, .inr (1, [.long 0, .long 0]))] s.heap.size) (List.toArray [.ref a_t]) s 0 0 A = Q
  clear hP hD hD0
  suffices K : ∀ (H : Heap) (locs : List Loc), HOK D A s.heap ((a_t, .inr (1, [.long 0, .long 0])) :: []) H locs → W p l e ({ frames := 1, cells := 0, slots := 0, locals := 12 } : Room) s m (List.toArray [.ref a_t]) below meth c H locs 0 0 Q (F0 m 0 ls []) from K s.heap [] hH
  intro H locs hH
  refine lv_aload_n hx hb dX1_init_0 rfl (lv_at hl 0 rfl) ?_
  refine W.objInit hx hb hown (hts _ u_ml_X1_1) (hts _ u_im_Object__init_) (hts _ u_co_Object_init) rfl (by rw [hml]; exact hl.1) rfl dX1_init_1 (Nat.le_of_ble_eq_true rfl) (Nat.le_of_ble_eq_true rfl) ?_
  refine W.eq (g2 := F0 m 4 ls []) rfl ?_
  refine lv_aload_n hx hb dX1_init_4 rfl (lv_at hl 0 rfl) ?_
  refine lv_lconst (v := 0) hx hb dX1_init_5 (by decide) ?_
  refine gk_put (ci := 1) (C := RX1) (T := TX1) (N := 2) hx hb hts u_ws_X1 tyX1_ok nmX1 hown hK hH 0 rfl rfl 0 (by decide) u_fl_X1_7 rfl rfl rfl (Nat.le_of_ble_eq_true rfl) dX1_init_6 ((a_t, .inr (1, [.long 0, .long 0])) :: []) rfl (fun H locs hH => ?_)
  refine lv_aload_n hx hb dX1_init_9 rfl (lv_at hl 0 rfl) ?_
  refine lv_lconst (v := 1) hx hb dX1_init_10 (by decide) ?_
  refine gk_put (ci := 1) (C := RX1) (T := TX1) (N := 2) hx hb hts u_ws_X1 tyX1_ok nmX1 hown hK hH 0 rfl rfl 1 (by decide) u_fl_X1_13 rfl rfl rfl (Nat.le_of_ble_eq_true rfl) dX1_init_11 ((a_t, .inr (1, [.long 0, .long 1])) :: []) rfl (fun H locs hH => ?_)
  have hH : HOK D A s.heap (newX1 k a_t (fun j => [].getD j 0)) H locs := hH
  exact gn_end (fun j => [].getD j 0) hx hb hr hlocks hQ hK hH hAe dX1_init_14
def newX3 (k : Nat → ClassId) (h : Nat) (a : Nat → Nat) : va_W := [(h, .inr (3, [.int 0, .int 0]))]
theorem hd_X3_init : yX3_init.cls ≠ "java/lang/invoke/MethodHandle" ∧ yX3_init.cls ≠ "java/lang/invoke/VarHandle" ∧ (parseMethodDescriptor yX3_init.desc).map (fun d => d.parameters.length) = some 0 := by decide +kernel
set_option maxHeartbeats 8000000 in
set_option maxRecDepth 100000 in
theorem mX3_init (l : Launch) (Ts : List Cond) (hTs : ∀ w, w ∈ Ts ↔ w ∈ uT) (D : va_G) (k : Nat → ClassId) (sz : Nat) (a_t : Nat) : Met l yX3_init (Cond.code yX3_init cX3_init 1 none :: Ts) ({ frames := 1, cells := 0, slots := 0, locals := 12 } : Room) (preN D k [.ref a_t] [(a_t, .inr (3, [.int 0, .int 0]))] sz) (postN D k (newX3 k a_t) [(a_t, .inr (3, [.int 0, .int 0]))] sz) 0 0 (va_A [(a_t, .inr (3, [.int 0, .int 0]))] sz) := by
  refine Met.ofW (cc := cX3_init) (maxL := 1) (ret := none) (by decide) rfl ?_
  intro p e s m args below meth c s₁ B hml hv
  obtain ⟨rfl, ⟨hsz, hP, hK, hD0⟩, hC⟩ := hv
  have hx := B.exec
  have hb := B.bytes
  have hr := B.returns
  have hts0 := atoms_spec (ws := (Cond.code yX3_init cX3_init 1 none :: Ts)) B.pre
  have hts : ∀ w ∈ uT, w.before _ s = true := fun w h => hts0 w (List.mem_cons_of_mem _ ((hTs w).mpr h))
  clear hts0
  have hown : s.vm.findClass RX3 = some m.cls := findClass_of_methodNamed B.named
  have hlocks := B.notSynchronized
  have hin : meth.name = "<init>" := (name_of_methodNamed B.named B.method).1
  subst hsz
  have hD := hD0.self (sz := s.heap.size)
  generalize hAe : va_A [(a_t, .inr (3, [.int 0, .int 0]))] s.heap.size = A at hD ⊢
  have hA : ∀ q : Nat, s.heap.size ≤ q → A q := fun q h => by rw [← hAe]; exact Or.inr h
  have hH : HOK D A s.heap ((a_t, .inr (3, [.int 0, .int 0])) :: []) s.heap [] := ⟨hP, hD, va_S.rf⟩
  have hl := lv_entry ([.ref a_t]) (n := 1) (Nat.le_of_ble_eq_true rfl)
  rw [lg_entry_eq]
  generalize (lg_sl ([.ref a_t]) ++ List.replicate (1 - (lg_sl ([.ref a_t])).length) Slot.unset).toArray = ls at hl ⊢
  have hl : lv_has ls 1 [(0, .ref a_t)] := hl
  generalize hQ : MQ below (postN D k (newX3 k a_t) [(a_t, .inr (3, [.int 0, .int 0]))] s.heap.size) (List.toArray [.ref a_t]) s 0 0 A = Q
  clear hP hD hD0
  suffices K : ∀ (H : Heap) (locs : List Loc), HOK D A s.heap ((a_t, .inr (3, [.int 0, .int 0])) :: []) H locs → W p l e ({ frames := 1, cells := 0, slots := 0, locals := 12 } : Room) s m (List.toArray [.ref a_t]) below meth c H locs 0 0 Q (F0 m 0 ls []) from K s.heap [] hH
  intro H locs hH
  refine lv_aload_n hx hb dX3_init_0 rfl (lv_at hl 0 rfl) ?_
  refine W.objInit hx hb hown (hts _ u_ml_X3_3) (hts _ u_im_Object__init_) (hts _ u_co_Object_init) rfl (by rw [hml]; exact hl.1) rfl dX3_init_1 (Nat.le_of_ble_eq_true rfl) (Nat.le_of_ble_eq_true rfl) ?_
  refine W.eq (g2 := F0 m 4 ls []) rfl ?_
  refine lv_aload_n hx hb dX3_init_4 rfl (lv_at hl 0 rfl) ?_
  refine lv_iconst (v := 0) hx hb dX3_init_5 (by decide) ?_
  refine gk_put (ci := 3) (C := RX3) (T := TX3) (N := 2) hx hb hts u_ws_X3 tyX3_ok nmX3 hown hK hH 0 rfl rfl 0 (by decide) u_fl_X3_9 rfl rfl rfl (Nat.le_of_ble_eq_true rfl) dX3_init_6 ((a_t, .inr (3, [.int 0, .int 0])) :: []) rfl (fun H locs hH => ?_)
  refine lv_aload_n hx hb dX3_init_9 rfl (lv_at hl 0 rfl) ?_
  refine lv_iconst (v := 0) hx hb dX3_init_10 (by decide) ?_
  refine gk_put (ci := 3) (C := RX3) (T := TX3) (N := 2) hx hb hts u_ws_X3 tyX3_ok nmX3 hown hK hH 0 rfl rfl 1 (by decide) u_fl_X3_15 rfl rfl rfl (Nat.le_of_ble_eq_true rfl) dX3_init_11 ((a_t, .inr (3, [.int 0, .int 0])) :: []) rfl (fun H locs hH => ?_)
  have hH : HOK D A s.heap (newX3 k a_t (fun j => [].getD j 0)) H locs := hH
  exact gn_end (fun j => [].getD j 0) hx hb hr hlocks hQ hK hH hAe dX3_init_14
def newX8 (k : Nat → ClassId) (h : Nat) (a : Nat → Nat) : va_W := [(h, .inr (7, [.ref (a 0), .int 0, .int 0, .int 0, .int 0, .int 0, .int 0, .int 0, .int 0])), ((a 0), .inl (k 1, 0, .inl fun _ => 0))]
theorem hd_X8_init : yX8_init.cls ≠ "java/lang/invoke/MethodHandle" ∧ yX8_init.cls ≠ "java/lang/invoke/VarHandle" ∧ (parseMethodDescriptor yX8_init.desc).map (fun d => d.parameters.length) = some 0 := by decide +kernel
set_option maxHeartbeats 8000000 in
set_option maxRecDepth 100000 in
theorem mX8_init (l : Launch) (Ts : List Cond) (hTs : ∀ w, w ∈ Ts ↔ w ∈ uT) (D : va_G) (k : Nat → ClassId) (sz : Nat) (a_t : Nat) : Met l yX8_init (Cond.code yX8_init cX8_init 1 none :: Ts) ({ frames := 1, cells := 1, slots := 0, locals := 12 } : Room) (preN D k [.ref a_t] [(a_t, .inr (7, [.null, .int 0, .int 0, .int 0, .int 0, .int 0, .int 0, .int 0, .int 0]))] sz) (postN D k (newX8 k a_t) [(a_t, .inr (7, [.null, .int 0, .int 0, .int 0, .int 0, .int 0, .int 0, .int 0, .int 0]))] sz) 1 0 (va_A [(a_t, .inr (7, [.null, .int 0, .int 0, .int 0, .int 0, .int 0, .int 0, .int 0, .int 0]))] sz) := by
  refine Met.ofW (cc := cX8_init) (maxL := 1) (ret := none) (by decide) rfl ?_
  intro p e s m args below meth c s₁ B hml hv
  obtain ⟨rfl, ⟨hsz, hP, hK, hD0⟩, hC⟩ := hv
  have hx := B.exec
  have hb := B.bytes
  have hr := B.returns
  have hts0 := atoms_spec (ws := (Cond.code yX8_init cX8_init 1 none :: Ts)) B.pre
  have hts : ∀ w ∈ uT, w.before _ s = true := fun w h => hts0 w (List.mem_cons_of_mem _ ((hTs w).mpr h))
  clear hts0
  have hown : s.vm.findClass RX8 = some m.cls := findClass_of_methodNamed B.named
  have hlocks := B.notSynchronized
  have hin : meth.name = "<init>" := (name_of_methodNamed B.named B.method).1
  subst hsz
  have hD := hD0.self (sz := s.heap.size)
  generalize hAe : va_A [(a_t, .inr (7, [.null, .int 0, .int 0, .int 0, .int 0, .int 0, .int 0, .int 0, .int 0]))] s.heap.size = A at hD ⊢
  have hA : ∀ q : Nat, s.heap.size ≤ q → A q := fun q h => by rw [← hAe]; exact Or.inr h
  have hH : HOK D A s.heap ((a_t, .inr (7, [.null, .int 0, .int 0, .int 0, .int 0, .int 0, .int 0, .int 0, .int 0])) :: []) s.heap [] := ⟨hP, hD, va_S.rf⟩
  have hl := lv_entry ([.ref a_t]) (n := 1) (Nat.le_of_ble_eq_true rfl)
  rw [lg_entry_eq]
  generalize (lg_sl ([.ref a_t]) ++ List.replicate (1 - (lg_sl ([.ref a_t])).length) Slot.unset).toArray = ls at hl ⊢
  have hl : lv_has ls 1 [(0, .ref a_t)] := hl
  generalize hQ : MQ below (postN D k (newX8 k a_t) [(a_t, .inr (7, [.null, .int 0, .int 0, .int 0, .int 0, .int 0, .int 0, .int 0, .int 0]))] s.heap.size) (List.toArray [.ref a_t]) s 1 0 A = Q
  clear hP hD hD0
  suffices K : ∀ (H : Heap) (locs : List Loc), HOK D A s.heap ((a_t, .inr (7, [.null, .int 0, .int 0, .int 0, .int 0, .int 0, .int 0, .int 0, .int 0])) :: []) H locs → W p l e ({ frames := 1, cells := 1, slots := 0, locals := 12 } : Room) s m (List.toArray [.ref a_t]) below meth c H locs 0 0 Q (F0 m 0 ls []) from K s.heap [] hH
  intro H locs hH
  refine lv_aload_n hx hb dX8_init_0 rfl (lv_at hl 0 rfl) ?_
  refine W.objInit hx hb hown (hts _ u_ml_X8_3) (hts _ u_im_Object__init_) (hts _ u_co_Object_init) rfl (by rw [hml]; exact hl.1) rfl dX8_init_1 (Nat.le_of_ble_eq_true rfl) (Nat.le_of_ble_eq_true rfl) ?_
  refine W.eq (g2 := F0 m 4 ls []) rfl ?_
  refine lv_aload_n hx hb dX8_init_4 rfl (lv_at hl 0 rfl) ?_
  refine lv_iconst (v := 0) hx hb dX8_init_5 (by decide) ?_
  refine gk_newa (atype := .char) (ty := .char) (N' := 0) (a0 := (0, .inl fun _ => 0)) hx hb hts rfl u_ac_char hK hH hA 1 rfl (fun _ => rfl) (by decide) (by decide) (by decide) (Nat.le_of_ble_eq_true rfl) (Nat.le_of_ble_eq_true rfl) dX8_init_6 (fun q6 H hH => ?_)
  have hH : HOK D A s.heap ((a_t, .inr (7, [.null, .int 0, .int 0, .int 0, .int 0, .int 0, .int 0, .int 0, .int 0])) :: ([] ++ [(q6, .inl (k 1, 0, .inl fun _ => 0))])) H locs := hH
  refine gk_put (ci := 7) (C := RX8) (T := TX8) (N := 9) hx hb hts u_ws_X8 tyX8_ok nmX8 hown hK hH 0 rfl rfl 0 (by decide) u_fl_X8_9 rfl rfl rfl (Nat.le_of_ble_eq_true rfl) dX8_init_8 ((a_t, .inr (7, [.ref q6, .int 0, .int 0, .int 0, .int 0, .int 0, .int 0, .int 0, .int 0])) :: ([] ++ [(q6, .inl (k 1, 0, .inl fun _ => 0))])) rfl (fun H locs hH => ?_)
  refine lv_aload_n hx hb dX8_init_11 rfl (lv_at hl 0 rfl) ?_
  refine lv_iconst (v := 0) hx hb dX8_init_12 (by decide) ?_
  refine gk_put (ci := 7) (C := RX8) (T := TX8) (N := 9) hx hb hts u_ws_X8 tyX8_ok nmX8 hown hK hH 0 rfl rfl 1 (by decide) u_fl_X8_15 rfl rfl rfl (Nat.le_of_ble_eq_true rfl) dX8_init_13 ((a_t, .inr (7, [.ref q6, .int 0, .int 0, .int 0, .int 0, .int 0, .int 0, .int 0, .int 0])) :: ([] ++ [(q6, .inl (k 1, 0, .inl fun _ => 0))])) rfl (fun H locs hH => ?_)
  refine lv_aload_n hx hb dX8_init_16 rfl (lv_at hl 0 rfl) ?_
  refine lv_iconst (v := 0) hx hb dX8_init_17 (by decide) ?_
  refine gk_put (ci := 7) (C := RX8) (T := TX8) (N := 9) hx hb hts u_ws_X8 tyX8_ok nmX8 hown hK hH 0 rfl rfl 2 (by decide) u_fl_X8_19 rfl rfl rfl (Nat.le_of_ble_eq_true rfl) dX8_init_18 ((a_t, .inr (7, [.ref q6, .int 0, .int 0, .int 0, .int 0, .int 0, .int 0, .int 0, .int 0])) :: ([] ++ [(q6, .inl (k 1, 0, .inl fun _ => 0))])) rfl (fun H locs hH => ?_)
  refine lv_aload_n hx hb dX8_init_21 rfl (lv_at hl 0 rfl) ?_
  refine lv_iconst (v := 0) hx hb dX8_init_22 (by decide) ?_
  refine gk_put (ci := 7) (C := RX8) (T := TX8) (N := 9) hx hb hts u_ws_X8 tyX8_ok nmX8 hown hK hH 0 rfl rfl 3 (by decide) u_fl_X8_22 rfl rfl rfl (Nat.le_of_ble_eq_true rfl) dX8_init_23 ((a_t, .inr (7, [.ref q6, .int 0, .int 0, .int 0, .int 0, .int 0, .int 0, .int 0, .int 0])) :: ([] ++ [(q6, .inl (k 1, 0, .inl fun _ => 0))])) rfl (fun H locs hH => ?_)
  refine lv_aload_n hx hb dX8_init_26 rfl (lv_at hl 0 rfl) ?_
  refine lv_iconst (v := 0) hx hb dX8_init_27 (by decide) ?_
  refine gk_put (ci := 7) (C := RX8) (T := TX8) (N := 9) hx hb hts u_ws_X8 tyX8_ok nmX8 hown hK hH 0 rfl rfl 4 (by decide) u_fl_X8_25 rfl rfl rfl (Nat.le_of_ble_eq_true rfl) dX8_init_28 ((a_t, .inr (7, [.ref q6, .int 0, .int 0, .int 0, .int 0, .int 0, .int 0, .int 0, .int 0])) :: ([] ++ [(q6, .inl (k 1, 0, .inl fun _ => 0))])) rfl (fun H locs hH => ?_)
  refine lv_aload_n hx hb dX8_init_31 rfl (lv_at hl 0 rfl) ?_
  refine lv_iconst (v := 0) hx hb dX8_init_32 (by decide) ?_
  refine gk_put (ci := 7) (C := RX8) (T := TX8) (N := 9) hx hb hts u_ws_X8 tyX8_ok nmX8 hown hK hH 0 rfl rfl 5 (by decide) u_fl_X8_28 rfl rfl rfl (Nat.le_of_ble_eq_true rfl) dX8_init_33 ((a_t, .inr (7, [.ref q6, .int 0, .int 0, .int 0, .int 0, .int 0, .int 0, .int 0, .int 0])) :: ([] ++ [(q6, .inl (k 1, 0, .inl fun _ => 0))])) rfl (fun H locs hH => ?_)
  refine lv_aload_n hx hb dX8_init_36 rfl (lv_at hl 0 rfl) ?_
  refine lv_iconst (v := 0) hx hb dX8_init_37 (by decide) ?_
  refine gk_put (ci := 7) (C := RX8) (T := TX8) (N := 9) hx hb hts u_ws_X8 tyX8_ok nmX8 hown hK hH 0 rfl rfl 6 (by decide) u_fl_X8_31 rfl rfl rfl (Nat.le_of_ble_eq_true rfl) dX8_init_38 ((a_t, .inr (7, [.ref q6, .int 0, .int 0, .int 0, .int 0, .int 0, .int 0, .int 0, .int 0])) :: ([] ++ [(q6, .inl (k 1, 0, .inl fun _ => 0))])) rfl (fun H locs hH => ?_)
  refine lv_aload_n hx hb dX8_init_41 rfl (lv_at hl 0 rfl) ?_
  refine lv_iconst (v := 0) hx hb dX8_init_42 (by decide) ?_
  refine gk_put (ci := 7) (C := RX8) (T := TX8) (N := 9) hx hb hts u_ws_X8 tyX8_ok nmX8 hown hK hH 0 rfl rfl 7 (by decide) u_fl_X8_34 rfl rfl rfl (Nat.le_of_ble_eq_true rfl) dX8_init_43 ((a_t, .inr (7, [.ref q6, .int 0, .int 0, .int 0, .int 0, .int 0, .int 0, .int 0, .int 0])) :: ([] ++ [(q6, .inl (k 1, 0, .inl fun _ => 0))])) rfl (fun H locs hH => ?_)
  refine lv_aload_n hx hb dX8_init_46 rfl (lv_at hl 0 rfl) ?_
  refine lv_iconst (v := 0) hx hb dX8_init_47 (by decide) ?_
  refine gk_put (ci := 7) (C := RX8) (T := TX8) (N := 9) hx hb hts u_ws_X8 tyX8_ok nmX8 hown hK hH 0 rfl rfl 8 (by decide) u_fl_X8_37 rfl rfl rfl (Nat.le_of_ble_eq_true rfl) dX8_init_48 ((a_t, .inr (7, [.ref q6, .int 0, .int 0, .int 0, .int 0, .int 0, .int 0, .int 0, .int 0])) :: ([] ++ [(q6, .inl (k 1, 0, .inl fun _ => 0))])) rfl (fun H locs hH => ?_)
  have hH : HOK D A s.heap (newX8 k a_t (fun j => [q6].getD j 0)) H locs := hH
  exact gn_end (fun j => [q6].getD j 0) hx hb hr hlocks hQ hK hH hAe dX8_init_51
def newX7 (k : Nat → ClassId) (h : Nat) (a : Nat → Nat) : va_W := [(h, .inr (6, [.ref (a 0), .int 0, .int (-1), .ref (a 3), .ref (a 6), .ref (a 7)])), ((a 0), .inr (4, [.ref (a 1), .ref (a 2)])), ((a 1), .inl (k 0, 12, .inl fun _ => 0)), ((a 2), .inl (k 0, 4, .inl fun _ => 0)), ((a 3), .inr (4, [.ref (a 4), .ref (a 5)])), ((a 4), .inl (k 0, 12, .inl fun _ => 0)), ((a 5), .inl (k 0, 4, .inl fun _ => 0)), ((a 6), .inr (1, [.long 0, .long 1])), ((a 7), .inr (1, [.long 0, .long 1]))]
theorem hd_X7_init : yX7_init.cls ≠ "java/lang/invoke/MethodHandle" ∧ yX7_init.cls ≠ "java/lang/invoke/VarHandle" ∧ (parseMethodDescriptor yX7_init.desc).map (fun d => d.parameters.length) = some 0 := by decide +kernel
set_option maxHeartbeats 8000000 in
set_option maxRecDepth 100000 in
theorem mX7_init (l : Launch) (Ts : List Cond) (hTs : ∀ w, w ∈ Ts ↔ w ∈ uT) (D : va_G) (k : Nat → ClassId) (sz : Nat) (a_t : Nat) : Met l yX7_init (Cond.code yX7_init cX7_init 1 none :: Ts) ({ frames := 2, cells := 8, slots := 40, locals := 32 } : Room) (preN D k [.ref a_t] [(a_t, .inr (6, [.null, .int 0, .int 0, .null, .null, .null]))] sz) (postN D k (newX7 k a_t) [(a_t, .inr (6, [.null, .int 0, .int 0, .null, .null, .null]))] sz) 8 40 (va_A [(a_t, .inr (6, [.null, .int 0, .int 0, .null, .null, .null]))] sz) := by
  refine Met.ofW (cc := cX7_init) (maxL := 1) (ret := none) (by decide) rfl ?_
  intro p e s m args below meth c s₁ B hml hv
  obtain ⟨rfl, ⟨hsz, hP, hK, hD0⟩, hC⟩ := hv
  have hx := B.exec
  have hb := B.bytes
  have hr := B.returns
  have hts0 := atoms_spec (ws := (Cond.code yX7_init cX7_init 1 none :: Ts)) B.pre
  have hts : ∀ w ∈ uT, w.before _ s = true := fun w h => hts0 w (List.mem_cons_of_mem _ ((hTs w).mpr h))
  clear hts0
  have hown : s.vm.findClass RX7 = some m.cls := findClass_of_methodNamed B.named
  have hlocks := B.notSynchronized
  have hin : meth.name = "<init>" := (name_of_methodNamed B.named B.method).1
  subst hsz
  have hD := hD0.self (sz := s.heap.size)
  generalize hAe : va_A [(a_t, .inr (6, [.null, .int 0, .int 0, .null, .null, .null]))] s.heap.size = A at hD ⊢
  have hA : ∀ q : Nat, s.heap.size ≤ q → A q := fun q h => by rw [← hAe]; exact Or.inr h
  have hH : HOK D A s.heap ((a_t, .inr (6, [.null, .int 0, .int 0, .null, .null, .null])) :: []) s.heap [] := ⟨hP, hD, va_S.rf⟩
  have hl := lv_entry ([.ref a_t]) (n := 1) (Nat.le_of_ble_eq_true rfl)
  rw [lg_entry_eq]
  generalize (lg_sl ([.ref a_t]) ++ List.replicate (1 - (lg_sl ([.ref a_t])).length) Slot.unset).toArray = ls at hl ⊢
  have hl : lv_has ls 1 [(0, .ref a_t)] := hl
  generalize hQ : MQ below (postN D k (newX7 k a_t) [(a_t, .inr (6, [.null, .int 0, .int 0, .null, .null, .null]))] s.heap.size) (List.toArray [.ref a_t]) s 8 40 A = Q
  clear hP hD hD0
  suffices K : ∀ (H : Heap) (locs : List Loc), HOK D A s.heap ((a_t, .inr (6, [.null, .int 0, .int 0, .null, .null, .null])) :: []) H locs → W p l e ({ frames := 2, cells := 8, slots := 40, locals := 32 } : Room) s m (List.toArray [.ref a_t]) below meth c H locs 0 0 Q (F0 m 0 ls []) from K s.heap [] hH
  intro H locs hH
  refine lv_aload_n hx hb dX7_init_0 rfl (lv_at hl 0 rfl) ?_
  refine W.objInit hx hb hown (hts _ u_ml_X7_3) (hts _ u_im_Object__init_) (hts _ u_co_Object_init) rfl (by rw [hml]; exact hl.1) rfl dX7_init_1 (Nat.le_of_ble_eq_true rfl) (Nat.le_of_ble_eq_true rfl) ?_
  refine W.eq (g2 := F0 m 4 ls []) rfl ?_
  refine lv_aload_n hx hb dX7_init_4 rfl (lv_at hl 0 rfl) ?_
  refine gk_new (ci := 4) (fs := [.null, .null]) (C := RX4) (T := TX4) (N := 2) hx hb hts u_ws_X4 tyX4_ok hown u_cl_X7_9 u_is_X4 u_in_X4 hK hH hA rfl (fun j hj => by rcases (show j = 0 ∨ j = 1 by omega) with rfl | rfl <;> rfl) (Nat.le_of_ble_eq_true rfl) (Nat.le_of_ble_eq_true rfl) dX7_init_5 (fun q5_4 H hH => ?_)
  have hH : HOK D A s.heap (((a_t, .inr (6, [.null, .int 0, .int 0, .null, .null, .null])) :: []) ++ [(q5_4, .inr (4, [.null, .null]))]) H locs := hH
  refine lv_dup hx hb dX7_init_8 rfl ?_
  refine gn_IN (host := "DistrictPlanner") (pre := ((a_t, .inr (6, [.null, .int 0, .int 0, .null, .null, .null])) :: [])) (new := newX4 k q5_4) hTs ⟨hx, hb, hml, hown, hts⟩ (mX4_init l Ts hTs D k H.size q5_4) (by decide +kernel) u_im_X4_init u_in_X4 u_co_X4_init rfl hd_X4_init ⟨Nat.le_of_ble_eq_true rfl, Nat.le_of_ble_eq_true rfl⟩ ⟨rfl, rfl⟩ hK hC hH hA hl.1 (Nat.le_of_ble_eq_true rfl) dX7_init_9 ⟨Nat.le_of_ble_eq_true rfl, Nat.le_of_ble_eq_true rfl⟩ (fun b9_6 H locs hH => ?_)
  have hH : HOK D A s.heap ((a_t, .inr (6, [.null, .int 0, .int 0, .null, .null, .null])) :: ([] ++ newX4 k q5_4 b9_6)) H locs := hH
  refine gk_putF (ci := 6) (C := RX7) (T := TX7) (N := 6) hx hb hts u_ws_X7 tyX7_ok nmX7 hown hK hH 0 rfl rfl 0 (by decide) u_fl_X7_12 rfl hin rfl rfl rfl (Nat.le_of_ble_eq_true rfl) dX7_init_12 ((a_t, .inr (6, [.ref q5_4, .int 0, .int 0, .null, .null, .null])) :: ([] ++ newX4 k q5_4 b9_6)) rfl (fun H locs hH => ?_)
  refine lv_aload_n hx hb dX7_init_15 rfl (lv_at hl 0 rfl) ?_
  refine lv_iconst (v := 0) hx hb dX7_init_16 (by decide) ?_
  refine gk_put (ci := 6) (C := RX7) (T := TX7) (N := 6) hx hb hts u_ws_X7 tyX7_ok nmX7 hown hK hH 0 rfl rfl 1 (by decide) u_fl_X7_18 rfl rfl rfl (Nat.le_of_ble_eq_true rfl) dX7_init_17 ((a_t, .inr (6, [.ref q5_4, .int 0, .int 0, .null, .null, .null])) :: ([] ++ newX4 k q5_4 b9_6)) rfl (fun H locs hH => ?_)
  refine lv_aload_n hx hb dX7_init_20 rfl (lv_at hl 0 rfl) ?_
  refine lv_iconst (v := (-1)) hx hb dX7_init_21 (by decide) ?_
  refine gk_put (ci := 6) (C := RX7) (T := TX7) (N := 6) hx hb hts u_ws_X7 tyX7_ok nmX7 hown hK hH 0 rfl rfl 2 (by decide) u_fl_X7_22 rfl rfl rfl (Nat.le_of_ble_eq_true rfl) dX7_init_22 ((a_t, .inr (6, [.ref q5_4, .int 0, .int (-1), .null, .null, .null])) :: ([] ++ newX4 k q5_4 b9_6)) rfl (fun H locs hH => ?_)
  refine lv_aload_n hx hb dX7_init_25 rfl (lv_at hl 0 rfl) ?_
  refine gk_new (ci := 4) (fs := [.null, .null]) (C := RX4) (T := TX4) (N := 2) hx hb hts u_ws_X4 tyX4_ok hown u_cl_X7_9 u_is_X4 u_in_X4 hK hH hA rfl (fun j hj => by rcases (show j = 0 ∨ j = 1 by omega) with rfl | rfl <;> rfl) (Nat.le_of_ble_eq_true rfl) (Nat.le_of_ble_eq_true rfl) dX7_init_26 (fun q26_15 H hH => ?_)
  have hH : HOK D A s.heap (((a_t, .inr (6, [.ref q5_4, .int 0, .int (-1), .null, .null, .null])) :: ([] ++ newX4 k q5_4 b9_6)) ++ [(q26_15, .inr (4, [.null, .null]))]) H locs := hH
  refine lv_dup hx hb dX7_init_29 rfl ?_
  refine gn_IN (host := "DistrictPlanner") (pre := ((a_t, .inr (6, [.ref q5_4, .int 0, .int (-1), .null, .null, .null])) :: ([] ++ newX4 k q5_4 b9_6))) (new := newX4 k q26_15) hTs ⟨hx, hb, hml, hown, hts⟩ (mX4_init l Ts hTs D k H.size q26_15) (by decide +kernel) u_im_X4_init u_in_X4 u_co_X4_init rfl hd_X4_init ⟨Nat.le_of_ble_eq_true rfl, Nat.le_of_ble_eq_true rfl⟩ ⟨rfl, rfl⟩ hK hC hH hA hl.1 (Nat.le_of_ble_eq_true rfl) dX7_init_30 ⟨Nat.le_of_ble_eq_true rfl, Nat.le_of_ble_eq_true rfl⟩ (fun b30_17 H locs hH => ?_)
  have hH : HOK D A s.heap ((a_t, .inr (6, [.ref q5_4, .int 0, .int (-1), .null, .null, .null])) :: (([] ++ newX4 k q5_4 b9_6) ++ newX4 k q26_15 b30_17)) H locs := hH
  refine gk_putF (ci := 6) (C := RX7) (T := TX7) (N := 6) hx hb hts u_ws_X7 tyX7_ok nmX7 hown hK hH 0 rfl rfl 3 (by decide) u_fl_X7_26 rfl hin rfl rfl rfl (Nat.le_of_ble_eq_true rfl) dX7_init_33 ((a_t, .inr (6, [.ref q5_4, .int 0, .int (-1), .ref q26_15, .null, .null])) :: (([] ++ newX4 k q5_4 b9_6) ++ newX4 k q26_15 b30_17)) rfl (fun H locs hH => ?_)
  refine lv_aload_n hx hb dX7_init_36 rfl (lv_at hl 0 rfl) ?_
  refine gk_new (ci := 1) (fs := [.long 0, .long 0]) (C := RX1) (T := TX1) (N := 2) hx hb hts u_ws_X1 tyX1_ok hown u_cl_X7_29 u_is_X1 u_in_X1 hK hH hA rfl (fun j hj => by rcases (show j = 0 ∨ j = 1 by omega) with rfl | rfl <;> rfl) (Nat.le_of_ble_eq_true rfl) (Nat.le_of_ble_eq_true rfl) dX7_init_37 (fun q37_20 H hH => ?_)
  have hH : HOK D A s.heap (((a_t, .inr (6, [.ref q5_4, .int 0, .int (-1), .ref q26_15, .null, .null])) :: (([] ++ newX4 k q5_4 b9_6) ++ newX4 k q26_15 b30_17)) ++ [(q37_20, .inr (1, [.long 0, .long 0]))]) H locs := hH
  refine lv_dup hx hb dX7_init_40 rfl ?_
  refine gn_IN (host := "DistrictPlanner") (pre := ((a_t, .inr (6, [.ref q5_4, .int 0, .int (-1), .ref q26_15, .null, .null])) :: (([] ++ newX4 k q5_4 b9_6) ++ newX4 k q26_15 b30_17))) (new := newX1 k q37_20) hTs ⟨hx, hb, hml, hown, hts⟩ (mX1_init l Ts hTs D k H.size q37_20) (by decide +kernel) u_im_X1_init u_in_X1 u_co_X1_init rfl hd_X1_init ⟨Nat.le_of_ble_eq_true rfl, Nat.le_of_ble_eq_true rfl⟩ ⟨rfl, rfl⟩ hK hC hH hA hl.1 (Nat.le_of_ble_eq_true rfl) dX7_init_41 ⟨Nat.le_of_ble_eq_true rfl, Nat.le_of_ble_eq_true rfl⟩ (fun b41_22 H locs hH => ?_)
  have hH : HOK D A s.heap ((a_t, .inr (6, [.ref q5_4, .int 0, .int (-1), .ref q26_15, .null, .null])) :: ((([] ++ newX4 k q5_4 b9_6) ++ newX4 k q26_15 b30_17) ++ newX1 k q37_20 b41_22)) H locs := hH
  refine gk_putF (ci := 6) (C := RX7) (T := TX7) (N := 6) hx hb hts u_ws_X7 tyX7_ok nmX7 hown hK hH 0 rfl rfl 4 (by decide) u_fl_X7_32 rfl hin rfl rfl rfl (Nat.le_of_ble_eq_true rfl) dX7_init_44 ((a_t, .inr (6, [.ref q5_4, .int 0, .int (-1), .ref q26_15, .ref q37_20, .null])) :: ((([] ++ newX4 k q5_4 b9_6) ++ newX4 k q26_15 b30_17) ++ newX1 k q37_20 b41_22)) rfl (fun H locs hH => ?_)
  refine lv_aload_n hx hb dX7_init_47 rfl (lv_at hl 0 rfl) ?_
  refine gk_new (ci := 1) (fs := [.long 0, .long 0]) (C := RX1) (T := TX1) (N := 2) hx hb hts u_ws_X1 tyX1_ok hown u_cl_X7_29 u_is_X1 u_in_X1 hK hH hA rfl (fun j hj => by rcases (show j = 0 ∨ j = 1 by omega) with rfl | rfl <;> rfl) (Nat.le_of_ble_eq_true rfl) (Nat.le_of_ble_eq_true rfl) dX7_init_48 (fun q48_25 H hH => ?_)
  have hH : HOK D A s.heap (((a_t, .inr (6, [.ref q5_4, .int 0, .int (-1), .ref q26_15, .ref q37_20, .null])) :: ((([] ++ newX4 k q5_4 b9_6) ++ newX4 k q26_15 b30_17) ++ newX1 k q37_20 b41_22)) ++ [(q48_25, .inr (1, [.long 0, .long 0]))]) H locs := hH
  refine lv_dup hx hb dX7_init_51 rfl ?_
  refine gn_IN (host := "DistrictPlanner") (pre := ((a_t, .inr (6, [.ref q5_4, .int 0, .int (-1), .ref q26_15, .ref q37_20, .null])) :: ((([] ++ newX4 k q5_4 b9_6) ++ newX4 k q26_15 b30_17) ++ newX1 k q37_20 b41_22))) (new := newX1 k q48_25) hTs ⟨hx, hb, hml, hown, hts⟩ (mX1_init l Ts hTs D k H.size q48_25) (by decide +kernel) u_im_X1_init u_in_X1 u_co_X1_init rfl hd_X1_init ⟨Nat.le_of_ble_eq_true rfl, Nat.le_of_ble_eq_true rfl⟩ ⟨rfl, rfl⟩ hK hC hH hA hl.1 (Nat.le_of_ble_eq_true rfl) dX7_init_52 ⟨Nat.le_of_ble_eq_true rfl, Nat.le_of_ble_eq_true rfl⟩ (fun b52_27 H locs hH => ?_)
  have hH : HOK D A s.heap ((a_t, .inr (6, [.ref q5_4, .int 0, .int (-1), .ref q26_15, .ref q37_20, .null])) :: (((([] ++ newX4 k q5_4 b9_6) ++ newX4 k q26_15 b30_17) ++ newX1 k q37_20 b41_22) ++ newX1 k q48_25 b52_27)) H locs := hH
  refine gk_putF (ci := 6) (C := RX7) (T := TX7) (N := 6) hx hb hts u_ws_X7 tyX7_ok nmX7 hown hK hH 0 rfl rfl 5 (by decide) u_fl_X7_36 rfl hin rfl rfl rfl (Nat.le_of_ble_eq_true rfl) dX7_init_55 ((a_t, .inr (6, [.ref q5_4, .int 0, .int (-1), .ref q26_15, .ref q37_20, .ref q48_25])) :: (((([] ++ newX4 k q5_4 b9_6) ++ newX4 k q26_15 b30_17) ++ newX1 k q37_20 b41_22) ++ newX1 k q48_25 b52_27)) rfl (fun H locs hH => ?_)
  have hH : HOK D A s.heap (newX7 k a_t (fun j => [q5_4, (b9_6 0), (b9_6 1), q26_15, (b30_17 0), (b30_17 1), q37_20, q48_25].getD j 0)) H locs := hH
  exact gn_end (fun j => [q5_4, (b9_6 0), (b9_6 1), q26_15, (b30_17 0), (b30_17 1), q37_20, q48_25].getD j 0) hx hb hr hlocks hQ hK hH hAe dX7_init_58
def newX5 (k : Nat → ClassId) (h : Nat) (a : Nat → Nat) : va_W := [(h, .inr (5, [.ref (a 0), .ref (a 1), .int 0, .int 0])), ((a 0), .inl (k 0, 4, .inl fun _ => 0)), ((a 1), .inl (k 3, 4, .inr (.inr (.inl fun _ => 0))))]
theorem hd_X5_init : yX5_init.cls ≠ "java/lang/invoke/MethodHandle" ∧ yX5_init.cls ≠ "java/lang/invoke/VarHandle" ∧ (parseMethodDescriptor yX5_init.desc).map (fun d => d.parameters.length) = some 0 := by decide +kernel
set_option maxHeartbeats 8000000 in
set_option maxRecDepth 100000 in
theorem mX5_init (l : Launch) (Ts : List Cond) (hTs : ∀ w, w ∈ Ts ↔ w ∈ uT) (D : va_G) (k : Nat → ClassId) (sz : Nat) (a_t : Nat) : Met l yX5_init (Cond.code yX5_init cX5_init 1 none :: Ts) ({ frames := 1, cells := 2, slots := 8, locals := 12 } : Room) (preN D k [.ref a_t] [(a_t, .inr (5, [.null, .null, .int 0, .int 0]))] sz) (postN D k (newX5 k a_t) [(a_t, .inr (5, [.null, .null, .int 0, .int 0]))] sz) 2 8 (va_A [(a_t, .inr (5, [.null, .null, .int 0, .int 0]))] sz) := by
  refine Met.ofW (cc := cX5_init) (maxL := 1) (ret := none) (by decide) rfl ?_
  intro p e s m args below meth c s₁ B hml hv
  obtain ⟨rfl, ⟨hsz, hP, hK, hD0⟩, hC⟩ := hv
  have hx := B.exec
  have hb := B.bytes
  have hr := B.returns
  have hts0 := atoms_spec (ws := (Cond.code yX5_init cX5_init 1 none :: Ts)) B.pre
  have hts : ∀ w ∈ uT, w.before _ s = true := fun w h => hts0 w (List.mem_cons_of_mem _ ((hTs w).mpr h))
  clear hts0
  have hown : s.vm.findClass RX5 = some m.cls := findClass_of_methodNamed B.named
  have hlocks := B.notSynchronized
  have hin : meth.name = "<init>" := (name_of_methodNamed B.named B.method).1
  subst hsz
  have hD := hD0.self (sz := s.heap.size)
  generalize hAe : va_A [(a_t, .inr (5, [.null, .null, .int 0, .int 0]))] s.heap.size = A at hD ⊢
  have hA : ∀ q : Nat, s.heap.size ≤ q → A q := fun q h => by rw [← hAe]; exact Or.inr h
  have hH : HOK D A s.heap ((a_t, .inr (5, [.null, .null, .int 0, .int 0])) :: []) s.heap [] := ⟨hP, hD, va_S.rf⟩
  have hl := lv_entry ([.ref a_t]) (n := 1) (Nat.le_of_ble_eq_true rfl)
  rw [lg_entry_eq]
  generalize (lg_sl ([.ref a_t]) ++ List.replicate (1 - (lg_sl ([.ref a_t])).length) Slot.unset).toArray = ls at hl ⊢
  have hl : lv_has ls 1 [(0, .ref a_t)] := hl
  generalize hQ : MQ below (postN D k (newX5 k a_t) [(a_t, .inr (5, [.null, .null, .int 0, .int 0]))] s.heap.size) (List.toArray [.ref a_t]) s 2 8 A = Q
  clear hP hD hD0
  suffices K : ∀ (H : Heap) (locs : List Loc), HOK D A s.heap ((a_t, .inr (5, [.null, .null, .int 0, .int 0])) :: []) H locs → W p l e ({ frames := 1, cells := 2, slots := 8, locals := 12 } : Room) s m (List.toArray [.ref a_t]) below meth c H locs 0 0 Q (F0 m 0 ls []) from K s.heap [] hH
  intro H locs hH
  refine lv_aload_n hx hb dX5_init_0 rfl (lv_at hl 0 rfl) ?_
  refine W.objInit hx hb hown (hts _ u_ml_X5_3) (hts _ u_im_Object__init_) (hts _ u_co_Object_init) rfl (by rw [hml]; exact hl.1) rfl dX5_init_1 (Nat.le_of_ble_eq_true rfl) (Nat.le_of_ble_eq_true rfl) ?_
  refine W.eq (g2 := F0 m 4 ls []) rfl ?_
  refine lv_aload_n hx hb dX5_init_4 rfl (lv_at hl 0 rfl) ?_
  refine lv_iconst (v := 4) hx hb dX5_init_5 (by decide) ?_
  refine gk_newa (atype := .int) (ty := .int) (N' := 4) (a0 := (4, .inl fun _ => 0)) hx hb hts rfl u_ac_int hK hH hA 0 rfl (fun _ => rfl) (by decide) (by decide) (by decide) (Nat.le_of_ble_eq_true rfl) (Nat.le_of_ble_eq_true rfl) dX5_init_6 (fun q6 H hH => ?_)
  have hH : HOK D A s.heap ((a_t, .inr (5, [.null, .null, .int 0, .int 0])) :: ([] ++ [(q6, .inl (k 0, 4, .inl fun _ => 0))])) H locs := hH
  refine gk_putF (ci := 5) (C := RX5) (T := TX5) (N := 4) hx hb hts u_ws_X5 tyX5_ok nmX5 hown hK hH 0 rfl rfl 0 (by decide) u_fl_X5_9 rfl hin rfl rfl rfl (Nat.le_of_ble_eq_true rfl) dX5_init_8 ((a_t, .inr (5, [.ref q6, .null, .int 0, .int 0])) :: ([] ++ [(q6, .inl (k 0, 4, .inl fun _ => 0))])) rfl (fun H locs hH => ?_)
  refine lv_aload_n hx hb dX5_init_11 rfl (lv_at hl 0 rfl) ?_
  refine lv_iconst (v := 4) hx hb dX5_init_12 (by decide) ?_
  refine gk_newa (atype := .float) (ty := .float) (N' := 4) (a0 := (4, .inr (.inr (.inl fun _ => 0)))) hx hb hts rfl u_ac_float hK hH hA 3 rfl (fun _ => rfl) (by decide) (by decide) (by decide) (Nat.le_of_ble_eq_true rfl) (Nat.le_of_ble_eq_true rfl) dX5_init_13 (fun q13 H hH => ?_)
  have hH : HOK D A s.heap ((a_t, .inr (5, [.ref q6, .null, .int 0, .int 0])) :: (([] ++ [(q6, .inl (k 0, 4, .inl fun _ => 0))]) ++ [(q13, .inl (k 3, 4, .inr (.inr (.inl fun _ => 0))))])) H locs := hH
  refine gk_putF (ci := 5) (C := RX5) (T := TX5) (N := 4) hx hb hts u_ws_X5 tyX5_ok nmX5 hown hK hH 0 rfl rfl 1 (by decide) u_fl_X5_15 rfl hin rfl rfl rfl (Nat.le_of_ble_eq_true rfl) dX5_init_15 ((a_t, .inr (5, [.ref q6, .ref q13, .int 0, .int 0])) :: (([] ++ [(q6, .inl (k 0, 4, .inl fun _ => 0))]) ++ [(q13, .inl (k 3, 4, .inr (.inr (.inl fun _ => 0))))])) rfl (fun H locs hH => ?_)
  refine lv_aload_n hx hb dX5_init_18 rfl (lv_at hl 0 rfl) ?_
  refine lv_iconst (v := 0) hx hb dX5_init_19 (by decide) ?_
  refine gk_put (ci := 5) (C := RX5) (T := TX5) (N := 4) hx hb hts u_ws_X5 tyX5_ok nmX5 hown hK hH 0 rfl rfl 2 (by decide) u_fl_X5_19 rfl rfl rfl (Nat.le_of_ble_eq_true rfl) dX5_init_20 ((a_t, .inr (5, [.ref q6, .ref q13, .int 0, .int 0])) :: (([] ++ [(q6, .inl (k 0, 4, .inl fun _ => 0))]) ++ [(q13, .inl (k 3, 4, .inr (.inr (.inl fun _ => 0))))])) rfl (fun H locs hH => ?_)
  refine lv_aload_n hx hb dX5_init_23 rfl (lv_at hl 0 rfl) ?_
  refine lv_iconst (v := 0) hx hb dX5_init_24 (by decide) ?_
  refine gk_put (ci := 5) (C := RX5) (T := TX5) (N := 4) hx hb hts u_ws_X5 tyX5_ok nmX5 hown hK hH 0 rfl rfl 3 (by decide) u_fl_X5_23 rfl rfl rfl (Nat.le_of_ble_eq_true rfl) dX5_init_25 ((a_t, .inr (5, [.ref q6, .ref q13, .int 0, .int 0])) :: (([] ++ [(q6, .inl (k 0, 4, .inl fun _ => 0))]) ++ [(q13, .inl (k 3, 4, .inr (.inr (.inl fun _ => 0))))])) rfl (fun H locs hH => ?_)
  have hH : HOK D A s.heap (newX5 k a_t (fun j => [q6, q13].getD j 0)) H locs := hH
  exact gn_end (fun j => [q6, q13].getD j 0) hx hb hr hlocks hQ hK hH hAe dX5_init_28
def newX9 (k : Nat → ClassId) (h : Nat) (a : Nat → Nat) : va_W := [(h, .inr (8, [.int 0, .ref (a 0), .ref (a 1), .ref (a 2), .ref (a 3), .ref (a 4), .ref (a 5), .int 0, .int 2, .int 10, .int 0, .ref (a 6)])), ((a 0), .inl (k 0, 12, .inl fun _ => 0)), ((a 1), .inl (k 0, 12, .inl fun _ => 0)), ((a 2), .inl (k 0, 12, .inl fun _ => 0)), ((a 3), .inl (k 0, 12, .inl fun _ => 0)), ((a 4), .inl (k 0, 12, .inl fun _ => 0)), ((a 5), .inl (k 0, 144, .inl fun _ => 0)), ((a 6), .inr (4, [.ref (a 7), .ref (a 8)])), ((a 7), .inl (k 0, 12, .inl fun _ => 0)), ((a 8), .inl (k 0, 4, .inl fun _ => 0))]
theorem hd_X9_init : yX9_init.cls ≠ "java/lang/invoke/MethodHandle" ∧ yX9_init.cls ≠ "java/lang/invoke/VarHandle" ∧ (parseMethodDescriptor yX9_init.desc).map (fun d => d.parameters.length) = some 0 := by decide +kernel
set_option maxHeartbeats 8000000 in
set_option maxRecDepth 100000 in
theorem mX9_init (l : Launch) (Ts : List Cond) (hTs : ∀ w, w ∈ Ts ↔ w ∈ uT) (D : va_G) (k : Nat → ClassId) (sz : Nat) (a_t : Nat) : Met l yX9_init (Cond.code yX9_init cX9_init 1 none :: Ts) ({ frames := 2, cells := 9, slots := 222, locals := 32 } : Room) (preN D k [.ref a_t] [(a_t, .inr (8, [.int 0, .null, .null, .null, .null, .null, .null, .int 0, .int 0, .int 0, .int 0, .null]))] sz) (postN D k (newX9 k a_t) [(a_t, .inr (8, [.int 0, .null, .null, .null, .null, .null, .null, .int 0, .int 0, .int 0, .int 0, .null]))] sz) 9 222 (va_A [(a_t, .inr (8, [.int 0, .null, .null, .null, .null, .null, .null, .int 0, .int 0, .int 0, .int 0, .null]))] sz) := by
  refine Met.ofW (cc := cX9_init) (maxL := 1) (ret := none) (by decide) rfl ?_
  intro p e s m args below meth c s₁ B hml hv
  obtain ⟨rfl, ⟨hsz, hP, hK, hD0⟩, hC⟩ := hv
  have hx := B.exec
  have hb := B.bytes
  have hr := B.returns
  have hts0 := atoms_spec (ws := (Cond.code yX9_init cX9_init 1 none :: Ts)) B.pre
  have hts : ∀ w ∈ uT, w.before _ s = true := fun w h => hts0 w (List.mem_cons_of_mem _ ((hTs w).mpr h))
  clear hts0
  have hown : s.vm.findClass RX9 = some m.cls := findClass_of_methodNamed B.named
  have hlocks := B.notSynchronized
  have hin : meth.name = "<init>" := (name_of_methodNamed B.named B.method).1
  subst hsz
  have hD := hD0.self (sz := s.heap.size)
  generalize hAe : va_A [(a_t, .inr (8, [.int 0, .null, .null, .null, .null, .null, .null, .int 0, .int 0, .int 0, .int 0, .null]))] s.heap.size = A at hD ⊢
  have hA : ∀ q : Nat, s.heap.size ≤ q → A q := fun q h => by rw [← hAe]; exact Or.inr h
  have hH : HOK D A s.heap ((a_t, .inr (8, [.int 0, .null, .null, .null, .null, .null, .null, .int 0, .int 0, .int 0, .int 0, .null])) :: []) s.heap [] := ⟨hP, hD, va_S.rf⟩
  have hl := lv_entry ([.ref a_t]) (n := 1) (Nat.le_of_ble_eq_true rfl)
  rw [lg_entry_eq]
  generalize (lg_sl ([.ref a_t]) ++ List.replicate (1 - (lg_sl ([.ref a_t])).length) Slot.unset).toArray = ls at hl ⊢
  have hl : lv_has ls 1 [(0, .ref a_t)] := hl
  generalize hQ : MQ below (postN D k (newX9 k a_t) [(a_t, .inr (8, [.int 0, .null, .null, .null, .null, .null, .null, .int 0, .int 0, .int 0, .int 0, .null]))] s.heap.size) (List.toArray [.ref a_t]) s 9 222 A = Q
  clear hP hD hD0
  suffices K : ∀ (H : Heap) (locs : List Loc), HOK D A s.heap ((a_t, .inr (8, [.int 0, .null, .null, .null, .null, .null, .null, .int 0, .int 0, .int 0, .int 0, .null])) :: []) H locs → W p l e ({ frames := 2, cells := 9, slots := 222, locals := 32 } : Room) s m (List.toArray [.ref a_t]) below meth c H locs 0 0 Q (F0 m 0 ls []) from K s.heap [] hH
  intro H locs hH
  refine lv_aload_n hx hb dX9_init_0 rfl (lv_at hl 0 rfl) ?_
  refine W.objInit hx hb hown (hts _ u_ml_X9_3) (hts _ u_im_Object__init_) (hts _ u_co_Object_init) rfl (by rw [hml]; exact hl.1) rfl dX9_init_1 (Nat.le_of_ble_eq_true rfl) (Nat.le_of_ble_eq_true rfl) ?_
  refine W.eq (g2 := F0 m 4 ls []) rfl ?_
  refine lv_aload_n hx hb dX9_init_4 rfl (lv_at hl 0 rfl) ?_
  refine lv_iconst (v := 0) hx hb dX9_init_5 (by decide) ?_
  refine gk_put (ci := 8) (C := RX9) (T := TX9) (N := 12) hx hb hts u_ws_X9 tyX9_ok nmX9 hown hK hH 0 rfl rfl 0 (by decide) u_fl_X9_9 rfl rfl rfl (Nat.le_of_ble_eq_true rfl) dX9_init_6 ((a_t, .inr (8, [.int 0, .null, .null, .null, .null, .null, .null, .int 0, .int 0, .int 0, .int 0, .null])) :: []) rfl (fun H locs hH => ?_)
  refine lv_aload_n hx hb dX9_init_9 rfl (lv_at hl 0 rfl) ?_
  refine lv_bipush (v := 12) hx hb dX9_init_10 (by decide) ?_
  refine gk_newa (atype := .int) (ty := .int) (N' := 12) (a0 := (12, .inl fun _ => 0)) hx hb hts rfl u_ac_int hK hH hA 0 rfl (fun _ => rfl) (by decide) (by decide) (by decide) (Nat.le_of_ble_eq_true rfl) (Nat.le_of_ble_eq_true rfl) dX9_init_12 (fun q12 H hH => ?_)
  have hH : HOK D A s.heap ((a_t, .inr (8, [.int 0, .null, .null, .null, .null, .null, .null, .int 0, .int 0, .int 0, .int 0, .null])) :: ([] ++ [(q12, .inl (k 0, 12, .inl fun _ => 0))])) H locs := hH
  refine gk_putF (ci := 8) (C := RX9) (T := TX9) (N := 12) hx hb hts u_ws_X9 tyX9_ok nmX9 hown hK hH 0 rfl rfl 1 (by decide) u_fl_X9_15 rfl hin rfl rfl rfl (Nat.le_of_ble_eq_true rfl) dX9_init_14 ((a_t, .inr (8, [.int 0, .ref q12, .null, .null, .null, .null, .null, .int 0, .int 0, .int 0, .int 0, .null])) :: ([] ++ [(q12, .inl (k 0, 12, .inl fun _ => 0))])) rfl (fun H locs hH => ?_)
  refine lv_aload_n hx hb dX9_init_17 rfl (lv_at hl 0 rfl) ?_
  refine lv_bipush (v := 12) hx hb dX9_init_18 (by decide) ?_
  refine gk_newa (atype := .int) (ty := .int) (N' := 12) (a0 := (12, .inl fun _ => 0)) hx hb hts rfl u_ac_int hK hH hA 0 rfl (fun _ => rfl) (by decide) (by decide) (by decide) (Nat.le_of_ble_eq_true rfl) (Nat.le_of_ble_eq_true rfl) dX9_init_20 (fun q20 H hH => ?_)
  have hH : HOK D A s.heap ((a_t, .inr (8, [.int 0, .ref q12, .null, .null, .null, .null, .null, .int 0, .int 0, .int 0, .int 0, .null])) :: (([] ++ [(q12, .inl (k 0, 12, .inl fun _ => 0))]) ++ [(q20, .inl (k 0, 12, .inl fun _ => 0))])) H locs := hH
  refine gk_putF (ci := 8) (C := RX9) (T := TX9) (N := 12) hx hb hts u_ws_X9 tyX9_ok nmX9 hown hK hH 0 rfl rfl 2 (by decide) u_fl_X9_19 rfl hin rfl rfl rfl (Nat.le_of_ble_eq_true rfl) dX9_init_22 ((a_t, .inr (8, [.int 0, .ref q12, .ref q20, .null, .null, .null, .null, .int 0, .int 0, .int 0, .int 0, .null])) :: (([] ++ [(q12, .inl (k 0, 12, .inl fun _ => 0))]) ++ [(q20, .inl (k 0, 12, .inl fun _ => 0))])) rfl (fun H locs hH => ?_)
  refine lv_aload_n hx hb dX9_init_25 rfl (lv_at hl 0 rfl) ?_
  refine lv_bipush (v := 12) hx hb dX9_init_26 (by decide) ?_
  refine gk_newa (atype := .int) (ty := .int) (N' := 12) (a0 := (12, .inl fun _ => 0)) hx hb hts rfl u_ac_int hK hH hA 0 rfl (fun _ => rfl) (by decide) (by decide) (by decide) (Nat.le_of_ble_eq_true rfl) (Nat.le_of_ble_eq_true rfl) dX9_init_28 (fun q28 H hH => ?_)
  have hH : HOK D A s.heap ((a_t, .inr (8, [.int 0, .ref q12, .ref q20, .null, .null, .null, .null, .int 0, .int 0, .int 0, .int 0, .null])) :: ((([] ++ [(q12, .inl (k 0, 12, .inl fun _ => 0))]) ++ [(q20, .inl (k 0, 12, .inl fun _ => 0))]) ++ [(q28, .inl (k 0, 12, .inl fun _ => 0))])) H locs := hH
  refine gk_putF (ci := 8) (C := RX9) (T := TX9) (N := 12) hx hb hts u_ws_X9 tyX9_ok nmX9 hown hK hH 0 rfl rfl 3 (by decide) u_fl_X9_22 rfl hin rfl rfl rfl (Nat.le_of_ble_eq_true rfl) dX9_init_30 ((a_t, .inr (8, [.int 0, .ref q12, .ref q20, .ref q28, .null, .null, .null, .int 0, .int 0, .int 0, .int 0, .null])) :: ((([] ++ [(q12, .inl (k 0, 12, .inl fun _ => 0))]) ++ [(q20, .inl (k 0, 12, .inl fun _ => 0))]) ++ [(q28, .inl (k 0, 12, .inl fun _ => 0))])) rfl (fun H locs hH => ?_)
  refine lv_aload_n hx hb dX9_init_33 rfl (lv_at hl 0 rfl) ?_
  refine lv_bipush (v := 12) hx hb dX9_init_34 (by decide) ?_
  refine gk_newa (atype := .int) (ty := .int) (N' := 12) (a0 := (12, .inl fun _ => 0)) hx hb hts rfl u_ac_int hK hH hA 0 rfl (fun _ => rfl) (by decide) (by decide) (by decide) (Nat.le_of_ble_eq_true rfl) (Nat.le_of_ble_eq_true rfl) dX9_init_36 (fun q36 H hH => ?_)
  have hH : HOK D A s.heap ((a_t, .inr (8, [.int 0, .ref q12, .ref q20, .ref q28, .null, .null, .null, .int 0, .int 0, .int 0, .int 0, .null])) :: (((([] ++ [(q12, .inl (k 0, 12, .inl fun _ => 0))]) ++ [(q20, .inl (k 0, 12, .inl fun _ => 0))]) ++ [(q28, .inl (k 0, 12, .inl fun _ => 0))]) ++ [(q36, .inl (k 0, 12, .inl fun _ => 0))])) H locs := hH
  refine gk_putF (ci := 8) (C := RX9) (T := TX9) (N := 12) hx hb hts u_ws_X9 tyX9_ok nmX9 hown hK hH 0 rfl rfl 4 (by decide) u_fl_X9_25 rfl hin rfl rfl rfl (Nat.le_of_ble_eq_true rfl) dX9_init_38 ((a_t, .inr (8, [.int 0, .ref q12, .ref q20, .ref q28, .ref q36, .null, .null, .int 0, .int 0, .int 0, .int 0, .null])) :: (((([] ++ [(q12, .inl (k 0, 12, .inl fun _ => 0))]) ++ [(q20, .inl (k 0, 12, .inl fun _ => 0))]) ++ [(q28, .inl (k 0, 12, .inl fun _ => 0))]) ++ [(q36, .inl (k 0, 12, .inl fun _ => 0))])) rfl (fun H locs hH => ?_)
  refine lv_aload_n hx hb dX9_init_41 rfl (lv_at hl 0 rfl) ?_
  refine lv_bipush (v := 12) hx hb dX9_init_42 (by decide) ?_
  refine gk_newa (atype := .int) (ty := .int) (N' := 12) (a0 := (12, .inl fun _ => 0)) hx hb hts rfl u_ac_int hK hH hA 0 rfl (fun _ => rfl) (by decide) (by decide) (by decide) (Nat.le_of_ble_eq_true rfl) (Nat.le_of_ble_eq_true rfl) dX9_init_44 (fun q44 H hH => ?_)
  have hH : HOK D A s.heap ((a_t, .inr (8, [.int 0, .ref q12, .ref q20, .ref q28, .ref q36, .null, .null, .int 0, .int 0, .int 0, .int 0, .null])) :: ((((([] ++ [(q12, .inl (k 0, 12, .inl fun _ => 0))]) ++ [(q20, .inl (k 0, 12, .inl fun _ => 0))]) ++ [(q28, .inl (k 0, 12, .inl fun _ => 0))]) ++ [(q36, .inl (k 0, 12, .inl fun _ => 0))]) ++ [(q44, .inl (k 0, 12, .inl fun _ => 0))])) H locs := hH
  refine gk_putF (ci := 8) (C := RX9) (T := TX9) (N := 12) hx hb hts u_ws_X9 tyX9_ok nmX9 hown hK hH 0 rfl rfl 5 (by decide) u_fl_X9_28 rfl hin rfl rfl rfl (Nat.le_of_ble_eq_true rfl) dX9_init_46 ((a_t, .inr (8, [.int 0, .ref q12, .ref q20, .ref q28, .ref q36, .ref q44, .null, .int 0, .int 0, .int 0, .int 0, .null])) :: ((((([] ++ [(q12, .inl (k 0, 12, .inl fun _ => 0))]) ++ [(q20, .inl (k 0, 12, .inl fun _ => 0))]) ++ [(q28, .inl (k 0, 12, .inl fun _ => 0))]) ++ [(q36, .inl (k 0, 12, .inl fun _ => 0))]) ++ [(q44, .inl (k 0, 12, .inl fun _ => 0))])) rfl (fun H locs hH => ?_)
  refine lv_aload_n hx hb dX9_init_49 rfl (lv_at hl 0 rfl) ?_
  refine lv_sipush (v := 144) hx hb dX9_init_50 (by decide) ?_
  refine gk_newa (atype := .int) (ty := .int) (N' := 144) (a0 := (144, .inl fun _ => 0)) hx hb hts rfl u_ac_int hK hH hA 0 rfl (fun _ => rfl) (by decide) (by decide) (by decide) (Nat.le_of_ble_eq_true rfl) (Nat.le_of_ble_eq_true rfl) dX9_init_53 (fun q53 H hH => ?_)
  have hH : HOK D A s.heap ((a_t, .inr (8, [.int 0, .ref q12, .ref q20, .ref q28, .ref q36, .ref q44, .null, .int 0, .int 0, .int 0, .int 0, .null])) :: (((((([] ++ [(q12, .inl (k 0, 12, .inl fun _ => 0))]) ++ [(q20, .inl (k 0, 12, .inl fun _ => 0))]) ++ [(q28, .inl (k 0, 12, .inl fun _ => 0))]) ++ [(q36, .inl (k 0, 12, .inl fun _ => 0))]) ++ [(q44, .inl (k 0, 12, .inl fun _ => 0))]) ++ [(q53, .inl (k 0, 144, .inl fun _ => 0))])) H locs := hH
  refine gk_putF (ci := 8) (C := RX9) (T := TX9) (N := 12) hx hb hts u_ws_X9 tyX9_ok nmX9 hown hK hH 0 rfl rfl 6 (by decide) u_fl_X9_31 rfl hin rfl rfl rfl (Nat.le_of_ble_eq_true rfl) dX9_init_55 ((a_t, .inr (8, [.int 0, .ref q12, .ref q20, .ref q28, .ref q36, .ref q44, .ref q53, .int 0, .int 0, .int 0, .int 0, .null])) :: (((((([] ++ [(q12, .inl (k 0, 12, .inl fun _ => 0))]) ++ [(q20, .inl (k 0, 12, .inl fun _ => 0))]) ++ [(q28, .inl (k 0, 12, .inl fun _ => 0))]) ++ [(q36, .inl (k 0, 12, .inl fun _ => 0))]) ++ [(q44, .inl (k 0, 12, .inl fun _ => 0))]) ++ [(q53, .inl (k 0, 144, .inl fun _ => 0))])) rfl (fun H locs hH => ?_)
  refine lv_aload_n hx hb dX9_init_58 rfl (lv_at hl 0 rfl) ?_
  refine lv_iconst (v := 0) hx hb dX9_init_59 (by decide) ?_
  refine gk_put (ci := 8) (C := RX9) (T := TX9) (N := 12) hx hb hts u_ws_X9 tyX9_ok nmX9 hown hK hH 0 rfl rfl 7 (by decide) u_fl_X9_34 rfl rfl rfl (Nat.le_of_ble_eq_true rfl) dX9_init_60 ((a_t, .inr (8, [.int 0, .ref q12, .ref q20, .ref q28, .ref q36, .ref q44, .ref q53, .int 0, .int 0, .int 0, .int 0, .null])) :: (((((([] ++ [(q12, .inl (k 0, 12, .inl fun _ => 0))]) ++ [(q20, .inl (k 0, 12, .inl fun _ => 0))]) ++ [(q28, .inl (k 0, 12, .inl fun _ => 0))]) ++ [(q36, .inl (k 0, 12, .inl fun _ => 0))]) ++ [(q44, .inl (k 0, 12, .inl fun _ => 0))]) ++ [(q53, .inl (k 0, 144, .inl fun _ => 0))])) rfl (fun H locs hH => ?_)
  refine lv_aload_n hx hb dX9_init_63 rfl (lv_at hl 0 rfl) ?_
  refine lv_iconst (v := 2) hx hb dX9_init_64 (by decide) ?_
  refine gk_put (ci := 8) (C := RX9) (T := TX9) (N := 12) hx hb hts u_ws_X9 tyX9_ok nmX9 hown hK hH 0 rfl rfl 8 (by decide) u_fl_X9_37 rfl rfl rfl (Nat.le_of_ble_eq_true rfl) dX9_init_65 ((a_t, .inr (8, [.int 0, .ref q12, .ref q20, .ref q28, .ref q36, .ref q44, .ref q53, .int 0, .int 2, .int 0, .int 0, .null])) :: (((((([] ++ [(q12, .inl (k 0, 12, .inl fun _ => 0))]) ++ [(q20, .inl (k 0, 12, .inl fun _ => 0))]) ++ [(q28, .inl (k 0, 12, .inl fun _ => 0))]) ++ [(q36, .inl (k 0, 12, .inl fun _ => 0))]) ++ [(q44, .inl (k 0, 12, .inl fun _ => 0))]) ++ [(q53, .inl (k 0, 144, .inl fun _ => 0))])) rfl (fun H locs hH => ?_)
  refine lv_aload_n hx hb dX9_init_68 rfl (lv_at hl 0 rfl) ?_
  refine lv_bipush (v := 10) hx hb dX9_init_69 (by decide) ?_
  refine gk_put (ci := 8) (C := RX9) (T := TX9) (N := 12) hx hb hts u_ws_X9 tyX9_ok nmX9 hown hK hH 0 rfl rfl 9 (by decide) u_fl_X9_40 rfl rfl rfl (Nat.le_of_ble_eq_true rfl) dX9_init_71 ((a_t, .inr (8, [.int 0, .ref q12, .ref q20, .ref q28, .ref q36, .ref q44, .ref q53, .int 0, .int 2, .int 10, .int 0, .null])) :: (((((([] ++ [(q12, .inl (k 0, 12, .inl fun _ => 0))]) ++ [(q20, .inl (k 0, 12, .inl fun _ => 0))]) ++ [(q28, .inl (k 0, 12, .inl fun _ => 0))]) ++ [(q36, .inl (k 0, 12, .inl fun _ => 0))]) ++ [(q44, .inl (k 0, 12, .inl fun _ => 0))]) ++ [(q53, .inl (k 0, 144, .inl fun _ => 0))])) rfl (fun H locs hH => ?_)
  refine lv_aload_n hx hb dX9_init_74 rfl (lv_at hl 0 rfl) ?_
  refine lv_iconst (v := 0) hx hb dX9_init_75 (by decide) ?_
  refine gk_put (ci := 8) (C := RX9) (T := TX9) (N := 12) hx hb hts u_ws_X9 tyX9_ok nmX9 hown hK hH 0 rfl rfl 10 (by decide) u_fl_X9_43 rfl rfl rfl (Nat.le_of_ble_eq_true rfl) dX9_init_76 ((a_t, .inr (8, [.int 0, .ref q12, .ref q20, .ref q28, .ref q36, .ref q44, .ref q53, .int 0, .int 2, .int 10, .int 0, .null])) :: (((((([] ++ [(q12, .inl (k 0, 12, .inl fun _ => 0))]) ++ [(q20, .inl (k 0, 12, .inl fun _ => 0))]) ++ [(q28, .inl (k 0, 12, .inl fun _ => 0))]) ++ [(q36, .inl (k 0, 12, .inl fun _ => 0))]) ++ [(q44, .inl (k 0, 12, .inl fun _ => 0))]) ++ [(q53, .inl (k 0, 144, .inl fun _ => 0))])) rfl (fun H locs hH => ?_)
  refine lv_aload_n hx hb dX9_init_79 rfl (lv_at hl 0 rfl) ?_
  refine gk_new (ci := 4) (fs := [.null, .null]) (C := RX4) (T := TX4) (N := 2) hx hb hts u_ws_X4 tyX4_ok hown u_cl_X9_47 u_is_X4 u_in_X4 hK hH hA rfl (fun j hj => by rcases (show j = 0 ∨ j = 1 by omega) with rfl | rfl <;> rfl) (Nat.le_of_ble_eq_true rfl) (Nat.le_of_ble_eq_true rfl) dX9_init_80 (fun q80_43 H hH => ?_)
  have hH : HOK D A s.heap (((a_t, .inr (8, [.int 0, .ref q12, .ref q20, .ref q28, .ref q36, .ref q44, .ref q53, .int 0, .int 2, .int 10, .int 0, .null])) :: (((((([] ++ [(q12, .inl (k 0, 12, .inl fun _ => 0))]) ++ [(q20, .inl (k 0, 12, .inl fun _ => 0))]) ++ [(q28, .inl (k 0, 12, .inl fun _ => 0))]) ++ [(q36, .inl (k 0, 12, .inl fun _ => 0))]) ++ [(q44, .inl (k 0, 12, .inl fun _ => 0))]) ++ [(q53, .inl (k 0, 144, .inl fun _ => 0))])) ++ [(q80_43, .inr (4, [.null, .null]))]) H locs := hH
  refine lv_dup hx hb dX9_init_83 rfl ?_
  refine gn_IN (host := "DistrictPlanner") (pre := ((a_t, .inr (8, [.int 0, .ref q12, .ref q20, .ref q28, .ref q36, .ref q44, .ref q53, .int 0, .int 2, .int 10, .int 0, .null])) :: (((((([] ++ [(q12, .inl (k 0, 12, .inl fun _ => 0))]) ++ [(q20, .inl (k 0, 12, .inl fun _ => 0))]) ++ [(q28, .inl (k 0, 12, .inl fun _ => 0))]) ++ [(q36, .inl (k 0, 12, .inl fun _ => 0))]) ++ [(q44, .inl (k 0, 12, .inl fun _ => 0))]) ++ [(q53, .inl (k 0, 144, .inl fun _ => 0))]))) (new := newX4 k q80_43) hTs ⟨hx, hb, hml, hown, hts⟩ (mX4_init l Ts hTs D k H.size q80_43) (by decide +kernel) u_im_X4_init u_in_X4 u_co_X4_init rfl hd_X4_init ⟨Nat.le_of_ble_eq_true rfl, Nat.le_of_ble_eq_true rfl⟩ ⟨rfl, rfl⟩ hK hC hH hA hl.1 (Nat.le_of_ble_eq_true rfl) dX9_init_84 ⟨Nat.le_of_ble_eq_true rfl, Nat.le_of_ble_eq_true rfl⟩ (fun b84_45 H locs hH => ?_)
  have hH : HOK D A s.heap ((a_t, .inr (8, [.int 0, .ref q12, .ref q20, .ref q28, .ref q36, .ref q44, .ref q53, .int 0, .int 2, .int 10, .int 0, .null])) :: ((((((([] ++ [(q12, .inl (k 0, 12, .inl fun _ => 0))]) ++ [(q20, .inl (k 0, 12, .inl fun _ => 0))]) ++ [(q28, .inl (k 0, 12, .inl fun _ => 0))]) ++ [(q36, .inl (k 0, 12, .inl fun _ => 0))]) ++ [(q44, .inl (k 0, 12, .inl fun _ => 0))]) ++ [(q53, .inl (k 0, 144, .inl fun _ => 0))]) ++ newX4 k q80_43 b84_45)) H locs := hH
  refine gk_putF (ci := 8) (C := RX9) (T := TX9) (N := 12) hx hb hts u_ws_X9 tyX9_ok nmX9 hown hK hH 0 rfl rfl 11 (by decide) u_fl_X9_50 rfl hin rfl rfl rfl (Nat.le_of_ble_eq_true rfl) dX9_init_87 ((a_t, .inr (8, [.int 0, .ref q12, .ref q20, .ref q28, .ref q36, .ref q44, .ref q53, .int 0, .int 2, .int 10, .int 0, .ref q80_43])) :: ((((((([] ++ [(q12, .inl (k 0, 12, .inl fun _ => 0))]) ++ [(q20, .inl (k 0, 12, .inl fun _ => 0))]) ++ [(q28, .inl (k 0, 12, .inl fun _ => 0))]) ++ [(q36, .inl (k 0, 12, .inl fun _ => 0))]) ++ [(q44, .inl (k 0, 12, .inl fun _ => 0))]) ++ [(q53, .inl (k 0, 144, .inl fun _ => 0))]) ++ newX4 k q80_43 b84_45)) rfl (fun H locs hH => ?_)
  have hH : HOK D A s.heap (newX9 k a_t (fun j => [q12, q20, q28, q36, q44, q53, q80_43, (b84_45 0), (b84_45 1)].getD j 0)) H locs := hH
  exact gn_end (fun j => [q12, q20, q28, q36, q44, q53, q80_43, (b84_45 0), (b84_45 1)].getD j 0) hx hb hr hlocks hQ hK hH hAe dX9_init_90
def newX0 (k : Nat → ClassId) (h : Nat) (a : Nat → Nat) : va_W := [(h, .inr (0, [.ref (a 0), .ref (a 1), .ref (a 2), .ref (a 3), .ref (a 6), .ref (a 7), .int 0, .int 0, .int 0])), ((a 0), .inl (k 0, 7770, .inl fun _ => 0)), ((a 1), .inl (k 2, 512, .inl fun _ => 0)), ((a 2), .inl (k 0, 4, .inl fun _ => 0)), ((a 3), .inr (4, [.ref (a 4), .ref (a 5)])), ((a 4), .inl (k 0, 12, .inl fun _ => 0)), ((a 5), .inl (k 0, 4, .inl fun _ => 0)), ((a 6), .inr (1, [.long 0, .long 1])), ((a 7), .inr (1, [.long 0, .long 1]))]
theorem hd_X0_init : yX0_init.cls ≠ "java/lang/invoke/MethodHandle" ∧ yX0_init.cls ≠ "java/lang/invoke/VarHandle" ∧ (parseMethodDescriptor yX0_init.desc).map (fun d => d.parameters.length) = some 0 := by decide +kernel
set_option maxHeartbeats 8000000 in
set_option maxRecDepth 100000 in
theorem mX0_init (l : Launch) (Ts : List Cond) (hTs : ∀ w, w ∈ Ts ↔ w ∈ uT) (D : va_G) (k : Nat → ClassId) (sz : Nat) (a_t : Nat) : Met l yX0_init (Cond.code yX0_init cX0_init 1 none :: Ts) ({ frames := 2, cells := 8, slots := 8308, locals := 32 } : Room) (preN D k [.ref a_t] [(a_t, .inr (0, [.null, .null, .null, .null, .null, .null, .int 0, .int 0, .int 0]))] sz) (postN D k (newX0 k a_t) [(a_t, .inr (0, [.null, .null, .null, .null, .null, .null, .int 0, .int 0, .int 0]))] sz) 8 8308 (va_A [(a_t, .inr (0, [.null, .null, .null, .null, .null, .null, .int 0, .int 0, .int 0]))] sz) := by
  refine Met.ofW (cc := cX0_init) (maxL := 1) (ret := none) (by decide) rfl ?_
  intro p e s m args below meth c s₁ B hml hv
  obtain ⟨rfl, ⟨hsz, hP, hK, hD0⟩, hC⟩ := hv
  have hx := B.exec
  have hb := B.bytes
  have hr := B.returns
  have hts0 := atoms_spec (ws := (Cond.code yX0_init cX0_init 1 none :: Ts)) B.pre
  have hts : ∀ w ∈ uT, w.before _ s = true := fun w h => hts0 w (List.mem_cons_of_mem _ ((hTs w).mpr h))
  clear hts0
  have hown : s.vm.findClass RX0 = some m.cls := findClass_of_methodNamed B.named
  have hlocks := B.notSynchronized
  have hin : meth.name = "<init>" := (name_of_methodNamed B.named B.method).1
  subst hsz
  have hD := hD0.self (sz := s.heap.size)
  generalize hAe : va_A [(a_t, .inr (0, [.null, .null, .null, .null, .null, .null, .int 0, .int 0, .int 0]))] s.heap.size = A at hD ⊢
  have hA : ∀ q : Nat, s.heap.size ≤ q → A q := fun q h => by rw [← hAe]; exact Or.inr h
  have hH : HOK D A s.heap ((a_t, .inr (0, [.null, .null, .null, .null, .null, .null, .int 0, .int 0, .int 0])) :: []) s.heap [] := ⟨hP, hD, va_S.rf⟩
  have hl := lv_entry ([.ref a_t]) (n := 1) (Nat.le_of_ble_eq_true rfl)
  rw [lg_entry_eq]
  generalize (lg_sl ([.ref a_t]) ++ List.replicate (1 - (lg_sl ([.ref a_t])).length) Slot.unset).toArray = ls at hl ⊢
  have hl : lv_has ls 1 [(0, .ref a_t)] := hl
  generalize hQ : MQ below (postN D k (newX0 k a_t) [(a_t, .inr (0, [.null, .null, .null, .null, .null, .null, .int 0, .int 0, .int 0]))] s.heap.size) (List.toArray [.ref a_t]) s 8 8308 A = Q
  clear hP hD hD0
  suffices K : ∀ (H : Heap) (locs : List Loc), HOK D A s.heap ((a_t, .inr (0, [.null, .null, .null, .null, .null, .null, .int 0, .int 0, .int 0])) :: []) H locs → W p l e ({ frames := 2, cells := 8, slots := 8308, locals := 32 } : Room) s m (List.toArray [.ref a_t]) below meth c H locs 0 0 Q (F0 m 0 ls []) from K s.heap [] hH
  intro H locs hH
  refine lv_aload_n hx hb dX0_init_0 rfl (lv_at hl 0 rfl) ?_
  refine W.objInit hx hb hown (hts _ u_ml_X0_3) (hts _ u_im_Object__init_) (hts _ u_co_Object_init) rfl (by rw [hml]; exact hl.1) rfl dX0_init_1 (Nat.le_of_ble_eq_true rfl) (Nat.le_of_ble_eq_true rfl) ?_
  refine W.eq (g2 := F0 m 4 ls []) rfl ?_
  refine lv_aload_n hx hb dX0_init_4 rfl (lv_at hl 0 rfl) ?_
  refine lv_sipush (v := 7770) hx hb dX0_init_5 (by decide) ?_
  refine gk_newa (atype := .int) (ty := .int) (N' := 7770) (a0 := (7770, .inl fun _ => 0)) hx hb hts rfl u_ac_int hK hH hA 0 rfl (fun _ => rfl) (by decide) (by decide) (by decide) (Nat.le_of_ble_eq_true rfl) (Nat.le_of_ble_eq_true rfl) dX0_init_8 (fun q8 H hH => ?_)
  have hH : HOK D A s.heap ((a_t, .inr (0, [.null, .null, .null, .null, .null, .null, .int 0, .int 0, .int 0])) :: ([] ++ [(q8, .inl (k 0, 7770, .inl fun _ => 0))])) H locs := hH
  refine gk_putF (ci := 0) (C := RX0) (T := TX0) (N := 9) hx hb hts u_ws_X0 tyX0_ok nmX0 hown hK hH 0 rfl rfl 0 (by decide) u_fl_X0_9 rfl hin rfl rfl rfl (Nat.le_of_ble_eq_true rfl) dX0_init_10 ((a_t, .inr (0, [.ref q8, .null, .null, .null, .null, .null, .int 0, .int 0, .int 0])) :: ([] ++ [(q8, .inl (k 0, 7770, .inl fun _ => 0))])) rfl (fun H locs hH => ?_)
  refine lv_aload_n hx hb dX0_init_13 rfl (lv_at hl 0 rfl) ?_
  refine lv_sipush (v := 512) hx hb dX0_init_14 (by decide) ?_
  refine gk_newa (atype := .boolean) (ty := .boolean) (N' := 512) (a0 := (512, .inl fun _ => 0)) hx hb hts rfl u_ac_boolean hK hH hA 2 rfl (fun _ => rfl) (by decide) (by decide) (by decide) (Nat.le_of_ble_eq_true rfl) (Nat.le_of_ble_eq_true rfl) dX0_init_17 (fun q17 H hH => ?_)
  have hH : HOK D A s.heap ((a_t, .inr (0, [.ref q8, .null, .null, .null, .null, .null, .int 0, .int 0, .int 0])) :: (([] ++ [(q8, .inl (k 0, 7770, .inl fun _ => 0))]) ++ [(q17, .inl (k 2, 512, .inl fun _ => 0))])) H locs := hH
  refine gk_putF (ci := 0) (C := RX0) (T := TX0) (N := 9) hx hb hts u_ws_X0 tyX0_ok nmX0 hown hK hH 0 rfl rfl 1 (by decide) u_fl_X0_15 rfl hin rfl rfl rfl (Nat.le_of_ble_eq_true rfl) dX0_init_19 ((a_t, .inr (0, [.ref q8, .ref q17, .null, .null, .null, .null, .int 0, .int 0, .int 0])) :: (([] ++ [(q8, .inl (k 0, 7770, .inl fun _ => 0))]) ++ [(q17, .inl (k 2, 512, .inl fun _ => 0))])) rfl (fun H locs hH => ?_)
  refine lv_aload_n hx hb dX0_init_22 rfl (lv_at hl 0 rfl) ?_
  refine lv_iconst (v := 4) hx hb dX0_init_23 (by decide) ?_
  refine gk_newa (atype := .int) (ty := .int) (N' := 4) (a0 := (4, .inl fun _ => 0)) hx hb hts rfl u_ac_int hK hH hA 0 rfl (fun _ => rfl) (by decide) (by decide) (by decide) (Nat.le_of_ble_eq_true rfl) (Nat.le_of_ble_eq_true rfl) dX0_init_24 (fun q24 H hH => ?_)
  have hH : HOK D A s.heap ((a_t, .inr (0, [.ref q8, .ref q17, .null, .null, .null, .null, .int 0, .int 0, .int 0])) :: ((([] ++ [(q8, .inl (k 0, 7770, .inl fun _ => 0))]) ++ [(q17, .inl (k 2, 512, .inl fun _ => 0))]) ++ [(q24, .inl (k 0, 4, .inl fun _ => 0))])) H locs := hH
  refine gk_putF (ci := 0) (C := RX0) (T := TX0) (N := 9) hx hb hts u_ws_X0 tyX0_ok nmX0 hown hK hH 0 rfl rfl 2 (by decide) u_fl_X0_19 rfl hin rfl rfl rfl (Nat.le_of_ble_eq_true rfl) dX0_init_26 ((a_t, .inr (0, [.ref q8, .ref q17, .ref q24, .null, .null, .null, .int 0, .int 0, .int 0])) :: ((([] ++ [(q8, .inl (k 0, 7770, .inl fun _ => 0))]) ++ [(q17, .inl (k 2, 512, .inl fun _ => 0))]) ++ [(q24, .inl (k 0, 4, .inl fun _ => 0))])) rfl (fun H locs hH => ?_)
  refine lv_aload_n hx hb dX0_init_29 rfl (lv_at hl 0 rfl) ?_
  refine gk_new (ci := 4) (fs := [.null, .null]) (C := RX4) (T := TX4) (N := 2) hx hb hts u_ws_X4 tyX4_ok hown u_cl_X0_22 u_is_X4 u_in_X4 hK hH hA rfl (fun j hj => by rcases (show j = 0 ∨ j = 1 by omega) with rfl | rfl <;> rfl) (Nat.le_of_ble_eq_true rfl) (Nat.le_of_ble_eq_true rfl) dX0_init_30 (fun q30_16 H hH => ?_)
  have hH : HOK D A s.heap (((a_t, .inr (0, [.ref q8, .ref q17, .ref q24, .null, .null, .null, .int 0, .int 0, .int 0])) :: ((([] ++ [(q8, .inl (k 0, 7770, .inl fun _ => 0))]) ++ [(q17, .inl (k 2, 512, .inl fun _ => 0))]) ++ [(q24, .inl (k 0, 4, .inl fun _ => 0))])) ++ [(q30_16, .inr (4, [.null, .null]))]) H locs := hH
  refine lv_dup hx hb dX0_init_33 rfl ?_
  refine gn_IN (host := "DistrictPlanner") (pre := ((a_t, .inr (0, [.ref q8, .ref q17, .ref q24, .null, .null, .null, .int 0, .int 0, .int 0])) :: ((([] ++ [(q8, .inl (k 0, 7770, .inl fun _ => 0))]) ++ [(q17, .inl (k 2, 512, .inl fun _ => 0))]) ++ [(q24, .inl (k 0, 4, .inl fun _ => 0))]))) (new := newX4 k q30_16) hTs ⟨hx, hb, hml, hown, hts⟩ (mX4_init l Ts hTs D k H.size q30_16) (by decide +kernel) u_im_X4_init u_in_X4 u_co_X4_init rfl hd_X4_init ⟨Nat.le_of_ble_eq_true rfl, Nat.le_of_ble_eq_true rfl⟩ ⟨rfl, rfl⟩ hK hC hH hA hl.1 (Nat.le_of_ble_eq_true rfl) dX0_init_34 ⟨Nat.le_of_ble_eq_true rfl, Nat.le_of_ble_eq_true rfl⟩ (fun b34_18 H locs hH => ?_)
  have hH : HOK D A s.heap ((a_t, .inr (0, [.ref q8, .ref q17, .ref q24, .null, .null, .null, .int 0, .int 0, .int 0])) :: (((([] ++ [(q8, .inl (k 0, 7770, .inl fun _ => 0))]) ++ [(q17, .inl (k 2, 512, .inl fun _ => 0))]) ++ [(q24, .inl (k 0, 4, .inl fun _ => 0))]) ++ newX4 k q30_16 b34_18)) H locs := hH
  refine gk_putF (ci := 0) (C := RX0) (T := TX0) (N := 9) hx hb hts u_ws_X0 tyX0_ok nmX0 hown hK hH 0 rfl rfl 3 (by decide) u_fl_X0_25 rfl hin rfl rfl rfl (Nat.le_of_ble_eq_true rfl) dX0_init_37 ((a_t, .inr (0, [.ref q8, .ref q17, .ref q24, .ref q30_16, .null, .null, .int 0, .int 0, .int 0])) :: (((([] ++ [(q8, .inl (k 0, 7770, .inl fun _ => 0))]) ++ [(q17, .inl (k 2, 512, .inl fun _ => 0))]) ++ [(q24, .inl (k 0, 4, .inl fun _ => 0))]) ++ newX4 k q30_16 b34_18)) rfl (fun H locs hH => ?_)
  refine lv_aload_n hx hb dX0_init_40 rfl (lv_at hl 0 rfl) ?_
  refine gk_new (ci := 1) (fs := [.long 0, .long 0]) (C := RX1) (T := TX1) (N := 2) hx hb hts u_ws_X1 tyX1_ok hown u_cl_X0_29 u_is_X1 u_in_X1 hK hH hA rfl (fun j hj => by rcases (show j = 0 ∨ j = 1 by omega) with rfl | rfl <;> rfl) (Nat.le_of_ble_eq_true rfl) (Nat.le_of_ble_eq_true rfl) dX0_init_41 (fun q41_21 H hH => ?_)
  have hH : HOK D A s.heap (((a_t, .inr (0, [.ref q8, .ref q17, .ref q24, .ref q30_16, .null, .null, .int 0, .int 0, .int 0])) :: (((([] ++ [(q8, .inl (k 0, 7770, .inl fun _ => 0))]) ++ [(q17, .inl (k 2, 512, .inl fun _ => 0))]) ++ [(q24, .inl (k 0, 4, .inl fun _ => 0))]) ++ newX4 k q30_16 b34_18)) ++ [(q41_21, .inr (1, [.long 0, .long 0]))]) H locs := hH
  refine lv_dup hx hb dX0_init_44 rfl ?_
  refine gn_IN (host := "DistrictPlanner") (pre := ((a_t, .inr (0, [.ref q8, .ref q17, .ref q24, .ref q30_16, .null, .null, .int 0, .int 0, .int 0])) :: (((([] ++ [(q8, .inl (k 0, 7770, .inl fun _ => 0))]) ++ [(q17, .inl (k 2, 512, .inl fun _ => 0))]) ++ [(q24, .inl (k 0, 4, .inl fun _ => 0))]) ++ newX4 k q30_16 b34_18))) (new := newX1 k q41_21) hTs ⟨hx, hb, hml, hown, hts⟩ (mX1_init l Ts hTs D k H.size q41_21) (by decide +kernel) u_im_X1_init u_in_X1 u_co_X1_init rfl hd_X1_init ⟨Nat.le_of_ble_eq_true rfl, Nat.le_of_ble_eq_true rfl⟩ ⟨rfl, rfl⟩ hK hC hH hA hl.1 (Nat.le_of_ble_eq_true rfl) dX0_init_45 ⟨Nat.le_of_ble_eq_true rfl, Nat.le_of_ble_eq_true rfl⟩ (fun b45_23 H locs hH => ?_)
  have hH : HOK D A s.heap ((a_t, .inr (0, [.ref q8, .ref q17, .ref q24, .ref q30_16, .null, .null, .int 0, .int 0, .int 0])) :: ((((([] ++ [(q8, .inl (k 0, 7770, .inl fun _ => 0))]) ++ [(q17, .inl (k 2, 512, .inl fun _ => 0))]) ++ [(q24, .inl (k 0, 4, .inl fun _ => 0))]) ++ newX4 k q30_16 b34_18) ++ newX1 k q41_21 b45_23)) H locs := hH
  refine gk_putF (ci := 0) (C := RX0) (T := TX0) (N := 9) hx hb hts u_ws_X0 tyX0_ok nmX0 hown hK hH 0 rfl rfl 4 (by decide) u_fl_X0_32 rfl hin rfl rfl rfl (Nat.le_of_ble_eq_true rfl) dX0_init_48 ((a_t, .inr (0, [.ref q8, .ref q17, .ref q24, .ref q30_16, .ref q41_21, .null, .int 0, .int 0, .int 0])) :: ((((([] ++ [(q8, .inl (k 0, 7770, .inl fun _ => 0))]) ++ [(q17, .inl (k 2, 512, .inl fun _ => 0))]) ++ [(q24, .inl (k 0, 4, .inl fun _ => 0))]) ++ newX4 k q30_16 b34_18) ++ newX1 k q41_21 b45_23)) rfl (fun H locs hH => ?_)
  refine lv_aload_n hx hb dX0_init_51 rfl (lv_at hl 0 rfl) ?_
  refine gk_new (ci := 1) (fs := [.long 0, .long 0]) (C := RX1) (T := TX1) (N := 2) hx hb hts u_ws_X1 tyX1_ok hown u_cl_X0_29 u_is_X1 u_in_X1 hK hH hA rfl (fun j hj => by rcases (show j = 0 ∨ j = 1 by omega) with rfl | rfl <;> rfl) (Nat.le_of_ble_eq_true rfl) (Nat.le_of_ble_eq_true rfl) dX0_init_52 (fun q52_26 H hH => ?_)
  have hH : HOK D A s.heap (((a_t, .inr (0, [.ref q8, .ref q17, .ref q24, .ref q30_16, .ref q41_21, .null, .int 0, .int 0, .int 0])) :: ((((([] ++ [(q8, .inl (k 0, 7770, .inl fun _ => 0))]) ++ [(q17, .inl (k 2, 512, .inl fun _ => 0))]) ++ [(q24, .inl (k 0, 4, .inl fun _ => 0))]) ++ newX4 k q30_16 b34_18) ++ newX1 k q41_21 b45_23)) ++ [(q52_26, .inr (1, [.long 0, .long 0]))]) H locs := hH
  refine lv_dup hx hb dX0_init_55 rfl ?_
  refine gn_IN (host := "DistrictPlanner") (pre := ((a_t, .inr (0, [.ref q8, .ref q17, .ref q24, .ref q30_16, .ref q41_21, .null, .int 0, .int 0, .int 0])) :: ((((([] ++ [(q8, .inl (k 0, 7770, .inl fun _ => 0))]) ++ [(q17, .inl (k 2, 512, .inl fun _ => 0))]) ++ [(q24, .inl (k 0, 4, .inl fun _ => 0))]) ++ newX4 k q30_16 b34_18) ++ newX1 k q41_21 b45_23))) (new := newX1 k q52_26) hTs ⟨hx, hb, hml, hown, hts⟩ (mX1_init l Ts hTs D k H.size q52_26) (by decide +kernel) u_im_X1_init u_in_X1 u_co_X1_init rfl hd_X1_init ⟨Nat.le_of_ble_eq_true rfl, Nat.le_of_ble_eq_true rfl⟩ ⟨rfl, rfl⟩ hK hC hH hA hl.1 (Nat.le_of_ble_eq_true rfl) dX0_init_56 ⟨Nat.le_of_ble_eq_true rfl, Nat.le_of_ble_eq_true rfl⟩ (fun b56_28 H locs hH => ?_)
  have hH : HOK D A s.heap ((a_t, .inr (0, [.ref q8, .ref q17, .ref q24, .ref q30_16, .ref q41_21, .null, .int 0, .int 0, .int 0])) :: (((((([] ++ [(q8, .inl (k 0, 7770, .inl fun _ => 0))]) ++ [(q17, .inl (k 2, 512, .inl fun _ => 0))]) ++ [(q24, .inl (k 0, 4, .inl fun _ => 0))]) ++ newX4 k q30_16 b34_18) ++ newX1 k q41_21 b45_23) ++ newX1 k q52_26 b56_28)) H locs := hH
  refine gk_putF (ci := 0) (C := RX0) (T := TX0) (N := 9) hx hb hts u_ws_X0 tyX0_ok nmX0 hown hK hH 0 rfl rfl 5 (by decide) u_fl_X0_36 rfl hin rfl rfl rfl (Nat.le_of_ble_eq_true rfl) dX0_init_59 ((a_t, .inr (0, [.ref q8, .ref q17, .ref q24, .ref q30_16, .ref q41_21, .ref q52_26, .int 0, .int 0, .int 0])) :: (((((([] ++ [(q8, .inl (k 0, 7770, .inl fun _ => 0))]) ++ [(q17, .inl (k 2, 512, .inl fun _ => 0))]) ++ [(q24, .inl (k 0, 4, .inl fun _ => 0))]) ++ newX4 k q30_16 b34_18) ++ newX1 k q41_21 b45_23) ++ newX1 k q52_26 b56_28)) rfl (fun H locs hH => ?_)
  refine lv_aload_n hx hb dX0_init_62 rfl (lv_at hl 0 rfl) ?_
  refine lv_iconst (v := 0) hx hb dX0_init_63 (by decide) ?_
  refine gk_put (ci := 0) (C := RX0) (T := TX0) (N := 9) hx hb hts u_ws_X0 tyX0_ok nmX0 hown hK hH 0 rfl rfl 6 (by decide) u_fl_X0_39 rfl rfl rfl (Nat.le_of_ble_eq_true rfl) dX0_init_64 ((a_t, .inr (0, [.ref q8, .ref q17, .ref q24, .ref q30_16, .ref q41_21, .ref q52_26, .int 0, .int 0, .int 0])) :: (((((([] ++ [(q8, .inl (k 0, 7770, .inl fun _ => 0))]) ++ [(q17, .inl (k 2, 512, .inl fun _ => 0))]) ++ [(q24, .inl (k 0, 4, .inl fun _ => 0))]) ++ newX4 k q30_16 b34_18) ++ newX1 k q41_21 b45_23) ++ newX1 k q52_26 b56_28)) rfl (fun H locs hH => ?_)
  refine lv_aload_n hx hb dX0_init_67 rfl (lv_at hl 0 rfl) ?_
  refine lv_iconst (v := 0) hx hb dX0_init_68 (by decide) ?_
  refine gk_put (ci := 0) (C := RX0) (T := TX0) (N := 9) hx hb hts u_ws_X0 tyX0_ok nmX0 hown hK hH 0 rfl rfl 7 (by decide) u_fl_X0_43 rfl rfl rfl (Nat.le_of_ble_eq_true rfl) dX0_init_69 ((a_t, .inr (0, [.ref q8, .ref q17, .ref q24, .ref q30_16, .ref q41_21, .ref q52_26, .int 0, .int 0, .int 0])) :: (((((([] ++ [(q8, .inl (k 0, 7770, .inl fun _ => 0))]) ++ [(q17, .inl (k 2, 512, .inl fun _ => 0))]) ++ [(q24, .inl (k 0, 4, .inl fun _ => 0))]) ++ newX4 k q30_16 b34_18) ++ newX1 k q41_21 b45_23) ++ newX1 k q52_26 b56_28)) rfl (fun H locs hH => ?_)
  refine lv_aload_n hx hb dX0_init_72 rfl (lv_at hl 0 rfl) ?_
  refine lv_iconst (v := 0) hx hb dX0_init_73 (by decide) ?_
  refine gk_put (ci := 0) (C := RX0) (T := TX0) (N := 9) hx hb hts u_ws_X0 tyX0_ok nmX0 hown hK hH 0 rfl rfl 8 (by decide) u_fl_X0_47 rfl rfl rfl (Nat.le_of_ble_eq_true rfl) dX0_init_74 ((a_t, .inr (0, [.ref q8, .ref q17, .ref q24, .ref q30_16, .ref q41_21, .ref q52_26, .int 0, .int 0, .int 0])) :: (((((([] ++ [(q8, .inl (k 0, 7770, .inl fun _ => 0))]) ++ [(q17, .inl (k 2, 512, .inl fun _ => 0))]) ++ [(q24, .inl (k 0, 4, .inl fun _ => 0))]) ++ newX4 k q30_16 b34_18) ++ newX1 k q41_21 b45_23) ++ newX1 k q52_26 b56_28)) rfl (fun H locs hH => ?_)
  have hH : HOK D A s.heap (newX0 k a_t (fun j => [q8, q17, q24, q30_16, (b34_18 0), (b34_18 1), q41_21, q52_26].getD j 0)) H locs := hH
  exact gn_end (fun j => [q8, q17, q24, q30_16, (b34_18 0), (b34_18 1), q41_21, q52_26].getD j 0) hx hb hr hlocks hQ hK hH hAe dX0_init_77
