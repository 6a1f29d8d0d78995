set_option maxHeartbeats 4000000 in
set_option maxRecDepth 100000 in
theorem mX5_takeElements_tp1 (l : Launch) (Ts : List Cond) (hTs : ∀ w, w ∈ Ts ↔ w ∈ uT) (D : va_G) (k : Nat → ClassId) (sz : Nat) (a_t : Nat) (a_t_whole : Nat) (a_t_rough : Nat) (t_isExact : Int32) (t_rough : Nat → UInt32) (t_whole : Nat → Int32) (v_t_size : Value) (x2 : Int32) (r : (Nat → UInt32) × (Nat → Int32)) (h : fX5_takeElements t_rough t_whole t_isExact t_rough t_whole x2 = some r) : Met l yX5_takeElements (Cond.code yX5_takeElements cX5_takeElements 3 none :: Ts) ({ frames := 1, cells := 0, slots := 0, locals := 96 } : Room) (preM D k [.ref a_t, .ref a_t, .int x2] [(a_t, .inr (5, [.ref a_t_whole, .ref a_t_rough, v_t_size, .int t_isExact])), (a_t_rough, .inl (k 3, 4, .inr (.inr (.inl t_rough)))), (a_t_whole, .inl (k 0, 4, .inl t_whole))] sz) (postV D k [(a_t, .inr (5, [.ref a_t_whole, .ref a_t_rough, v_t_size, .int t_isExact])), (a_t_rough, .inl (k 3, 4, .inr (.inr (.inl t_rough)))), (a_t_whole, .inl (k 0, 4, .inl t_whole))] [(a_t, .inr (5, [.ref a_t_whole, .ref a_t_rough, v_t_size, .int t_isExact])), (a_t_rough, .inl (k 3, 4, .inr (.inr (.inl r.1)))), (a_t_whole, .inl (k 0, 4, .inl r.2))] sz) 0 0 (va_A [(a_t, .inr (5, [.ref a_t_whole, .ref a_t_rough, v_t_size, .int t_isExact])), (a_t_rough, .inl (k 3, 4, .inr (.inr (.inl t_rough)))), (a_t_whole, .inl (k 0, 4, .inl t_whole))] sz) := by
  refine Met.ofW (cc := cX5_takeElements) (maxL := 3) (ret := none) (by decide) rfl ?_
  intro p e s m args below meth c s₁ B hml hv
  obtain ⟨rfl, hsz, hP, hK, hD0⟩ := hv
  have hx := B.exec
  have hb := B.bytes
  have hr := B.returns
  have hts0 := atoms_spec (ws := (Cond.code yX5_takeElements cX5_takeElements 3 none :: Ts)) B.pre
  have hts : ∀ w ∈ uT, w.before _ s = true := fun w h => hts0 w (List.mem_cons_of_mem _ ((hTs w).mpr h))
  clear hts0
  have hown : s.vm.findClass RX5 = some m.cls := findClass_of_methodNamed B.named
  have hlocks := B.notSynchronized
  subst hsz
  have hD := hD0.self (sz := s.heap.size)
  generalize hAe : va_A [(a_t, .inr (5, [.ref a_t_whole, .ref a_t_rough, v_t_size, .int t_isExact])), (a_t_rough, .inl (k 3, 4, .inr (.inr (.inl t_rough)))), (a_t_whole, .inl (k 0, 4, .inl t_whole))] s.heap.size = A at hD ⊢
  have hA : ∀ q : Nat, s.heap.size ≤ q → A q := fun q h => by rw [← hAe]; exact Or.inr h
  have hH : HOK D A s.heap [(a_t, .inr (5, [.ref a_t_whole, .ref a_t_rough, v_t_size, .int t_isExact])), (a_t_rough, .inl (k 3, 4, .inr (.inr (.inl t_rough)))), (a_t_whole, .inl (k 0, 4, .inl t_whole))] s.heap [] := ⟨hP, hD, va_S.rf⟩
  have hl := lv_entry ([.ref a_t, .ref a_t, .int x2]) (n := 3) (Nat.le_of_ble_eq_true rfl)
  rw [lg_entry_eq]
  generalize (lg_sl ([.ref a_t, .ref a_t, .int x2]) ++ List.replicate (3 - (lg_sl ([.ref a_t, .ref a_t, .int x2])).length) Slot.unset).toArray = ls at hl ⊢
  have hl : lv_has ls 3 [(0, .ref a_t), (1, .ref a_t), (2, .int x2)] := hl
  generalize hQ : MQ below (postV D k [(a_t, .inr (5, [.ref a_t_whole, .ref a_t_rough, v_t_size, .int t_isExact])), (a_t_rough, .inl (k 3, 4, .inr (.inr (.inl t_rough)))), (a_t_whole, .inl (k 0, 4, .inl t_whole))] [(a_t, .inr (5, [.ref a_t_whole, .ref a_t_rough, v_t_size, .int t_isExact])), (a_t_rough, .inl (k 3, 4, .inr (.inr (.inl r.1)))), (a_t_whole, .inl (k 0, 4, .inl r.2))] s.heap.size) (List.toArray [.ref a_t, .ref a_t, .int x2]) s 0 0 A = Q
  clear hP hD hD0
  suffices K : ∀ (H : Heap) (locs : List Loc), HOK D A s.heap [(a_t, .inr (5, [.ref a_t_whole, .ref a_t_rough, v_t_size, .int t_isExact])), (a_t_rough, .inl (k 3, 4, .inr (.inr (.inl t_rough)))), (a_t_whole, .inl (k 0, 4, .inl t_whole))] H locs → W p l e ({ frames := 1, cells := 0, slots := 0, locals := 96 } : Room) s m (List.toArray [.ref a_t, .ref a_t, .int x2]) below meth c H locs 0 0 Q (F0 m 0 ls []) from K s.heap [] hH
  intro H locs hH
  rw [fX5_takeElements] at h
  refine lv_aload_n hx hb dX5_takeElements_0 rfl (lv_at hl 0 rfl) ?_
  refine gk_get (ci := 5) (C := RX5) (T := TX5) (N := 4) hx hb hts u_ws_X5 hown hK hH 0 rfl rfl 3 (by decide) u_fl_X5_23 rfl dX5_takeElements_1 ?_
  refine lv_if_eq (tgt := 24) hx hb dX5_takeElements_4 (by decide) (fun c1 => ?_) (fun c1 => ?_)
  · replace h := dc_pos c1 h
    refine lv_aload_n hx hb dX5_takeElements_24 rfl (lv_at hl 1 rfl) ?_
    refine gk_get (ci := 5) (C := RX5) (T := TX5) (N := 4) hx hb hts u_ws_X5 hown hK hH 0 rfl rfl 1 (by decide) u_fl_X5_15 rfl dX5_takeElements_25 ?_
    refine lv_iconst (v := 0) hx hb dX5_takeElements_28 (by decide) ?_
    refine lv_aload_n hx hb dX5_takeElements_29 rfl (lv_at hl 0 rfl) ?_
    refine gk_get (ci := 5) (C := RX5) (T := TX5) (N := 4) hx hb hts u_ws_X5 hown hK hH 0 rfl rfl 1 (by decide) u_fl_X5_15 rfl dX5_takeElements_30 ?_
    refine lv_iconst (v := 0) hx hb dX5_takeElements_33 (by decide) ?_
    refine lv_iload_n hx hb dX5_takeElements_34 rfl (lv_at hl 2 rfl) ?_
    obtain ⟨g2, h⟩ := dc_need h
    refine gk_copyf (n0 := 4) (n1 := 4) (ws' := [(a_t, .inr (5, [.ref a_t_whole, .ref a_t_rough, v_t_size, .int t_isExact])), (a_t_rough, .inl (k 3, 4, .inr (.inr (.inl (va_cpy t_rough t_rough 0 0 x2.toNatClampNeg))))), (a_t_whole, .inl (k 0, 4, .inl t_whole))]) hx hb (hml.trans hl.1.symm) hown (hts _ u_ml_X5_51) (hts _ u_na_System_arraycopy) (hts _ u_st_System_arraycopy) (hts _ u_in_J10) hK hH 1 1 rfl rfl g2 (by decide) (by decide) (Nat.le_of_ble_eq_true rfl) (Nat.le_of_ble_eq_true rfl) dX5_takeElements_35 rfl (fun H locs hH => ?_)
    have h := Option.some.inj h
    subst h
    exact ge_v hx hb hr hlocks hQ hK hH hAe dX5_takeElements_38
  · replace h := dc_neg c1 h
    refine lv_aload_n hx hb dX5_takeElements_7 rfl (lv_at hl 1 rfl) ?_
    refine gk_get (ci := 5) (C := RX5) (T := TX5) (N := 4) hx hb hts u_ws_X5 hown hK hH 0 rfl rfl 0 (by decide) u_fl_X5_9 rfl dX5_takeElements_8 ?_
    refine lv_iconst (v := 0) hx hb dX5_takeElements_11 (by decide) ?_
    refine lv_aload_n hx hb dX5_takeElements_12 rfl (lv_at hl 0 rfl) ?_
    refine gk_get (ci := 5) (C := RX5) (T := TX5) (N := 4) hx hb hts u_ws_X5 hown hK hH 0 rfl rfl 0 (by decide) u_fl_X5_9 rfl dX5_takeElements_13 ?_
    refine lv_iconst (v := 0) hx hb dX5_takeElements_16 (by decide) ?_
    refine lv_iload_n hx hb dX5_takeElements_17 rfl (lv_at hl 2 rfl) ?_
    obtain ⟨g3, h⟩ := dc_need h
    refine gk_copyi (n0 := 4) (n1 := 4) (ws' := [(a_t, .inr (5, [.ref a_t_whole, .ref a_t_rough, v_t_size, .int t_isExact])), (a_t_rough, .inl (k 3, 4, .inr (.inr (.inl t_rough)))), (a_t_whole, .inl (k 0, 4, .inl (va_cpy t_whole t_whole 0 0 x2.toNatClampNeg)))]) hx hb (hml.trans hl.1.symm) hown (hts _ u_ml_X5_51) (hts _ u_na_System_arraycopy) (hts _ u_st_System_arraycopy) (hts _ u_in_J10) hK hH 2 2 rfl rfl g3 (by decide) (by decide) (Nat.le_of_ble_eq_true rfl) (Nat.le_of_ble_eq_true rfl) dX5_takeElements_18 rfl (fun H locs hH => ?_)
    refine lv_goto (tgt := 38) hx hb dX5_takeElements_21 (by decide) ?_
    have h := Option.some.inj h
    subst h
    exact ge_v hx hb hr hlocks hQ hK hH hAe dX5_takeElements_38
