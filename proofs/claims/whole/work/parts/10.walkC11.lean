theorem hd_X8_readBorder : yX8_readBorder.cls = RX8 ∧ yX8_readBorder.cls ≠ "java/lang/invoke/MethodHandle" ∧ yX8_readBorder.cls ≠ "java/lang/invoke/VarHandle" ∧ (parseMethodDescriptor yX8_readBorder.desc).map (fun d => d.parameters.length) = some 0 := by decide +kernel
set_option maxHeartbeats 4000000 in
set_option maxRecDepth 100000 in
theorem mX8_readBorder (l : Launch) (Ts : List Cond) (hTs : ∀ w, w ∈ Ts ↔ w ∈ uT) (D : va_G) (k : Nat → ClassId) (sz : Nat) (a_t : Nat) (a_t_text : Nat) (t_at : Int32) (t_first : Int32) (t_length : Int32) (t_number : Int32) (t_second : Int32) (t_text : Nat → Int32) (t_third : Int32) (v_t_isCore : Value) (v_t_kind : Value) (r : Int32 × Int32 × Int32 × Int32 × Int32 × Int32) (h : fX8_readBorder t_at t_first t_length t_number t_second t_text t_third = some r) : Met l yX8_readBorder (Cond.code yX8_readBorder cX8_readBorder 1 (some .boolean) :: Ts) ({ frames := 2, cells := 0, slots := 0, locals := 41 } : Room) (preM D k [.ref a_t] [(a_t, .inr (7, [.ref a_t_text, .int t_length, .int t_at, .int t_number, v_t_kind, .int t_first, .int t_second, .int t_third, v_t_isCore])), (a_t_text, .inl (k 1, 80, .inl t_text))] sz) (postI D k r.1 [(a_t, .inr (7, [.ref a_t_text, .int t_length, .int t_at, .int t_number, v_t_kind, .int t_first, .int t_second, .int t_third, v_t_isCore])), (a_t_text, .inl (k 1, 80, .inl t_text))] [(a_t, .inr (7, [.ref a_t_text, .int t_length, .int r.2.1, .int r.2.2.2.1, v_t_kind, .int r.2.2.1, .int r.2.2.2.2.1, .int r.2.2.2.2.2, v_t_isCore])), (a_t_text, .inl (k 1, 80, .inl t_text))] sz) 0 0 (va_A [(a_t, .inr (7, [.ref a_t_text, .int t_length, .int t_at, .int t_number, v_t_kind, .int t_first, .int t_second, .int t_third, v_t_isCore])), (a_t_text, .inl (k 1, 80, .inl t_text))] sz) := by
  refine Met.ofW (cc := cX8_readBorder) (maxL := 1) (ret := (some .boolean)) (by decide) rfl ?_
  intro p e s m args below meth c s₁ B hml hv
  obtain ⟨rfl, hsz, hP, hK, hD0⟩ := hv
  have hx := B.exec
  have hb := B.bytes
  have hr := B.returns
  have hts0 := atoms_spec (ws := (Cond.code yX8_readBorder cX8_readBorder 1 (some .boolean) :: Ts)) B.pre
  have hts : ∀ w ∈ uT, w.before _ s = true := fun w h => hts0 w (List.mem_cons_of_mem _ ((hTs w).mpr h))
  clear hts0
  have hown : s.vm.findClass RX8 = some m.cls := findClass_of_methodNamed B.named
  have hlocks := B.notSynchronized
  subst hsz
  have hD := hD0.self (sz := s.heap.size)
  generalize hAe : va_A [(a_t, .inr (7, [.ref a_t_text, .int t_length, .int t_at, .int t_number, v_t_kind, .int t_first, .int t_second, .int t_third, v_t_isCore])), (a_t_text, .inl (k 1, 80, .inl t_text))] s.heap.size = A at hD ⊢
  have hA : ∀ q : Nat, s.heap.size ≤ q → A q := fun q h => by rw [← hAe]; exact Or.inr h
  have hH : HOK D A s.heap [(a_t, .inr (7, [.ref a_t_text, .int t_length, .int t_at, .int t_number, v_t_kind, .int t_first, .int t_second, .int t_third, v_t_isCore])), (a_t_text, .inl (k 1, 80, .inl t_text))] s.heap [] := ⟨hP, hD, va_S.rf⟩
  have hl := lv_entry ([.ref a_t]) (n := 1) (Nat.le_of_ble_eq_true rfl)
  rw [lg_entry_eq]
  generalize (lg_sl ([.ref a_t]) ++ List.replicate (1 - (lg_sl ([.ref a_t])).length) Slot.unset).toArray = ls at hl ⊢
  have hl : lv_has ls 1 [(0, .ref a_t)] := hl
  generalize hQ : MQ below (postI D k r.1 [(a_t, .inr (7, [.ref a_t_text, .int t_length, .int t_at, .int t_number, v_t_kind, .int t_first, .int t_second, .int t_third, v_t_isCore])), (a_t_text, .inl (k 1, 80, .inl t_text))] [(a_t, .inr (7, [.ref a_t_text, .int t_length, .int r.2.1, .int r.2.2.2.1, v_t_kind, .int r.2.2.1, .int r.2.2.2.2.1, .int r.2.2.2.2.2, v_t_isCore])), (a_t_text, .inl (k 1, 80, .inl t_text))] s.heap.size) (List.toArray [.ref a_t]) s 0 0 A = Q
  clear hP hD hD0
  suffices K : ∀ (H : Heap) (locs : List Loc), HOK D A s.heap [(a_t, .inr (7, [.ref a_t_text, .int t_length, .int t_at, .int t_number, v_t_kind, .int t_first, .int t_second, .int t_third, v_t_isCore])), (a_t_text, .inl (k 1, 80, .inl t_text))] H locs → W p l e ({ frames := 2, cells := 0, slots := 0, locals := 41 } : Room) s m (List.toArray [.ref a_t]) below meth c H locs 0 0 Q (F0 m 0 ls []) from K s.heap [] hH
  intro H locs hH
  rw [fX8_readBorder] at h
  refine lv_aload_n hx hb dX8_readBorder_0 rfl (lv_at hl 0 rfl) ?_
  obtain ⟨q1, hqq1, h⟩ := dc_bind h
  refine gc_Vi (ws' := [(a_t, .inr (7, [.ref a_t_text, .int t_length, .int q1.2.1, .int q1.2.2, v_t_kind, .int t_first, .int t_second, .int t_third, v_t_isCore])), (a_t_text, .inl (k 1, 80, .inl t_text))]) (As := []) (rest := []) (n := 0) (ci := 7) (cq := (RX8, TX8, 9)) hTs ⟨hx, hb, hml, hown, hts⟩ (mX8_readNumber l Ts hTs D k H.size a_t a_t_text t_at t_length t_number t_text (.int t_first) v_t_isCore v_t_kind (.int t_second) (.int t_third) q1 hqq1) u_ml_X8_86 u_im_X8_readNumber u_se_X8_readNumber u_in_X8 u_co_X8_readNumber hd_X8_readNumber ⟨Nat.le_of_ble_eq_true rfl, Nat.le_of_ble_eq_true rfl⟩ ⟨rfl, rfl⟩ hK hH hA (cutM (isC := [0, 1]) [some 0, some 1] 2 rfl rfl rfl rfl rfl rfl rfl) rfl rfl rfl rfl hl.1 (Nat.le_of_ble_eq_true rfl) dX8_readBorder_1 ⟨Nat.le_of_ble_eq_true rfl, Nat.le_of_ble_eq_true rfl⟩ (fun H locs hH => ?_)
  refine lv_if_ne (tgt := 9) hx hb dX8_readBorder_4 (by decide) (fun c2 => ?_) (fun c2 => ?_)
  · replace h := dc_neg c2 h
    refine lv_aload_n hx hb dX8_readBorder_9 rfl (lv_at hl 0 rfl) ?_
    refine lv_aload_n hx hb dX8_readBorder_10 rfl (lv_at hl 0 rfl) ?_
    refine gk_get (ci := 7) (C := RX8) (T := TX8) (N := 9) hx hb hts u_ws_X8 hown hK hH 0 rfl rfl 3 (by decide) u_fl_X8_22 rfl dX8_readBorder_11 ?_
    refine gk_put (ci := 7) (C := RX8) (T := TX8) (N := 9) hx hb hts u_ws_X8 tyX8_ok nmX8 hown hK hH 0 rfl rfl 5 (by decide) u_fl_X8_28 rfl rfl rfl (Nat.le_of_ble_eq_true rfl) dX8_readBorder_14 [(a_t, .inr (7, [.ref a_t_text, .int t_length, .int q1.2.1, .int q1.2.2, v_t_kind, .int q1.2.2, .int t_second, .int t_third, v_t_isCore])), (a_t_text, .inl (k 1, 80, .inl t_text))] rfl (fun H locs hH => ?_)
    refine lv_aload_n hx hb dX8_readBorder_17 rfl (lv_at hl 0 rfl) ?_
    refine lv_bipush (v := 45) hx hb dX8_readBorder_18 (by decide) ?_
    obtain ⟨q3, hqq3, h⟩ := dc_bind h
    refine gc_Vi (ws' := [(a_t, .inr (7, [.ref a_t_text, .int t_length, .int q3.2, .int q1.2.2, v_t_kind, .int q1.2.2, .int t_second, .int t_third, v_t_isCore])), (a_t_text, .inl (k 1, 80, .inl t_text))]) (As := [.int (45 : Int32)]) (rest := []) (n := 1) (ci := 7) (cq := (RX8, TX8, 9)) hTs ⟨hx, hb, hml, hown, hts⟩ (mX8_take l Ts hTs D k H.size a_t a_t_text q1.2.1 t_length t_text (.int q1.2.2) v_t_isCore v_t_kind (.int q1.2.2) (.int t_second) (.int t_third) (45 : Int32) q3 hqq3) u_ml_X8_49 u_im_X8_take u_se_X8_take u_in_X8 u_co_X8_take hd_X8_take ⟨Nat.le_of_ble_eq_true rfl, Nat.le_of_ble_eq_true rfl⟩ ⟨rfl, rfl⟩ hK hH hA (cutM (isC := [0, 1]) [some 0, some 1] 2 rfl rfl rfl rfl rfl rfl rfl) rfl rfl rfl rfl hl.1 (Nat.le_of_ble_eq_true rfl) dX8_readBorder_20 ⟨Nat.le_of_ble_eq_true rfl, Nat.le_of_ble_eq_true rfl⟩ (fun H locs hH => ?_)
    refine lv_if_eq (tgt := 33) hx hb dX8_readBorder_23 (by decide) (fun c4 => ?_) (fun c4 => ?_)
    · replace h := dc_pos c4 h
      refine lv_iconst (v := 0) hx hb dX8_readBorder_33 (by decide) ?_
      have h := Option.some.inj h
      subst h
      exact ge_z hx hb hr rfl hlocks hQ hK hH hAe rfl dX8_readBorder_34
    · replace h := dc_neg c4 h
      refine lv_aload_n hx hb dX8_readBorder_26 rfl (lv_at hl 0 rfl) ?_
      obtain ⟨q5, hqq5, h⟩ := dc_bind h
      refine gc_Vi (ws' := [(a_t, .inr (7, [.ref a_t_text, .int t_length, .int q5.2.1, .int q5.2.2, v_t_kind, .int q1.2.2, .int t_second, .int t_third, v_t_isCore])), (a_t_text, .inl (k 1, 80, .inl t_text))]) (As := []) (rest := []) (n := 0) (ci := 7) (cq := (RX8, TX8, 9)) hTs ⟨hx, hb, hml, hown, hts⟩ (mX8_readNumber l Ts hTs D k H.size a_t a_t_text q3.2 t_length q1.2.2 t_text (.int q1.2.2) v_t_isCore v_t_kind (.int t_second) (.int t_third) q5 hqq5) u_ml_X8_86 u_im_X8_readNumber u_se_X8_readNumber u_in_X8 u_co_X8_readNumber hd_X8_readNumber ⟨Nat.le_of_ble_eq_true rfl, Nat.le_of_ble_eq_true rfl⟩ ⟨rfl, rfl⟩ hK hH hA (cutM (isC := [0, 1]) [some 0, some 1] 2 rfl rfl rfl rfl rfl rfl rfl) rfl rfl rfl rfl hl.1 (Nat.le_of_ble_eq_true rfl) dX8_readBorder_27 ⟨Nat.le_of_ble_eq_true rfl, Nat.le_of_ble_eq_true rfl⟩ (fun H locs hH => ?_)
      refine lv_if_ne (tgt := 35) hx hb dX8_readBorder_30 (by decide) (fun c6 => ?_) (fun c6 => ?_)
      · replace h := dc_neg c6 h
        refine lv_aload_n hx hb dX8_readBorder_35 rfl (lv_at hl 0 rfl) ?_
        refine lv_aload_n hx hb dX8_readBorder_36 rfl (lv_at hl 0 rfl) ?_
        refine gk_get (ci := 7) (C := RX8) (T := TX8) (N := 9) hx hb hts u_ws_X8 hown hK hH 0 rfl rfl 3 (by decide) u_fl_X8_22 rfl dX8_readBorder_37 ?_
        refine gk_put (ci := 7) (C := RX8) (T := TX8) (N := 9) hx hb hts u_ws_X8 tyX8_ok nmX8 hown hK hH 0 rfl rfl 6 (by decide) u_fl_X8_31 rfl rfl rfl (Nat.le_of_ble_eq_true rfl) dX8_readBorder_40 [(a_t, .inr (7, [.ref a_t_text, .int t_length, .int q5.2.1, .int q5.2.2, v_t_kind, .int q1.2.2, .int q5.2.2, .int t_third, v_t_isCore])), (a_t_text, .inl (k 1, 80, .inl t_text))] rfl (fun H locs hH => ?_)
        refine lv_aload_n hx hb dX8_readBorder_43 rfl (lv_at hl 0 rfl) ?_
        refine lv_bipush (v := 58) hx hb dX8_readBorder_44 (by decide) ?_
        obtain ⟨q7, hqq7, h⟩ := dc_bind h
        refine gc_Vi (ws' := [(a_t, .inr (7, [.ref a_t_text, .int t_length, .int q7.2, .int q5.2.2, v_t_kind, .int q1.2.2, .int q5.2.2, .int t_third, v_t_isCore])), (a_t_text, .inl (k 1, 80, .inl t_text))]) (As := [.int (58 : Int32)]) (rest := []) (n := 1) (ci := 7) (cq := (RX8, TX8, 9)) hTs ⟨hx, hb, hml, hown, hts⟩ (mX8_take l Ts hTs D k H.size a_t a_t_text q5.2.1 t_length t_text (.int q1.2.2) v_t_isCore v_t_kind (.int q5.2.2) (.int q5.2.2) (.int t_third) (58 : Int32) q7 hqq7) u_ml_X8_49 u_im_X8_take u_se_X8_take u_in_X8 u_co_X8_take hd_X8_take ⟨Nat.le_of_ble_eq_true rfl, Nat.le_of_ble_eq_true rfl⟩ ⟨rfl, rfl⟩ hK hH hA (cutM (isC := [0, 1]) [some 0, some 1] 2 rfl rfl rfl rfl rfl rfl rfl) rfl rfl rfl rfl hl.1 (Nat.le_of_ble_eq_true rfl) dX8_readBorder_46 ⟨Nat.le_of_ble_eq_true rfl, Nat.le_of_ble_eq_true rfl⟩ (fun H locs hH => ?_)
        refine lv_if_eq (tgt := 59) hx hb dX8_readBorder_49 (by decide) (fun c8 => ?_) (fun c8 => ?_)
        · replace h := dc_pos c8 h
          refine lv_iconst (v := 0) hx hb dX8_readBorder_59 (by decide) ?_
          have h := Option.some.inj h
          subst h
          exact ge_z hx hb hr rfl hlocks hQ hK hH hAe rfl dX8_readBorder_60
        · replace h := dc_neg c8 h
          refine lv_aload_n hx hb dX8_readBorder_52 rfl (lv_at hl 0 rfl) ?_
          obtain ⟨q9, hqq9, h⟩ := dc_bind h
          refine gc_Vi (ws' := [(a_t, .inr (7, [.ref a_t_text, .int t_length, .int q9.2.1, .int q9.2.2, v_t_kind, .int q1.2.2, .int q5.2.2, .int t_third, v_t_isCore])), (a_t_text, .inl (k 1, 80, .inl t_text))]) (As := []) (rest := []) (n := 0) (ci := 7) (cq := (RX8, TX8, 9)) hTs ⟨hx, hb, hml, hown, hts⟩ (mX8_readDigit l Ts hTs D k H.size a_t a_t_text q7.2 t_length q5.2.2 t_text (.int q1.2.2) v_t_isCore v_t_kind (.int q5.2.2) (.int t_third) q9 hqq9) u_ml_X8_89 u_im_X8_readDigit u_se_X8_readDigit u_in_X8 u_co_X8_readDigit hd_X8_readDigit ⟨Nat.le_of_ble_eq_true rfl, Nat.le_of_ble_eq_true rfl⟩ ⟨rfl, rfl⟩ hK hH hA (cutM (isC := [0, 1]) [some 0, some 1] 2 rfl rfl rfl rfl rfl rfl rfl) rfl rfl rfl rfl hl.1 (Nat.le_of_ble_eq_true rfl) dX8_readBorder_53 ⟨Nat.le_of_ble_eq_true rfl, Nat.le_of_ble_eq_true rfl⟩ (fun H locs hH => ?_)
          refine lv_if_ne (tgt := 61) hx hb dX8_readBorder_56 (by decide) (fun c10 => ?_) (fun c10 => ?_)
          · replace h := dc_neg c10 h
            refine lv_aload_n hx hb dX8_readBorder_61 rfl (lv_at hl 0 rfl) ?_
            refine lv_aload_n hx hb dX8_readBorder_62 rfl (lv_at hl 0 rfl) ?_
            refine gk_get (ci := 7) (C := RX8) (T := TX8) (N := 9) hx hb hts u_ws_X8 hown hK hH 0 rfl rfl 3 (by decide) u_fl_X8_22 rfl dX8_readBorder_63 ?_
            refine gk_put (ci := 7) (C := RX8) (T := TX8) (N := 9) hx hb hts u_ws_X8 tyX8_ok nmX8 hown hK hH 0 rfl rfl 7 (by decide) u_fl_X8_34 rfl rfl rfl (Nat.le_of_ble_eq_true rfl) dX8_readBorder_66 [(a_t, .inr (7, [.ref a_t_text, .int t_length, .int q9.2.1, .int q9.2.2, v_t_kind, .int q1.2.2, .int q5.2.2, .int q9.2.2, v_t_isCore])), (a_t_text, .inl (k 1, 80, .inl t_text))] rfl (fun H locs hH => ?_)
            refine lv_iconst (v := 1) hx hb dX8_readBorder_69 (by decide) ?_
            have h := Option.some.inj h
            subst h
            exact ge_z hx hb hr rfl hlocks hQ hK hH hAe rfl dX8_readBorder_70
          · replace h := dc_pos c10 h
            refine lv_iconst (v := 0) hx hb dX8_readBorder_59 (by decide) ?_
            have h := Option.some.inj h
            subst h
            exact ge_z hx hb hr rfl hlocks hQ hK hH hAe rfl dX8_readBorder_60
      · replace h := dc_pos c6 h
        refine lv_iconst (v := 0) hx hb dX8_readBorder_33 (by decide) ?_
        have h := Option.some.inj h
        subst h
        exact ge_z hx hb hr rfl hlocks hQ hK hH hAe rfl dX8_readBorder_34
  · replace h := dc_pos c2 h
    refine lv_iconst (v := 0) hx hb dX8_readBorder_7 (by decide) ?_
    have h := Option.some.inj h
    subst h
    exact ge_z hx hb hr rfl hlocks hQ hK hH hAe rfl dX8_readBorder_8
theorem hd_X8_readOuter : yX8_readOuter.cls = RX8 ∧ yX8_readOuter.cls ≠ "java/lang/invoke/MethodHandle" ∧ yX8_readOuter.cls ≠ "java/lang/invoke/VarHandle" ∧ (parseMethodDescriptor yX8_readOuter.desc).map (fun d => d.parameters.length) = some 0 := by decide +kernel
set_option maxHeartbeats 4000000 in
set_option maxRecDepth 100000 in
theorem mX8_readOuter (l : Launch) (Ts : List Cond) (hTs : ∀ w, w ∈ Ts ↔ w ∈ uT) (D : va_G) (k : Nat → ClassId) (sz : Nat) (a_t : Nat) (a_t_text : Nat) (t_at : Int32) (t_first : Int32) (t_length : Int32) (t_number : Int32) (t_second : Int32) (t_text : Nat → Int32) (v_t_isCore : Value) (v_t_kind : Value) (v_t_third : Value) (r : Int32 × Int32 × Int32 × Int32 × Int32) (h : fX8_readOuter t_at t_first t_length t_number t_second t_text = some r) : Met l yX8_readOuter (Cond.code yX8_readOuter cX8_readOuter 1 (some .boolean) :: Ts) ({ frames := 2, cells := 0, slots := 0, locals := 41 } : Room) (preM D k [.ref a_t] [(a_t, .inr (7, [.ref a_t_text, .int t_length, .int t_at, .int t_number, v_t_kind, .int t_first, .int t_second, v_t_third, v_t_isCore])), (a_t_text, .inl (k 1, 80, .inl t_text))] sz) (postI D k r.1 [(a_t, .inr (7, [.ref a_t_text, .int t_length, .int t_at, .int t_number, v_t_kind, .int t_first, .int t_second, v_t_third, v_t_isCore])), (a_t_text, .inl (k 1, 80, .inl t_text))] [(a_t, .inr (7, [.ref a_t_text, .int t_length, .int r.2.1, .int r.2.2.2.1, v_t_kind, .int r.2.2.1, .int r.2.2.2.2, v_t_third, v_t_isCore])), (a_t_text, .inl (k 1, 80, .inl t_text))] sz) 0 0 (va_A [(a_t, .inr (7, [.ref a_t_text, .int t_length, .int t_at, .int t_number, v_t_kind, .int t_first, .int t_second, v_t_third, v_t_isCore])), (a_t_text, .inl (k 1, 80, .inl t_text))] sz) := by
  refine Met.ofW (cc := cX8_readOuter) (maxL := 1) (ret := (some .boolean)) (by decide) rfl ?_
  intro p e s m args below meth c s₁ B hml hv
  obtain ⟨rfl, hsz, hP, hK, hD0⟩ := hv
  have hx := B.exec
  have hb := B.bytes
  have hr := B.returns
  have hts0 := atoms_spec (ws := (Cond.code yX8_readOuter cX8_readOuter 1 (some .boolean) :: Ts)) B.pre
  have hts : ∀ w ∈ uT, w.before _ s = true := fun w h => hts0 w (List.mem_cons_of_mem _ ((hTs w).mpr h))
  clear hts0
  have hown : s.vm.findClass RX8 = some m.cls := findClass_of_methodNamed B.named
  have hlocks := B.notSynchronized
  subst hsz
  have hD := hD0.self (sz := s.heap.size)
  generalize hAe : va_A [(a_t, .inr (7, [.ref a_t_text, .int t_length, .int t_at, .int t_number, v_t_kind, .int t_first, .int t_second, v_t_third, v_t_isCore])), (a_t_text, .inl (k 1, 80, .inl t_text))] s.heap.size = A at hD ⊢
  have hA : ∀ q : Nat, s.heap.size ≤ q → A q := fun q h => by rw [← hAe]; exact Or.inr h
  have hH : HOK D A s.heap [(a_t, .inr (7, [.ref a_t_text, .int t_length, .int t_at, .int t_number, v_t_kind, .int t_first, .int t_second, v_t_third, v_t_isCore])), (a_t_text, .inl (k 1, 80, .inl t_text))] s.heap [] := ⟨hP, hD, va_S.rf⟩
  have hl := lv_entry ([.ref a_t]) (n := 1) (Nat.le_of_ble_eq_true rfl)
  rw [lg_entry_eq]
  generalize (lg_sl ([.ref a_t]) ++ List.replicate (1 - (lg_sl ([.ref a_t])).length) Slot.unset).toArray = ls at hl ⊢
  have hl : lv_has ls 1 [(0, .ref a_t)] := hl
  generalize hQ : MQ below (postI D k r.1 [(a_t, .inr (7, [.ref a_t_text, .int t_length, .int t_at, .int t_number, v_t_kind, .int t_first, .int t_second, v_t_third, v_t_isCore])), (a_t_text, .inl (k 1, 80, .inl t_text))] [(a_t, .inr (7, [.ref a_t_text, .int t_length, .int r.2.1, .int r.2.2.2.1, v_t_kind, .int r.2.2.1, .int r.2.2.2.2, v_t_third, v_t_isCore])), (a_t_text, .inl (k 1, 80, .inl t_text))] s.heap.size) (List.toArray [.ref a_t]) s 0 0 A = Q
  clear hP hD hD0
  suffices K : ∀ (H : Heap) (locs : List Loc), HOK D A s.heap [(a_t, .inr (7, [.ref a_t_text, .int t_length, .int t_at, .int t_number, v_t_kind, .int t_first, .int t_second, v_t_third, v_t_isCore])), (a_t_text, .inl (k 1, 80, .inl t_text))] H locs → W p l e ({ frames := 2, cells := 0, slots := 0, locals := 41 } : Room) s m (List.toArray [.ref a_t]) below meth c H locs 0 0 Q (F0 m 0 ls []) from K s.heap [] hH
  intro H locs hH
  rw [fX8_readOuter] at h
  refine lv_aload_n hx hb dX8_readOuter_0 rfl (lv_at hl 0 rfl) ?_
  obtain ⟨q1, hqq1, h⟩ := dc_bind h
  refine gc_Vi (ws' := [(a_t, .inr (7, [.ref a_t_text, .int t_length, .int q1.2.1, .int q1.2.2, v_t_kind, .int t_first, .int t_second, v_t_third, v_t_isCore])), (a_t_text, .inl (k 1, 80, .inl t_text))]) (As := []) (rest := []) (n := 0) (ci := 7) (cq := (RX8, TX8, 9)) hTs ⟨hx, hb, hml, hown, hts⟩ (mX8_readNumber l Ts hTs D k H.size a_t a_t_text t_at t_length t_number t_text (.int t_first) v_t_isCore v_t_kind (.int t_second) v_t_third q1 hqq1) u_ml_X8_86 u_im_X8_readNumber u_se_X8_readNumber u_in_X8 u_co_X8_readNumber hd_X8_readNumber ⟨Nat.le_of_ble_eq_true rfl, Nat.le_of_ble_eq_true rfl⟩ ⟨rfl, rfl⟩ hK hH hA (cutM (isC := [0, 1]) [some 0, some 1] 2 rfl rfl rfl rfl rfl rfl rfl) rfl rfl rfl rfl hl.1 (Nat.le_of_ble_eq_true rfl) dX8_readOuter_1 ⟨Nat.le_of_ble_eq_true rfl, Nat.le_of_ble_eq_true rfl⟩ (fun H locs hH => ?_)
  refine lv_if_ne (tgt := 9) hx hb dX8_readOuter_4 (by decide) (fun c2 => ?_) (fun c2 => ?_)
  · replace h := dc_neg c2 h
    refine lv_aload_n hx hb dX8_readOuter_9 rfl (lv_at hl 0 rfl) ?_
    refine lv_aload_n hx hb dX8_readOuter_10 rfl (lv_at hl 0 rfl) ?_
    refine gk_get (ci := 7) (C := RX8) (T := TX8) (N := 9) hx hb hts u_ws_X8 hown hK hH 0 rfl rfl 3 (by decide) u_fl_X8_22 rfl dX8_readOuter_11 ?_
    refine gk_put (ci := 7) (C := RX8) (T := TX8) (N := 9) hx hb hts u_ws_X8 tyX8_ok nmX8 hown hK hH 0 rfl rfl 5 (by decide) u_fl_X8_28 rfl rfl rfl (Nat.le_of_ble_eq_true rfl) dX8_readOuter_14 [(a_t, .inr (7, [.ref a_t_text, .int t_length, .int q1.2.1, .int q1.2.2, v_t_kind, .int q1.2.2, .int t_second, v_t_third, v_t_isCore])), (a_t_text, .inl (k 1, 80, .inl t_text))] rfl (fun H locs hH => ?_)
    refine lv_aload_n hx hb dX8_readOuter_17 rfl (lv_at hl 0 rfl) ?_
    refine lv_bipush (v := 58) hx hb dX8_readOuter_18 (by decide) ?_
    obtain ⟨q3, hqq3, h⟩ := dc_bind h
    refine gc_Vi (ws' := [(a_t, .inr (7, [.ref a_t_text, .int t_length, .int q3.2, .int q1.2.2, v_t_kind, .int q1.2.2, .int t_second, v_t_third, v_t_isCore])), (a_t_text, .inl (k 1, 80, .inl t_text))]) (As := [.int (58 : Int32)]) (rest := []) (n := 1) (ci := 7) (cq := (RX8, TX8, 9)) hTs ⟨hx, hb, hml, hown, hts⟩ (mX8_take l Ts hTs D k H.size a_t a_t_text q1.2.1 t_length t_text (.int q1.2.2) v_t_isCore v_t_kind (.int q1.2.2) (.int t_second) v_t_third (58 : Int32) q3 hqq3) u_ml_X8_49 u_im_X8_take u_se_X8_take u_in_X8 u_co_X8_take hd_X8_take ⟨Nat.le_of_ble_eq_true rfl, Nat.le_of_ble_eq_true rfl⟩ ⟨rfl, rfl⟩ hK hH hA (cutM (isC := [0, 1]) [some 0, some 1] 2 rfl rfl rfl rfl rfl rfl rfl) rfl rfl rfl rfl hl.1 (Nat.le_of_ble_eq_true rfl) dX8_readOuter_20 ⟨Nat.le_of_ble_eq_true rfl, Nat.le_of_ble_eq_true rfl⟩ (fun H locs hH => ?_)
    refine lv_if_eq (tgt := 33) hx hb dX8_readOuter_23 (by decide) (fun c4 => ?_) (fun c4 => ?_)
    · replace h := dc_pos c4 h
      refine lv_iconst (v := 0) hx hb dX8_readOuter_33 (by decide) ?_
      have h := Option.some.inj h
      subst h
      exact ge_z hx hb hr rfl hlocks hQ hK hH hAe rfl dX8_readOuter_34
    · replace h := dc_neg c4 h
      refine lv_aload_n hx hb dX8_readOuter_26 rfl (lv_at hl 0 rfl) ?_
      obtain ⟨q5, hqq5, h⟩ := dc_bind h
      refine gc_Vi (ws' := [(a_t, .inr (7, [.ref a_t_text, .int t_length, .int q5.2.1, .int q5.2.2, v_t_kind, .int q1.2.2, .int t_second, v_t_third, v_t_isCore])), (a_t_text, .inl (k 1, 80, .inl t_text))]) (As := []) (rest := []) (n := 0) (ci := 7) (cq := (RX8, TX8, 9)) hTs ⟨hx, hb, hml, hown, hts⟩ (mX8_readDigit l Ts hTs D k H.size a_t a_t_text q3.2 t_length q1.2.2 t_text (.int q1.2.2) v_t_isCore v_t_kind (.int t_second) v_t_third q5 hqq5) u_ml_X8_89 u_im_X8_readDigit u_se_X8_readDigit u_in_X8 u_co_X8_readDigit hd_X8_readDigit ⟨Nat.le_of_ble_eq_true rfl, Nat.le_of_ble_eq_true rfl⟩ ⟨rfl, rfl⟩ hK hH hA (cutM (isC := [0, 1]) [some 0, some 1] 2 rfl rfl rfl rfl rfl rfl rfl) rfl rfl rfl rfl hl.1 (Nat.le_of_ble_eq_true rfl) dX8_readOuter_27 ⟨Nat.le_of_ble_eq_true rfl, Nat.le_of_ble_eq_true rfl⟩ (fun H locs hH => ?_)
      refine lv_if_ne (tgt := 35) hx hb dX8_readOuter_30 (by decide) (fun c6 => ?_) (fun c6 => ?_)
      · replace h := dc_neg c6 h
        refine lv_aload_n hx hb dX8_readOuter_35 rfl (lv_at hl 0 rfl) ?_
        refine lv_aload_n hx hb dX8_readOuter_36 rfl (lv_at hl 0 rfl) ?_
        refine gk_get (ci := 7) (C := RX8) (T := TX8) (N := 9) hx hb hts u_ws_X8 hown hK hH 0 rfl rfl 3 (by decide) u_fl_X8_22 rfl dX8_readOuter_37 ?_
        refine gk_put (ci := 7) (C := RX8) (T := TX8) (N := 9) hx hb hts u_ws_X8 tyX8_ok nmX8 hown hK hH 0 rfl rfl 6 (by decide) u_fl_X8_31 rfl rfl rfl (Nat.le_of_ble_eq_true rfl) dX8_readOuter_40 [(a_t, .inr (7, [.ref a_t_text, .int t_length, .int q5.2.1, .int q5.2.2, v_t_kind, .int q1.2.2, .int q5.2.2, v_t_third, v_t_isCore])), (a_t_text, .inl (k 1, 80, .inl t_text))] rfl (fun H locs hH => ?_)
        refine lv_iconst (v := 1) hx hb dX8_readOuter_43 (by decide) ?_
        have h := Option.some.inj h
        subst h
        exact ge_z hx hb hr rfl hlocks hQ hK hH hAe rfl dX8_readOuter_44
      · replace h := dc_pos c6 h
        refine lv_iconst (v := 0) hx hb dX8_readOuter_33 (by decide) ?_
        have h := Option.some.inj h
        subst h
        exact ge_z hx hb hr rfl hlocks hQ hK hH hAe rfl dX8_readOuter_34
  · replace h := dc_pos c2 h
    refine lv_iconst (v := 0) hx hb dX8_readOuter_7 (by decide) ?_
    have h := Option.some.inj h
    subst h
    exact ge_z hx hb hr rfl hlocks hQ hK hH hAe rfl dX8_readOuter_8
theorem hd_X8_readStatement : yX8_readStatement.cls = RX8 ∧ yX8_readStatement.cls ≠ "java/lang/invoke/MethodHandle" ∧ yX8_readStatement.cls ≠ "java/lang/invoke/VarHandle" ∧ (parseMethodDescriptor yX8_readStatement.desc).map (fun d => d.parameters.length) = some 0 := by decide +kernel
set_option maxHeartbeats 4000000 in
set_option maxRecDepth 100000 in
theorem mX8_readStatement (l : Launch) (Ts : List Cond) (hTs : ∀ w, w ∈ Ts ↔ w ∈ uT) (D : va_G) (k : Nat → ClassId) (sz : Nat) (a_t : Nat) (a_t_text : Nat) (t_at : Int32) (t_first : Int32) (t_isCore : Int32) (t_length : Int32) (t_number : Int32) (t_second : Int32) (t_text : Nat → Int32) (t_third : Int32) (v_t_kind : Value) (r : Int32 × Int32 × Int32 × Int32 × Int32 × Int32 × Int32 × Int32) (h : fX8_readStatement t_at t_first t_isCore t_length t_number t_second t_text t_third = some r) : Met l yX8_readStatement (Cond.code yX8_readStatement cX8_readStatement 1 (some .boolean) :: Ts) ({ frames := 3, cells := 0, slots := 0, locals := 61 } : Room) (preM D k [.ref a_t] [(a_t, .inr (7, [.ref a_t_text, .int t_length, .int t_at, .int t_number, v_t_kind, .int t_first, .int t_second, .int t_third, .int t_isCore])), (a_t_text, .inl (k 1, 80, .inl t_text))] sz) (postI D k r.1 [(a_t, .inr (7, [.ref a_t_text, .int t_length, .int t_at, .int t_number, v_t_kind, .int t_first, .int t_second, .int t_third, .int t_isCore])), (a_t_text, .inl (k 1, 80, .inl t_text))] [(a_t, .inr (7, [.ref a_t_text, .int t_length, .int r.2.1, .int r.2.2.2.2.2.1, .int r.2.2.2.2.1, .int r.2.2.1, .int r.2.2.2.2.2.2.1, .int r.2.2.2.2.2.2.2, .int r.2.2.2.1])), (a_t_text, .inl (k 1, 80, .inl t_text))] sz) 0 0 (va_A [(a_t, .inr (7, [.ref a_t_text, .int t_length, .int t_at, .int t_number, v_t_kind, .int t_first, .int t_second, .int t_third, .int t_isCore])), (a_t_text, .inl (k 1, 80, .inl t_text))] sz) := by
  refine Met.ofW (cc := cX8_readStatement) (maxL := 1) (ret := (some .boolean)) (by decide) rfl ?_
  intro p e s m args below meth c s₁ B hml hv
  obtain ⟨rfl, hsz, hP, hK, hD0⟩ := hv
  have hx := B.exec
  have hb := B.bytes
  have hr := B.returns
  have hts0 := atoms_spec (ws := (Cond.code yX8_readStatement cX8_readStatement 1 (some .boolean) :: Ts)) B.pre
  have hts : ∀ w ∈ uT, w.before _ s = true := fun w h => hts0 w (List.mem_cons_of_mem _ ((hTs w).mpr h))
  clear hts0
  have hown : s.vm.findClass RX8 = some m.cls := findClass_of_methodNamed B.named
  have hlocks := B.notSynchronized
  subst hsz
  have hD := hD0.self (sz := s.heap.size)
  generalize hAe : va_A [(a_t, .inr (7, [.ref a_t_text, .int t_length, .int t_at, .int t_number, v_t_kind, .int t_first, .int t_second, .int t_third, .int t_isCore])), (a_t_text, .inl (k 1, 80, .inl t_text))] s.heap.size = A at hD ⊢
  have hA : ∀ q : Nat, s.heap.size ≤ q → A q := fun q h => by rw [← hAe]; exact Or.inr h
  have hH : HOK D A s.heap [(a_t, .inr (7, [.ref a_t_text, .int t_length, .int t_at, .int t_number, v_t_kind, .int t_first, .int t_second, .int t_third, .int t_isCore])), (a_t_text, .inl (k 1, 80, .inl t_text))] s.heap [] := ⟨hP, hD, va_S.rf⟩
  have hl := lv_entry ([.ref a_t]) (n := 1) (Nat.le_of_ble_eq_true rfl)
  rw [lg_entry_eq]
  generalize (lg_sl ([.ref a_t]) ++ List.replicate (1 - (lg_sl ([.ref a_t])).length) Slot.unset).toArray = ls at hl ⊢
  have hl : lv_has ls 1 [(0, .ref a_t)] := hl
  generalize hQ : MQ below (postI D k r.1 [(a_t, .inr (7, [.ref a_t_text, .int t_length, .int t_at, .int t_number, v_t_kind, .int t_first, .int t_second, .int t_third, .int t_isCore])), (a_t_text, .inl (k 1, 80, .inl t_text))] [(a_t, .inr (7, [.ref a_t_text, .int t_length, .int r.2.1, .int r.2.2.2.2.2.1, .int r.2.2.2.2.1, .int r.2.2.1, .int r.2.2.2.2.2.2.1, .int r.2.2.2.2.2.2.2, .int r.2.2.2.1])), (a_t_text, .inl (k 1, 80, .inl t_text))] s.heap.size) (List.toArray [.ref a_t]) s 0 0 A = Q
  clear hP hD hD0
  suffices K : ∀ (H : Heap) (locs : List Loc), HOK D A s.heap [(a_t, .inr (7, [.ref a_t_text, .int t_length, .int t_at, .int t_number, v_t_kind, .int t_first, .int t_second, .int t_third, .int t_isCore])), (a_t_text, .inl (k 1, 80, .inl t_text))] H locs → W p l e ({ frames := 3, cells := 0, slots := 0, locals := 61 } : Room) s m (List.toArray [.ref a_t]) below meth c H locs 0 0 Q (F0 m 0 ls []) from K s.heap [] hH
  intro H locs hH
  rw [fX8_readStatement] at h
  refine lv_aload_n hx hb dX8_readStatement_0 rfl (lv_at hl 0 rfl) ?_
  refine lv_aload_n hx hb dX8_readStatement_1 rfl (lv_at hl 0 rfl) ?_
  refine gk_get (ci := 7) (C := RX8) (T := TX8) (N := 9) hx hb hts u_ws_X8 hown hK hH 0 rfl rfl 2 (by decide) u_fl_X8_19 rfl dX8_readStatement_2 ?_
  refine lv_aload_n hx hb dX8_readStatement_5 rfl (lv_at hl 0 rfl) ?_
  refine gk_get (ci := 7) (C := RX8) (T := TX8) (N := 9) hx hb hts u_ws_X8 hown hK hH 0 rfl rfl 1 (by decide) u_fl_X8_15 rfl dX8_readStatement_6 ?_
  refine lv_icmp_ge (tgt := 24) hx hb dX8_readStatement_9 (by decide) (fun c1 => ?_) (fun c1 => ?_)
  · replace h := dc_pos c1 h
    refine lv_iconst (v := 0) hx hb dX8_readStatement_24 (by decide) ?_
    refine gk_put (ci := 7) (C := RX8) (T := TX8) (N := 9) hx hb hts u_ws_X8 tyX8_ok nmX8 hown hK hH 0 rfl rfl 4 (by decide) u_fl_X8_25 rfl rfl rfl (Nat.le_of_ble_eq_true rfl) dX8_readStatement_25 [(a_t, .inr (7, [.ref a_t_text, .int t_length, .int t_at, .int t_number, .int (0 : Int32), .int t_first, .int t_second, .int t_third, .int t_isCore])), (a_t_text, .inl (k 1, 80, .inl t_text))] rfl (fun H locs hH => ?_)
    refine lv_aload_n hx hb dX8_readStatement_28 rfl (lv_at hl 0 rfl) ?_
    refine lv_bipush (v := 117) hx hb dX8_readStatement_29 (by decide) ?_
    obtain ⟨q2, hqq2, h⟩ := dc_bind h
    refine gc_Vi (ws' := [(a_t, .inr (7, [.ref a_t_text, .int t_length, .int q2.2, .int t_number, .int (0 : Int32), .int t_first, .int t_second, .int t_third, .int t_isCore])), (a_t_text, .inl (k 1, 80, .inl t_text))]) (As := [.int (117 : Int32)]) (rest := []) (n := 1) (ci := 7) (cq := (RX8, TX8, 9)) hTs ⟨hx, hb, hml, hown, hts⟩ (mX8_take l Ts hTs D k H.size a_t a_t_text t_at t_length t_text (.int t_first) (.int t_isCore) (.int (0 : Int32)) (.int t_number) (.int t_second) (.int t_third) (117 : Int32) q2 hqq2) u_ml_X8_49 u_im_X8_take u_se_X8_take u_in_X8 u_co_X8_take hd_X8_take ⟨Nat.le_of_ble_eq_true rfl, Nat.le_of_ble_eq_true rfl⟩ ⟨rfl, rfl⟩ hK hH hA (cutM (isC := [0, 1]) [some 0, some 1] 2 rfl rfl rfl rfl rfl rfl rfl) rfl rfl rfl rfl hl.1 (Nat.le_of_ble_eq_true rfl) dX8_readStatement_31 ⟨Nat.le_of_ble_eq_true rfl, Nat.le_of_ble_eq_true rfl⟩ (fun H locs hH => ?_)
    refine lv_if_eq (tgt := 42) hx hb dX8_readStatement_34 (by decide) (fun c3 => ?_) (fun c3 => ?_)
    · replace h := dc_pos c3 h
      refine lv_aload_n hx hb dX8_readStatement_42 rfl (lv_at hl 0 rfl) ?_
      refine lv_bipush (v := 98) hx hb dX8_readStatement_43 (by decide) ?_
      obtain ⟨q4, hqq4, h⟩ := dc_bind h
      refine gc_Vi (ws' := [(a_t, .inr (7, [.ref a_t_text, .int t_length, .int q4.2, .int t_number, .int (0 : Int32), .int t_first, .int t_second, .int t_third, .int t_isCore])), (a_t_text, .inl (k 1, 80, .inl t_text))]) (As := [.int (98 : Int32)]) (rest := []) (n := 1) (ci := 7) (cq := (RX8, TX8, 9)) hTs ⟨hx, hb, hml, hown, hts⟩ (mX8_take l Ts hTs D k H.size a_t a_t_text q2.2 t_length t_text (.int t_first) (.int t_isCore) (.int (0 : Int32)) (.int t_number) (.int t_second) (.int t_third) (98 : Int32) q4 hqq4) u_ml_X8_49 u_im_X8_take u_se_X8_take u_in_X8 u_co_X8_take hd_X8_take ⟨Nat.le_of_ble_eq_true rfl, Nat.le_of_ble_eq_true rfl⟩ ⟨rfl, rfl⟩ hK hH hA (cutM (isC := [0, 1]) [some 0, some 1] 2 rfl rfl rfl rfl rfl rfl rfl) rfl rfl rfl rfl hl.1 (Nat.le_of_ble_eq_true rfl) dX8_readStatement_45 ⟨Nat.le_of_ble_eq_true rfl, Nat.le_of_ble_eq_true rfl⟩ (fun H locs hH => ?_)
      refine lv_if_eq (tgt := 56) hx hb dX8_readStatement_48 (by decide) (fun c5 => ?_) (fun c5 => ?_)
      · replace h := dc_pos c5 h
        refine lv_aload_n hx hb dX8_readStatement_56 rfl (lv_at hl 0 rfl) ?_
        refine lv_bipush (v := 111) hx hb dX8_readStatement_57 (by decide) ?_
        obtain ⟨q6, hqq6, h⟩ := dc_bind h
        refine gc_Vi (ws' := [(a_t, .inr (7, [.ref a_t_text, .int t_length, .int q6.2, .int t_number, .int (0 : Int32), .int t_first, .int t_second, .int t_third, .int t_isCore])), (a_t_text, .inl (k 1, 80, .inl t_text))]) (As := [.int (111 : Int32)]) (rest := []) (n := 1) (ci := 7) (cq := (RX8, TX8, 9)) hTs ⟨hx, hb, hml, hown, hts⟩ (mX8_take l Ts hTs D k H.size a_t a_t_text q4.2 t_length t_text (.int t_first) (.int t_isCore) (.int (0 : Int32)) (.int t_number) (.int t_second) (.int t_third) (111 : Int32) q6 hqq6) u_ml_X8_49 u_im_X8_take u_se_X8_take u_in_X8 u_co_X8_take hd_X8_take ⟨Nat.le_of_ble_eq_true rfl, Nat.le_of_ble_eq_true rfl⟩ ⟨rfl, rfl⟩ hK hH hA (cutM (isC := [0, 1]) [some 0, some 1] 2 rfl rfl rfl rfl rfl rfl rfl) rfl rfl rfl rfl hl.1 (Nat.le_of_ble_eq_true rfl) dX8_readStatement_59 ⟨Nat.le_of_ble_eq_true rfl, Nat.le_of_ble_eq_true rfl⟩ (fun H locs hH => ?_)
        refine lv_if_eq (tgt := 76) hx hb dX8_readStatement_62 (by decide) (fun c7 => ?_) (fun c7 => ?_)
        · replace h := dc_pos c7 h
          refine lv_iconst (v := 0) hx hb dX8_readStatement_76 (by decide) ?_
          have h := Option.some.inj h
          subst h
          exact ge_z hx hb hr rfl hlocks hQ hK hH hAe rfl dX8_readStatement_77
        · replace h := dc_neg c7 h
          refine lv_aload_n hx hb dX8_readStatement_65 rfl (lv_at hl 0 rfl) ?_
          obtain ⟨q8, hqq8, h⟩ := dc_bind h
          refine gc_Vi (ws' := [(a_t, .inr (7, [.ref a_t_text, .int t_length, .int q8.2.1, .int q8.2.2.2.1, .int (0 : Int32), .int q8.2.2.1, .int q8.2.2.2.2, .int t_third, .int t_isCore])), (a_t_text, .inl (k 1, 80, .inl t_text))]) (As := []) (rest := []) (n := 0) (ci := 7) (cq := (RX8, TX8, 9)) hTs ⟨hx, hb, hml, hown, hts⟩ (mX8_readOuter l Ts hTs D k H.size a_t a_t_text q6.2 t_first t_length t_number t_second t_text (.int t_isCore) (.int (0 : Int32)) (.int t_third) q8 hqq8) u_ml_X8_83 u_im_X8_readOuter u_se_X8_readOuter u_in_X8 u_co_X8_readOuter hd_X8_readOuter ⟨Nat.le_of_ble_eq_true rfl, Nat.le_of_ble_eq_true rfl⟩ ⟨rfl, rfl⟩ hK hH hA (cutM (isC := [0, 1]) [some 0, some 1] 2 rfl rfl rfl rfl rfl rfl rfl) rfl rfl rfl rfl hl.1 (Nat.le_of_ble_eq_true rfl) dX8_readStatement_66 ⟨Nat.le_of_ble_eq_true rfl, Nat.le_of_ble_eq_true rfl⟩ (fun H locs hH => ?_)
          refine lv_if_eq (tgt := 76) hx hb dX8_readStatement_69 (by decide) (fun c9 => ?_) (fun c9 => ?_)
          · replace h := dc_pos c9 h
            refine lv_iconst (v := 0) hx hb dX8_readStatement_76 (by decide) ?_
            have h := Option.some.inj h
            subst h
            exact ge_z hx hb hr rfl hlocks hQ hK hH hAe rfl dX8_readStatement_77
          · replace h := dc_neg c9 h
            refine lv_iconst (v := 1) hx hb dX8_readStatement_72 (by decide) ?_
            refine lv_goto (tgt := 77) hx hb dX8_readStatement_73 (by decide) ?_
            have h := Option.some.inj h
            subst h
            exact ge_z hx hb hr rfl hlocks hQ hK hH hAe rfl dX8_readStatement_77
      · replace h := dc_neg c5 h
        refine lv_aload_n hx hb dX8_readStatement_51 rfl (lv_at hl 0 rfl) ?_
        obtain ⟨q10, hqq10, h⟩ := dc_bind h
        refine gc_Vi (ws' := [(a_t, .inr (7, [.ref a_t_text, .int t_length, .int q10.2.1, .int q10.2.2.2.1, .int (0 : Int32), .int q10.2.2.1, .int q10.2.2.2.2.1, .int q10.2.2.2.2.2, .int t_isCore])), (a_t_text, .inl (k 1, 80, .inl t_text))]) (As := []) (rest := []) (n := 0) (ci := 7) (cq := (RX8, TX8, 9)) hTs ⟨hx, hb, hml, hown, hts⟩ (mX8_readBorder l Ts hTs D k H.size a_t a_t_text q4.2 t_first t_length t_number t_second t_text t_third (.int t_isCore) (.int (0 : Int32)) q10 hqq10) u_ml_X8_80 u_im_X8_readBorder u_se_X8_readBorder u_in_X8 u_co_X8_readBorder hd_X8_readBorder ⟨Nat.le_of_ble_eq_true rfl, Nat.le_of_ble_eq_true rfl⟩ ⟨rfl, rfl⟩ hK hH hA (cutM (isC := [0, 1]) [some 0, some 1] 2 rfl rfl rfl rfl rfl rfl rfl) rfl rfl rfl rfl hl.1 (Nat.le_of_ble_eq_true rfl) dX8_readStatement_52 ⟨Nat.le_of_ble_eq_true rfl, Nat.le_of_ble_eq_true rfl⟩ (fun H locs hH => ?_)
        obtain ⟨g11, h⟩ := dc_need h
        have h := Option.some.inj h
        subst h
        exact ge_z hx hb hr (dk_bit g11).1 hlocks hQ hK hH hAe rfl dX8_readStatement_55
    · replace h := dc_neg c3 h
      refine lv_aload_n hx hb dX8_readStatement_37 rfl (lv_at hl 0 rfl) ?_
      obtain ⟨q12, hqq12, h⟩ := dc_bind h
      refine gc_Vi (ws' := [(a_t, .inr (7, [.ref a_t_text, .int t_length, .int q12.2.1, .int q12.2.2.2.2.1, .int (0 : Int32), .int q12.2.2.1, .int q12.2.2.2.2.2.1, .int q12.2.2.2.2.2.2, .int q12.2.2.2.1])), (a_t_text, .inl (k 1, 80, .inl t_text))]) (As := []) (rest := []) (n := 0) (ci := 7) (cq := (RX8, TX8, 9)) hTs ⟨hx, hb, hml, hown, hts⟩ (mX8_readUnit l Ts hTs D k H.size a_t a_t_text q2.2 t_first t_length t_number t_second t_text (.int t_isCore) (.int (0 : Int32)) (.int t_third) q12 hqq12) u_ml_X8_77 u_im_X8_readUnit u_se_X8_readUnit u_in_X8 u_co_X8_readUnit hd_X8_readUnit ⟨Nat.le_of_ble_eq_true rfl, Nat.le_of_ble_eq_true rfl⟩ ⟨rfl, rfl⟩ hK hH hA (cutM (isC := [0, 1]) [some 0, some 1] 2 rfl rfl rfl rfl rfl rfl rfl) rfl rfl rfl rfl hl.1 (Nat.le_of_ble_eq_true rfl) dX8_readStatement_38 ⟨Nat.le_of_ble_eq_true rfl, Nat.le_of_ble_eq_true rfl⟩ (fun H locs hH => ?_)
      obtain ⟨g13, h⟩ := dc_need h
      have h := Option.some.inj h
      subst h
      exact ge_z hx hb hr (dk_bit g13).1 hlocks hQ hK hH hAe rfl dX8_readStatement_41
  · replace h := dc_neg c1 h
    refine lv_aload_n hx hb dX8_readStatement_12 rfl (lv_at hl 0 rfl) ?_
    refine gk_get (ci := 7) (C := RX8) (T := TX8) (N := 9) hx hb hts u_ws_X8 hown hK hH 0 rfl rfl 0 (by decide) u_fl_X8_9 rfl dX8_readStatement_13 ?_
    refine lv_aload_n hx hb dX8_readStatement_16 rfl (lv_at hl 0 rfl) ?_
    refine gk_get (ci := 7) (C := RX8) (T := TX8) (N := 9) hx hb hts u_ws_X8 hown hK hH 0 rfl rfl 2 (by decide) u_fl_X8_19 rfl dX8_readStatement_17 ?_
    obtain ⟨g14, h⟩ := dc_need h
    refine gk_cald hx hb hK hH 1 rfl (dk_in g14) dX8_readStatement_20 ?_
    refine lv_goto (tgt := 25) hx hb dX8_readStatement_21 (by decide) ?_
    refine gk_put (ci := 7) (C := RX8) (T := TX8) (N := 9) hx hb hts u_ws_X8 tyX8_ok nmX8 hown hK hH 0 rfl rfl 4 (by decide) u_fl_X8_25 rfl rfl rfl (Nat.le_of_ble_eq_true rfl) dX8_readStatement_25 [(a_t, .inr (7, [.ref a_t_text, .int t_length, .int t_at, .int t_number, .int (t_text t_at.toNatClampNeg), .int t_first, .int t_second, .int t_third, .int t_isCore])), (a_t_text, .inl (k 1, 80, .inl t_text))] rfl (fun H locs hH => ?_)
    refine lv_aload_n hx hb dX8_readStatement_28 rfl (lv_at hl 0 rfl) ?_
    refine lv_bipush (v := 117) hx hb dX8_readStatement_29 (by decide) ?_
    obtain ⟨q15, hqq15, h⟩ := dc_bind h
    refine gc_Vi (ws' := [(a_t, .inr (7, [.ref a_t_text, .int t_length, .int q15.2, .int t_number, .int (t_text t_at.toNatClampNeg), .int t_first, .int t_second, .int t_third, .int t_isCore])), (a_t_text, .inl (k 1, 80, .inl t_text))]) (As := [.int (117 : Int32)]) (rest := []) (n := 1) (ci := 7) (cq := (RX8, TX8, 9)) hTs ⟨hx, hb, hml, hown, hts⟩ (mX8_take l Ts hTs D k H.size a_t a_t_text t_at t_length t_text (.int t_first) (.int t_isCore) (.int (t_text t_at.toNatClampNeg)) (.int t_number) (.int t_second) (.int t_third) (117 : Int32) q15 hqq15) u_ml_X8_49 u_im_X8_take u_se_X8_take u_in_X8 u_co_X8_take hd_X8_take ⟨Nat.le_of_ble_eq_true rfl, Nat.le_of_ble_eq_true rfl⟩ ⟨rfl, rfl⟩ hK hH hA (cutM (isC := [0, 1]) [some 0, some 1] 2 rfl rfl rfl rfl rfl rfl rfl) rfl rfl rfl rfl hl.1 (Nat.le_of_ble_eq_true rfl) dX8_readStatement_31 ⟨Nat.le_of_ble_eq_true rfl, Nat.le_of_ble_eq_true rfl⟩ (fun H locs hH => ?_)
    refine lv_if_eq (tgt := 42) hx hb dX8_readStatement_34 (by decide) (fun c16 => ?_) (fun c16 => ?_)
    · replace h := dc_pos c16 h
      refine lv_aload_n hx hb dX8_readStatement_42 rfl (lv_at hl 0 rfl) ?_
      refine lv_bipush (v := 98) hx hb dX8_readStatement_43 (by decide) ?_
      obtain ⟨q17, hqq17, h⟩ := dc_bind h
      refine gc_Vi (ws' := [(a_t, .inr (7, [.ref a_t_text, .int t_length, .int q17.2, .int t_number, .int (t_text t_at.toNatClampNeg), .int t_first, .int t_second, .int t_third, .int t_isCore])), (a_t_text, .inl (k 1, 80, .inl t_text))]) (As := [.int (98 : Int32)]) (rest := []) (n := 1) (ci := 7) (cq := (RX8, TX8, 9)) hTs ⟨hx, hb, hml, hown, hts⟩ (mX8_take l Ts hTs D k H.size a_t a_t_text q15.2 t_length t_text (.int t_first) (.int t_isCore) (.int (t_text t_at.toNatClampNeg)) (.int t_number) (.int t_second) (.int t_third) (98 : Int32) q17 hqq17) u_ml_X8_49 u_im_X8_take u_se_X8_take u_in_X8 u_co_X8_take hd_X8_take ⟨Nat.le_of_ble_eq_true rfl, Nat.le_of_ble_eq_true rfl⟩ ⟨rfl, rfl⟩ hK hH hA (cutM (isC := [0, 1]) [some 0, some 1] 2 rfl rfl rfl rfl rfl rfl rfl) rfl rfl rfl rfl hl.1 (Nat.le_of_ble_eq_true rfl) dX8_readStatement_45 ⟨Nat.le_of_ble_eq_true rfl, Nat.le_of_ble_eq_true rfl⟩ (fun H locs hH => ?_)
      refine lv_if_eq (tgt := 56) hx hb dX8_readStatement_48 (by decide) (fun c18 => ?_) (fun c18 => ?_)
      · replace h := dc_pos c18 h
        refine lv_aload_n hx hb dX8_readStatement_56 rfl (lv_at hl 0 rfl) ?_
        refine lv_bipush (v := 111) hx hb dX8_readStatement_57 (by decide) ?_
        obtain ⟨q19, hqq19, h⟩ := dc_bind h
        refine gc_Vi (ws' := [(a_t, .inr (7, [.ref a_t_text, .int t_length, .int q19.2, .int t_number, .int (t_text t_at.toNatClampNeg), .int t_first, .int t_second, .int t_third, .int t_isCore])), (a_t_text, .inl (k 1, 80, .inl t_text))]) (As := [.int (111 : Int32)]) (rest := []) (n := 1) (ci := 7) (cq := (RX8, TX8, 9)) hTs ⟨hx, hb, hml, hown, hts⟩ (mX8_take l Ts hTs D k H.size a_t a_t_text q17.2 t_length t_text (.int t_first) (.int t_isCore) (.int (t_text t_at.toNatClampNeg)) (.int t_number) (.int t_second) (.int t_third) (111 : Int32) q19 hqq19) u_ml_X8_49 u_im_X8_take u_se_X8_take u_in_X8 u_co_X8_take hd_X8_take ⟨Nat.le_of_ble_eq_true rfl, Nat.le_of_ble_eq_true rfl⟩ ⟨rfl, rfl⟩ hK hH hA (cutM (isC := [0, 1]) [some 0, some 1] 2 rfl rfl rfl rfl rfl rfl rfl) rfl rfl rfl rfl hl.1 (Nat.le_of_ble_eq_true rfl) dX8_readStatement_59 ⟨Nat.le_of_ble_eq_true rfl, Nat.le_of_ble_eq_true rfl⟩ (fun H locs hH => ?_)
        refine lv_if_eq (tgt := 76) hx hb dX8_readStatement_62 (by decide) (fun c20 => ?_) (fun c20 => ?_)
        · replace h := dc_pos c20 h
          refine lv_iconst (v := 0) hx hb dX8_readStatement_76 (by decide) ?_
          have h := Option.some.inj h
          subst h
          exact ge_z hx hb hr rfl hlocks hQ hK hH hAe rfl dX8_readStatement_77
        · replace h := dc_neg c20 h
          refine lv_aload_n hx hb dX8_readStatement_65 rfl (lv_at hl 0 rfl) ?_
          obtain ⟨q21, hqq21, h⟩ := dc_bind h
          refine gc_Vi (ws' := [(a_t, .inr (7, [.ref a_t_text, .int t_length, .int q21.2.1, .int q21.2.2.2.1, .int (t_text t_at.toNatClampNeg), .int q21.2.2.1, .int q21.2.2.2.2, .int t_third, .int t_isCore])), (a_t_text, .inl (k 1, 80, .inl t_text))]) (As := []) (rest := []) (n := 0) (ci := 7) (cq := (RX8, TX8, 9)) hTs ⟨hx, hb, hml, hown, hts⟩ (mX8_readOuter l Ts hTs D k H.size a_t a_t_text q19.2 t_first t_length t_number t_second t_text (.int t_isCore) (.int (t_text t_at.toNatClampNeg)) (.int t_third) q21 hqq21) u_ml_X8_83 u_im_X8_readOuter u_se_X8_readOuter u_in_X8 u_co_X8_readOuter hd_X8_readOuter ⟨Nat.le_of_ble_eq_true rfl, Nat.le_of_ble_eq_true rfl⟩ ⟨rfl, rfl⟩ hK hH hA (cutM (isC := [0, 1]) [some 0, some 1] 2 rfl rfl rfl rfl rfl rfl rfl) rfl rfl rfl rfl hl.1 (Nat.le_of_ble_eq_true rfl) dX8_readStatement_66 ⟨Nat.le_of_ble_eq_true rfl, Nat.le_of_ble_eq_true rfl⟩ (fun H locs hH => ?_)
          refine lv_if_eq (tgt := 76) hx hb dX8_readStatement_69 (by decide) (fun c22 => ?_) (fun c22 => ?_)
          · replace h := dc_pos c22 h
            refine lv_iconst (v := 0) hx hb dX8_readStatement_76 (by decide) ?_
            have h := Option.some.inj h
            subst h
            exact ge_z hx hb hr rfl hlocks hQ hK hH hAe rfl dX8_readStatement_77
          · replace h := dc_neg c22 h
            refine lv_iconst (v := 1) hx hb dX8_readStatement_72 (by decide) ?_
            refine lv_goto (tgt := 77) hx hb dX8_readStatement_73 (by decide) ?_
            have h := Option.some.inj h
            subst h
            exact ge_z hx hb hr rfl hlocks hQ hK hH hAe rfl dX8_readStatement_77
      · replace h := dc_neg c18 h
        refine lv_aload_n hx hb dX8_readStatement_51 rfl (lv_at hl 0 rfl) ?_
        obtain ⟨q23, hqq23, h⟩ := dc_bind h
        refine gc_Vi (ws' := [(a_t, .inr (7, [.ref a_t_text, .int t_length, .int q23.2.1, .int q23.2.2.2.1, .int (t_text t_at.toNatClampNeg), .int q23.2.2.1, .int q23.2.2.2.2.1, .int q23.2.2.2.2.2, .int t_isCore])), (a_t_text, .inl (k 1, 80, .inl t_text))]) (As := []) (rest := []) (n := 0) (ci := 7) (cq := (RX8, TX8, 9)) hTs ⟨hx, hb, hml, hown, hts⟩ (mX8_readBorder l Ts hTs D k H.size a_t a_t_text q17.2 t_first t_length t_number t_second t_text t_third (.int t_isCore) (.int (t_text t_at.toNatClampNeg)) q23 hqq23) u_ml_X8_80 u_im_X8_readBorder u_se_X8_readBorder u_in_X8 u_co_X8_readBorder hd_X8_readBorder ⟨Nat.le_of_ble_eq_true rfl, Nat.le_of_ble_eq_true rfl⟩ ⟨rfl, rfl⟩ hK hH hA (cutM (isC := [0, 1]) [some 0, some 1] 2 rfl rfl rfl rfl rfl rfl rfl) rfl rfl rfl rfl hl.1 (Nat.le_of_ble_eq_true rfl) dX8_readStatement_52 ⟨Nat.le_of_ble_eq_true rfl, Nat.le_of_ble_eq_true rfl⟩ (fun H locs hH => ?_)
        obtain ⟨g24, h⟩ := dc_need h
        have h := Option.some.inj h
        subst h
        exact ge_z hx hb hr (dk_bit g24).1 hlocks hQ hK hH hAe rfl dX8_readStatement_55
    · replace h := dc_neg c16 h
      refine lv_aload_n hx hb dX8_readStatement_37 rfl (lv_at hl 0 rfl) ?_
      obtain ⟨q25, hqq25, h⟩ := dc_bind h
      refine gc_Vi (ws' := [(a_t, .inr (7, [.ref a_t_text, .int t_length, .int q25.2.1, .int q25.2.2.2.2.1, .int (t_text t_at.toNatClampNeg), .int q25.2.2.1, .int q25.2.2.2.2.2.1, .int q25.2.2.2.2.2.2, .int q25.2.2.2.1])), (a_t_text, .inl (k 1, 80, .inl t_text))]) (As := []) (rest := []) (n := 0) (ci := 7) (cq := (RX8, TX8, 9)) hTs ⟨hx, hb, hml, hown, hts⟩ (mX8_readUnit l Ts hTs D k H.size a_t a_t_text q15.2 t_first t_length t_number t_second t_text (.int t_isCore) (.int (t_text t_at.toNatClampNeg)) (.int t_third) q25 hqq25) u_ml_X8_77 u_im_X8_readUnit u_se_X8_readUnit u_in_X8 u_co_X8_readUnit hd_X8_readUnit ⟨Nat.le_of_ble_eq_true rfl, Nat.le_of_ble_eq_true rfl⟩ ⟨rfl, rfl⟩ hK hH hA (cutM (isC := [0, 1]) [some 0, some 1] 2 rfl rfl rfl rfl rfl rfl rfl) rfl rfl rfl rfl hl.1 (Nat.le_of_ble_eq_true rfl) dX8_readStatement_38 ⟨Nat.le_of_ble_eq_true rfl, Nat.le_of_ble_eq_true rfl⟩ (fun H locs hH => ?_)
      obtain ⟨g26, h⟩ := dc_need h
      have h := Option.some.inj h
      subst h
      exact ge_z hx hb hr (dk_bit g26).1 hlocks hQ hK hH hAe rfl dX8_readStatement_41
theorem hd_X8_findFault : yX8_findFault.cls = RX8 ∧ yX8_findFault.cls ≠ "java/lang/invoke/MethodHandle" ∧ yX8_findFault.cls ≠ "java/lang/invoke/VarHandle" ∧ (parseMethodDescriptor yX8_findFault.desc).map (fun d => d.parameters.length) = some 2 := by decide +kernel
set_option maxHeartbeats 4000000 in
set_option maxRecDepth 100000 in
theorem mX8_findFault (l : Launch) (Ts : List Cond) (hTs : ∀ w, w ∈ Ts ↔ w ∈ uT) (D : va_G) (k : Nat → ClassId) (sz : Nat) (a_p1 : Nat) (a_t : Nat) (a_t_text : Nat) (p1 : Nat → Int32) (t_first : Int32) (t_isCore : Int32) (t_kind : Int32) (t_number : Int32) (t_second : Int32) (t_third : Int32) (v_t_at : Value) (v_t_length : Value) (x2 : Int32) (r : Int32 × Int32 × Int32 × Int32 × Int32 × Int32 × Int32 × Int32 × Int32) (h : fX8_findFault p1 t_first t_isCore t_kind t_number t_second t_third x2 = some r) : Met l yX8_findFault (Cond.code yX8_findFault cX8_findFault 4 (some .int) :: Ts) ({ frames := 4, cells := 0, slots := 0, locals := 86 } : Room) (preM D k [.ref a_t, .ref a_p1, .int x2] [(a_t, .inr (7, [.ref a_t_text, v_t_length, v_t_at, .int t_number, .int t_kind, .int t_first, .int t_second, .int t_third, .int t_isCore])), (a_p1, .inl (k 1, 80, .inl p1))] sz) (postI D k r.1 [(a_t, .inr (7, [.ref a_t_text, v_t_length, v_t_at, .int t_number, .int t_kind, .int t_first, .int t_second, .int t_third, .int t_isCore])), (a_p1, .inl (k 1, 80, .inl p1))] [(a_t, .inr (7, [.ref a_p1, .int r.2.2.2.2.2.1, .int r.2.1, .int r.2.2.2.2.2.2.1, .int r.2.2.2.2.1, .int r.2.2.1, .int r.2.2.2.2.2.2.2.1, .int r.2.2.2.2.2.2.2.2, .int r.2.2.2.1])), (a_p1, .inl (k 1, 80, .inl p1))] sz) 0 0 (va_A [(a_t, .inr (7, [.ref a_t_text, v_t_length, v_t_at, .int t_number, .int t_kind, .int t_first, .int t_second, .int t_third, .int t_isCore])), (a_p1, .inl (k 1, 80, .inl p1))] sz) := by
  refine Met.ofW (cc := cX8_findFault) (maxL := 4) (ret := (some .int)) (by decide) rfl ?_
  intro p e s m args below meth c s₁ B hml hv
  obtain ⟨rfl, hsz, hP, hK, hD0⟩ := hv
  have hx := B.exec
  have hb := B.bytes
  have hr := B.returns
  have hts0 := atoms_spec (ws := (Cond.code yX8_findFault cX8_findFault 4 (some .int) :: Ts)) B.pre
  have hts : ∀ w ∈ uT, w.before _ s = true := fun w h => hts0 w (List.mem_cons_of_mem _ ((hTs w).mpr h))
  clear hts0
  have hown : s.vm.findClass RX8 = some m.cls := findClass_of_methodNamed B.named
  have hlocks := B.notSynchronized
  subst hsz
  have hD := hD0.self (sz := s.heap.size)
  generalize hAe : va_A [(a_t, .inr (7, [.ref a_t_text, v_t_length, v_t_at, .int t_number, .int t_kind, .int t_first, .int t_second, .int t_third, .int t_isCore])), (a_p1, .inl (k 1, 80, .inl p1))] s.heap.size = A at hD ⊢
  have hA : ∀ q : Nat, s.heap.size ≤ q → A q := fun q h => by rw [← hAe]; exact Or.inr h
  have hH : HOK D A s.heap [(a_t, .inr (7, [.ref a_t_text, v_t_length, v_t_at, .int t_number, .int t_kind, .int t_first, .int t_second, .int t_third, .int t_isCore])), (a_p1, .inl (k 1, 80, .inl p1))] s.heap [] := ⟨hP, hD, va_S.rf⟩
  have hl := lv_entry ([.ref a_t, .ref a_p1, .int x2]) (n := 4) (Nat.le_of_ble_eq_true rfl)
  rw [lg_entry_eq]
  generalize (lg_sl ([.ref a_t, .ref a_p1, .int x2]) ++ List.replicate (4 - (lg_sl ([.ref a_t, .ref a_p1, .int x2])).length) Slot.unset).toArray = ls at hl ⊢
  have hl : lv_has ls 4 [(0, .ref a_t), (1, .ref a_p1), (2, .int x2)] := hl
  generalize hQ : MQ below (postI D k r.1 [(a_t, .inr (7, [.ref a_t_text, v_t_length, v_t_at, .int t_number, .int t_kind, .int t_first, .int t_second, .int t_third, .int t_isCore])), (a_p1, .inl (k 1, 80, .inl p1))] [(a_t, .inr (7, [.ref a_p1, .int r.2.2.2.2.2.1, .int r.2.1, .int r.2.2.2.2.2.2.1, .int r.2.2.2.2.1, .int r.2.2.1, .int r.2.2.2.2.2.2.2.1, .int r.2.2.2.2.2.2.2.2, .int r.2.2.2.1])), (a_p1, .inl (k 1, 80, .inl p1))] s.heap.size) (List.toArray [.ref a_t, .ref a_p1, .int x2]) s 0 0 A = Q
  clear hP hD hD0
  suffices K : ∀ (H : Heap) (locs : List Loc), HOK D A s.heap [(a_t, .inr (7, [.ref a_t_text, v_t_length, v_t_at, .int t_number, .int t_kind, .int t_first, .int t_second, .int t_third, .int t_isCore])), (a_p1, .inl (k 1, 80, .inl p1))] H locs → W p l e ({ frames := 4, cells := 0, slots := 0, locals := 86 } : Room) s m (List.toArray [.ref a_t, .ref a_p1, .int x2]) below meth c H locs 0 0 Q (F0 m 0 ls []) from K s.heap [] hH
  intro H locs hH
  have L8 : ∀ (y8_t_length : Int32) (n : Nat), ∀ (kf : Int32 → Int32 → Int32 → Int32 → Int32 → Int32 → Int32 → Option (Int32 × Int32 × Int32 × Int32 × Int32 × Int32 × Int32 × Int32 × Int32)) (y8_3 : Int32) (y8_t_at : Int32) (y8_t_first : Int32) (y8_t_isCore : Int32) (y8_t_kind : Int32) (y8_t_number : Int32) (y8_t_second : Int32) (y8_t_third : Int32), fX8_findFault_L8 p1 y8_t_length n kf y8_3 y8_t_at y8_t_first y8_t_isCore y8_t_kind y8_t_number y8_t_second y8_t_third = some r → (∀ (z8_t_at : Int32) (z8_t_first : Int32) (z8_t_isCore : Int32) (z8_t_kind : Int32) (z8_t_number : Int32) (z8_t_second : Int32) (z8_t_third : Int32) (H : Heap) (locs : List Loc) (ls : Array Slot), kf z8_t_at z8_t_first z8_t_isCore z8_t_kind z8_t_number z8_t_second z8_t_third = some r → HOK D A s.heap [(a_t, .inr (7, [.ref a_p1, .int y8_t_length, .int z8_t_at, .int z8_t_number, .int z8_t_kind, .int z8_t_first, .int z8_t_second, .int z8_t_third, .int z8_t_isCore])), (a_p1, .inl (k 1, 80, .inl p1))] H locs → lv_has ls 4 [(0, .ref a_t)] → W p l e ({ frames := 4, cells := 0, slots := 0, locals := 86 } : Room) s m (List.toArray [.ref a_t, .ref a_p1, .int x2]) below meth c H locs 0 0 Q (F0 m 59 ls [])) → ∀ (H : Heap) (locs : List Loc) (ls : Array Slot), HOK D A s.heap [(a_t, .inr (7, [.ref a_p1, .int y8_t_length, .int y8_t_at, .int y8_t_number, .int y8_t_kind, .int y8_t_first, .int y8_t_second, .int y8_t_third, .int y8_t_isCore])), (a_p1, .inl (k 1, 80, .inl p1))] H locs → lv_has ls 4 [(0, .ref a_t), (3, .int y8_3)] → W p l e ({ frames := 4, cells := 0, slots := 0, locals := 86 } : Room) s m (List.toArray [.ref a_t, .ref a_p1, .int x2]) below meth c H locs 0 0 Q (F0 m 8 ls []) := by
    intro y8_t_length n
    induction n with
    | zero =>
      intro kf y8_3 y8_t_at y8_t_first y8_t_isCore y8_t_kind y8_t_number y8_t_second y8_t_third h
      exact absurd h (by rw [fX8_findFault_L8]; exact fun q => by cases q)
    | succ n ih =>
      intro kf y8_3 y8_t_at y8_t_first y8_t_isCore y8_t_kind y8_t_number y8_t_second y8_t_third h kk H locs ls hH hl
      rw [fX8_findFault_L8] at h
      refine lv_iload_n hx hb dX8_findFault_8 rfl (lv_at hl 1 rfl) ?_
      refine lv_bipush (v := 80) hx hb dX8_findFault_9 (by decide) ?_
      refine lv_icmp_ge (tgt := 59) hx hb dX8_findFault_11 (by decide) (fun c2 => ?_) (fun c2 => ?_)
      · replace h := dc_pos c2 h
        exact kk y8_t_at y8_t_first y8_t_isCore y8_t_kind y8_t_number y8_t_second y8_t_third H locs ls h hH (lv_sub hl [0] rfl)
      · replace h := dc_neg c2 h
        refine lv_aload_n hx hb dX8_findFault_14 rfl (lv_at hl 0 rfl) ?_
        obtain ⟨q3, hqq3, h⟩ := dc_bind h
        refine gc_Vi (ws' := [(a_t, .inr (7, [.ref a_p1, .int y8_t_length, .int q3.2.1, .int q3.2.2.2.2.2.1, .int q3.2.2.2.2.1, .int q3.2.2.1, .int q3.2.2.2.2.2.2.1, .int q3.2.2.2.2.2.2.2, .int q3.2.2.2.1])), (a_p1, .inl (k 1, 80, .inl p1))]) (As := []) (rest := []) (n := 0) (ci := 7) (cq := (RX8, TX8, 9)) hTs ⟨hx, hb, hml, hown, hts⟩ (mX8_readStatement l Ts hTs D k H.size a_t a_p1 y8_t_at y8_t_first y8_t_isCore y8_t_length y8_t_number y8_t_second p1 y8_t_third (.int y8_t_kind) q3 hqq3) u_ml_X8_45 u_im_X8_readStatement u_se_X8_readStatement u_in_X8 u_co_X8_readStatement hd_X8_readStatement ⟨Nat.le_of_ble_eq_true rfl, Nat.le_of_ble_eq_true rfl⟩ ⟨rfl, rfl⟩ hK hH hA (cutM (isC := [0, 1]) [some 0, some 1] 2 rfl rfl rfl rfl rfl rfl rfl) rfl rfl rfl rfl hl.1 (Nat.le_of_ble_eq_true rfl) dX8_findFault_15 ⟨Nat.le_of_ble_eq_true rfl, Nat.le_of_ble_eq_true rfl⟩ (fun H locs hH => ?_)
        refine lv_if_ne (tgt := 26) hx hb dX8_findFault_18 (by decide) (fun c4 => ?_) (fun c4 => ?_)
        · replace h := dc_neg c4 h
          refine lv_aload_n hx hb dX8_findFault_26 rfl (lv_at hl 0 rfl) ?_
          refine gk_get (ci := 7) (C := RX8) (T := TX8) (N := 9) hx hb hts u_ws_X8 hown hK hH 0 rfl rfl 2 (by decide) u_fl_X8_19 rfl dX8_findFault_27 ?_
          refine lv_aload_n hx hb dX8_findFault_30 rfl (lv_at hl 0 rfl) ?_
          refine gk_get (ci := 7) (C := RX8) (T := TX8) (N := 9) hx hb hts u_ws_X8 hown hK hH 0 rfl rfl 1 (by decide) u_fl_X8_15 rfl dX8_findFault_31 ?_
          refine lv_icmp_ne (tgt := 39) hx hb dX8_findFault_34 (by decide) (fun c5 => ?_) (fun c5 => ?_)
          · replace h := dc_neg c5 h
            refine lv_aload_n hx hb dX8_findFault_39 rfl (lv_at hl 0 rfl) ?_
            refine lv_bipush (v := 59) hx hb dX8_findFault_40 (by decide) ?_
            obtain ⟨q6, hqq6, h⟩ := dc_bind h
            refine gc_Vi (ws' := [(a_t, .inr (7, [.ref a_p1, .int y8_t_length, .int q6.2, .int q3.2.2.2.2.2.1, .int q3.2.2.2.2.1, .int q3.2.2.1, .int q3.2.2.2.2.2.2.1, .int q3.2.2.2.2.2.2.2, .int q3.2.2.2.1])), (a_p1, .inl (k 1, 80, .inl p1))]) (As := [.int (59 : Int32)]) (rest := []) (n := 1) (ci := 7) (cq := (RX8, TX8, 9)) hTs ⟨hx, hb, hml, hown, hts⟩ (mX8_take l Ts hTs D k H.size a_t a_p1 q3.2.1 y8_t_length p1 (.int q3.2.2.1) (.int q3.2.2.2.1) (.int q3.2.2.2.2.1) (.int q3.2.2.2.2.2.1) (.int q3.2.2.2.2.2.2.1) (.int q3.2.2.2.2.2.2.2) (59 : Int32) q6 hqq6) u_ml_X8_49 u_im_X8_take u_se_X8_take u_in_X8 u_co_X8_take hd_X8_take ⟨Nat.le_of_ble_eq_true rfl, Nat.le_of_ble_eq_true rfl⟩ ⟨rfl, rfl⟩ hK hH hA (cutM (isC := [0, 1]) [some 0, some 1] 2 rfl rfl rfl rfl rfl rfl rfl) rfl rfl rfl rfl hl.1 (Nat.le_of_ble_eq_true rfl) dX8_findFault_42 ⟨Nat.le_of_ble_eq_true rfl, Nat.le_of_ble_eq_true rfl⟩ (fun H locs hH => ?_)
            refine lv_if_ne (tgt := 53) hx hb dX8_findFault_45 (by decide) (fun c7 => ?_) (fun c7 => ?_)
            · replace h := dc_neg c7 h
              refine lv_iinc (v := (y8_3 + (1 : Int32))) (lv' := [(3, .int (y8_3 + (1 : Int32))), (0, .ref a_t)]) hx hb dX8_findFault_53 hl (k := 1) rfl rfl (by decide) rfl (fun ls hl => ?_)
              refine lv_goto (tgt := 8) hx hb dX8_findFault_56 (by decide) ?_
              exact ih kf (y8_3 + (1 : Int32)) q6.2 q3.2.2.1 q3.2.2.2.1 q3.2.2.2.2.1 q3.2.2.2.2.2.1 q3.2.2.2.2.2.2.1 q3.2.2.2.2.2.2.2 h kk H locs ls hH (lv_sub hl [1, 0] rfl)
            · replace h := dc_pos c7 h
              refine lv_aload_n hx hb dX8_findFault_48 rfl (lv_at hl 0 rfl) ?_
              refine gk_get (ci := 7) (C := RX8) (T := TX8) (N := 9) hx hb hts u_ws_X8 hown hK hH 0 rfl rfl 2 (by decide) u_fl_X8_19 rfl dX8_findFault_49 ?_
              have h := Option.some.inj h
              subst h
              exact ge_i hx hb hr hlocks hQ hK hH hAe rfl dX8_findFault_52
          · replace h := dc_pos c5 h
            refine lv_iconst (v := -1) hx hb dX8_findFault_37 (by decide) ?_
            have h := Option.some.inj h
            subst h
            exact ge_i hx hb hr hlocks hQ hK hH hAe rfl dX8_findFault_38
        · replace h := dc_pos c4 h
          refine lv_aload_n hx hb dX8_findFault_21 rfl (lv_at hl 0 rfl) ?_
          refine gk_get (ci := 7) (C := RX8) (T := TX8) (N := 9) hx hb hts u_ws_X8 hown hK hH 0 rfl rfl 2 (by decide) u_fl_X8_19 rfl dX8_findFault_22 ?_
          have h := Option.some.inj h
          subst h
          exact ge_i hx hb hr hlocks hQ hK hH hAe rfl dX8_findFault_25
  rw [fX8_findFault] at h
  refine lv_aload_n hx hb dX8_findFault_0 rfl (lv_at hl 0 rfl) ?_
  refine lv_aload_n hx hb dX8_findFault_1 rfl (lv_at hl 1 rfl) ?_
  refine lv_iload_n hx hb dX8_findFault_2 rfl (lv_at hl 2 rfl) ?_
  obtain ⟨q1, hqq1, h⟩ := dc_bind h
  refine gc_Vv (ws' := [(a_t, .inr (7, [.ref a_p1, .int q1.2, .int q1.1, .int t_number, .int t_kind, .int t_first, .int t_second, .int t_third, .int t_isCore])), (a_p1, .inl (k 1, 80, .inl p1))]) (As := [.ref a_p1, .int x2]) (rest := []) (n := 2) (ci := 7) (cq := (RX8, TX8, 9)) hTs ⟨hx, hb, hml, hown, hts⟩ (mX8_begin l Ts hTs D k H.size a_p1 a_t a_t_text p1 v_t_at (.int t_first) (.int t_isCore) (.int t_kind) v_t_length (.int t_number) (.int t_second) (.int t_third) x2 q1 hqq1) u_ml_X8_41 u_im_X8_begin u_se_X8_begin u_in_X8 u_co_X8_begin hd_X8_begin ⟨Nat.le_of_ble_eq_true rfl, Nat.le_of_ble_eq_true rfl⟩ ⟨rfl, rfl⟩ hK hH hA (cutM (isC := [0, 1]) [some 0, some 1] 2 rfl rfl rfl rfl rfl rfl rfl) rfl rfl rfl rfl hl.1 (Nat.le_of_ble_eq_true rfl) dX8_findFault_3 ⟨Nat.le_of_ble_eq_true rfl, Nat.le_of_ble_eq_true rfl⟩ (fun H locs hH => ?_)
  refine lv_iconst (v := 0) hx hb dX8_findFault_6 (by decide) ?_
  refine lv_istore_n (lv' := [(3, .int (0 : Int32)), (0, .ref a_t), (1, .ref a_p1), (2, .int x2)]) hx hb dX8_findFault_7 rfl hl (by decide) rfl (fun ls hl => ?_)
  refine L8 q1.2 _ _ (0 : Int32) q1.1 t_first t_isCore t_kind t_number t_second t_third h (fun z8_t_at z8_t_first z8_t_isCore z8_t_kind z8_t_number z8_t_second z8_t_third H locs ls h hH hl => ?_) H locs ls hH (lv_sub hl [1, 0] rfl)
  refine lv_aload_n hx hb dX8_findFault_59 rfl (lv_at hl 0 rfl) ?_
  refine gk_get (ci := 7) (C := RX8) (T := TX8) (N := 9) hx hb hts u_ws_X8 hown hK hH 0 rfl rfl 2 (by decide) u_fl_X8_19 rfl dX8_findFault_60 ?_
  have h := Option.some.inj h
  subst h
  exact ge_i hx hb hr hlocks hQ hK hH hAe rfl dX8_findFault_63
theorem hd_X9_addUnit : yX9_addUnit.cls = RX9 ∧ yX9_addUnit.cls ≠ "java/lang/invoke/MethodHandle" ∧ yX9_addUnit.cls ≠ "java/lang/invoke/VarHandle" ∧ (parseMethodDescriptor yX9_addUnit.desc).map (fun d => d.parameters.length) = some 4 := by decide +kernel
set_option maxHeartbeats 4000000 in
set_option maxRecDepth 100000 in
theorem mX9_addUnit (l : Launch) (Ts : List Cond) (hTs : ∀ w, w ∈ Ts ↔ w ∈ uT) (D : va_G) (k : Nat → ClassId) (sz : Nat) (a_t : Nat) (a_t_population : Nat) (a_t_area : Nat) (a_t_community : Nat) (a_t_outer : Nat) (a_t_neighbors : Nat) (a_t_lengths : Nat) (a_t_plan : Nat) (t_area : Nat → Int32) (t_community : Nat → Int32) (t_cores : Int32) (t_outer : Nat → Int32) (t_population : Nat → Int32) (t_units : Int32) (v_t_districts : Value) (v_t_hasPlan : Value) (v_t_tolerance : Value) (x1 : Int32) (x2 : Int32) (x3 : Int32) (x4 : Int32) (r : Int32 × (Nat → Int32) × (Nat → Int32) × Int32 × (Nat → Int32) × (Nat → Int32) × Int32) (h : fX9_addUnit t_area t_community t_cores t_outer t_population t_units x1 x2 x3 x4 = some r) : Met l yX9_addUnit (Cond.code yX9_addUnit cX9_addUnit 5 (some .boolean) :: Ts) ({ frames := 0, cells := 0, slots := 0, locals := 0 } : Room) (preM D k [.ref a_t, .int x1, .int x2, .int x3, .int x4] [(a_t, .inr (8, [.int t_units, .ref a_t_population, .ref a_t_area, .ref a_t_community, .ref a_t_outer, .ref a_t_neighbors, .ref a_t_lengths, .int t_cores, v_t_districts, v_t_tolerance, v_t_hasPlan, .ref a_t_plan])), (a_t_population, .inl (k 0, 12, .inl t_population)), (a_t_area, .inl (k 0, 12, .inl t_area)), (a_t_community, .inl (k 0, 12, .inl t_community)), (a_t_outer, .inl (k 0, 12, .inl t_outer))] sz) (postI D k r.1 [(a_t, .inr (8, [.int t_units, .ref a_t_population, .ref a_t_area, .ref a_t_community, .ref a_t_outer, .ref a_t_neighbors, .ref a_t_lengths, .int t_cores, v_t_districts, v_t_tolerance, v_t_hasPlan, .ref a_t_plan])), (a_t_population, .inl (k 0, 12, .inl t_population)), (a_t_area, .inl (k 0, 12, .inl t_area)), (a_t_community, .inl (k 0, 12, .inl t_community)), (a_t_outer, .inl (k 0, 12, .inl t_outer))] [(a_t, .inr (8, [.int r.2.2.2.2.2.2, .ref a_t_population, .ref a_t_area, .ref a_t_community, .ref a_t_outer, .ref a_t_neighbors, .ref a_t_lengths, .int r.2.2.2.1, v_t_districts, v_t_tolerance, v_t_hasPlan, .ref a_t_plan])), (a_t_population, .inl (k 0, 12, .inl r.2.2.2.2.2.1)), (a_t_area, .inl (k 0, 12, .inl r.2.1)), (a_t_community, .inl (k 0, 12, .inl r.2.2.1)), (a_t_outer, .inl (k 0, 12, .inl r.2.2.2.2.1))] sz) 0 0 (va_A [(a_t, .inr (8, [.int t_units, .ref a_t_population, .ref a_t_area, .ref a_t_community, .ref a_t_outer, .ref a_t_neighbors, .ref a_t_lengths, .int t_cores, v_t_districts, v_t_tolerance, v_t_hasPlan, .ref a_t_plan])), (a_t_population, .inl (k 0, 12, .inl t_population)), (a_t_area, .inl (k 0, 12, .inl t_area)), (a_t_community, .inl (k 0, 12, .inl t_community)), (a_t_outer, .inl (k 0, 12, .inl t_outer))] sz) := by
  refine Met.ofW (cc := cX9_addUnit) (maxL := 5) (ret := (some .boolean)) (by decide) rfl ?_
  intro p e s m args below meth c s₁ B hml hv
  obtain ⟨rfl, hsz, hP, hK, hD0⟩ := hv
  have hx := B.exec
  have hb := B.bytes
  have hr := B.returns
  have hts0 := atoms_spec (ws := (Cond.code yX9_addUnit cX9_addUnit 5 (some .boolean) :: Ts)) B.pre
  have hts : ∀ w ∈ uT, w.before _ s = true := fun w h => hts0 w (List.mem_cons_of_mem _ ((hTs w).mpr h))
  clear hts0
  have hown : s.vm.findClass RX9 = some m.cls := findClass_of_methodNamed B.named
  have hlocks := B.notSynchronized
  subst hsz
  have hD := hD0.self (sz := s.heap.size)
  generalize hAe : va_A [(a_t, .inr (8, [.int t_units, .ref a_t_population, .ref a_t_area, .ref a_t_community, .ref a_t_outer, .ref a_t_neighbors, .ref a_t_lengths, .int t_cores, v_t_districts, v_t_tolerance, v_t_hasPlan, .ref a_t_plan])), (a_t_population, .inl (k 0, 12, .inl t_population)), (a_t_area, .inl (k 0, 12, .inl t_area)), (a_t_community, .inl (k 0, 12, .inl t_community)), (a_t_outer, .inl (k 0, 12, .inl t_outer))] s.heap.size = A at hD ⊢
  have hA : ∀ q : Nat, s.heap.size ≤ q → A q := fun q h => by rw [← hAe]; exact Or.inr h
  have hH : HOK D A s.heap [(a_t, .inr (8, [.int t_units, .ref a_t_population, .ref a_t_area, .ref a_t_community, .ref a_t_outer, .ref a_t_neighbors, .ref a_t_lengths, .int t_cores, v_t_districts, v_t_tolerance, v_t_hasPlan, .ref a_t_plan])), (a_t_population, .inl (k 0, 12, .inl t_population)), (a_t_area, .inl (k 0, 12, .inl t_area)), (a_t_community, .inl (k 0, 12, .inl t_community)), (a_t_outer, .inl (k 0, 12, .inl t_outer))] s.heap [] := ⟨hP, hD, va_S.rf⟩
  have hl := lv_entry ([.ref a_t, .int x1, .int x2, .int x3, .int x4]) (n := 5) (Nat.le_of_ble_eq_true rfl)
  rw [lg_entry_eq]
  generalize (lg_sl ([.ref a_t, .int x1, .int x2, .int x3, .int x4]) ++ List.replicate (5 - (lg_sl ([.ref a_t, .int x1, .int x2, .int x3, .int x4])).length) Slot.unset).toArray = ls at hl ⊢
  have hl : lv_has ls 5 [(0, .ref a_t), (1, .int x1), (2, .int x2), (3, .int x3), (4, .int x4)] := hl
  generalize hQ : MQ below (postI D k r.1 [(a_t, .inr (8, [.int t_units, .ref a_t_population, .ref a_t_area, .ref a_t_community, .ref a_t_outer, .ref a_t_neighbors, .ref a_t_lengths, .int t_cores, v_t_districts, v_t_tolerance, v_t_hasPlan, .ref a_t_plan])), (a_t_population, .inl (k 0, 12, .inl t_population)), (a_t_area, .inl (k 0, 12, .inl t_area)), (a_t_community, .inl (k 0, 12, .inl t_community)), (a_t_outer, .inl (k 0, 12, .inl t_outer))] [(a_t, .inr (8, [.int r.2.2.2.2.2.2, .ref a_t_population, .ref a_t_area, .ref a_t_community, .ref a_t_outer, .ref a_t_neighbors, .ref a_t_lengths, .int r.2.2.2.1, v_t_districts, v_t_tolerance, v_t_hasPlan, .ref a_t_plan])), (a_t_population, .inl (k 0, 12, .inl r.2.2.2.2.2.1)), (a_t_area, .inl (k 0, 12, .inl r.2.1)), (a_t_community, .inl (k 0, 12, .inl r.2.2.1)), (a_t_outer, .inl (k 0, 12, .inl r.2.2.2.2.1))] s.heap.size) (List.toArray [.ref a_t, .int x1, .int x2, .int x3, .int x4]) s 0 0 A = Q
  clear hP hD hD0
  suffices K : ∀ (H : Heap) (locs : List Loc), HOK D A s.heap [(a_t, .inr (8, [.int t_units, .ref a_t_population, .ref a_t_area, .ref a_t_community, .ref a_t_outer, .ref a_t_neighbors, .ref a_t_lengths, .int t_cores, v_t_districts, v_t_tolerance, v_t_hasPlan, .ref a_t_plan])), (a_t_population, .inl (k 0, 12, .inl t_population)), (a_t_area, .inl (k 0, 12, .inl t_area)), (a_t_community, .inl (k 0, 12, .inl t_community)), (a_t_outer, .inl (k 0, 12, .inl t_outer))] H locs → W p l e ({ frames := 0, cells := 0, slots := 0, locals := 0 } : Room) s m (List.toArray [.ref a_t, .int x1, .int x2, .int x3, .int x4]) below meth c H locs 0 0 Q (F0 m 0 ls []) from K s.heap [] hH
  intro H locs hH
  rw [fX9_addUnit] at h
  refine lv_aload_n hx hb dX9_addUnit_0 rfl (lv_at hl 0 rfl) ?_
  refine gk_get (ci := 8) (C := RX9) (T := TX9) (N := 12) hx hb hts u_ws_X9 hown hK hH 0 rfl rfl 0 (by decide) u_fl_X9_9 rfl dX9_addUnit_1 ?_
  refine lv_bipush (v := 12) hx hb dX9_addUnit_4 (by decide) ?_
  refine lv_icmp_ge (tgt := 22) hx hb dX9_addUnit_6 (by decide) (fun c1 => ?_) (fun c1 => ?_)
  · replace h := dc_pos c1 h
    refine lv_iconst (v := 0) hx hb dX9_addUnit_22 (by decide) ?_
    have h := Option.some.inj h
    subst h
    exact ge_z hx hb hr rfl hlocks hQ hK hH hAe rfl dX9_addUnit_23
  · replace h := dc_neg c1 h
    refine lv_iload_n hx hb dX9_addUnit_9 rfl (lv_at hl 1 rfl) ?_
    refine lv_if_eq (tgt := 22) hx hb dX9_addUnit_10 (by decide) (fun c2 => ?_) (fun c2 => ?_)
    · replace h := dc_pos c2 h
      refine lv_iconst (v := 0) hx hb dX9_addUnit_22 (by decide) ?_
      have h := Option.some.inj h
      subst h
      exact ge_z hx hb hr rfl hlocks hQ hK hH hAe rfl dX9_addUnit_23
    · replace h := dc_neg c2 h
      refine lv_iload_n hx hb dX9_addUnit_13 rfl (lv_at hl 2 rfl) ?_
      refine lv_if_eq (tgt := 22) hx hb dX9_addUnit_14 (by decide) (fun c3 => ?_) (fun c3 => ?_)
      · replace h := dc_pos c3 h
        refine lv_iconst (v := 0) hx hb dX9_addUnit_22 (by decide) ?_
        have h := Option.some.inj h
        subst h
        exact ge_z hx hb hr rfl hlocks hQ hK hH hAe rfl dX9_addUnit_23
      · replace h := dc_neg c3 h
        refine lv_iload_n hx hb dX9_addUnit_17 rfl (lv_at hl 3 rfl) ?_
        refine lv_iconst (v := 4) hx hb dX9_addUnit_18 (by decide) ?_
        refine lv_icmp_lt (tgt := 24) hx hb dX9_addUnit_19 (by decide) (fun c4 => ?_) (fun c4 => ?_)
        · replace h := dc_pos c4 h
          refine lv_aload_n hx hb dX9_addUnit_24 rfl (lv_at hl 0 rfl) ?_
          refine gk_get (ci := 8) (C := RX9) (T := TX9) (N := 12) hx hb hts u_ws_X9 hown hK hH 0 rfl rfl 1 (by decide) u_fl_X9_15 rfl dX9_addUnit_25 ?_
          refine lv_aload_n hx hb dX9_addUnit_28 rfl (lv_at hl 0 rfl) ?_
          refine gk_get (ci := 8) (C := RX9) (T := TX9) (N := 12) hx hb hts u_ws_X9 hown hK hH 0 rfl rfl 0 (by decide) u_fl_X9_9 rfl dX9_addUnit_29 ?_
          refine lv_iload_n hx hb dX9_addUnit_32 rfl (lv_at hl 1 rfl) ?_
          obtain ⟨g5, h⟩ := dc_need h
          refine gk_iast hx hb hK hH 1 rfl (dk_in g5) dX9_addUnit_33 [(a_t, .inr (8, [.int t_units, .ref a_t_population, .ref a_t_area, .ref a_t_community, .ref a_t_outer, .ref a_t_neighbors, .ref a_t_lengths, .int t_cores, v_t_districts, v_t_tolerance, v_t_hasPlan, .ref a_t_plan])), (a_t_population, .inl (k 0, 12, .inl (upd t_population t_units.toNatClampNeg x1))), (a_t_area, .inl (k 0, 12, .inl t_area)), (a_t_community, .inl (k 0, 12, .inl t_community)), (a_t_outer, .inl (k 0, 12, .inl t_outer))] rfl (fun H locs hH => ?_)
          refine lv_aload_n hx hb dX9_addUnit_34 rfl (lv_at hl 0 rfl) ?_
          refine gk_get (ci := 8) (C := RX9) (T := TX9) (N := 12) hx hb hts u_ws_X9 hown hK hH 0 rfl rfl 2 (by decide) u_fl_X9_19 rfl dX9_addUnit_35 ?_
          refine lv_aload_n hx hb dX9_addUnit_38 rfl (lv_at hl 0 rfl) ?_
          refine gk_get (ci := 8) (C := RX9) (T := TX9) (N := 12) hx hb hts u_ws_X9 hown hK hH 0 rfl rfl 0 (by decide) u_fl_X9_9 rfl dX9_addUnit_39 ?_
          refine lv_iload_n hx hb dX9_addUnit_42 rfl (lv_at hl 2 rfl) ?_
          obtain ⟨g6, h⟩ := dc_need h
          refine gk_iast hx hb hK hH 2 rfl (dk_in g6) dX9_addUnit_43 [(a_t, .inr (8, [.int t_units, .ref a_t_population, .ref a_t_area, .ref a_t_community, .ref a_t_outer, .ref a_t_neighbors, .ref a_t_lengths, .int t_cores, v_t_districts, v_t_tolerance, v_t_hasPlan, .ref a_t_plan])), (a_t_population, .inl (k 0, 12, .inl (upd t_population t_units.toNatClampNeg x1))), (a_t_area, .inl (k 0, 12, .inl (upd t_area t_units.toNatClampNeg x2))), (a_t_community, .inl (k 0, 12, .inl t_community)), (a_t_outer, .inl (k 0, 12, .inl t_outer))] rfl (fun H locs hH => ?_)
          refine lv_aload_n hx hb dX9_addUnit_44 rfl (lv_at hl 0 rfl) ?_
          refine gk_get (ci := 8) (C := RX9) (T := TX9) (N := 12) hx hb hts u_ws_X9 hown hK hH 0 rfl rfl 3 (by decide) u_fl_X9_22 rfl dX9_addUnit_45 ?_
          refine lv_aload_n hx hb dX9_addUnit_48 rfl (lv_at hl 0 rfl) ?_
          refine gk_get (ci := 8) (C := RX9) (T := TX9) (N := 12) hx hb hts u_ws_X9 hown hK hH 0 rfl rfl 0 (by decide) u_fl_X9_9 rfl dX9_addUnit_49 ?_
          refine lv_iload_n hx hb dX9_addUnit_52 rfl (lv_at hl 3 rfl) ?_
          obtain ⟨g7, h⟩ := dc_need h
          refine gk_iast hx hb hK hH 3 rfl (dk_in g7) dX9_addUnit_53 [(a_t, .inr (8, [.int t_units, .ref a_t_population, .ref a_t_area, .ref a_t_community, .ref a_t_outer, .ref a_t_neighbors, .ref a_t_lengths, .int t_cores, v_t_districts, v_t_tolerance, v_t_hasPlan, .ref a_t_plan])), (a_t_population, .inl (k 0, 12, .inl (upd t_population t_units.toNatClampNeg x1))), (a_t_area, .inl (k 0, 12, .inl (upd t_area t_units.toNatClampNeg x2))), (a_t_community, .inl (k 0, 12, .inl (upd t_community t_units.toNatClampNeg x3))), (a_t_outer, .inl (k 0, 12, .inl t_outer))] rfl (fun H locs hH => ?_)
          refine lv_aload_n hx hb dX9_addUnit_54 rfl (lv_at hl 0 rfl) ?_
          refine gk_get (ci := 8) (C := RX9) (T := TX9) (N := 12) hx hb hts u_ws_X9 hown hK hH 0 rfl rfl 4 (by decide) u_fl_X9_25 rfl dX9_addUnit_55 ?_
          refine lv_aload_n hx hb dX9_addUnit_58 rfl (lv_at hl 0 rfl) ?_
          refine gk_get (ci := 8) (C := RX9) (T := TX9) (N := 12) hx hb hts u_ws_X9 hown hK hH 0 rfl rfl 0 (by decide) u_fl_X9_9 rfl dX9_addUnit_59 ?_
          refine lv_iconst (v := 0) hx hb dX9_addUnit_62 (by decide) ?_
          obtain ⟨g8, h⟩ := dc_need h
          refine gk_iast hx hb hK hH 4 rfl (dk_in g8) dX9_addUnit_63 [(a_t, .inr (8, [.int t_units, .ref a_t_population, .ref a_t_area, .ref a_t_community, .ref a_t_outer, .ref a_t_neighbors, .ref a_t_lengths, .int t_cores, v_t_districts, v_t_tolerance, v_t_hasPlan, .ref a_t_plan])), (a_t_population, .inl (k 0, 12, .inl (upd t_population t_units.toNatClampNeg x1))), (a_t_area, .inl (k 0, 12, .inl (upd t_area t_units.toNatClampNeg x2))), (a_t_community, .inl (k 0, 12, .inl (upd t_community t_units.toNatClampNeg x3))), (a_t_outer, .inl (k 0, 12, .inl (upd t_outer t_units.toNatClampNeg (0 : Int32))))] rfl (fun H locs hH => ?_)
          refine lv_iload hx hb dX9_addUnit_64 (lv_at hl 4 rfl) ?_
          refine lv_if_eq (tgt := 84) hx hb dX9_addUnit_66 (by decide) (fun c9 => ?_) (fun c9 => ?_)
          · replace h := dc_pos c9 h
            refine lv_aload_n hx hb dX9_addUnit_84 rfl (lv_at hl 0 rfl) ?_
            refine lv_dup hx hb dX9_addUnit_85 rfl ?_
            refine gk_get (ci := 8) (C := RX9) (T := TX9) (N := 12) hx hb hts u_ws_X9 hown hK hH 0 rfl rfl 0 (by decide) u_fl_X9_9 rfl dX9_addUnit_86 ?_
            refine lv_iconst (v := 1) hx hb dX9_addUnit_89 (by decide) ?_
            refine lv_iadd hx hb dX9_addUnit_90 ?_
            refine gk_put (ci := 8) (C := RX9) (T := TX9) (N := 12) hx hb hts u_ws_X9 tyX9_ok nmX9 hown hK hH 0 rfl rfl 0 (by decide) u_fl_X9_9 rfl rfl rfl (Nat.le_of_ble_eq_true rfl) dX9_addUnit_91 [(a_t, .inr (8, [.int (t_units + (1 : Int32)), .ref a_t_population, .ref a_t_area, .ref a_t_community, .ref a_t_outer, .ref a_t_neighbors, .ref a_t_lengths, .int t_cores, v_t_districts, v_t_tolerance, v_t_hasPlan, .ref a_t_plan])), (a_t_population, .inl (k 0, 12, .inl (upd t_population t_units.toNatClampNeg x1))), (a_t_area, .inl (k 0, 12, .inl (upd t_area t_units.toNatClampNeg x2))), (a_t_community, .inl (k 0, 12, .inl (upd t_community t_units.toNatClampNeg x3))), (a_t_outer, .inl (k 0, 12, .inl (upd t_outer t_units.toNatClampNeg (0 : Int32))))] rfl (fun H locs hH => ?_)
            refine lv_iconst (v := 1) hx hb dX9_addUnit_94 (by decide) ?_
            have h := Option.some.inj h
            subst h
            exact ge_z hx hb hr rfl hlocks hQ hK hH hAe rfl dX9_addUnit_95
          · replace h := dc_neg c9 h
            refine lv_aload_n hx hb dX9_addUnit_69 rfl (lv_at hl 0 rfl) ?_
            refine lv_dup hx hb dX9_addUnit_70 rfl ?_
            refine gk_get (ci := 8) (C := RX9) (T := TX9) (N := 12) hx hb hts u_ws_X9 hown hK hH 0 rfl rfl 7 (by decide) u_fl_X9_34 rfl dX9_addUnit_71 ?_
            refine lv_iconst (v := 1) hx hb dX9_addUnit_74 (by decide) ?_
            refine lv_aload_n hx hb dX9_addUnit_75 rfl (lv_at hl 0 rfl) ?_
            refine gk_get (ci := 8) (C := RX9) (T := TX9) (N := 12) hx hb hts u_ws_X9 hown hK hH 0 rfl rfl 0 (by decide) u_fl_X9_9 rfl dX9_addUnit_76 ?_
            refine lv_ishl hx hb dX9_addUnit_79 ?_
            refine lv_ior hx hb dX9_addUnit_80 ?_
            refine gk_put (ci := 8) (C := RX9) (T := TX9) (N := 12) hx hb hts u_ws_X9 tyX9_ok nmX9 hown hK hH 0 rfl rfl 7 (by decide) u_fl_X9_34 rfl rfl rfl (Nat.le_of_ble_eq_true rfl) dX9_addUnit_81 [(a_t, .inr (8, [.int t_units, .ref a_t_population, .ref a_t_area, .ref a_t_community, .ref a_t_outer, .ref a_t_neighbors, .ref a_t_lengths, .int (t_cores ||| ((1 : Int32) <<< (t_units &&& 31))), v_t_districts, v_t_tolerance, v_t_hasPlan, .ref a_t_plan])), (a_t_population, .inl (k 0, 12, .inl (upd t_population t_units.toNatClampNeg x1))), (a_t_area, .inl (k 0, 12, .inl (upd t_area t_units.toNatClampNeg x2))), (a_t_community, .inl (k 0, 12, .inl (upd t_community t_units.toNatClampNeg x3))), (a_t_outer, .inl (k 0, 12, .inl (upd t_outer t_units.toNatClampNeg (0 : Int32))))] rfl (fun H locs hH => ?_)
            refine lv_aload_n hx hb dX9_addUnit_84 rfl (lv_at hl 0 rfl) ?_
            refine lv_dup hx hb dX9_addUnit_85 rfl ?_
            refine gk_get (ci := 8) (C := RX9) (T := TX9) (N := 12) hx hb hts u_ws_X9 hown hK hH 0 rfl rfl 0 (by decide) u_fl_X9_9 rfl dX9_addUnit_86 ?_
            refine lv_iconst (v := 1) hx hb dX9_addUnit_89 (by decide) ?_
            refine lv_iadd hx hb dX9_addUnit_90 ?_
            refine gk_put (ci := 8) (C := RX9) (T := TX9) (N := 12) hx hb hts u_ws_X9 tyX9_ok nmX9 hown hK hH 0 rfl rfl 0 (by decide) u_fl_X9_9 rfl rfl rfl (Nat.le_of_ble_eq_true rfl) dX9_addUnit_91 [(a_t, .inr (8, [.int (t_units + (1 : Int32)), .ref a_t_population, .ref a_t_area, .ref a_t_community, .ref a_t_outer, .ref a_t_neighbors, .ref a_t_lengths, .int (t_cores ||| ((1 : Int32) <<< (t_units &&& 31))), v_t_districts, v_t_tolerance, v_t_hasPlan, .ref a_t_plan])), (a_t_population, .inl (k 0, 12, .inl (upd t_population t_units.toNatClampNeg x1))), (a_t_area, .inl (k 0, 12, .inl (upd t_area t_units.toNatClampNeg x2))), (a_t_community, .inl (k 0, 12, .inl (upd t_community t_units.toNatClampNeg x3))), (a_t_outer, .inl (k 0, 12, .inl (upd t_outer t_units.toNatClampNeg (0 : Int32))))] rfl (fun H locs hH => ?_)
            refine lv_iconst (v := 1) hx hb dX9_addUnit_94 (by decide) ?_
            have h := Option.some.inj h
            subst h
            exact ge_z hx hb hr rfl hlocks hQ hK hH hAe rfl dX9_addUnit_95
        · replace h := dc_neg c4 h
          refine lv_iconst (v := 0) hx hb dX9_addUnit_22 (by decide) ?_
          have h := Option.some.inj h
          subst h
          exact ge_z hx hb hr rfl hlocks hQ hK hH hAe rfl dX9_addUnit_23
