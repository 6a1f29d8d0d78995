theorem hd_X0_countPlans : yX0_countPlans.cls = RX0 ∧ yX0_countPlans.cls ≠ "java/lang/invoke/MethodHandle" ∧ yX0_countPlans.cls ≠ "java/lang/invoke/VarHandle" ∧ (parseMethodDescriptor yX0_countPlans.desc).map (fun d => d.parameters.length) = some 1 := by decide +kernel
set_option maxHeartbeats 4000000 in
set_option maxRecDepth 100000 in
theorem mX0_countPlans (l : Launch) (Ts : List Cond) (hTs : ∀ w, w ∈ Ts ↔ w ∈ uT) (D : va_G) (k : Nat → ClassId) (sz : Nat) (a_p1 : Nat) (a_t : Nat) (a_t_codes : Nat) (a_t_isPossible : Nat) (a_t_sets : Nat) (a_t_plan : Nat) (a_t_best : Nat) (a_t_tried : Nat) (a_p1_population : Nat) (a_p1_area : Nat) (a_p1_community : Nat) (a_p1_outer : Nat) (a_p1_neighbors : Nat) (a_p1_lengths : Nat) (a_p1_plan : Nat) (p1_community : Nat → Int32) (p1_cores : Int32) (p1_districts : Int32) (p1_neighbors : Nat → Int32) (p1_population : Nat → Int32) (p1_tolerance : Int32) (p1_units : Int32) (t_codes : Nat → Int32) (t_hasPlans : Int32) (t_hasSets : Int32) (t_isPossible : Nat → Int32) (t_sets : Nat → Int32) (t_size : Int32) (v_p1_hasPlan : Value) (r : Int32 × (Nat → Int32) × Int32 × Int32 × (Nat → Int32) × (Nat → Int32) × Int32) (h : fX0_countPlans p1_community p1_cores p1_districts p1_neighbors p1_population p1_tolerance p1_units t_codes t_hasPlans t_hasSets t_isPossible t_sets t_size = some r) : Met l yX0_countPlans (Cond.code yX0_countPlans cX0_countPlans 2 (some .int) :: Ts) ({ frames := 42, cells := 0, slots := 0, locals := 1370 } : Room) (preM D k [.ref a_t, .ref a_p1] [(a_t, .inr (0, [.ref a_t_codes, .ref a_t_isPossible, .ref a_t_sets, .ref a_t_plan, .ref a_t_best, .ref a_t_tried, .int t_size, .int t_hasSets, .int t_hasPlans])), (a_p1, .inr (8, [.int p1_units, .ref a_p1_population, .ref a_p1_area, .ref a_p1_community, .ref a_p1_outer, .ref a_p1_neighbors, .ref a_p1_lengths, .int p1_cores, .int p1_districts, .int p1_tolerance, v_p1_hasPlan, .ref a_p1_plan])), (a_t_isPossible, .inl (k 2, 512, .inl t_isPossible)), (a_p1_population, .inl (k 0, 12, .inl p1_population)), (a_p1_community, .inl (k 0, 12, .inl p1_community)), (a_p1_neighbors, .inl (k 0, 12, .inl p1_neighbors)), (a_t_sets, .inl (k 0, 4, .inl t_sets)), (a_t_codes, .inl (k 0, 7770, .inl t_codes))] sz) (postI D k r.1 [(a_t, .inr (0, [.ref a_t_codes, .ref a_t_isPossible, .ref a_t_sets, .ref a_t_plan, .ref a_t_best, .ref a_t_tried, .int t_size, .int t_hasSets, .int t_hasPlans])), (a_p1, .inr (8, [.int p1_units, .ref a_p1_population, .ref a_p1_area, .ref a_p1_community, .ref a_p1_outer, .ref a_p1_neighbors, .ref a_p1_lengths, .int p1_cores, .int p1_districts, .int p1_tolerance, v_p1_hasPlan, .ref a_p1_plan])), (a_t_isPossible, .inl (k 2, 512, .inl t_isPossible)), (a_p1_population, .inl (k 0, 12, .inl p1_population)), (a_p1_community, .inl (k 0, 12, .inl p1_community)), (a_p1_neighbors, .inl (k 0, 12, .inl p1_neighbors)), (a_t_sets, .inl (k 0, 4, .inl t_sets)), (a_t_codes, .inl (k 0, 7770, .inl t_codes))] [(a_t, .inr (0, [.ref a_t_codes, .ref a_t_isPossible, .ref a_t_sets, .ref a_t_plan, .ref a_t_best, .ref a_t_tried, .int r.2.2.2.2.2.2, .int r.2.2.2.1, .int r.2.2.1])), (a_p1, .inr (8, [.int p1_units, .ref a_p1_population, .ref a_p1_area, .ref a_p1_community, .ref a_p1_outer, .ref a_p1_neighbors, .ref a_p1_lengths, .int p1_cores, .int p1_districts, .int p1_tolerance, v_p1_hasPlan, .ref a_p1_plan])), (a_t_isPossible, .inl (k 2, 512, .inl r.2.2.2.2.1)), (a_p1_population, .inl (k 0, 12, .inl p1_population)), (a_p1_community, .inl (k 0, 12, .inl p1_community)), (a_p1_neighbors, .inl (k 0, 12, .inl p1_neighbors)), (a_t_sets, .inl (k 0, 4, .inl r.2.2.2.2.2.1)), (a_t_codes, .inl (k 0, 7770, .inl r.2.1))] sz) 0 0 (va_A [(a_t, .inr (0, [.ref a_t_codes, .ref a_t_isPossible, .ref a_t_sets, .ref a_t_plan, .ref a_t_best, .ref a_t_tried, .int t_size, .int t_hasSets, .int t_hasPlans])), (a_p1, .inr (8, [.int p1_units, .ref a_p1_population, .ref a_p1_area, .ref a_p1_community, .ref a_p1_outer, .ref a_p1_neighbors, .ref a_p1_lengths, .int p1_cores, .int p1_districts, .int p1_tolerance, v_p1_hasPlan, .ref a_p1_plan])), (a_t_isPossible, .inl (k 2, 512, .inl t_isPossible)), (a_p1_population, .inl (k 0, 12, .inl p1_population)), (a_p1_community, .inl (k 0, 12, .inl p1_community)), (a_p1_neighbors, .inl (k 0, 12, .inl p1_neighbors)), (a_t_sets, .inl (k 0, 4, .inl t_sets)), (a_t_codes, .inl (k 0, 7770, .inl t_codes))] sz) := by
  refine Met.ofW (cc := cX0_countPlans) (maxL := 2) (ret := (some .int)) (by decide) rfl ?_
  intro p e s m args below meth c s₁ B hml hv
  obtain ⟨rfl, hsz, hP, hK, hD0⟩ := hv
  have hx := B.exec
  have hb := B.bytes
  have hr := B.returns
  have hts0 := atoms_spec (ws := (Cond.code yX0_countPlans cX0_countPlans 2 (some .int) :: Ts)) B.pre
  have hts : ∀ w ∈ uT, w.before _ s = true := fun w h => hts0 w (List.mem_cons_of_mem _ ((hTs w).mpr h))
  clear hts0
  have hown : s.vm.findClass RX0 = some m.cls := findClass_of_methodNamed B.named
  have hlocks := B.notSynchronized
  subst hsz
  have hD := hD0.self (sz := s.heap.size)
  generalize hAe : va_A [(a_t, .inr (0, [.ref a_t_codes, .ref a_t_isPossible, .ref a_t_sets, .ref a_t_plan, .ref a_t_best, .ref a_t_tried, .int t_size, .int t_hasSets, .int t_hasPlans])), (a_p1, .inr (8, [.int p1_units, .ref a_p1_population, .ref a_p1_area, .ref a_p1_community, .ref a_p1_outer, .ref a_p1_neighbors, .ref a_p1_lengths, .int p1_cores, .int p1_districts, .int p1_tolerance, v_p1_hasPlan, .ref a_p1_plan])), (a_t_isPossible, .inl (k 2, 512, .inl t_isPossible)), (a_p1_population, .inl (k 0, 12, .inl p1_population)), (a_p1_community, .inl (k 0, 12, .inl p1_community)), (a_p1_neighbors, .inl (k 0, 12, .inl p1_neighbors)), (a_t_sets, .inl (k 0, 4, .inl t_sets)), (a_t_codes, .inl (k 0, 7770, .inl t_codes))] s.heap.size = A at hD ⊢
  have hA : ∀ q : Nat, s.heap.size ≤ q → A q := fun q h => by rw [← hAe]; exact Or.inr h
  have hH : HOK D A s.heap [(a_t, .inr (0, [.ref a_t_codes, .ref a_t_isPossible, .ref a_t_sets, .ref a_t_plan, .ref a_t_best, .ref a_t_tried, .int t_size, .int t_hasSets, .int t_hasPlans])), (a_p1, .inr (8, [.int p1_units, .ref a_p1_population, .ref a_p1_area, .ref a_p1_community, .ref a_p1_outer, .ref a_p1_neighbors, .ref a_p1_lengths, .int p1_cores, .int p1_districts, .int p1_tolerance, v_p1_hasPlan, .ref a_p1_plan])), (a_t_isPossible, .inl (k 2, 512, .inl t_isPossible)), (a_p1_population, .inl (k 0, 12, .inl p1_population)), (a_p1_community, .inl (k 0, 12, .inl p1_community)), (a_p1_neighbors, .inl (k 0, 12, .inl p1_neighbors)), (a_t_sets, .inl (k 0, 4, .inl t_sets)), (a_t_codes, .inl (k 0, 7770, .inl t_codes))] s.heap [] := ⟨hP, hD, va_S.rf⟩
  have hl := lv_entry ([.ref a_t, .ref a_p1]) (n := 2) (Nat.le_of_ble_eq_true rfl)
  rw [lg_entry_eq]
  generalize (lg_sl ([.ref a_t, .ref a_p1]) ++ List.replicate (2 - (lg_sl ([.ref a_t, .ref a_p1])).length) Slot.unset).toArray = ls at hl ⊢
  have hl : lv_has ls 2 [(0, .ref a_t), (1, .ref a_p1)] := hl
  generalize hQ : MQ below (postI D k r.1 [(a_t, .inr (0, [.ref a_t_codes, .ref a_t_isPossible, .ref a_t_sets, .ref a_t_plan, .ref a_t_best, .ref a_t_tried, .int t_size, .int t_hasSets, .int t_hasPlans])), (a_p1, .inr (8, [.int p1_units, .ref a_p1_population, .ref a_p1_area, .ref a_p1_community, .ref a_p1_outer, .ref a_p1_neighbors, .ref a_p1_lengths, .int p1_cores, .int p1_districts, .int p1_tolerance, v_p1_hasPlan, .ref a_p1_plan])), (a_t_isPossible, .inl (k 2, 512, .inl t_isPossible)), (a_p1_population, .inl (k 0, 12, .inl p1_population)), (a_p1_community, .inl (k 0, 12, .inl p1_community)), (a_p1_neighbors, .inl (k 0, 12, .inl p1_neighbors)), (a_t_sets, .inl (k 0, 4, .inl t_sets)), (a_t_codes, .inl (k 0, 7770, .inl t_codes))] [(a_t, .inr (0, [.ref a_t_codes, .ref a_t_isPossible, .ref a_t_sets, .ref a_t_plan, .ref a_t_best, .ref a_t_tried, .int r.2.2.2.2.2.2, .int r.2.2.2.1, .int r.2.2.1])), (a_p1, .inr (8, [.int p1_units, .ref a_p1_population, .ref a_p1_area, .ref a_p1_community, .ref a_p1_outer, .ref a_p1_neighbors, .ref a_p1_lengths, .int p1_cores, .int p1_districts, .int p1_tolerance, v_p1_hasPlan, .ref a_p1_plan])), (a_t_isPossible, .inl (k 2, 512, .inl r.2.2.2.2.1)), (a_p1_population, .inl (k 0, 12, .inl p1_population)), (a_p1_community, .inl (k 0, 12, .inl p1_community)), (a_p1_neighbors, .inl (k 0, 12, .inl p1_neighbors)), (a_t_sets, .inl (k 0, 4, .inl r.2.2.2.2.2.1)), (a_t_codes, .inl (k 0, 7770, .inl r.2.1))] s.heap.size) (List.toArray [.ref a_t, .ref a_p1]) s 0 0 A = Q
  clear hP hD hD0
  suffices K : ∀ (H : Heap) (locs : List Loc), HOK D A s.heap [(a_t, .inr (0, [.ref a_t_codes, .ref a_t_isPossible, .ref a_t_sets, .ref a_t_plan, .ref a_t_best, .ref a_t_tried, .int t_size, .int t_hasSets, .int t_hasPlans])), (a_p1, .inr (8, [.int p1_units, .ref a_p1_population, .ref a_p1_area, .ref a_p1_community, .ref a_p1_outer, .ref a_p1_neighbors, .ref a_p1_lengths, .int p1_cores, .int p1_districts, .int p1_tolerance, v_p1_hasPlan, .ref a_p1_plan])), (a_t_isPossible, .inl (k 2, 512, .inl t_isPossible)), (a_p1_population, .inl (k 0, 12, .inl p1_population)), (a_p1_community, .inl (k 0, 12, .inl p1_community)), (a_p1_neighbors, .inl (k 0, 12, .inl p1_neighbors)), (a_t_sets, .inl (k 0, 4, .inl t_sets)), (a_t_codes, .inl (k 0, 7770, .inl t_codes))] H locs → W p l e ({ frames := 42, cells := 0, slots := 0, locals := 1370 } : Room) s m (List.toArray [.ref a_t, .ref a_p1]) below meth c H locs 0 0 Q (F0 m 0 ls []) from K s.heap [] hH
  intro H locs hH
  rw [fX0_countPlans] at h
  refine lv_aload_n hx hb dX0_countPlans_0 rfl (lv_at hl 0 rfl) ?_
  refine gk_get (ci := 0) (C := RX0) (T := TX0) (N := 9) hx hb hts u_ws_X0 hown hK hH 0 rfl rfl 8 (by decide) u_fl_X0_47 rfl dX0_countPlans_1 ?_
  refine lv_if_ne (tgt := 47) hx hb dX0_countPlans_4 (by decide) (fun c1 => ?_) (fun c1 => ?_)
  · replace h := dc_neg c1 h
    refine lv_aload_n hx hb dX0_countPlans_47 rfl (lv_at hl 0 rfl) ?_
    refine gk_get (ci := 0) (C := RX0) (T := TX0) (N := 9) hx hb hts u_ws_X0 hown hK hH 0 rfl rfl 6 (by decide) u_fl_X0_39 rfl dX0_countPlans_48 ?_
    have h := Option.some.inj h
    subst h
    exact ge_i hx hb hr hlocks hQ hK hH hAe rfl dX0_countPlans_51
  · replace h := dc_pos c1 h
    refine lv_aload_n hx hb dX0_countPlans_7 rfl (lv_at hl 1 rfl) ?_
    refine gk_get (ci := 8) (C := RX9) (T := TX9) (N := 12) hx hb hts u_ws_X9 hown hK hH 1 rfl rfl 0 (by decide) u_fl_X0_50 rfl dX0_countPlans_8 ?_
    refine lv_bipush (v := 9) hx hb dX0_countPlans_11 (by decide) ?_
    refine lv_icmp_gt (tgt := 47) hx hb dX0_countPlans_13 (by decide) (fun c2 => ?_) (fun c2 => ?_)
    · replace h := dc_pos c2 h
      refine lv_aload_n hx hb dX0_countPlans_47 rfl (lv_at hl 0 rfl) ?_
      refine gk_get (ci := 0) (C := RX0) (T := TX0) (N := 9) hx hb hts u_ws_X0 hown hK hH 0 rfl rfl 6 (by decide) u_fl_X0_39 rfl dX0_countPlans_48 ?_
      have h := Option.some.inj h
      subst h
      exact ge_i hx hb hr hlocks hQ hK hH hAe rfl dX0_countPlans_51
    · replace h := dc_neg c2 h
      refine lv_aload_n hx hb dX0_countPlans_16 rfl (lv_at hl 0 rfl) ?_
      refine lv_aload_n hx hb dX0_countPlans_17 rfl (lv_at hl 1 rfl) ?_
      obtain ⟨q3, hqq3, h⟩ := dc_bind h
      refine gc_Vv (ws' := [(a_t, .inr (0, [.ref a_t_codes, .ref a_t_isPossible, .ref a_t_sets, .ref a_t_plan, .ref a_t_best, .ref a_t_tried, .int t_size, .int q3.1, .int t_hasPlans])), (a_p1, .inr (8, [.int p1_units, .ref a_p1_population, .ref a_p1_area, .ref a_p1_community, .ref a_p1_outer, .ref a_p1_neighbors, .ref a_p1_lengths, .int p1_cores, .int p1_districts, .int p1_tolerance, v_p1_hasPlan, .ref a_p1_plan])), (a_t_isPossible, .inl (k 2, 512, .inl q3.2)), (a_p1_population, .inl (k 0, 12, .inl p1_population)), (a_p1_community, .inl (k 0, 12, .inl p1_community)), (a_p1_neighbors, .inl (k 0, 12, .inl p1_neighbors)), (a_t_sets, .inl (k 0, 4, .inl t_sets)), (a_t_codes, .inl (k 0, 7770, .inl t_codes))]) (As := [.ref a_p1]) (rest := []) (n := 1) (ci := 0) (cq := (RX0, TX0, 9)) hTs ⟨hx, hb, hml, hown, hts⟩ (mX0_findSets l Ts hTs D k H.size a_p1 a_t a_t_codes a_t_isPossible a_t_sets a_t_plan a_t_best a_t_tried a_p1_population a_p1_area a_p1_community a_p1_outer a_p1_neighbors a_p1_lengths a_p1_plan p1_community p1_cores p1_districts p1_neighbors p1_population p1_tolerance p1_units t_hasSets t_isPossible v_p1_hasPlan (.int t_hasPlans) (.int t_size) q3 hqq3) u_ml_X0_55 u_im_X0_findSets u_se_X0_findSets u_in_X0 u_co_X0_findSets hd_X0_findSets ⟨Nat.le_of_ble_eq_true rfl, Nat.le_of_ble_eq_true rfl⟩ ⟨rfl, rfl⟩ hK hH hA (cutM (isC := [0, 1, 2, 3, 4, 5]) [some 0, some 1, some 2, some 3, some 4, some 5, none, none] 8 rfl rfl rfl rfl rfl rfl rfl) rfl rfl rfl rfl hl.1 (Nat.le_of_ble_eq_true rfl) dX0_countPlans_18 ⟨Nat.le_of_ble_eq_true rfl, Nat.le_of_ble_eq_true rfl⟩ (fun H locs hH => ?_)
      refine lv_aload_n hx hb dX0_countPlans_21 rfl (lv_at hl 0 rfl) ?_
      refine lv_iconst (v := 0) hx hb dX0_countPlans_22 (by decide) ?_
      refine gk_put (ci := 0) (C := RX0) (T := TX0) (N := 9) hx hb hts u_ws_X0 tyX0_ok nmX0 hown hK hH 0 rfl rfl 6 (by decide) u_fl_X0_39 rfl rfl rfl (Nat.le_of_ble_eq_true rfl) dX0_countPlans_23 [(a_t, .inr (0, [.ref a_t_codes, .ref a_t_isPossible, .ref a_t_sets, .ref a_t_plan, .ref a_t_best, .ref a_t_tried, .int (0 : Int32), .int q3.1, .int t_hasPlans])), (a_p1, .inr (8, [.int p1_units, .ref a_p1_population, .ref a_p1_area, .ref a_p1_community, .ref a_p1_outer, .ref a_p1_neighbors, .ref a_p1_lengths, .int p1_cores, .int p1_districts, .int p1_tolerance, v_p1_hasPlan, .ref a_p1_plan])), (a_t_isPossible, .inl (k 2, 512, .inl q3.2)), (a_p1_population, .inl (k 0, 12, .inl p1_population)), (a_p1_community, .inl (k 0, 12, .inl p1_community)), (a_p1_neighbors, .inl (k 0, 12, .inl p1_neighbors)), (a_t_sets, .inl (k 0, 4, .inl t_sets)), (a_t_codes, .inl (k 0, 7770, .inl t_codes))] rfl (fun H locs hH => ?_)
      refine lv_aload_n hx hb dX0_countPlans_26 rfl (lv_at hl 0 rfl) ?_
      refine gk_get (ci := 0) (C := RX0) (T := TX0) (N := 9) hx hb hts u_ws_X0 hown hK hH 0 rfl rfl 2 (by decide) u_fl_X0_19 rfl dX0_countPlans_27 ?_
      refine lv_iconst (v := 0) hx hb dX0_countPlans_30 (by decide) ?_
      obtain ⟨q4, hqq4, h⟩ := dc_bind h
      refine gc_Sv (ws' := [(a_t, .inr (0, [.ref a_t_codes, .ref a_t_isPossible, .ref a_t_sets, .ref a_t_plan, .ref a_t_best, .ref a_t_tried, .int (0 : Int32), .int q3.1, .int t_hasPlans])), (a_p1, .inr (8, [.int p1_units, .ref a_p1_population, .ref a_p1_area, .ref a_p1_community, .ref a_p1_outer, .ref a_p1_neighbors, .ref a_p1_lengths, .int p1_cores, .int p1_districts, .int p1_tolerance, v_p1_hasPlan, .ref a_p1_plan])), (a_t_isPossible, .inl (k 2, 512, .inl q3.2)), (a_p1_population, .inl (k 0, 12, .inl p1_population)), (a_p1_community, .inl (k 0, 12, .inl p1_community)), (a_p1_neighbors, .inl (k 0, 12, .inl p1_neighbors)), (a_t_sets, .inl (k 0, 4, .inl q4)), (a_t_codes, .inl (k 0, 7770, .inl t_codes))]) (As := [.ref a_t_sets, .int (0 : Int32)]) (rest := []) (n := 2) hTs ⟨hx, hb, hml, hown, hts⟩ (mJ7_fill_53178 l Ts hTs D k H.size 4 a_t_sets t_sets (0 : Int32) q4 hqq4) u_ml_X0_59 u_st_J7_fill_53178 u_in_J7 u_co_J7_fill_53178 hd_J7_fill_53178 ⟨Nat.le_of_ble_eq_true rfl, Nat.le_of_ble_eq_true rfl⟩ ⟨rfl, rfl⟩ hK hH hA (cutM (isC := [6]) [none, none, none, none, none, none, some 0, none] 8 rfl rfl rfl rfl rfl rfl rfl) rfl rfl hl.1 (Nat.le_of_ble_eq_true rfl) dX0_countPlans_31 ⟨Nat.le_of_ble_eq_true rfl, Nat.le_of_ble_eq_true rfl⟩ (fun H locs hH => ?_)
      refine lv_aload_n hx hb dX0_countPlans_34 rfl (lv_at hl 0 rfl) ?_
      refine lv_aload_n hx hb dX0_countPlans_35 rfl (lv_at hl 1 rfl) ?_
      refine lv_iconst (v := 0) hx hb dX0_countPlans_36 (by decide) ?_
      refine lv_iconst (v := 0) hx hb dX0_countPlans_37 (by decide) ?_
      refine lv_iconst (v := 0) hx hb dX0_countPlans_38 (by decide) ?_
      obtain ⟨q5, hqq5, h⟩ := dc_bind h
      refine gc_Sv (ws' := [(a_t, .inr (0, [.ref a_t_codes, .ref a_t_isPossible, .ref a_t_sets, .ref a_t_plan, .ref a_t_best, .ref a_t_tried, .int q5.2.2, .int q3.1, .int t_hasPlans])), (a_p1, .inr (8, [.int p1_units, .ref a_p1_population, .ref a_p1_area, .ref a_p1_community, .ref a_p1_outer, .ref a_p1_neighbors, .ref a_p1_lengths, .int p1_cores, .int p1_districts, .int p1_tolerance, v_p1_hasPlan, .ref a_p1_plan])), (a_t_isPossible, .inl (k 2, 512, .inl q3.2)), (a_p1_population, .inl (k 0, 12, .inl p1_population)), (a_p1_community, .inl (k 0, 12, .inl p1_community)), (a_p1_neighbors, .inl (k 0, 12, .inl p1_neighbors)), (a_t_sets, .inl (k 0, 4, .inl q5.2.1)), (a_t_codes, .inl (k 0, 7770, .inl q5.1))]) (As := [.ref a_t, .ref a_p1, .int (0 : Int32), .int (0 : Int32), .int (0 : Int32)]) (rest := []) (n := 5) hTs ⟨hx, hb, hml, hown, hts⟩ (mX0_listFrom l Ts hTs 20 D k H.size a_t a_p1 a_p1_population a_p1_area a_p1_community a_p1_outer a_p1_neighbors a_p1_lengths a_p1_plan a_t_codes a_t_isPossible a_t_sets a_t_plan a_t_best a_t_tried t_codes q3.2 q4 (0 : Int32) p1_districts p1_units (.int t_hasPlans) (.int q3.1) (.int p1_cores) v_p1_hasPlan (.int p1_tolerance) (0 : Int32) (0 : Int32) (0 : Int32) q5 hqq5) u_ml_X0_65 u_st_X0_listFrom u_in_X0 u_co_X0_listFrom hd_X0_listFrom ⟨Nat.le_of_ble_eq_true rfl, Nat.le_of_ble_eq_true rfl⟩ ⟨rfl, rfl⟩ hK hH hA (cutM (isC := [1, 0, 6, 2, 7]) [some 1, some 0, some 3, none, none, none, some 2, some 4] 8 rfl rfl rfl rfl rfl rfl rfl) rfl rfl hl.1 (Nat.le_of_ble_eq_true rfl) dX0_countPlans_39 ⟨Nat.le_of_ble_eq_true rfl, Nat.le_of_ble_eq_true rfl⟩ (fun H locs hH => ?_)
      refine lv_aload_n hx hb dX0_countPlans_42 rfl (lv_at hl 0 rfl) ?_
      refine lv_iconst (v := 1) hx hb dX0_countPlans_43 (by decide) ?_
      refine gk_put (ci := 0) (C := RX0) (T := TX0) (N := 9) hx hb hts u_ws_X0 tyX0_ok nmX0 hown hK hH 0 rfl rfl 8 (by decide) u_fl_X0_47 rfl rfl rfl (Nat.le_of_ble_eq_true rfl) dX0_countPlans_44 [(a_t, .inr (0, [.ref a_t_codes, .ref a_t_isPossible, .ref a_t_sets, .ref a_t_plan, .ref a_t_best, .ref a_t_tried, .int q5.2.2, .int q3.1, .int (1 : Int32)])), (a_p1, .inr (8, [.int p1_units, .ref a_p1_population, .ref a_p1_area, .ref a_p1_community, .ref a_p1_outer, .ref a_p1_neighbors, .ref a_p1_lengths, .int p1_cores, .int p1_districts, .int p1_tolerance, v_p1_hasPlan, .ref a_p1_plan])), (a_t_isPossible, .inl (k 2, 512, .inl q3.2)), (a_p1_population, .inl (k 0, 12, .inl p1_population)), (a_p1_community, .inl (k 0, 12, .inl p1_community)), (a_p1_neighbors, .inl (k 0, 12, .inl p1_neighbors)), (a_t_sets, .inl (k 0, 4, .inl q5.2.1)), (a_t_codes, .inl (k 0, 7770, .inl q5.1))] rfl (fun H locs hH => ?_)
      refine lv_aload_n hx hb dX0_countPlans_47 rfl (lv_at hl 0 rfl) ?_
      refine gk_get (ci := 0) (C := RX0) (T := TX0) (N := 9) hx hb hts u_ws_X0 hown hK hH 0 rfl rfl 6 (by decide) u_fl_X0_39 rfl dX0_countPlans_48 ?_
      have h := Option.some.inj h
      subst h
      exact ge_i hx hb hr hlocks hQ hK hH hAe rfl dX0_countPlans_51
theorem hd_X0_countFrom : yX0_countFrom.cls ≠ "java/lang/invoke/MethodHandle" ∧ yX0_countFrom.cls ≠ "java/lang/invoke/VarHandle" ∧ (parseMethodDescriptor yX0_countFrom.desc).map (fun d => d.parameters.length) = some 3 := by decide +kernel
set_option maxHeartbeats 4000000 in
set_option maxRecDepth 100000 in
theorem mX0_countFrom (l : Launch) (Ts : List Cond) (hTs : ∀ w, w ∈ Ts ↔ w ∈ uT)  : ∀ (dd : Nat) (D : va_G) (k : Nat → ClassId) (sz : Nat) (a_p0 : Nat) (a_p0_codes : Nat) (a_p0_isPossible : Nat) (a_p0_sets : Nat) (a_p0_plan : Nat) (a_p0_best : Nat) (a_p0_tried : Nat) (p0_isPossible : Nat → Int32) (v_p0_hasPlans : Value) (v_p0_hasSets : Value) (v_p0_size : Value) (x1 : Int32) (x2 : Int32) (r : Int32) (h : fX0_countFrom dd p0_isPossible x1 x2 = some r), Met l yX0_countFrom (Cond.code yX0_countFrom cX0_countFrom 8 (some .int) :: Ts) ({ frames := 0 + 2 * dd, cells := 0, slots := 0, locals := 0 + 64 * dd } : Room) (preM D k [.ref a_p0, .int x1, .int x2] [(a_p0, .inr (0, [.ref a_p0_codes, .ref a_p0_isPossible, .ref a_p0_sets, .ref a_p0_plan, .ref a_p0_best, .ref a_p0_tried, v_p0_size, v_p0_hasSets, v_p0_hasPlans])), (a_p0_isPossible, .inl (k 2, 512, .inl p0_isPossible))] sz) (postI D k r [(a_p0, .inr (0, [.ref a_p0_codes, .ref a_p0_isPossible, .ref a_p0_sets, .ref a_p0_plan, .ref a_p0_best, .ref a_p0_tried, v_p0_size, v_p0_hasSets, v_p0_hasPlans])), (a_p0_isPossible, .inl (k 2, 512, .inl p0_isPossible))] [(a_p0, .inr (0, [.ref a_p0_codes, .ref a_p0_isPossible, .ref a_p0_sets, .ref a_p0_plan, .ref a_p0_best, .ref a_p0_tried, v_p0_size, v_p0_hasSets, v_p0_hasPlans])), (a_p0_isPossible, .inl (k 2, 512, .inl p0_isPossible))] sz) 0 0 (va_A [(a_p0, .inr (0, [.ref a_p0_codes, .ref a_p0_isPossible, .ref a_p0_sets, .ref a_p0_plan, .ref a_p0_best, .ref a_p0_tried, v_p0_size, v_p0_hasSets, v_p0_hasPlans])), (a_p0_isPossible, .inl (k 2, 512, .inl p0_isPossible))] sz)  := by
  intro dd
  induction dd with
  | zero => intro D k sz a_p0 a_p0_codes a_p0_isPossible a_p0_sets a_p0_plan a_p0_best a_p0_tried p0_isPossible v_p0_hasPlans v_p0_hasSets v_p0_size x1 x2 r h; exact absurd h (by rw [fX0_countFrom]; exact fun q => by cases q)
  | succ dd IH =>
    intro D k sz a_p0 a_p0_codes a_p0_isPossible a_p0_sets a_p0_plan a_p0_best a_p0_tried p0_isPossible v_p0_hasPlans v_p0_hasSets v_p0_size x1 x2 r h
    refine Met.ofW (cc := cX0_countFrom) (maxL := 8) (ret := (some .int)) (by decide) rfl ?_
    intro p e s m args below meth c s₁ B hml hv
    obtain ⟨rfl, hsz, hP, hK, hD0⟩ := hv
    have hx := B.exec
    have hb := B.bytes
    have hr := B.returns
    have hts0 := atoms_spec (ws := (Cond.code yX0_countFrom cX0_countFrom 8 (some .int) :: Ts)) B.pre
    have hts : ∀ w ∈ uT, w.before _ s = true := fun w h => hts0 w (List.mem_cons_of_mem _ ((hTs w).mpr h))
    clear hts0
    have hown : s.vm.findClass RX0 = some m.cls := findClass_of_methodNamed B.named
    have hlocks := B.notSynchronized
    subst hsz
    have hD := hD0.self (sz := s.heap.size)
    generalize hAe : va_A [(a_p0, .inr (0, [.ref a_p0_codes, .ref a_p0_isPossible, .ref a_p0_sets, .ref a_p0_plan, .ref a_p0_best, .ref a_p0_tried, v_p0_size, v_p0_hasSets, v_p0_hasPlans])), (a_p0_isPossible, .inl (k 2, 512, .inl p0_isPossible))] s.heap.size = A at hD ⊢
    have hA : ∀ q : Nat, s.heap.size ≤ q → A q := fun q h => by rw [← hAe]; exact Or.inr h
    have hH : HOK D A s.heap [(a_p0, .inr (0, [.ref a_p0_codes, .ref a_p0_isPossible, .ref a_p0_sets, .ref a_p0_plan, .ref a_p0_best, .ref a_p0_tried, v_p0_size, v_p0_hasSets, v_p0_hasPlans])), (a_p0_isPossible, .inl (k 2, 512, .inl p0_isPossible))] s.heap [] := ⟨hP, hD, va_S.rf⟩
    have hl := lv_entry ([.ref a_p0, .int x1, .int x2]) (n := 8) (by first | exact Nat.le_of_ble_eq_true rfl | (dsimp only [headSpec, List.map, List.sum_cons]; omega))
    rw [lg_entry_eq]
    generalize (lg_sl ([.ref a_p0, .int x1, .int x2]) ++ List.replicate (8 - (lg_sl ([.ref a_p0, .int x1, .int x2])).length) Slot.unset).toArray = ls at hl ⊢
    have hl : lv_has ls 8 [(0, .ref a_p0), (1, .int x1), (2, .int x2)] := hl
    generalize hQ : MQ below (postI D k r [(a_p0, .inr (0, [.ref a_p0_codes, .ref a_p0_isPossible, .ref a_p0_sets, .ref a_p0_plan, .ref a_p0_best, .ref a_p0_tried, v_p0_size, v_p0_hasSets, v_p0_hasPlans])), (a_p0_isPossible, .inl (k 2, 512, .inl p0_isPossible))] [(a_p0, .inr (0, [.ref a_p0_codes, .ref a_p0_isPossible, .ref a_p0_sets, .ref a_p0_plan, .ref a_p0_best, .ref a_p0_tried, v_p0_size, v_p0_hasSets, v_p0_hasPlans])), (a_p0_isPossible, .inl (k 2, 512, .inl p0_isPossible))] s.heap.size) (List.toArray [.ref a_p0, .int x1, .int x2]) s 0 0 A = Q
    clear hP hD hD0
    suffices K : ∀ (H : Heap) (locs : List Loc), HOK D A s.heap [(a_p0, .inr (0, [.ref a_p0_codes, .ref a_p0_isPossible, .ref a_p0_sets, .ref a_p0_plan, .ref a_p0_best, .ref a_p0_tried, v_p0_size, v_p0_hasSets, v_p0_hasPlans])), (a_p0_isPossible, .inl (k 2, 512, .inl p0_isPossible))] H locs → W p l e ({ frames := 0 + 2 * (dd + 1), cells := 0, slots := 0, locals := 0 + 64 * (dd + 1) } : Room) s m (List.toArray [.ref a_p0, .int x1, .int x2]) below meth c H locs 0 0 Q (F0 m 0 ls []) from K s.heap [] hH
    intro H locs hH
    have L42 : ∀ (y42_3 : Int32) (y42_4 : Int32) (n : Nat), ∀ (kf : Int32 → Option (Int32)) (y42_5 : Int32) (y42_6 : Int32) (y42_7 : Int32), fX0_countFrom_L42 (fX0_countFrom dd) p0_isPossible x2 y42_3 y42_4 n kf y42_5 y42_6 y42_7 = some r → (∀ (z42_5 : Int32) (H : Heap) (locs : List Loc) (ls : Array Slot), kf z42_5 = some r → HOK D A s.heap [(a_p0, .inr (0, [.ref a_p0_codes, .ref a_p0_isPossible, .ref a_p0_sets, .ref a_p0_plan, .ref a_p0_best, .ref a_p0_tried, v_p0_size, v_p0_hasSets, v_p0_hasPlans])), (a_p0_isPossible, .inl (k 2, 512, .inl p0_isPossible))] H locs → lv_has ls 8 [(5, .int z42_5)] → W p l e ({ frames := 0 + 2 * (dd + 1), cells := 0, slots := 0, locals := 0 + 64 * (dd + 1) } : Room) s m (List.toArray [.ref a_p0, .int x1, .int x2]) below meth c H locs 0 0 Q (F0 m 104 ls [])) → ∀ (H : Heap) (locs : List Loc) (ls : Array Slot), HOK D A s.heap [(a_p0, .inr (0, [.ref a_p0_codes, .ref a_p0_isPossible, .ref a_p0_sets, .ref a_p0_plan, .ref a_p0_best, .ref a_p0_tried, v_p0_size, v_p0_hasSets, v_p0_hasPlans])), (a_p0_isPossible, .inl (k 2, 512, .inl p0_isPossible))] H locs → lv_has ls 8 [(0, .ref a_p0), (2, .int x2), (3, .int y42_3), (4, .int y42_4), (5, .int y42_5), (6, .int y42_6), (7, .int y42_7)] → W p l e ({ frames := 0 + 2 * (dd + 1), cells := 0, slots := 0, locals := 0 + 64 * (dd + 1) } : Room) s m (List.toArray [.ref a_p0, .int x1, .int x2]) below meth c H locs 0 0 Q (F0 m 42 ls []) := by
      intro y42_3 y42_4 n
      induction n with
      | zero =>
        intro kf y42_5 y42_6 y42_7 h
        exact absurd h (by rw [fX0_countFrom_L42]; exact fun q => by cases q)
      | succ n ih =>
        intro kf y42_5 y42_6 y42_7 h kk H locs ls hH hl
        rw [fX0_countFrom_L42] at h
        refine lv_iload hx hb dX0_countFrom_42 (lv_at hl 6 rfl) ?_
        refine lv_sipush (v := 512) hx hb dX0_countFrom_44 (by decide) ?_
        refine lv_icmp_ge (tgt := 104) hx hb dX0_countFrom_47 (by decide) (fun c2 => ?_) (fun c2 => ?_)
        · replace h := dc_pos c2 h
          exact kk y42_5 H locs ls h hH (lv_sub hl [4] rfl)
        · replace h := dc_neg c2 h
          refine lv_aload_n hx hb dX0_countFrom_50 rfl (lv_at hl 0 rfl) ?_
          refine gk_get (ci := 0) (C := RX0) (T := TX0) (N := 9) hx hb hts u_ws_X0 hown hK hH 0 rfl rfl 1 (by decide) u_fl_X0_15 rfl dX0_countFrom_51 ?_
          refine lv_iload_n hx hb dX0_countFrom_54 rfl (lv_at hl 2 rfl) ?_
          refine lv_iload hx hb dX0_countFrom_55 (lv_at hl 5 rfl) ?_
          refine lv_ior hx hb dX0_countFrom_57 ?_
          obtain ⟨g3, h⟩ := dc_need h
          refine gk_bald hx hb hK hH 1 rfl (dk_in g3) dX0_countFrom_58 ?_
          refine lv_if_eq (tgt := 81) hx hb dX0_countFrom_59 (by decide) (fun c4 => ?_) (fun c4 => ?_)
          · replace h := dc_pos c4 h
            refine lv_iload hx hb dX0_countFrom_81 (lv_at hl 5 rfl) ?_
            refine lv_if_ne (tgt := 89) hx hb dX0_countFrom_83 (by decide) (fun c5 => ?_) (fun c5 => ?_)
            · replace h := dc_neg c5 h
              refine lv_iload hx hb dX0_countFrom_89 (lv_at hl 5 rfl) ?_
              refine lv_iconst (v := 1) hx hb dX0_countFrom_91 (by decide) ?_
              refine lv_isub hx hb dX0_countFrom_92 ?_
              refine lv_iload hx hb dX0_countFrom_93 (lv_at hl 3 rfl) ?_
              refine lv_iand hx hb dX0_countFrom_95 ?_
              refine lv_istore (lv' := [(6, .int ((y42_6 - (1 : Int32)) &&& y42_4)), (0, .ref a_p0), (2, .int x2), (3, .int y42_3), (4, .int y42_4), (5, .int y42_5), (7, .int y42_7)]) hx hb dX0_countFrom_96 hl (by decide) rfl (fun ls hl => ?_)
              refine lv_iinc (v := (y42_7 + (1 : Int32))) (lv' := [(7, .int (y42_7 + (1 : Int32))), (6, .int ((y42_6 - (1 : Int32)) &&& y42_4)), (0, .ref a_p0), (2, .int x2), (3, .int y42_3), (4, .int y42_4), (5, .int y42_5)]) hx hb dX0_countFrom_98 hl (k := 6) rfl rfl (by decide) rfl (fun ls hl => ?_)
              refine lv_goto (tgt := 42) hx hb dX0_countFrom_101 (by decide) ?_
              exact ih kf y42_5 ((y42_6 - (1 : Int32)) &&& y42_4) (y42_7 + (1 : Int32)) h kk H locs ls hH (lv_sub hl [2, 3, 4, 5, 6, 1, 0] rfl)
            · replace h := dc_pos c5 h
              refine lv_goto (tgt := 104) hx hb dX0_countFrom_86 (by decide) ?_
              exact kk y42_5 H locs ls h hH (lv_sub hl [4] rfl)
          · replace h := dc_neg c4 h
            refine lv_iload hx hb dX0_countFrom_62 (lv_at hl 4 rfl) ?_
            refine lv_aload_n hx hb dX0_countFrom_64 rfl (lv_at hl 0 rfl) ?_
            refine lv_iload hx hb dX0_countFrom_65 (lv_at hl 3 rfl) ?_
            refine lv_iload hx hb dX0_countFrom_67 (lv_at hl 5 rfl) ?_
            refine lv_iconst (v := -1) hx hb dX0_countFrom_69 (by decide) ?_
            refine lv_ixor hx hb dX0_countFrom_70 ?_
            refine lv_iand hx hb dX0_countFrom_71 ?_
            refine lv_iload_n hx hb dX0_countFrom_72 rfl (lv_at hl 1 rfl) ?_
            refine lv_iconst (v := 1) hx hb dX0_countFrom_73 (by decide) ?_
            refine lv_isub hx hb dX0_countFrom_74 ?_
            obtain ⟨q6, hqq6, h⟩ := dc_bind h
            refine gc_Si (ws' := [(a_p0, .inr (0, [.ref a_p0_codes, .ref a_p0_isPossible, .ref a_p0_sets, .ref a_p0_plan, .ref a_p0_best, .ref a_p0_tried, v_p0_size, v_p0_hasSets, v_p0_hasPlans])), (a_p0_isPossible, .inl (k 2, 512, .inl p0_isPossible))]) (As := [.ref a_p0, .int (y42_4 &&& (y42_6 ^^^ (-1 : Int32))), .int (x2 - (1 : Int32))]) (rest := [.int y42_5]) (n := 3) hTs ⟨hx, hb, hml, hown, hts⟩ (IH D k H.size a_p0 a_p0_codes a_p0_isPossible a_p0_sets a_p0_plan a_p0_best a_p0_tried p0_isPossible v_p0_hasPlans v_p0_hasSets v_p0_size (y42_4 &&& (y42_6 ^^^ (-1 : Int32))) (x2 - (1 : Int32)) q6 hqq6) u_ml_X0_76 u_st_X0_countFrom u_in_X0 u_co_X0_countFrom hd_X0_countFrom ⟨by first | exact Nat.le_of_ble_eq_true rfl | (dsimp only [headSpec, List.map, List.sum_cons]; omega), by first | exact Nat.le_of_ble_eq_true rfl | (dsimp only [headSpec, List.map, List.sum_cons]; omega)⟩ ⟨rfl, rfl⟩ hK hH hA (cut0 (isC := [0, 1]) rfl rfl rfl) rfl rfl hl.1 (by first | exact Nat.le_of_ble_eq_true rfl | (dsimp only [headSpec, List.map, List.sum_cons]; omega)) dX0_countFrom_75 ⟨by first | exact Nat.le_of_ble_eq_true rfl | (dsimp only [headSpec, List.map, List.sum_cons]; omega), by first | exact Nat.le_of_ble_eq_true rfl | (dsimp only [headSpec, List.map, List.sum_cons]; omega)⟩ (fun H locs hH => ?_)
            refine lv_iadd hx hb dX0_countFrom_78 ?_
            refine lv_istore (lv' := [(5, .int (y42_5 + q6)), (0, .ref a_p0), (2, .int x2), (3, .int y42_3), (4, .int y42_4), (6, .int y42_6), (7, .int y42_7)]) hx hb dX0_countFrom_79 hl (by decide) rfl (fun ls hl => ?_)
            refine lv_iload hx hb dX0_countFrom_81 (lv_at hl 5 rfl) ?_
            refine lv_if_ne (tgt := 89) hx hb dX0_countFrom_83 (by decide) (fun c7 => ?_) (fun c7 => ?_)
            · replace h := dc_neg c7 h
              refine lv_iload hx hb dX0_countFrom_89 (lv_at hl 5 rfl) ?_
              refine lv_iconst (v := 1) hx hb dX0_countFrom_91 (by decide) ?_
              refine lv_isub hx hb dX0_countFrom_92 ?_
              refine lv_iload hx hb dX0_countFrom_93 (lv_at hl 4 rfl) ?_
              refine lv_iand hx hb dX0_countFrom_95 ?_
              refine lv_istore (lv' := [(6, .int ((y42_6 - (1 : Int32)) &&& y42_4)), (5, .int (y42_5 + q6)), (0, .ref a_p0), (2, .int x2), (3, .int y42_3), (4, .int y42_4), (7, .int y42_7)]) hx hb dX0_countFrom_96 hl (by decide) rfl (fun ls hl => ?_)
              refine lv_iinc (v := (y42_7 + (1 : Int32))) (lv' := [(7, .int (y42_7 + (1 : Int32))), (6, .int ((y42_6 - (1 : Int32)) &&& y42_4)), (5, .int (y42_5 + q6)), (0, .ref a_p0), (2, .int x2), (3, .int y42_3), (4, .int y42_4)]) hx hb dX0_countFrom_98 hl (k := 6) rfl rfl (by decide) rfl (fun ls hl => ?_)
              refine lv_goto (tgt := 42) hx hb dX0_countFrom_101 (by decide) ?_
              exact ih kf (y42_5 + q6) ((y42_6 - (1 : Int32)) &&& y42_4) (y42_7 + (1 : Int32)) h kk H locs ls hH (lv_sub hl [3, 4, 5, 6, 2, 1, 0] rfl)
            · replace h := dc_pos c7 h
              refine lv_goto (tgt := 104) hx hb dX0_countFrom_86 (by decide) ?_
              exact kk (y42_5 + q6) H locs ls h hH (lv_sub hl [0] rfl)
    rw [fX0_countFrom] at h
    refine lv_iload_n hx hb dX0_countFrom_0 rfl (lv_at hl 2 rfl) ?_
    refine lv_iconst (v := 1) hx hb dX0_countFrom_1 (by decide) ?_
    refine lv_icmp_gt (tgt := 20) hx hb dX0_countFrom_2 (by decide) (fun c1 => ?_) (fun c1 => ?_)
    · replace h := dc_pos c1 h
      refine lv_iload_n hx hb dX0_countFrom_20 rfl (lv_at hl 1 rfl) ?_
      refine lv_iload_n hx hb dX0_countFrom_21 rfl (lv_at hl 1 rfl) ?_
      refine lv_ineg hx hb dX0_countFrom_22 ?_
      refine lv_iand hx hb dX0_countFrom_23 ?_
      refine lv_istore_n (lv' := [(3, .int (x1 &&& (-x1))), (0, .ref a_p0), (1, .int x1), (2, .int x2)]) hx hb dX0_countFrom_24 rfl hl (by decide) rfl (fun ls hl => ?_)
      refine lv_iload_n hx hb dX0_countFrom_25 rfl (lv_at hl 2 rfl) ?_
      refine lv_iload_n hx hb dX0_countFrom_26 rfl (lv_at hl 0 rfl) ?_
      refine lv_iconst (v := -1) hx hb dX0_countFrom_27 (by decide) ?_
      refine lv_ixor hx hb dX0_countFrom_28 ?_
      refine lv_iand hx hb dX0_countFrom_29 ?_
      refine lv_istore (lv' := [(4, .int (x1 &&& ((x1 &&& (-x1)) ^^^ (-1 : Int32)))), (3, .int (x1 &&& (-x1))), (0, .ref a_p0), (1, .int x1), (2, .int x2)]) hx hb dX0_countFrom_30 hl (by decide) rfl (fun ls hl => ?_)
      refine lv_iconst (v := 0) hx hb dX0_countFrom_32 (by decide) ?_
      refine lv_istore (lv' := [(5, .int (0 : Int32)), (4, .int (x1 &&& ((x1 &&& (-x1)) ^^^ (-1 : Int32)))), (3, .int (x1 &&& (-x1))), (0, .ref a_p0), (1, .int x1), (2, .int x2)]) hx hb dX0_countFrom_33 hl (by decide) rfl (fun ls hl => ?_)
      refine lv_iload hx hb dX0_countFrom_35 (lv_at hl 1 rfl) ?_
      refine lv_istore (lv' := [(6, .int (x1 &&& ((x1 &&& (-x1)) ^^^ (-1 : Int32)))), (5, .int (0 : Int32)), (4, .int (x1 &&& ((x1 &&& (-x1)) ^^^ (-1 : Int32)))), (3, .int (x1 &&& (-x1))), (0, .ref a_p0), (1, .int x1), (2, .int x2)]) hx hb dX0_countFrom_37 hl (by decide) rfl (fun ls hl => ?_)
      refine lv_iconst (v := 0) hx hb dX0_countFrom_39 (by decide) ?_
      refine lv_istore (lv' := [(7, .int (0 : Int32)), (6, .int (x1 &&& ((x1 &&& (-x1)) ^^^ (-1 : Int32)))), (5, .int (0 : Int32)), (4, .int (x1 &&& ((x1 &&& (-x1)) ^^^ (-1 : Int32)))), (3, .int (x1 &&& (-x1))), (0, .ref a_p0), (1, .int x1), (2, .int x2)]) hx hb dX0_countFrom_40 hl (by decide) rfl (fun ls hl => ?_)
      refine L42 (x1 &&& (-x1)) (x1 &&& ((x1 &&& (-x1)) ^^^ (-1 : Int32))) _ _ (0 : Int32) (x1 &&& ((x1 &&& (-x1)) ^^^ (-1 : Int32))) (0 : Int32) h (fun z42_5 H locs ls h hH hl => ?_) H locs ls hH (lv_sub hl [5, 7, 4, 3, 2, 1, 0] rfl)
      refine lv_iload hx hb dX0_countFrom_104 (lv_at hl 0 rfl) ?_
      have h := Option.some.inj h
      subst h
      exact ge_i hx hb hr hlocks hQ hK hH hAe rfl dX0_countFrom_106
    · replace h := dc_neg c1 h
      refine lv_aload_n hx hb dX0_countFrom_5 rfl (lv_at hl 0 rfl) ?_
      refine gk_get (ci := 0) (C := RX0) (T := TX0) (N := 9) hx hb hts u_ws_X0 hown hK hH 0 rfl rfl 1 (by decide) u_fl_X0_15 rfl dX0_countFrom_6 ?_
      refine lv_iload_n hx hb dX0_countFrom_9 rfl (lv_at hl 1 rfl) ?_
      obtain ⟨g8, h⟩ := dc_need h
      refine gk_bald hx hb hK hH 1 rfl (dk_in g8) dX0_countFrom_10 ?_
      refine lv_if_eq (tgt := 18) hx hb dX0_countFrom_11 (by decide) (fun c9 => ?_) (fun c9 => ?_)
      · replace h := dc_pos c9 h
        refine lv_iconst (v := 0) hx hb dX0_countFrom_18 (by decide) ?_
        have h := Option.some.inj h
        subst h
        exact ge_i hx hb hr hlocks hQ hK hH hAe rfl dX0_countFrom_19
      · replace h := dc_neg c9 h
        refine lv_iconst (v := 1) hx hb dX0_countFrom_14 (by decide) ?_
        refine lv_goto (tgt := 19) hx hb dX0_countFrom_15 (by decide) ?_
        have h := Option.some.inj h
        subst h
        exact ge_i hx hb hr hlocks hQ hK hH hAe rfl dX0_countFrom_19
theorem hd_X0_countBySets : yX0_countBySets.cls = RX0 ∧ yX0_countBySets.cls ≠ "java/lang/invoke/MethodHandle" ∧ yX0_countBySets.cls ≠ "java/lang/invoke/VarHandle" ∧ (parseMethodDescriptor yX0_countBySets.desc).map (fun d => d.parameters.length) = some 1 := by decide +kernel
set_option maxHeartbeats 4000000 in
set_option maxRecDepth 100000 in
theorem mX0_countBySets (l : Launch) (Ts : List Cond) (hTs : ∀ w, w ∈ Ts ↔ w ∈ uT) (D : va_G) (k : Nat → ClassId) (sz : Nat) (a_p1 : Nat) (a_t : Nat) (a_t_codes : Nat) (a_t_isPossible : Nat) (a_t_sets : Nat) (a_t_plan : Nat) (a_t_best : Nat) (a_t_tried : Nat) (a_p1_population : Nat) (a_p1_area : Nat) (a_p1_community : Nat) (a_p1_outer : Nat) (a_p1_neighbors : Nat) (a_p1_lengths : Nat) (a_p1_plan : Nat) (p1_community : Nat → Int32) (p1_cores : Int32) (p1_districts : Int32) (p1_neighbors : Nat → Int32) (p1_population : Nat → Int32) (p1_tolerance : Int32) (p1_units : Int32) (t_hasSets : Int32) (t_isPossible : Nat → Int32) (v_p1_hasPlan : Value) (v_t_hasPlans : Value) (v_t_size : Value) (r : Int32 × Int32 × (Nat → Int32)) (h : fX0_countBySets p1_community p1_cores p1_districts p1_neighbors p1_population p1_tolerance p1_units t_hasSets t_isPossible = some r) : Met l yX0_countBySets (Cond.code yX0_countBySets cX0_countBySets 2 (some .int) :: Ts) ({ frames := 41, cells := 0, slots := 0, locals := 1307 } : Room) (preM D k [.ref a_t, .ref a_p1] [(a_t, .inr (0, [.ref a_t_codes, .ref a_t_isPossible, .ref a_t_sets, .ref a_t_plan, .ref a_t_best, .ref a_t_tried, v_t_size, .int t_hasSets, v_t_hasPlans])), (a_p1, .inr (8, [.int p1_units, .ref a_p1_population, .ref a_p1_area, .ref a_p1_community, .ref a_p1_outer, .ref a_p1_neighbors, .ref a_p1_lengths, .int p1_cores, .int p1_districts, .int p1_tolerance, v_p1_hasPlan, .ref a_p1_plan])), (a_t_isPossible, .inl (k 2, 512, .inl t_isPossible)), (a_p1_population, .inl (k 0, 12, .inl p1_population)), (a_p1_community, .inl (k 0, 12, .inl p1_community)), (a_p1_neighbors, .inl (k 0, 12, .inl p1_neighbors))] sz) (postI D k r.1 [(a_t, .inr (0, [.ref a_t_codes, .ref a_t_isPossible, .ref a_t_sets, .ref a_t_plan, .ref a_t_best, .ref a_t_tried, v_t_size, .int t_hasSets, v_t_hasPlans])), (a_p1, .inr (8, [.int p1_units, .ref a_p1_population, .ref a_p1_area, .ref a_p1_community, .ref a_p1_outer, .ref a_p1_neighbors, .ref a_p1_lengths, .int p1_cores, .int p1_districts, .int p1_tolerance, v_p1_hasPlan, .ref a_p1_plan])), (a_t_isPossible, .inl (k 2, 512, .inl t_isPossible)), (a_p1_population, .inl (k 0, 12, .inl p1_population)), (a_p1_community, .inl (k 0, 12, .inl p1_community)), (a_p1_neighbors, .inl (k 0, 12, .inl p1_neighbors))] [(a_t, .inr (0, [.ref a_t_codes, .ref a_t_isPossible, .ref a_t_sets, .ref a_t_plan, .ref a_t_best, .ref a_t_tried, v_t_size, .int r.2.1, v_t_hasPlans])), (a_p1, .inr (8, [.int p1_units, .ref a_p1_population, .ref a_p1_area, .ref a_p1_community, .ref a_p1_outer, .ref a_p1_neighbors, .ref a_p1_lengths, .int p1_cores, .int p1_districts, .int p1_tolerance, v_p1_hasPlan, .ref a_p1_plan])), (a_t_isPossible, .inl (k 2, 512, .inl r.2.2)), (a_p1_population, .inl (k 0, 12, .inl p1_population)), (a_p1_community, .inl (k 0, 12, .inl p1_community)), (a_p1_neighbors, .inl (k 0, 12, .inl p1_neighbors))] sz) 0 0 (va_A [(a_t, .inr (0, [.ref a_t_codes, .ref a_t_isPossible, .ref a_t_sets, .ref a_t_plan, .ref a_t_best, .ref a_t_tried, v_t_size, .int t_hasSets, v_t_hasPlans])), (a_p1, .inr (8, [.int p1_units, .ref a_p1_population, .ref a_p1_area, .ref a_p1_community, .ref a_p1_outer, .ref a_p1_neighbors, .ref a_p1_lengths, .int p1_cores, .int p1_districts, .int p1_tolerance, v_p1_hasPlan, .ref a_p1_plan])), (a_t_isPossible, .inl (k 2, 512, .inl t_isPossible)), (a_p1_population, .inl (k 0, 12, .inl p1_population)), (a_p1_community, .inl (k 0, 12, .inl p1_community)), (a_p1_neighbors, .inl (k 0, 12, .inl p1_neighbors))] sz) := by
  refine Met.ofW (cc := cX0_countBySets) (maxL := 2) (ret := (some .int)) (by decide) rfl ?_
  intro p e s m args below meth c s₁ B hml hv
  obtain ⟨rfl, hsz, hP, hK, hD0⟩ := hv
  have hx := B.exec
  have hb := B.bytes
  have hr := B.returns
  have hts0 := atoms_spec (ws := (Cond.code yX0_countBySets cX0_countBySets 2 (some .int) :: Ts)) B.pre
  have hts : ∀ w ∈ uT, w.before _ s = true := fun w h => hts0 w (List.mem_cons_of_mem _ ((hTs w).mpr h))
  clear hts0
  have hown : s.vm.findClass RX0 = some m.cls := findClass_of_methodNamed B.named
  have hlocks := B.notSynchronized
  subst hsz
  have hD := hD0.self (sz := s.heap.size)
  generalize hAe : va_A [(a_t, .inr (0, [.ref a_t_codes, .ref a_t_isPossible, .ref a_t_sets, .ref a_t_plan, .ref a_t_best, .ref a_t_tried, v_t_size, .int t_hasSets, v_t_hasPlans])), (a_p1, .inr (8, [.int p1_units, .ref a_p1_population, .ref a_p1_area, .ref a_p1_community, .ref a_p1_outer, .ref a_p1_neighbors, .ref a_p1_lengths, .int p1_cores, .int p1_districts, .int p1_tolerance, v_p1_hasPlan, .ref a_p1_plan])), (a_t_isPossible, .inl (k 2, 512, .inl t_isPossible)), (a_p1_population, .inl (k 0, 12, .inl p1_population)), (a_p1_community, .inl (k 0, 12, .inl p1_community)), (a_p1_neighbors, .inl (k 0, 12, .inl p1_neighbors))] s.heap.size = A at hD ⊢
  have hA : ∀ q : Nat, s.heap.size ≤ q → A q := fun q h => by rw [← hAe]; exact Or.inr h
  have hH : HOK D A s.heap [(a_t, .inr (0, [.ref a_t_codes, .ref a_t_isPossible, .ref a_t_sets, .ref a_t_plan, .ref a_t_best, .ref a_t_tried, v_t_size, .int t_hasSets, v_t_hasPlans])), (a_p1, .inr (8, [.int p1_units, .ref a_p1_population, .ref a_p1_area, .ref a_p1_community, .ref a_p1_outer, .ref a_p1_neighbors, .ref a_p1_lengths, .int p1_cores, .int p1_districts, .int p1_tolerance, v_p1_hasPlan, .ref a_p1_plan])), (a_t_isPossible, .inl (k 2, 512, .inl t_isPossible)), (a_p1_population, .inl (k 0, 12, .inl p1_population)), (a_p1_community, .inl (k 0, 12, .inl p1_community)), (a_p1_neighbors, .inl (k 0, 12, .inl p1_neighbors))] s.heap [] := ⟨hP, hD, va_S.rf⟩
  have hl := lv_entry ([.ref a_t, .ref a_p1]) (n := 2) (Nat.le_of_ble_eq_true rfl)
  rw [lg_entry_eq]
  generalize (lg_sl ([.ref a_t, .ref a_p1]) ++ List.replicate (2 - (lg_sl ([.ref a_t, .ref a_p1])).length) Slot.unset).toArray = ls at hl ⊢
  have hl : lv_has ls 2 [(0, .ref a_t), (1, .ref a_p1)] := hl
  generalize hQ : MQ below (postI D k r.1 [(a_t, .inr (0, [.ref a_t_codes, .ref a_t_isPossible, .ref a_t_sets, .ref a_t_plan, .ref a_t_best, .ref a_t_tried, v_t_size, .int t_hasSets, v_t_hasPlans])), (a_p1, .inr (8, [.int p1_units, .ref a_p1_population, .ref a_p1_area, .ref a_p1_community, .ref a_p1_outer, .ref a_p1_neighbors, .ref a_p1_lengths, .int p1_cores, .int p1_districts, .int p1_tolerance, v_p1_hasPlan, .ref a_p1_plan])), (a_t_isPossible, .inl (k 2, 512, .inl t_isPossible)), (a_p1_population, .inl (k 0, 12, .inl p1_population)), (a_p1_community, .inl (k 0, 12, .inl p1_community)), (a_p1_neighbors, .inl (k 0, 12, .inl p1_neighbors))] [(a_t, .inr (0, [.ref a_t_codes, .ref a_t_isPossible, .ref a_t_sets, .ref a_t_plan, .ref a_t_best, .ref a_t_tried, v_t_size, .int r.2.1, v_t_hasPlans])), (a_p1, .inr (8, [.int p1_units, .ref a_p1_population, .ref a_p1_area, .ref a_p1_community, .ref a_p1_outer, .ref a_p1_neighbors, .ref a_p1_lengths, .int p1_cores, .int p1_districts, .int p1_tolerance, v_p1_hasPlan, .ref a_p1_plan])), (a_t_isPossible, .inl (k 2, 512, .inl r.2.2)), (a_p1_population, .inl (k 0, 12, .inl p1_population)), (a_p1_community, .inl (k 0, 12, .inl p1_community)), (a_p1_neighbors, .inl (k 0, 12, .inl p1_neighbors))] s.heap.size) (List.toArray [.ref a_t, .ref a_p1]) s 0 0 A = Q
  clear hP hD hD0
  suffices K : ∀ (H : Heap) (locs : List Loc), HOK D A s.heap [(a_t, .inr (0, [.ref a_t_codes, .ref a_t_isPossible, .ref a_t_sets, .ref a_t_plan, .ref a_t_best, .ref a_t_tried, v_t_size, .int t_hasSets, v_t_hasPlans])), (a_p1, .inr (8, [.int p1_units, .ref a_p1_population, .ref a_p1_area, .ref a_p1_community, .ref a_p1_outer, .ref a_p1_neighbors, .ref a_p1_lengths, .int p1_cores, .int p1_districts, .int p1_tolerance, v_p1_hasPlan, .ref a_p1_plan])), (a_t_isPossible, .inl (k 2, 512, .inl t_isPossible)), (a_p1_population, .inl (k 0, 12, .inl p1_population)), (a_p1_community, .inl (k 0, 12, .inl p1_community)), (a_p1_neighbors, .inl (k 0, 12, .inl p1_neighbors))] H locs → W p l e ({ frames := 41, cells := 0, slots := 0, locals := 1307 } : Room) s m (List.toArray [.ref a_t, .ref a_p1]) below meth c H locs 0 0 Q (F0 m 0 ls []) from K s.heap [] hH
  intro H locs hH
  rw [fX0_countBySets] at h
  refine lv_aload_n hx hb dX0_countBySets_0 rfl (lv_at hl 1 rfl) ?_
  refine gk_get (ci := 8) (C := RX9) (T := TX9) (N := 12) hx hb hts u_ws_X9 hown hK hH 1 rfl rfl 0 (by decide) u_fl_X0_50 rfl dX0_countBySets_1 ?_
  refine lv_bipush (v := 9) hx hb dX0_countBySets_4 (by decide) ?_
  refine lv_icmp_le (tgt := 11) hx hb dX0_countBySets_6 (by decide) (fun c1 => ?_) (fun c1 => ?_)
  · replace h := dc_pos c1 h
    refine lv_aload_n hx hb dX0_countBySets_11 rfl (lv_at hl 0 rfl) ?_
    refine lv_aload_n hx hb dX0_countBySets_12 rfl (lv_at hl 1 rfl) ?_
    obtain ⟨q2, hqq2, h⟩ := dc_bind h
    refine gc_Vv (ws' := [(a_t, .inr (0, [.ref a_t_codes, .ref a_t_isPossible, .ref a_t_sets, .ref a_t_plan, .ref a_t_best, .ref a_t_tried, v_t_size, .int q2.1, v_t_hasPlans])), (a_p1, .inr (8, [.int p1_units, .ref a_p1_population, .ref a_p1_area, .ref a_p1_community, .ref a_p1_outer, .ref a_p1_neighbors, .ref a_p1_lengths, .int p1_cores, .int p1_districts, .int p1_tolerance, v_p1_hasPlan, .ref a_p1_plan])), (a_t_isPossible, .inl (k 2, 512, .inl q2.2)), (a_p1_population, .inl (k 0, 12, .inl p1_population)), (a_p1_community, .inl (k 0, 12, .inl p1_community)), (a_p1_neighbors, .inl (k 0, 12, .inl p1_neighbors))]) (As := [.ref a_p1]) (rest := []) (n := 1) (ci := 0) (cq := (RX0, TX0, 9)) hTs ⟨hx, hb, hml, hown, hts⟩ (mX0_findSets l Ts hTs D k H.size a_p1 a_t a_t_codes a_t_isPossible a_t_sets a_t_plan a_t_best a_t_tried a_p1_population a_p1_area a_p1_community a_p1_outer a_p1_neighbors a_p1_lengths a_p1_plan p1_community p1_cores p1_districts p1_neighbors p1_population p1_tolerance p1_units t_hasSets t_isPossible v_p1_hasPlan v_t_hasPlans v_t_size q2 hqq2) u_ml_X0_55 u_im_X0_findSets u_se_X0_findSets u_in_X0 u_co_X0_findSets hd_X0_findSets ⟨Nat.le_of_ble_eq_true rfl, Nat.le_of_ble_eq_true rfl⟩ ⟨rfl, rfl⟩ hK hH hA (cutM (isC := [0, 1, 2, 3, 4, 5]) [some 0, some 1, some 2, some 3, some 4, some 5] 6 rfl rfl rfl rfl rfl rfl rfl) rfl rfl rfl rfl hl.1 (Nat.le_of_ble_eq_true rfl) dX0_countBySets_13 ⟨Nat.le_of_ble_eq_true rfl, Nat.le_of_ble_eq_true rfl⟩ (fun H locs hH => ?_)
    refine lv_aload_n hx hb dX0_countBySets_16 rfl (lv_at hl 0 rfl) ?_
    refine lv_aload_n hx hb dX0_countBySets_17 rfl (lv_at hl 1 rfl) ?_
    obtain ⟨q3, hqq3, h⟩ := dc_bind h
    refine gc_Vi (ws' := [(a_t, .inr (0, [.ref a_t_codes, .ref a_t_isPossible, .ref a_t_sets, .ref a_t_plan, .ref a_t_best, .ref a_t_tried, v_t_size, .int q2.1, v_t_hasPlans])), (a_p1, .inr (8, [.int p1_units, .ref a_p1_population, .ref a_p1_area, .ref a_p1_community, .ref a_p1_outer, .ref a_p1_neighbors, .ref a_p1_lengths, .int p1_cores, .int p1_districts, .int p1_tolerance, v_p1_hasPlan, .ref a_p1_plan])), (a_t_isPossible, .inl (k 2, 512, .inl q2.2)), (a_p1_population, .inl (k 0, 12, .inl p1_population)), (a_p1_community, .inl (k 0, 12, .inl p1_community)), (a_p1_neighbors, .inl (k 0, 12, .inl p1_neighbors))]) (As := []) (rest := [.ref a_t]) (n := 0) (ci := 8) (cq := (RX9, TX9, 12)) hTs ⟨hx, hb, hml, hown, hts⟩ (mX9_allUnits l Ts hTs D k H.size a_p1 a_p1_population a_p1_area a_p1_community a_p1_outer a_p1_neighbors a_p1_lengths a_p1_plan p1_units (.int p1_cores) (.int p1_districts) v_p1_hasPlan (.int p1_tolerance) q3 hqq3) u_ml_X0_69 u_im_X9_allUnits u_se_X9_allUnits u_in_X9 u_co_X9_allUnits hd_X9_allUnits ⟨Nat.le_of_ble_eq_true rfl, Nat.le_of_ble_eq_true rfl⟩ ⟨rfl, rfl⟩ hK hH hA (cut0 (isC := [1]) rfl rfl rfl) rfl rfl rfl rfl hl.1 (Nat.le_of_ble_eq_true rfl) dX0_countBySets_18 ⟨Nat.le_of_ble_eq_true rfl, Nat.le_of_ble_eq_true rfl⟩ (fun H locs hH => ?_)
    refine lv_aload_n hx hb dX0_countBySets_21 rfl (lv_at hl 1 rfl) ?_
    refine gk_get (ci := 8) (C := RX9) (T := TX9) (N := 12) hx hb hts u_ws_X9 hown hK hH 1 rfl rfl 8 (by decide) u_fl_X0_73 rfl dX0_countBySets_22 ?_
    obtain ⟨q4, hqq4, h⟩ := dc_bind h
    refine gc_Si (ws' := [(a_t, .inr (0, [.ref a_t_codes, .ref a_t_isPossible, .ref a_t_sets, .ref a_t_plan, .ref a_t_best, .ref a_t_tried, v_t_size, .int q2.1, v_t_hasPlans])), (a_p1, .inr (8, [.int p1_units, .ref a_p1_population, .ref a_p1_area, .ref a_p1_community, .ref a_p1_outer, .ref a_p1_neighbors, .ref a_p1_lengths, .int p1_cores, .int p1_districts, .int p1_tolerance, v_p1_hasPlan, .ref a_p1_plan])), (a_t_isPossible, .inl (k 2, 512, .inl q2.2)), (a_p1_population, .inl (k 0, 12, .inl p1_population)), (a_p1_community, .inl (k 0, 12, .inl p1_community)), (a_p1_neighbors, .inl (k 0, 12, .inl p1_neighbors))]) (As := [.ref a_t, .int q3, .int p1_districts]) (rest := []) (n := 3) hTs ⟨hx, hb, hml, hown, hts⟩ (mX0_countFrom l Ts hTs 20 D k H.size a_t a_t_codes a_t_isPossible a_t_sets a_t_plan a_t_best a_t_tried q2.2 v_t_hasPlans (.int q2.1) v_t_size q3 p1_districts q4 hqq4) u_ml_X0_76 u_st_X0_countFrom u_in_X0 u_co_X0_countFrom hd_X0_countFrom ⟨Nat.le_of_ble_eq_true rfl, Nat.le_of_ble_eq_true rfl⟩ ⟨rfl, rfl⟩ hK hH hA (cut0 (isC := [0, 2]) rfl rfl rfl) rfl rfl hl.1 (Nat.le_of_ble_eq_true rfl) dX0_countBySets_25 ⟨Nat.le_of_ble_eq_true rfl, Nat.le_of_ble_eq_true rfl⟩ (fun H locs hH => ?_)
    have h := Option.some.inj h
    subst h
    exact ge_i hx hb hr hlocks hQ hK hH hAe rfl dX0_countBySets_28
  · replace h := dc_neg c1 h
    refine lv_iconst (v := 0) hx hb dX0_countBySets_9 (by decide) ?_
    have h := Option.some.inj h
    subst h
    exact ge_i hx hb hr hlocks hQ hK hH hAe rfl dX0_countBySets_10
theorem hd_X4_clear : yX4_clear.cls = RX4 ∧ yX4_clear.cls ≠ "java/lang/invoke/MethodHandle" ∧ yX4_clear.cls ≠ "java/lang/invoke/VarHandle" ∧ (parseMethodDescriptor yX4_clear.desc).map (fun d => d.parameters.length) = some 0 := by decide +kernel
set_option maxHeartbeats 4000000 in
set_option maxRecDepth 100000 in
theorem mX4_clear (l : Launch) (Ts : List Cond) (hTs : ∀ w, w ∈ Ts ↔ w ∈ uT) (D : va_G) (k : Nat → ClassId) (sz : Nat) (a_t : Nat) (a_t_places : Nat) (a_t_sets : Nat) (t_places : Nat → Int32) (t_sets : Nat → Int32) (r : (Nat → Int32) × (Nat → Int32)) (h : fX4_clear t_places t_sets = some r) : Met l yX4_clear (Cond.code yX4_clear cX4_clear 1 none :: Ts) ({ frames := 1, cells := 0, slots := 0, locals := 23 } : Room) (preM D k [.ref a_t] [(a_t, .inr (4, [.ref a_t_places, .ref a_t_sets])), (a_t_places, .inl (k 0, 12, .inl t_places)), (a_t_sets, .inl (k 0, 4, .inl t_sets))] sz) (postV D k [(a_t, .inr (4, [.ref a_t_places, .ref a_t_sets])), (a_t_places, .inl (k 0, 12, .inl t_places)), (a_t_sets, .inl (k 0, 4, .inl t_sets))] [(a_t, .inr (4, [.ref a_t_places, .ref a_t_sets])), (a_t_places, .inl (k 0, 12, .inl r.1)), (a_t_sets, .inl (k 0, 4, .inl r.2))] sz) 0 0 (va_A [(a_t, .inr (4, [.ref a_t_places, .ref a_t_sets])), (a_t_places, .inl (k 0, 12, .inl t_places)), (a_t_sets, .inl (k 0, 4, .inl t_sets))] sz) := by
  refine Met.ofW (cc := cX4_clear) (maxL := 1) (ret := none) (by decide) rfl ?_
  intro p e s m args below meth c s₁ B hml hv
  obtain ⟨rfl, hsz, hP, hK, hD0⟩ := hv
  have hx := B.exec
  have hb := B.bytes
  have hr := B.returns
  have hts0 := atoms_spec (ws := (Cond.code yX4_clear cX4_clear 1 none :: Ts)) B.pre
  have hts : ∀ w ∈ uT, w.before _ s = true := fun w h => hts0 w (List.mem_cons_of_mem _ ((hTs w).mpr h))
  clear hts0
  have hown : s.vm.findClass RX4 = some m.cls := findClass_of_methodNamed B.named
  have hlocks := B.notSynchronized
  subst hsz
  have hD := hD0.self (sz := s.heap.size)
  generalize hAe : va_A [(a_t, .inr (4, [.ref a_t_places, .ref a_t_sets])), (a_t_places, .inl (k 0, 12, .inl t_places)), (a_t_sets, .inl (k 0, 4, .inl t_sets))] s.heap.size = A at hD ⊢
  have hA : ∀ q : Nat, s.heap.size ≤ q → A q := fun q h => by rw [← hAe]; exact Or.inr h
  have hH : HOK D A s.heap [(a_t, .inr (4, [.ref a_t_places, .ref a_t_sets])), (a_t_places, .inl (k 0, 12, .inl t_places)), (a_t_sets, .inl (k 0, 4, .inl t_sets))] s.heap [] := ⟨hP, hD, va_S.rf⟩
  have hl := lv_entry ([.ref a_t]) (n := 1) (Nat.le_of_ble_eq_true rfl)
  rw [lg_entry_eq]
  generalize (lg_sl ([.ref a_t]) ++ List.replicate (1 - (lg_sl ([.ref a_t])).length) Slot.unset).toArray = ls at hl ⊢
  have hl : lv_has ls 1 [(0, .ref a_t)] := hl
  generalize hQ : MQ below (postV D k [(a_t, .inr (4, [.ref a_t_places, .ref a_t_sets])), (a_t_places, .inl (k 0, 12, .inl t_places)), (a_t_sets, .inl (k 0, 4, .inl t_sets))] [(a_t, .inr (4, [.ref a_t_places, .ref a_t_sets])), (a_t_places, .inl (k 0, 12, .inl r.1)), (a_t_sets, .inl (k 0, 4, .inl r.2))] s.heap.size) (List.toArray [.ref a_t]) s 0 0 A = Q
  clear hP hD hD0
  suffices K : ∀ (H : Heap) (locs : List Loc), HOK D A s.heap [(a_t, .inr (4, [.ref a_t_places, .ref a_t_sets])), (a_t_places, .inl (k 0, 12, .inl t_places)), (a_t_sets, .inl (k 0, 4, .inl t_sets))] H locs → W p l e ({ frames := 1, cells := 0, slots := 0, locals := 23 } : Room) s m (List.toArray [.ref a_t]) below meth c H locs 0 0 Q (F0 m 0 ls []) from K s.heap [] hH
  intro H locs hH
  rw [fX4_clear] at h
  refine lv_aload_n hx hb dX4_clear_0 rfl (lv_at hl 0 rfl) ?_
  refine gk_get (ci := 4) (C := RX4) (T := TX4) (N := 2) hx hb hts u_ws_X4 hown hK hH 0 rfl rfl 0 (by decide) u_fl_X4_9 rfl dX4_clear_1 ?_
  refine lv_iconst (v := 0) hx hb dX4_clear_4 (by decide) ?_
  obtain ⟨q1, hqq1, h⟩ := dc_bind h
  refine gc_Sv (ws' := [(a_t, .inr (4, [.ref a_t_places, .ref a_t_sets])), (a_t_places, .inl (k 0, 12, .inl q1)), (a_t_sets, .inl (k 0, 4, .inl t_sets))]) (As := [.ref a_t_places, .int (0 : Int32)]) (rest := []) (n := 2) hTs ⟨hx, hb, hml, hown, hts⟩ (mJ7_fill_53178 l Ts hTs D k H.size 12 a_t_places t_places (0 : Int32) q1 hqq1) u_ml_X4_18 u_st_J7_fill_53178 u_in_J7 u_co_J7_fill_53178 hd_J7_fill_53178 ⟨Nat.le_of_ble_eq_true rfl, Nat.le_of_ble_eq_true rfl⟩ ⟨rfl, rfl⟩ hK hH hA (cutM (isC := [1]) [none, some 0, none] 3 rfl rfl rfl rfl rfl rfl rfl) rfl rfl hl.1 (Nat.le_of_ble_eq_true rfl) dX4_clear_5 ⟨Nat.le_of_ble_eq_true rfl, Nat.le_of_ble_eq_true rfl⟩ (fun H locs hH => ?_)
  refine lv_aload_n hx hb dX4_clear_8 rfl (lv_at hl 0 rfl) ?_
  refine gk_get (ci := 4) (C := RX4) (T := TX4) (N := 2) hx hb hts u_ws_X4 hown hK hH 0 rfl rfl 1 (by decide) u_fl_X4_15 rfl dX4_clear_9 ?_
  refine lv_iconst (v := 0) hx hb dX4_clear_12 (by decide) ?_
  obtain ⟨q2, hqq2, h⟩ := dc_bind h
  refine gc_Sv (ws' := [(a_t, .inr (4, [.ref a_t_places, .ref a_t_sets])), (a_t_places, .inl (k 0, 12, .inl q1)), (a_t_sets, .inl (k 0, 4, .inl q2))]) (As := [.ref a_t_sets, .int (0 : Int32)]) (rest := []) (n := 2) hTs ⟨hx, hb, hml, hown, hts⟩ (mJ7_fill_53178 l Ts hTs D k H.size 4 a_t_sets t_sets (0 : Int32) q2 hqq2) u_ml_X4_18 u_st_J7_fill_53178 u_in_J7 u_co_J7_fill_53178 hd_J7_fill_53178 ⟨Nat.le_of_ble_eq_true rfl, Nat.le_of_ble_eq_true rfl⟩ ⟨rfl, rfl⟩ hK hH hA (cutM (isC := [2]) [none, none, some 0] 3 rfl rfl rfl rfl rfl rfl rfl) rfl rfl hl.1 (Nat.le_of_ble_eq_true rfl) dX4_clear_13 ⟨Nat.le_of_ble_eq_true rfl, Nat.le_of_ble_eq_true rfl⟩ (fun H locs hH => ?_)
  have h := Option.some.inj h
  subst h
  exact ge_v hx hb hr hlocks hQ hK hH hAe dX4_clear_16
theorem hd_X4_give : yX4_give.cls = RX4 ∧ yX4_give.cls ≠ "java/lang/invoke/MethodHandle" ∧ yX4_give.cls ≠ "java/lang/invoke/VarHandle" ∧ (parseMethodDescriptor yX4_give.desc).map (fun d => d.parameters.length) = some 2 := by decide +kernel
set_option maxHeartbeats 4000000 in
set_option maxRecDepth 100000 in
theorem mX4_give (l : Launch) (Ts : List Cond) (hTs : ∀ w, w ∈ Ts ↔ w ∈ uT) (D : va_G) (k : Nat → ClassId) (sz : Nat) (a_t : Nat) (a_t_places : Nat) (a_t_sets : Nat) (t_places : Nat → Int32) (t_sets : Nat → Int32) (x1 : Int32) (x2 : Int32) (r : (Nat → Int32) × (Nat → Int32)) (h : fX4_give t_places t_sets x1 x2 = some r) : Met l yX4_give (Cond.code yX4_give cX4_give 3 none :: Ts) ({ frames := 0, cells := 0, slots := 0, locals := 0 } : Room) (preM D k [.ref a_t, .int x1, .int x2] [(a_t, .inr (4, [.ref a_t_places, .ref a_t_sets])), (a_t_places, .inl (k 0, 12, .inl t_places)), (a_t_sets, .inl (k 0, 4, .inl t_sets))] sz) (postV D k [(a_t, .inr (4, [.ref a_t_places, .ref a_t_sets])), (a_t_places, .inl (k 0, 12, .inl t_places)), (a_t_sets, .inl (k 0, 4, .inl t_sets))] [(a_t, .inr (4, [.ref a_t_places, .ref a_t_sets])), (a_t_places, .inl (k 0, 12, .inl r.1)), (a_t_sets, .inl (k 0, 4, .inl r.2))] sz) 0 0 (va_A [(a_t, .inr (4, [.ref a_t_places, .ref a_t_sets])), (a_t_places, .inl (k 0, 12, .inl t_places)), (a_t_sets, .inl (k 0, 4, .inl t_sets))] sz) := by
  refine Met.ofW (cc := cX4_give) (maxL := 3) (ret := none) (by decide) rfl ?_
  intro p e s m args below meth c s₁ B hml hv
  obtain ⟨rfl, hsz, hP, hK, hD0⟩ := hv
  have hx := B.exec
  have hb := B.bytes
  have hr := B.returns
  have hts0 := atoms_spec (ws := (Cond.code yX4_give cX4_give 3 none :: Ts)) B.pre
  have hts : ∀ w ∈ uT, w.before _ s = true := fun w h => hts0 w (List.mem_cons_of_mem _ ((hTs w).mpr h))
  clear hts0
  have hown : s.vm.findClass RX4 = some m.cls := findClass_of_methodNamed B.named
  have hlocks := B.notSynchronized
  subst hsz
  have hD := hD0.self (sz := s.heap.size)
  generalize hAe : va_A [(a_t, .inr (4, [.ref a_t_places, .ref a_t_sets])), (a_t_places, .inl (k 0, 12, .inl t_places)), (a_t_sets, .inl (k 0, 4, .inl t_sets))] s.heap.size = A at hD ⊢
  have hA : ∀ q : Nat, s.heap.size ≤ q → A q := fun q h => by rw [← hAe]; exact Or.inr h
  have hH : HOK D A s.heap [(a_t, .inr (4, [.ref a_t_places, .ref a_t_sets])), (a_t_places, .inl (k 0, 12, .inl t_places)), (a_t_sets, .inl (k 0, 4, .inl t_sets))] s.heap [] := ⟨hP, hD, va_S.rf⟩
  have hl := lv_entry ([.ref a_t, .int x1, .int x2]) (n := 3) (Nat.le_of_ble_eq_true rfl)
  rw [lg_entry_eq]
  generalize (lg_sl ([.ref a_t, .int x1, .int x2]) ++ List.replicate (3 - (lg_sl ([.ref a_t, .int x1, .int x2])).length) Slot.unset).toArray = ls at hl ⊢
  have hl : lv_has ls 3 [(0, .ref a_t), (1, .int x1), (2, .int x2)] := hl
  generalize hQ : MQ below (postV D k [(a_t, .inr (4, [.ref a_t_places, .ref a_t_sets])), (a_t_places, .inl (k 0, 12, .inl t_places)), (a_t_sets, .inl (k 0, 4, .inl t_sets))] [(a_t, .inr (4, [.ref a_t_places, .ref a_t_sets])), (a_t_places, .inl (k 0, 12, .inl r.1)), (a_t_sets, .inl (k 0, 4, .inl r.2))] s.heap.size) (List.toArray [.ref a_t, .int x1, .int x2]) s 0 0 A = Q
  clear hP hD hD0
  suffices K : ∀ (H : Heap) (locs : List Loc), HOK D A s.heap [(a_t, .inr (4, [.ref a_t_places, .ref a_t_sets])), (a_t_places, .inl (k 0, 12, .inl t_places)), (a_t_sets, .inl (k 0, 4, .inl t_sets))] H locs → W p l e ({ frames := 0, cells := 0, slots := 0, locals := 0 } : Room) s m (List.toArray [.ref a_t, .int x1, .int x2]) below meth c H locs 0 0 Q (F0 m 0 ls []) from K s.heap [] hH
  intro H locs hH
  rw [fX4_give] at h
  refine lv_aload_n hx hb dX4_give_0 rfl (lv_at hl 0 rfl) ?_
  refine gk_get (ci := 4) (C := RX4) (T := TX4) (N := 2) hx hb hts u_ws_X4 hown hK hH 0 rfl rfl 1 (by decide) u_fl_X4_15 rfl dX4_give_1 ?_
  refine lv_aload_n hx hb dX4_give_4 rfl (lv_at hl 0 rfl) ?_
  refine gk_get (ci := 4) (C := RX4) (T := TX4) (N := 2) hx hb hts u_ws_X4 hown hK hH 0 rfl rfl 0 (by decide) u_fl_X4_9 rfl dX4_give_5 ?_
  refine lv_iload_n hx hb dX4_give_8 rfl (lv_at hl 1 rfl) ?_
  obtain ⟨g1, h⟩ := dc_need h
  refine gk_iald hx hb hK hH 1 rfl (dk_in g1) dX4_give_9 ?_
  refine lv_dup2_11 hx hb dX4_give_10 rfl rfl ?_
  obtain ⟨g2, h⟩ := dc_need h
  refine gk_iald hx hb hK hH 2 rfl (dk_in g2) dX4_give_11 ?_
  refine lv_iconst (v := 1) hx hb dX4_give_12 (by decide) ?_
  refine lv_iload_n hx hb dX4_give_13 rfl (lv_at hl 1 rfl) ?_
  refine lv_ishl hx hb dX4_give_14 ?_
  refine lv_iconst (v := -1) hx hb dX4_give_15 (by decide) ?_
  refine lv_ixor hx hb dX4_give_16 ?_
  refine lv_iand hx hb dX4_give_17 ?_
  obtain ⟨g3, h⟩ := dc_need h
  refine gk_iast hx hb hK hH 2 rfl (dk_in g3) dX4_give_18 [(a_t, .inr (4, [.ref a_t_places, .ref a_t_sets])), (a_t_places, .inl (k 0, 12, .inl t_places)), (a_t_sets, .inl (k 0, 4, .inl (upd t_sets (t_places x1.toNatClampNeg).toNatClampNeg ((t_sets (t_places x1.toNatClampNeg).toNatClampNeg) &&& (((1 : Int32) <<< (x1 &&& 31)) ^^^ (-1 : Int32))))))] rfl (fun H locs hH => ?_)
  refine lv_aload_n hx hb dX4_give_19 rfl (lv_at hl 0 rfl) ?_
  refine gk_get (ci := 4) (C := RX4) (T := TX4) (N := 2) hx hb hts u_ws_X4 hown hK hH 0 rfl rfl 0 (by decide) u_fl_X4_9 rfl dX4_give_20 ?_
  refine lv_iload_n hx hb dX4_give_23 rfl (lv_at hl 1 rfl) ?_
  refine lv_iload_n hx hb dX4_give_24 rfl (lv_at hl 2 rfl) ?_
  obtain ⟨g4, h⟩ := dc_need h
  refine gk_iast hx hb hK hH 1 rfl (dk_in g4) dX4_give_25 [(a_t, .inr (4, [.ref a_t_places, .ref a_t_sets])), (a_t_places, .inl (k 0, 12, .inl (upd t_places x1.toNatClampNeg x2))), (a_t_sets, .inl (k 0, 4, .inl (upd t_sets (t_places x1.toNatClampNeg).toNatClampNeg ((t_sets (t_places x1.toNatClampNeg).toNatClampNeg) &&& (((1 : Int32) <<< (x1 &&& 31)) ^^^ (-1 : Int32))))))] rfl (fun H locs hH => ?_)
  refine lv_aload_n hx hb dX4_give_26 rfl (lv_at hl 0 rfl) ?_
  refine gk_get (ci := 4) (C := RX4) (T := TX4) (N := 2) hx hb hts u_ws_X4 hown hK hH 0 rfl rfl 1 (by decide) u_fl_X4_15 rfl dX4_give_27 ?_
  refine lv_iload_n hx hb dX4_give_30 rfl (lv_at hl 2 rfl) ?_
  refine lv_dup2_11 hx hb dX4_give_31 rfl rfl ?_
  obtain ⟨g5, h⟩ := dc_need h
  refine gk_iald hx hb hK hH 2 rfl (dk_in g5) dX4_give_32 ?_
  refine lv_iconst (v := 1) hx hb dX4_give_33 (by decide) ?_
  refine lv_iload_n hx hb dX4_give_34 rfl (lv_at hl 1 rfl) ?_
  refine lv_ishl hx hb dX4_give_35 ?_
  refine lv_ior hx hb dX4_give_36 ?_
  obtain ⟨g6, h⟩ := dc_need h
  refine gk_iast hx hb hK hH 2 rfl (dk_in g6) dX4_give_37 [(a_t, .inr (4, [.ref a_t_places, .ref a_t_sets])), (a_t_places, .inl (k 0, 12, .inl (upd t_places x1.toNatClampNeg x2))), (a_t_sets, .inl (k 0, 4, .inl (upd (upd t_sets (t_places x1.toNatClampNeg).toNatClampNeg ((t_sets (t_places x1.toNatClampNeg).toNatClampNeg) &&& (((1 : Int32) <<< (x1 &&& 31)) ^^^ (-1 : Int32)))) x2.toNatClampNeg (((upd t_sets (t_places x1.toNatClampNeg).toNatClampNeg ((t_sets (t_places x1.toNatClampNeg).toNatClampNeg) &&& (((1 : Int32) <<< (x1 &&& 31)) ^^^ (-1 : Int32)))) x2.toNatClampNeg) ||| ((1 : Int32) <<< (x1 &&& 31))))))] rfl (fun H locs hH => ?_)
  have h := Option.some.inj h
  subst h
  exact ge_v hx hb hr hlocks hQ hK hH hAe dX4_give_38
theorem hd_X0_copyPlan : yX0_copyPlan.cls = RX0 ∧ yX0_copyPlan.cls ≠ "java/lang/invoke/MethodHandle" ∧ yX0_copyPlan.cls ≠ "java/lang/invoke/VarHandle" ∧ (parseMethodDescriptor yX0_copyPlan.desc).map (fun d => d.parameters.length) = some 3 := by decide +kernel
set_option maxHeartbeats 4000000 in
set_option maxRecDepth 100000 in
theorem mX0_copyPlan (l : Launch) (Ts : List Cond) (hTs : ∀ w, w ∈ Ts ↔ w ∈ uT) (D : va_G) (k : Nat → ClassId) (sz : Nat) (a_p2 : Nat) (a_p3 : Nat) (a_t : Nat) (a_t_codes : Nat) (a_t_isPossible : Nat) (a_t_sets : Nat) (a_t_plan : Nat) (a_t_best : Nat) (a_t_tried : Nat) (a_p3_places : Nat) (a_p3_sets : Nat) (a_p2_population : Nat) (a_p2_area : Nat) (a_p2_community : Nat) (a_p2_outer : Nat) (a_p2_neighbors : Nat) (a_p2_lengths : Nat) (a_p2_plan : Nat) (p2_units : Int32) (p3_places : Nat → Int32) (p3_sets : Nat → Int32) (t_codes : Nat → Int32) (t_size : Int32) (v_p2_cores : Value) (v_p2_districts : Value) (v_p2_hasPlan : Value) (v_p2_tolerance : Value) (v_t_hasPlans : Value) (v_t_hasSets : Value) (x1 : Int32) (r : (Nat → Int32) × (Nat → Int32)) (h : fX0_copyPlan p2_units p3_places p3_sets t_codes t_size x1 = some r) : Met l yX0_copyPlan (Cond.code yX0_copyPlan cX0_copyPlan 5 none :: Ts) ({ frames := 2, cells := 0, slots := 0, locals := 43 } : Room) (preM D k [.ref a_t, .int x1, .ref a_p2, .ref a_p3] [(a_t, .inr (0, [.ref a_t_codes, .ref a_t_isPossible, .ref a_t_sets, .ref a_t_plan, .ref a_t_best, .ref a_t_tried, .int t_size, v_t_hasSets, v_t_hasPlans])), (a_p3, .inr (4, [.ref a_p3_places, .ref a_p3_sets])), (a_p3_places, .inl (k 0, 12, .inl p3_places)), (a_p3_sets, .inl (k 0, 4, .inl p3_sets)), (a_p2, .inr (8, [.int p2_units, .ref a_p2_population, .ref a_p2_area, .ref a_p2_community, .ref a_p2_outer, .ref a_p2_neighbors, .ref a_p2_lengths, v_p2_cores, v_p2_districts, v_p2_tolerance, v_p2_hasPlan, .ref a_p2_plan])), (a_t_codes, .inl (k 0, 7770, .inl t_codes))] sz) (postV D k [(a_t, .inr (0, [.ref a_t_codes, .ref a_t_isPossible, .ref a_t_sets, .ref a_t_plan, .ref a_t_best, .ref a_t_tried, .int t_size, v_t_hasSets, v_t_hasPlans])), (a_p3, .inr (4, [.ref a_p3_places, .ref a_p3_sets])), (a_p3_places, .inl (k 0, 12, .inl p3_places)), (a_p3_sets, .inl (k 0, 4, .inl p3_sets)), (a_p2, .inr (8, [.int p2_units, .ref a_p2_population, .ref a_p2_area, .ref a_p2_community, .ref a_p2_outer, .ref a_p2_neighbors, .ref a_p2_lengths, v_p2_cores, v_p2_districts, v_p2_tolerance, v_p2_hasPlan, .ref a_p2_plan])), (a_t_codes, .inl (k 0, 7770, .inl t_codes))] [(a_t, .inr (0, [.ref a_t_codes, .ref a_t_isPossible, .ref a_t_sets, .ref a_t_plan, .ref a_t_best, .ref a_t_tried, .int t_size, v_t_hasSets, v_t_hasPlans])), (a_p3, .inr (4, [.ref a_p3_places, .ref a_p3_sets])), (a_p3_places, .inl (k 0, 12, .inl r.1)), (a_p3_sets, .inl (k 0, 4, .inl r.2)), (a_p2, .inr (8, [.int p2_units, .ref a_p2_population, .ref a_p2_area, .ref a_p2_community, .ref a_p2_outer, .ref a_p2_neighbors, .ref a_p2_lengths, v_p2_cores, v_p2_districts, v_p2_tolerance, v_p2_hasPlan, .ref a_p2_plan])), (a_t_codes, .inl (k 0, 7770, .inl t_codes))] sz) 0 0 (va_A [(a_t, .inr (0, [.ref a_t_codes, .ref a_t_isPossible, .ref a_t_sets, .ref a_t_plan, .ref a_t_best, .ref a_t_tried, .int t_size, v_t_hasSets, v_t_hasPlans])), (a_p3, .inr (4, [.ref a_p3_places, .ref a_p3_sets])), (a_p3_places, .inl (k 0, 12, .inl p3_places)), (a_p3_sets, .inl (k 0, 4, .inl p3_sets)), (a_p2, .inr (8, [.int p2_units, .ref a_p2_population, .ref a_p2_area, .ref a_p2_community, .ref a_p2_outer, .ref a_p2_neighbors, .ref a_p2_lengths, v_p2_cores, v_p2_districts, v_p2_tolerance, v_p2_hasPlan, .ref a_p2_plan])), (a_t_codes, .inl (k 0, 7770, .inl t_codes))] sz) := by
  refine Met.ofW (cc := cX0_copyPlan) (maxL := 5) (ret := none) (by decide) rfl ?_
  intro p e s m args below meth c s₁ B hml hv
  obtain ⟨rfl, hsz, hP, hK, hD0⟩ := hv
  have hx := B.exec
  have hb := B.bytes
  have hr := B.returns
  have hts0 := atoms_spec (ws := (Cond.code yX0_copyPlan cX0_copyPlan 5 none :: Ts)) B.pre
  have hts : ∀ w ∈ uT, w.before _ s = true := fun w h => hts0 w (List.mem_cons_of_mem _ ((hTs w).mpr h))
  clear hts0
  have hown : s.vm.findClass RX0 = some m.cls := findClass_of_methodNamed B.named
  have hlocks := B.notSynchronized
  subst hsz
  have hD := hD0.self (sz := s.heap.size)
  generalize hAe : va_A [(a_t, .inr (0, [.ref a_t_codes, .ref a_t_isPossible, .ref a_t_sets, .ref a_t_plan, .ref a_t_best, .ref a_t_tried, .int t_size, v_t_hasSets, v_t_hasPlans])), (a_p3, .inr (4, [.ref a_p3_places, .ref a_p3_sets])), (a_p3_places, .inl (k 0, 12, .inl p3_places)), (a_p3_sets, .inl (k 0, 4, .inl p3_sets)), (a_p2, .inr (8, [.int p2_units, .ref a_p2_population, .ref a_p2_area, .ref a_p2_community, .ref a_p2_outer, .ref a_p2_neighbors, .ref a_p2_lengths, v_p2_cores, v_p2_districts, v_p2_tolerance, v_p2_hasPlan, .ref a_p2_plan])), (a_t_codes, .inl (k 0, 7770, .inl t_codes))] s.heap.size = A at hD ⊢
  have hA : ∀ q : Nat, s.heap.size ≤ q → A q := fun q h => by rw [← hAe]; exact Or.inr h
  have hH : HOK D A s.heap [(a_t, .inr (0, [.ref a_t_codes, .ref a_t_isPossible, .ref a_t_sets, .ref a_t_plan, .ref a_t_best, .ref a_t_tried, .int t_size, v_t_hasSets, v_t_hasPlans])), (a_p3, .inr (4, [.ref a_p3_places, .ref a_p3_sets])), (a_p3_places, .inl (k 0, 12, .inl p3_places)), (a_p3_sets, .inl (k 0, 4, .inl p3_sets)), (a_p2, .inr (8, [.int p2_units, .ref a_p2_population, .ref a_p2_area, .ref a_p2_community, .ref a_p2_outer, .ref a_p2_neighbors, .ref a_p2_lengths, v_p2_cores, v_p2_districts, v_p2_tolerance, v_p2_hasPlan, .ref a_p2_plan])), (a_t_codes, .inl (k 0, 7770, .inl t_codes))] s.heap [] := ⟨hP, hD, va_S.rf⟩
  have hl := lv_entry ([.ref a_t, .int x1, .ref a_p2, .ref a_p3]) (n := 5) (Nat.le_of_ble_eq_true rfl)
  rw [lg_entry_eq]
  generalize (lg_sl ([.ref a_t, .int x1, .ref a_p2, .ref a_p3]) ++ List.replicate (5 - (lg_sl ([.ref a_t, .int x1, .ref a_p2, .ref a_p3])).length) Slot.unset).toArray = ls at hl ⊢
  have hl : lv_has ls 5 [(0, .ref a_t), (1, .int x1), (2, .ref a_p2), (3, .ref a_p3)] := hl
  generalize hQ : MQ below (postV D k [(a_t, .inr (0, [.ref a_t_codes, .ref a_t_isPossible, .ref a_t_sets, .ref a_t_plan, .ref a_t_best, .ref a_t_tried, .int t_size, v_t_hasSets, v_t_hasPlans])), (a_p3, .inr (4, [.ref a_p3_places, .ref a_p3_sets])), (a_p3_places, .inl (k 0, 12, .inl p3_places)), (a_p3_sets, .inl (k 0, 4, .inl p3_sets)), (a_p2, .inr (8, [.int p2_units, .ref a_p2_population, .ref a_p2_area, .ref a_p2_community, .ref a_p2_outer, .ref a_p2_neighbors, .ref a_p2_lengths, v_p2_cores, v_p2_districts, v_p2_tolerance, v_p2_hasPlan, .ref a_p2_plan])), (a_t_codes, .inl (k 0, 7770, .inl t_codes))] [(a_t, .inr (0, [.ref a_t_codes, .ref a_t_isPossible, .ref a_t_sets, .ref a_t_plan, .ref a_t_best, .ref a_t_tried, .int t_size, v_t_hasSets, v_t_hasPlans])), (a_p3, .inr (4, [.ref a_p3_places, .ref a_p3_sets])), (a_p3_places, .inl (k 0, 12, .inl r.1)), (a_p3_sets, .inl (k 0, 4, .inl r.2)), (a_p2, .inr (8, [.int p2_units, .ref a_p2_population, .ref a_p2_area, .ref a_p2_community, .ref a_p2_outer, .ref a_p2_neighbors, .ref a_p2_lengths, v_p2_cores, v_p2_districts, v_p2_tolerance, v_p2_hasPlan, .ref a_p2_plan])), (a_t_codes, .inl (k 0, 7770, .inl t_codes))] s.heap.size) (List.toArray [.ref a_t, .int x1, .ref a_p2, .ref a_p3]) s 0 0 A = Q
  clear hP hD hD0
  suffices K : ∀ (H : Heap) (locs : List Loc), HOK D A s.heap [(a_t, .inr (0, [.ref a_t_codes, .ref a_t_isPossible, .ref a_t_sets, .ref a_t_plan, .ref a_t_best, .ref a_t_tried, .int t_size, v_t_hasSets, v_t_hasPlans])), (a_p3, .inr (4, [.ref a_p3_places, .ref a_p3_sets])), (a_p3_places, .inl (k 0, 12, .inl p3_places)), (a_p3_sets, .inl (k 0, 4, .inl p3_sets)), (a_p2, .inr (8, [.int p2_units, .ref a_p2_population, .ref a_p2_area, .ref a_p2_community, .ref a_p2_outer, .ref a_p2_neighbors, .ref a_p2_lengths, v_p2_cores, v_p2_districts, v_p2_tolerance, v_p2_hasPlan, .ref a_p2_plan])), (a_t_codes, .inl (k 0, 7770, .inl t_codes))] H locs → W p l e ({ frames := 2, cells := 0, slots := 0, locals := 43 } : Room) s m (List.toArray [.ref a_t, .int x1, .ref a_p2, .ref a_p3]) below meth c H locs 0 0 Q (F0 m 0 ls []) from K s.heap [] hH
  intro H locs hH
  have L20 : ∀ (n : Nat), ∀ (kf : (Nat → Int32) → (Nat → Int32) → Option ((Nat → Int32) × (Nat → Int32))) (y20_4 : Int32) (y20_p3_places : Nat → Int32) (y20_p3_sets : Nat → Int32), fX0_copyPlan_L20 p2_units t_codes x1 n kf y20_4 y20_p3_places y20_p3_sets = some r → (∀ (z20_p3_places : Nat → Int32) (z20_p3_sets : Nat → Int32) (H : Heap) (locs : List Loc) (ls : Array Slot), kf z20_p3_places z20_p3_sets = some r → HOK D A s.heap [(a_t, .inr (0, [.ref a_t_codes, .ref a_t_isPossible, .ref a_t_sets, .ref a_t_plan, .ref a_t_best, .ref a_t_tried, .int t_size, v_t_hasSets, v_t_hasPlans])), (a_p3, .inr (4, [.ref a_p3_places, .ref a_p3_sets])), (a_p3_places, .inl (k 0, 12, .inl z20_p3_places)), (a_p3_sets, .inl (k 0, 4, .inl z20_p3_sets)), (a_p2, .inr (8, [.int p2_units, .ref a_p2_population, .ref a_p2_area, .ref a_p2_community, .ref a_p2_outer, .ref a_p2_neighbors, .ref a_p2_lengths, v_p2_cores, v_p2_districts, v_p2_tolerance, v_p2_hasPlan, .ref a_p2_plan])), (a_t_codes, .inl (k 0, 7770, .inl t_codes))] H locs → lv_has ls 5 [] → W p l e ({ frames := 2, cells := 0, slots := 0, locals := 43 } : Room) s m (List.toArray [.ref a_t, .int x1, .ref a_p2, .ref a_p3]) below meth c H locs 0 0 Q (F0 m 54 ls [])) → ∀ (H : Heap) (locs : List Loc) (ls : Array Slot), HOK D A s.heap [(a_t, .inr (0, [.ref a_t_codes, .ref a_t_isPossible, .ref a_t_sets, .ref a_t_plan, .ref a_t_best, .ref a_t_tried, .int t_size, v_t_hasSets, v_t_hasPlans])), (a_p3, .inr (4, [.ref a_p3_places, .ref a_p3_sets])), (a_p3_places, .inl (k 0, 12, .inl y20_p3_places)), (a_p3_sets, .inl (k 0, 4, .inl y20_p3_sets)), (a_p2, .inr (8, [.int p2_units, .ref a_p2_population, .ref a_p2_area, .ref a_p2_community, .ref a_p2_outer, .ref a_p2_neighbors, .ref a_p2_lengths, v_p2_cores, v_p2_districts, v_p2_tolerance, v_p2_hasPlan, .ref a_p2_plan])), (a_t_codes, .inl (k 0, 7770, .inl t_codes))] H locs → lv_has ls 5 [(0, .ref a_t), (1, .int x1), (2, .ref a_p2), (3, .ref a_p3), (4, .int y20_4)] → W p l e ({ frames := 2, cells := 0, slots := 0, locals := 43 } : Room) s m (List.toArray [.ref a_t, .int x1, .ref a_p2, .ref a_p3]) below meth c H locs 0 0 Q (F0 m 20 ls []) := by
    intro n
    induction n with
    | zero =>
      intro kf y20_4 y20_p3_places y20_p3_sets h
      exact absurd h (by rw [fX0_copyPlan_L20]; exact fun q => by cases q)
    | succ n ih =>
      intro kf y20_4 y20_p3_places y20_p3_sets h kk H locs ls hH hl
      rw [fX0_copyPlan_L20] at h
      refine lv_iload hx hb dX0_copyPlan_20 (lv_at hl 4 rfl) ?_
      refine lv_aload_n hx hb dX0_copyPlan_22 rfl (lv_at hl 2 rfl) ?_
      refine gk_get (ci := 8) (C := RX9) (T := TX9) (N := 12) hx hb hts u_ws_X9 hown hK hH 4 rfl rfl 0 (by decide) u_fl_X0_50 rfl dX0_copyPlan_23 ?_
      refine lv_icmp_ge (tgt := 54) hx hb dX0_copyPlan_26 (by decide) (fun c4 => ?_) (fun c4 => ?_)
      · replace h := dc_pos c4 h
        exact kk y20_p3_places y20_p3_sets H locs ls h hH (lv_sub hl [] rfl)
      · replace h := dc_neg c4 h
        refine lv_aload_n hx hb dX0_copyPlan_29 rfl (lv_at hl 3 rfl) ?_
        refine lv_iload hx hb dX0_copyPlan_30 (lv_at hl 4 rfl) ?_
        refine lv_aload_n hx hb dX0_copyPlan_32 rfl (lv_at hl 0 rfl) ?_
        refine gk_get (ci := 0) (C := RX0) (T := TX0) (N := 9) hx hb hts u_ws_X0 hown hK hH 0 rfl rfl 0 (by decide) u_fl_X0_9 rfl dX0_copyPlan_33 ?_
        refine lv_iload_n hx hb dX0_copyPlan_36 rfl (lv_at hl 1 rfl) ?_
        obtain ⟨g5, h⟩ := dc_need h
        refine gk_iald hx hb hK hH 5 rfl (dk_in g5) dX0_copyPlan_37 ?_
        refine lv_iconst (v := 2) hx hb dX0_copyPlan_38 (by decide) ?_
        refine lv_iload hx hb dX0_copyPlan_39 (lv_at hl 4 rfl) ?_
        refine lv_imul hx hb dX0_copyPlan_41 ?_
        refine lv_ishr hx hb dX0_copyPlan_42 ?_
        refine lv_iconst (v := 3) hx hb dX0_copyPlan_43 (by decide) ?_
        refine lv_iand hx hb dX0_copyPlan_44 ?_
        obtain ⟨q6, hqq6, h⟩ := dc_bind h
        refine gc_Vv (ws' := [(a_t, .inr (0, [.ref a_t_codes, .ref a_t_isPossible, .ref a_t_sets, .ref a_t_plan, .ref a_t_best, .ref a_t_tried, .int t_size, v_t_hasSets, v_t_hasPlans])), (a_p3, .inr (4, [.ref a_p3_places, .ref a_p3_sets])), (a_p3_places, .inl (k 0, 12, .inl q6.1)), (a_p3_sets, .inl (k 0, 4, .inl q6.2)), (a_p2, .inr (8, [.int p2_units, .ref a_p2_population, .ref a_p2_area, .ref a_p2_community, .ref a_p2_outer, .ref a_p2_neighbors, .ref a_p2_lengths, v_p2_cores, v_p2_districts, v_p2_tolerance, v_p2_hasPlan, .ref a_p2_plan])), (a_t_codes, .inl (k 0, 7770, .inl t_codes))]) (As := [.int y20_4, .int (((t_codes x1.toNatClampNeg) >>> (((2 : Int32) * y20_4) &&& 31)) &&& (3 : Int32))]) (rest := []) (n := 2) (ci := 4) (cq := (RX4, TX4, 2)) hTs ⟨hx, hb, hml, hown, hts⟩ (mX4_give l Ts hTs D k H.size a_p3 a_p3_places a_p3_sets y20_p3_places y20_p3_sets y20_4 (((t_codes x1.toNatClampNeg) >>> (((2 : Int32) * y20_4) &&& 31)) &&& (3 : Int32)) q6 hqq6) u_ml_X0_83 u_im_X4_give u_se_X4_give u_in_X4 u_co_X4_give hd_X4_give ⟨Nat.le_of_ble_eq_true rfl, Nat.le_of_ble_eq_true rfl⟩ ⟨rfl, rfl⟩ hK hH hA (cutM (isC := [1, 2, 3]) [none, some 0, some 1, some 2, none, none] 6 rfl rfl rfl rfl rfl rfl rfl) rfl rfl rfl rfl hl.1 (Nat.le_of_ble_eq_true rfl) dX0_copyPlan_45 ⟨Nat.le_of_ble_eq_true rfl, Nat.le_of_ble_eq_true rfl⟩ (fun H locs hH => ?_)
        refine lv_iinc (v := (y20_4 + (1 : Int32))) (lv' := [(4, .int (y20_4 + (1 : Int32))), (0, .ref a_t), (1, .int x1), (2, .ref a_p2), (3, .ref a_p3)]) hx hb dX0_copyPlan_48 hl (k := 4) rfl rfl (by decide) rfl (fun ls hl => ?_)
        refine lv_goto (tgt := 20) hx hb dX0_copyPlan_51 (by decide) ?_
        exact ih kf (y20_4 + (1 : Int32)) q6.1 q6.2 h kk H locs ls hH (lv_sub hl [1, 2, 3, 4, 0] rfl)
  rw [fX0_copyPlan] at h
  refine lv_aload_n hx hb dX0_copyPlan_0 rfl (lv_at hl 3 rfl) ?_
  obtain ⟨q1, hqq1, h⟩ := dc_bind h
  refine gc_Vv (ws' := [(a_t, .inr (0, [.ref a_t_codes, .ref a_t_isPossible, .ref a_t_sets, .ref a_t_plan, .ref a_t_best, .ref a_t_tried, .int t_size, v_t_hasSets, v_t_hasPlans])), (a_p3, .inr (4, [.ref a_p3_places, .ref a_p3_sets])), (a_p3_places, .inl (k 0, 12, .inl q1.1)), (a_p3_sets, .inl (k 0, 4, .inl q1.2)), (a_p2, .inr (8, [.int p2_units, .ref a_p2_population, .ref a_p2_area, .ref a_p2_community, .ref a_p2_outer, .ref a_p2_neighbors, .ref a_p2_lengths, v_p2_cores, v_p2_districts, v_p2_tolerance, v_p2_hasPlan, .ref a_p2_plan])), (a_t_codes, .inl (k 0, 7770, .inl t_codes))]) (As := []) (rest := []) (n := 0) (ci := 4) (cq := (RX4, TX4, 2)) hTs ⟨hx, hb, hml, hown, hts⟩ (mX4_clear l Ts hTs D k H.size a_p3 a_p3_places a_p3_sets p3_places p3_sets q1 hqq1) u_ml_X0_80 u_im_X4_clear u_se_X4_clear u_in_X4 u_co_X4_clear hd_X4_clear ⟨Nat.le_of_ble_eq_true rfl, Nat.le_of_ble_eq_true rfl⟩ ⟨rfl, rfl⟩ hK hH hA (cutM (isC := [1, 2, 3]) [none, some 0, some 1, some 2, none, none] 6 rfl rfl rfl rfl rfl rfl rfl) rfl rfl rfl rfl hl.1 (Nat.le_of_ble_eq_true rfl) dX0_copyPlan_1 ⟨Nat.le_of_ble_eq_true rfl, Nat.le_of_ble_eq_true rfl⟩ (fun H locs hH => ?_)
  refine lv_iload_n hx hb dX0_copyPlan_4 rfl (lv_at hl 1 rfl) ?_
  refine lv_if_lt (tgt := 16) hx hb dX0_copyPlan_5 (by decide) (fun c2 => ?_) (fun c2 => ?_)
  · replace h := dc_pos c2 h
    have h := Option.some.inj h
    subst h
    exact ge_v hx hb hr hlocks hQ hK hH hAe dX0_copyPlan_16
  · replace h := dc_neg c2 h
    refine lv_iload_n hx hb dX0_copyPlan_8 rfl (lv_at hl 1 rfl) ?_
    refine lv_aload_n hx hb dX0_copyPlan_9 rfl (lv_at hl 0 rfl) ?_
    refine gk_get (ci := 0) (C := RX0) (T := TX0) (N := 9) hx hb hts u_ws_X0 hown hK hH 0 rfl rfl 6 (by decide) u_fl_X0_39 rfl dX0_copyPlan_10 ?_
    refine lv_icmp_lt (tgt := 17) hx hb dX0_copyPlan_13 (by decide) (fun c3 => ?_) (fun c3 => ?_)
    · replace h := dc_pos c3 h
      refine lv_iconst (v := 0) hx hb dX0_copyPlan_17 (by decide) ?_
      refine lv_istore (lv' := [(4, .int (0 : Int32)), (0, .ref a_t), (1, .int x1), (2, .ref a_p2), (3, .ref a_p3)]) hx hb dX0_copyPlan_18 hl (by decide) rfl (fun ls hl => ?_)
      refine L20 _ _ (0 : Int32) q1.1 q1.2 h (fun z20_p3_places z20_p3_sets H locs ls h hH hl => ?_) H locs ls hH (lv_sub hl [1, 2, 3, 4, 0] rfl)
      have h := Option.some.inj h
      subst h
      exact ge_v hx hb hr hlocks hQ hK hH hAe dX0_copyPlan_54
    · replace h := dc_neg c3 h
      have h := Option.some.inj h
      subst h
      exact ge_v hx hb hr hlocks hQ hK hH hAe dX0_copyPlan_16
theorem hd_X9_lengthToOutside : yX9_lengthToOutside.cls = RX9 ∧ yX9_lengthToOutside.cls ≠ "java/lang/invoke/MethodHandle" ∧ yX9_lengthToOutside.cls ≠ "java/lang/invoke/VarHandle" ∧ (parseMethodDescriptor yX9_lengthToOutside.desc).map (fun d => d.parameters.length) = some 2 := by decide +kernel
set_option maxHeartbeats 4000000 in
set_option maxRecDepth 100000 in
theorem mX9_lengthToOutside (l : Launch) (Ts : List Cond) (hTs : ∀ w, w ∈ Ts ↔ w ∈ uT) (D : va_G) (k : Nat → ClassId) (sz : Nat) (a_t : Nat) (a_t_population : Nat) (a_t_area : Nat) (a_t_community : Nat) (a_t_outer : Nat) (a_t_neighbors : Nat) (a_t_lengths : Nat) (a_t_plan : Nat) (t_lengths : Nat → Int32) (t_units : Int32) (v_t_cores : Value) (v_t_districts : Value) (v_t_hasPlan : Value) (v_t_tolerance : Value) (x1 : Int32) (x2 : Int32) (r : Int32) (h : fX9_lengthToOutside t_lengths t_units x1 x2 = some r) : Met l yX9_lengthToOutside (Cond.code yX9_lengthToOutside cX9_lengthToOutside 5 (some .int) :: Ts) ({ frames := 0, cells := 0, slots := 0, locals := 0 } : Room) (preM D k [.ref a_t, .int x1, .int x2] [(a_t, .inr (8, [.int t_units, .ref a_t_population, .ref a_t_area, .ref a_t_community, .ref a_t_outer, .ref a_t_neighbors, .ref a_t_lengths, v_t_cores, v_t_districts, v_t_tolerance, v_t_hasPlan, .ref a_t_plan])), (a_t_lengths, .inl (k 0, 144, .inl t_lengths))] sz) (postI D k r [(a_t, .inr (8, [.int t_units, .ref a_t_population, .ref a_t_area, .ref a_t_community, .ref a_t_outer, .ref a_t_neighbors, .ref a_t_lengths, v_t_cores, v_t_districts, v_t_tolerance, v_t_hasPlan, .ref a_t_plan])), (a_t_lengths, .inl (k 0, 144, .inl t_lengths))] [(a_t, .inr (8, [.int t_units, .ref a_t_population, .ref a_t_area, .ref a_t_community, .ref a_t_outer, .ref a_t_neighbors, .ref a_t_lengths, v_t_cores, v_t_districts, v_t_tolerance, v_t_hasPlan, .ref a_t_plan])), (a_t_lengths, .inl (k 0, 144, .inl t_lengths))] sz) 0 0 (va_A [(a_t, .inr (8, [.int t_units, .ref a_t_population, .ref a_t_area, .ref a_t_community, .ref a_t_outer, .ref a_t_neighbors, .ref a_t_lengths, v_t_cores, v_t_districts, v_t_tolerance, v_t_hasPlan, .ref a_t_plan])), (a_t_lengths, .inl (k 0, 144, .inl t_lengths))] sz) := by
  refine Met.ofW (cc := cX9_lengthToOutside) (maxL := 5) (ret := (some .int)) (by decide) rfl ?_
  intro p e s m args below meth c s₁ B hml hv
  obtain ⟨rfl, hsz, hP, hK, hD0⟩ := hv
  have hx := B.exec
  have hb := B.bytes
  have hr := B.returns
  have hts0 := atoms_spec (ws := (Cond.code yX9_lengthToOutside cX9_lengthToOutside 5 (some .int) :: Ts)) B.pre
  have hts : ∀ w ∈ uT, w.before _ s = true := fun w h => hts0 w (List.mem_cons_of_mem _ ((hTs w).mpr h))
  clear hts0
  have hown : s.vm.findClass RX9 = some m.cls := findClass_of_methodNamed B.named
  have hlocks := B.notSynchronized
  subst hsz
  have hD := hD0.self (sz := s.heap.size)
  generalize hAe : va_A [(a_t, .inr (8, [.int t_units, .ref a_t_population, .ref a_t_area, .ref a_t_community, .ref a_t_outer, .ref a_t_neighbors, .ref a_t_lengths, v_t_cores, v_t_districts, v_t_tolerance, v_t_hasPlan, .ref a_t_plan])), (a_t_lengths, .inl (k 0, 144, .inl t_lengths))] s.heap.size = A at hD ⊢
  have hA : ∀ q : Nat, s.heap.size ≤ q → A q := fun q h => by rw [← hAe]; exact Or.inr h
  have hH : HOK D A s.heap [(a_t, .inr (8, [.int t_units, .ref a_t_population, .ref a_t_area, .ref a_t_community, .ref a_t_outer, .ref a_t_neighbors, .ref a_t_lengths, v_t_cores, v_t_districts, v_t_tolerance, v_t_hasPlan, .ref a_t_plan])), (a_t_lengths, .inl (k 0, 144, .inl t_lengths))] s.heap [] := ⟨hP, hD, va_S.rf⟩
  have hl := lv_entry ([.ref a_t, .int x1, .int x2]) (n := 5) (Nat.le_of_ble_eq_true rfl)
  rw [lg_entry_eq]
  generalize (lg_sl ([.ref a_t, .int x1, .int x2]) ++ List.replicate (5 - (lg_sl ([.ref a_t, .int x1, .int x2])).length) Slot.unset).toArray = ls at hl ⊢
  have hl : lv_has ls 5 [(0, .ref a_t), (1, .int x1), (2, .int x2)] := hl
  generalize hQ : MQ below (postI D k r [(a_t, .inr (8, [.int t_units, .ref a_t_population, .ref a_t_area, .ref a_t_community, .ref a_t_outer, .ref a_t_neighbors, .ref a_t_lengths, v_t_cores, v_t_districts, v_t_tolerance, v_t_hasPlan, .ref a_t_plan])), (a_t_lengths, .inl (k 0, 144, .inl t_lengths))] [(a_t, .inr (8, [.int t_units, .ref a_t_population, .ref a_t_area, .ref a_t_community, .ref a_t_outer, .ref a_t_neighbors, .ref a_t_lengths, v_t_cores, v_t_districts, v_t_tolerance, v_t_hasPlan, .ref a_t_plan])), (a_t_lengths, .inl (k 0, 144, .inl t_lengths))] s.heap.size) (List.toArray [.ref a_t, .int x1, .int x2]) s 0 0 A = Q
  clear hP hD hD0
  suffices K : ∀ (H : Heap) (locs : List Loc), HOK D A s.heap [(a_t, .inr (8, [.int t_units, .ref a_t_population, .ref a_t_area, .ref a_t_community, .ref a_t_outer, .ref a_t_neighbors, .ref a_t_lengths, v_t_cores, v_t_districts, v_t_tolerance, v_t_hasPlan, .ref a_t_plan])), (a_t_lengths, .inl (k 0, 144, .inl t_lengths))] H locs → W p l e ({ frames := 0, cells := 0, slots := 0, locals := 0 } : Room) s m (List.toArray [.ref a_t, .int x1, .int x2]) below meth c H locs 0 0 Q (F0 m 0 ls []) from K s.heap [] hH
  intro H locs hH
  have L5 : ∀ (n : Nat), ∀ (kf : Int32 → Option (Int32)) (y5_3 : Int32) (y5_4 : Int32), fX9_lengthToOutside_L5 t_lengths t_units x1 x2 n kf y5_3 y5_4 = some r → (∀ (z5_3 : Int32) (H : Heap) (locs : List Loc) (ls : Array Slot), kf z5_3 = some r → HOK D A s.heap [(a_t, .inr (8, [.int t_units, .ref a_t_population, .ref a_t_area, .ref a_t_community, .ref a_t_outer, .ref a_t_neighbors, .ref a_t_lengths, v_t_cores, v_t_districts, v_t_tolerance, v_t_hasPlan, .ref a_t_plan])), (a_t_lengths, .inl (k 0, 144, .inl t_lengths))] H locs → lv_has ls 5 [(3, .int z5_3)] → W p l e ({ frames := 0, cells := 0, slots := 0, locals := 0 } : Room) s m (List.toArray [.ref a_t, .int x1, .int x2]) below meth c H locs 0 0 Q (F0 m 44 ls [])) → ∀ (H : Heap) (locs : List Loc) (ls : Array Slot), HOK D A s.heap [(a_t, .inr (8, [.int t_units, .ref a_t_population, .ref a_t_area, .ref a_t_community, .ref a_t_outer, .ref a_t_neighbors, .ref a_t_lengths, v_t_cores, v_t_districts, v_t_tolerance, v_t_hasPlan, .ref a_t_plan])), (a_t_lengths, .inl (k 0, 144, .inl t_lengths))] H locs → lv_has ls 5 [(0, .ref a_t), (1, .int x1), (2, .int x2), (3, .int y5_3), (4, .int y5_4)] → W p l e ({ frames := 0, cells := 0, slots := 0, locals := 0 } : Room) s m (List.toArray [.ref a_t, .int x1, .int x2]) below meth c H locs 0 0 Q (F0 m 5 ls []) := by
    intro n
    induction n with
    | zero =>
      intro kf y5_3 y5_4 h
      exact absurd h (by rw [fX9_lengthToOutside_L5]; exact fun q => by cases q)
    | succ n ih =>
      intro kf y5_3 y5_4 h kk H locs ls hH hl
      rw [fX9_lengthToOutside_L5] at h
      refine lv_iload hx hb dX9_lengthToOutside_5 (lv_at hl 4 rfl) ?_
      refine lv_aload_n hx hb dX9_lengthToOutside_7 rfl (lv_at hl 0 rfl) ?_
      refine gk_get (ci := 8) (C := RX9) (T := TX9) (N := 12) hx hb hts u_ws_X9 hown hK hH 0 rfl rfl 0 (by decide) u_fl_X9_9 rfl dX9_lengthToOutside_8 ?_
      refine lv_icmp_ge (tgt := 44) hx hb dX9_lengthToOutside_11 (by decide) (fun c1 => ?_) (fun c1 => ?_)
      · replace h := dc_pos c1 h
        exact kk y5_3 H locs ls h hH (lv_sub hl [3] rfl)
      · replace h := dc_neg c1 h
        refine lv_iload_n hx hb dX9_lengthToOutside_14 rfl (lv_at hl 2 rfl) ?_
        refine lv_iload hx hb dX9_lengthToOutside_15 (lv_at hl 4 rfl) ?_
        refine lv_ishr hx hb dX9_lengthToOutside_17 ?_
        refine lv_iconst (v := 1) hx hb dX9_lengthToOutside_18 (by decide) ?_
        refine lv_iand hx hb dX9_lengthToOutside_19 ?_
        refine lv_if_ne (tgt := 38) hx hb dX9_lengthToOutside_20 (by decide) (fun c2 => ?_) (fun c2 => ?_)
        · replace h := dc_neg c2 h
          refine lv_iinc (v := (y5_4 + (1 : Int32))) (lv' := [(4, .int (y5_4 + (1 : Int32))), (0, .ref a_t), (1, .int x1), (2, .int x2), (3, .int y5_3)]) hx hb dX9_lengthToOutside_38 hl (k := 4) rfl rfl (by decide) rfl (fun ls hl => ?_)
          refine lv_goto (tgt := 5) hx hb dX9_lengthToOutside_41 (by decide) ?_
          exact ih kf y5_3 (y5_4 + (1 : Int32)) h kk H locs ls hH (lv_sub hl [1, 2, 3, 4, 0] rfl)
        · replace h := dc_pos c2 h
          refine lv_iload_n hx hb dX9_lengthToOutside_23 rfl (lv_at hl 3 rfl) ?_
          refine lv_aload_n hx hb dX9_lengthToOutside_24 rfl (lv_at hl 0 rfl) ?_
          refine gk_get (ci := 8) (C := RX9) (T := TX9) (N := 12) hx hb hts u_ws_X9 hown hK hH 0 rfl rfl 6 (by decide) u_fl_X9_31 rfl dX9_lengthToOutside_25 ?_
          refine lv_iload_n hx hb dX9_lengthToOutside_28 rfl (lv_at hl 1 rfl) ?_
          refine lv_bipush (v := 12) hx hb dX9_lengthToOutside_29 (by decide) ?_
          refine lv_imul hx hb dX9_lengthToOutside_31 ?_
          refine lv_iload hx hb dX9_lengthToOutside_32 (lv_at hl 4 rfl) ?_
          refine lv_iadd hx hb dX9_lengthToOutside_34 ?_
          obtain ⟨g3, h⟩ := dc_need h
          refine gk_iald hx hb hK hH 1 rfl (dk_in g3) dX9_lengthToOutside_35 ?_
          refine lv_iadd hx hb dX9_lengthToOutside_36 ?_
          refine lv_topi (fun n4 en4 => ?_)
          replace h := dc_at en4 h
          refine lv_istore_n (lv' := [(3, .int n4), (0, .ref a_t), (1, .int x1), (2, .int x2), (4, .int y5_4)]) hx hb dX9_lengthToOutside_37 rfl hl (by decide) rfl (fun ls hl => ?_)
          refine lv_iinc (v := (y5_4 + (1 : Int32))) (lv' := [(4, .int (y5_4 + (1 : Int32))), (3, .int n4), (0, .ref a_t), (1, .int x1), (2, .int x2)]) hx hb dX9_lengthToOutside_38 hl (k := 4) rfl rfl (by decide) rfl (fun ls hl => ?_)
          refine lv_goto (tgt := 5) hx hb dX9_lengthToOutside_41 (by decide) ?_
          exact ih kf n4 (y5_4 + (1 : Int32)) h kk H locs ls hH (lv_sub hl [2, 3, 4, 1, 0] rfl)
  rw [fX9_lengthToOutside] at h
  refine lv_iconst (v := 0) hx hb dX9_lengthToOutside_0 (by decide) ?_
  refine lv_istore_n (lv' := [(3, .int (0 : Int32)), (0, .ref a_t), (1, .int x1), (2, .int x2)]) hx hb dX9_lengthToOutside_1 rfl hl (by decide) rfl (fun ls hl => ?_)
  refine lv_iconst (v := 0) hx hb dX9_lengthToOutside_2 (by decide) ?_
  refine lv_istore (lv' := [(4, .int (0 : Int32)), (3, .int (0 : Int32)), (0, .ref a_t), (1, .int x1), (2, .int x2)]) hx hb dX9_lengthToOutside_3 hl (by decide) rfl (fun ls hl => ?_)
  refine L5 _ _ (0 : Int32) (0 : Int32) h (fun z5_3 H locs ls h hH hl => ?_) H locs ls hH (lv_sub hl [2, 3, 4, 1, 0] rfl)
  refine lv_iload_n hx hb dX9_lengthToOutside_44 rfl (lv_at hl 0 rfl) ?_
  have h := Option.some.inj h
  subst h
  exact ge_i hx hb hr hlocks hQ hK hH hAe rfl dX9_lengthToOutside_45
