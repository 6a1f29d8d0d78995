theorem hd_X0_findSets : yX0_findSets.cls = RX0 ∧ yX0_findSets.cls ≠ "java/lang/invoke/MethodHandle" ∧ yX0_findSets.cls ≠ "java/lang/invoke/VarHandle" ∧ (parseMethodDescriptor yX0_findSets.desc).map (fun d => d.parameters.length) = some 1 := by decide +kernel
set_option maxHeartbeats 4000000 in
set_option maxRecDepth 100000 in
theorem mX0_findSets (l : Launch) (Ts : List Cond) (hTs : ∀ w, w ∈ Ts ↔ w ∈ uT) (D : va_G) (k : Nat → ClassId) (sz : Nat) (a_p1 : Nat) (a_t : Nat) (a_t_codes : Nat) (a_t_isPossible : Nat) (a_t_sets : Nat) (a_t_plan : Nat) (a_t_best : Nat) (a_t_tried : Nat) (a_p1_population : Nat) (a_p1_area : Nat) (a_p1_community : Nat) (a_p1_outer : Nat) (a_p1_neighbors : Nat) (a_p1_lengths : Nat) (a_p1_plan : Nat) (p1_community : Nat → Int32) (p1_cores : Int32) (p1_districts : Int32) (p1_neighbors : Nat → Int32) (p1_population : Nat → Int32) (p1_tolerance : Int32) (p1_units : Int32) (t_hasSets : Int32) (t_isPossible : Nat → Int32) (v_p1_hasPlan : Value) (v_t_hasPlans : Value) (v_t_size : Value) (r : Int32 × (Nat → Int32)) (h : fX0_findSets p1_community p1_cores p1_districts p1_neighbors p1_population p1_tolerance p1_units t_hasSets t_isPossible = some r) : Met l yX0_findSets (Cond.code yX0_findSets cX0_findSets 4 none :: Ts) ({ frames := 3, cells := 0, slots := 0, locals := 106 } : Room) (preM D k [.ref a_t, .ref a_p1] [(a_t, .inr (0, [.ref a_t_codes, .ref a_t_isPossible, .ref a_t_sets, .ref a_t_plan, .ref a_t_best, .ref a_t_tried, v_t_size, .int t_hasSets, v_t_hasPlans])), (a_p1, .inr (8, [.int p1_units, .ref a_p1_population, .ref a_p1_area, .ref a_p1_community, .ref a_p1_outer, .ref a_p1_neighbors, .ref a_p1_lengths, .int p1_cores, .int p1_districts, .int p1_tolerance, v_p1_hasPlan, .ref a_p1_plan])), (a_t_isPossible, .inl (k 2, 512, .inl t_isPossible)), (a_p1_population, .inl (k 0, 12, .inl p1_population)), (a_p1_community, .inl (k 0, 12, .inl p1_community)), (a_p1_neighbors, .inl (k 0, 12, .inl p1_neighbors))] sz) (postV D k [(a_t, .inr (0, [.ref a_t_codes, .ref a_t_isPossible, .ref a_t_sets, .ref a_t_plan, .ref a_t_best, .ref a_t_tried, v_t_size, .int t_hasSets, v_t_hasPlans])), (a_p1, .inr (8, [.int p1_units, .ref a_p1_population, .ref a_p1_area, .ref a_p1_community, .ref a_p1_outer, .ref a_p1_neighbors, .ref a_p1_lengths, .int p1_cores, .int p1_districts, .int p1_tolerance, v_p1_hasPlan, .ref a_p1_plan])), (a_t_isPossible, .inl (k 2, 512, .inl t_isPossible)), (a_p1_population, .inl (k 0, 12, .inl p1_population)), (a_p1_community, .inl (k 0, 12, .inl p1_community)), (a_p1_neighbors, .inl (k 0, 12, .inl p1_neighbors))] [(a_t, .inr (0, [.ref a_t_codes, .ref a_t_isPossible, .ref a_t_sets, .ref a_t_plan, .ref a_t_best, .ref a_t_tried, v_t_size, .int r.1, v_t_hasPlans])), (a_p1, .inr (8, [.int p1_units, .ref a_p1_population, .ref a_p1_area, .ref a_p1_community, .ref a_p1_outer, .ref a_p1_neighbors, .ref a_p1_lengths, .int p1_cores, .int p1_districts, .int p1_tolerance, v_p1_hasPlan, .ref a_p1_plan])), (a_t_isPossible, .inl (k 2, 512, .inl r.2)), (a_p1_population, .inl (k 0, 12, .inl p1_population)), (a_p1_community, .inl (k 0, 12, .inl p1_community)), (a_p1_neighbors, .inl (k 0, 12, .inl p1_neighbors))] sz) 0 0 (va_A [(a_t, .inr (0, [.ref a_t_codes, .ref a_t_isPossible, .ref a_t_sets, .ref a_t_plan, .ref a_t_best, .ref a_t_tried, v_t_size, .int t_hasSets, v_t_hasPlans])), (a_p1, .inr (8, [.int p1_units, .ref a_p1_population, .ref a_p1_area, .ref a_p1_community, .ref a_p1_outer, .ref a_p1_neighbors, .ref a_p1_lengths, .int p1_cores, .int p1_districts, .int p1_tolerance, v_p1_hasPlan, .ref a_p1_plan])), (a_t_isPossible, .inl (k 2, 512, .inl t_isPossible)), (a_p1_population, .inl (k 0, 12, .inl p1_population)), (a_p1_community, .inl (k 0, 12, .inl p1_community)), (a_p1_neighbors, .inl (k 0, 12, .inl p1_neighbors))] sz) := by
  refine Met.ofW (cc := cX0_findSets) (maxL := 4) (ret := none) (by decide) rfl ?_
  intro p e s m args below meth c s₁ B hml hv
  obtain ⟨rfl, hsz, hP, hK, hD0⟩ := hv
  have hx := B.exec
  have hb := B.bytes
  have hr := B.returns
  have hts0 := atoms_spec (ws := (Cond.code yX0_findSets cX0_findSets 4 none :: Ts)) B.pre
  have hts : ∀ w ∈ uT, w.before _ s = true := fun w h => hts0 w (List.mem_cons_of_mem _ ((hTs w).mpr h))
  clear hts0
  have hown : s.vm.findClass RX0 = some m.cls := findClass_of_methodNamed B.named
  have hlocks := B.notSynchronized
  subst hsz
  have hD := hD0.self (sz := s.heap.size)
  generalize hAe : va_A [(a_t, .inr (0, [.ref a_t_codes, .ref a_t_isPossible, .ref a_t_sets, .ref a_t_plan, .ref a_t_best, .ref a_t_tried, v_t_size, .int t_hasSets, v_t_hasPlans])), (a_p1, .inr (8, [.int p1_units, .ref a_p1_population, .ref a_p1_area, .ref a_p1_community, .ref a_p1_outer, .ref a_p1_neighbors, .ref a_p1_lengths, .int p1_cores, .int p1_districts, .int p1_tolerance, v_p1_hasPlan, .ref a_p1_plan])), (a_t_isPossible, .inl (k 2, 512, .inl t_isPossible)), (a_p1_population, .inl (k 0, 12, .inl p1_population)), (a_p1_community, .inl (k 0, 12, .inl p1_community)), (a_p1_neighbors, .inl (k 0, 12, .inl p1_neighbors))] s.heap.size = A at hD ⊢
  have hA : ∀ q : Nat, s.heap.size ≤ q → A q := fun q h => by rw [← hAe]; exact Or.inr h
  have hH : HOK D A s.heap [(a_t, .inr (0, [.ref a_t_codes, .ref a_t_isPossible, .ref a_t_sets, .ref a_t_plan, .ref a_t_best, .ref a_t_tried, v_t_size, .int t_hasSets, v_t_hasPlans])), (a_p1, .inr (8, [.int p1_units, .ref a_p1_population, .ref a_p1_area, .ref a_p1_community, .ref a_p1_outer, .ref a_p1_neighbors, .ref a_p1_lengths, .int p1_cores, .int p1_districts, .int p1_tolerance, v_p1_hasPlan, .ref a_p1_plan])), (a_t_isPossible, .inl (k 2, 512, .inl t_isPossible)), (a_p1_population, .inl (k 0, 12, .inl p1_population)), (a_p1_community, .inl (k 0, 12, .inl p1_community)), (a_p1_neighbors, .inl (k 0, 12, .inl p1_neighbors))] s.heap [] := ⟨hP, hD, va_S.rf⟩
  have hl := lv_entry ([.ref a_t, .ref a_p1]) (n := 4) (Nat.le_of_ble_eq_true rfl)
  rw [lg_entry_eq]
  generalize (lg_sl ([.ref a_t, .ref a_p1]) ++ List.replicate (4 - (lg_sl ([.ref a_t, .ref a_p1])).length) Slot.unset).toArray = ls at hl ⊢
  have hl : lv_has ls 4 [(0, .ref a_t), (1, .ref a_p1)] := hl
  generalize hQ : MQ below (postV D k [(a_t, .inr (0, [.ref a_t_codes, .ref a_t_isPossible, .ref a_t_sets, .ref a_t_plan, .ref a_t_best, .ref a_t_tried, v_t_size, .int t_hasSets, v_t_hasPlans])), (a_p1, .inr (8, [.int p1_units, .ref a_p1_population, .ref a_p1_area, .ref a_p1_community, .ref a_p1_outer, .ref a_p1_neighbors, .ref a_p1_lengths, .int p1_cores, .int p1_districts, .int p1_tolerance, v_p1_hasPlan, .ref a_p1_plan])), (a_t_isPossible, .inl (k 2, 512, .inl t_isPossible)), (a_p1_population, .inl (k 0, 12, .inl p1_population)), (a_p1_community, .inl (k 0, 12, .inl p1_community)), (a_p1_neighbors, .inl (k 0, 12, .inl p1_neighbors))] [(a_t, .inr (0, [.ref a_t_codes, .ref a_t_isPossible, .ref a_t_sets, .ref a_t_plan, .ref a_t_best, .ref a_t_tried, v_t_size, .int r.1, v_t_hasPlans])), (a_p1, .inr (8, [.int p1_units, .ref a_p1_population, .ref a_p1_area, .ref a_p1_community, .ref a_p1_outer, .ref a_p1_neighbors, .ref a_p1_lengths, .int p1_cores, .int p1_districts, .int p1_tolerance, v_p1_hasPlan, .ref a_p1_plan])), (a_t_isPossible, .inl (k 2, 512, .inl r.2)), (a_p1_population, .inl (k 0, 12, .inl p1_population)), (a_p1_community, .inl (k 0, 12, .inl p1_community)), (a_p1_neighbors, .inl (k 0, 12, .inl p1_neighbors))] s.heap.size) (List.toArray [.ref a_t, .ref a_p1]) s 0 0 A = Q
  clear hP hD hD0
  suffices K : ∀ (H : Heap) (locs : List Loc), HOK D A s.heap [(a_t, .inr (0, [.ref a_t_codes, .ref a_t_isPossible, .ref a_t_sets, .ref a_t_plan, .ref a_t_best, .ref a_t_tried, v_t_size, .int t_hasSets, v_t_hasPlans])), (a_p1, .inr (8, [.int p1_units, .ref a_p1_population, .ref a_p1_area, .ref a_p1_community, .ref a_p1_outer, .ref a_p1_neighbors, .ref a_p1_lengths, .int p1_cores, .int p1_districts, .int p1_tolerance, v_p1_hasPlan, .ref a_p1_plan])), (a_t_isPossible, .inl (k 2, 512, .inl t_isPossible)), (a_p1_population, .inl (k 0, 12, .inl p1_population)), (a_p1_community, .inl (k 0, 12, .inl p1_community)), (a_p1_neighbors, .inl (k 0, 12, .inl p1_neighbors))] H locs → W p l e ({ frames := 3, cells := 0, slots := 0, locals := 106 } : Room) s m (List.toArray [.ref a_t, .ref a_p1]) below meth c H locs 0 0 Q (F0 m 0 ls []) from K s.heap [] hH
  intro H locs hH
  have L25 : ∀ (y25_2 : Int32) (n : Nat), ∀ (kf : (Nat → Int32) → Option (Int32 × (Nat → Int32))) (y25_3 : Int32) (y25_t_isPossible : Nat → Int32), fX0_findSets_L25 p1_community p1_cores p1_districts p1_neighbors p1_population p1_tolerance p1_units y25_2 n kf y25_3 y25_t_isPossible = some r → (∀ (z25_t_isPossible : Nat → Int32) (H : Heap) (locs : List Loc) (ls : Array Slot), kf z25_t_isPossible = some r → HOK D A s.heap [(a_t, .inr (0, [.ref a_t_codes, .ref a_t_isPossible, .ref a_t_sets, .ref a_t_plan, .ref a_t_best, .ref a_t_tried, v_t_size, .int t_hasSets, v_t_hasPlans])), (a_p1, .inr (8, [.int p1_units, .ref a_p1_population, .ref a_p1_area, .ref a_p1_community, .ref a_p1_outer, .ref a_p1_neighbors, .ref a_p1_lengths, .int p1_cores, .int p1_districts, .int p1_tolerance, v_p1_hasPlan, .ref a_p1_plan])), (a_t_isPossible, .inl (k 2, 512, .inl z25_t_isPossible)), (a_p1_population, .inl (k 0, 12, .inl p1_population)), (a_p1_community, .inl (k 0, 12, .inl p1_community)), (a_p1_neighbors, .inl (k 0, 12, .inl p1_neighbors))] H locs → lv_has ls 4 [(0, .ref a_t)] → W p l e ({ frames := 3, cells := 0, slots := 0, locals := 106 } : Room) s m (List.toArray [.ref a_t, .ref a_p1]) below meth c H locs 0 0 Q (F0 m 75 ls [])) → ∀ (H : Heap) (locs : List Loc) (ls : Array Slot), HOK D A s.heap [(a_t, .inr (0, [.ref a_t_codes, .ref a_t_isPossible, .ref a_t_sets, .ref a_t_plan, .ref a_t_best, .ref a_t_tried, v_t_size, .int t_hasSets, v_t_hasPlans])), (a_p1, .inr (8, [.int p1_units, .ref a_p1_population, .ref a_p1_area, .ref a_p1_community, .ref a_p1_outer, .ref a_p1_neighbors, .ref a_p1_lengths, .int p1_cores, .int p1_districts, .int p1_tolerance, v_p1_hasPlan, .ref a_p1_plan])), (a_t_isPossible, .inl (k 2, 512, .inl y25_t_isPossible)), (a_p1_population, .inl (k 0, 12, .inl p1_population)), (a_p1_community, .inl (k 0, 12, .inl p1_community)), (a_p1_neighbors, .inl (k 0, 12, .inl p1_neighbors))] H locs → lv_has ls 4 [(0, .ref a_t), (1, .ref a_p1), (2, .int y25_2), (3, .int y25_3)] → W p l e ({ frames := 3, cells := 0, slots := 0, locals := 106 } : Room) s m (List.toArray [.ref a_t, .ref a_p1]) below meth c H locs 0 0 Q (F0 m 25 ls []) := by
    intro y25_2 n
    induction n with
    | zero =>
      intro kf y25_3 y25_t_isPossible h
      exact absurd h (by rw [fX0_findSets_L25]; exact fun q => by cases q)
    | succ n ih =>
      intro kf y25_3 y25_t_isPossible h kk H locs ls hH hl
      rw [fX0_findSets_L25] at h
      refine lv_iload_n hx hb dX0_findSets_25 rfl (lv_at hl 3 rfl) ?_
      refine lv_iload_n hx hb dX0_findSets_26 rfl (lv_at hl 2 rfl) ?_
      refine lv_icmp_gt (tgt := 75) hx hb dX0_findSets_27 (by decide) (fun c4 => ?_) (fun c4 => ?_)
      · replace h := dc_pos c4 h
        exact kk y25_t_isPossible H locs ls h hH (lv_sub hl [0] rfl)
      · replace h := dc_neg c4 h
        refine lv_aload_n hx hb dX0_findSets_30 rfl (lv_at hl 0 rfl) ?_
        refine gk_get (ci := 0) (C := RX0) (T := TX0) (N := 9) hx hb hts u_ws_X0 hown hK hH 0 rfl rfl 1 (by decide) u_fl_X0_15 rfl dX0_findSets_31 ?_
        refine lv_iload_n hx hb dX0_findSets_34 rfl (lv_at hl 3 rfl) ?_
        refine lv_iload_n hx hb dX0_findSets_35 rfl (lv_at hl 3 rfl) ?_
        refine lv_if_eq (tgt := 67) hx hb dX0_findSets_36 (by decide) (fun c5 => ?_) (fun c5 => ?_)
        · replace h := dc_pos c5 h
          refine lv_iconst (v := 0) hx hb dX0_findSets_67 (by decide) ?_
          obtain ⟨g6, h⟩ := dc_need h
          refine gk_bast hx hb hK hH 2 rfl (dk_in g6) dX0_findSets_68 [(a_t, .inr (0, [.ref a_t_codes, .ref a_t_isPossible, .ref a_t_sets, .ref a_t_plan, .ref a_t_best, .ref a_t_tried, v_t_size, .int t_hasSets, v_t_hasPlans])), (a_p1, .inr (8, [.int p1_units, .ref a_p1_population, .ref a_p1_area, .ref a_p1_community, .ref a_p1_outer, .ref a_p1_neighbors, .ref a_p1_lengths, .int p1_cores, .int p1_districts, .int p1_tolerance, v_p1_hasPlan, .ref a_p1_plan])), (a_t_isPossible, .inl (k 2, 512, .inl (upd y25_t_isPossible y25_3.toNatClampNeg (vp_nar .boolean (0 : Int32))))), (a_p1_population, .inl (k 0, 12, .inl p1_population)), (a_p1_community, .inl (k 0, 12, .inl p1_community)), (a_p1_neighbors, .inl (k 0, 12, .inl p1_neighbors))] rfl (fun H locs hH => ?_)
          refine lv_iinc (v := (y25_3 + (1 : Int32))) (lv' := [(3, .int (y25_3 + (1 : Int32))), (0, .ref a_t), (1, .ref a_p1), (2, .int y25_2)]) hx hb dX0_findSets_69 hl (k := 3) rfl rfl (by decide) rfl (fun ls hl => ?_)
          refine lv_goto (tgt := 25) hx hb dX0_findSets_72 (by decide) ?_
          exact ih kf (y25_3 + (1 : Int32)) (upd y25_t_isPossible y25_3.toNatClampNeg (vp_nar .boolean (0 : Int32))) h kk H locs ls hH (lv_sub hl [1, 2, 3, 0] rfl)
        · replace h := dc_neg c5 h
          refine lv_aload_n hx hb dX0_findSets_39 rfl (lv_at hl 1 rfl) ?_
          refine lv_iload_n hx hb dX0_findSets_40 rfl (lv_at hl 3 rfl) ?_
          obtain ⟨q7, hqq7, h⟩ := dc_bind h
          refine gc_Vi (ws' := [(a_t, .inr (0, [.ref a_t_codes, .ref a_t_isPossible, .ref a_t_sets, .ref a_t_plan, .ref a_t_best, .ref a_t_tried, v_t_size, .int t_hasSets, v_t_hasPlans])), (a_p1, .inr (8, [.int p1_units, .ref a_p1_population, .ref a_p1_area, .ref a_p1_community, .ref a_p1_outer, .ref a_p1_neighbors, .ref a_p1_lengths, .int p1_cores, .int p1_districts, .int p1_tolerance, v_p1_hasPlan, .ref a_p1_plan])), (a_t_isPossible, .inl (k 2, 512, .inl y25_t_isPossible)), (a_p1_population, .inl (k 0, 12, .inl p1_population)), (a_p1_community, .inl (k 0, 12, .inl p1_community)), (a_p1_neighbors, .inl (k 0, 12, .inl p1_neighbors))]) (As := [.int y25_3]) (rest := [.int y25_3, .ref a_t_isPossible]) (n := 1) (ci := 8) (cq := (RX9, TX9, 12)) hTs ⟨hx, hb, hml, hown, hts⟩ (mX9_isBalanced l Ts hTs D k H.size a_p1 a_p1_population a_p1_area a_p1_community a_p1_outer a_p1_neighbors a_p1_lengths a_p1_plan p1_districts p1_population p1_tolerance p1_units (.int p1_cores) v_p1_hasPlan y25_3 q7 hqq7) u_ml_X0_111 u_im_X9_isBalanced u_se_X9_isBalanced u_in_X9 u_co_X9_isBalanced hd_X9_isBalanced ⟨Nat.le_of_ble_eq_true rfl, Nat.le_of_ble_eq_true rfl⟩ ⟨rfl, rfl⟩ hK hH hA (cut0 (isC := [1, 3]) rfl rfl rfl) rfl rfl rfl rfl hl.1 (Nat.le_of_ble_eq_true rfl) dX0_findSets_41 ⟨Nat.le_of_ble_eq_true rfl, Nat.le_of_ble_eq_true rfl⟩ (fun H locs hH => ?_)
          refine lv_if_eq (tgt := 67) hx hb dX0_findSets_44 (by decide) (fun c8 => ?_) (fun c8 => ?_)
          · replace h := dc_pos c8 h
            refine lv_iconst (v := 0) hx hb dX0_findSets_67 (by decide) ?_
            obtain ⟨g9, h⟩ := dc_need h
            refine gk_bast hx hb hK hH 2 rfl (dk_in g9) dX0_findSets_68 [(a_t, .inr (0, [.ref a_t_codes, .ref a_t_isPossible, .ref a_t_sets, .ref a_t_plan, .ref a_t_best, .ref a_t_tried, v_t_size, .int t_hasSets, v_t_hasPlans])), (a_p1, .inr (8, [.int p1_units, .ref a_p1_population, .ref a_p1_area, .ref a_p1_community, .ref a_p1_outer, .ref a_p1_neighbors, .ref a_p1_lengths, .int p1_cores, .int p1_districts, .int p1_tolerance, v_p1_hasPlan, .ref a_p1_plan])), (a_t_isPossible, .inl (k 2, 512, .inl (upd y25_t_isPossible y25_3.toNatClampNeg (vp_nar .boolean (0 : Int32))))), (a_p1_population, .inl (k 0, 12, .inl p1_population)), (a_p1_community, .inl (k 0, 12, .inl p1_community)), (a_p1_neighbors, .inl (k 0, 12, .inl p1_neighbors))] rfl (fun H locs hH => ?_)
            refine lv_iinc (v := (y25_3 + (1 : Int32))) (lv' := [(3, .int (y25_3 + (1 : Int32))), (0, .ref a_t), (1, .ref a_p1), (2, .int y25_2)]) hx hb dX0_findSets_69 hl (k := 3) rfl rfl (by decide) rfl (fun ls hl => ?_)
            refine lv_goto (tgt := 25) hx hb dX0_findSets_72 (by decide) ?_
            exact ih kf (y25_3 + (1 : Int32)) (upd y25_t_isPossible y25_3.toNatClampNeg (vp_nar .boolean (0 : Int32))) h kk H locs ls hH (lv_sub hl [1, 2, 3, 0] rfl)
          · replace h := dc_neg c8 h
            refine lv_aload_n hx hb dX0_findSets_47 rfl (lv_at hl 1 rfl) ?_
            refine lv_iload_n hx hb dX0_findSets_48 rfl (lv_at hl 3 rfl) ?_
            obtain ⟨q10, hqq10, h⟩ := dc_bind h
            refine gc_Vi (ws' := [(a_t, .inr (0, [.ref a_t_codes, .ref a_t_isPossible, .ref a_t_sets, .ref a_t_plan, .ref a_t_best, .ref a_t_tried, v_t_size, .int t_hasSets, v_t_hasPlans])), (a_p1, .inr (8, [.int p1_units, .ref a_p1_population, .ref a_p1_area, .ref a_p1_community, .ref a_p1_outer, .ref a_p1_neighbors, .ref a_p1_lengths, .int p1_cores, .int p1_districts, .int p1_tolerance, v_p1_hasPlan, .ref a_p1_plan])), (a_t_isPossible, .inl (k 2, 512, .inl y25_t_isPossible)), (a_p1_population, .inl (k 0, 12, .inl p1_population)), (a_p1_community, .inl (k 0, 12, .inl p1_community)), (a_p1_neighbors, .inl (k 0, 12, .inl p1_neighbors))]) (As := [.int y25_3]) (rest := [.int y25_3, .ref a_t_isPossible]) (n := 1) (ci := 8) (cq := (RX9, TX9, 12)) hTs ⟨hx, hb, hml, hown, hts⟩ (mX9_splitsCores l Ts hTs D k H.size a_p1 a_p1_population a_p1_area a_p1_community a_p1_outer a_p1_neighbors a_p1_lengths a_p1_plan p1_community p1_cores p1_units (.int p1_districts) v_p1_hasPlan (.int p1_tolerance) y25_3 q10 hqq10) u_ml_X0_115 u_im_X9_splitsCores u_se_X9_splitsCores u_in_X9 u_co_X9_splitsCores hd_X9_splitsCores ⟨Nat.le_of_ble_eq_true rfl, Nat.le_of_ble_eq_true rfl⟩ ⟨rfl, rfl⟩ hK hH hA (cut0 (isC := [1, 4]) rfl rfl rfl) rfl rfl rfl rfl hl.1 (Nat.le_of_ble_eq_true rfl) dX0_findSets_49 ⟨Nat.le_of_ble_eq_true rfl, Nat.le_of_ble_eq_true rfl⟩ (fun H locs hH => ?_)
            refine lv_if_ne (tgt := 67) hx hb dX0_findSets_52 (by decide) (fun c11 => ?_) (fun c11 => ?_)
            · replace h := dc_neg c11 h
              refine lv_iconst (v := 0) hx hb dX0_findSets_67 (by decide) ?_
              obtain ⟨g16, h⟩ := dc_need h
              refine gk_bast hx hb hK hH 2 rfl (dk_in g16) dX0_findSets_68 [(a_t, .inr (0, [.ref a_t_codes, .ref a_t_isPossible, .ref a_t_sets, .ref a_t_plan, .ref a_t_best, .ref a_t_tried, v_t_size, .int t_hasSets, v_t_hasPlans])), (a_p1, .inr (8, [.int p1_units, .ref a_p1_population, .ref a_p1_area, .ref a_p1_community, .ref a_p1_outer, .ref a_p1_neighbors, .ref a_p1_lengths, .int p1_cores, .int p1_districts, .int p1_tolerance, v_p1_hasPlan, .ref a_p1_plan])), (a_t_isPossible, .inl (k 2, 512, .inl (upd y25_t_isPossible y25_3.toNatClampNeg (vp_nar .boolean (0 : Int32))))), (a_p1_population, .inl (k 0, 12, .inl p1_population)), (a_p1_community, .inl (k 0, 12, .inl p1_community)), (a_p1_neighbors, .inl (k 0, 12, .inl p1_neighbors))] rfl (fun H locs hH => ?_)
              refine lv_iinc (v := (y25_3 + (1 : Int32))) (lv' := [(3, .int (y25_3 + (1 : Int32))), (0, .ref a_t), (1, .ref a_p1), (2, .int y25_2)]) hx hb dX0_findSets_69 hl (k := 3) rfl rfl (by decide) rfl (fun ls hl => ?_)
              refine lv_goto (tgt := 25) hx hb dX0_findSets_72 (by decide) ?_
              exact ih kf (y25_3 + (1 : Int32)) (upd y25_t_isPossible y25_3.toNatClampNeg (vp_nar .boolean (0 : Int32))) h kk H locs ls hH (lv_sub hl [1, 2, 3, 0] rfl)
            · replace h := dc_pos c11 h
              refine lv_aload_n hx hb dX0_findSets_55 rfl (lv_at hl 1 rfl) ?_
              refine lv_iload_n hx hb dX0_findSets_56 rfl (lv_at hl 3 rfl) ?_
              obtain ⟨q12, hqq12, h⟩ := dc_bind h
              refine gc_Vi (ws' := [(a_t, .inr (0, [.ref a_t_codes, .ref a_t_isPossible, .ref a_t_sets, .ref a_t_plan, .ref a_t_best, .ref a_t_tried, v_t_size, .int t_hasSets, v_t_hasPlans])), (a_p1, .inr (8, [.int p1_units, .ref a_p1_population, .ref a_p1_area, .ref a_p1_community, .ref a_p1_outer, .ref a_p1_neighbors, .ref a_p1_lengths, .int p1_cores, .int p1_districts, .int p1_tolerance, v_p1_hasPlan, .ref a_p1_plan])), (a_t_isPossible, .inl (k 2, 512, .inl y25_t_isPossible)), (a_p1_population, .inl (k 0, 12, .inl p1_population)), (a_p1_community, .inl (k 0, 12, .inl p1_community)), (a_p1_neighbors, .inl (k 0, 12, .inl p1_neighbors))]) (As := [.int y25_3]) (rest := [.int y25_3, .ref a_t_isPossible]) (n := 1) (ci := 8) (cq := (RX9, TX9, 12)) hTs ⟨hx, hb, hml, hown, hts⟩ (mX9_isContiguous l Ts hTs D k H.size a_p1 a_p1_population a_p1_area a_p1_community a_p1_outer a_p1_neighbors a_p1_lengths a_p1_plan p1_neighbors p1_units (.int p1_cores) (.int p1_districts) v_p1_hasPlan (.int p1_tolerance) y25_3 q12 hqq12) u_ml_X0_118 u_im_X9_isContiguous u_se_X9_isContiguous u_in_X9 u_co_X9_isContiguous hd_X9_isContiguous ⟨Nat.le_of_ble_eq_true rfl, Nat.le_of_ble_eq_true rfl⟩ ⟨rfl, rfl⟩ hK hH hA (cut0 (isC := [1, 5]) rfl rfl rfl) rfl rfl rfl rfl hl.1 (Nat.le_of_ble_eq_true rfl) dX0_findSets_57 ⟨Nat.le_of_ble_eq_true rfl, Nat.le_of_ble_eq_true rfl⟩ (fun H locs hH => ?_)
              refine lv_if_eq (tgt := 67) hx hb dX0_findSets_60 (by decide) (fun c13 => ?_) (fun c13 => ?_)
              · replace h := dc_pos c13 h
                refine lv_iconst (v := 0) hx hb dX0_findSets_67 (by decide) ?_
                obtain ⟨g14, h⟩ := dc_need h
                refine gk_bast hx hb hK hH 2 rfl (dk_in g14) dX0_findSets_68 [(a_t, .inr (0, [.ref a_t_codes, .ref a_t_isPossible, .ref a_t_sets, .ref a_t_plan, .ref a_t_best, .ref a_t_tried, v_t_size, .int t_hasSets, v_t_hasPlans])), (a_p1, .inr (8, [.int p1_units, .ref a_p1_population, .ref a_p1_area, .ref a_p1_community, .ref a_p1_outer, .ref a_p1_neighbors, .ref a_p1_lengths, .int p1_cores, .int p1_districts, .int p1_tolerance, v_p1_hasPlan, .ref a_p1_plan])), (a_t_isPossible, .inl (k 2, 512, .inl (upd y25_t_isPossible y25_3.toNatClampNeg (vp_nar .boolean (0 : Int32))))), (a_p1_population, .inl (k 0, 12, .inl p1_population)), (a_p1_community, .inl (k 0, 12, .inl p1_community)), (a_p1_neighbors, .inl (k 0, 12, .inl p1_neighbors))] rfl (fun H locs hH => ?_)
                refine lv_iinc (v := (y25_3 + (1 : Int32))) (lv' := [(3, .int (y25_3 + (1 : Int32))), (0, .ref a_t), (1, .ref a_p1), (2, .int y25_2)]) hx hb dX0_findSets_69 hl (k := 3) rfl rfl (by decide) rfl (fun ls hl => ?_)
                refine lv_goto (tgt := 25) hx hb dX0_findSets_72 (by decide) ?_
                exact ih kf (y25_3 + (1 : Int32)) (upd y25_t_isPossible y25_3.toNatClampNeg (vp_nar .boolean (0 : Int32))) h kk H locs ls hH (lv_sub hl [1, 2, 3, 0] rfl)
              · replace h := dc_neg c13 h
                refine lv_iconst (v := 1) hx hb dX0_findSets_63 (by decide) ?_
                refine lv_goto (tgt := 68) hx hb dX0_findSets_64 (by decide) ?_
                obtain ⟨g15, h⟩ := dc_need h
                refine gk_bast hx hb hK hH 2 rfl (dk_in g15) dX0_findSets_68 [(a_t, .inr (0, [.ref a_t_codes, .ref a_t_isPossible, .ref a_t_sets, .ref a_t_plan, .ref a_t_best, .ref a_t_tried, v_t_size, .int t_hasSets, v_t_hasPlans])), (a_p1, .inr (8, [.int p1_units, .ref a_p1_population, .ref a_p1_area, .ref a_p1_community, .ref a_p1_outer, .ref a_p1_neighbors, .ref a_p1_lengths, .int p1_cores, .int p1_districts, .int p1_tolerance, v_p1_hasPlan, .ref a_p1_plan])), (a_t_isPossible, .inl (k 2, 512, .inl (upd y25_t_isPossible y25_3.toNatClampNeg (vp_nar .boolean (1 : Int32))))), (a_p1_population, .inl (k 0, 12, .inl p1_population)), (a_p1_community, .inl (k 0, 12, .inl p1_community)), (a_p1_neighbors, .inl (k 0, 12, .inl p1_neighbors))] rfl (fun H locs hH => ?_)
                refine lv_iinc (v := (y25_3 + (1 : Int32))) (lv' := [(3, .int (y25_3 + (1 : Int32))), (0, .ref a_t), (1, .ref a_p1), (2, .int y25_2)]) hx hb dX0_findSets_69 hl (k := 3) rfl rfl (by decide) rfl (fun ls hl => ?_)
                refine lv_goto (tgt := 25) hx hb dX0_findSets_72 (by decide) ?_
                exact ih kf (y25_3 + (1 : Int32)) (upd y25_t_isPossible y25_3.toNatClampNeg (vp_nar .boolean (1 : Int32))) h kk H locs ls hH (lv_sub hl [1, 2, 3, 0] rfl)
  rw [fX0_findSets] at h
  refine lv_aload_n hx hb dX0_findSets_0 rfl (lv_at hl 0 rfl) ?_
  refine gk_get (ci := 0) (C := RX0) (T := TX0) (N := 9) hx hb hts u_ws_X0 hown hK hH 0 rfl rfl 7 (by decide) u_fl_X0_43 rfl dX0_findSets_1 ?_
  refine lv_if_eq (tgt := 8) hx hb dX0_findSets_4 (by decide) (fun c1 => ?_) (fun c1 => ?_)
  · replace h := dc_pos c1 h
    refine lv_aload_n hx hb dX0_findSets_8 rfl (lv_at hl 1 rfl) ?_
    obtain ⟨q2, hqq2, h⟩ := dc_bind h
    refine gc_Vi (ws' := [(a_t, .inr (0, [.ref a_t_codes, .ref a_t_isPossible, .ref a_t_sets, .ref a_t_plan, .ref a_t_best, .ref a_t_tried, v_t_size, .int t_hasSets, v_t_hasPlans])), (a_p1, .inr (8, [.int p1_units, .ref a_p1_population, .ref a_p1_area, .ref a_p1_community, .ref a_p1_outer, .ref a_p1_neighbors, .ref a_p1_lengths, .int p1_cores, .int p1_districts, .int p1_tolerance, v_p1_hasPlan, .ref a_p1_plan])), (a_t_isPossible, .inl (k 2, 512, .inl t_isPossible)), (a_p1_population, .inl (k 0, 12, .inl p1_population)), (a_p1_community, .inl (k 0, 12, .inl p1_community)), (a_p1_neighbors, .inl (k 0, 12, .inl p1_neighbors))]) (As := []) (rest := []) (n := 0) (ci := 8) (cq := (RX9, TX9, 12)) hTs ⟨hx, hb, hml, hown, hts⟩ (mX9_allUnits l Ts hTs D k H.size a_p1 a_p1_population a_p1_area a_p1_community a_p1_outer a_p1_neighbors a_p1_lengths a_p1_plan p1_units (.int p1_cores) (.int p1_districts) v_p1_hasPlan (.int p1_tolerance) q2 hqq2) u_ml_X0_69 u_im_X9_allUnits u_se_X9_allUnits u_in_X9 u_co_X9_allUnits hd_X9_allUnits ⟨Nat.le_of_ble_eq_true rfl, Nat.le_of_ble_eq_true rfl⟩ ⟨rfl, rfl⟩ hK hH hA (cut0 (isC := [1]) rfl rfl rfl) rfl rfl rfl rfl hl.1 (Nat.le_of_ble_eq_true rfl) dX0_findSets_9 ⟨Nat.le_of_ble_eq_true rfl, Nat.le_of_ble_eq_true rfl⟩ (fun H locs hH => ?_)
    refine lv_aload_n hx hb dX0_findSets_12 rfl (lv_at hl 0 rfl) ?_
    refine gk_get (ci := 0) (C := RX0) (T := TX0) (N := 9) hx hb hts u_ws_X0 hown hK hH 0 rfl rfl 1 (by decide) u_fl_X0_15 rfl dX0_findSets_13 ?_
    refine gk_alen hx hb hK hH 2 2 (v := (512 : Int32)) rfl rfl rfl dX0_findSets_16 ?_
    refine lv_iconst (v := 1) hx hb dX0_findSets_17 (by decide) ?_
    refine lv_isub hx hb dX0_findSets_18 ?_
    refine va_mmin hx hb (hml.trans hl.1.symm) hown (hts _ u_ml_X0_105) (hts _ u_st_J9_min_7cf53) (hts _ u_in_J9) (hts _ u_co_Math_min) (Nat.le_of_ble_eq_true rfl) (Nat.le_of_ble_eq_true rfl) (Nat.le_of_ble_eq_true rfl) (Nat.le_of_ble_eq_true rfl) dX0_findSets_19 ?_
    refine lv_topi (fun n3 en3 => ?_)
    replace h := dc_at en3 h
    refine lv_istore_n (lv' := [(2, .int n3), (0, .ref a_t), (1, .ref a_p1)]) hx hb dX0_findSets_22 rfl hl (by decide) rfl (fun ls hl => ?_)
    refine lv_iconst (v := 0) hx hb dX0_findSets_23 (by decide) ?_
    refine lv_istore_n (lv' := [(3, .int (0 : Int32)), (2, .int n3), (0, .ref a_t), (1, .ref a_p1)]) hx hb dX0_findSets_24 rfl hl (by decide) rfl (fun ls hl => ?_)
    refine L25 n3 _ _ (0 : Int32) t_isPossible h (fun z25_t_isPossible H locs ls h hH hl => ?_) H locs ls hH (lv_sub hl [2, 3, 1, 0] rfl)
    refine lv_aload_n hx hb dX0_findSets_75 rfl (lv_at hl 0 rfl) ?_
    refine lv_iconst (v := 1) hx hb dX0_findSets_76 (by decide) ?_
    refine gk_put (ci := 0) (C := RX0) (T := TX0) (N := 9) hx hb hts u_ws_X0 tyX0_ok nmX0 hown hK hH 0 rfl rfl 7 (by decide) u_fl_X0_43 rfl rfl rfl (Nat.le_of_ble_eq_true rfl) dX0_findSets_77 [(a_t, .inr (0, [.ref a_t_codes, .ref a_t_isPossible, .ref a_t_sets, .ref a_t_plan, .ref a_t_best, .ref a_t_tried, v_t_size, .int (1 : Int32), v_t_hasPlans])), (a_p1, .inr (8, [.int p1_units, .ref a_p1_population, .ref a_p1_area, .ref a_p1_community, .ref a_p1_outer, .ref a_p1_neighbors, .ref a_p1_lengths, .int p1_cores, .int p1_districts, .int p1_tolerance, v_p1_hasPlan, .ref a_p1_plan])), (a_t_isPossible, .inl (k 2, 512, .inl z25_t_isPossible)), (a_p1_population, .inl (k 0, 12, .inl p1_population)), (a_p1_community, .inl (k 0, 12, .inl p1_community)), (a_p1_neighbors, .inl (k 0, 12, .inl p1_neighbors))] rfl (fun H locs hH => ?_)
    have h := Option.some.inj h
    subst h
    exact ge_v hx hb hr hlocks hQ hK hH hAe dX0_findSets_80
  · replace h := dc_neg c1 h
    have h := Option.some.inj h
    subst h
    exact ge_v hx hb hr hlocks hQ hK hH hAe dX0_findSets_7
theorem hd_J7_fill_53178 : yJ7_fill_53178.cls ≠ "java/lang/invoke/MethodHandle" ∧ yJ7_fill_53178.cls ≠ "java/lang/invoke/VarHandle" ∧ (parseMethodDescriptor yJ7_fill_53178.desc).map (fun d => d.parameters.length) = some 2 := by decide +kernel
set_option maxHeartbeats 4000000 in
set_option maxRecDepth 100000 in
theorem mJ7_fill_53178 (l : Launch) (Ts : List Cond) (hTs : ∀ w, w ∈ Ts ↔ w ∈ uT) (D : va_G) (k : Nat → ClassId) (sz : Nat) (len0 : Nat) (a_p0 : Nat) (p0 : Nat → Int32) (x1 : Int32) (r : (Nat → Int32)) (h : fJ7_fill_53178 len0 p0 x1 = some r) : Met l yJ7_fill_53178 (Cond.code yJ7_fill_53178 cJ7_fill_53178 4 none :: Ts) ({ frames := 0, cells := 0, slots := 0, locals := 0 } : Room) (preM D k [.ref a_p0, .int x1] [(a_p0, .inl (k 0, len0, .inl p0))] sz) (postV D k [(a_p0, .inl (k 0, len0, .inl p0))] [(a_p0, .inl (k 0, len0, .inl r))] sz) 0 0 (va_A [(a_p0, .inl (k 0, len0, .inl p0))] sz) := by
  refine Met.ofW (cc := cJ7_fill_53178) (maxL := 4) (ret := none) (by decide) rfl ?_
  intro p e s m args below meth c s₁ B hml hv
  obtain ⟨rfl, hsz, hP, hK, hD0⟩ := hv
  have hx := B.exec
  have hb := B.bytes
  have hr := B.returns
  have hts0 := atoms_spec (ws := (Cond.code yJ7_fill_53178 cJ7_fill_53178 4 none :: Ts)) B.pre
  have hts : ∀ w ∈ uT, w.before _ s = true := fun w h => hts0 w (List.mem_cons_of_mem _ ((hTs w).mpr h))
  clear hts0
  have hown : s.vm.findClass RJ7 = some m.cls := findClass_of_methodNamed B.named
  have hlocks := B.notSynchronized
  subst hsz
  have hD := hD0.self (sz := s.heap.size)
  generalize hAe : va_A [(a_p0, .inl (k 0, len0, .inl p0))] s.heap.size = A at hD ⊢
  have hA : ∀ q : Nat, s.heap.size ≤ q → A q := fun q h => by rw [← hAe]; exact Or.inr h
  have hH : HOK D A s.heap [(a_p0, .inl (k 0, len0, .inl p0))] s.heap [] := ⟨hP, hD, va_S.rf⟩
  have hl := lv_entry ([.ref a_p0, .int x1]) (n := 4) (Nat.le_of_ble_eq_true rfl)
  rw [lg_entry_eq]
  generalize (lg_sl ([.ref a_p0, .int x1]) ++ List.replicate (4 - (lg_sl ([.ref a_p0, .int x1])).length) Slot.unset).toArray = ls at hl ⊢
  have hl : lv_has ls 4 [(0, .ref a_p0), (1, .int x1)] := hl
  generalize hQ : MQ below (postV D k [(a_p0, .inl (k 0, len0, .inl p0))] [(a_p0, .inl (k 0, len0, .inl r))] s.heap.size) (List.toArray [.ref a_p0, .int x1]) s 0 0 A = Q
  clear hP hD hD0
  suffices K : ∀ (H : Heap) (locs : List Loc), HOK D A s.heap [(a_p0, .inl (k 0, len0, .inl p0))] H locs → W p l e ({ frames := 0, cells := 0, slots := 0, locals := 0 } : Room) s m (List.toArray [.ref a_p0, .int x1]) below meth c H locs 0 0 Q (F0 m 0 ls []) from K s.heap [] hH
  intro H locs hH
  have L5 : ∀ (y5_3 : Int32) (n : Nat), ∀ (kf : (Nat → Int32) → Option ((Nat → Int32))) (y5_2 : Int32) (y5_p0 : Nat → Int32), fJ7_fill_53178_L5 len0 x1 y5_3 n kf y5_2 y5_p0 = some r → (∀ (z5_p0 : Nat → Int32) (H : Heap) (locs : List Loc) (ls : Array Slot), kf z5_p0 = some r → HOK D A s.heap [(a_p0, .inl (k 0, len0, .inl z5_p0))] H locs → lv_has ls 4 [] → W p l e ({ frames := 0, cells := 0, slots := 0, locals := 0 } : Room) s m (List.toArray [.ref a_p0, .int x1]) below meth c H locs 0 0 Q (F0 m 20 ls [])) → ∀ (H : Heap) (locs : List Loc) (ls : Array Slot), HOK D A s.heap [(a_p0, .inl (k 0, len0, .inl y5_p0))] H locs → lv_has ls 4 [(0, .ref a_p0), (1, .int x1), (2, .int y5_2), (3, .int y5_3)] → W p l e ({ frames := 0, cells := 0, slots := 0, locals := 0 } : Room) s m (List.toArray [.ref a_p0, .int x1]) below meth c H locs 0 0 Q (F0 m 5 ls []) := by
    intro y5_3 n
    induction n with
    | zero =>
      intro kf y5_2 y5_p0 h
      exact absurd h (by rw [fJ7_fill_53178_L5]; exact fun q => by cases q)
    | succ n ih =>
      intro kf y5_2 y5_p0 h kk H locs ls hH hl
      rw [fJ7_fill_53178_L5] at h
      refine lv_iload_n hx hb dJ7_fill_53178_5 rfl (lv_at hl 2 rfl) ?_
      refine lv_iload_n hx hb dJ7_fill_53178_6 rfl (lv_at hl 3 rfl) ?_
      refine lv_icmp_ge (tgt := 20) hx hb dJ7_fill_53178_7 (by decide) (fun c1 => ?_) (fun c1 => ?_)
      · replace h := dc_pos c1 h
        exact kk y5_p0 H locs ls h hH (lv_sub hl [] rfl)
      · replace h := dc_neg c1 h
        refine lv_aload_n hx hb dJ7_fill_53178_10 rfl (lv_at hl 0 rfl) ?_
        refine lv_iload_n hx hb dJ7_fill_53178_11 rfl (lv_at hl 2 rfl) ?_
        refine lv_iload_n hx hb dJ7_fill_53178_12 rfl (lv_at hl 1 rfl) ?_
        obtain ⟨g2, h⟩ := dc_need h
        refine gk_iast hx hb hK hH 0 rfl (dk_in g2) dJ7_fill_53178_13 [(a_p0, .inl (k 0, len0, .inl (upd y5_p0 y5_2.toNatClampNeg x1)))] rfl (fun H locs hH => ?_)
        refine lv_iinc (v := (y5_2 + (1 : Int32))) (lv' := [(2, .int (y5_2 + (1 : Int32))), (0, .ref a_p0), (1, .int x1), (3, .int y5_3)]) hx hb dJ7_fill_53178_14 hl (k := 2) rfl rfl (by decide) rfl (fun ls hl => ?_)
        refine lv_goto (tgt := 5) hx hb dJ7_fill_53178_17 (by decide) ?_
        exact ih kf (y5_2 + (1 : Int32)) (upd y5_p0 y5_2.toNatClampNeg x1) h kk H locs ls hH (lv_sub hl [1, 2, 0, 3] rfl)
  rw [fJ7_fill_53178] at h
  refine lv_iconst (v := 0) hx hb dJ7_fill_53178_0 (by decide) ?_
  refine lv_istore_n (lv' := [(2, .int (0 : Int32)), (0, .ref a_p0), (1, .int x1)]) hx hb dJ7_fill_53178_1 rfl hl (by decide) rfl (fun ls hl => ?_)
  refine lv_aload_n hx hb dJ7_fill_53178_2 rfl (lv_at hl 1 rfl) ?_
  refine gk_alen hx hb hK hH 0 0 (v := (Int32.ofNat len0)) rfl rfl rfl dJ7_fill_53178_3 ?_
  refine lv_istore_n (lv' := [(3, .int (Int32.ofNat len0)), (2, .int (0 : Int32)), (0, .ref a_p0), (1, .int x1)]) hx hb dJ7_fill_53178_4 rfl hl (by decide) rfl (fun ls hl => ?_)
  refine L5 (Int32.ofNat len0) _ _ (0 : Int32) p0 h (fun z5_p0 H locs ls h hH hl => ?_) H locs ls hH (lv_sub hl [2, 3, 1, 0] rfl)
  have h := Option.some.inj h
  subst h
  exact ge_v hx hb hr hlocks hQ hK hH hAe dJ7_fill_53178_20
theorem hd_X0_keepIfLawful : yX0_keepIfLawful.cls = RX0 ∧ yX0_keepIfLawful.cls ≠ "java/lang/invoke/MethodHandle" ∧ yX0_keepIfLawful.cls ≠ "java/lang/invoke/VarHandle" ∧ (parseMethodDescriptor yX0_keepIfLawful.desc).map (fun d => d.parameters.length) = some 3 := by decide +kernel
set_option maxHeartbeats 4000000 in
set_option maxRecDepth 100000 in
theorem mX0_keepIfLawful (l : Launch) (Ts : List Cond) (hTs : ∀ w, w ∈ Ts ↔ w ∈ uT) (D : va_G) (k : Nat → ClassId) (sz : Nat) (a_t : Nat) (a_t_codes : Nat) (a_t_isPossible : Nat) (a_t_sets : Nat) (a_t_plan : Nat) (a_t_best : Nat) (a_t_tried : Nat) (t_codes : Nat → Int32) (t_isPossible : Nat → Int32) (t_sets : Nat → Int32) (t_size : Int32) (v_t_hasPlans : Value) (v_t_hasSets : Value) (x1 : Int32) (x2 : Int32) (x3 : Int32) (r : (Nat → Int32) × Int32) (h : fX0_keepIfLawful t_codes t_isPossible t_sets t_size x1 x2 x3 = some r) : Met l yX0_keepIfLawful (Cond.code yX0_keepIfLawful cX0_keepIfLawful 5 none :: Ts) ({ frames := 0, cells := 0, slots := 0, locals := 0 } : Room) (preM D k [.ref a_t, .int x1, .int x2, .int x3] [(a_t, .inr (0, [.ref a_t_codes, .ref a_t_isPossible, .ref a_t_sets, .ref a_t_plan, .ref a_t_best, .ref a_t_tried, .int t_size, v_t_hasSets, v_t_hasPlans])), (a_t_sets, .inl (k 0, 4, .inl t_sets)), (a_t_isPossible, .inl (k 2, 512, .inl t_isPossible)), (a_t_codes, .inl (k 0, 7770, .inl t_codes))] sz) (postV D k [(a_t, .inr (0, [.ref a_t_codes, .ref a_t_isPossible, .ref a_t_sets, .ref a_t_plan, .ref a_t_best, .ref a_t_tried, .int t_size, v_t_hasSets, v_t_hasPlans])), (a_t_sets, .inl (k 0, 4, .inl t_sets)), (a_t_isPossible, .inl (k 2, 512, .inl t_isPossible)), (a_t_codes, .inl (k 0, 7770, .inl t_codes))] [(a_t, .inr (0, [.ref a_t_codes, .ref a_t_isPossible, .ref a_t_sets, .ref a_t_plan, .ref a_t_best, .ref a_t_tried, .int r.2, v_t_hasSets, v_t_hasPlans])), (a_t_sets, .inl (k 0, 4, .inl t_sets)), (a_t_isPossible, .inl (k 2, 512, .inl t_isPossible)), (a_t_codes, .inl (k 0, 7770, .inl r.1))] sz) 0 0 (va_A [(a_t, .inr (0, [.ref a_t_codes, .ref a_t_isPossible, .ref a_t_sets, .ref a_t_plan, .ref a_t_best, .ref a_t_tried, .int t_size, v_t_hasSets, v_t_hasPlans])), (a_t_sets, .inl (k 0, 4, .inl t_sets)), (a_t_isPossible, .inl (k 2, 512, .inl t_isPossible)), (a_t_codes, .inl (k 0, 7770, .inl t_codes))] sz) := by
  refine Met.ofW (cc := cX0_keepIfLawful) (maxL := 5) (ret := none) (by decide) rfl ?_
  intro p e s m args below meth c s₁ B hml hv
  obtain ⟨rfl, hsz, hP, hK, hD0⟩ := hv
  have hx := B.exec
  have hb := B.bytes
  have hr := B.returns
  have hts0 := atoms_spec (ws := (Cond.code yX0_keepIfLawful cX0_keepIfLawful 5 none :: Ts)) B.pre
  have hts : ∀ w ∈ uT, w.before _ s = true := fun w h => hts0 w (List.mem_cons_of_mem _ ((hTs w).mpr h))
  clear hts0
  have hown : s.vm.findClass RX0 = some m.cls := findClass_of_methodNamed B.named
  have hlocks := B.notSynchronized
  subst hsz
  have hD := hD0.self (sz := s.heap.size)
  generalize hAe : va_A [(a_t, .inr (0, [.ref a_t_codes, .ref a_t_isPossible, .ref a_t_sets, .ref a_t_plan, .ref a_t_best, .ref a_t_tried, .int t_size, v_t_hasSets, v_t_hasPlans])), (a_t_sets, .inl (k 0, 4, .inl t_sets)), (a_t_isPossible, .inl (k 2, 512, .inl t_isPossible)), (a_t_codes, .inl (k 0, 7770, .inl t_codes))] s.heap.size = A at hD ⊢
  have hA : ∀ q : Nat, s.heap.size ≤ q → A q := fun q h => by rw [← hAe]; exact Or.inr h
  have hH : HOK D A s.heap [(a_t, .inr (0, [.ref a_t_codes, .ref a_t_isPossible, .ref a_t_sets, .ref a_t_plan, .ref a_t_best, .ref a_t_tried, .int t_size, v_t_hasSets, v_t_hasPlans])), (a_t_sets, .inl (k 0, 4, .inl t_sets)), (a_t_isPossible, .inl (k 2, 512, .inl t_isPossible)), (a_t_codes, .inl (k 0, 7770, .inl t_codes))] s.heap [] := ⟨hP, hD, va_S.rf⟩
  have hl := lv_entry ([.ref a_t, .int x1, .int x2, .int x3]) (n := 5) (Nat.le_of_ble_eq_true rfl)
  rw [lg_entry_eq]
  generalize (lg_sl ([.ref a_t, .int x1, .int x2, .int x3]) ++ List.replicate (5 - (lg_sl ([.ref a_t, .int x1, .int x2, .int x3])).length) Slot.unset).toArray = ls at hl ⊢
  have hl : lv_has ls 5 [(0, .ref a_t), (1, .int x1), (2, .int x2), (3, .int x3)] := hl
  generalize hQ : MQ below (postV D k [(a_t, .inr (0, [.ref a_t_codes, .ref a_t_isPossible, .ref a_t_sets, .ref a_t_plan, .ref a_t_best, .ref a_t_tried, .int t_size, v_t_hasSets, v_t_hasPlans])), (a_t_sets, .inl (k 0, 4, .inl t_sets)), (a_t_isPossible, .inl (k 2, 512, .inl t_isPossible)), (a_t_codes, .inl (k 0, 7770, .inl t_codes))] [(a_t, .inr (0, [.ref a_t_codes, .ref a_t_isPossible, .ref a_t_sets, .ref a_t_plan, .ref a_t_best, .ref a_t_tried, .int r.2, v_t_hasSets, v_t_hasPlans])), (a_t_sets, .inl (k 0, 4, .inl t_sets)), (a_t_isPossible, .inl (k 2, 512, .inl t_isPossible)), (a_t_codes, .inl (k 0, 7770, .inl r.1))] s.heap.size) (List.toArray [.ref a_t, .int x1, .int x2, .int x3]) s 0 0 A = Q
  clear hP hD hD0
  suffices K : ∀ (H : Heap) (locs : List Loc), HOK D A s.heap [(a_t, .inr (0, [.ref a_t_codes, .ref a_t_isPossible, .ref a_t_sets, .ref a_t_plan, .ref a_t_best, .ref a_t_tried, .int t_size, v_t_hasSets, v_t_hasPlans])), (a_t_sets, .inl (k 0, 4, .inl t_sets)), (a_t_isPossible, .inl (k 2, 512, .inl t_isPossible)), (a_t_codes, .inl (k 0, 7770, .inl t_codes))] H locs → W p l e ({ frames := 0, cells := 0, slots := 0, locals := 0 } : Room) s m (List.toArray [.ref a_t, .int x1, .int x2, .int x3]) below meth c H locs 0 0 Q (F0 m 0 ls []) from K s.heap [] hH
  intro H locs hH
  have L19 : ∀ (n : Nat), ∀ (kf : Option ((Nat → Int32) × Int32)) (y19_4 : Int32), fX0_keepIfLawful_L19 t_codes t_isPossible t_sets t_size x1 n kf y19_4 = some r → (∀ (H : Heap) (locs : List Loc) (ls : Array Slot), kf = some r → HOK D A s.heap [(a_t, .inr (0, [.ref a_t_codes, .ref a_t_isPossible, .ref a_t_sets, .ref a_t_plan, .ref a_t_best, .ref a_t_tried, .int t_size, v_t_hasSets, v_t_hasPlans])), (a_t_sets, .inl (k 0, 4, .inl t_sets)), (a_t_isPossible, .inl (k 2, 512, .inl t_isPossible)), (a_t_codes, .inl (k 0, 7770, .inl t_codes))] H locs → lv_has ls 5 [(0, .ref a_t), (3, .int x3)] → W p l e ({ frames := 0, cells := 0, slots := 0, locals := 0 } : Room) s m (List.toArray [.ref a_t, .int x1, .int x2, .int x3]) below meth c H locs 0 0 Q (F0 m 47 ls [])) → ∀ (H : Heap) (locs : List Loc) (ls : Array Slot), HOK D A s.heap [(a_t, .inr (0, [.ref a_t_codes, .ref a_t_isPossible, .ref a_t_sets, .ref a_t_plan, .ref a_t_best, .ref a_t_tried, .int t_size, v_t_hasSets, v_t_hasPlans])), (a_t_sets, .inl (k 0, 4, .inl t_sets)), (a_t_isPossible, .inl (k 2, 512, .inl t_isPossible)), (a_t_codes, .inl (k 0, 7770, .inl t_codes))] H locs → lv_has ls 5 [(0, .ref a_t), (1, .int x1), (3, .int x3), (4, .int y19_4)] → W p l e ({ frames := 0, cells := 0, slots := 0, locals := 0 } : Room) s m (List.toArray [.ref a_t, .int x1, .int x2, .int x3]) below meth c H locs 0 0 Q (F0 m 19 ls []) := by
    intro n
    induction n with
    | zero =>
      intro kf y19_4 h
      exact absurd h (by rw [fX0_keepIfLawful_L19]; exact fun q => by cases q)
    | succ n ih =>
      intro kf y19_4 h kk H locs ls hH hl
      rw [fX0_keepIfLawful_L19] at h
      refine lv_iload hx hb dX0_keepIfLawful_19 (lv_at hl 3 rfl) ?_
      refine lv_iload_n hx hb dX0_keepIfLawful_21 rfl (lv_at hl 1 rfl) ?_
      refine lv_icmp_ge (tgt := 47) hx hb dX0_keepIfLawful_22 (by decide) (fun c3 => ?_) (fun c3 => ?_)
      · replace h := dc_pos c3 h
        exact kk  H locs ls h hH (lv_sub hl [0, 2] rfl)
      · replace h := dc_neg c3 h
        refine lv_aload_n hx hb dX0_keepIfLawful_25 rfl (lv_at hl 0 rfl) ?_
        refine gk_get (ci := 0) (C := RX0) (T := TX0) (N := 9) hx hb hts u_ws_X0 hown hK hH 0 rfl rfl 1 (by decide) u_fl_X0_15 rfl dX0_keepIfLawful_26 ?_
        refine lv_aload_n hx hb dX0_keepIfLawful_29 rfl (lv_at hl 0 rfl) ?_
        refine gk_get (ci := 0) (C := RX0) (T := TX0) (N := 9) hx hb hts u_ws_X0 hown hK hH 0 rfl rfl 2 (by decide) u_fl_X0_19 rfl dX0_keepIfLawful_30 ?_
        refine lv_iload hx hb dX0_keepIfLawful_33 (lv_at hl 3 rfl) ?_
        obtain ⟨g4, h⟩ := dc_need h
        refine gk_iald hx hb hK hH 1 rfl (dk_in g4) dX0_keepIfLawful_35 ?_
        obtain ⟨g5, h⟩ := dc_need h
        refine gk_bald hx hb hK hH 2 rfl (dk_in g5) dX0_keepIfLawful_36 ?_
        refine lv_if_ne (tgt := 41) hx hb dX0_keepIfLawful_37 (by decide) (fun c6 => ?_) (fun c6 => ?_)
        · replace h := dc_neg c6 h
          refine lv_iinc (v := (y19_4 + (1 : Int32))) (lv' := [(4, .int (y19_4 + (1 : Int32))), (0, .ref a_t), (1, .int x1), (3, .int x3)]) hx hb dX0_keepIfLawful_41 hl (k := 3) rfl rfl (by decide) rfl (fun ls hl => ?_)
          refine lv_goto (tgt := 19) hx hb dX0_keepIfLawful_44 (by decide) ?_
          exact ih kf (y19_4 + (1 : Int32)) h kk H locs ls hH (lv_sub hl [1, 2, 3, 0] rfl)
        · replace h := dc_pos c6 h
          have h := Option.some.inj h
          subst h
          exact ge_v hx hb hr hlocks hQ hK hH hAe dX0_keepIfLawful_40
  rw [fX0_keepIfLawful] at h
  refine lv_iload_n hx hb dX0_keepIfLawful_0 rfl (lv_at hl 2 rfl) ?_
  refine lv_iload_n hx hb dX0_keepIfLawful_1 rfl (lv_at hl 1 rfl) ?_
  refine lv_icmp_lt (tgt := 15) hx hb dX0_keepIfLawful_2 (by decide) (fun c1 => ?_) (fun c1 => ?_)
  · replace h := dc_pos c1 h
    have h := Option.some.inj h
    subst h
    exact ge_v hx hb hr hlocks hQ hK hH hAe dX0_keepIfLawful_15
  · replace h := dc_neg c1 h
    refine lv_aload_n hx hb dX0_keepIfLawful_5 rfl (lv_at hl 0 rfl) ?_
    refine gk_get (ci := 0) (C := RX0) (T := TX0) (N := 9) hx hb hts u_ws_X0 hown hK hH 0 rfl rfl 6 (by decide) u_fl_X0_39 rfl dX0_keepIfLawful_6 ?_
    refine lv_sipush (v := 7770) hx hb dX0_keepIfLawful_9 (by decide) ?_
    refine lv_icmp_lt (tgt := 16) hx hb dX0_keepIfLawful_12 (by decide) (fun c2 => ?_) (fun c2 => ?_)
    · replace h := dc_pos c2 h
      refine lv_iconst (v := 0) hx hb dX0_keepIfLawful_16 (by decide) ?_
      refine lv_istore (lv' := [(4, .int (0 : Int32)), (0, .ref a_t), (1, .int x1), (2, .int x2), (3, .int x3)]) hx hb dX0_keepIfLawful_17 hl (by decide) rfl (fun ls hl => ?_)
      refine L19 _ _ (0 : Int32) h (fun  H locs ls h hH hl => ?_) H locs ls hH (lv_sub hl [1, 2, 4, 0] rfl)
      refine lv_aload_n hx hb dX0_keepIfLawful_47 rfl (lv_at hl 0 rfl) ?_
      refine gk_get (ci := 0) (C := RX0) (T := TX0) (N := 9) hx hb hts u_ws_X0 hown hK hH 0 rfl rfl 0 (by decide) u_fl_X0_9 rfl dX0_keepIfLawful_48 ?_
      refine lv_aload_n hx hb dX0_keepIfLawful_51 rfl (lv_at hl 0 rfl) ?_
      refine gk_get (ci := 0) (C := RX0) (T := TX0) (N := 9) hx hb hts u_ws_X0 hown hK hH 0 rfl rfl 6 (by decide) u_fl_X0_39 rfl dX0_keepIfLawful_52 ?_
      refine lv_iload_n hx hb dX0_keepIfLawful_55 rfl (lv_at hl 1 rfl) ?_
      obtain ⟨g7, h⟩ := dc_need h
      refine gk_iast hx hb hK hH 3 rfl (dk_in g7) dX0_keepIfLawful_56 [(a_t, .inr (0, [.ref a_t_codes, .ref a_t_isPossible, .ref a_t_sets, .ref a_t_plan, .ref a_t_best, .ref a_t_tried, .int t_size, v_t_hasSets, v_t_hasPlans])), (a_t_sets, .inl (k 0, 4, .inl t_sets)), (a_t_isPossible, .inl (k 2, 512, .inl t_isPossible)), (a_t_codes, .inl (k 0, 7770, .inl (upd t_codes t_size.toNatClampNeg x3)))] rfl (fun H locs hH => ?_)
      refine lv_aload_n hx hb dX0_keepIfLawful_57 rfl (lv_at hl 0 rfl) ?_
      refine lv_dup hx hb dX0_keepIfLawful_58 rfl ?_
      refine gk_get (ci := 0) (C := RX0) (T := TX0) (N := 9) hx hb hts u_ws_X0 hown hK hH 0 rfl rfl 6 (by decide) u_fl_X0_39 rfl dX0_keepIfLawful_59 ?_
      refine lv_iconst (v := 1) hx hb dX0_keepIfLawful_62 (by decide) ?_
      refine lv_iadd hx hb dX0_keepIfLawful_63 ?_
      refine gk_put (ci := 0) (C := RX0) (T := TX0) (N := 9) hx hb hts u_ws_X0 tyX0_ok nmX0 hown hK hH 0 rfl rfl 6 (by decide) u_fl_X0_39 rfl rfl rfl (Nat.le_of_ble_eq_true rfl) dX0_keepIfLawful_64 [(a_t, .inr (0, [.ref a_t_codes, .ref a_t_isPossible, .ref a_t_sets, .ref a_t_plan, .ref a_t_best, .ref a_t_tried, .int (t_size + (1 : Int32)), v_t_hasSets, v_t_hasPlans])), (a_t_sets, .inl (k 0, 4, .inl t_sets)), (a_t_isPossible, .inl (k 2, 512, .inl t_isPossible)), (a_t_codes, .inl (k 0, 7770, .inl (upd t_codes t_size.toNatClampNeg x3)))] rfl (fun H locs hH => ?_)
      have h := Option.some.inj h
      subst h
      exact ge_v hx hb hr hlocks hQ hK hH hAe dX0_keepIfLawful_67
    · replace h := dc_neg c2 h
      have h := Option.some.inj h
      subst h
      exact ge_v hx hb hr hlocks hQ hK hH hAe dX0_keepIfLawful_15
theorem hd_X0_listFrom : yX0_listFrom.cls ≠ "java/lang/invoke/MethodHandle" ∧ yX0_listFrom.cls ≠ "java/lang/invoke/VarHandle" ∧ (parseMethodDescriptor yX0_listFrom.desc).map (fun d => d.parameters.length) = some 5 := by decide +kernel
set_option maxHeartbeats 4000000 in
set_option maxRecDepth 100000 in
theorem mX0_listFrom (l : Launch) (Ts : List Cond) (hTs : ∀ w, w ∈ Ts ↔ w ∈ uT)  : ∀ (dd : Nat) (D : va_G) (k : Nat → ClassId) (sz : Nat) (a_p0 : Nat) (a_p1 : Nat) (a_p1_population : Nat) (a_p1_area : Nat) (a_p1_community : Nat) (a_p1_outer : Nat) (a_p1_neighbors : Nat) (a_p1_lengths : Nat) (a_p1_plan : Nat) (a_p0_codes : Nat) (a_p0_isPossible : Nat) (a_p0_sets : Nat) (a_p0_plan : Nat) (a_p0_best : Nat) (a_p0_tried : Nat) (p0_codes : Nat → Int32) (p0_isPossible : Nat → Int32) (p0_sets : Nat → Int32) (p0_size : Int32) (p1_districts : Int32) (p1_units : Int32) (v_p0_hasPlans : Value) (v_p0_hasSets : Value) (v_p1_cores : Value) (v_p1_hasPlan : Value) (v_p1_tolerance : Value) (x2 : Int32) (x3 : Int32) (x4 : Int32) (r : (Nat → Int32) × (Nat → Int32) × Int32) (h : fX0_listFrom dd p0_codes p0_isPossible p0_sets p0_size p1_districts p1_units x2 x3 x4 = some r), Met l yX0_listFrom (Cond.code yX0_listFrom cX0_listFrom 7 none :: Ts) ({ frames := 1 + 2 * dd, cells := 0, slots := 0, locals := 64 + 64 * dd } : Room) (preM D k [.ref a_p0, .ref a_p1, .int x2, .int x3, .int x4] [(a_p1, .inr (8, [.int p1_units, .ref a_p1_population, .ref a_p1_area, .ref a_p1_community, .ref a_p1_outer, .ref a_p1_neighbors, .ref a_p1_lengths, v_p1_cores, .int p1_districts, v_p1_tolerance, v_p1_hasPlan, .ref a_p1_plan])), (a_p0, .inr (0, [.ref a_p0_codes, .ref a_p0_isPossible, .ref a_p0_sets, .ref a_p0_plan, .ref a_p0_best, .ref a_p0_tried, .int p0_size, v_p0_hasSets, v_p0_hasPlans])), (a_p0_sets, .inl (k 0, 4, .inl p0_sets)), (a_p0_isPossible, .inl (k 2, 512, .inl p0_isPossible)), (a_p0_codes, .inl (k 0, 7770, .inl p0_codes))] sz) (postV D k [(a_p1, .inr (8, [.int p1_units, .ref a_p1_population, .ref a_p1_area, .ref a_p1_community, .ref a_p1_outer, .ref a_p1_neighbors, .ref a_p1_lengths, v_p1_cores, .int p1_districts, v_p1_tolerance, v_p1_hasPlan, .ref a_p1_plan])), (a_p0, .inr (0, [.ref a_p0_codes, .ref a_p0_isPossible, .ref a_p0_sets, .ref a_p0_plan, .ref a_p0_best, .ref a_p0_tried, .int p0_size, v_p0_hasSets, v_p0_hasPlans])), (a_p0_sets, .inl (k 0, 4, .inl p0_sets)), (a_p0_isPossible, .inl (k 2, 512, .inl p0_isPossible)), (a_p0_codes, .inl (k 0, 7770, .inl p0_codes))] [(a_p1, .inr (8, [.int p1_units, .ref a_p1_population, .ref a_p1_area, .ref a_p1_community, .ref a_p1_outer, .ref a_p1_neighbors, .ref a_p1_lengths, v_p1_cores, .int p1_districts, v_p1_tolerance, v_p1_hasPlan, .ref a_p1_plan])), (a_p0, .inr (0, [.ref a_p0_codes, .ref a_p0_isPossible, .ref a_p0_sets, .ref a_p0_plan, .ref a_p0_best, .ref a_p0_tried, .int r.2.2, v_p0_hasSets, v_p0_hasPlans])), (a_p0_sets, .inl (k 0, 4, .inl r.2.1)), (a_p0_isPossible, .inl (k 2, 512, .inl p0_isPossible)), (a_p0_codes, .inl (k 0, 7770, .inl r.1))] sz) 0 0 (va_A [(a_p1, .inr (8, [.int p1_units, .ref a_p1_population, .ref a_p1_area, .ref a_p1_community, .ref a_p1_outer, .ref a_p1_neighbors, .ref a_p1_lengths, v_p1_cores, .int p1_districts, v_p1_tolerance, v_p1_hasPlan, .ref a_p1_plan])), (a_p0, .inr (0, [.ref a_p0_codes, .ref a_p0_isPossible, .ref a_p0_sets, .ref a_p0_plan, .ref a_p0_best, .ref a_p0_tried, .int p0_size, v_p0_hasSets, v_p0_hasPlans])), (a_p0_sets, .inl (k 0, 4, .inl p0_sets)), (a_p0_isPossible, .inl (k 2, 512, .inl p0_isPossible)), (a_p0_codes, .inl (k 0, 7770, .inl p0_codes))] sz)  := by
  intro dd
  induction dd with
  | zero => intro D k sz a_p0 a_p1 a_p1_population a_p1_area a_p1_community a_p1_outer a_p1_neighbors a_p1_lengths a_p1_plan a_p0_codes a_p0_isPossible a_p0_sets a_p0_plan a_p0_best a_p0_tried p0_codes p0_isPossible p0_sets p0_size p1_districts p1_units v_p0_hasPlans v_p0_hasSets v_p1_cores v_p1_hasPlan v_p1_tolerance x2 x3 x4 r h; exact absurd h (by rw [fX0_listFrom]; exact fun q => by cases q)
  | succ dd IH =>
    intro D k sz a_p0 a_p1 a_p1_population a_p1_area a_p1_community a_p1_outer a_p1_neighbors a_p1_lengths a_p1_plan a_p0_codes a_p0_isPossible a_p0_sets a_p0_plan a_p0_best a_p0_tried p0_codes p0_isPossible p0_sets p0_size p1_districts p1_units v_p0_hasPlans v_p0_hasSets v_p1_cores v_p1_hasPlan v_p1_tolerance x2 x3 x4 r h
    refine Met.ofW (cc := cX0_listFrom) (maxL := 7) (ret := none) (by decide) rfl ?_
    intro p e s m args below meth c s₁ B hml hv
    obtain ⟨rfl, hsz, hP, hK, hD0⟩ := hv
    have hx := B.exec
    have hb := B.bytes
    have hr := B.returns
    have hts0 := atoms_spec (ws := (Cond.code yX0_listFrom cX0_listFrom 7 none :: Ts)) B.pre
    have hts : ∀ w ∈ uT, w.before _ s = true := fun w h => hts0 w (List.mem_cons_of_mem _ ((hTs w).mpr h))
    clear hts0
    have hown : s.vm.findClass RX0 = some m.cls := findClass_of_methodNamed B.named
    have hlocks := B.notSynchronized
    subst hsz
    have hD := hD0.self (sz := s.heap.size)
    generalize hAe : va_A [(a_p1, .inr (8, [.int p1_units, .ref a_p1_population, .ref a_p1_area, .ref a_p1_community, .ref a_p1_outer, .ref a_p1_neighbors, .ref a_p1_lengths, v_p1_cores, .int p1_districts, v_p1_tolerance, v_p1_hasPlan, .ref a_p1_plan])), (a_p0, .inr (0, [.ref a_p0_codes, .ref a_p0_isPossible, .ref a_p0_sets, .ref a_p0_plan, .ref a_p0_best, .ref a_p0_tried, .int p0_size, v_p0_hasSets, v_p0_hasPlans])), (a_p0_sets, .inl (k 0, 4, .inl p0_sets)), (a_p0_isPossible, .inl (k 2, 512, .inl p0_isPossible)), (a_p0_codes, .inl (k 0, 7770, .inl p0_codes))] s.heap.size = A at hD ⊢
    have hA : ∀ q : Nat, s.heap.size ≤ q → A q := fun q h => by rw [← hAe]; exact Or.inr h
    have hH : HOK D A s.heap [(a_p1, .inr (8, [.int p1_units, .ref a_p1_population, .ref a_p1_area, .ref a_p1_community, .ref a_p1_outer, .ref a_p1_neighbors, .ref a_p1_lengths, v_p1_cores, .int p1_districts, v_p1_tolerance, v_p1_hasPlan, .ref a_p1_plan])), (a_p0, .inr (0, [.ref a_p0_codes, .ref a_p0_isPossible, .ref a_p0_sets, .ref a_p0_plan, .ref a_p0_best, .ref a_p0_tried, .int p0_size, v_p0_hasSets, v_p0_hasPlans])), (a_p0_sets, .inl (k 0, 4, .inl p0_sets)), (a_p0_isPossible, .inl (k 2, 512, .inl p0_isPossible)), (a_p0_codes, .inl (k 0, 7770, .inl p0_codes))] s.heap [] := ⟨hP, hD, va_S.rf⟩
    have hl := lv_entry ([.ref a_p0, .ref a_p1, .int x2, .int x3, .int x4]) (n := 7) (by first | exact Nat.le_of_ble_eq_true rfl | (dsimp only [headSpec, List.map, List.sum_cons]; omega))
    rw [lg_entry_eq]
    generalize (lg_sl ([.ref a_p0, .ref a_p1, .int x2, .int x3, .int x4]) ++ List.replicate (7 - (lg_sl ([.ref a_p0, .ref a_p1, .int x2, .int x3, .int x4])).length) Slot.unset).toArray = ls at hl ⊢
    have hl : lv_has ls 7 [(0, .ref a_p0), (1, .ref a_p1), (2, .int x2), (3, .int x3), (4, .int x4)] := hl
    generalize hQ : MQ below (postV D k [(a_p1, .inr (8, [.int p1_units, .ref a_p1_population, .ref a_p1_area, .ref a_p1_community, .ref a_p1_outer, .ref a_p1_neighbors, .ref a_p1_lengths, v_p1_cores, .int p1_districts, v_p1_tolerance, v_p1_hasPlan, .ref a_p1_plan])), (a_p0, .inr (0, [.ref a_p0_codes, .ref a_p0_isPossible, .ref a_p0_sets, .ref a_p0_plan, .ref a_p0_best, .ref a_p0_tried, .int p0_size, v_p0_hasSets, v_p0_hasPlans])), (a_p0_sets, .inl (k 0, 4, .inl p0_sets)), (a_p0_isPossible, .inl (k 2, 512, .inl p0_isPossible)), (a_p0_codes, .inl (k 0, 7770, .inl p0_codes))] [(a_p1, .inr (8, [.int p1_units, .ref a_p1_population, .ref a_p1_area, .ref a_p1_community, .ref a_p1_outer, .ref a_p1_neighbors, .ref a_p1_lengths, v_p1_cores, .int p1_districts, v_p1_tolerance, v_p1_hasPlan, .ref a_p1_plan])), (a_p0, .inr (0, [.ref a_p0_codes, .ref a_p0_isPossible, .ref a_p0_sets, .ref a_p0_plan, .ref a_p0_best, .ref a_p0_tried, .int r.2.2, v_p0_hasSets, v_p0_hasPlans])), (a_p0_sets, .inl (k 0, 4, .inl r.2.1)), (a_p0_isPossible, .inl (k 2, 512, .inl p0_isPossible)), (a_p0_codes, .inl (k 0, 7770, .inl r.1))] s.heap.size) (List.toArray [.ref a_p0, .ref a_p1, .int x2, .int x3, .int x4]) s 0 0 A = Q
    clear hP hD hD0
    suffices K : ∀ (H : Heap) (locs : List Loc), HOK D A s.heap [(a_p1, .inr (8, [.int p1_units, .ref a_p1_population, .ref a_p1_area, .ref a_p1_community, .ref a_p1_outer, .ref a_p1_neighbors, .ref a_p1_lengths, v_p1_cores, .int p1_districts, v_p1_tolerance, v_p1_hasPlan, .ref a_p1_plan])), (a_p0, .inr (0, [.ref a_p0_codes, .ref a_p0_isPossible, .ref a_p0_sets, .ref a_p0_plan, .ref a_p0_best, .ref a_p0_tried, .int p0_size, v_p0_hasSets, v_p0_hasPlans])), (a_p0_sets, .inl (k 0, 4, .inl p0_sets)), (a_p0_isPossible, .inl (k 2, 512, .inl p0_isPossible)), (a_p0_codes, .inl (k 0, 7770, .inl p0_codes))] H locs → W p l e ({ frames := 1 + 2 * (dd + 1), cells := 0, slots := 0, locals := 64 + 64 * (dd + 1) } : Room) s m (List.toArray [.ref a_p0, .ref a_p1, .int x2, .int x3, .int x4]) below meth c H locs 0 0 Q (F0 m 0 ls []) from K s.heap [] hH
    intro H locs hH
    have L41 : ∀ (y41_5 : Int32) (n : Nat), ∀ (kf : (Nat → Int32) → (Nat → Int32) → Int32 → Option ((Nat → Int32) × (Nat → Int32) × Int32)) (y41_6 : Int32) (y41_p0_codes : Nat → Int32) (y41_p0_sets : Nat → Int32) (y41_p0_size : Int32), fX0_listFrom_L41 (fX0_listFrom dd) p0_isPossible p1_districts p1_units x2 x3 x4 y41_5 n kf y41_6 y41_p0_codes y41_p0_sets y41_p0_size = some r → (∀ (z41_p0_codes : Nat → Int32) (z41_p0_sets : Nat → Int32) (z41_p0_size : Int32) (H : Heap) (locs : List Loc) (ls : Array Slot), kf z41_p0_codes z41_p0_sets z41_p0_size = some r → HOK D A s.heap [(a_p1, .inr (8, [.int p1_units, .ref a_p1_population, .ref a_p1_area, .ref a_p1_community, .ref a_p1_outer, .ref a_p1_neighbors, .ref a_p1_lengths, v_p1_cores, .int p1_districts, v_p1_tolerance, v_p1_hasPlan, .ref a_p1_plan])), (a_p0, .inr (0, [.ref a_p0_codes, .ref a_p0_isPossible, .ref a_p0_sets, .ref a_p0_plan, .ref a_p0_best, .ref a_p0_tried, .int z41_p0_size, v_p0_hasSets, v_p0_hasPlans])), (a_p0_sets, .inl (k 0, 4, .inl z41_p0_sets)), (a_p0_isPossible, .inl (k 2, 512, .inl p0_isPossible)), (a_p0_codes, .inl (k 0, 7770, .inl z41_p0_codes))] H locs → lv_has ls 7 [] → W p l e ({ frames := 1 + 2 * (dd + 1), cells := 0, slots := 0, locals := 64 + 64 * (dd + 1) } : Room) s m (List.toArray [.ref a_p0, .ref a_p1, .int x2, .int x3, .int x4]) below meth c H locs 0 0 Q (F0 m 107 ls [])) → ∀ (H : Heap) (locs : List Loc) (ls : Array Slot), HOK D A s.heap [(a_p1, .inr (8, [.int p1_units, .ref a_p1_population, .ref a_p1_area, .ref a_p1_community, .ref a_p1_outer, .ref a_p1_neighbors, .ref a_p1_lengths, v_p1_cores, .int p1_districts, v_p1_tolerance, v_p1_hasPlan, .ref a_p1_plan])), (a_p0, .inr (0, [.ref a_p0_codes, .ref a_p0_isPossible, .ref a_p0_sets, .ref a_p0_plan, .ref a_p0_best, .ref a_p0_tried, .int y41_p0_size, v_p0_hasSets, v_p0_hasPlans])), (a_p0_sets, .inl (k 0, 4, .inl y41_p0_sets)), (a_p0_isPossible, .inl (k 2, 512, .inl p0_isPossible)), (a_p0_codes, .inl (k 0, 7770, .inl y41_p0_codes))] H locs → lv_has ls 7 [(0, .ref a_p0), (1, .ref a_p1), (2, .int x2), (3, .int x3), (4, .int x4), (5, .int y41_5), (6, .int y41_6)] → W p l e ({ frames := 1 + 2 * (dd + 1), cells := 0, slots := 0, locals := 64 + 64 * (dd + 1) } : Room) s m (List.toArray [.ref a_p0, .ref a_p1, .int x2, .int x3, .int x4]) below meth c H locs 0 0 Q (F0 m 41 ls []) := by
      intro y41_5 n
      induction n with
      | zero =>
        intro kf y41_6 y41_p0_codes y41_p0_sets y41_p0_size h
        exact absurd h (by rw [fX0_listFrom_L41]; exact fun q => by cases q)
      | succ n ih =>
        intro kf y41_6 y41_p0_codes y41_p0_sets y41_p0_size h kk H locs ls hH hl
        rw [fX0_listFrom_L41] at h
        refine lv_iload hx hb dX0_listFrom_41 (lv_at hl 6 rfl) ?_
        refine lv_iload hx hb dX0_listFrom_43 (lv_at hl 5 rfl) ?_
        refine lv_icmp_gt (tgt := 107) hx hb dX0_listFrom_45 (by decide) (fun c5 => ?_) (fun c5 => ?_)
        · replace h := dc_pos c5 h
          exact kk y41_p0_codes y41_p0_sets y41_p0_size H locs ls h hH (lv_sub hl [] rfl)
        · replace h := dc_neg c5 h
          refine lv_aload_n hx hb dX0_listFrom_48 rfl (lv_at hl 0 rfl) ?_
          refine gk_get (ci := 0) (C := RX0) (T := TX0) (N := 9) hx hb hts u_ws_X0 hown hK hH 1 rfl rfl 2 (by decide) u_fl_X0_19 rfl dX0_listFrom_49 ?_
          refine lv_iload hx hb dX0_listFrom_52 (lv_at hl 6 rfl) ?_
          refine lv_dup2_11 hx hb dX0_listFrom_54 rfl rfl ?_
          obtain ⟨g6, h⟩ := dc_need h
          refine gk_iald hx hb hK hH 2 rfl (dk_in g6) dX0_listFrom_55 ?_
          refine lv_iconst (v := 1) hx hb dX0_listFrom_56 (by decide) ?_
          refine lv_iload_n hx hb dX0_listFrom_57 rfl (lv_at hl 2 rfl) ?_
          refine lv_ishl hx hb dX0_listFrom_58 ?_
          refine lv_ior hx hb dX0_listFrom_59 ?_
          obtain ⟨g7, h⟩ := dc_need h
          refine gk_iast hx hb hK hH 2 rfl (dk_in g7) dX0_listFrom_60 [(a_p1, .inr (8, [.int p1_units, .ref a_p1_population, .ref a_p1_area, .ref a_p1_community, .ref a_p1_outer, .ref a_p1_neighbors, .ref a_p1_lengths, v_p1_cores, .int p1_districts, v_p1_tolerance, v_p1_hasPlan, .ref a_p1_plan])), (a_p0, .inr (0, [.ref a_p0_codes, .ref a_p0_isPossible, .ref a_p0_sets, .ref a_p0_plan, .ref a_p0_best, .ref a_p0_tried, .int y41_p0_size, v_p0_hasSets, v_p0_hasPlans])), (a_p0_sets, .inl (k 0, 4, .inl (upd y41_p0_sets y41_6.toNatClampNeg ((y41_p0_sets y41_6.toNatClampNeg) ||| ((1 : Int32) <<< (x2 &&& 31)))))), (a_p0_isPossible, .inl (k 2, 512, .inl p0_isPossible)), (a_p0_codes, .inl (k 0, 7770, .inl y41_p0_codes))] rfl (fun H locs hH => ?_)
          refine lv_aload_n hx hb dX0_listFrom_61 rfl (lv_at hl 0 rfl) ?_
          refine lv_aload_n hx hb dX0_listFrom_62 rfl (lv_at hl 1 rfl) ?_
          refine lv_iload_n hx hb dX0_listFrom_63 rfl (lv_at hl 2 rfl) ?_
          refine lv_iconst (v := 1) hx hb dX0_listFrom_64 (by decide) ?_
          refine lv_iadd hx hb dX0_listFrom_65 ?_
          refine lv_iload_n hx hb dX0_listFrom_66 rfl (lv_at hl 3 rfl) ?_
          refine lv_iload hx hb dX0_listFrom_67 (lv_at hl 6 rfl) ?_
          refine lv_iconst (v := 1) hx hb dX0_listFrom_69 (by decide) ?_
          refine lv_iadd hx hb dX0_listFrom_70 ?_
          refine va_mmax hx hb (hml.trans hl.1.symm) hown (hts _ u_ml_X0_125) (hts _ u_st_J9_max_7cf53) (hts _ u_in_J9) (hts _ u_co_Math_max) (by first | exact Nat.le_of_ble_eq_true rfl | (dsimp only [headSpec, List.map, List.sum_cons]; omega)) (by first | exact Nat.le_of_ble_eq_true rfl | (dsimp only [headSpec, List.map, List.sum_cons]; omega)) (by first | exact Nat.le_of_ble_eq_true rfl | (dsimp only [headSpec, List.map, List.sum_cons]; omega)) (by first | exact Nat.le_of_ble_eq_true rfl | (dsimp only [headSpec, List.map, List.sum_cons]; omega)) dX0_listFrom_71 ?_
          refine lv_iload hx hb dX0_listFrom_74 (lv_at hl 4 rfl) ?_
          refine lv_iload hx hb dX0_listFrom_76 (lv_at hl 6 rfl) ?_
          refine lv_iconst (v := 2) hx hb dX0_listFrom_78 (by decide) ?_
          refine lv_iload_n hx hb dX0_listFrom_79 rfl (lv_at hl 2 rfl) ?_
          refine lv_imul hx hb dX0_listFrom_80 ?_
          refine lv_ishl hx hb dX0_listFrom_81 ?_
          refine lv_ior hx hb dX0_listFrom_82 ?_
          obtain ⟨q8, hqq8, h⟩ := dc_bind h
          refine gc_Sv (ws' := [(a_p1, .inr (8, [.int p1_units, .ref a_p1_population, .ref a_p1_area, .ref a_p1_community, .ref a_p1_outer, .ref a_p1_neighbors, .ref a_p1_lengths, v_p1_cores, .int p1_districts, v_p1_tolerance, v_p1_hasPlan, .ref a_p1_plan])), (a_p0, .inr (0, [.ref a_p0_codes, .ref a_p0_isPossible, .ref a_p0_sets, .ref a_p0_plan, .ref a_p0_best, .ref a_p0_tried, .int q8.2.2, v_p0_hasSets, v_p0_hasPlans])), (a_p0_sets, .inl (k 0, 4, .inl q8.2.1)), (a_p0_isPossible, .inl (k 2, 512, .inl p0_isPossible)), (a_p0_codes, .inl (k 0, 7770, .inl q8.1))]) (As := [.ref a_p0, .ref a_p1, .int (x2 + (1 : Int32)), .int (if x3 < (y41_6 + (1 : Int32)) then (y41_6 + (1 : Int32)) else x3), .int (x4 ||| (y41_6 <<< (((2 : Int32) * x2) &&& 31)))]) (rest := []) (n := 5) hTs ⟨hx, hb, hml, hown, hts⟩ (IH D k H.size a_p0 a_p1 a_p1_population a_p1_area a_p1_community a_p1_outer a_p1_neighbors a_p1_lengths a_p1_plan a_p0_codes a_p0_isPossible a_p0_sets a_p0_plan a_p0_best a_p0_tried y41_p0_codes p0_isPossible (upd y41_p0_sets y41_6.toNatClampNeg ((y41_p0_sets y41_6.toNatClampNeg) ||| ((1 : Int32) <<< (x2 &&& 31)))) y41_p0_size p1_districts p1_units v_p0_hasPlans v_p0_hasSets v_p1_cores v_p1_hasPlan v_p1_tolerance (x2 + (1 : Int32)) (if x3 < (y41_6 + (1 : Int32)) then (y41_6 + (1 : Int32)) else x3) (x4 ||| (y41_6 <<< (((2 : Int32) * x2) &&& 31))) q8 hqq8) u_ml_X0_65 u_st_X0_listFrom u_in_X0 u_co_X0_listFrom hd_X0_listFrom ⟨by first | exact Nat.le_of_ble_eq_true rfl | (dsimp only [headSpec, List.map, List.sum_cons]; omega), by first | exact Nat.le_of_ble_eq_true rfl | (dsimp only [headSpec, List.map, List.sum_cons]; omega)⟩ ⟨rfl, rfl⟩ hK hH hA (cutM (isC := [0, 1, 2, 3, 4]) [some 0, some 1, some 2, some 3, some 4] 5 rfl rfl rfl rfl rfl rfl rfl) rfl rfl hl.1 (by first | exact Nat.le_of_ble_eq_true rfl | (dsimp only [headSpec, List.map, List.sum_cons]; omega)) dX0_listFrom_83 ⟨by first | exact Nat.le_of_ble_eq_true rfl | (dsimp only [headSpec, List.map, List.sum_cons]; omega), by first | exact Nat.le_of_ble_eq_true rfl | (dsimp only [headSpec, List.map, List.sum_cons]; omega)⟩ (fun H locs hH => ?_)
          refine lv_aload_n hx hb dX0_listFrom_86 rfl (lv_at hl 0 rfl) ?_
          refine gk_get (ci := 0) (C := RX0) (T := TX0) (N := 9) hx hb hts u_ws_X0 hown hK hH 1 rfl rfl 2 (by decide) u_fl_X0_19 rfl dX0_listFrom_87 ?_
          refine lv_iload hx hb dX0_listFrom_90 (lv_at hl 6 rfl) ?_
          refine lv_dup2_11 hx hb dX0_listFrom_92 rfl rfl ?_
          obtain ⟨g9, h⟩ := dc_need h
          refine gk_iald hx hb hK hH 2 rfl (dk_in g9) dX0_listFrom_93 ?_
          refine lv_iconst (v := 1) hx hb dX0_listFrom_94 (by decide) ?_
          refine lv_iload_n hx hb dX0_listFrom_95 rfl (lv_at hl 2 rfl) ?_
          refine lv_ishl hx hb dX0_listFrom_96 ?_
          refine lv_iconst (v := -1) hx hb dX0_listFrom_97 (by decide) ?_
          refine lv_ixor hx hb dX0_listFrom_98 ?_
          refine lv_iand hx hb dX0_listFrom_99 ?_
          obtain ⟨g10, h⟩ := dc_need h
          refine gk_iast hx hb hK hH 2 rfl (dk_in g10) dX0_listFrom_100 [(a_p1, .inr (8, [.int p1_units, .ref a_p1_population, .ref a_p1_area, .ref a_p1_community, .ref a_p1_outer, .ref a_p1_neighbors, .ref a_p1_lengths, v_p1_cores, .int p1_districts, v_p1_tolerance, v_p1_hasPlan, .ref a_p1_plan])), (a_p0, .inr (0, [.ref a_p0_codes, .ref a_p0_isPossible, .ref a_p0_sets, .ref a_p0_plan, .ref a_p0_best, .ref a_p0_tried, .int q8.2.2, v_p0_hasSets, v_p0_hasPlans])), (a_p0_sets, .inl (k 0, 4, .inl (upd q8.2.1 y41_6.toNatClampNeg ((q8.2.1 y41_6.toNatClampNeg) &&& (((1 : Int32) <<< (x2 &&& 31)) ^^^ (-1 : Int32)))))), (a_p0_isPossible, .inl (k 2, 512, .inl p0_isPossible)), (a_p0_codes, .inl (k 0, 7770, .inl q8.1))] rfl (fun H locs hH => ?_)
          refine lv_iinc (v := (y41_6 + (1 : Int32))) (lv' := [(6, .int (y41_6 + (1 : Int32))), (0, .ref a_p0), (1, .ref a_p1), (2, .int x2), (3, .int x3), (4, .int x4), (5, .int y41_5)]) hx hb dX0_listFrom_101 hl (k := 6) rfl rfl (by decide) rfl (fun ls hl => ?_)
          refine lv_goto (tgt := 41) hx hb dX0_listFrom_104 (by decide) ?_
          exact ih kf (y41_6 + (1 : Int32)) q8.1 (upd q8.2.1 y41_6.toNatClampNeg ((q8.2.1 y41_6.toNatClampNeg) &&& (((1 : Int32) <<< (x2 &&& 31)) ^^^ (-1 : Int32)))) q8.2.2 h kk H locs ls hH (lv_sub hl [1, 2, 3, 4, 5, 6, 0] rfl)
    rw [fX0_listFrom] at h
    refine lv_iload_n hx hb dX0_listFrom_0 rfl (lv_at hl 2 rfl) ?_
    refine lv_aload_n hx hb dX0_listFrom_1 rfl (lv_at hl 1 rfl) ?_
    refine gk_get (ci := 8) (C := RX9) (T := TX9) (N := 12) hx hb hts u_ws_X9 hown hK hH 0 rfl rfl 0 (by decide) u_fl_X0_50 rfl dX0_listFrom_2 ?_
    refine lv_icmp_ge (tgt := 14) hx hb dX0_listFrom_5 (by decide) (fun c1 => ?_) (fun c1 => ?_)
    · replace h := dc_pos c1 h
      refine lv_aload_n hx hb dX0_listFrom_14 rfl (lv_at hl 0 rfl) ?_
      refine lv_aload_n hx hb dX0_listFrom_15 rfl (lv_at hl 1 rfl) ?_
      refine gk_get (ci := 8) (C := RX9) (T := TX9) (N := 12) hx hb hts u_ws_X9 hown hK hH 0 rfl rfl 8 (by decide) u_fl_X0_73 rfl dX0_listFrom_16 ?_
      refine lv_iload_n hx hb dX0_listFrom_19 rfl (lv_at hl 3 rfl) ?_
      refine lv_iload hx hb dX0_listFrom_20 (lv_at hl 4 rfl) ?_
      obtain ⟨q2, hqq2, h⟩ := dc_bind h
      refine gc_Vv (ws' := [(a_p1, .inr (8, [.int p1_units, .ref a_p1_population, .ref a_p1_area, .ref a_p1_community, .ref a_p1_outer, .ref a_p1_neighbors, .ref a_p1_lengths, v_p1_cores, .int p1_districts, v_p1_tolerance, v_p1_hasPlan, .ref a_p1_plan])), (a_p0, .inr (0, [.ref a_p0_codes, .ref a_p0_isPossible, .ref a_p0_sets, .ref a_p0_plan, .ref a_p0_best, .ref a_p0_tried, .int q2.2, v_p0_hasSets, v_p0_hasPlans])), (a_p0_sets, .inl (k 0, 4, .inl p0_sets)), (a_p0_isPossible, .inl (k 2, 512, .inl p0_isPossible)), (a_p0_codes, .inl (k 0, 7770, .inl q2.1))]) (As := [.int p1_districts, .int x3, .int x4]) (rest := []) (n := 3) (ci := 0) (cq := (RX0, TX0, 9)) hTs ⟨hx, hb, hml, hown, hts⟩ (mX0_keepIfLawful l Ts hTs D k H.size a_p0 a_p0_codes a_p0_isPossible a_p0_sets a_p0_plan a_p0_best a_p0_tried p0_codes p0_isPossible p0_sets p0_size v_p0_hasPlans v_p0_hasSets p1_districts x3 x4 q2 hqq2) u_ml_X0_121 u_im_X0_keepIfLawful u_se_X0_keepIfLawful u_in_X0 u_co_X0_keepIfLawful hd_X0_keepIfLawful ⟨by first | exact Nat.le_of_ble_eq_true rfl | (dsimp only [headSpec, List.map, List.sum_cons]; omega), by first | exact Nat.le_of_ble_eq_true rfl | (dsimp only [headSpec, List.map, List.sum_cons]; omega)⟩ ⟨rfl, rfl⟩ hK hH hA (cutM (isC := [1, 2, 3, 4]) [none, some 0, some 1, some 2, some 3] 5 rfl rfl rfl rfl rfl rfl rfl) rfl rfl rfl rfl hl.1 (by first | exact Nat.le_of_ble_eq_true rfl | (dsimp only [headSpec, List.map, List.sum_cons]; omega)) dX0_listFrom_22 ⟨by first | exact Nat.le_of_ble_eq_true rfl | (dsimp only [headSpec, List.map, List.sum_cons]; omega), by first | exact Nat.le_of_ble_eq_true rfl | (dsimp only [headSpec, List.map, List.sum_cons]; omega)⟩ (fun H locs hH => ?_)
      have h := Option.some.inj h
      subst h
      exact ge_v hx hb hr hlocks hQ hK hH hAe dX0_listFrom_25
    · replace h := dc_neg c1 h
      refine lv_iload_n hx hb dX0_listFrom_8 rfl (lv_at hl 2 rfl) ?_
      refine lv_bipush (v := 9) hx hb dX0_listFrom_9 (by decide) ?_
      refine lv_icmp_lt (tgt := 26) hx hb dX0_listFrom_11 (by decide) (fun c3 => ?_) (fun c3 => ?_)
      · replace h := dc_pos c3 h
        refine lv_iload_n hx hb dX0_listFrom_26 rfl (lv_at hl 3 rfl) ?_
        refine lv_aload_n hx hb dX0_listFrom_27 rfl (lv_at hl 1 rfl) ?_
        refine gk_get (ci := 8) (C := RX9) (T := TX9) (N := 12) hx hb hts u_ws_X9 hown hK hH 0 rfl rfl 8 (by decide) u_fl_X0_73 rfl dX0_listFrom_28 ?_
        refine lv_iconst (v := 1) hx hb dX0_listFrom_31 (by decide) ?_
        refine lv_isub hx hb dX0_listFrom_32 ?_
        refine va_mmin hx hb (hml.trans hl.1.symm) hown (hts _ u_ml_X0_105) (hts _ u_st_J9_min_7cf53) (hts _ u_in_J9) (hts _ u_co_Math_min) (by first | exact Nat.le_of_ble_eq_true rfl | (dsimp only [headSpec, List.map, List.sum_cons]; omega)) (by first | exact Nat.le_of_ble_eq_true rfl | (dsimp only [headSpec, List.map, List.sum_cons]; omega)) (by first | exact Nat.le_of_ble_eq_true rfl | (dsimp only [headSpec, List.map, List.sum_cons]; omega)) (by first | exact Nat.le_of_ble_eq_true rfl | (dsimp only [headSpec, List.map, List.sum_cons]; omega)) dX0_listFrom_33 ?_
        refine lv_topi (fun n4 en4 => ?_)
        replace h := dc_at en4 h
        refine lv_istore (lv' := [(5, .int n4), (0, .ref a_p0), (1, .ref a_p1), (2, .int x2), (3, .int x3), (4, .int x4)]) hx hb dX0_listFrom_36 hl (by decide) rfl (fun ls hl => ?_)
        refine lv_iconst (v := 0) hx hb dX0_listFrom_38 (by decide) ?_
        refine lv_istore (lv' := [(6, .int (0 : Int32)), (5, .int n4), (0, .ref a_p0), (1, .ref a_p1), (2, .int x2), (3, .int x3), (4, .int x4)]) hx hb dX0_listFrom_39 hl (by decide) rfl (fun ls hl => ?_)
        refine L41 n4 _ _ (0 : Int32) p0_codes p0_sets p0_size h (fun z41_p0_codes z41_p0_sets z41_p0_size H locs ls h hH hl => ?_) H locs ls hH (lv_sub hl [2, 3, 4, 5, 6, 1, 0] rfl)
        have h := Option.some.inj h
        subst h
        exact ge_v hx hb hr hlocks hQ hK hH hAe dX0_listFrom_107
      · replace h := dc_neg c3 h
        refine lv_aload_n hx hb dX0_listFrom_14 rfl (lv_at hl 0 rfl) ?_
        refine lv_aload_n hx hb dX0_listFrom_15 rfl (lv_at hl 1 rfl) ?_
        refine gk_get (ci := 8) (C := RX9) (T := TX9) (N := 12) hx hb hts u_ws_X9 hown hK hH 0 rfl rfl 8 (by decide) u_fl_X0_73 rfl dX0_listFrom_16 ?_
        refine lv_iload_n hx hb dX0_listFrom_19 rfl (lv_at hl 3 rfl) ?_
        refine lv_iload hx hb dX0_listFrom_20 (lv_at hl 4 rfl) ?_
        obtain ⟨q11, hqq11, h⟩ := dc_bind h
        refine gc_Vv (ws' := [(a_p1, .inr (8, [.int p1_units, .ref a_p1_population, .ref a_p1_area, .ref a_p1_community, .ref a_p1_outer, .ref a_p1_neighbors, .ref a_p1_lengths, v_p1_cores, .int p1_districts, v_p1_tolerance, v_p1_hasPlan, .ref a_p1_plan])), (a_p0, .inr (0, [.ref a_p0_codes, .ref a_p0_isPossible, .ref a_p0_sets, .ref a_p0_plan, .ref a_p0_best, .ref a_p0_tried, .int q11.2, v_p0_hasSets, v_p0_hasPlans])), (a_p0_sets, .inl (k 0, 4, .inl p0_sets)), (a_p0_isPossible, .inl (k 2, 512, .inl p0_isPossible)), (a_p0_codes, .inl (k 0, 7770, .inl q11.1))]) (As := [.int p1_districts, .int x3, .int x4]) (rest := []) (n := 3) (ci := 0) (cq := (RX0, TX0, 9)) hTs ⟨hx, hb, hml, hown, hts⟩ (mX0_keepIfLawful l Ts hTs D k H.size a_p0 a_p0_codes a_p0_isPossible a_p0_sets a_p0_plan a_p0_best a_p0_tried p0_codes p0_isPossible p0_sets p0_size v_p0_hasPlans v_p0_hasSets p1_districts x3 x4 q11 hqq11) u_ml_X0_121 u_im_X0_keepIfLawful u_se_X0_keepIfLawful u_in_X0 u_co_X0_keepIfLawful hd_X0_keepIfLawful ⟨by first | exact Nat.le_of_ble_eq_true rfl | (dsimp only [headSpec, List.map, List.sum_cons]; omega), by first | exact Nat.le_of_ble_eq_true rfl | (dsimp only [headSpec, List.map, List.sum_cons]; omega)⟩ ⟨rfl, rfl⟩ hK hH hA (cutM (isC := [1, 2, 3, 4]) [none, some 0, some 1, some 2, some 3] 5 rfl rfl rfl rfl rfl rfl rfl) rfl rfl rfl rfl hl.1 (by first | exact Nat.le_of_ble_eq_true rfl | (dsimp only [headSpec, List.map, List.sum_cons]; omega)) dX0_listFrom_22 ⟨by first | exact Nat.le_of_ble_eq_true rfl | (dsimp only [headSpec, List.map, List.sum_cons]; omega), by first | exact Nat.le_of_ble_eq_true rfl | (dsimp only [headSpec, List.map, List.sum_cons]; omega)⟩ (fun H locs hH => ?_)
        have h := Option.some.inj h
        subst h
        exact ge_v hx hb hr hlocks hQ hK hH hAe dX0_listFrom_25
