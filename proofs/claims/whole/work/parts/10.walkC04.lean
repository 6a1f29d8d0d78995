theorem hd_X4_splits : yX4_splits.cls = RX4 ∧ yX4_splits.cls ≠ "java/lang/invoke/MethodHandle" ∧ yX4_splits.cls ≠ "java/lang/invoke/VarHandle" ∧ (parseMethodDescriptor yX4_splits.desc).map (fun d => d.parameters.length) = some 1 := by decide +kernel
set_option maxHeartbeats 4000000 in
set_option maxRecDepth 100000 in
theorem mX4_splits (l : Launch) (Ts : List Cond) (hTs : ∀ w, w ∈ Ts ↔ w ∈ uT) (D : va_G) (k : Nat → ClassId) (sz : Nat) (a_t : Nat) (a_t_places : Nat) (a_t_sets : Nat) (t_sets : Nat → Int32) (x1 : Int32) (r : Int32) (h : fX4_splits t_sets x1 = some r) : Met l yX4_splits (Cond.code yX4_splits cX4_splits 4 (some .boolean) :: Ts) ({ frames := 0, cells := 0, slots := 0, locals := 0 } : Room) (preM D k [.ref a_t, .int x1] [(a_t, .inr (4, [.ref a_t_places, .ref a_t_sets])), (a_t_sets, .inl (k 0, 4, .inl t_sets))] sz) (postI D k r [(a_t, .inr (4, [.ref a_t_places, .ref a_t_sets])), (a_t_sets, .inl (k 0, 4, .inl t_sets))] [(a_t, .inr (4, [.ref a_t_places, .ref a_t_sets])), (a_t_sets, .inl (k 0, 4, .inl t_sets))] sz) 0 0 (va_A [(a_t, .inr (4, [.ref a_t_places, .ref a_t_sets])), (a_t_sets, .inl (k 0, 4, .inl t_sets))] sz) := by
  refine Met.ofW (cc := cX4_splits) (maxL := 4) (ret := (some .boolean)) (by decide) rfl ?_
  intro p e s m args below meth c s₁ B hml hv
  obtain ⟨rfl, hsz, hP, hK, hD0⟩ := hv
  have hx := B.exec
  have hb := B.bytes
  have hr := B.returns
  have hts0 := atoms_spec (ws := (Cond.code yX4_splits cX4_splits 4 (some .boolean) :: Ts)) B.pre
  have hts : ∀ w ∈ uT, w.before _ s = true := fun w h => hts0 w (List.mem_cons_of_mem _ ((hTs w).mpr h))
  clear hts0
  have hown : s.vm.findClass RX4 = some m.cls := findClass_of_methodNamed B.named
  have hlocks := B.notSynchronized
  subst hsz
  have hD := hD0.self (sz := s.heap.size)
  generalize hAe : va_A [(a_t, .inr (4, [.ref a_t_places, .ref a_t_sets])), (a_t_sets, .inl (k 0, 4, .inl t_sets))] s.heap.size = A at hD ⊢
  have hA : ∀ q : Nat, s.heap.size ≤ q → A q := fun q h => by rw [← hAe]; exact Or.inr h
  have hH : HOK D A s.heap [(a_t, .inr (4, [.ref a_t_places, .ref a_t_sets])), (a_t_sets, .inl (k 0, 4, .inl t_sets))] s.heap [] := ⟨hP, hD, va_S.rf⟩
  have hl := lv_entry ([.ref a_t, .int x1]) (n := 4) (Nat.le_of_ble_eq_true rfl)
  rw [lg_entry_eq]
  generalize (lg_sl ([.ref a_t, .int x1]) ++ List.replicate (4 - (lg_sl ([.ref a_t, .int x1])).length) Slot.unset).toArray = ls at hl ⊢
  have hl : lv_has ls 4 [(0, .ref a_t), (1, .int x1)] := hl
  generalize hQ : MQ below (postI D k r [(a_t, .inr (4, [.ref a_t_places, .ref a_t_sets])), (a_t_sets, .inl (k 0, 4, .inl t_sets))] [(a_t, .inr (4, [.ref a_t_places, .ref a_t_sets])), (a_t_sets, .inl (k 0, 4, .inl t_sets))] s.heap.size) (List.toArray [.ref a_t, .int x1]) s 0 0 A = Q
  clear hP hD hD0
  suffices K : ∀ (H : Heap) (locs : List Loc), HOK D A s.heap [(a_t, .inr (4, [.ref a_t_places, .ref a_t_sets])), (a_t_sets, .inl (k 0, 4, .inl t_sets))] H locs → W p l e ({ frames := 0, cells := 0, slots := 0, locals := 0 } : Room) s m (List.toArray [.ref a_t, .int x1]) below meth c H locs 0 0 Q (F0 m 0 ls []) from K s.heap [] hH
  intro H locs hH
  have L2 : ∀ (n : Nat), ∀ (kf : Option (Int32)) (y2_2 : Int32), fX4_splits_L2 t_sets x1 n kf y2_2 = some r → (∀ (H : Heap) (locs : List Loc) (ls : Array Slot), kf = some r → HOK D A s.heap [(a_t, .inr (4, [.ref a_t_places, .ref a_t_sets])), (a_t_sets, .inl (k 0, 4, .inl t_sets))] H locs → lv_has ls 4 [] → W p l e ({ frames := 0, cells := 0, slots := 0, locals := 0 } : Room) s m (List.toArray [.ref a_t, .int x1]) below meth c H locs 0 0 Q (F0 m 33 ls [])) → ∀ (H : Heap) (locs : List Loc) (ls : Array Slot), HOK D A s.heap [(a_t, .inr (4, [.ref a_t_places, .ref a_t_sets])), (a_t_sets, .inl (k 0, 4, .inl t_sets))] H locs → lv_has ls 4 [(0, .ref a_t), (1, .int x1), (2, .int y2_2)] → W p l e ({ frames := 0, cells := 0, slots := 0, locals := 0 } : Room) s m (List.toArray [.ref a_t, .int x1]) below meth c H locs 0 0 Q (F0 m 2 ls []) := by
    intro n
    induction n with
    | zero =>
      intro kf y2_2 h
      exact absurd h (by rw [fX4_splits_L2]; exact fun q => by cases q)
    | succ n ih =>
      intro kf y2_2 h kk H locs ls hH hl
      rw [fX4_splits_L2] at h
      refine lv_iload_n hx hb dX4_splits_2 rfl (lv_at hl 2 rfl) ?_
      refine lv_iconst (v := 4) hx hb dX4_splits_3 (by decide) ?_
      refine lv_icmp_ge (tgt := 33) hx hb dX4_splits_4 (by decide) (fun c1 => ?_) (fun c1 => ?_)
      · replace h := dc_pos c1 h
        exact kk  H locs ls h hH (lv_sub hl [] rfl)
      · replace h := dc_neg c1 h
        refine lv_aload_n hx hb dX4_splits_7 rfl (lv_at hl 0 rfl) ?_
        refine gk_get (ci := 4) (C := RX4) (T := TX4) (N := 2) hx hb hts u_ws_X4 hown hK hH 0 rfl rfl 1 (by decide) u_fl_X4_15 rfl dX4_splits_8 ?_
        refine lv_iload_n hx hb dX4_splits_11 rfl (lv_at hl 2 rfl) ?_
        obtain ⟨g2, h⟩ := dc_need h
        refine gk_iald hx hb hK hH 1 rfl (dk_in g2) dX4_splits_12 ?_
        refine lv_iload_n hx hb dX4_splits_13 rfl (lv_at hl 1 rfl) ?_
        refine lv_iand hx hb dX4_splits_14 ?_
        refine lv_istore_n (lv' := [(3, .int ((t_sets y2_2.toNatClampNeg) &&& x1)), (0, .ref a_t), (1, .int x1), (2, .int y2_2)]) hx hb dX4_splits_15 rfl hl (by decide) rfl (fun ls hl => ?_)
        refine lv_iload_n hx hb dX4_splits_16 rfl (lv_at hl 0 rfl) ?_
        refine lv_if_eq (tgt := 27) hx hb dX4_splits_17 (by decide) (fun c3 => ?_) (fun c3 => ?_)
        · replace h := dc_pos c3 h
          refine lv_iinc (v := (y2_2 + (1 : Int32))) (lv' := [(2, .int (y2_2 + (1 : Int32))), (3, .int ((t_sets y2_2.toNatClampNeg) &&& x1)), (0, .ref a_t), (1, .int x1)]) hx hb dX4_splits_27 hl (k := 3) rfl rfl (by decide) rfl (fun ls hl => ?_)
          refine lv_goto (tgt := 2) hx hb dX4_splits_30 (by decide) ?_
          exact ih kf (y2_2 + (1 : Int32)) h kk H locs ls hH (lv_sub hl [2, 3, 0] rfl)
        · replace h := dc_neg c3 h
          refine lv_iload_n hx hb dX4_splits_20 rfl (lv_at hl 0 rfl) ?_
          refine lv_iload_n hx hb dX4_splits_21 rfl (lv_at hl 2 rfl) ?_
          refine lv_icmp_eq (tgt := 27) hx hb dX4_splits_22 (by decide) (fun c4 => ?_) (fun c4 => ?_)
          · replace h := dc_pos c4 h
            refine lv_iinc (v := (y2_2 + (1 : Int32))) (lv' := [(2, .int (y2_2 + (1 : Int32))), (3, .int ((t_sets y2_2.toNatClampNeg) &&& x1)), (0, .ref a_t), (1, .int x1)]) hx hb dX4_splits_27 hl (k := 3) rfl rfl (by decide) rfl (fun ls hl => ?_)
            refine lv_goto (tgt := 2) hx hb dX4_splits_30 (by decide) ?_
            exact ih kf (y2_2 + (1 : Int32)) h kk H locs ls hH (lv_sub hl [2, 3, 0] rfl)
          · replace h := dc_neg c4 h
            refine lv_iconst (v := 1) hx hb dX4_splits_25 (by decide) ?_
            have h := Option.some.inj h
            subst h
            exact ge_z hx hb hr rfl hlocks hQ hK hH hAe rfl dX4_splits_26
  rw [fX4_splits] at h
  refine lv_iconst (v := 0) hx hb dX4_splits_0 (by decide) ?_
  refine lv_istore_n (lv' := [(2, .int (0 : Int32)), (0, .ref a_t), (1, .int x1)]) hx hb dX4_splits_1 rfl hl (by decide) rfl (fun ls hl => ?_)
  refine L2 _ _ (0 : Int32) h (fun  H locs ls h hH hl => ?_) H locs ls hH (lv_sub hl [1, 2, 0] rfl)
  refine lv_iconst (v := 0) hx hb dX4_splits_33 (by decide) ?_
  have h := Option.some.inj h
  subst h
  exact ge_z hx hb hr rfl hlocks hQ hK hH hAe rfl dX4_splits_34
theorem hd_X6_countSplitCommunities : yX6_countSplitCommunities.cls ≠ "java/lang/invoke/MethodHandle" ∧ yX6_countSplitCommunities.cls ≠ "java/lang/invoke/VarHandle" ∧ (parseMethodDescriptor yX6_countSplitCommunities.desc).map (fun d => d.parameters.length) = some 2 := by decide +kernel
set_option maxHeartbeats 4000000 in
set_option maxRecDepth 100000 in
theorem mX6_countSplitCommunities (l : Launch) (Ts : List Cond) (hTs : ∀ w, w ∈ Ts ↔ w ∈ uT) (D : va_G) (k : Nat → ClassId) (sz : Nat) (a_p0 : Nat) (a_p1 : Nat) (a_p0_population : Nat) (a_p0_area : Nat) (a_p0_community : Nat) (a_p0_outer : Nat) (a_p0_neighbors : Nat) (a_p0_lengths : Nat) (a_p0_plan : Nat) (a_p1_places : Nat) (a_p1_sets : Nat) (p0_community : Nat → Int32) (p0_units : Int32) (p1_sets : Nat → Int32) (v_p0_cores : Value) (v_p0_districts : Value) (v_p0_hasPlan : Value) (v_p0_tolerance : Value) (r : Int32) (h : fX6_countSplitCommunities p0_community p0_units p1_sets = some r) : Met l yX6_countSplitCommunities (Cond.code yX6_countSplitCommunities cX6_countSplitCommunities 4 (some .int) :: Ts) ({ frames := 1, cells := 0, slots := 0, locals := 23 } : Room) (preM D k [.ref a_p0, .ref a_p1] [(a_p0, .inr (8, [.int p0_units, .ref a_p0_population, .ref a_p0_area, .ref a_p0_community, .ref a_p0_outer, .ref a_p0_neighbors, .ref a_p0_lengths, v_p0_cores, v_p0_districts, v_p0_tolerance, v_p0_hasPlan, .ref a_p0_plan])), (a_p0_community, .inl (k 0, 12, .inl p0_community)), (a_p1, .inr (4, [.ref a_p1_places, .ref a_p1_sets])), (a_p1_sets, .inl (k 0, 4, .inl p1_sets))] sz) (postI D k r [(a_p0, .inr (8, [.int p0_units, .ref a_p0_population, .ref a_p0_area, .ref a_p0_community, .ref a_p0_outer, .ref a_p0_neighbors, .ref a_p0_lengths, v_p0_cores, v_p0_districts, v_p0_tolerance, v_p0_hasPlan, .ref a_p0_plan])), (a_p0_community, .inl (k 0, 12, .inl p0_community)), (a_p1, .inr (4, [.ref a_p1_places, .ref a_p1_sets])), (a_p1_sets, .inl (k 0, 4, .inl p1_sets))] [(a_p0, .inr (8, [.int p0_units, .ref a_p0_population, .ref a_p0_area, .ref a_p0_community, .ref a_p0_outer, .ref a_p0_neighbors, .ref a_p0_lengths, v_p0_cores, v_p0_districts, v_p0_tolerance, v_p0_hasPlan, .ref a_p0_plan])), (a_p0_community, .inl (k 0, 12, .inl p0_community)), (a_p1, .inr (4, [.ref a_p1_places, .ref a_p1_sets])), (a_p1_sets, .inl (k 0, 4, .inl p1_sets))] sz) 0 0 (va_A [(a_p0, .inr (8, [.int p0_units, .ref a_p0_population, .ref a_p0_area, .ref a_p0_community, .ref a_p0_outer, .ref a_p0_neighbors, .ref a_p0_lengths, v_p0_cores, v_p0_districts, v_p0_tolerance, v_p0_hasPlan, .ref a_p0_plan])), (a_p0_community, .inl (k 0, 12, .inl p0_community)), (a_p1, .inr (4, [.ref a_p1_places, .ref a_p1_sets])), (a_p1_sets, .inl (k 0, 4, .inl p1_sets))] sz) := by
  refine Met.ofW (cc := cX6_countSplitCommunities) (maxL := 4) (ret := (some .int)) (by decide) rfl ?_
  intro p e s m args below meth c s₁ B hml hv
  obtain ⟨rfl, hsz, hP, hK, hD0⟩ := hv
  have hx := B.exec
  have hb := B.bytes
  have hr := B.returns
  have hts0 := atoms_spec (ws := (Cond.code yX6_countSplitCommunities cX6_countSplitCommunities 4 (some .int) :: Ts)) B.pre
  have hts : ∀ w ∈ uT, w.before _ s = true := fun w h => hts0 w (List.mem_cons_of_mem _ ((hTs w).mpr h))
  clear hts0
  have hown : s.vm.findClass RX6 = some m.cls := findClass_of_methodNamed B.named
  have hlocks := B.notSynchronized
  subst hsz
  have hD := hD0.self (sz := s.heap.size)
  generalize hAe : va_A [(a_p0, .inr (8, [.int p0_units, .ref a_p0_population, .ref a_p0_area, .ref a_p0_community, .ref a_p0_outer, .ref a_p0_neighbors, .ref a_p0_lengths, v_p0_cores, v_p0_districts, v_p0_tolerance, v_p0_hasPlan, .ref a_p0_plan])), (a_p0_community, .inl (k 0, 12, .inl p0_community)), (a_p1, .inr (4, [.ref a_p1_places, .ref a_p1_sets])), (a_p1_sets, .inl (k 0, 4, .inl p1_sets))] s.heap.size = A at hD ⊢
  have hA : ∀ q : Nat, s.heap.size ≤ q → A q := fun q h => by rw [← hAe]; exact Or.inr h
  have hH : HOK D A s.heap [(a_p0, .inr (8, [.int p0_units, .ref a_p0_population, .ref a_p0_area, .ref a_p0_community, .ref a_p0_outer, .ref a_p0_neighbors, .ref a_p0_lengths, v_p0_cores, v_p0_districts, v_p0_tolerance, v_p0_hasPlan, .ref a_p0_plan])), (a_p0_community, .inl (k 0, 12, .inl p0_community)), (a_p1, .inr (4, [.ref a_p1_places, .ref a_p1_sets])), (a_p1_sets, .inl (k 0, 4, .inl p1_sets))] s.heap [] := ⟨hP, hD, va_S.rf⟩
  have hl := lv_entry ([.ref a_p0, .ref a_p1]) (n := 4) (Nat.le_of_ble_eq_true rfl)
  rw [lg_entry_eq]
  generalize (lg_sl ([.ref a_p0, .ref a_p1]) ++ List.replicate (4 - (lg_sl ([.ref a_p0, .ref a_p1])).length) Slot.unset).toArray = ls at hl ⊢
  have hl : lv_has ls 4 [(0, .ref a_p0), (1, .ref a_p1)] := hl
  generalize hQ : MQ below (postI D k r [(a_p0, .inr (8, [.int p0_units, .ref a_p0_population, .ref a_p0_area, .ref a_p0_community, .ref a_p0_outer, .ref a_p0_neighbors, .ref a_p0_lengths, v_p0_cores, v_p0_districts, v_p0_tolerance, v_p0_hasPlan, .ref a_p0_plan])), (a_p0_community, .inl (k 0, 12, .inl p0_community)), (a_p1, .inr (4, [.ref a_p1_places, .ref a_p1_sets])), (a_p1_sets, .inl (k 0, 4, .inl p1_sets))] [(a_p0, .inr (8, [.int p0_units, .ref a_p0_population, .ref a_p0_area, .ref a_p0_community, .ref a_p0_outer, .ref a_p0_neighbors, .ref a_p0_lengths, v_p0_cores, v_p0_districts, v_p0_tolerance, v_p0_hasPlan, .ref a_p0_plan])), (a_p0_community, .inl (k 0, 12, .inl p0_community)), (a_p1, .inr (4, [.ref a_p1_places, .ref a_p1_sets])), (a_p1_sets, .inl (k 0, 4, .inl p1_sets))] s.heap.size) (List.toArray [.ref a_p0, .ref a_p1]) s 0 0 A = Q
  clear hP hD hD0
  suffices K : ∀ (H : Heap) (locs : List Loc), HOK D A s.heap [(a_p0, .inr (8, [.int p0_units, .ref a_p0_population, .ref a_p0_area, .ref a_p0_community, .ref a_p0_outer, .ref a_p0_neighbors, .ref a_p0_lengths, v_p0_cores, v_p0_districts, v_p0_tolerance, v_p0_hasPlan, .ref a_p0_plan])), (a_p0_community, .inl (k 0, 12, .inl p0_community)), (a_p1, .inr (4, [.ref a_p1_places, .ref a_p1_sets])), (a_p1_sets, .inl (k 0, 4, .inl p1_sets))] H locs → W p l e ({ frames := 1, cells := 0, slots := 0, locals := 23 } : Room) s m (List.toArray [.ref a_p0, .ref a_p1]) below meth c H locs 0 0 Q (F0 m 0 ls []) from K s.heap [] hH
  intro H locs hH
  have L4 : ∀ (n : Nat), ∀ (kf : Int32 → Option (Int32)) (y4_2 : Int32) (y4_3 : Int32), fX6_countSplitCommunities_L4 p0_community p0_units p1_sets n kf y4_2 y4_3 = some r → (∀ (z4_2 : Int32) (H : Heap) (locs : List Loc) (ls : Array Slot), kf z4_2 = some r → HOK D A s.heap [(a_p0, .inr (8, [.int p0_units, .ref a_p0_population, .ref a_p0_area, .ref a_p0_community, .ref a_p0_outer, .ref a_p0_neighbors, .ref a_p0_lengths, v_p0_cores, v_p0_districts, v_p0_tolerance, v_p0_hasPlan, .ref a_p0_plan])), (a_p0_community, .inl (k 0, 12, .inl p0_community)), (a_p1, .inr (4, [.ref a_p1_places, .ref a_p1_sets])), (a_p1_sets, .inl (k 0, 4, .inl p1_sets))] H locs → lv_has ls 4 [(2, .int z4_2)] → W p l e ({ frames := 1, cells := 0, slots := 0, locals := 23 } : Room) s m (List.toArray [.ref a_p0, .ref a_p1]) below meth c H locs 0 0 Q (F0 m 30 ls [])) → ∀ (H : Heap) (locs : List Loc) (ls : Array Slot), HOK D A s.heap [(a_p0, .inr (8, [.int p0_units, .ref a_p0_population, .ref a_p0_area, .ref a_p0_community, .ref a_p0_outer, .ref a_p0_neighbors, .ref a_p0_lengths, v_p0_cores, v_p0_districts, v_p0_tolerance, v_p0_hasPlan, .ref a_p0_plan])), (a_p0_community, .inl (k 0, 12, .inl p0_community)), (a_p1, .inr (4, [.ref a_p1_places, .ref a_p1_sets])), (a_p1_sets, .inl (k 0, 4, .inl p1_sets))] H locs → lv_has ls 4 [(0, .ref a_p0), (1, .ref a_p1), (2, .int y4_2), (3, .int y4_3)] → W p l e ({ frames := 1, cells := 0, slots := 0, locals := 23 } : Room) s m (List.toArray [.ref a_p0, .ref a_p1]) below meth c H locs 0 0 Q (F0 m 4 ls []) := by
    intro n
    induction n with
    | zero =>
      intro kf y4_2 y4_3 h
      exact absurd h (by rw [fX6_countSplitCommunities_L4]; exact fun q => by cases q)
    | succ n ih =>
      intro kf y4_2 y4_3 h kk H locs ls hH hl
      rw [fX6_countSplitCommunities_L4] at h
      refine lv_iload_n hx hb dX6_countSplitCommunities_4 rfl (lv_at hl 3 rfl) ?_
      refine lv_iconst (v := 4) hx hb dX6_countSplitCommunities_5 (by decide) ?_
      refine lv_icmp_ge (tgt := 30) hx hb dX6_countSplitCommunities_6 (by decide) (fun c1 => ?_) (fun c1 => ?_)
      · replace h := dc_pos c1 h
        exact kk y4_2 H locs ls h hH (lv_sub hl [2] rfl)
      · replace h := dc_neg c1 h
        refine lv_aload_n hx hb dX6_countSplitCommunities_9 rfl (lv_at hl 1 rfl) ?_
        refine lv_aload_n hx hb dX6_countSplitCommunities_10 rfl (lv_at hl 0 rfl) ?_
        refine lv_iload_n hx hb dX6_countSplitCommunities_11 rfl (lv_at hl 3 rfl) ?_
        obtain ⟨q2, hqq2, h⟩ := dc_bind h
        refine gc_Vi (ws' := [(a_p0, .inr (8, [.int p0_units, .ref a_p0_population, .ref a_p0_area, .ref a_p0_community, .ref a_p0_outer, .ref a_p0_neighbors, .ref a_p0_lengths, v_p0_cores, v_p0_districts, v_p0_tolerance, v_p0_hasPlan, .ref a_p0_plan])), (a_p0_community, .inl (k 0, 12, .inl p0_community)), (a_p1, .inr (4, [.ref a_p1_places, .ref a_p1_sets])), (a_p1_sets, .inl (k 0, 4, .inl p1_sets))]) (As := [.int y4_3]) (rest := [.ref a_p1]) (n := 1) (ci := 8) (cq := (RX9, TX9, 12)) hTs ⟨hx, hb, hml, hown, hts⟩ (mX9_membersOf l Ts hTs D k H.size a_p0 a_p0_population a_p0_area a_p0_community a_p0_outer a_p0_neighbors a_p0_lengths a_p0_plan p0_community p0_units v_p0_cores v_p0_districts v_p0_hasPlan v_p0_tolerance y4_3 q2 hqq2) u_ml_X6_73 u_im_X9_membersOf u_se_X9_membersOf u_in_X9 u_co_X9_membersOf hd_X9_membersOf ⟨Nat.le_of_ble_eq_true rfl, Nat.le_of_ble_eq_true rfl⟩ ⟨rfl, rfl⟩ hK hH hA (cut0 (isC := [0, 1]) rfl rfl rfl) rfl rfl rfl rfl hl.1 (Nat.le_of_ble_eq_true rfl) dX6_countSplitCommunities_12 ⟨Nat.le_of_ble_eq_true rfl, Nat.le_of_ble_eq_true rfl⟩ (fun H locs hH => ?_)
        obtain ⟨q3, hqq3, h⟩ := dc_bind h
        refine gc_Vi (ws' := [(a_p0, .inr (8, [.int p0_units, .ref a_p0_population, .ref a_p0_area, .ref a_p0_community, .ref a_p0_outer, .ref a_p0_neighbors, .ref a_p0_lengths, v_p0_cores, v_p0_districts, v_p0_tolerance, v_p0_hasPlan, .ref a_p0_plan])), (a_p0_community, .inl (k 0, 12, .inl p0_community)), (a_p1, .inr (4, [.ref a_p1_places, .ref a_p1_sets])), (a_p1_sets, .inl (k 0, 4, .inl p1_sets))]) (As := [.int q2]) (rest := []) (n := 1) (ci := 4) (cq := (RX4, TX4, 2)) hTs ⟨hx, hb, hml, hown, hts⟩ (mX4_splits l Ts hTs D k H.size a_p1 a_p1_places a_p1_sets p1_sets q2 q3 hqq3) u_ml_X6_76 u_im_X4_splits u_se_X4_splits u_in_X4 u_co_X4_splits hd_X4_splits ⟨Nat.le_of_ble_eq_true rfl, Nat.le_of_ble_eq_true rfl⟩ ⟨rfl, rfl⟩ hK hH hA (cut0 (isC := [2, 3]) rfl rfl rfl) rfl rfl rfl rfl hl.1 (Nat.le_of_ble_eq_true rfl) dX6_countSplitCommunities_15 ⟨Nat.le_of_ble_eq_true rfl, Nat.le_of_ble_eq_true rfl⟩ (fun H locs hH => ?_)
        refine lv_if_eq (tgt := 24) hx hb dX6_countSplitCommunities_18 (by decide) (fun c4 => ?_) (fun c4 => ?_)
        · replace h := dc_pos c4 h
          refine lv_iinc (v := (y4_3 + (1 : Int32))) (lv' := [(3, .int (y4_3 + (1 : Int32))), (0, .ref a_p0), (1, .ref a_p1), (2, .int y4_2)]) hx hb dX6_countSplitCommunities_24 hl (k := 3) rfl rfl (by decide) rfl (fun ls hl => ?_)
          refine lv_goto (tgt := 4) hx hb dX6_countSplitCommunities_27 (by decide) ?_
          exact ih kf y4_2 (y4_3 + (1 : Int32)) h kk H locs ls hH (lv_sub hl [1, 2, 3, 0] rfl)
        · replace h := dc_neg c4 h
          refine lv_iinc (v := (y4_2 + (1 : Int32))) (lv' := [(2, .int (y4_2 + (1 : Int32))), (0, .ref a_p0), (1, .ref a_p1), (3, .int y4_3)]) hx hb dX6_countSplitCommunities_21 hl (k := 2) rfl rfl (by decide) rfl (fun ls hl => ?_)
          refine lv_iinc (v := (y4_3 + (1 : Int32))) (lv' := [(3, .int (y4_3 + (1 : Int32))), (2, .int (y4_2 + (1 : Int32))), (0, .ref a_p0), (1, .ref a_p1)]) hx hb dX6_countSplitCommunities_24 hl (k := 3) rfl rfl (by decide) rfl (fun ls hl => ?_)
          refine lv_goto (tgt := 4) hx hb dX6_countSplitCommunities_27 (by decide) ?_
          exact ih kf (y4_2 + (1 : Int32)) (y4_3 + (1 : Int32)) h kk H locs ls hH (lv_sub hl [2, 3, 1, 0] rfl)
  rw [fX6_countSplitCommunities] at h
  refine lv_iconst (v := 0) hx hb dX6_countSplitCommunities_0 (by decide) ?_
  refine lv_istore_n (lv' := [(2, .int (0 : Int32)), (0, .ref a_p0), (1, .ref a_p1)]) hx hb dX6_countSplitCommunities_1 rfl hl (by decide) rfl (fun ls hl => ?_)
  refine lv_iconst (v := 0) hx hb dX6_countSplitCommunities_2 (by decide) ?_
  refine lv_istore_n (lv' := [(3, .int (0 : Int32)), (2, .int (0 : Int32)), (0, .ref a_p0), (1, .ref a_p1)]) hx hb dX6_countSplitCommunities_3 rfl hl (by decide) rfl (fun ls hl => ?_)
  refine L4 _ _ (0 : Int32) (0 : Int32) h (fun z4_2 H locs ls h hH hl => ?_) H locs ls hH (lv_sub hl [2, 3, 1, 0] rfl)
  refine lv_iload_n hx hb dX6_countSplitCommunities_30 rfl (lv_at hl 0 rfl) ?_
  have h := Option.some.inj h
  subst h
  exact ge_i hx hb hr hlocks hQ hK hH hAe rfl dX6_countSplitCommunities_31
theorem hd_X6_greatestImbalance : yX6_greatestImbalance.cls ≠ "java/lang/invoke/MethodHandle" ∧ yX6_greatestImbalance.cls ≠ "java/lang/invoke/VarHandle" ∧ (parseMethodDescriptor yX6_greatestImbalance.desc).map (fun d => d.parameters.length) = some 2 := by decide +kernel
set_option maxHeartbeats 4000000 in
set_option maxRecDepth 100000 in
theorem mX6_greatestImbalance (l : Launch) (Ts : List Cond) (hTs : ∀ w, w ∈ Ts ↔ w ∈ uT) (D : va_G) (k : Nat → ClassId) (sz : Nat) (a_p0 : Nat) (a_p1 : Nat) (a_p0_population : Nat) (a_p0_area : Nat) (a_p0_community : Nat) (a_p0_outer : Nat) (a_p0_neighbors : Nat) (a_p0_lengths : Nat) (a_p0_plan : Nat) (a_p1_places : Nat) (a_p1_sets : Nat) (p0_districts : Int32) (p0_population : Nat → Int32) (p0_units : Int32) (p1_sets : Nat → Int32) (v_p0_cores : Value) (v_p0_hasPlan : Value) (v_p0_tolerance : Value) (r : Int32) (h : fX6_greatestImbalance p0_districts p0_population p0_units p1_sets = some r) : Met l yX6_greatestImbalance (Cond.code yX6_greatestImbalance cX6_greatestImbalance 4 (some .int) :: Ts) ({ frames := 2, cells := 0, slots := 0, locals := 85 } : Room) (preM D k [.ref a_p0, .ref a_p1] [(a_p0, .inr (8, [.int p0_units, .ref a_p0_population, .ref a_p0_area, .ref a_p0_community, .ref a_p0_outer, .ref a_p0_neighbors, .ref a_p0_lengths, v_p0_cores, .int p0_districts, v_p0_tolerance, v_p0_hasPlan, .ref a_p0_plan])), (a_p1, .inr (4, [.ref a_p1_places, .ref a_p1_sets])), (a_p1_sets, .inl (k 0, 4, .inl p1_sets)), (a_p0_population, .inl (k 0, 12, .inl p0_population))] sz) (postI D k r [(a_p0, .inr (8, [.int p0_units, .ref a_p0_population, .ref a_p0_area, .ref a_p0_community, .ref a_p0_outer, .ref a_p0_neighbors, .ref a_p0_lengths, v_p0_cores, .int p0_districts, v_p0_tolerance, v_p0_hasPlan, .ref a_p0_plan])), (a_p1, .inr (4, [.ref a_p1_places, .ref a_p1_sets])), (a_p1_sets, .inl (k 0, 4, .inl p1_sets)), (a_p0_population, .inl (k 0, 12, .inl p0_population))] [(a_p0, .inr (8, [.int p0_units, .ref a_p0_population, .ref a_p0_area, .ref a_p0_community, .ref a_p0_outer, .ref a_p0_neighbors, .ref a_p0_lengths, v_p0_cores, .int p0_districts, v_p0_tolerance, v_p0_hasPlan, .ref a_p0_plan])), (a_p1, .inr (4, [.ref a_p1_places, .ref a_p1_sets])), (a_p1_sets, .inl (k 0, 4, .inl p1_sets)), (a_p0_population, .inl (k 0, 12, .inl p0_population))] sz) 0 0 (va_A [(a_p0, .inr (8, [.int p0_units, .ref a_p0_population, .ref a_p0_area, .ref a_p0_community, .ref a_p0_outer, .ref a_p0_neighbors, .ref a_p0_lengths, v_p0_cores, .int p0_districts, v_p0_tolerance, v_p0_hasPlan, .ref a_p0_plan])), (a_p1, .inr (4, [.ref a_p1_places, .ref a_p1_sets])), (a_p1_sets, .inl (k 0, 4, .inl p1_sets)), (a_p0_population, .inl (k 0, 12, .inl p0_population))] sz) := by
  refine Met.ofW (cc := cX6_greatestImbalance) (maxL := 4) (ret := (some .int)) (by decide) rfl ?_
  intro p e s m args below meth c s₁ B hml hv
  obtain ⟨rfl, hsz, hP, hK, hD0⟩ := hv
  have hx := B.exec
  have hb := B.bytes
  have hr := B.returns
  have hts0 := atoms_spec (ws := (Cond.code yX6_greatestImbalance cX6_greatestImbalance 4 (some .int) :: Ts)) B.pre
  have hts : ∀ w ∈ uT, w.before _ s = true := fun w h => hts0 w (List.mem_cons_of_mem _ ((hTs w).mpr h))
  clear hts0
  have hown : s.vm.findClass RX6 = some m.cls := findClass_of_methodNamed B.named
  have hlocks := B.notSynchronized
  subst hsz
  have hD := hD0.self (sz := s.heap.size)
  generalize hAe : va_A [(a_p0, .inr (8, [.int p0_units, .ref a_p0_population, .ref a_p0_area, .ref a_p0_community, .ref a_p0_outer, .ref a_p0_neighbors, .ref a_p0_lengths, v_p0_cores, .int p0_districts, v_p0_tolerance, v_p0_hasPlan, .ref a_p0_plan])), (a_p1, .inr (4, [.ref a_p1_places, .ref a_p1_sets])), (a_p1_sets, .inl (k 0, 4, .inl p1_sets)), (a_p0_population, .inl (k 0, 12, .inl p0_population))] s.heap.size = A at hD ⊢
  have hA : ∀ q : Nat, s.heap.size ≤ q → A q := fun q h => by rw [← hAe]; exact Or.inr h
  have hH : HOK D A s.heap [(a_p0, .inr (8, [.int p0_units, .ref a_p0_population, .ref a_p0_area, .ref a_p0_community, .ref a_p0_outer, .ref a_p0_neighbors, .ref a_p0_lengths, v_p0_cores, .int p0_districts, v_p0_tolerance, v_p0_hasPlan, .ref a_p0_plan])), (a_p1, .inr (4, [.ref a_p1_places, .ref a_p1_sets])), (a_p1_sets, .inl (k 0, 4, .inl p1_sets)), (a_p0_population, .inl (k 0, 12, .inl p0_population))] s.heap [] := ⟨hP, hD, va_S.rf⟩
  have hl := lv_entry ([.ref a_p0, .ref a_p1]) (n := 4) (Nat.le_of_ble_eq_true rfl)
  rw [lg_entry_eq]
  generalize (lg_sl ([.ref a_p0, .ref a_p1]) ++ List.replicate (4 - (lg_sl ([.ref a_p0, .ref a_p1])).length) Slot.unset).toArray = ls at hl ⊢
  have hl : lv_has ls 4 [(0, .ref a_p0), (1, .ref a_p1)] := hl
  generalize hQ : MQ below (postI D k r [(a_p0, .inr (8, [.int p0_units, .ref a_p0_population, .ref a_p0_area, .ref a_p0_community, .ref a_p0_outer, .ref a_p0_neighbors, .ref a_p0_lengths, v_p0_cores, .int p0_districts, v_p0_tolerance, v_p0_hasPlan, .ref a_p0_plan])), (a_p1, .inr (4, [.ref a_p1_places, .ref a_p1_sets])), (a_p1_sets, .inl (k 0, 4, .inl p1_sets)), (a_p0_population, .inl (k 0, 12, .inl p0_population))] [(a_p0, .inr (8, [.int p0_units, .ref a_p0_population, .ref a_p0_area, .ref a_p0_community, .ref a_p0_outer, .ref a_p0_neighbors, .ref a_p0_lengths, v_p0_cores, .int p0_districts, v_p0_tolerance, v_p0_hasPlan, .ref a_p0_plan])), (a_p1, .inr (4, [.ref a_p1_places, .ref a_p1_sets])), (a_p1_sets, .inl (k 0, 4, .inl p1_sets)), (a_p0_population, .inl (k 0, 12, .inl p0_population))] s.heap.size) (List.toArray [.ref a_p0, .ref a_p1]) s 0 0 A = Q
  clear hP hD hD0
  suffices K : ∀ (H : Heap) (locs : List Loc), HOK D A s.heap [(a_p0, .inr (8, [.int p0_units, .ref a_p0_population, .ref a_p0_area, .ref a_p0_community, .ref a_p0_outer, .ref a_p0_neighbors, .ref a_p0_lengths, v_p0_cores, .int p0_districts, v_p0_tolerance, v_p0_hasPlan, .ref a_p0_plan])), (a_p1, .inr (4, [.ref a_p1_places, .ref a_p1_sets])), (a_p1_sets, .inl (k 0, 4, .inl p1_sets)), (a_p0_population, .inl (k 0, 12, .inl p0_population))] H locs → W p l e ({ frames := 2, cells := 0, slots := 0, locals := 85 } : Room) s m (List.toArray [.ref a_p0, .ref a_p1]) below meth c H locs 0 0 Q (F0 m 0 ls []) from K s.heap [] hH
  intro H locs hH
  have L4 : ∀ (n : Nat), ∀ (kf : Int32 → Option (Int32)) (y4_2 : Int32) (y4_3 : Int32), fX6_greatestImbalance_L4 p0_districts p0_population p0_units p1_sets n kf y4_2 y4_3 = some r → (∀ (z4_2 : Int32) (H : Heap) (locs : List Loc) (ls : Array Slot), kf z4_2 = some r → HOK D A s.heap [(a_p0, .inr (8, [.int p0_units, .ref a_p0_population, .ref a_p0_area, .ref a_p0_community, .ref a_p0_outer, .ref a_p0_neighbors, .ref a_p0_lengths, v_p0_cores, .int p0_districts, v_p0_tolerance, v_p0_hasPlan, .ref a_p0_plan])), (a_p1, .inr (4, [.ref a_p1_places, .ref a_p1_sets])), (a_p1_sets, .inl (k 0, 4, .inl p1_sets)), (a_p0_population, .inl (k 0, 12, .inl p0_population))] H locs → lv_has ls 4 [(2, .int z4_2)] → W p l e ({ frames := 2, cells := 0, slots := 0, locals := 85 } : Room) s m (List.toArray [.ref a_p0, .ref a_p1]) below meth c H locs 0 0 Q (F0 m 33 ls [])) → ∀ (H : Heap) (locs : List Loc) (ls : Array Slot), HOK D A s.heap [(a_p0, .inr (8, [.int p0_units, .ref a_p0_population, .ref a_p0_area, .ref a_p0_community, .ref a_p0_outer, .ref a_p0_neighbors, .ref a_p0_lengths, v_p0_cores, .int p0_districts, v_p0_tolerance, v_p0_hasPlan, .ref a_p0_plan])), (a_p1, .inr (4, [.ref a_p1_places, .ref a_p1_sets])), (a_p1_sets, .inl (k 0, 4, .inl p1_sets)), (a_p0_population, .inl (k 0, 12, .inl p0_population))] H locs → lv_has ls 4 [(0, .ref a_p0), (1, .ref a_p1), (2, .int y4_2), (3, .int y4_3)] → W p l e ({ frames := 2, cells := 0, slots := 0, locals := 85 } : Room) s m (List.toArray [.ref a_p0, .ref a_p1]) below meth c H locs 0 0 Q (F0 m 4 ls []) := by
    intro n
    induction n with
    | zero =>
      intro kf y4_2 y4_3 h
      exact absurd h (by rw [fX6_greatestImbalance_L4]; exact fun q => by cases q)
    | succ n ih =>
      intro kf y4_2 y4_3 h kk H locs ls hH hl
      rw [fX6_greatestImbalance_L4] at h
      refine lv_iload_n hx hb dX6_greatestImbalance_4 rfl (lv_at hl 3 rfl) ?_
      refine lv_aload_n hx hb dX6_greatestImbalance_5 rfl (lv_at hl 0 rfl) ?_
      refine gk_get (ci := 8) (C := RX9) (T := TX9) (N := 12) hx hb hts u_ws_X9 hown hK hH 0 rfl rfl 8 (by decide) u_fl_X6_51 rfl dX6_greatestImbalance_6 ?_
      refine lv_icmp_ge (tgt := 33) hx hb dX6_greatestImbalance_9 (by decide) (fun c1 => ?_) (fun c1 => ?_)
      · replace h := dc_pos c1 h
        exact kk y4_2 H locs ls h hH (lv_sub hl [2] rfl)
      · replace h := dc_neg c1 h
        refine lv_iload_n hx hb dX6_greatestImbalance_12 rfl (lv_at hl 2 rfl) ?_
        refine lv_aload_n hx hb dX6_greatestImbalance_13 rfl (lv_at hl 0 rfl) ?_
        refine lv_aload_n hx hb dX6_greatestImbalance_14 rfl (lv_at hl 1 rfl) ?_
        refine gk_get (ci := 4) (C := RX4) (T := TX4) (N := 2) hx hb hts u_ws_X4 hown hK hH 1 rfl rfl 1 (by decide) u_fl_X6_55 rfl dX6_greatestImbalance_15 ?_
        refine lv_iload_n hx hb dX6_greatestImbalance_18 rfl (lv_at hl 3 rfl) ?_
        obtain ⟨g2, h⟩ := dc_need h
        refine gk_iald hx hb hK hH 2 rfl (dk_in g2) dX6_greatestImbalance_19 ?_
        obtain ⟨q3, hqq3, h⟩ := dc_bind h
        refine gc_Vi (ws' := [(a_p0, .inr (8, [.int p0_units, .ref a_p0_population, .ref a_p0_area, .ref a_p0_community, .ref a_p0_outer, .ref a_p0_neighbors, .ref a_p0_lengths, v_p0_cores, .int p0_districts, v_p0_tolerance, v_p0_hasPlan, .ref a_p0_plan])), (a_p1, .inr (4, [.ref a_p1_places, .ref a_p1_sets])), (a_p1_sets, .inl (k 0, 4, .inl p1_sets)), (a_p0_population, .inl (k 0, 12, .inl p0_population))]) (As := [.int (p1_sets y4_3.toNatClampNeg)]) (rest := [.int y4_2]) (n := 1) (ci := 8) (cq := (RX9, TX9, 12)) hTs ⟨hx, hb, hml, hown, hts⟩ (mX9_imbalanceOf l Ts hTs D k H.size a_p0 a_p0_population a_p0_area a_p0_community a_p0_outer a_p0_neighbors a_p0_lengths a_p0_plan p0_districts p0_population p0_units v_p0_cores v_p0_hasPlan v_p0_tolerance (p1_sets y4_3.toNatClampNeg) q3 hqq3) u_ml_X6_80 u_im_X9_imbalanceOf u_se_X9_imbalanceOf u_in_X9 u_co_X9_imbalanceOf hd_X9_imbalanceOf ⟨Nat.le_of_ble_eq_true rfl, Nat.le_of_ble_eq_true rfl⟩ ⟨rfl, rfl⟩ hK hH hA (cut0 (isC := [0, 3]) rfl rfl rfl) rfl rfl rfl rfl hl.1 (Nat.le_of_ble_eq_true rfl) dX6_greatestImbalance_20 ⟨Nat.le_of_ble_eq_true rfl, Nat.le_of_ble_eq_true rfl⟩ (fun H locs hH => ?_)
        refine va_mmax hx hb (hml.trans hl.1.symm) hown (hts _ u_ml_X6_83) (hts _ u_st_J9_max_7cf53) (hts _ u_in_J9) (hts _ u_co_Math_max) (Nat.le_of_ble_eq_true rfl) (Nat.le_of_ble_eq_true rfl) (Nat.le_of_ble_eq_true rfl) (Nat.le_of_ble_eq_true rfl) dX6_greatestImbalance_23 ?_
        refine lv_istore_n (lv' := [(2, .int (if y4_2 < q3 then q3 else y4_2)), (0, .ref a_p0), (1, .ref a_p1), (3, .int y4_3)]) hx hb dX6_greatestImbalance_26 rfl hl (by decide) rfl (fun ls hl => ?_)
        refine lv_iinc (v := (y4_3 + (1 : Int32))) (lv' := [(3, .int (y4_3 + (1 : Int32))), (2, .int (if y4_2 < q3 then q3 else y4_2)), (0, .ref a_p0), (1, .ref a_p1)]) hx hb dX6_greatestImbalance_27 hl (k := 3) rfl rfl (by decide) rfl (fun ls hl => ?_)
        refine lv_goto (tgt := 4) hx hb dX6_greatestImbalance_30 (by decide) ?_
        exact ih kf (if y4_2 < q3 then q3 else y4_2) (y4_3 + (1 : Int32)) h kk H locs ls hH (lv_sub hl [2, 3, 1, 0] rfl)
  rw [fX6_greatestImbalance] at h
  refine lv_iconst (v := 0) hx hb dX6_greatestImbalance_0 (by decide) ?_
  refine lv_istore_n (lv' := [(2, .int (0 : Int32)), (0, .ref a_p0), (1, .ref a_p1)]) hx hb dX6_greatestImbalance_1 rfl hl (by decide) rfl (fun ls hl => ?_)
  refine lv_iconst (v := 0) hx hb dX6_greatestImbalance_2 (by decide) ?_
  refine lv_istore_n (lv' := [(3, .int (0 : Int32)), (2, .int (0 : Int32)), (0, .ref a_p0), (1, .ref a_p1)]) hx hb dX6_greatestImbalance_3 rfl hl (by decide) rfl (fun ls hl => ?_)
  refine L4 _ _ (0 : Int32) (0 : Int32) h (fun z4_2 H locs ls h hH hl => ?_) H locs ls hH (lv_sub hl [2, 3, 1, 0] rfl)
  refine lv_iload_n hx hb dX6_greatestImbalance_33 rfl (lv_at hl 0 rfl) ?_
  have h := Option.some.inj h
  subst h
  exact ge_i hx hb hr hlocks hQ hK hH hAe rfl dX6_greatestImbalance_34
theorem hd_X6_weigh : yX6_weigh.cls ≠ "java/lang/invoke/MethodHandle" ∧ yX6_weigh.cls ≠ "java/lang/invoke/VarHandle" ∧ (parseMethodDescriptor yX6_weigh.desc).map (fun d => d.parameters.length) = some 4 := by decide +kernel
set_option maxHeartbeats 4000000 in
set_option maxRecDepth 100000 in
theorem mX6_weigh (l : Launch) (Ts : List Cond) (hTs : ∀ w, w ∈ Ts ↔ w ∈ uT) (D : va_G) (k : Nat → ClassId) (sz : Nat) (a_p0 : Nat) (a_p1 : Nat) (a_p3 : Nat) (a_p0_population : Nat) (a_p0_area : Nat) (a_p0_community : Nat) (a_p0_outer : Nat) (a_p0_neighbors : Nat) (a_p0_lengths : Nat) (a_p0_plan : Nat) (a_p1_places : Nat) (a_p1_sets : Nat) (p0_area : Nat → Int32) (p0_community : Nat → Int32) (p0_districts : Int32) (p0_lengths : Nat → Int32) (p0_outer : Nat → Int32) (p0_population : Nat → Int32) (p0_units : Int32) (p1_places : Nat → Int32) (p1_sets : Nat → Int32) (v_p0_cores : Value) (v_p0_hasPlan : Value) (v_p0_tolerance : Value) (v_p3_bottom : Value) (v_p3_top : Value) (x2 : Int32) (r : Int64 × Int64) (h : fX6_weigh p0_area p0_community p0_districts p0_lengths p0_outer p0_population p0_units p1_places p1_sets x2 = some r) : Met l yX6_weigh (Cond.code yX6_weigh cX6_weigh 4 none :: Ts) ({ frames := 3, cells := 0, slots := 0, locals := 108 } : Room) (preM D k [.ref a_p0, .ref a_p1, .int x2, .ref a_p3] [(a_p0, .inr (8, [.int p0_units, .ref a_p0_population, .ref a_p0_area, .ref a_p0_community, .ref a_p0_outer, .ref a_p0_neighbors, .ref a_p0_lengths, v_p0_cores, .int p0_districts, v_p0_tolerance, v_p0_hasPlan, .ref a_p0_plan])), (a_p1, .inr (4, [.ref a_p1_places, .ref a_p1_sets])), (a_p1_sets, .inl (k 0, 4, .inl p1_sets)), (a_p0_outer, .inl (k 0, 12, .inl p0_outer)), (a_p0_lengths, .inl (k 0, 144, .inl p0_lengths)), (a_p0_area, .inl (k 0, 12, .inl p0_area)), (a_p3, .inr (1, [v_p3_top, v_p3_bottom])), (a_p1_places, .inl (k 0, 12, .inl p1_places)), (a_p0_community, .inl (k 0, 12, .inl p0_community)), (a_p0_population, .inl (k 0, 12, .inl p0_population))] sz) (postV D k [(a_p0, .inr (8, [.int p0_units, .ref a_p0_population, .ref a_p0_area, .ref a_p0_community, .ref a_p0_outer, .ref a_p0_neighbors, .ref a_p0_lengths, v_p0_cores, .int p0_districts, v_p0_tolerance, v_p0_hasPlan, .ref a_p0_plan])), (a_p1, .inr (4, [.ref a_p1_places, .ref a_p1_sets])), (a_p1_sets, .inl (k 0, 4, .inl p1_sets)), (a_p0_outer, .inl (k 0, 12, .inl p0_outer)), (a_p0_lengths, .inl (k 0, 144, .inl p0_lengths)), (a_p0_area, .inl (k 0, 12, .inl p0_area)), (a_p3, .inr (1, [v_p3_top, v_p3_bottom])), (a_p1_places, .inl (k 0, 12, .inl p1_places)), (a_p0_community, .inl (k 0, 12, .inl p0_community)), (a_p0_population, .inl (k 0, 12, .inl p0_population))] [(a_p0, .inr (8, [.int p0_units, .ref a_p0_population, .ref a_p0_area, .ref a_p0_community, .ref a_p0_outer, .ref a_p0_neighbors, .ref a_p0_lengths, v_p0_cores, .int p0_districts, v_p0_tolerance, v_p0_hasPlan, .ref a_p0_plan])), (a_p1, .inr (4, [.ref a_p1_places, .ref a_p1_sets])), (a_p1_sets, .inl (k 0, 4, .inl p1_sets)), (a_p0_outer, .inl (k 0, 12, .inl p0_outer)), (a_p0_lengths, .inl (k 0, 144, .inl p0_lengths)), (a_p0_area, .inl (k 0, 12, .inl p0_area)), (a_p3, .inr (1, [.long r.2, .long r.1])), (a_p1_places, .inl (k 0, 12, .inl p1_places)), (a_p0_community, .inl (k 0, 12, .inl p0_community)), (a_p0_population, .inl (k 0, 12, .inl p0_population))] sz) 0 0 (va_A [(a_p0, .inr (8, [.int p0_units, .ref a_p0_population, .ref a_p0_area, .ref a_p0_community, .ref a_p0_outer, .ref a_p0_neighbors, .ref a_p0_lengths, v_p0_cores, .int p0_districts, v_p0_tolerance, v_p0_hasPlan, .ref a_p0_plan])), (a_p1, .inr (4, [.ref a_p1_places, .ref a_p1_sets])), (a_p1_sets, .inl (k 0, 4, .inl p1_sets)), (a_p0_outer, .inl (k 0, 12, .inl p0_outer)), (a_p0_lengths, .inl (k 0, 144, .inl p0_lengths)), (a_p0_area, .inl (k 0, 12, .inl p0_area)), (a_p3, .inr (1, [v_p3_top, v_p3_bottom])), (a_p1_places, .inl (k 0, 12, .inl p1_places)), (a_p0_community, .inl (k 0, 12, .inl p0_community)), (a_p0_population, .inl (k 0, 12, .inl p0_population))] sz) := by
  refine Met.ofW (cc := cX6_weigh) (maxL := 4) (ret := none) (by decide) rfl ?_
  intro p e s m args below meth c s₁ B hml hv
  obtain ⟨rfl, hsz, hP, hK, hD0⟩ := hv
  have hx := B.exec
  have hb := B.bytes
  have hr := B.returns
  have hts0 := atoms_spec (ws := (Cond.code yX6_weigh cX6_weigh 4 none :: Ts)) B.pre
  have hts : ∀ w ∈ uT, w.before _ s = true := fun w h => hts0 w (List.mem_cons_of_mem _ ((hTs w).mpr h))
  clear hts0
  have hown : s.vm.findClass RX6 = some m.cls := findClass_of_methodNamed B.named
  have hlocks := B.notSynchronized
  subst hsz
  have hD := hD0.self (sz := s.heap.size)
  generalize hAe : va_A [(a_p0, .inr (8, [.int p0_units, .ref a_p0_population, .ref a_p0_area, .ref a_p0_community, .ref a_p0_outer, .ref a_p0_neighbors, .ref a_p0_lengths, v_p0_cores, .int p0_districts, v_p0_tolerance, v_p0_hasPlan, .ref a_p0_plan])), (a_p1, .inr (4, [.ref a_p1_places, .ref a_p1_sets])), (a_p1_sets, .inl (k 0, 4, .inl p1_sets)), (a_p0_outer, .inl (k 0, 12, .inl p0_outer)), (a_p0_lengths, .inl (k 0, 144, .inl p0_lengths)), (a_p0_area, .inl (k 0, 12, .inl p0_area)), (a_p3, .inr (1, [v_p3_top, v_p3_bottom])), (a_p1_places, .inl (k 0, 12, .inl p1_places)), (a_p0_community, .inl (k 0, 12, .inl p0_community)), (a_p0_population, .inl (k 0, 12, .inl p0_population))] s.heap.size = A at hD ⊢
  have hA : ∀ q : Nat, s.heap.size ≤ q → A q := fun q h => by rw [← hAe]; exact Or.inr h
  have hH : HOK D A s.heap [(a_p0, .inr (8, [.int p0_units, .ref a_p0_population, .ref a_p0_area, .ref a_p0_community, .ref a_p0_outer, .ref a_p0_neighbors, .ref a_p0_lengths, v_p0_cores, .int p0_districts, v_p0_tolerance, v_p0_hasPlan, .ref a_p0_plan])), (a_p1, .inr (4, [.ref a_p1_places, .ref a_p1_sets])), (a_p1_sets, .inl (k 0, 4, .inl p1_sets)), (a_p0_outer, .inl (k 0, 12, .inl p0_outer)), (a_p0_lengths, .inl (k 0, 144, .inl p0_lengths)), (a_p0_area, .inl (k 0, 12, .inl p0_area)), (a_p3, .inr (1, [v_p3_top, v_p3_bottom])), (a_p1_places, .inl (k 0, 12, .inl p1_places)), (a_p0_community, .inl (k 0, 12, .inl p0_community)), (a_p0_population, .inl (k 0, 12, .inl p0_population))] s.heap [] := ⟨hP, hD, va_S.rf⟩
  have hl := lv_entry ([.ref a_p0, .ref a_p1, .int x2, .ref a_p3]) (n := 4) (Nat.le_of_ble_eq_true rfl)
  rw [lg_entry_eq]
  generalize (lg_sl ([.ref a_p0, .ref a_p1, .int x2, .ref a_p3]) ++ List.replicate (4 - (lg_sl ([.ref a_p0, .ref a_p1, .int x2, .ref a_p3])).length) Slot.unset).toArray = ls at hl ⊢
  have hl : lv_has ls 4 [(0, .ref a_p0), (1, .ref a_p1), (2, .int x2), (3, .ref a_p3)] := hl
  generalize hQ : MQ below (postV D k [(a_p0, .inr (8, [.int p0_units, .ref a_p0_population, .ref a_p0_area, .ref a_p0_community, .ref a_p0_outer, .ref a_p0_neighbors, .ref a_p0_lengths, v_p0_cores, .int p0_districts, v_p0_tolerance, v_p0_hasPlan, .ref a_p0_plan])), (a_p1, .inr (4, [.ref a_p1_places, .ref a_p1_sets])), (a_p1_sets, .inl (k 0, 4, .inl p1_sets)), (a_p0_outer, .inl (k 0, 12, .inl p0_outer)), (a_p0_lengths, .inl (k 0, 144, .inl p0_lengths)), (a_p0_area, .inl (k 0, 12, .inl p0_area)), (a_p3, .inr (1, [v_p3_top, v_p3_bottom])), (a_p1_places, .inl (k 0, 12, .inl p1_places)), (a_p0_community, .inl (k 0, 12, .inl p0_community)), (a_p0_population, .inl (k 0, 12, .inl p0_population))] [(a_p0, .inr (8, [.int p0_units, .ref a_p0_population, .ref a_p0_area, .ref a_p0_community, .ref a_p0_outer, .ref a_p0_neighbors, .ref a_p0_lengths, v_p0_cores, .int p0_districts, v_p0_tolerance, v_p0_hasPlan, .ref a_p0_plan])), (a_p1, .inr (4, [.ref a_p1_places, .ref a_p1_sets])), (a_p1_sets, .inl (k 0, 4, .inl p1_sets)), (a_p0_outer, .inl (k 0, 12, .inl p0_outer)), (a_p0_lengths, .inl (k 0, 144, .inl p0_lengths)), (a_p0_area, .inl (k 0, 12, .inl p0_area)), (a_p3, .inr (1, [.long r.2, .long r.1])), (a_p1_places, .inl (k 0, 12, .inl p1_places)), (a_p0_community, .inl (k 0, 12, .inl p0_community)), (a_p0_population, .inl (k 0, 12, .inl p0_population))] s.heap.size) (List.toArray [.ref a_p0, .ref a_p1, .int x2, .ref a_p3]) s 0 0 A = Q
  clear hP hD hD0
  suffices K : ∀ (H : Heap) (locs : List Loc), HOK D A s.heap [(a_p0, .inr (8, [.int p0_units, .ref a_p0_population, .ref a_p0_area, .ref a_p0_community, .ref a_p0_outer, .ref a_p0_neighbors, .ref a_p0_lengths, v_p0_cores, .int p0_districts, v_p0_tolerance, v_p0_hasPlan, .ref a_p0_plan])), (a_p1, .inr (4, [.ref a_p1_places, .ref a_p1_sets])), (a_p1_sets, .inl (k 0, 4, .inl p1_sets)), (a_p0_outer, .inl (k 0, 12, .inl p0_outer)), (a_p0_lengths, .inl (k 0, 144, .inl p0_lengths)), (a_p0_area, .inl (k 0, 12, .inl p0_area)), (a_p3, .inr (1, [v_p3_top, v_p3_bottom])), (a_p1_places, .inl (k 0, 12, .inl p1_places)), (a_p0_community, .inl (k 0, 12, .inl p0_community)), (a_p0_population, .inl (k 0, 12, .inl p0_population))] H locs → W p l e ({ frames := 3, cells := 0, slots := 0, locals := 108 } : Room) s m (List.toArray [.ref a_p0, .ref a_p1, .int x2, .ref a_p3]) below meth c H locs 0 0 Q (F0 m 0 ls []) from K s.heap [] hH
  intro H locs hH
  rw [fX6_weigh] at h
  refine lv_iload_n hx hb dX6_weigh_0 rfl (lv_at hl 2 rfl) ?_
  by_cases c2 : x2 = (0 : Int32)
  · refine lv_tableIn (tgt := 28) hx hb dX6_weigh_1 (by rw [c2]; decide) (by rw [c2]; decide) (by rw [c2]; rfl) (by decide) ?_
    replace h := dc_pos c2 h
    refine lv_aload_n hx hb dX6_weigh_28 rfl (lv_at hl 0 rfl) ?_
    refine lv_aload_n hx hb dX6_weigh_29 rfl (lv_at hl 1 rfl) ?_
    refine lv_aload_n hx hb dX6_weigh_30 rfl (lv_at hl 3 rfl) ?_
    obtain ⟨q3, hqq3, h⟩ := dc_bind h
    refine gc_Sv (ws' := [(a_p0, .inr (8, [.int p0_units, .ref a_p0_population, .ref a_p0_area, .ref a_p0_community, .ref a_p0_outer, .ref a_p0_neighbors, .ref a_p0_lengths, v_p0_cores, .int p0_districts, v_p0_tolerance, v_p0_hasPlan, .ref a_p0_plan])), (a_p1, .inr (4, [.ref a_p1_places, .ref a_p1_sets])), (a_p1_sets, .inl (k 0, 4, .inl p1_sets)), (a_p0_outer, .inl (k 0, 12, .inl p0_outer)), (a_p0_lengths, .inl (k 0, 144, .inl p0_lengths)), (a_p0_area, .inl (k 0, 12, .inl p0_area)), (a_p3, .inr (1, [.long q3.2, .long q3.1])), (a_p1_places, .inl (k 0, 12, .inl p1_places)), (a_p0_community, .inl (k 0, 12, .inl p0_community)), (a_p0_population, .inl (k 0, 12, .inl p0_population))]) (As := [.ref a_p0, .ref a_p1, .ref a_p3]) (rest := []) (n := 3) hTs ⟨hx, hb, hml, hown, hts⟩ (mX6_weighCompactness l Ts hTs D k H.size a_p0 a_p1 a_p3 a_p0_population a_p0_area a_p0_community a_p0_outer a_p0_neighbors a_p0_lengths a_p0_plan a_p1_places a_p1_sets p0_area p0_districts p0_lengths p0_outer p0_units p1_sets v_p0_cores v_p0_hasPlan v_p0_tolerance v_p3_bottom v_p3_top q3 hqq3) u_ml_X6_9 u_st_X6_weighCompactness u_in_X6 u_co_X6_weighCompactness hd_X6_weighCompactness ⟨Nat.le_of_ble_eq_true rfl, Nat.le_of_ble_eq_true rfl⟩ ⟨rfl, rfl⟩ hK hH hA (cutM (isC := [0, 1, 2, 3, 4, 5, 6]) [some 0, some 1, some 2, some 3, some 4, some 5, some 6, none, none, none] 10 rfl rfl rfl rfl rfl rfl rfl) rfl rfl hl.1 (Nat.le_of_ble_eq_true rfl) dX6_weigh_31 ⟨Nat.le_of_ble_eq_true rfl, Nat.le_of_ble_eq_true rfl⟩ (fun H locs hH => ?_)
    refine lv_goto (tgt := 84) hx hb dX6_weigh_34 (by decide) ?_
    have h := Option.some.inj h
    subst h
    exact ge_v hx hb hr hlocks hQ hK hH hAe dX6_weigh_84
  · replace h := dc_neg c2 h
    by_cases c4 : x2 = (1 : Int32)
    · refine lv_tableIn (tgt := 37) hx hb dX6_weigh_1 (by rw [c4]; decide) (by rw [c4]; decide) (by rw [c4]; rfl) (by decide) ?_
      replace h := dc_pos c4 h
      refine lv_aload_n hx hb dX6_weigh_37 rfl (lv_at hl 3 rfl) ?_
      refine lv_aload_n hx hb dX6_weigh_38 rfl (lv_at hl 0 rfl) ?_
      refine lv_aload_n hx hb dX6_weigh_39 rfl (lv_at hl 1 rfl) ?_
      obtain ⟨q5, hqq5, h⟩ := dc_bind h
      refine gc_Si (ws' := [(a_p0, .inr (8, [.int p0_units, .ref a_p0_population, .ref a_p0_area, .ref a_p0_community, .ref a_p0_outer, .ref a_p0_neighbors, .ref a_p0_lengths, v_p0_cores, .int p0_districts, v_p0_tolerance, v_p0_hasPlan, .ref a_p0_plan])), (a_p1, .inr (4, [.ref a_p1_places, .ref a_p1_sets])), (a_p1_sets, .inl (k 0, 4, .inl p1_sets)), (a_p0_outer, .inl (k 0, 12, .inl p0_outer)), (a_p0_lengths, .inl (k 0, 144, .inl p0_lengths)), (a_p0_area, .inl (k 0, 12, .inl p0_area)), (a_p3, .inr (1, [v_p3_top, v_p3_bottom])), (a_p1_places, .inl (k 0, 12, .inl p1_places)), (a_p0_community, .inl (k 0, 12, .inl p0_community)), (a_p0_population, .inl (k 0, 12, .inl p0_population))]) (As := [.ref a_p0, .ref a_p1]) (rest := [.ref a_p3]) (n := 2) hTs ⟨hx, hb, hml, hown, hts⟩ (mX6_cutLength l Ts hTs D k H.size a_p0 a_p1 a_p0_population a_p0_area a_p0_community a_p0_outer a_p0_neighbors a_p0_lengths a_p0_plan a_p1_places a_p1_sets p0_lengths p0_units p1_places v_p0_cores (.int p0_districts) v_p0_hasPlan v_p0_tolerance q5 hqq5) u_ml_X6_15 u_st_X6_cutLength u_in_X6 u_co_X6_cutLength hd_X6_cutLength ⟨Nat.le_of_ble_eq_true rfl, Nat.le_of_ble_eq_true rfl⟩ ⟨rfl, rfl⟩ hK hH hA (cut0 (isC := [0, 1, 7, 4]) rfl rfl rfl) rfl rfl hl.1 (Nat.le_of_ble_eq_true rfl) dX6_weigh_40 ⟨Nat.le_of_ble_eq_true rfl, Nat.le_of_ble_eq_true rfl⟩ (fun H locs hH => ?_)
      refine lv_i2l (v := (Int32.toInt64 q5)) hx hb dX6_weigh_43 rfl ?_
      refine lv_lconst (v := 1) hx hb dX6_weigh_44 (by decide) ?_
      obtain ⟨q6, hqq6, h⟩ := dc_bind h
      refine gc_Vv (ws' := [(a_p0, .inr (8, [.int p0_units, .ref a_p0_population, .ref a_p0_area, .ref a_p0_community, .ref a_p0_outer, .ref a_p0_neighbors, .ref a_p0_lengths, v_p0_cores, .int p0_districts, v_p0_tolerance, v_p0_hasPlan, .ref a_p0_plan])), (a_p1, .inr (4, [.ref a_p1_places, .ref a_p1_sets])), (a_p1_sets, .inl (k 0, 4, .inl p1_sets)), (a_p0_outer, .inl (k 0, 12, .inl p0_outer)), (a_p0_lengths, .inl (k 0, 144, .inl p0_lengths)), (a_p0_area, .inl (k 0, 12, .inl p0_area)), (a_p3, .inr (1, [.long q6.2, .long q6.1])), (a_p1_places, .inl (k 0, 12, .inl p1_places)), (a_p0_community, .inl (k 0, 12, .inl p0_community)), (a_p0_population, .inl (k 0, 12, .inl p0_population))]) (As := [.long (Int32.toInt64 q5), .long (1 : Int64)]) (rest := []) (n := 2) (ci := 1) (cq := (RX1, TX1, 2)) hTs ⟨hx, hb, hml, hown, hts⟩ (mX1_become l Ts hTs D k H.size a_p3 v_p3_bottom v_p3_top (Int32.toInt64 q5) (1 : Int64) q6 hqq6) u_ml_X6_19 u_im_X1_become u_se_X1_become u_in_X1 u_co_X1_become hd_X1_become ⟨Nat.le_of_ble_eq_true rfl, Nat.le_of_ble_eq_true rfl⟩ ⟨rfl, rfl⟩ hK hH hA (cutM (isC := [6]) [none, none, none, none, none, none, some 0, none, none, none] 10 rfl rfl rfl rfl rfl rfl rfl) rfl rfl rfl rfl hl.1 (Nat.le_of_ble_eq_true rfl) dX6_weigh_45 ⟨Nat.le_of_ble_eq_true rfl, Nat.le_of_ble_eq_true rfl⟩ (fun H locs hH => ?_)
      refine lv_goto (tgt := 84) hx hb dX6_weigh_48 (by decide) ?_
      have h := Option.some.inj h
      subst h
      exact ge_v hx hb hr hlocks hQ hK hH hAe dX6_weigh_84
    · replace h := dc_neg c4 h
      by_cases c7 : x2 = (2 : Int32)
      · refine lv_tableIn (tgt := 51) hx hb dX6_weigh_1 (by rw [c7]; decide) (by rw [c7]; decide) (by rw [c7]; rfl) (by decide) ?_
        replace h := dc_pos c7 h
        refine lv_aload_n hx hb dX6_weigh_51 rfl (lv_at hl 3 rfl) ?_
        refine lv_aload_n hx hb dX6_weigh_52 rfl (lv_at hl 0 rfl) ?_
        refine lv_aload_n hx hb dX6_weigh_53 rfl (lv_at hl 1 rfl) ?_
        obtain ⟨q8, hqq8, h⟩ := dc_bind h
        refine gc_Si (ws' := [(a_p0, .inr (8, [.int p0_units, .ref a_p0_population, .ref a_p0_area, .ref a_p0_community, .ref a_p0_outer, .ref a_p0_neighbors, .ref a_p0_lengths, v_p0_cores, .int p0_districts, v_p0_tolerance, v_p0_hasPlan, .ref a_p0_plan])), (a_p1, .inr (4, [.ref a_p1_places, .ref a_p1_sets])), (a_p1_sets, .inl (k 0, 4, .inl p1_sets)), (a_p0_outer, .inl (k 0, 12, .inl p0_outer)), (a_p0_lengths, .inl (k 0, 144, .inl p0_lengths)), (a_p0_area, .inl (k 0, 12, .inl p0_area)), (a_p3, .inr (1, [v_p3_top, v_p3_bottom])), (a_p1_places, .inl (k 0, 12, .inl p1_places)), (a_p0_community, .inl (k 0, 12, .inl p0_community)), (a_p0_population, .inl (k 0, 12, .inl p0_population))]) (As := [.ref a_p0, .ref a_p1]) (rest := [.ref a_p3]) (n := 2) hTs ⟨hx, hb, hml, hown, hts⟩ (mX6_countSplitCommunities l Ts hTs D k H.size a_p0 a_p1 a_p0_population a_p0_area a_p0_community a_p0_outer a_p0_neighbors a_p0_lengths a_p0_plan a_p1_places a_p1_sets p0_community p0_units p1_sets v_p0_cores (.int p0_districts) v_p0_hasPlan v_p0_tolerance q8 hqq8) u_ml_X6_25 u_st_X6_countSplitCommunities u_in_X6 u_co_X6_countSplitCommunities hd_X6_countSplitCommunities ⟨Nat.le_of_ble_eq_true rfl, Nat.le_of_ble_eq_true rfl⟩ ⟨rfl, rfl⟩ hK hH hA (cut0 (isC := [0, 8, 1, 2]) rfl rfl rfl) rfl rfl hl.1 (Nat.le_of_ble_eq_true rfl) dX6_weigh_54 ⟨Nat.le_of_ble_eq_true rfl, Nat.le_of_ble_eq_true rfl⟩ (fun H locs hH => ?_)
        refine lv_i2l (v := (Int32.toInt64 q8)) hx hb dX6_weigh_57 rfl ?_
        refine lv_lconst (v := 1) hx hb dX6_weigh_58 (by decide) ?_
        obtain ⟨q9, hqq9, h⟩ := dc_bind h
        refine gc_Vv (ws' := [(a_p0, .inr (8, [.int p0_units, .ref a_p0_population, .ref a_p0_area, .ref a_p0_community, .ref a_p0_outer, .ref a_p0_neighbors, .ref a_p0_lengths, v_p0_cores, .int p0_districts, v_p0_tolerance, v_p0_hasPlan, .ref a_p0_plan])), (a_p1, .inr (4, [.ref a_p1_places, .ref a_p1_sets])), (a_p1_sets, .inl (k 0, 4, .inl p1_sets)), (a_p0_outer, .inl (k 0, 12, .inl p0_outer)), (a_p0_lengths, .inl (k 0, 144, .inl p0_lengths)), (a_p0_area, .inl (k 0, 12, .inl p0_area)), (a_p3, .inr (1, [.long q9.2, .long q9.1])), (a_p1_places, .inl (k 0, 12, .inl p1_places)), (a_p0_community, .inl (k 0, 12, .inl p0_community)), (a_p0_population, .inl (k 0, 12, .inl p0_population))]) (As := [.long (Int32.toInt64 q8), .long (1 : Int64)]) (rest := []) (n := 2) (ci := 1) (cq := (RX1, TX1, 2)) hTs ⟨hx, hb, hml, hown, hts⟩ (mX1_become l Ts hTs D k H.size a_p3 v_p3_bottom v_p3_top (Int32.toInt64 q8) (1 : Int64) q9 hqq9) u_ml_X6_19 u_im_X1_become u_se_X1_become u_in_X1 u_co_X1_become hd_X1_become ⟨Nat.le_of_ble_eq_true rfl, Nat.le_of_ble_eq_true rfl⟩ ⟨rfl, rfl⟩ hK hH hA (cutM (isC := [6]) [none, none, none, none, none, none, some 0, none, none, none] 10 rfl rfl rfl rfl rfl rfl rfl) rfl rfl rfl rfl hl.1 (Nat.le_of_ble_eq_true rfl) dX6_weigh_59 ⟨Nat.le_of_ble_eq_true rfl, Nat.le_of_ble_eq_true rfl⟩ (fun H locs hH => ?_)
        refine lv_goto (tgt := 84) hx hb dX6_weigh_62 (by decide) ?_
        have h := Option.some.inj h
        subst h
        exact ge_v hx hb hr hlocks hQ hK hH hAe dX6_weigh_84
      · replace h := dc_neg c7 h
        refine lv_tableOut (tgt := 65) hx hb dX6_weigh_1 (sw_out (fun j h1 h2 e => ?_)) (by decide) ?_
        · rcases (show j = 0 ∨ j = 1 ∨ j = 2 by omega) with rfl | rfl | rfl
          · exact c2 (sw_eq (0 : Int32) e (by decide))
          · exact c4 (sw_eq (1 : Int32) e (by decide))
          · exact c7 (sw_eq (2 : Int32) e (by decide))
        · refine lv_aload_n hx hb dX6_weigh_65 rfl (lv_at hl 3 rfl) ?_
          refine lv_aload_n hx hb dX6_weigh_66 rfl (lv_at hl 0 rfl) ?_
          refine lv_aload_n hx hb dX6_weigh_67 rfl (lv_at hl 1 rfl) ?_
          obtain ⟨q10, hqq10, h⟩ := dc_bind h
          refine gc_Si (ws' := [(a_p0, .inr (8, [.int p0_units, .ref a_p0_population, .ref a_p0_area, .ref a_p0_community, .ref a_p0_outer, .ref a_p0_neighbors, .ref a_p0_lengths, v_p0_cores, .int p0_districts, v_p0_tolerance, v_p0_hasPlan, .ref a_p0_plan])), (a_p1, .inr (4, [.ref a_p1_places, .ref a_p1_sets])), (a_p1_sets, .inl (k 0, 4, .inl p1_sets)), (a_p0_outer, .inl (k 0, 12, .inl p0_outer)), (a_p0_lengths, .inl (k 0, 144, .inl p0_lengths)), (a_p0_area, .inl (k 0, 12, .inl p0_area)), (a_p3, .inr (1, [v_p3_top, v_p3_bottom])), (a_p1_places, .inl (k 0, 12, .inl p1_places)), (a_p0_community, .inl (k 0, 12, .inl p0_community)), (a_p0_population, .inl (k 0, 12, .inl p0_population))]) (As := [.ref a_p0, .ref a_p1]) (rest := [.ref a_p3]) (n := 2) hTs ⟨hx, hb, hml, hown, hts⟩ (mX6_greatestImbalance l Ts hTs D k H.size a_p0 a_p1 a_p0_population a_p0_area a_p0_community a_p0_outer a_p0_neighbors a_p0_lengths a_p0_plan a_p1_places a_p1_sets p0_districts p0_population p0_units p1_sets v_p0_cores v_p0_hasPlan v_p0_tolerance q10 hqq10) u_ml_X6_28 u_st_X6_greatestImbalance u_in_X6 u_co_X6_greatestImbalance hd_X6_greatestImbalance ⟨Nat.le_of_ble_eq_true rfl, Nat.le_of_ble_eq_true rfl⟩ ⟨rfl, rfl⟩ hK hH hA (cut0 (isC := [0, 1, 2, 9]) rfl rfl rfl) rfl rfl hl.1 (Nat.le_of_ble_eq_true rfl) dX6_weigh_68 ⟨Nat.le_of_ble_eq_true rfl, Nat.le_of_ble_eq_true rfl⟩ (fun H locs hH => ?_)
          refine lv_i2l (v := (Int32.toInt64 q10)) hx hb dX6_weigh_71 rfl ?_
          refine lv_aload_n hx hb dX6_weigh_72 rfl (lv_at hl 0 rfl) ?_
          refine lv_aload_n hx hb dX6_weigh_73 rfl (lv_at hl 0 rfl) ?_
          obtain ⟨q11, hqq11, h⟩ := dc_bind h
          refine gc_Vi (ws' := [(a_p0, .inr (8, [.int p0_units, .ref a_p0_population, .ref a_p0_area, .ref a_p0_community, .ref a_p0_outer, .ref a_p0_neighbors, .ref a_p0_lengths, v_p0_cores, .int p0_districts, v_p0_tolerance, v_p0_hasPlan, .ref a_p0_plan])), (a_p1, .inr (4, [.ref a_p1_places, .ref a_p1_sets])), (a_p1_sets, .inl (k 0, 4, .inl p1_sets)), (a_p0_outer, .inl (k 0, 12, .inl p0_outer)), (a_p0_lengths, .inl (k 0, 144, .inl p0_lengths)), (a_p0_area, .inl (k 0, 12, .inl p0_area)), (a_p3, .inr (1, [v_p3_top, v_p3_bottom])), (a_p1_places, .inl (k 0, 12, .inl p1_places)), (a_p0_community, .inl (k 0, 12, .inl p0_community)), (a_p0_population, .inl (k 0, 12, .inl p0_population))]) (As := []) (rest := [.ref a_p0, .long (Int32.toInt64 q10), .ref a_p3]) (n := 0) (ci := 8) (cq := (RX9, TX9, 12)) hTs ⟨hx, hb, hml, hown, hts⟩ (mX9_allUnits l Ts hTs D k H.size a_p0 a_p0_population a_p0_area a_p0_community a_p0_outer a_p0_neighbors a_p0_lengths a_p0_plan p0_units v_p0_cores (.int p0_districts) v_p0_hasPlan v_p0_tolerance q11 hqq11) u_ml_X6_31 u_im_X9_allUnits u_se_X9_allUnits u_in_X9 u_co_X9_allUnits hd_X9_allUnits ⟨Nat.le_of_ble_eq_true rfl, Nat.le_of_ble_eq_true rfl⟩ ⟨rfl, rfl⟩ hK hH hA (cut0 (isC := [0]) rfl rfl rfl) rfl rfl rfl rfl hl.1 (Nat.le_of_ble_eq_true rfl) dX6_weigh_74 ⟨Nat.le_of_ble_eq_true rfl, Nat.le_of_ble_eq_true rfl⟩ (fun H locs hH => ?_)
          obtain ⟨q12, hqq12, h⟩ := dc_bind h
          refine gc_Vi (ws' := [(a_p0, .inr (8, [.int p0_units, .ref a_p0_population, .ref a_p0_area, .ref a_p0_community, .ref a_p0_outer, .ref a_p0_neighbors, .ref a_p0_lengths, v_p0_cores, .int p0_districts, v_p0_tolerance, v_p0_hasPlan, .ref a_p0_plan])), (a_p1, .inr (4, [.ref a_p1_places, .ref a_p1_sets])), (a_p1_sets, .inl (k 0, 4, .inl p1_sets)), (a_p0_outer, .inl (k 0, 12, .inl p0_outer)), (a_p0_lengths, .inl (k 0, 144, .inl p0_lengths)), (a_p0_area, .inl (k 0, 12, .inl p0_area)), (a_p3, .inr (1, [v_p3_top, v_p3_bottom])), (a_p1_places, .inl (k 0, 12, .inl p1_places)), (a_p0_community, .inl (k 0, 12, .inl p0_community)), (a_p0_population, .inl (k 0, 12, .inl p0_population))]) (As := [.int q11]) (rest := [.long (Int32.toInt64 q10), .ref a_p3]) (n := 1) (ci := 8) (cq := (RX9, TX9, 12)) hTs ⟨hx, hb, hml, hown, hts⟩ (mX9_populationOf l Ts hTs D k H.size a_p0 a_p0_population a_p0_area a_p0_community a_p0_outer a_p0_neighbors a_p0_lengths a_p0_plan p0_population p0_units v_p0_cores (.int p0_districts) v_p0_hasPlan v_p0_tolerance q11 q12 hqq12) u_ml_X6_37 u_im_X9_populationOf u_se_X9_populationOf u_in_X9 u_co_X9_populationOf hd_X9_populationOf ⟨Nat.le_of_ble_eq_true rfl, Nat.le_of_ble_eq_true rfl⟩ ⟨rfl, rfl⟩ hK hH hA (cut0 (isC := [0, 9]) rfl rfl rfl) rfl rfl rfl rfl hl.1 (Nat.le_of_ble_eq_true rfl) dX6_weigh_77 ⟨Nat.le_of_ble_eq_true rfl, Nat.le_of_ble_eq_true rfl⟩ (fun H locs hH => ?_)
          refine lv_i2l (v := (Int32.toInt64 q12)) hx hb dX6_weigh_80 rfl ?_
          obtain ⟨q13, hqq13, h⟩ := dc_bind h
          refine gc_Vv (ws' := [(a_p0, .inr (8, [.int p0_units, .ref a_p0_population, .ref a_p0_area, .ref a_p0_community, .ref a_p0_outer, .ref a_p0_neighbors, .ref a_p0_lengths, v_p0_cores, .int p0_districts, v_p0_tolerance, v_p0_hasPlan, .ref a_p0_plan])), (a_p1, .inr (4, [.ref a_p1_places, .ref a_p1_sets])), (a_p1_sets, .inl (k 0, 4, .inl p1_sets)), (a_p0_outer, .inl (k 0, 12, .inl p0_outer)), (a_p0_lengths, .inl (k 0, 144, .inl p0_lengths)), (a_p0_area, .inl (k 0, 12, .inl p0_area)), (a_p3, .inr (1, [.long q13.2, .long q13.1])), (a_p1_places, .inl (k 0, 12, .inl p1_places)), (a_p0_community, .inl (k 0, 12, .inl p0_community)), (a_p0_population, .inl (k 0, 12, .inl p0_population))]) (As := [.long (Int32.toInt64 q10), .long (Int32.toInt64 q12)]) (rest := []) (n := 2) (ci := 1) (cq := (RX1, TX1, 2)) hTs ⟨hx, hb, hml, hown, hts⟩ (mX1_become l Ts hTs D k H.size a_p3 v_p3_bottom v_p3_top (Int32.toInt64 q10) (Int32.toInt64 q12) q13 hqq13) u_ml_X6_19 u_im_X1_become u_se_X1_become u_in_X1 u_co_X1_become hd_X1_become ⟨Nat.le_of_ble_eq_true rfl, Nat.le_of_ble_eq_true rfl⟩ ⟨rfl, rfl⟩ hK hH hA (cutM (isC := [6]) [none, none, none, none, none, none, some 0, none, none, none] 10 rfl rfl rfl rfl rfl rfl rfl) rfl rfl rfl rfl hl.1 (Nat.le_of_ble_eq_true rfl) dX6_weigh_81 ⟨Nat.le_of_ble_eq_true rfl, Nat.le_of_ble_eq_true rfl⟩ (fun H locs hH => ?_)
          have h := Option.some.inj h
          subst h
          exact ge_v hx hb hr hlocks hQ hK hH hAe dX6_weigh_84
theorem hd_J13_compare_74951 : yJ13_compare_74951.cls ≠ "java/lang/invoke/MethodHandle" ∧ yJ13_compare_74951.cls ≠ "java/lang/invoke/VarHandle" ∧ (parseMethodDescriptor yJ13_compare_74951.desc).map (fun d => d.parameters.length) = some 2 := by decide +kernel
set_option maxHeartbeats 4000000 in
set_option maxRecDepth 100000 in
theorem mJ13_compare_74951 (l : Launch) (Ts : List Cond) (hTs : ∀ w, w ∈ Ts ↔ w ∈ uT) (D : va_G) (k : Nat → ClassId) (sz : Nat) (x0 : Int64) (x2 : Int64) (r : Int32) (h : fJ13_compare_74951 x0 x2 = some r) : Met l yJ13_compare_74951 (Cond.code yJ13_compare_74951 cJ13_compare_74951 4 (some .int) :: Ts) ({ frames := 0, cells := 0, slots := 0, locals := 0 } : Room) (preM D k [.long x0, .long x2] [] sz) (postI D k r [] [] sz) 0 0 (va_A [] sz) := by
  refine Met.ofW (cc := cJ13_compare_74951) (maxL := 4) (ret := (some .int)) (by decide) rfl ?_
  intro p e s m args below meth c s₁ B hml hv
  obtain ⟨rfl, hsz, hP, hK, hD0⟩ := hv
  have hx := B.exec
  have hb := B.bytes
  have hr := B.returns
  have hts0 := atoms_spec (ws := (Cond.code yJ13_compare_74951 cJ13_compare_74951 4 (some .int) :: Ts)) B.pre
  have hts : ∀ w ∈ uT, w.before _ s = true := fun w h => hts0 w (List.mem_cons_of_mem _ ((hTs w).mpr h))
  clear hts0
  have hown : s.vm.findClass RJ13 = some m.cls := findClass_of_methodNamed B.named
  have hlocks := B.notSynchronized
  subst hsz
  have hD := hD0.self (sz := s.heap.size)
  generalize hAe : va_A [] s.heap.size = A at hD ⊢
  have hA : ∀ q : Nat, s.heap.size ≤ q → A q := fun q h => by rw [← hAe]; exact Or.inr h
  have hH : HOK D A s.heap [] s.heap [] := ⟨hP, hD, va_S.rf⟩
  have hl := lv_entry ([.long x0, .long x2]) (n := 4) (Nat.le_of_ble_eq_true rfl)
  rw [lg_entry_eq]
  generalize (lg_sl ([.long x0, .long x2]) ++ List.replicate (4 - (lg_sl ([.long x0, .long x2])).length) Slot.unset).toArray = ls at hl ⊢
  have hl : lv_has ls 4 [(0, .long x0), (2, .long x2)] := hl
  generalize hQ : MQ below (postI D k r [] [] s.heap.size) (List.toArray [.long x0, .long x2]) s 0 0 A = Q
  clear hP hD hD0
  suffices K : ∀ (H : Heap) (locs : List Loc), HOK D A s.heap [] H locs → W p l e ({ frames := 0, cells := 0, slots := 0, locals := 0 } : Room) s m (List.toArray [.long x0, .long x2]) below meth c H locs 0 0 Q (F0 m 0 ls []) from K s.heap [] hH
  intro H locs hH
  rw [fJ13_compare_74951] at h
  refine lv_lload_n hx hb dJ13_compare_74951_0 rfl (lv_at hl 0 rfl) ?_
  refine lv_lload_n hx hb dJ13_compare_74951_1 rfl (lv_at hl 1 rfl) ?_
  refine W.lcmp hx hb dJ13_compare_74951_2 ?_
  refine lv_if_ge (tgt := 10) hx hb dJ13_compare_74951_3 (by decide) (fun c1 => ?_) (fun c1 => ?_)
  · replace h := dc_pos c1 h
    refine lv_lload_n hx hb dJ13_compare_74951_10 rfl (lv_at hl 0 rfl) ?_
    refine lv_lload_n hx hb dJ13_compare_74951_11 rfl (lv_at hl 1 rfl) ?_
    refine W.lcmp hx hb dJ13_compare_74951_12 ?_
    refine lv_if_ne (tgt := 20) hx hb dJ13_compare_74951_13 (by decide) (fun c2 => ?_) (fun c2 => ?_)
    · replace h := dc_neg c2 h
      refine lv_iconst (v := 1) hx hb dJ13_compare_74951_20 (by decide) ?_
      have h := Option.some.inj h
      subst h
      exact ge_i hx hb hr hlocks hQ hK hH hAe rfl dJ13_compare_74951_21
    · replace h := dc_pos c2 h
      refine lv_iconst (v := 0) hx hb dJ13_compare_74951_16 (by decide) ?_
      refine lv_goto (tgt := 21) hx hb dJ13_compare_74951_17 (by decide) ?_
      have h := Option.some.inj h
      subst h
      exact ge_i hx hb hr hlocks hQ hK hH hAe rfl dJ13_compare_74951_21
  · replace h := dc_neg c1 h
    refine lv_iconst (v := -1) hx hb dJ13_compare_74951_6 (by decide) ?_
    refine lv_goto (tgt := 21) hx hb dJ13_compare_74951_7 (by decide) ?_
    have h := Option.some.inj h
    subst h
    exact ge_i hx hb hr hlocks hQ hK hH hAe rfl dJ13_compare_74951_21
theorem hd_X1_compareWith : yX1_compareWith.cls = RX1 ∧ yX1_compareWith.cls ≠ "java/lang/invoke/MethodHandle" ∧ yX1_compareWith.cls ≠ "java/lang/invoke/VarHandle" ∧ (parseMethodDescriptor yX1_compareWith.desc).map (fun d => d.parameters.length) = some 1 := by decide +kernel
set_option maxHeartbeats 4000000 in
set_option maxRecDepth 100000 in
theorem mX1_compareWith (l : Launch) (Ts : List Cond) (hTs : ∀ w, w ∈ Ts ↔ w ∈ uT) (D : va_G) (k : Nat → ClassId) (sz : Nat) (a_p1 : Nat) (a_t : Nat) (p1_bottom : Int64) (p1_top : Int64) (t_bottom : Int64) (t_top : Int64) (r : Int32) (h : fX1_compareWith p1_bottom p1_top t_bottom t_top = some r) : Met l yX1_compareWith (Cond.code yX1_compareWith cX1_compareWith 2 (some .int) :: Ts) ({ frames := 1, cells := 0, slots := 0, locals := 23 } : Room) (preM D k [.ref a_t, .ref a_p1] [(a_t, .inr (1, [.long t_top, .long t_bottom])), (a_p1, .inr (1, [.long p1_top, .long p1_bottom]))] sz) (postI D k r [(a_t, .inr (1, [.long t_top, .long t_bottom])), (a_p1, .inr (1, [.long p1_top, .long p1_bottom]))] [(a_t, .inr (1, [.long t_top, .long t_bottom])), (a_p1, .inr (1, [.long p1_top, .long p1_bottom]))] sz) 0 0 (va_A [(a_t, .inr (1, [.long t_top, .long t_bottom])), (a_p1, .inr (1, [.long p1_top, .long p1_bottom]))] sz) := by
  refine Met.ofW (cc := cX1_compareWith) (maxL := 2) (ret := (some .int)) (by decide) rfl ?_
  intro p e s m args below meth c s₁ B hml hv
  obtain ⟨rfl, hsz, hP, hK, hD0⟩ := hv
  have hx := B.exec
  have hb := B.bytes
  have hr := B.returns
  have hts0 := atoms_spec (ws := (Cond.code yX1_compareWith cX1_compareWith 2 (some .int) :: Ts)) B.pre
  have hts : ∀ w ∈ uT, w.before _ s = true := fun w h => hts0 w (List.mem_cons_of_mem _ ((hTs w).mpr h))
  clear hts0
  have hown : s.vm.findClass RX1 = some m.cls := findClass_of_methodNamed B.named
  have hlocks := B.notSynchronized
  subst hsz
  have hD := hD0.self (sz := s.heap.size)
  generalize hAe : va_A [(a_t, .inr (1, [.long t_top, .long t_bottom])), (a_p1, .inr (1, [.long p1_top, .long p1_bottom]))] s.heap.size = A at hD ⊢
  have hA : ∀ q : Nat, s.heap.size ≤ q → A q := fun q h => by rw [← hAe]; exact Or.inr h
  have hH : HOK D A s.heap [(a_t, .inr (1, [.long t_top, .long t_bottom])), (a_p1, .inr (1, [.long p1_top, .long p1_bottom]))] s.heap [] := ⟨hP, hD, va_S.rf⟩
  have hl := lv_entry ([.ref a_t, .ref a_p1]) (n := 2) (Nat.le_of_ble_eq_true rfl)
  rw [lg_entry_eq]
  generalize (lg_sl ([.ref a_t, .ref a_p1]) ++ List.replicate (2 - (lg_sl ([.ref a_t, .ref a_p1])).length) Slot.unset).toArray = ls at hl ⊢
  have hl : lv_has ls 2 [(0, .ref a_t), (1, .ref a_p1)] := hl
  generalize hQ : MQ below (postI D k r [(a_t, .inr (1, [.long t_top, .long t_bottom])), (a_p1, .inr (1, [.long p1_top, .long p1_bottom]))] [(a_t, .inr (1, [.long t_top, .long t_bottom])), (a_p1, .inr (1, [.long p1_top, .long p1_bottom]))] s.heap.size) (List.toArray [.ref a_t, .ref a_p1]) s 0 0 A = Q
  clear hP hD hD0
  suffices K : ∀ (H : Heap) (locs : List Loc), HOK D A s.heap [(a_t, .inr (1, [.long t_top, .long t_bottom])), (a_p1, .inr (1, [.long p1_top, .long p1_bottom]))] H locs → W p l e ({ frames := 1, cells := 0, slots := 0, locals := 23 } : Room) s m (List.toArray [.ref a_t, .ref a_p1]) below meth c H locs 0 0 Q (F0 m 0 ls []) from K s.heap [] hH
  intro H locs hH
  rw [fX1_compareWith] at h
  refine lv_aload_n hx hb dX1_compareWith_0 rfl (lv_at hl 0 rfl) ?_
  refine gk_get (ci := 1) (C := RX1) (T := TX1) (N := 2) hx hb hts u_ws_X1 hown hK hH 0 rfl rfl 0 (by decide) u_fl_X1_7 rfl dX1_compareWith_1 ?_
  refine lv_aload_n hx hb dX1_compareWith_4 rfl (lv_at hl 1 rfl) ?_
  refine gk_get (ci := 1) (C := RX1) (T := TX1) (N := 2) hx hb hts u_ws_X1 hown hK hH 1 rfl rfl 1 (by decide) u_fl_X1_13 rfl dX1_compareWith_5 ?_
  refine lv_lmul hx hb dX1_compareWith_8 ?_
  refine lv_aload_n hx hb dX1_compareWith_9 rfl (lv_at hl 1 rfl) ?_
  refine gk_get (ci := 1) (C := RX1) (T := TX1) (N := 2) hx hb hts u_ws_X1 hown hK hH 1 rfl rfl 0 (by decide) u_fl_X1_7 rfl dX1_compareWith_10 ?_
  refine lv_aload_n hx hb dX1_compareWith_13 rfl (lv_at hl 0 rfl) ?_
  refine gk_get (ci := 1) (C := RX1) (T := TX1) (N := 2) hx hb hts u_ws_X1 hown hK hH 0 rfl rfl 1 (by decide) u_fl_X1_13 rfl dX1_compareWith_14 ?_
  refine lv_lmul hx hb dX1_compareWith_17 ?_
  obtain ⟨q1, hqq1, h⟩ := dc_bind h
  refine gc_Si (ws' := [(a_t, .inr (1, [.long t_top, .long t_bottom])), (a_p1, .inr (1, [.long p1_top, .long p1_bottom]))]) (As := [.long (t_top * p1_bottom), .long (p1_top * t_bottom)]) (rest := []) (n := 2) hTs ⟨hx, hb, hml, hown, hts⟩ (mJ13_compare_74951 l Ts hTs D k H.size (t_top * p1_bottom) (p1_top * t_bottom) q1 hqq1) u_ml_X1_20 u_st_J13_compare_74951 u_in_J13 u_co_J13_compare_74951 hd_J13_compare_74951 ⟨Nat.le_of_ble_eq_true rfl, Nat.le_of_ble_eq_true rfl⟩ ⟨rfl, rfl⟩ hK hH hA (cut0 (isC := []) rfl rfl rfl) rfl rfl hl.1 (Nat.le_of_ble_eq_true rfl) dX1_compareWith_18 ⟨Nat.le_of_ble_eq_true rfl, Nat.le_of_ble_eq_true rfl⟩ (fun H locs hH => ?_)
  have h := Option.some.inj h
  subst h
  exact ge_i hx hb hr hlocks hQ hK hH hAe rfl dX1_compareWith_21
theorem hd_X6_isBetter : yX6_isBetter.cls ≠ "java/lang/invoke/MethodHandle" ∧ yX6_isBetter.cls ≠ "java/lang/invoke/VarHandle" ∧ (parseMethodDescriptor yX6_isBetter.desc).map (fun d => d.parameters.length) = some 3 := by decide +kernel
set_option maxHeartbeats 4000000 in
set_option maxRecDepth 100000 in
theorem mX6_isBetter (l : Launch) (Ts : List Cond) (hTs : ∀ w, w ∈ Ts ↔ w ∈ uT) (D : va_G) (k : Nat → ClassId) (sz : Nat) (a_p1 : Nat) (a_p2 : Nat) (p1_bottom : Int64) (p1_top : Int64) (p2_bottom : Int64) (p2_top : Int64) (x0 : Int32) (r : Int32) (h : fX6_isBetter p1_bottom p1_top p2_bottom p2_top x0 = some r) : Met l yX6_isBetter (Cond.code yX6_isBetter cX6_isBetter 4 (some .boolean) :: Ts) ({ frames := 2, cells := 0, slots := 0, locals := 44 } : Room) (preM D k [.int x0, .ref a_p1, .ref a_p2] [(a_p1, .inr (1, [.long p1_top, .long p1_bottom])), (a_p2, .inr (1, [.long p2_top, .long p2_bottom]))] sz) (postI D k r [(a_p1, .inr (1, [.long p1_top, .long p1_bottom])), (a_p2, .inr (1, [.long p2_top, .long p2_bottom]))] [(a_p1, .inr (1, [.long p1_top, .long p1_bottom])), (a_p2, .inr (1, [.long p2_top, .long p2_bottom]))] sz) 0 0 (va_A [(a_p1, .inr (1, [.long p1_top, .long p1_bottom])), (a_p2, .inr (1, [.long p2_top, .long p2_bottom]))] sz) := by
  refine Met.ofW (cc := cX6_isBetter) (maxL := 4) (ret := (some .boolean)) (by decide) rfl ?_
  intro p e s m args below meth c s₁ B hml hv
  obtain ⟨rfl, hsz, hP, hK, hD0⟩ := hv
  have hx := B.exec
  have hb := B.bytes
  have hr := B.returns
  have hts0 := atoms_spec (ws := (Cond.code yX6_isBetter cX6_isBetter 4 (some .boolean) :: Ts)) B.pre
  have hts : ∀ w ∈ uT, w.before _ s = true := fun w h => hts0 w (List.mem_cons_of_mem _ ((hTs w).mpr h))
  clear hts0
  have hown : s.vm.findClass RX6 = some m.cls := findClass_of_methodNamed B.named
  have hlocks := B.notSynchronized
  subst hsz
  have hD := hD0.self (sz := s.heap.size)
  generalize hAe : va_A [(a_p1, .inr (1, [.long p1_top, .long p1_bottom])), (a_p2, .inr (1, [.long p2_top, .long p2_bottom]))] s.heap.size = A at hD ⊢
  have hA : ∀ q : Nat, s.heap.size ≤ q → A q := fun q h => by rw [← hAe]; exact Or.inr h
  have hH : HOK D A s.heap [(a_p1, .inr (1, [.long p1_top, .long p1_bottom])), (a_p2, .inr (1, [.long p2_top, .long p2_bottom]))] s.heap [] := ⟨hP, hD, va_S.rf⟩
  have hl := lv_entry ([.int x0, .ref a_p1, .ref a_p2]) (n := 4) (Nat.le_of_ble_eq_true rfl)
  rw [lg_entry_eq]
  generalize (lg_sl ([.int x0, .ref a_p1, .ref a_p2]) ++ List.replicate (4 - (lg_sl ([.int x0, .ref a_p1, .ref a_p2])).length) Slot.unset).toArray = ls at hl ⊢
  have hl : lv_has ls 4 [(0, .int x0), (1, .ref a_p1), (2, .ref a_p2)] := hl
  generalize hQ : MQ below (postI D k r [(a_p1, .inr (1, [.long p1_top, .long p1_bottom])), (a_p2, .inr (1, [.long p2_top, .long p2_bottom]))] [(a_p1, .inr (1, [.long p1_top, .long p1_bottom])), (a_p2, .inr (1, [.long p2_top, .long p2_bottom]))] s.heap.size) (List.toArray [.int x0, .ref a_p1, .ref a_p2]) s 0 0 A = Q
  clear hP hD hD0
  suffices K : ∀ (H : Heap) (locs : List Loc), HOK D A s.heap [(a_p1, .inr (1, [.long p1_top, .long p1_bottom])), (a_p2, .inr (1, [.long p2_top, .long p2_bottom]))] H locs → W p l e ({ frames := 2, cells := 0, slots := 0, locals := 44 } : Room) s m (List.toArray [.int x0, .ref a_p1, .ref a_p2]) below meth c H locs 0 0 Q (F0 m 0 ls []) from K s.heap [] hH
  intro H locs hH
  rw [fX6_isBetter] at h
  refine lv_aload_n hx hb dX6_isBetter_0 rfl (lv_at hl 1 rfl) ?_
  refine lv_aload_n hx hb dX6_isBetter_1 rfl (lv_at hl 2 rfl) ?_
  obtain ⟨q1, hqq1, h⟩ := dc_bind h
  refine gc_Vi (ws' := [(a_p1, .inr (1, [.long p1_top, .long p1_bottom])), (a_p2, .inr (1, [.long p2_top, .long p2_bottom]))]) (As := [.ref a_p2]) (rest := []) (n := 1) (ci := 1) (cq := (RX1, TX1, 2)) hTs ⟨hx, hb, hml, hown, hts⟩ (mX1_compareWith l Ts hTs D k H.size a_p2 a_p1 p2_bottom p2_top p1_bottom p1_top q1 hqq1) u_ml_X6_41 u_im_X1_compareWith u_se_X1_compareWith u_in_X1 u_co_X1_compareWith hd_X1_compareWith ⟨Nat.le_of_ble_eq_true rfl, Nat.le_of_ble_eq_true rfl⟩ ⟨rfl, rfl⟩ hK hH hA (cut0 (isC := [0, 1]) rfl rfl rfl) rfl rfl rfl rfl hl.1 (Nat.le_of_ble_eq_true rfl) dX6_isBetter_2 ⟨Nat.le_of_ble_eq_true rfl, Nat.le_of_ble_eq_true rfl⟩ (fun H locs hH => ?_)
  refine lv_istore_n (lv' := [(3, .int q1), (0, .int x0), (1, .ref a_p1), (2, .ref a_p2)]) hx hb dX6_isBetter_5 rfl hl (by decide) rfl (fun ls hl => ?_)
  refine lv_iload_n hx hb dX6_isBetter_6 rfl (lv_at hl 1 rfl) ?_
  refine lv_if_ne (tgt := 22) hx hb dX6_isBetter_7 (by decide) (fun c2 => ?_) (fun c2 => ?_)
  · replace h := dc_neg c2 h
    refine lv_iload_n hx hb dX6_isBetter_22 rfl (lv_at hl 0 rfl) ?_
    refine lv_if_ge (tgt := 30) hx hb dX6_isBetter_23 (by decide) (fun c4 => ?_) (fun c4 => ?_)
    · replace h := dc_pos c4 h
      refine lv_iconst (v := 0) hx hb dX6_isBetter_30 (by decide) ?_
      have h := Option.some.inj h
      subst h
      exact ge_z hx hb hr rfl hlocks hQ hK hH hAe rfl dX6_isBetter_31
    · replace h := dc_neg c4 h
      refine lv_iconst (v := 1) hx hb dX6_isBetter_26 (by decide) ?_
      refine lv_goto (tgt := 31) hx hb dX6_isBetter_27 (by decide) ?_
      have h := Option.some.inj h
      subst h
      exact ge_z hx hb hr rfl hlocks hQ hK hH hAe rfl dX6_isBetter_31
  · replace h := dc_pos c2 h
    refine lv_iload_n hx hb dX6_isBetter_10 rfl (lv_at hl 0 rfl) ?_
    refine lv_if_le (tgt := 18) hx hb dX6_isBetter_11 (by decide) (fun c3 => ?_) (fun c3 => ?_)
    · replace h := dc_pos c3 h
      refine lv_iconst (v := 0) hx hb dX6_isBetter_18 (by decide) ?_
      refine lv_goto (tgt := 31) hx hb dX6_isBetter_19 (by decide) ?_
      have h := Option.some.inj h
      subst h
      exact ge_z hx hb hr rfl hlocks hQ hK hH hAe rfl dX6_isBetter_31
    · replace h := dc_neg c3 h
      refine lv_iconst (v := 1) hx hb dX6_isBetter_14 (by decide) ?_
      refine lv_goto (tgt := 31) hx hb dX6_isBetter_15 (by decide) ?_
      have h := Option.some.inj h
      subst h
      exact ge_z hx hb hr rfl hlocks hQ hK hH hAe rfl dX6_isBetter_31
theorem hd_X1_copyFrom : yX1_copyFrom.cls = RX1 ∧ yX1_copyFrom.cls ≠ "java/lang/invoke/MethodHandle" ∧ yX1_copyFrom.cls ≠ "java/lang/invoke/VarHandle" ∧ (parseMethodDescriptor yX1_copyFrom.desc).map (fun d => d.parameters.length) = some 1 := by decide +kernel
set_option maxHeartbeats 4000000 in
set_option maxRecDepth 100000 in
theorem mX1_copyFrom (l : Launch) (Ts : List Cond) (hTs : ∀ w, w ∈ Ts ↔ w ∈ uT) (D : va_G) (k : Nat → ClassId) (sz : Nat) (a_p1 : Nat) (a_t : Nat) (p1_bottom : Int64) (p1_top : Int64) (v_t_bottom : Value) (v_t_top : Value) (r : Int64 × Int64) (h : fX1_copyFrom p1_bottom p1_top = some r) : Met l yX1_copyFrom (Cond.code yX1_copyFrom cX1_copyFrom 2 none :: Ts) ({ frames := 0, cells := 0, slots := 0, locals := 0 } : Room) (preM D k [.ref a_t, .ref a_p1] [(a_t, .inr (1, [v_t_top, v_t_bottom])), (a_p1, .inr (1, [.long p1_top, .long p1_bottom]))] sz) (postV D k [(a_t, .inr (1, [v_t_top, v_t_bottom])), (a_p1, .inr (1, [.long p1_top, .long p1_bottom]))] [(a_t, .inr (1, [.long r.2, .long r.1])), (a_p1, .inr (1, [.long p1_top, .long p1_bottom]))] sz) 0 0 (va_A [(a_t, .inr (1, [v_t_top, v_t_bottom])), (a_p1, .inr (1, [.long p1_top, .long p1_bottom]))] sz) := by
  refine Met.ofW (cc := cX1_copyFrom) (maxL := 2) (ret := none) (by decide) rfl ?_
  intro p e s m args below meth c s₁ B hml hv
  obtain ⟨rfl, hsz, hP, hK, hD0⟩ := hv
  have hx := B.exec
  have hb := B.bytes
  have hr := B.returns
  have hts0 := atoms_spec (ws := (Cond.code yX1_copyFrom cX1_copyFrom 2 none :: Ts)) B.pre
  have hts : ∀ w ∈ uT, w.before _ s = true := fun w h => hts0 w (List.mem_cons_of_mem _ ((hTs w).mpr h))
  clear hts0
  have hown : s.vm.findClass RX1 = some m.cls := findClass_of_methodNamed B.named
  have hlocks := B.notSynchronized
  subst hsz
  have hD := hD0.self (sz := s.heap.size)
  generalize hAe : va_A [(a_t, .inr (1, [v_t_top, v_t_bottom])), (a_p1, .inr (1, [.long p1_top, .long p1_bottom]))] s.heap.size = A at hD ⊢
  have hA : ∀ q : Nat, s.heap.size ≤ q → A q := fun q h => by rw [← hAe]; exact Or.inr h
  have hH : HOK D A s.heap [(a_t, .inr (1, [v_t_top, v_t_bottom])), (a_p1, .inr (1, [.long p1_top, .long p1_bottom]))] s.heap [] := ⟨hP, hD, va_S.rf⟩
  have hl := lv_entry ([.ref a_t, .ref a_p1]) (n := 2) (Nat.le_of_ble_eq_true rfl)
  rw [lg_entry_eq]
  generalize (lg_sl ([.ref a_t, .ref a_p1]) ++ List.replicate (2 - (lg_sl ([.ref a_t, .ref a_p1])).length) Slot.unset).toArray = ls at hl ⊢
  have hl : lv_has ls 2 [(0, .ref a_t), (1, .ref a_p1)] := hl
  generalize hQ : MQ below (postV D k [(a_t, .inr (1, [v_t_top, v_t_bottom])), (a_p1, .inr (1, [.long p1_top, .long p1_bottom]))] [(a_t, .inr (1, [.long r.2, .long r.1])), (a_p1, .inr (1, [.long p1_top, .long p1_bottom]))] s.heap.size) (List.toArray [.ref a_t, .ref a_p1]) s 0 0 A = Q
  clear hP hD hD0
  suffices K : ∀ (H : Heap) (locs : List Loc), HOK D A s.heap [(a_t, .inr (1, [v_t_top, v_t_bottom])), (a_p1, .inr (1, [.long p1_top, .long p1_bottom]))] H locs → W p l e ({ frames := 0, cells := 0, slots := 0, locals := 0 } : Room) s m (List.toArray [.ref a_t, .ref a_p1]) below meth c H locs 0 0 Q (F0 m 0 ls []) from K s.heap [] hH
  intro H locs hH
  rw [fX1_copyFrom] at h
  refine lv_aload_n hx hb dX1_copyFrom_0 rfl (lv_at hl 0 rfl) ?_
  refine lv_aload_n hx hb dX1_copyFrom_1 rfl (lv_at hl 1 rfl) ?_
  refine gk_get (ci := 1) (C := RX1) (T := TX1) (N := 2) hx hb hts u_ws_X1 hown hK hH 1 rfl rfl 0 (by decide) u_fl_X1_7 rfl dX1_copyFrom_2 ?_
  refine gk_put (ci := 1) (C := RX1) (T := TX1) (N := 2) hx hb hts u_ws_X1 tyX1_ok nmX1 hown hK hH 0 rfl rfl 0 (by decide) u_fl_X1_7 rfl rfl rfl (Nat.le_of_ble_eq_true rfl) dX1_copyFrom_5 [(a_t, .inr (1, [.long p1_top, v_t_bottom])), (a_p1, .inr (1, [.long p1_top, .long p1_bottom]))] rfl (fun H locs hH => ?_)
  refine lv_aload_n hx hb dX1_copyFrom_8 rfl (lv_at hl 0 rfl) ?_
  refine lv_aload_n hx hb dX1_copyFrom_9 rfl (lv_at hl 1 rfl) ?_
  refine gk_get (ci := 1) (C := RX1) (T := TX1) (N := 2) hx hb hts u_ws_X1 hown hK hH 1 rfl rfl 1 (by decide) u_fl_X1_13 rfl dX1_copyFrom_10 ?_
  refine gk_put (ci := 1) (C := RX1) (T := TX1) (N := 2) hx hb hts u_ws_X1 tyX1_ok nmX1 hown hK hH 0 rfl rfl 1 (by decide) u_fl_X1_13 rfl rfl rfl (Nat.le_of_ble_eq_true rfl) dX1_copyFrom_13 [(a_t, .inr (1, [.long p1_top, .long p1_bottom])), (a_p1, .inr (1, [.long p1_top, .long p1_bottom]))] rfl (fun H locs hH => ?_)
  have h := Option.some.inj h
  subst h
  exact ge_v hx hb hr hlocks hQ hK hH hAe dX1_copyFrom_16
